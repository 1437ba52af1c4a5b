/-! TEXT CONSTANTS: length and charAt of the six words -/
def iJ0_coder_7d493 : Nat → Option (Nat × Nat × Int32 × Nat) := em_tr 15 (fun pc => (bif Nat.blt pc 10 then (bif Nat.blt pc 6 then (bif Nat.beq pc 3 then some (50, 13, 0, 6) else none) else (bif Nat.blt pc 7 then (bif Nat.beq pc 6 then some (8, 0, 0, 7) else none) else (bif Nat.beq pc 7 then some (33, 15, 0, 10) else none))) else (bif Nat.blt pc 13 then (bif Nat.beq pc 10 then some (32, 14, 0, 13) else none) else (bif Nat.blt pc 14 then (bif Nat.beq pc 13 then some (0, 0, 1, 14) else none) else (bif Nat.beq pc 14 then some (83, 0, 0, 15) else none)))))
def mJ0_coder_7d493 : em_Me := ((RJ0, yJ0_coder_7d493, cJ0_coder_7d493, 1, (some .byte)), iJ0_coder_7d493, em_tr 0 (fun _ => none), em_tr 0 (fun _ => none))
theorem rJ0_coder_7d493_0 : em_ckR RJ0 cJ0_coder_7d493 iJ0_coder_7d493 0 15 = true := by decide +kernel
theorem kJ0_coder_7d493 : em_ok mJ0_coder_7d493 := em_okM (N := 15) rfl (fun pc hpc q hq => em_ckR_at rJ0_coder_7d493_0 (Nat.zero_le _) (by omega) hq) (fun _ _ _ h => by cases h) (fun _ _ h => by cases h)
theorem tJ0_coder_7d493 : em_tg mJ0_coder_7d493 0 ∧ Cond.instanceMethod yJ0_coder_7d493 ∈ lw_tbl ∧ Cond.selects RJ0 yJ0_coder_7d493 yJ0_coder_7d493 ∈ lw_tbl := ⟨⟨em_in (k := 632) (by decide +kernel), em_in (k := 14) (by decide +kernel), ⟨by decide +kernel, by decide +kernel⟩, by decide +kernel, by decide +kernel⟩, em_in (k := 630) (by decide +kernel), em_in (k := 631) (by decide +kernel)⟩
def iJ0_isLatin1_aae02 : Nat → Option (Nat × Nat × Int32 × Nat) := em_tr 19 (fun pc => (bif Nat.blt pc 13 then (bif Nat.blt pc 7 then (bif Nat.blt pc 6 then (bif Nat.beq pc 3 then some (50, 17, 0, 6) else none) else (bif Nat.beq pc 6 then some (8, 0, 0, 7) else none)) else (bif Nat.blt pc 10 then (bif Nat.beq pc 7 then some (33, 15, 0, 10) else none) else (bif Nat.beq pc 10 then some (51, 17, 0, 13) else none))) else (bif Nat.blt pc 17 then (bif Nat.blt pc 14 then (bif Nat.beq pc 13 then some (0, 0, 1, 14) else none) else (bif Nat.beq pc 14 then some (32, 18, 0, 17) else none)) else (bif Nat.blt pc 18 then (bif Nat.beq pc 17 then some (0, 0, 0, 18) else none) else (bif Nat.beq pc 18 then some (83, 0, 0, 19) else none)))))
def mJ0_isLatin1_aae02 : em_Me := ((RJ0, yJ0_isLatin1_aae02, cJ0_isLatin1_aae02, 1, (some .boolean)), iJ0_isLatin1_aae02, em_tr 0 (fun _ => none), em_tr 0 (fun _ => none))
theorem rJ0_isLatin1_aae02_0 : em_ckR RJ0 cJ0_isLatin1_aae02 iJ0_isLatin1_aae02 0 19 = true := by decide +kernel
theorem kJ0_isLatin1_aae02 : em_ok mJ0_isLatin1_aae02 := em_okM (N := 19) rfl (fun pc hpc q hq => em_ckR_at rJ0_isLatin1_aae02_0 (Nat.zero_le _) (by omega) hq) (fun _ _ _ h => by cases h) (fun _ _ h => by cases h)
theorem tJ0_isLatin1_aae02 : em_tg mJ0_isLatin1_aae02 0 ∧ Cond.instanceMethod yJ0_isLatin1_aae02 ∈ lw_tbl ∧ Cond.selects RJ0 yJ0_isLatin1_aae02 yJ0_isLatin1_aae02 ∈ lw_tbl := ⟨⟨em_in (k := 642) (by decide +kernel), em_in (k := 14) (by decide +kernel), ⟨by decide +kernel, by decide +kernel⟩, by decide +kernel, by decide +kernel⟩, em_in (k := 640) (by decide +kernel), em_in (k := 641) (by decide +kernel)⟩
def iJ0_length_8abf5 : Nat → Option (Nat × Nat × Int32 × Nat) := em_tr 11 (fun pc => (bif Nat.blt pc 5 then (bif Nat.blt pc 1 then (bif Nat.beq pc 0 then some (8, 0, 0, 1) else none) else (bif Nat.blt pc 4 then (bif Nat.beq pc 1 then some (33, 9, 0, 4) else none) else (bif Nat.beq pc 4 then some (34, 0, 0, 5) else none))) else (bif Nat.blt pc 9 then (bif Nat.blt pc 6 then (bif Nat.beq pc 5 then some (8, 0, 0, 6) else none) else (bif Nat.beq pc 6 then some (81, 335, 0, 9) else none)) else (bif Nat.blt pc 10 then (bif Nat.beq pc 9 then some (24, 0, 0, 10) else none) else (bif Nat.beq pc 10 then some (83, 0, 0, 11) else none)))))
def mJ0_length_8abf5 : em_Me := ((RJ0, yJ0_length_8abf5, cJ0_length_8abf5, 1, (some .int)), iJ0_length_8abf5, em_tr 0 (fun _ => none), em_tr 0 (fun _ => none))
theorem rJ0_length_8abf5_0 : em_ckR RJ0 cJ0_length_8abf5 iJ0_length_8abf5 0 11 = true := by decide +kernel
theorem kJ0_length_8abf5 : em_ok mJ0_length_8abf5 := em_okM (N := 11) rfl (fun pc hpc q hq => em_ckR_at rJ0_length_8abf5_0 (Nat.zero_le _) (by omega) hq) (fun _ _ _ h => by cases h) (fun _ _ h => by cases h)
theorem tJ0_length_8abf5 : em_tg mJ0_length_8abf5 0 ∧ Cond.instanceMethod yJ0_length_8abf5 ∈ lw_tbl ∧ Cond.selects RJ0 yJ0_length_8abf5 yJ0_length_8abf5 ∈ lw_tbl := ⟨⟨em_in (k := 628) (by decide +kernel), em_in (k := 14) (by decide +kernel), ⟨by decide +kernel, by decide +kernel⟩, by decide +kernel, by decide +kernel⟩, em_in (k := 626) (by decide +kernel), em_in (k := 627) (by decide +kernel)⟩
def iJ0_checkIndex_df160 : Nat → Option (Nat × Nat × Int32 × Nat) := em_tr 10 (fun pc => (bif Nat.blt pc 5 then (bif Nat.blt pc 1 then (bif Nat.beq pc 0 then some (4, 0, 0, 1) else none) else (bif Nat.beq pc 1 then some (4, 1, 0, 2) else none)) else (bif Nat.blt pc 9 then (bif Nat.beq pc 5 then some (80, 1059, 0, 8) else none) else (bif Nat.beq pc 9 then some (86, 0, 0, 10) else none))))
def mJ0_checkIndex_df160 : em_Me := ((RJ0, yJ0_checkIndex_df160, cJ0_checkIndex_df160, 2, none), iJ0_checkIndex_df160, em_tr 0 (fun _ => none), em_tr 0 (fun _ => none))
theorem rJ0_checkIndex_df160_0 : em_ckR RJ0 cJ0_checkIndex_df160 iJ0_checkIndex_df160 0 10 = true := by decide +kernel
theorem kJ0_checkIndex_df160 : em_ok mJ0_checkIndex_df160 := em_okM (N := 10) rfl (fun pc hpc q hq => em_ckR_at rJ0_checkIndex_df160_0 (Nat.zero_le _) (by omega) hq) (fun _ _ _ h => by cases h) (fun _ _ h => by cases h)
theorem tJ0_checkIndex_df160 : em_tS mJ0_checkIndex_df160 2 := ⟨⟨em_in (k := 648) (by decide +kernel), em_in (k := 14) (by decide +kernel), ⟨by decide +kernel, by decide +kernel⟩, by decide +kernel, by decide +kernel⟩, em_in (k := 647) (by decide +kernel)⟩
def iJ1_charAt_3b067 : Nat → Option (Nat × Nat × Int32 × Nat) := em_tr 15 (fun pc => (bif Nat.blt pc 7 then (bif Nat.blt pc 2 then (bif Nat.blt pc 1 then (bif Nat.beq pc 0 then some (4, 1, 0, 1) else none) else (bif Nat.beq pc 1 then some (8, 0, 0, 2) else none)) else (bif Nat.blt pc 3 then (bif Nat.beq pc 2 then some (34, 0, 0, 3) else none) else (bif Nat.blt pc 6 then (bif Nat.beq pc 3 then some (80, 9, 0, 6) else none) else (bif Nat.beq pc 6 then some (8, 0, 0, 7) else none)))) else (bif Nat.blt pc 9 then (bif Nat.blt pc 8 then (bif Nat.beq pc 7 then some (4, 1, 0, 8) else none) else (bif Nat.beq pc 8 then some (63, 0, 0, 9) else none)) else (bif Nat.blt pc 12 then (bif Nat.beq pc 9 then some (2, 0, 255, 12) else none) else (bif Nat.blt pc 14 then (bif Nat.beq pc 12 then some (20, 0, 0, 13) else none) else (bif Nat.beq pc 14 then some (83, 0, 0, 15) else none))))))
def mJ1_charAt_3b067 : em_Me := ((RJ1, yJ1_charAt_3b067, cJ1_charAt_3b067, 2, (some .char)), iJ1_charAt_3b067, em_tr 0 (fun _ => none), em_tr 0 (fun _ => none))
theorem rJ1_charAt_3b067_0 : em_ckR RJ1 cJ1_charAt_3b067 iJ1_charAt_3b067 0 15 = true := by decide +kernel
theorem kJ1_charAt_3b067 : em_ok mJ1_charAt_3b067 := em_okM (N := 15) rfl (fun pc hpc q hq => em_ckR_at rJ1_charAt_3b067_0 (Nat.zero_le _) (by omega) hq) (fun _ _ _ h => by cases h) (fun _ _ h => by cases h)
theorem tJ1_charAt_3b067 : em_tS mJ1_charAt_3b067 2 := ⟨⟨em_in (k := 645) (by decide +kernel), em_in (k := 15) (by decide +kernel), ⟨by decide +kernel, by decide +kernel⟩, by decide +kernel, by decide +kernel⟩, em_in (k := 644) (by decide +kernel)⟩
def iJ0_charAt_5068e : Nat → Option (Nat × Nat × Int32 × Nat) := em_tr 25 (fun pc => (bif Nat.blt pc 12 then (bif Nat.blt pc 7 then (bif Nat.blt pc 1 then (bif Nat.beq pc 0 then some (8, 0, 0, 1) else none) else (bif Nat.blt pc 4 then (bif Nat.beq pc 1 then some (81, 492, 0, 4) else none) else (bif Nat.beq pc 4 then some (50, 16, 0, 7) else none))) else (bif Nat.blt pc 8 then (bif Nat.beq pc 7 then some (8, 0, 0, 8) else none) else (bif Nat.blt pc 11 then (bif Nat.beq pc 8 then some (33, 9, 0, 11) else none) else (bif Nat.beq pc 11 then some (4, 1, 0, 12) else none)))) else (bif Nat.blt pc 17 then (bif Nat.blt pc 15 then (bif Nat.beq pc 12 then some (80, 495, 0, 15) else none) else (bif Nat.blt pc 16 then (bif Nat.beq pc 15 then some (83, 0, 0, 16) else none) else (bif Nat.beq pc 16 then some (8, 0, 0, 17) else none))) else (bif Nat.blt pc 21 then (bif Nat.blt pc 20 then (bif Nat.beq pc 17 then some (33, 9, 0, 20) else none) else (bif Nat.beq pc 20 then some (4, 1, 0, 21) else none)) else (bif Nat.blt pc 24 then (bif Nat.beq pc 21 then some (80, 498, 0, 24) else none) else (bif Nat.beq pc 24 then some (83, 0, 0, 25) else none))))))
def mJ0_charAt_5068e : em_Me := ((RJ0, yJ0_charAt_5068e, cJ0_charAt_5068e, 2, (some .char)), iJ0_charAt_5068e, em_tr 0 (fun _ => none), em_tr 0 (fun _ => none))
theorem rJ0_charAt_5068e_0 : em_ckR RJ0 cJ0_charAt_5068e iJ0_charAt_5068e 0 25 = true := by decide +kernel
theorem kJ0_charAt_5068e : em_ok mJ0_charAt_5068e := em_okM (N := 25) rfl (fun pc hpc q hq => em_ckR_at rJ0_charAt_5068e_0 (Nat.zero_le _) (by omega) hq) (fun _ _ _ h => by cases h) (fun _ _ h => by cases h)
theorem tJ0_charAt_5068e : em_tg mJ0_charAt_5068e 1 ∧ Cond.instanceMethod yJ0_charAt_5068e ∈ lw_tbl ∧ Cond.selects RJ0 yJ0_charAt_5068e yJ0_charAt_5068e ∈ lw_tbl := ⟨⟨em_in (k := 638) (by decide +kernel), em_in (k := 14) (by decide +kernel), ⟨by decide +kernel, by decide +kernel⟩, by decide +kernel, by decide +kernel⟩, em_in (k := 636) (by decide +kernel), em_in (k := 637) (by decide +kernel)⟩
def iJ3_checkIndex_8e157 : Nat → Option (Nat × Nat × Int32 × Nat) := em_tr 18 (fun pc => (bif Nat.blt pc 9 then (bif Nat.blt pc 4 then (bif Nat.blt pc 1 then (bif Nat.beq pc 0 then some (4, 0, 0, 1) else none) else (bif Nat.beq pc 1 then some (52, 9, 0, 4) else none)) else (bif Nat.blt pc 5 then (bif Nat.beq pc 4 then some (4, 0, 0, 5) else none) else (bif Nat.blt pc 6 then (bif Nat.beq pc 5 then some (4, 1, 0, 6) else none) else (bif Nat.beq pc 6 then some (58, 16, 0, 9) else none)))) else (bif Nat.blt pc 12 then (bif Nat.blt pc 10 then (bif Nat.beq pc 9 then some (8, 2, 0, 10) else none) else (bif Nat.blt pc 11 then (bif Nat.beq pc 10 then some (4, 0, 0, 11) else none) else (bif Nat.beq pc 11 then some (4, 1, 0, 12) else none))) else (bif Nat.blt pc 16 then (bif Nat.beq pc 12 then some (80, 95, 0, 15) else none) else (bif Nat.blt pc 17 then (bif Nat.beq pc 16 then some (4, 0, 0, 17) else none) else (bif Nat.beq pc 17 then some (83, 0, 0, 18) else none))))))
def mJ3_checkIndex_8e157 : em_Me := ((RJ3, yJ3_checkIndex_8e157, cJ3_checkIndex_8e157, 3, (some .int)), iJ3_checkIndex_8e157, em_tr 0 (fun _ => none), em_tr 0 (fun _ => none))
theorem rJ3_checkIndex_8e157_0 : em_ckR RJ3 cJ3_checkIndex_8e157 iJ3_checkIndex_8e157 0 18 = true := by decide +kernel
theorem kJ3_checkIndex_8e157 : em_ok mJ3_checkIndex_8e157 := em_okM (N := 18) rfl (fun pc hpc q hq => em_ckR_at rJ3_checkIndex_8e157_0 (Nat.zero_le _) (by omega) hq) (fun _ _ _ h => by cases h) (fun _ _ h => by cases h)
theorem tJ3_checkIndex_8e157 : em_tS mJ3_checkIndex_8e157 3 := ⟨⟨em_in (k := 653) (by decide +kernel), em_in (k := 16) (by decide +kernel), ⟨by decide +kernel, by decide +kernel⟩, by decide +kernel, by decide +kernel⟩, em_in (k := 652) (by decide +kernel)⟩
theorem lJ0_335 : em_lk1 RJ0 335 yJ0_coder_7d493 := Or.inl (em_in (k := 629) (by decide +kernel))
theorem lJ0_492 : em_lk1 RJ0 492 yJ0_isLatin1_aae02 := Or.inl (em_in (k := 639) (by decide +kernel))
theorem lJ0_495 : em_lk1 RJ0 495 yJ1_charAt_3b067 := Or.inl (em_in (k := 643) (by decide +kernel))
theorem lJ0_1059 : em_lk1 RJ0 1059 yJ3_checkIndex_8e157 := Or.inl (em_in (k := 651) (by decide +kernel))
theorem lJ1_9 : em_lk1 RJ1 9 yJ0_checkIndex_df160 := Or.inl (em_in (k := 646) (by decide +kernel))
theorem lX5_43 : em_lk1 RX5 43 yJ0_length_8abf5 := Or.inl (em_in (k := 625) (by decide +kernel))
theorem lX5_63 : em_lk1 RX5 63 yJ0_charAt_5068e := Or.inl (em_in (k := 635) (by decide +kernel))
theorem lX8_199 : em_lk1 RX8 199 yJ0_length_8abf5 := Or.inl (em_in (k := 1149) (by decide +kernel))
theorem lX8_205 : em_lk1 RX8 205 yJ0_charAt_5068e := Or.inl (em_in (k := 1150) (by decide +kernel))
theorem hJ0_9 : Cond.fieldLink RJ0 9 "java/lang/String" "value" "[B" ∈ lw_tbl := em_in (k := 1209) (by decide +kernel)
theorem hJ0_15 : Cond.fieldLink RJ0 15 "java/lang/String" "coder" "B" ∈ lw_tbl := em_in (k := 1210) (by decide +kernel)
theorem hJ0_38 : Cond.fieldLink RJ0 38 "java/lang/String" "COMPACT_STRINGS" "Z" ∈ lw_tbl := em_in (k := 633) (by decide +kernel)
theorem hJ0_1053 : Cond.fieldLink RJ0 1053 "jdk/internal/util/Preconditions" "SIOOBE_FORMATTER" "Ljava/util/function/BiFunction;" ∈ lw_tbl := em_in (k := 649) (by decide +kernel)

section EmStr
variable {Γ : em_Cx} {K K' : Nat} {μ μ' : em_Me} {hp0 : em_Hp} {fin : Option Value × em_Hp} {pc a nx n : Nat} {lc : List (Nat × Value)} {st t av : List Value} {hp hp' : em_Hp} {r : Option Value}
theorem em_sS {Γ : em_Cx} {hp : em_Hp} {s : State} {H : Heap} {locs : List Loc} (hG : em_G Γ s) (hW : em_W Γ hp H) (hlo : ∀ q ∈ locs, em_A Γ q.base) (q : Nat) (hq : q < (em_h Γ).size) (hA : ¬ em_A Γ q) : H[q]? = (em_h Γ)[q]? := hW.2.1 q (Nat.not_le.mp hA)
/-- COMPACT_STRINGS -/
theorem em_getZ (hown0 : em_own μ = RJ0) (hdec : decode (em_c μ) pc = .ok (.getstatic 38, 3)) (kk : em_EW Γ K μ hp0 fin (pc + 3) lc (.int 1 :: st) hp) : em_EW Γ K μ hp0 fin pc lc st hp := by
  intro p e s m args below meth c hx hb hr hlk hml hown hnm hG hs H locs cells slots ls hW hlo hcl hsl hl
  obtain ⟨-, g0, g1, g2, g3, g4, -⟩ := hG.2.2
  obtain ⟨cf, kf, fi, f, a1, cell, w1, w2, w3, w4, w5, w6, w7, w8⟩ := g4
  have hown' := hown
  rw [hown0] at hown'
  exact W.gets hx hb hown' (hG.1 _ hJ0_38 rfl args) w1 w2 w3 w4 (by rw [hW.2.1 a1 (Nat.not_le.mp w8)]; exact w5) (fun e => by rw [e] at w6; cases w6) w7 rfl hdec (kk p e s m args below meth c hx hb hr hlk hml hown hnm hG hs H locs cells slots ls hW hlo hcl hsl hl)
/-- a word's coder and its row of bytes -/
theorem em_getC {i : Nat} {u : UInt32} (hok : em_ok μ) (hown0 : em_own μ = RJ0) (h : em_at1 33 μ pc = some (15, nx)) (hi6 : i < 6) (hu : u.toNat = 1 + i) (kk : em_EW Γ K μ hp0 fin nx lc (.int 0 :: t) hp) : em_EW Γ K μ hp0 fin pc lc (.float u :: t) hp := by
  obtain ⟨b, hi⟩ := em_at1_i h
  obtain ⟨ii, len, hd, hdec, hnx⟩ := hok.dec hi
  subst hnx
  cases hd
  intro p e s m args below meth c hx hb hr hlk hml hown hnm hG hs H locs cells slots ls hW hlo hcl hsl hl
  obtain ⟨-, g0, g1, g2, g3, -⟩ := hG.2.2
  obtain ⟨cf, k, fi, f, cell, w1, w2, w3, w4, w5, w6⟩ := (g3.1 i hi6).2.1
  have hown' := hown
  rw [hown0] at hown'
  have e0 : em_v Γ (.float u) = .ref (em_x Γ (1 + i)) := by show Value.ref (em_x Γ u.toNat) = _; rw [hu]
  refine W.getf (v := .int 0) (a := em_x Γ (1 + i)) hx hb hown' (hG.1 _ hJ0_15 rfl args) w1 w2 (by rw [hW.2.1 _ (Nat.not_le.mp w6)]; exact w3) w4 w5 rfl (rest := t.map (em_v Γ)) (by show List.map _ _ = _; rw [List.map_cons, e0]) hdec ?_
  exact kk p e s m args below meth c hx hb hr hlk hml hown hnm hG hs H locs cells slots ls hW hlo hcl hsl hl
theorem em_getV {i : Nat} {u v : UInt32} (hok : em_ok μ) (hown0 : em_own μ = RJ0) (h : em_at1 33 μ pc = some (9, nx)) (hi6 : i < 6) (hu : u.toNat = 1 + i) (hv : v.toNat = 7 + i) (kk : em_EW Γ K μ hp0 fin nx lc (.float v :: t) hp) : em_EW Γ K μ hp0 fin pc lc (.float u :: t) hp := by
  obtain ⟨b, hi⟩ := em_at1_i h
  obtain ⟨ii, len, hd, hdec, hnx⟩ := hok.dec hi
  subst hnx
  cases hd
  intro p e s m args below meth c hx hb hr hlk hml hown hnm hG hs H locs cells slots ls hW hlo hcl hsl hl
  obtain ⟨-, g0, g1, g2, g3, -⟩ := hG.2.2
  obtain ⟨cf, k, fi, f, cell, w1, w2, w3, w4, w5, w6⟩ := (g3.1 i hi6).2.2.1
  have hown' := hown
  rw [hown0] at hown'
  have e0 : em_v Γ (.float u) = .ref (em_x Γ (1 + i)) := by show Value.ref (em_x Γ u.toNat) = _; rw [hu]
  have e1 : em_v Γ (.float v) = .ref (em_x Γ (7 + i)) := by show Value.ref (em_x Γ v.toNat) = _; rw [hv]
  have k0 := kk p e s m args below meth c hx hb hr hlk hml hown hnm hG hs H locs cells slots ls hW hlo hcl hsl hl
  rw [List.map_cons, e1] at k0
  refine W.getf (v := .ref (em_x Γ (7 + i))) (a := em_x Γ (1 + i)) hx hb hown' (hG.1 _ hJ0_9 rfl args) w1 w2 (by rw [hW.2.1 _ (Nat.not_le.mp w6)]; exact w3) w4 w5 rfl (rest := t.map (em_v Γ)) (by show List.map _ _ = _; rw [List.map_cons, e0]) hdec ?_
  exact k0
theorem em_lenV {i : Nat} {v : UInt32} (hok : em_ok μ) (h : em_at1 34 μ pc = some (a, nx)) (hi6 : i < 6) (hv : v.toNat = 7 + i) (kk : em_EW Γ K μ hp0 fin nx lc (.int (nI (em_tl.getD i 0)) :: t) hp) : em_EW Γ K μ hp0 fin pc lc (.float v :: t) hp := by
  obtain ⟨b, hi⟩ := em_at1_i h
  obtain ⟨ii, len, hd, hdec, hnx⟩ := hok.dec hi
  subst hnx
  cases hd
  intro p e s m args below meth c hx hb hr hlk hml hown hnm hG hs H locs cells slots ls hW hlo hcl hsl hl
  obtain ⟨-, g0, g1, g2, g3, -⟩ := hG.2.2
  obtain ⟨cell, w1, w2, w3, w4, w5, w6, w7⟩ := (g3.1 i hi6).2.2.2
  have e1 : em_v Γ (.float v) = .ref (em_x Γ (7 + i)) := by show Value.ref (em_x Γ v.toNat) = _; rw [hv]
  refine W.alen (n := nI (em_tl.getD i 0)) hx hb (a := em_x Γ (7 + i)) (by rw [hW.2.1 _ (Nat.not_le.mp w7)]; exact w1) w2 w5 rfl (rest := t.map (em_v Γ)) (by show List.map _ _ = _; rw [List.map_cons, e1]) hdec ?_
  exact kk p e s m args below meth c hx hb hr hlk hml hown hnm hG hs H locs cells slots ls hW hlo hcl hsl hl
theorem em_ldV {i j : Nat} {v : UInt32} (hok : em_ok μ) (h : em_at1 63 μ pc = some (a, nx)) (hi6 : i < 6) (hv : v.toNat = 7 + i) (hj : j < em_tl.getD i 0) (hj2 : em_tl.getD i 0 < 100) (kk : em_EW Γ K μ hp0 fin nx lc (.int ((em_tb.getD i []).getD j 0) :: t) hp) : em_EW Γ K μ hp0 fin pc lc (.int (nI j) :: .float v :: t) hp := by
  obtain ⟨b, hi⟩ := em_at1_i h
  obtain ⟨ii, len, hd, hdec, hnx⟩ := hok.dec hi
  subst hnx
  cases hd
  intro p e s m args below meth c hx hb hr hlk hml hown hnm hG hs H locs cells slots ls hW hlo hcl hsl hl
  obtain ⟨-, g0, g1, g2, g3, -⟩ := hG.2.2
  obtain ⟨cell, w1, w2, w3, w4, w5, w6, w7⟩ := (g3.1 i hi6).2.2.2
  have e1 : em_v Γ (.float v) = .ref (em_x Γ (7 + i)) := by show Value.ref (em_x Γ v.toNat) = _; rw [hv]
  have hcl2 : (nI j).toNatClampNeg = j := nI_clamp (by omega)
  refine W.bald (v := .int ((em_tb.getD i []).getD j 0)) hx hb (a := em_x Γ (7 + i)) (by rw [hW.2.1 _ (Nat.not_le.mp w7)]; exact w1) w2 w3 (j := nI j) (by
    rw [hcl2]
    rintro (q | q)
    · exact nI_pos (by omega) q
    · omega) (by rw [hcl2]; exact w6 j hj) rfl (rest := t.map (em_v Γ)) (by show List.map _ _ = _; rw [List.map_cons, List.map_cons, e1]; rfl) hdec ?_
  exact kk p e s m args below meth c hx hb hr hlk hml hown hnm hG hs H locs cells slots ls hW hlo hcl hsl hl
/-- an instance method of a word -/
theorem em_callW {i : Nat} {u : UInt32} (hok : em_ok μ) (h : em_at1 81 μ pc = some (a, nx)) (hlk1 : em_lk1 (em_own μ) a (em_y μ')) (ht : em_tg μ' n ∧ Cond.instanceMethod (em_y μ') ∈ lw_tbl ∧ Cond.selects RJ0 (em_y μ') (em_y μ') ∈ lw_tbl) (hi6 : i < 6) (hu : u.toNat = 1 + i) (hM : em_MC Γ K' μ' (.float u :: av) hp r hp') (hst : st = av.reverse ++ .float u :: t) (hn : av.length = n) (hK : K' + 1 ≤ K) (hcat : em_cats t ≤ 8) (f1 : em_n hp' ≤ em_n fin.2) (f2 : em_m hp' ≤ em_m fin.2) (kk : em_EW Γ K μ hp0 fin nx lc (r.toList ++ t) hp') : em_EW Γ K μ hp0 fin pc lc st hp := by
  obtain ⟨b, hi⟩ := em_at1_i h
  obtain ⟨ii, len, hd, hdec, hnx⟩ := hok.dec hi
  subst hnx
  cases hd
  subst hst
  obtain ⟨h1, h2, hMet⟩ := hM
  obtain ⟨ht1, ht2, hsel⟩ := ht
  intro p e s m args below meth c hx hb hr hlk hml hown hnm hG hs H locs cells slots ls hW hlo hcl hsl hl
  have e0 : em_v Γ (.float u) = .ref (em_x Γ (1 + i)) := by show Value.ref (em_x Γ u.toNat) = _; rw [hu]
  have hrecv : ∃ cellB : Cell, H[em_x Γ (1 + i)]? = some cellB ∧ cellB.vm.isStatics = false ∧ s.vm.findClass RJ0 = some cellB.cls := by
    obtain ⟨-, g0, g1, g2, g3, -⟩ := hG.2.2
    obtain ⟨cell, w1, w2, w3, w4⟩ := (g3.1 i hi6).1
    exact ⟨cell, by rw [hW.2.1 _ (Nat.not_le.mp w4)]; exact w1, w2, w3⟩
  have hPre : PreV s H RJ0 (em_x Γ (1 + i)) (em_Pc Γ (.float u :: av) hp) (av.map (em_v Γ)) := ⟨em_blind Γ _ hp, hrecv, fun U hU hWU => ⟨by rw [List.map_cons, e0], em_G_warm hWU hG, by rw [hU]; exact hW⟩⟩
  have hW8 : 2 * (F0 m pc ls ((av.reverse ++ .float u :: t).map (em_v Γ))).monitorRoom + ((t.map (em_v Γ)).map fun v => v.category).sum ≤ 8 := lv_room (by rw [em_sums]; exact hcat)
  have hlen : (av.map (em_v Γ)).length = n := by rw [List.length_map]; exact hn
  have hstk : ((av.reverse ++ .float u :: t).map (em_v Γ)) = (av.map (em_v Γ)).reverse ++ .ref (em_x Γ (1 + i)) :: t.map (em_v Γ) := by rw [em_rev, List.map_cons, e0]
  rcases hlk1 with hl1 | ⟨host, hl1⟩
  · exact em_goes hx hb hr hlk hml hown hnm hG hs hlo hcl hsl hl (by omega) (by omega) (va_runV (Ts := []) (C := RJ0) ⟨hx, hb, hml, hown, fun _ h => by cases h⟩ hMet ⟨em_tg_cb hG ht1 hK a hl1, hG.1 _ ht2 rfl args, hG.1 _ hsel rfl args⟩ hPre rfl hlen hl.1 hstk hW8 hdec (em_fit h1 h2 f1 f2 hcl hsl)) kk
  · exact em_goes hx hb hr hlk hml hown hnm hG hs hlo hcl hsl hl (by omega) (by omega) (va_runVN (Ts := []) (C := RJ0) ⟨hx, hb, hml, hown, fun _ h => by cases h⟩ hMet ⟨em_tg_cn hG ht1 hK a hl1, hG.1 _ ht2 rfl args, hG.1 _ hsel rfl args⟩ hPre rfl hlen hl.1 hstk hW8 hdec (em_fit h1 h2 f1 f2 hcl hsl)) kk
end EmStr
theorem s_coder (Γ : em_Cx) (hp : em_Hp) {i : Nat} {u : UInt32} (hi6 : i < 6) (hu : u.toNat = 1 + i) : em_MC Γ 0 mJ0_coder_7d493 [.float u] hp (some (.int 0)) hp := by
  refine em_MC_of (Nat.le_refl _) (Nat.le_refl _) (by decide +kernel) rfl (Nat.le_of_ble_eq_true rfl) ?_
  refine em_getZ rfl (by decide +kernel) ?_
  refine em_branch kJ0_coder_7d493 rfl (fun h => absurd h (by decide)) (fun _ => ?_)
  (repeat (refine em_pure (Nat.zero_le _) kJ0_coder_7d493 rfl ?_))
  refine em_getC kJ0_coder_7d493 rfl rfl hi6 hu ?_
  (repeat (refine em_pure (Nat.zero_le _) kJ0_coder_7d493 rfl ?_))
  exact em_iret kJ0_coder_7d493 rfl rfl rfl rfl
theorem s_isLatin1 (Γ : em_Cx) (hp : em_Hp) {i : Nat} {u : UInt32} (hi6 : i < 6) (hu : u.toNat = 1 + i) : em_MC Γ 0 mJ0_isLatin1_aae02 [.float u] hp (some (.int 1)) hp := by
  refine em_MC_of (Nat.le_refl _) (Nat.le_refl _) (by decide +kernel) rfl (Nat.le_of_ble_eq_true rfl) ?_
  refine em_getZ rfl (by decide +kernel) ?_
  refine em_branch kJ0_isLatin1_aae02 rfl (fun h => absurd h (by decide)) (fun _ => ?_)
  (repeat (refine em_pure (Nat.zero_le _) kJ0_isLatin1_aae02 rfl ?_))
  refine em_getC kJ0_isLatin1_aae02 rfl rfl hi6 hu ?_
  refine em_branch kJ0_isLatin1_aae02 rfl (fun h => absurd rfl h) (fun _ => ?_)
  (repeat (refine em_pure (Nat.zero_le _) kJ0_isLatin1_aae02 rfl ?_))
  exact em_iret kJ0_isLatin1_aae02 rfl rfl rfl rfl
theorem s_length (Γ : em_Cx) (hp : em_Hp) {i : Nat} {u : UInt32} (hi6 : i < 6) (hu : u.toNat = 1 + i) : em_MC Γ 1 mJ0_length_8abf5 [.float u] hp (some (.int (nI (em_tl.getD i 0)))) hp := by
  obtain ⟨v, hv⟩ : ∃ v : UInt32, v.toNat = 7 + i := ⟨UInt32.ofNat (7 + i), by simp [UInt32.toNat_ofNat']; omega⟩
  refine em_MC_of (Nat.le_refl _) (Nat.le_refl _) (by decide +kernel) rfl (Nat.le_of_ble_eq_true rfl) ?_
  (repeat (refine em_pure (Nat.zero_le _) kJ0_length_8abf5 rfl ?_))
  refine em_getV kJ0_length_8abf5 rfl rfl hi6 hu hv ?_
  refine em_lenV kJ0_length_8abf5 rfl hi6 hv ?_
  (repeat (refine em_pure (Nat.zero_le _) kJ0_length_8abf5 rfl ?_))
  refine em_callW (μ' := mJ0_coder_7d493) kJ0_length_8abf5 rfl lJ0_335 tJ0_coder_7d493 hi6 hu (s_coder Γ hp hi6 hu) rfl rfl (by decide) (Nat.le_of_ble_eq_true rfl) (Nat.le_refl _) (Nat.le_refl _) ?_
  (repeat (refine em_pure (Nat.zero_le _) kJ0_length_8abf5 rfl ?_))
  have key : ∀ i, i < 6 → nI (em_tl.getD i 0) >>> ((0 : Int32) &&& 31) = nI (em_tl.getD i 0) := by decide +kernel
  exact em_iret kJ0_length_8abf5 rfl rfl rfl (congrArg (fun z => (some (Value.int z), hp)) (key i hi6).symm)

