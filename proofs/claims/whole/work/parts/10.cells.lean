/-! NEW CELLS, COPIES, SWITCHES, THE SCRIPT, THE WORDS -/
theorem em_cats1 {Γ : em_Cx} {t : List Value} : ((t.map (em_v Γ)).map fun v => v.category).sum = em_cats t := em_sums Γ t
theorem em_obj1 : Cond.instanceMethod objectInit ∈ lw_tbl := by decide +kernel
theorem em_obj2 : Cond.code objectInit ⟨#[0xb1]⟩ 1 none ∈ lw_tbl := by decide +kernel
theorem em_tys3 {c : Nat} {r : vw_C} (h : vwCl[c]? = some r) : ∀ j, j < r.2.2 → em_ty c j = .int ∨ (∃ n, em_ty c j = .object n) ∨ ∃ n, em_ty c j = .array n := by
  have key : ∀ c, c < 9 → ∀ j, j < 44 → (match em_ty c j with
    | .int => true
    | .object _ => true
    | .array _ => true
    | _ => false) = true := by decide +kernel
  have hc : c < 9 := by
    have := (List.getElem?_eq_some_iff.mp h).1
    exact this
  have hr : r.2.2 ≤ 44 := by
    rw [← em_nf_ok h]
    rcases (show c = 0 ∨ c = 1 ∨ c = 2 ∨ c = 3 ∨ c = 4 ∨ c = 5 ∨ c = 6 ∨ c = 7 ∨ c = 8 by omega) with rfl | rfl | rfl | rfl | rfl | rfl | rfl | rfl | rfl <;> decide
  intro j hj
  have hk := key c hc j (by omega)
  split at hk
  · exact Or.inl (by assumption)
  · exact Or.inr (Or.inl ⟨_, by assumption⟩)
  · exact Or.inr (Or.inr ⟨_, by assumption⟩)
  · cases hk
section EmCells
variable {Γ : em_Cx} {K : Nat} {μ : em_Me} {hp0 : em_Hp} {fin : Option Value × em_Hp} {pc a nx : Nat} {b : Int32} {lc : List (Nat × Value)} {st t : List Value} {hp hp' : em_Hp}
/-- a heap with one cell more, of N slots: what was there stays -/
def em_gr (hp hp' : em_Hp) (N : Nat) : Prop := em_n hp' = em_n hp + 1 ∧ em_m hp' = em_m hp + N ∧ (∀ j, j < em_n hp → em_ln hp' j = em_ln hp j) ∧ (∀ j, j < em_n hp → em_I hp' j = em_I hp j) ∧ (∀ j, j < em_n hp → em_J hp' j = em_J hp j) ∧ ∀ j, j < em_n hp → em_R hp' j = em_R hp j
theorem em_newa {ty : FieldType} {at1 : ArrayType} {op N : Nat} (hok : em_ok μ) (hop : (op = 76 ∧ at1 = .int ∧ ty = .int) ∨ (op = 77 ∧ at1 = .long ∧ ty = .long) ∨ (op = 78 ∧ at1 = .boolean ∧ ty = .boolean)) (h : em_at1 op μ pc = some (a, nx)) (hgr : em_gr hp hp' N) (hN : N < 100000) (hl0 : em_ln hp' (em_n hp) = N)
    (hkd : (op = 76 ∧ em_k (em_n hp) = 9 ∧ ∀ j, em_I hp' (em_n hp) j = 0) ∨ (op = 77 ∧ em_k (em_n hp) = 10 ∧ ∀ j, em_J hp' (em_n hp) j = 0) ∨ (op = 78 ∧ em_k (em_n hp) = 11 ∧ ∀ j, em_I hp' (em_n hp) j = 0)) (hac : Cond.arrayClass ty ∈ lw_tbl) (f1 : em_n hp' ≤ em_n fin.2) (f2 : em_m hp' ≤ em_m fin.2) (kk : em_EW Γ K μ hp0 fin nx lc (.ref (em_n hp) :: t) hp') : em_EW Γ K μ hp0 fin pc lc (.int (nI N) :: t) hp := by
  obtain ⟨b, hi⟩ := em_at1_i h
  obtain ⟨ii, len, hd, hdec, hnx⟩ := hok.dec hi
  subst hnx
  obtain ⟨q1, q2, q3, q4, q5, q6⟩ := hgr
  have hd2 : ii = .newarray at1 ∧ len = 2 := by rcases hop with ⟨rfl, rfl, rfl⟩ | ⟨rfl, rfl, rfl⟩ | ⟨rfl, rfl, rfl⟩ <;> (cases hd; exact ⟨rfl, rfl⟩)
  obtain ⟨rfl, rfl⟩ := hd2
  have hty : newarray.typeOf at1 = ty := by rcases hop with ⟨rfl, rfl, rfl⟩ | ⟨rfl, rfl, rfl⟩ | ⟨rfl, rfl, rfl⟩ <;> rfl
  have hby : componentBytes ty ≤ 8 := by rcases hop with ⟨rfl, rfl, rfl⟩ | ⟨rfl, rfl, rfl⟩ | ⟨rfl, rfl, rfl⟩ <;> decide
  intro p e s m args below meth c hx hb hr hlk hml hown hnm hG hs H locs cells slots ls hW hlo hcl hsl hl
  refine va_newaK hx hb (atype := at1) (by rw [hty]; exact hG.1 _ hac rfl args) rfl hdec rfl (nI_pos (by omega)) (nI_clamp (by omega)) (by
    rw [hty]
    have := Nat.mul_le_mul (Nat.le_of_lt hN) hby
    omega) (show cells + 1 ≤ em_n fin.2 - em_n hp0 by omega) (show slots + N ≤ em_m fin.2 - em_m hp0 by omega) (h := em_z Γ + em_n hp) hW.1 fun H1 cA e1 z1 o1 hAr hNm => ?_
  refine kk p e s m args below meth c hx hb hr hlk hml hown hnm hG hs H1 locs (cells + 1) (slots + N) ls (em_W_push hW q1 q3 q4 q5 q6 (by rw [z1, hW.1]) (fun q hq => o1 q (by rw [← hW.1]; exact hq)) ?_) hlo (by omega) (by omega) hl
  rcases hop with ⟨rfl, rfl, rfl⟩ | ⟨rfl, rfl, rfl⟩ | ⟨rfl, rfl, rfl⟩
  · rcases hkd with ⟨-, k1, k2⟩ | ⟨h9, -⟩ | ⟨h9, -⟩
    · have hc : cA = em_cI Γ := Option.some.inj (hNm.symm.trans (hG.2.1.2 0 _ rfl).2)
      rw [em_cl_9 k1, e1, hl0, hc]
      congr 2
      funext j
      rw [k2 j]
      rfl
    · cases h9
    · cases h9
  · rcases hkd with ⟨h9, -⟩ | ⟨-, k1, k2⟩ | ⟨h9, -⟩
    · cases h9
    · have hc : cA = em_cJ Γ := Option.some.inj (hNm.symm.trans (hG.2.1.2 1 _ rfl).2)
      rw [em_cl_10 k1, e1, hl0, hc]
      congr 2
      funext j
      rw [k2 j]
      rfl
    · cases h9
  · rcases hkd with ⟨h9, -⟩ | ⟨h9, -⟩ | ⟨-, k1, k2⟩
    · cases h9
    · cases h9
    · have hc : cA = em_cZ Γ := Option.some.inj (hNm.symm.trans (hG.2.1.2 2 _ rfl).2)
      rw [em_cl_11 k1, e1, hl0, hc]
      congr 2
      funext j
      rw [k2 j]
      rfl
theorem em_anew {N : Nat} (hok : em_ok μ) (h : em_at1 79 μ pc = some (a, nx)) (hgr : em_gr hp hp' N) (hN : N < 100000) (hl0 : em_ln hp' (em_n hp) = N) (k1 : em_k (em_n hp) = 12) (k2 : ∀ j, em_R hp' (em_n hp) j = none) (hcl0 : Cond.classLink (em_own μ) a "BeastRoad$Law" ∈ lw_tbl) (f1 : em_n hp' ≤ em_n fin.2) (f2 : em_m hp' ≤ em_m fin.2) (kk : em_EW Γ K μ hp0 fin nx lc (.ref (em_n hp) :: t) hp') : em_EW Γ K μ hp0 fin pc lc (.int (nI N) :: t) hp := by
  obtain ⟨b, hi⟩ := em_at1_i h
  obtain ⟨ii, len, hd, hdec, hnx⟩ := hok.dec hi
  subst hnx
  cases hd
  obtain ⟨q1, q2, q3, q4, q5, q6⟩ := hgr
  intro p e s m args below meth c hx hb hr hlk hml hown hnm hG hs H locs cells slots ls hW hlo hcl hsl hl
  have hcc : (nI N).toNatClampNeg = N := nI_clamp (by omega)
  refine W.anew hx hb hown (hG.1 _ hcl0 rfl args) (va_AO.use hG.2.2.1) rfl hdec rfl (nI_pos (by omega)) (by rw [hcc]; omega) (show cells + 1 ≤ em_n fin.2 - em_n hp0 by omega) (show slots + _ ≤ em_m fin.2 - em_m hp0 by rw [hcc]; omega) fun cA kA comp g1 g2 g3 g4 => ?_
  have hc : cA = em_cL Γ := by
    obtain ⟨_, _, _, _, _, w4⟩ := (hG.2.1.2 3 _ rfl).2
    exact Option.some.inj (g1.symm.trans w4)
  have es : H.size = em_z Γ + em_n hp := hW.1
  rw [hcc]
  have k0 := kk p e s m args below meth c hx hb hr hlk hml hown hnm hG hs (H.push { cls := cA, slots := Array.replicate N .null, vm := .none }) locs (cells + 1) (slots + N) ls (em_W_push hW q1 q3 q4 q5 q6 (by rw [Array.size_push]) (fun q hq => by rw [Array.getElem?_push, if_neg (Nat.ne_of_lt hq)]) (by
    rw [em_cl_12 k1, ← es, Array.getElem?_push_size, arrV_new, hl0, hc]
    congr 2
    funext j
    rw [k2 j]
    rfl)) hlo (by omega) (by omega) hl
  rw [es]
  exact k0
theorem em_new {c1 : Nat} {r : vw_C} (hok : em_ok μ) (h : em_at1 75 μ pc = some (a, nx)) (hr0 : vwCl[c1]? = some r) (hc9 : c1 < 9) (hgr : em_gr hp hp' r.2.2) (k1 : em_k (em_n hp) = c1) (kI : ∀ j, em_I hp' (em_n hp) j = 0) (kR : ∀ j, em_R hp' (em_n hp) j = none) (hcl0 : Cond.classLink (em_own μ) a r.1 ∈ lw_tbl) (hins : Cond.instantiable r.1 r.2.2 ∈ lw_tbl) (hini : Cond.initialized r.1 ∈ lw_tbl) (f1 : em_n hp' ≤ em_n fin.2) (f2 : em_m hp' ≤ em_m fin.2) (kk : em_EW Γ K μ hp0 fin nx lc (.ref (em_n hp) :: t) hp') : em_EW Γ K μ hp0 fin pc lc t hp := by
  obtain ⟨b, hi⟩ := em_at1_i h
  obtain ⟨ii, len, hd, hdec, hnx⟩ := hok.dec hi
  subst hnx
  cases hd
  obtain ⟨q1, q2, q3, q4, q5, q6⟩ := hgr
  intro p e s m args below meth c hx hb hr hlk hml hown hnm hG hs H locs cells slots ls hW hlo hcl hsl hl
  have hKn := hG.2.1.1 c1 r hr0
  refine W.newcK hx hb hown (hG.1 _ hcl0 rfl args) (hG.1 _ hins rfl args) (hG.1 _ hini rfl args) rfl hdec (show cells + 1 ≤ em_n fin.2 - em_n hp0 by omega) (show slots + r.2.2 ≤ em_m fin.2 - em_m hp0 by omega) hKn.2.1 (h := em_z Γ + em_n hp) hW.1 fun H1 kC hkC e1 z1 o1 => ?_
  refine kk p e s m args below meth c hx hb hr hlk hml hown hnm hG hs H1 locs (cells + 1) (slots + r.2.2) ls (em_W_push hW q1 q3 q4 q5 q6 (by rw [z1, hW.1]) (fun q hq => o1 q (by rw [← hW.1]; exact hq)) ?_) hlo (by omega) (by omega) hl
  rw [em_cl_c k1 hc9, em_nf_ok hr0]
  refine (u_born (ws := u_ws r.1 r.2.1 r.2.2) (args := args) (em_ty c1) (fun w hw => ?_) (fun w hw => hw) hKn hkC e1 (em_tyo hr0)).to (fun j hj => ?_)
  · obtain ⟨j, hj, rfl⟩ := List.mem_map.mp hw
    exact em_layAt hG hr0 (List.mem_range.mp hj)
  · unfold em_fv
    rw [kI j, kR j]
    have hcase : em_ty c1 j = .int ∨ (∃ n, em_ty c1 j = .object n) ∨ ∃ n, em_ty c1 j = .array n := em_tys3 hr0 j hj
    rcases hcase with e | ⟨n, e⟩ | ⟨n, e⟩ <;> rw [e] <;> rfl
/-- Object's constructor -/
theorem em_obj {k : Nat} (hok : em_ok μ) (h : em_at1 82 μ pc = some (a, nx)) (hlk0 : Cond.methodLink (em_own μ) a objectInit ∈ lw_tbl) (hK : 1 ≤ K) (hcat : em_cats t ≤ 8) (kk : em_EW Γ K μ hp0 fin nx lc t hp) : em_EW Γ K μ hp0 fin pc lc (.ref k :: t) hp := by
  obtain ⟨b, hi⟩ := em_at1_i h
  obtain ⟨ii, len, hd, hdec, hnx⟩ := hok.dec hi
  subst hnx
  cases hd
  intro p e s m args below meth c hx hb hr hlk hml hown hnm hG hs H locs cells slots ls hW hlo hcl hsl hl
  have hroom : 2 * (F0 m pc ls ((Value.ref k :: t).map (em_v Γ))).monitorRoom + ((t.map (em_v Γ)).map fun v => v.category).sum ≤ 8 := lv_room (by rw [em_sums]; exact hcat)
  refine W.objInit hx hb hown (hG.1 _ hlk0 rfl args) (hG.1 _ em_obj1 rfl args) (hG.1 _ em_obj2 rfl args) rfl (by rw [hml]; exact hl.1) rfl hdec (show 1 ≤ K from hK) (Nat.le_trans (Nat.add_le_add_right hroom 12) (show 8 + 12 ≤ 40 * K by omega)) ?_
  exact kk p e s m args below meth c hx hb hr hlk hml hown hnm hG hs H locs cells slots ls hW hlo hcl hsl hl
theorem em_tsIn {dflt lo hi off : Int} {offs : Array Int} {len tgt : Nat} {x : Int32} (hdec : decode (em_c μ) pc = .ok (.tableswitch dflt lo hi offs, len)) (h1 : ¬ x.toInt < lo) (h2 : ¬ hi < x.toInt) (ho : offs[(x.toInt - lo).toNat]? = some off) (ht : (pc : Int) + off = (tgt : Int)) (kk : em_EW Γ K μ hp0 fin tgt lc t hp) : em_EW Γ K μ hp0 fin pc lc (.int x :: t) hp := by
  intro p e s m args below meth c hx hb hr hlk hml hown hnm hG hs H locs cells slots ls hW hlo hcl hsl hl
  exact lv_tableIn hx hb hdec h1 h2 ho ht (kk p e s m args below meth c hx hb hr hlk hml hown hnm hG hs H locs cells slots ls hW hlo hcl hsl hl)
theorem em_tsOut {dflt lo hi : Int} {offs : Array Int} {len tgt : Nat} {x : Int32} (hdec : decode (em_c μ) pc = .ok (.tableswitch dflt lo hi offs, len)) (h1 : x.toInt < lo ∨ hi < x.toInt) (ht : (pc : Int) + dflt = (tgt : Int)) (kk : em_EW Γ K μ hp0 fin tgt lc t hp) : em_EW Γ K μ hp0 fin pc lc (.int x :: t) hp := by
  intro p e s m args below meth c hx hb hr hlk hml hown hnm hG hs H locs cells slots ls hW hlo hcl hsl hl
  exact lv_tableOut hx hb hdec h1 ht (kk p e s m args below meth c hx hb hr hlk hml hown hnm hG hs H locs cells slots ls hW hlo hcl hsl hl)
/-- the script's numbers, and how many -/
theorem em_sld {i : Int32} (hok : em_ok μ) (h : em_at1 62 μ pc = some (a, nx)) (hin : vp_in i (em_L Γ)) (kk : em_EW Γ K μ hp0 fin nx lc (.int (em_s Γ i.toNatClampNeg) :: t) hp) : em_EW Γ K μ hp0 fin pc lc (.int i :: .float 0 :: t) hp := by
  obtain ⟨b, hi⟩ := em_at1_i h
  obtain ⟨ii, len, hd, hdec, hnx⟩ := hok.dec hi
  subst hnx
  cases hd
  intro p e s m args below meth c hx hb hr hlk hml hown hnm hG hs H locs cells slots ls hW hlo hcl hsl hl
  obtain ⟨-, g0, g1, ⟨scr, w1, w2, w3, w4, w5⟩, -⟩ := hG.2.2
  exact W.iald (v := .int (em_s Γ i.toNatClampNeg)) hx hb (a := em_x Γ 0) (by rw [hW.2.1 _ g1]; exact w1) w2 w3 (by rw [w4]; exact hin) (w5 _ (Nat.not_le.mp fun q => hin (Or.inr q))) rfl rfl hdec (kk p e s m args below meth c hx hb hr hlk hml hown hnm hG hs H locs cells slots ls hW hlo hcl hsl hl)
theorem em_slen (hok : em_ok μ) (h : em_at1 34 μ pc = some (a, nx)) (kk : em_EW Γ K μ hp0 fin nx lc (.int (nI (em_L Γ)) :: t) hp) : em_EW Γ K μ hp0 fin pc lc (.float 0 :: t) hp := by
  obtain ⟨b, hi⟩ := em_at1_i h
  obtain ⟨ii, len, hd, hdec, hnx⟩ := hok.dec hi
  subst hnx
  cases hd
  intro p e s m args below meth c hx hb hr hlk hml hown hnm hG hs H locs cells slots ls hW hlo hcl hsl hl
  obtain ⟨-, g0, g1, ⟨scr, w1, w2, w3, w4, w5⟩, -⟩ := hG.2.2
  exact W.alen (n := nI (em_L Γ)) hx hb (a := em_x Γ 0) (by rw [hW.2.1 _ g1]; exact w1) w2 (by rw [w4]; rfl) rfl rfl hdec (kk p e s m args below meth c hx hb hr hlk hml hown hnm hG hs H locs cells slots ls hW hlo hcl hsl hl)
/-- a word -/
theorem em_word {i : Nat} (hok : em_ok μ) (h : em_at1 35 μ pc = some (a, nx)) (hi6 : i < 6) (ho : (em_own μ = "BeastRoad$Tape" ∧ a = em_ti i) ∨ (em_own μ = "BeastRoadModel" ∧ a = em_tm i)) {u : UInt32} (hu : u.toNat = 1 + i) (kk : em_EW Γ K μ hp0 fin nx lc (.float u :: st) hp) : em_EW Γ K μ hp0 fin pc lc st hp := by
  obtain ⟨b, hi⟩ := em_at1_i h
  obtain ⟨ii, len, hd, hdec, hnx⟩ := hok.dec hi
  subst hnx
  cases hd
  intro p e s m args below meth c hx hb hr hlk hml hown hnm hG hs H locs cells slots ls hW hlo hcl hsl hl
  obtain ⟨-, -, -, -, -, -, -, g7⟩ := hG.2.2
  have k0 := kk p e s m args below meth c hx hb hr hlk hml hown hnm hG hs H locs cells slots ls hW hlo hcl hsl hl
  have e0 : em_v Γ (.float u) = .ref (em_x Γ (1 + i)) := by show Value.ref (em_x Γ u.toNat) = _; rw [hu]
  rw [List.map_cons, e0] at k0
  rcases ho with ⟨o1, rfl⟩ | ⟨o1, rfl⟩
  · rw [o1] at hown
    exact va_ldcS hx hb hown (g7 i hi6).1 hdec k0
  · rw [o1] at hown
    exact va_ldcS hx hb hown (g7 i hi6).2 hdec k0
/-- a reference into the row of laws -/
theorem em_aast {x k c1 : Nat} {i : Int32} {r : vw_C} (hok : em_ok μ) (h : em_at1 69 μ pc = some (a, nx)) (hk : em_k k = 12) (hn : k < em_n hp) (hin : vp_in i (em_ln hp k)) (hr0 : vwCl[c1]? = some r) (hr1 : r.1 = "BeastRoad$Law") (hx0 : em_k x = c1) (hc9 : c1 < 9) (hxn : x < em_n hp) (kk : em_EW Γ K μ hp0 fin nx lc t (em_sR hp k (va_up (em_R hp k) i.toNatClampNeg (some x)))) : em_EW Γ K μ hp0 fin pc lc (.ref x :: .int i :: .ref k :: t) hp := by
  obtain ⟨b, hi⟩ := em_at1_i h
  obtain ⟨ii, len, hd, hdec, hnx⟩ := hok.dec hi
  subst hnx
  cases hd
  intro p e s m args below meth c hx hb hr hlk hml hown hnm hG hs H locs cells slots ls hW hlo hcl hsl hl
  have hlt : i.toNatClampNeg < em_ln hp k := Nat.not_le.mp fun q => hin (Or.inr q)
  have h0 : ¬ i < 0 := fun q => hin (Or.inl q)
  obtain ⟨cellV, g1, g2, g3, -⟩ := (em_cl_c hx0 hc9).mp (hW.2.2 x hxn)
  have hcls := (hG.2.1.1 c1 r hr0).2
  obtain ⟨kA, comp, k1, k2, k3, -⟩ := (hG.2.1.2 3 _ rfl).2
  rw [hr1] at hcls
  have hcomp : comp = (em_D Γ).1 c1 := Option.some.inj (k3.symm.trans hcls.1)
  subst hcomp
  obtain ⟨kC, hkC, -⟩ := id hcls.2
  refine W.aast hx hb ((em_cl_12 hk).mp (hW.2.2 k hn)) (fun q h => by cases h) (fun h => by cases h) k1 k2 rfl hkC ⟨h0, by rw [arrV_size]; exact hlt⟩ g1 (fun q h => by rw [g3] at h; cases h) (by rw [g2]; exact hkC) (by rw [g2]; exact va_assign hcls) rfl rfl hdec fun H1 e1 z1 oq => ?_
  refine kk p e s m args below meth c hx hb hr hlk hml hown hnm hG hs H1 _ cells slots ls (em_W_set (k := k) hW rfl (fun _ _ => rfl) (fun _ _ => rfl) (fun _ _ => rfl) em_ne z1 oq ((em_cl_12 hk).mpr ?_)) (em_lo hlo k _) hcl hsl hl
  rw [e1, arrV_store]
  show some (arrV _ _ _) = some (arrV _ _ (fun j => em_v Γ (em_rf (va_up (em_R hp) k _ k j))))
  rw [va_up_self]
  congr 2
  funext j
  by_cases hj : j = i.toNatClampNeg
  · simp [updV, va_up, hj, em_rf, em_v]
  · simp [updV, va_up, hj]
end EmCells
