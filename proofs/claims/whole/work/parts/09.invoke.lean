/-! CALLS. What the tables say of a call's place: static, instance, constructor; by a plain link or by a nest mate's -/
def em_lk1 (own : String) (idx : Nat) (y : MethodName) : Prop := Cond.methodLink own idx y ∈ lw_tbl ∨ ∃ host, Cond.methodLinkNest own idx y host ∈ lw_tbl
def em_cd (μ : em_Me) : Cond := Cond.code (em_y μ) (em_c μ) (em_nL μ) (em_rt μ)
def em_tg (μ : em_Me) (n : Nat) : Prop := em_cd μ ∈ lw_tbl ∧ Cond.initialized (em_y μ).cls ∈ lw_tbl ∧ ((em_y μ).cls ≠ "java/lang/invoke/MethodHandle" ∧ (em_y μ).cls ≠ "java/lang/invoke/VarHandle") ∧ (parseMethodDescriptor (em_y μ).desc).map (fun d => d.parameters.length) = some n ∧ em_nL μ ≤ 21
def em_tS (μ : em_Me) (n : Nat) : Prop := em_tg μ n ∧ Cond.static (em_y μ) ∈ lw_tbl
def em_tV (μ : em_Me) (n c : Nat) : Prop := em_tg μ n ∧ Cond.instanceMethod (em_y μ) ∈ lw_tbl ∧ ∃ r : vw_C, vwCl[c]? = some r ∧ Cond.selects r.1 (em_y μ) (em_y μ) ∈ lw_tbl
def em_tI (μ : em_Me) (n : Nat) : Prop := em_tg μ n ∧ Cond.instanceMethod (em_y μ) ∈ lw_tbl ∧ (em_y μ).name = "<init>" ∧ em_rt μ = none
theorem em_blind (Γ : em_Cx) (av : List Value) (hp : em_Hp) : FrameBlind (em_Pc Γ av hp) := fun a U g mk h => ⟨h.1, em_G_call h.2.1, h.2.2⟩
theorem em_sums (Γ : em_Cx) (t : List Value) : ((t.map (em_v Γ)).map fun v => v.category).sum = em_cats t := by
  unfold em_cats
  rw [List.map_map]
  congr 1
  apply List.map_congr_left
  intro v _
  exact em_v_cat Γ v
theorem em_rev (Γ : em_Cx) (av t : List Value) : (av.reverse ++ t).map (em_v Γ) = (av.map (em_v Γ)).reverse ++ t.map (em_v Γ) := by simp
section EmInvoke
variable {Γ : em_Cx} {K K' : Nat} {μ μ' : em_Me} {hp0 : em_Hp} {fin : Option Value × em_Hp} {pc a nx n : Nat} {b : Int32} {lc : List (Nat × Value)} {st t av : List Value} {hp hp' : em_Hp} {r : Option Value}
theorem em_goes {p : Program} {e : Env} {s : State} {m : MethodId} {args : Array Value} {below : List Frame} {meth : Method} {c : Code} {a' : Array Value} {H : Heap} {locs : List Loc} {cells slots mc ms : Nat} {ls : Array Slot} {st0 : List Value}
    (hx : p.tables.exec = Jvm.exec) (hb : c.code = em_c μ) (hr : meth.sig.returnType = em_rt μ) (hlk : meth.locks = false) (hml : c.maxLocals = em_nL μ) (hown : s.vm.findClass (em_own μ) = some m.cls) (hnm : meth.name = (em_y μ).name) (hG : em_G Γ s) (hs : s.heap.size = em_z Γ + em_n hp0) (hlo : ∀ q ∈ locs, em_A Γ q.base) (hcl : cells + em_n hp0 = em_n hp) (hsl : slots + em_m hp0 = em_m hp) (hl : lv_has ls (em_nL μ) (em_lv Γ lc)) (h1 : em_n hp + mc = em_n hp') (h2 : em_m hp + ms = em_m hp')
    (hrun : va_Run p (em_l Γ) e (em_rm K (em_n fin.2 - em_n hp0) (em_m fin.2 - em_m hp0)) s m args below meth c H locs cells slots mc ms (F0 m pc ls st0) (t.map (em_v Γ)) (em_Q Γ r hp' a') (em_A Γ))
    (kk : em_EW Γ K μ hp0 fin (pc + 3) lc (r.toList ++ t) hp') : W p (em_l Γ) e (em_rm K (em_n fin.2 - em_n hp0) (em_m fin.2 - em_m hp0)) s m args below meth c H locs cells slots (MQ below (em_Q Γ fin.1 fin.2) args s (em_n fin.2 - em_n hp0) (em_m fin.2 - em_m hp0) (em_A Γ)) (F0 m pc ls st0) := by
  intro T hT X
  obtain ⟨v, st₀, tt, T', L, h0, X', hL, e1, e2, ⟨hv, hW'⟩, stp⟩ := hrun T hT X
  have hv' : v = r.map (em_v Γ) := Outcome.returned.inj hv
  subst hv'
  have k0 := kk p e s m args below meth c hx hb hr hlk hml hown hnm hG hs T'.heap (locs ++ L) (cells + mc) (slots + ms) ls (by rw [e1]; exact hW') (fun q hq => by
    rcases List.mem_append.mp hq with h | h
    · exact hlo q h
    · exact hL q h) (by omega) (by omega) hl
  have es : (r.toList ++ t).map (em_v Γ) = (r.map (em_v Γ)).toList ++ t.map (em_v Γ) := by cases r <;> simp
  rw [es] at k0
  obtain ⟨t2, a1, b1⟩ := k0 T' rfl X'
  exact ⟨t2, stp t2 a1, b1⟩
theorem em_fit {cells slots : Nat} (h1 : em_n hp ≤ em_n hp') (h2 : em_m hp ≤ em_m hp') (f1 : em_n hp' ≤ em_n fin.2) (f2 : em_m hp' ≤ em_m fin.2) (hcl : cells + em_n hp0 = em_n hp) (hsl : slots + em_m hp0 = em_m hp) : cells + (em_n hp' - em_n hp) ≤ (em_rm K (em_n fin.2 - em_n hp0) (em_m fin.2 - em_m hp0)).cells ∧ slots + (em_m hp' - em_m hp) ≤ (em_rm K (em_n fin.2 - em_n hp0) (em_m fin.2 - em_m hp0)).slots := by
  constructor
  · show _ ≤ em_n fin.2 - em_n hp0; omega
  · show _ ≤ em_m fin.2 - em_m hp0; omega
theorem em_tg_cb {s : State} {args : Array Value} {mc ms m1 m2 : Nat} (hG : em_G Γ s) (ht : em_tg μ' n) (hK : K' + 1 ≤ K) (idx : Nat) (hl : Cond.methodLink (em_own μ) idx (em_y μ') ∈ lw_tbl) : CallB (em_rm K m1 m2) s args (em_own μ) idx (em_y μ') (em_c μ') (em_nL μ') (em_rt μ') [em_cd μ'] (em_rm K' mc ms) mc ms n := by
  obtain ⟨t1, t2, t3, t4, t5⟩ := ht
  refine ⟨rfl, rfl, hK, ?_, fun w hw a' U hW => ?_, List.mem_singleton.mpr rfl, hG.1 _ t1 rfl args, hG.1 _ t2 rfl args, t3, fun sig h => ?_, hG.1 _ hl rfl args⟩
  · show 8 + (em_nL μ' + 11) + 40 * K' ≤ 40 * K
    omega
  · rw [List.mem_singleton.mp hw]
    exact (em_G_warm hW hG).1 _ t1 rfl a'
  · rw [h] at t4
    exact (Option.some.inj t4).symm
theorem em_tg_cn {s : State} {args : Array Value} {mc ms m1 m2 : Nat} (hG : em_G Γ s) (ht : em_tg μ' n) (hK : K' + 1 ≤ K) (idx : Nat) {host : String} (hl : Cond.methodLinkNest (em_own μ) idx (em_y μ') host ∈ lw_tbl) : va_CN (em_rm K m1 m2) s args (em_own μ) idx (em_y μ') host (em_c μ') (em_nL μ') (em_rt μ') [em_cd μ'] (em_rm K' mc ms) mc ms n := by
  obtain ⟨t1, t2, t3, t4, t5⟩ := ht
  refine ⟨⟨rfl, rfl, hK, ?_, fun w hw a' U hW => ?_, List.mem_singleton.mpr rfl⟩, hG.1 _ t1 rfl args, hG.1 _ t2 rfl args, t3, fun sig h => ?_, hG.1 _ hl rfl args⟩
  · show 8 + (em_nL μ' + 11) + 40 * K' ≤ 40 * K
    omega
  · rw [List.mem_singleton.mp hw]
    exact (em_G_warm hW hG).1 _ t1 rfl a'
  · rw [h] at t4
    exact (Option.some.inj t4).symm
/-- a static method -/
theorem em_callS (hok : em_ok μ) (h : em_at1 80 μ pc = some (a, nx)) (hlk1 : em_lk1 (em_own μ) a (em_y μ')) (ht : em_tS μ' n) (hM : em_MC Γ K' μ' av hp r hp') (hst : st = av.reverse ++ t) (hn : av.length = n) (hK : K' + 1 ≤ K) (hcat : em_cats t ≤ 8) (f1 : em_n hp' ≤ em_n fin.2) (f2 : em_m hp' ≤ em_m fin.2) (kk : em_EW Γ K μ hp0 fin nx lc (r.toList ++ t) hp') : em_EW Γ K μ hp0 fin pc lc st hp := by
  obtain ⟨b, hi⟩ := em_at1_i h
  obtain ⟨ii, len, hd, hdec, hnx⟩ := hok.dec hi
  subst hnx
  cases hd
  subst hst
  obtain ⟨h1, h2, hMet⟩ := hM
  intro p e s m args below meth c hx hb hr hlk hml hown hnm hG hs H locs cells slots ls hW hlo hcl hsl hl
  have hPre : PreS s H (em_Pc Γ av hp) (av.map (em_v Γ)) := ⟨em_blind Γ av hp, fun U hU hWU => ⟨rfl, em_G_warm hWU hG, by rw [hU]; exact hW⟩⟩
  have hW8 : 2 * (F0 m pc ls ((av.reverse ++ t).map (em_v Γ))).monitorRoom + ((t.map (em_v Γ)).map fun v => v.category).sum ≤ 8 := lv_room (by rw [em_sums]; exact hcat)
  have hlen : (av.map (em_v Γ)).length = n := by rw [List.length_map]; exact hn
  rcases hlk1 with hl1 | ⟨host, hl1⟩
  · exact em_goes hx hb hr hlk hml hown hnm hG hs hlo hcl hsl hl (by omega) (by omega) (va_runS (Ts := []) ⟨hx, hb, hml, hown, fun _ h => by cases h⟩ hMet ⟨em_tg_cb hG ht.1 hK a hl1, hG.1 _ ht.2 rfl args⟩ hPre rfl hlen hl.1 (em_rev Γ av t) hW8 hdec (em_fit h1 h2 f1 f2 hcl hsl)) kk
  · exact em_goes hx hb hr hlk hml hown hnm hG hs hlo hcl hsl hl (by omega) (by omega) (va_runSN (Ts := []) ⟨hx, hb, hml, hown, fun _ h => by cases h⟩ hMet ⟨em_tg_cn hG ht.1 hK a hl1, hG.1 _ ht.2 rfl args, trivial⟩ hPre rfl hlen hl.1 (em_rev Γ av t) hW8 hdec (em_fit h1 h2 f1 f2 hcl hsl)) kk
/-- an instance method of a class of ours, on cell k -/
theorem em_callV {c1 k : Nat} (hok : em_ok μ) (h : em_at1 81 μ pc = some (a, nx)) (hlk1 : em_lk1 (em_own μ) a (em_y μ')) (ht : em_tV μ' n c1) (hc9 : c1 < 9) (hkc : em_k k = c1) (hkn : k < em_n hp) (hM : em_MC Γ K' μ' (.ref k :: av) hp r hp') (hst : st = av.reverse ++ .ref k :: t) (hn : av.length = n) (hK : K' + 1 ≤ K) (hcat : em_cats t ≤ 8) (f1 : em_n hp' ≤ em_n fin.2) (f2 : em_m hp' ≤ em_m fin.2) (kk : em_EW Γ K μ hp0 fin nx lc (r.toList ++ t) hp') : em_EW Γ K μ hp0 fin pc lc st hp := by
  obtain ⟨b, hi⟩ := em_at1_i h
  obtain ⟨ii, len, hd, hdec, hnx⟩ := hok.dec hi
  subst hnx
  cases hd
  subst hst
  obtain ⟨h1, h2, hMet⟩ := hM
  obtain ⟨ht1, ht2, rc, hrc, hsel⟩ := ht
  intro p e s m args below meth c hx hb hr hlk hml hown hnm hG hs H locs cells slots ls hW hlo hcl hsl hl
  have hrecv : ∃ cellB : Cell, H[em_z Γ + k]? = some cellB ∧ cellB.vm.isStatics = false ∧ s.vm.findClass rc.1 = some cellB.cls := by
    obtain ⟨cell, g1, g2, g3, -⟩ := (em_cl_c hkc hc9).mp (hW.2.2 k hkn)
    exact ⟨cell, g1, by rw [g3]; rfl, by rw [g2]; exact (hG.2.1.1 c1 rc hrc).2.1⟩
  have hPre : PreV s H rc.1 (em_z Γ + k) (em_Pc Γ (.ref k :: av) hp) (av.map (em_v Γ)) := ⟨em_blind Γ _ hp, hrecv, fun U hU hWU => ⟨rfl, em_G_warm hWU hG, by rw [hU]; exact hW⟩⟩
  have hW8 : 2 * (F0 m pc ls ((av.reverse ++ .ref k :: t).map (em_v Γ))).monitorRoom + ((t.map (em_v Γ)).map fun v => v.category).sum ≤ 8 := lv_room (by rw [em_sums]; exact hcat)
  have hlen : (av.map (em_v Γ)).length = n := by rw [List.length_map]; exact hn
  have hstk : ((av.reverse ++ .ref k :: t).map (em_v Γ)) = (av.map (em_v Γ)).reverse ++ .ref (em_z Γ + k) :: t.map (em_v Γ) := by rw [em_rev]; rfl
  rcases hlk1 with hl1 | ⟨host, hl1⟩
  · exact em_goes hx hb hr hlk hml hown hnm hG hs hlo hcl hsl hl (by omega) (by omega) (va_runV (Ts := []) (C := rc.1) ⟨hx, hb, hml, hown, fun _ h => by cases h⟩ hMet ⟨em_tg_cb hG ht1 hK a hl1, hG.1 _ ht2 rfl args, hG.1 _ hsel rfl args⟩ hPre rfl hlen hl.1 hstk hW8 hdec (em_fit h1 h2 f1 f2 hcl hsl)) kk
  · exact em_goes hx hb hr hlk hml hown hnm hG hs hlo hcl hsl hl (by omega) (by omega) (va_runVN (Ts := []) (C := rc.1) ⟨hx, hb, hml, hown, fun _ h => by cases h⟩ hMet ⟨em_tg_cn hG ht1 hK a hl1, hG.1 _ ht2 rfl args, hG.1 _ hsel rfl args⟩ hPre rfl hlen hl.1 hstk hW8 hdec (em_fit h1 h2 f1 f2 hcl hsl)) kk
/-- a constructor, on cell k -/
theorem em_callI {k : Nat} (hok : em_ok μ) (h : em_at1 82 μ pc = some (a, nx)) (hlk1 : em_lk1 (em_own μ) a (em_y μ')) (ht : em_tI μ' n) (hM : em_MC Γ K' μ' (.ref k :: av) hp none hp') (hst : st = av.reverse ++ .ref k :: t) (hn : av.length = n) (hK : K' + 1 ≤ K) (hcat : em_cats t ≤ 8) (f1 : em_n hp' ≤ em_n fin.2) (f2 : em_m hp' ≤ em_m fin.2) (kk : em_EW Γ K μ hp0 fin nx lc t hp') : em_EW Γ K μ hp0 fin pc lc st hp := by
  obtain ⟨b, hi⟩ := em_at1_i h
  obtain ⟨ii, len, hd, hdec, hnx⟩ := hok.dec hi
  subst hnx
  cases hd
  subst hst
  obtain ⟨h1, h2, hMet⟩ := hM
  obtain ⟨ht1, ht2, hini, hrt⟩ := ht
  intro p e s m args below meth c hx hb hr hlk hml hown hnm hG hs H locs cells slots ls hW hlo hcl hsl hl
  have hPre : PreS s H (em_Pc Γ (.ref k :: av) hp) (.ref (em_z Γ + k) :: av.map (em_v Γ)) := ⟨em_blind Γ _ hp, fun U hU hWU => ⟨rfl, em_G_warm hWU hG, by rw [hU]; exact hW⟩⟩
  have hW8 : 2 * (F0 m pc ls ((av.reverse ++ .ref k :: t).map (em_v Γ))).monitorRoom + ((t.map (em_v Γ)).map fun v => v.category).sum ≤ 8 := lv_room (by rw [em_sums]; exact hcat)
  have hlen : (av.map (em_v Γ)).length = n := by rw [List.length_map]; exact hn
  have hstk : ((av.reverse ++ .ref k :: t).map (em_v Γ)) = (av.map (em_v Γ)).reverse ++ .ref (em_z Γ + k) :: t.map (em_v Γ) := by rw [em_rev]; rfl
  rcases hlk1 with hl1 | ⟨host, hl1⟩
  · have cb := em_tg_cb (μ := μ) (args := args) (mc := em_n hp' - em_n hp) (ms := em_m hp' - em_m hp) (m1 := em_n fin.2 - em_n hp0) (m2 := em_m fin.2 - em_m hp0) hG ht1 hK a hl1
    rw [hrt] at cb
    exact em_goes (r := none) hx hb hr hlk hml hown hnm hG hs hlo hcl hsl hl (by omega) (by omega) (va_runI (Ts := []) ⟨hx, hb, hml, hown, fun _ h => by cases h⟩ hMet ⟨cb, hini, hG.1 _ ht2 rfl args⟩ hPre rfl hlen hl.1 hstk hW8 hdec (em_fit h1 h2 f1 f2 hcl hsl)) kk
  · have cb := em_tg_cn (μ := μ) (args := args) (mc := em_n hp' - em_n hp) (ms := em_m hp' - em_m hp) (m1 := em_n fin.2 - em_n hp0) (m2 := em_m fin.2 - em_m hp0) hG ht1 hK a hl1
    rw [hrt] at cb
    exact em_goes (r := none) hx hb hr hlk hml hown hnm hG hs hlo hcl hsl hl (by omega) (by omega) (va_runIN (Ts := []) ⟨hx, hb, hml, hown, fun _ h => by cases h⟩ hMet ⟨cb, hini, hG.1 _ ht2 rfl args⟩ hPre rfl hlen hl.1 hstk hW8 hdec (em_fit h1 h2 f1 f2 hcl hsl)) kk
end EmInvoke
