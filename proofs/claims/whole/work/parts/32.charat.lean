/-! charAt of the six words -/
theorem em_pop {Γ : em_Cx} {K : Nat} {μ : em_Me} {hp0 : em_Hp} {fin : Option Value × em_Hp} {pc : Nat} {lc : List (Nat × Value)} {t : List Value} {hp : em_Hp} {x : Int32} (hdec : decode (em_c μ) pc = .ok (.pop, 1)) (kk : em_EW Γ K μ hp0 fin (pc + 1) lc t hp) : em_EW Γ K μ hp0 fin pc lc (.int x :: t) hp := by
  intro p e s m args below meth c hx hb hr hlk hml hown hnm hG hs H locs cells slots ls hW hlo hcl hsl hl
  exact lv_pop hx hb hdec rfl (kk p e s m args below meth c hx hb hr hlk hml hown hnm hG hs H locs cells slots ls hW hlo hcl hsl hl)
theorem em_i2c {Γ : em_Cx} {K : Nat} {μ : em_Me} {hp0 : em_Hp} {fin : Option Value × em_Hp} {pc : Nat} {lc : List (Nat × Value)} {t : List Value} {hp : em_Hp} {x : Int32} (hdec : decode (em_c μ) pc = .ok (.i2c, 1)) (kk : em_EW Γ K μ hp0 fin (pc + 1) lc (.int (x.toUInt32 % 65536).toInt32 :: t) hp) : em_EW Γ K μ hp0 fin pc lc (.int x :: t) hp := by
  intro p e s m args below meth c hx hb hr hlk hml hown hnm hG hs H locs cells slots ls hW hlo hcl hsl hl
  exact lv_i2c hx hb hdec rfl (kk p e s m args below meth c hx hb hr hlk hml hown hnm hG hs H locs cells slots ls hW hlo hcl hsl hl)
theorem s_pre (Γ : em_Cx) (hp : em_Hp) {j L : Nat} (hj : j < L) (hL : L < 100) {v : Value} (hv : v = .null ∨ ∃ a, v = .ref a) : Met (em_l Γ) yJ3_checkIndex_8e157 [em_cd mJ3_checkIndex_8e157] (em_rm 0 (em_n hp - em_n hp) (em_m hp - em_m hp)) (fun a U => a = [.int (nI j), .int (nI L), v].toArray ∧ em_G Γ U ∧ em_W Γ hp U.heap) (em_Q Γ (some (.int (nI j))) hp) (em_n hp - em_n hp) (em_m hp - em_m hp) (em_A Γ) := by
  refine Met.ofW (cc := cJ3_checkIndex_8e157) (maxL := 3) (ret := some .int) (by decide) rfl ?_
  intro p e s m args below meth c s₁ B hml hvv
  obtain ⟨rfl, hG, hW⟩ := hvv
  have hx := B.exec
  have hb := B.bytes
  have hr := B.returns
  have hlocks := B.notSynchronized
  have hl := lv_entry ([.int (nI j), .int (nI L), v]) (n := 3) (by rcases hv with rfl | ⟨a, rfl⟩ <;> exact Nat.le_of_ble_eq_true rfl)
  rw [lg_entry_eq]
  generalize (lg_sl ([.int (nI j), .int (nI L), v]) ++ List.replicate (3 - (lg_sl ([.int (nI j), .int (nI L), v])).length) Slot.unset).toArray = ls at hl ⊢
  have hl : lv_has ls 3 [(0, .int (nI j)), (1, .int (nI L)), (2, v)] := hl
  refine lv_iload_n hx hb (show decode cJ3_checkIndex_8e157 0 = .ok (.iload_n 0, 1) by decide +kernel) rfl (lv_at hl 0 rfl) ?_
  refine lv_if_lt (tgt := 9) hx hb (show decode cJ3_checkIndex_8e157 1 = .ok (.ifCond .lt 8, 3) by decide +kernel) (by decide) (fun h => absurd h (nI_pos (by omega))) (fun _ => ?_)
  refine lv_iload_n hx hb (show decode cJ3_checkIndex_8e157 4 = .ok (.iload_n 0, 1) by decide +kernel) rfl (lv_at hl 0 rfl) ?_
  refine lv_iload_n hx hb (show decode cJ3_checkIndex_8e157 5 = .ok (.iload_n 1, 1) by decide +kernel) rfl (lv_at hl 1 rfl) ?_
  refine lv_icmp_lt (tgt := 16) hx hb (show decode cJ3_checkIndex_8e157 6 = .ok (.if_icmp .lt 10, 3) by decide +kernel) (by decide) (fun _ => ?_) (fun h => absurd (nI_lt hj (by omega)) h)
  refine lv_iload_n hx hb (show decode cJ3_checkIndex_8e157 16 = .ok (.iload_n 0, 1) by decide +kernel) rfl (lv_at hl 0 rfl) ?_
  rw [Nat.sub_self, Nat.sub_self]
  exact W.iret hx hb hr (fun t ht _ => ⟨rfl, by rw [ht]; exact hW⟩) (fun q h => by cases h) (show decode cJ3_checkIndex_8e157 17 = .ok (.ireturn, 1) by decide +kernel) hlocks
theorem s_chk (Γ : em_Cx) (hp : em_Hp) {j L : Nat} (hj : j < L) (hL : L < 100) : em_MC Γ 1 mJ0_checkIndex_df160 [.int (nI j), .int (nI L)] hp none hp := by
  refine em_MC_of (Nat.le_refl _) (Nat.le_refl _) (by decide +kernel) rfl (Nat.le_of_ble_eq_true rfl) ?_
  (repeat (refine em_pure (Nat.zero_le _) kJ0_checkIndex_df160 rfl ?_))
  have back : em_EW Γ 1 mJ0_checkIndex_df160 hp (none, hp) 8 [] [.int (nI j)] hp := by
    refine em_pop (by decide +kernel) ?_
    exact em_vret kJ0_checkIndex_df160 rfl rfl rfl
  intro p e s m args below meth c hx hb hr hlk hml hown hnm hG hs H locs cells slots ls hW hlo hcl hsl hl
  obtain ⟨-, g0, g1, g2, g3, g4, ⟨v, g5, g6⟩, -⟩ := hG.2.2
  obtain ⟨cf, kf, fi, f, a1, cell, w1, w2, w3, w4, w5, w6, w7, w8⟩ := g5
  refine W.gets hx hb (own := RJ0) hown (hG.1 _ hJ0_1053 rfl args) w1 w2 w3 w4 (by rw [hW.2.1 a1 (Nat.not_le.mp w8)]; exact w5) (fun e => by rw [e] at w6; cases w6) w7 rfl (show decode cJ0_checkIndex_df160 2 = .ok (.getstatic 1053, 3) by decide +kernel) ?_
  have hlk1 : Cond.methodLink RJ0 1059 yJ3_checkIndex_8e157 ∈ lw_tbl := by decide +kernel
  have hPre : PreS s H (fun a U => a = [.int (nI j), .int (nI L), v].toArray ∧ em_G Γ U ∧ em_W Γ hp U.heap) [.int (nI j), .int (nI L), v] := ⟨fun a U g mk h => ⟨h.1, em_G_call h.2.1, h.2.2⟩, fun U hU hWU => ⟨rfl, em_G_warm hWU hG, by rw [hU]; exact hW⟩⟩
  exact em_goes (μ := mJ0_checkIndex_df160) (hp := hp) (hp' := hp) (t := []) (lc := []) (r := some (.int (nI j))) hx hb hr hlk hml hown hnm hG hs hlo hcl hsl ⟨hl.1, hl.2.1, fun q h => by cases h⟩ (by omega) (by omega) (va_runS (Ts := []) (own := RJ0) ⟨hx, hb, hml, hown, fun _ h => by cases h⟩ (s_pre Γ hp hj hL g6) ⟨em_tg_cb (μ := mJ0_checkIndex_df160) hG tJ3_checkIndex_8e157.1 (by decide) 1059 hlk1, hG.1 _ tJ3_checkIndex_8e157.2 rfl args⟩ hPre rfl rfl hl.1 rfl (lv_room (Nat.le_of_ble_eq_true rfl)) (show decode cJ0_checkIndex_df160 5 = .ok (.invokestatic 1059, 3) by decide +kernel) (em_fit (Nat.le_refl _) (Nat.le_refl _) (Nat.le_refl _) (Nat.le_refl _) hcl hsl)) back
theorem s_latinAt (Γ : em_Cx) (hp : em_Hp) {i j : Nat} {v : UInt32} (hi6 : i < 6) (hv : v.toNat = 7 + i) (hj : j < em_tl.getD i 0) : em_MC Γ 2 mJ1_charAt_3b067 [.float v, .int (nI j)] hp (some (.int ((em_tb.getD i []).getD j 0))) hp := by
  have hL : ∀ i, i < 6 → em_tl.getD i 0 < 100 := by decide +kernel
  refine em_MC_of (Nat.le_refl _) (Nat.le_refl _) (by decide +kernel) rfl (Nat.le_of_ble_eq_true rfl) ?_
  (repeat (refine em_pure (Nat.zero_le _) kJ1_charAt_3b067 rfl ?_))
  refine em_lenV kJ1_charAt_3b067 rfl hi6 hv ?_
  refine em_callS (μ' := mJ0_checkIndex_df160) kJ1_charAt_3b067 rfl lJ1_9 tJ0_checkIndex_df160 (s_chk Γ hp hj (hL i hi6)) rfl rfl (by decide) (Nat.le_of_ble_eq_true rfl) (Nat.le_refl _) (Nat.le_refl _) ?_
  (repeat (refine em_pure (Nat.zero_le _) kJ1_charAt_3b067 rfl ?_))
  refine em_ldV kJ1_charAt_3b067 rfl hi6 hv hj (hL i hi6) ?_
  (repeat (refine em_pure (Nat.zero_le _) kJ1_charAt_3b067 rfl ?_))
  refine em_i2c (by decide +kernel) ?_
  have key : ∀ i, i < 6 → ∀ j, j < em_tl.getD i 0 → ((((em_tb.getD i []).getD j 0) &&& 255 : Int32).toUInt32 % 65536).toInt32 = (em_tb.getD i []).getD j 0 ∧ narrow .char (.int ((em_tb.getD i []).getD j 0)) = .int ((em_tb.getD i []).getD j 0) := by decide +kernel
  refine em_EW_as (st := [.int ((em_tb.getD i []).getD j 0)]) ?_ rfl (congrArg (fun z => [Value.int z]) (key i hi6 j hj).1.symm) rfl
  exact em_iret kJ1_charAt_3b067 rfl rfl (key i hi6 j hj).2 rfl
theorem s_charAt (Γ : em_Cx) (hp : em_Hp) {i j : Nat} {u : UInt32} (hi6 : i < 6) (hu : u.toNat = 1 + i) (hj : j < em_tl.getD i 0) : em_MC Γ 3 mJ0_charAt_5068e [.float u, .int (nI j)] hp (some (.int ((em_tb.getD i []).getD j 0))) hp := by
  obtain ⟨v, hv⟩ : ∃ v : UInt32, v.toNat = 7 + i := ⟨UInt32.ofNat (7 + i), by simp [UInt32.toNat_ofNat']; omega⟩
  have key : ∀ i, i < 6 → ∀ j, j < em_tl.getD i 0 → narrow .char (.int ((em_tb.getD i []).getD j 0)) = .int ((em_tb.getD i []).getD j 0) := by decide +kernel
  refine em_MC_of (Nat.le_refl _) (Nat.le_refl _) (by decide +kernel) rfl (Nat.le_of_ble_eq_true rfl) ?_
  (repeat (refine em_pure (Nat.zero_le _) kJ0_charAt_5068e rfl ?_))
  refine em_callW (μ' := mJ0_isLatin1_aae02) kJ0_charAt_5068e rfl lJ0_492 tJ0_isLatin1_aae02 hi6 hu (s_isLatin1 Γ hp hi6 hu) rfl rfl (by decide) (Nat.le_of_ble_eq_true rfl) (Nat.le_refl _) (Nat.le_refl _) ?_
  refine em_branch kJ0_charAt_5068e rfl (fun h => absurd h (by decide)) (fun _ => ?_)
  (repeat (refine em_pure (Nat.zero_le _) kJ0_charAt_5068e rfl ?_))
  refine em_getV kJ0_charAt_5068e rfl rfl hi6 hu hv ?_
  (repeat (refine em_pure (Nat.zero_le _) kJ0_charAt_5068e rfl ?_))
  refine em_callS (μ' := mJ1_charAt_3b067) kJ0_charAt_5068e rfl lJ0_495 tJ1_charAt_3b067 (s_latinAt Γ hp hi6 hv hj) rfl rfl (by decide) (Nat.le_of_ble_eq_true rfl) (Nat.le_refl _) (Nat.le_refl _) ?_
  exact em_iret kJ0_charAt_5068e rfl rfl (key i hi6 j hj) rfl
/-- the word of a sort: the class's and the reference's -/
theorem s_wordOf (Γ : em_Cx) (hp : em_Hp) {i : Nat} (hi6 : i < 6) : ∃ u : UInt32, u.toNat = 1 + i ∧ em_MC Γ 0 mX5_wordOf [.int (nI i)] hp (some (.float u)) hp := by
  have hdec : decode (em_c mX5_wordOf) 1 = .ok (.tableswitch 50 0 4 #[35, 38, 41, 44, 47], 35) := by decide +kernel
  obtain ⟨u, hu⟩ : ∃ u : UInt32, u.toNat = 1 + i := ⟨UInt32.ofNat (1 + i), by simp [UInt32.toNat_ofNat']; omega⟩
  refine ⟨u, hu, ?_⟩
  refine em_MC_of (Nat.le_refl _) (Nat.le_refl _) (by decide +kernel) rfl (Nat.le_of_ble_eq_true rfl) ?_
  (repeat (refine em_pure (Nat.zero_le _) kX5_wordOf rfl ?_))
  rcases (show i = 0 ∨ i = 1 ∨ i = 2 ∨ i = 3 ∨ i = 4 ∨ i = 5 by omega) with rfl | rfl | rfl | rfl | rfl | rfl
  · refine em_tsIn hdec (by decide) (by decide) rfl rfl ?_
    refine em_word (i := 0) kX5_wordOf rfl (by decide) (Or.inl ⟨rfl, rfl⟩) hu ?_
    exact em_aret kX5_wordOf rfl rfl (Or.inl ⟨_, rfl⟩) (Or.inr ⟨_, rfl⟩) rfl
  · refine em_tsIn hdec (by decide) (by decide) rfl rfl ?_
    refine em_word (i := 1) kX5_wordOf rfl (by decide) (Or.inl ⟨rfl, rfl⟩) hu ?_
    exact em_aret kX5_wordOf rfl rfl (Or.inl ⟨_, rfl⟩) (Or.inr ⟨_, rfl⟩) rfl
  · refine em_tsIn hdec (by decide) (by decide) rfl rfl ?_
    refine em_word (i := 2) kX5_wordOf rfl (by decide) (Or.inl ⟨rfl, rfl⟩) hu ?_
    exact em_aret kX5_wordOf rfl rfl (Or.inl ⟨_, rfl⟩) (Or.inr ⟨_, rfl⟩) rfl
  · refine em_tsIn hdec (by decide) (by decide) rfl rfl ?_
    refine em_word (i := 3) kX5_wordOf rfl (by decide) (Or.inl ⟨rfl, rfl⟩) hu ?_
    exact em_aret kX5_wordOf rfl rfl (Or.inl ⟨_, rfl⟩) (Or.inr ⟨_, rfl⟩) rfl
  · refine em_tsIn hdec (by decide) (by decide) rfl rfl ?_
    refine em_word (i := 4) kX5_wordOf rfl (by decide) (Or.inl ⟨rfl, rfl⟩) hu ?_
    exact em_aret kX5_wordOf rfl rfl (Or.inl ⟨_, rfl⟩) (Or.inr ⟨_, rfl⟩) rfl
  · refine em_tsOut hdec (Or.inr (by decide)) rfl ?_
    refine em_word (i := 5) kX5_wordOf rfl (by decide) (Or.inl ⟨rfl, rfl⟩) hu ?_
    exact em_aret kX5_wordOf rfl rfl (Or.inl ⟨_, rfl⟩) (Or.inr ⟨_, rfl⟩) rfl
theorem s_mWord (Γ : em_Cx) (hp : em_Hp) {i : Nat} (hi6 : i < 6) : ∃ u : UInt32, u.toNat = 1 + i ∧ em_MC Γ 0 mX8_word [.int (nI i)] hp (some (.float u)) hp := by
  have hdec : decode (em_c mX8_word) 1 = .ok (.tableswitch 50 0 4 #[35, 38, 41, 44, 47], 35) := by decide +kernel
  obtain ⟨u, hu⟩ : ∃ u : UInt32, u.toNat = 1 + i := ⟨UInt32.ofNat (1 + i), by simp [UInt32.toNat_ofNat']; omega⟩
  refine ⟨u, hu, ?_⟩
  refine em_MC_of (Nat.le_refl _) (Nat.le_refl _) (by decide +kernel) rfl (Nat.le_of_ble_eq_true rfl) ?_
  (repeat (refine em_pure (Nat.zero_le _) kX8_word rfl ?_))
  rcases (show i = 0 ∨ i = 1 ∨ i = 2 ∨ i = 3 ∨ i = 4 ∨ i = 5 by omega) with rfl | rfl | rfl | rfl | rfl | rfl
  · refine em_tsIn hdec (by decide) (by decide) rfl rfl ?_
    refine em_word (i := 0) kX8_word rfl (by decide) (Or.inr ⟨rfl, rfl⟩) hu ?_
    exact em_aret kX8_word rfl rfl (Or.inl ⟨_, rfl⟩) (Or.inr ⟨_, rfl⟩) rfl
  · refine em_tsIn hdec (by decide) (by decide) rfl rfl ?_
    refine em_word (i := 1) kX8_word rfl (by decide) (Or.inr ⟨rfl, rfl⟩) hu ?_
    exact em_aret kX8_word rfl rfl (Or.inl ⟨_, rfl⟩) (Or.inr ⟨_, rfl⟩) rfl
  · refine em_tsIn hdec (by decide) (by decide) rfl rfl ?_
    refine em_word (i := 2) kX8_word rfl (by decide) (Or.inr ⟨rfl, rfl⟩) hu ?_
    exact em_aret kX8_word rfl rfl (Or.inl ⟨_, rfl⟩) (Or.inr ⟨_, rfl⟩) rfl
  · refine em_tsIn hdec (by decide) (by decide) rfl rfl ?_
    refine em_word (i := 3) kX8_word rfl (by decide) (Or.inr ⟨rfl, rfl⟩) hu ?_
    exact em_aret kX8_word rfl rfl (Or.inl ⟨_, rfl⟩) (Or.inr ⟨_, rfl⟩) rfl
  · refine em_tsIn hdec (by decide) (by decide) rfl rfl ?_
    refine em_word (i := 4) kX8_word rfl (by decide) (Or.inr ⟨rfl, rfl⟩) hu ?_
    exact em_aret kX8_word rfl rfl (Or.inl ⟨_, rfl⟩) (Or.inr ⟨_, rfl⟩) rfl
  · refine em_tsOut hdec (Or.inr (by decide)) rfl ?_
    refine em_word (i := 5) kX8_word rfl (by decide) (Or.inr ⟨rfl, rfl⟩) hu ?_
    exact em_aret kX8_word rfl rfl (Or.inl ⟨_, rfl⟩) (Or.inr ⟨_, rfl⟩) rfl
