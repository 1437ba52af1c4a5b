/-! THE CLASS'S METHODS THAT HAND ON -/
section Deleg
variable {Γ : em_Cx} {n m : Nat} {dl : Nat → Nat} {I : Nat → Nat → Int32} {J : Nat → Nat → Int64} {rv : em_Rv}
theorem d_beast {K : Nat} {x0 x1 : Int32} {v : Int32} {hp' : em_Hp} (hB : 85 ≤ n) (h : em_MC Γ K mX3_tellBeast [.ref 1, .int x0, .int x1] (em_hm n m dl I J rv) (some (.int v)) hp') : em_MC Γ (K + 1) mX7_beast [.ref 0, .int x0, .int x1] (em_hm n m dl I J rv) (some (.int v)) hp' := by
  refine em_MC_of h.1 h.2.1 (by decide +kernel) rfl (Nat.le_of_ble_eq_true rfl) ?_
  (repeat (refine em_pure hB kX7_beast rfl ?_))
  refine em_callV (μ' := mX3_tellBeast) (c1 := 3) kX7_beast rfl lX7_80 tX3_tellBeast (by decide) rfl (em_ltB hB rfl) h rfl rfl (Nat.le_refl _) (Nat.le_of_ble_eq_true rfl) (Nat.le_refl _) (Nat.le_refl _) ?_
  exact em_iret kX7_beast rfl rfl rfl rfl
theorem d_gone {K : Nat} {x0 x1 : Int32} {v : Int32} {hp' : em_Hp} (hB : 85 ≤ n) (h : em_MC Γ K mX3_tellGone [.ref 1, .int x0, .int x1] (em_hm n m dl I J rv) (some (.int v)) hp') (hv : narrow .boolean (.int v) = .int v) : em_MC Γ (K + 1) mX7_gone [.ref 0, .int x0, .int x1] (em_hm n m dl I J rv) (some (.int v)) hp' := by
  refine em_MC_of h.1 h.2.1 (by decide +kernel) rfl (Nat.le_of_ble_eq_true rfl) ?_
  (repeat (refine em_pure hB kX7_gone rfl ?_))
  refine em_callV (μ' := mX3_tellGone) (c1 := 3) kX7_gone rfl lX7_84 tX3_tellGone (by decide) rfl (em_ltB hB rfl) h rfl rfl (Nat.le_refl _) (Nat.le_of_ble_eq_true rfl) (Nat.le_refl _) (Nat.le_refl _) ?_
  exact em_iret kX7_gone rfl rfl hv rfl
theorem d_here {K : Nat} {x0 x1 x2 : Int32} {v : Int32} {hp' : em_Hp} (hB : 85 ≤ n) (h : em_MC Γ K mX3_isHere [.ref 1, .int x0, .int x1, .int x2] (em_hm n m dl I J rv) (some (.int v)) hp') (hv : narrow .boolean (.int v) = .int v) : em_MC Γ (K + 1) mX7_here [.ref 0, .int x0, .int x1, .int x2] (em_hm n m dl I J rv) (some (.int v)) hp' := by
  refine em_MC_of h.1 h.2.1 (by decide +kernel) rfl (Nat.le_of_ble_eq_true rfl) ?_
  (repeat (refine em_pure hB kX7_here rfl ?_))
  refine em_callV (μ' := mX3_isHere) (c1 := 3) kX7_here rfl lX7_87 tX3_isHere (by decide) rfl (em_ltB hB rfl) h rfl rfl (Nat.le_refl _) (Nat.le_of_ble_eq_true rfl) (Nat.le_refl _) (Nat.le_refl _) ?_
  exact em_iret kX7_here rfl rfl hv rfl
theorem d_ration {K : Nat} {x0 x1 : Int32} {v : Int32} {hp' : em_Hp} (hB : 85 ≤ n) (h : em_MC Γ K mX3_rationOf [.ref 1, .int x0, .int x1] (em_hm n m dl I J rv) (some (.int v)) hp') : em_MC Γ (K + 1) mX7_ration [.ref 0, .int x0, .int x1] (em_hm n m dl I J rv) (some (.int v)) hp' := by
  refine em_MC_of h.1 h.2.1 (by decide +kernel) rfl (Nat.le_of_ble_eq_true rfl) ?_
  (repeat (refine em_pure hB kX7_ration rfl ?_))
  refine em_callV (μ' := mX3_rationOf) (c1 := 3) kX7_ration rfl lX7_90 tX3_rationOf (by decide) rfl (em_ltB hB rfl) h rfl rfl (Nat.le_refl _) (Nat.le_of_ble_eq_true rfl) (Nat.le_refl _) (Nat.le_refl _) ?_
  exact em_iret kX7_ration rfl rfl rfl rfl
theorem d_line {K : Nat} {x0 x1 : Int32} {v : Int32} {hp' : em_Hp} (hB : 85 ≤ n) (h : em_MC Γ K mX0_linePart [.ref 12, .int x0, .int x1] (em_hm n m dl I J rv) (some (.int v)) hp') : em_MC Γ (K + 1) mX7_line [.ref 0, .int x0, .int x1] (em_hm n m dl I J rv) (some (.int v)) hp' := by
  refine em_MC_of h.1 h.2.1 (by decide +kernel) rfl (Nat.le_of_ble_eq_true rfl) ?_
  (repeat (refine em_pure hB kX7_line rfl ?_))
  refine em_callV (μ' := mX0_linePart) (c1 := 0) kX7_line rfl lX7_108 tX0_linePart (by decide) rfl (em_ltB hB rfl) h rfl rfl (Nat.le_refl _) (Nat.le_of_ble_eq_true rfl) (Nat.le_refl _) (Nat.le_refl _) ?_
  exact em_iret kX7_line rfl rfl rfl rfl
theorem d_booked {K : Nat} {x0 : Int32} {v : Int32} {hp' : em_Hp} (hB : 85 ≤ n) (h : em_MC Γ K mX0_unitsFor [.ref 12, .int x0] (em_hm n m dl I J rv) (some (.int v)) hp') : em_MC Γ (K + 1) mX7_booked [.ref 0, .int x0] (em_hm n m dl I J rv) (some (.int v)) hp' := by
  refine em_MC_of h.1 h.2.1 (by decide +kernel) rfl (Nat.le_of_ble_eq_true rfl) ?_
  (repeat (refine em_pure hB kX7_booked rfl ?_))
  refine em_callV (μ' := mX0_unitsFor) (c1 := 0) kX7_booked rfl lX7_111 tX0_unitsFor (by decide) rfl (em_ltB hB rfl) h rfl rfl (Nat.le_refl _) (Nat.le_of_ble_eq_true rfl) (Nat.le_refl _) (Nat.le_refl _) ?_
  exact em_iret kX7_booked rfl rfl rfl rfl
theorem d_load {K : Nat} {x0 x1 : Int32} {v : Int32} {hp' : em_Hp} (hB : 85 ≤ n) (h : em_MC Γ K mX6_put [.ref 15, .int x0, .int x1] (em_hm n m dl I J rv) (some (.int v)) hp') (hv : narrow .boolean (.int v) = .int v) : em_MC Γ (K + 1) mX7_load [.ref 0, .int x0, .int x1] (em_hm n m dl I J rv) (some (.int v)) hp' := by
  refine em_MC_of h.1 h.2.1 (by decide +kernel) rfl (Nat.le_of_ble_eq_true rfl) ?_
  (repeat (refine em_pure hB kX7_load rfl ?_))
  refine em_callV (μ' := mX6_put) (c1 := 6) kX7_load rfl lX7_115 tX6_put (by decide) rfl (em_ltB hB rfl) h rfl rfl (Nat.le_refl _) (Nat.le_of_ble_eq_true rfl) (Nat.le_refl _) (Nat.le_refl _) ?_
  exact em_iret kX7_load rfl rfl hv rfl
theorem d_bar {K : Nat} {x0 x1 x2 : Int32} {v : Int32} {hp' : em_Hp} (hB : 85 ≤ n) (h : em_MC Γ K mX6_setBar [.ref 15, .int x0, .int x1, .int x2] (em_hm n m dl I J rv) (some (.int v)) hp') (hv : narrow .boolean (.int v) = .int v) : em_MC Γ (K + 1) mX7_bar [.ref 0, .int x0, .int x1, .int x2] (em_hm n m dl I J rv) (some (.int v)) hp' := by
  refine em_MC_of h.1 h.2.1 (by decide +kernel) rfl (Nat.le_of_ble_eq_true rfl) ?_
  (repeat (refine em_pure hB kX7_bar rfl ?_))
  refine em_callV (μ' := mX6_setBar) (c1 := 6) kX7_bar rfl lX7_118 tX6_setBar (by decide) rfl (em_ltB hB rfl) h rfl rfl (Nat.le_refl _) (Nat.le_of_ble_eq_true rfl) (Nat.le_refl _) (Nat.le_refl _) ?_
  exact em_iret kX7_bar rfl rfl hv rfl
theorem d_order {K : Nat} {x0 : Int32} {v : Int32} {hp' : em_Hp} (hB : 85 ≤ n) (h : em_MC Γ K mX6_placeInOrder [.ref 15, .int x0] (em_hm n m dl I J rv) (some (.int v)) hp') : em_MC Γ (K + 1) mX7_order [.ref 0, .int x0] (em_hm n m dl I J rv) (some (.int v)) hp' := by
  refine em_MC_of h.1 h.2.1 (by decide +kernel) rfl (Nat.le_of_ble_eq_true rfl) ?_
  (repeat (refine em_pure hB kX7_order rfl ?_))
  refine em_callV (μ' := mX6_placeInOrder) (c1 := 6) kX7_order rfl lX7_131 tX6_placeInOrder (by decide) rfl (em_ltB hB rfl) h rfl rfl (Nat.le_refl _) (Nat.le_of_ble_eq_true rfl) (Nat.le_refl _) (Nat.le_refl _) ?_
  exact em_iret kX7_order rfl rfl rfl rfl
theorem d_town {K : Nat} {x0 x1 x2 : Int32} {v : Int32} {hp' : em_Hp} (hB : 85 ≤ n) (h : em_MC Γ K mX1_addTown [.ref 21, .int x0, .int x1, .int x2] (em_hm n m dl I J rv) (some (.int v)) hp') : em_MC Γ (K + 1) mX7_town [.ref 0, .int x0, .int x1, .int x2] (em_hm n m dl I J rv) (some (.int v)) hp' := by
  refine em_MC_of h.1 h.2.1 (by decide +kernel) rfl (Nat.le_of_ble_eq_true rfl) ?_
  (repeat (refine em_pure hB kX7_town rfl ?_))
  refine em_callV (μ' := mX1_addTown) (c1 := 1) kX7_town rfl lX7_134 tX1_addTown (by decide) rfl (em_ltB hB rfl) h rfl rfl (Nat.le_refl _) (Nat.le_of_ble_eq_true rfl) (Nat.le_refl _) (Nat.le_refl _) ?_
  exact em_iret kX7_town rfl rfl rfl rfl
theorem d_way {K : Nat} {x0 x1 x2 : Int32} {v : Int32} {hp' : em_Hp} (hB : 85 ≤ n) (h : em_MC Γ K mX1_setWay [.ref 21, .int x0, .int x1, .int x2] (em_hm n m dl I J rv) (some (.int v)) hp') (hv : narrow .boolean (.int v) = .int v) : em_MC Γ (K + 1) mX7_way [.ref 0, .int x0, .int x1, .int x2] (em_hm n m dl I J rv) (some (.int v)) hp' := by
  refine em_MC_of h.1 h.2.1 (by decide +kernel) rfl (Nat.le_of_ble_eq_true rfl) ?_
  (repeat (refine em_pure hB kX7_way rfl ?_))
  refine em_callV (μ' := mX1_setWay) (c1 := 1) kX7_way rfl lX7_138 tX1_setWay (by decide) rfl (em_ltB hB rfl) h rfl rfl (Nat.le_refl _) (Nat.le_of_ble_eq_true rfl) (Nat.le_refl _) (Nat.le_refl _) ?_
  exact em_iret kX7_way rfl rfl hv rfl
theorem d_fodder {K : Nat} {x0 : Int32} {v : Int32} {hp' : em_Hp} (hB : 85 ≤ n) (h : em_MC Γ K mX1_setFodder [.ref 21, .int x0] (em_hm n m dl I J rv) (some (.int v)) hp') (hv : narrow .boolean (.int v) = .int v) : em_MC Γ (K + 1) mX7_fodder [.ref 0, .int x0] (em_hm n m dl I J rv) (some (.int v)) hp' := by
  refine em_MC_of h.1 h.2.1 (by decide +kernel) rfl (Nat.le_of_ble_eq_true rfl) ?_
  (repeat (refine em_pure hB kX7_fodder rfl ?_))
  refine em_callV (μ' := mX1_setFodder) (c1 := 1) kX7_fodder rfl lX7_141 tX1_setFodder (by decide) rfl (em_ltB hB rfl) h rfl rfl (Nat.le_refl _) (Nat.le_of_ble_eq_true rfl) (Nat.le_refl _) (Nat.le_refl _) ?_
  exact em_iret kX7_fodder rfl rfl hv rfl
theorem d_tour {K : Nat} {x0 x1 : Int32} {v : Int32} {hp' : em_Hp} (hB : 85 ≤ n) (h : em_MC Γ K mX1_bestBrings [.ref 21, .int x0, .int x1] (em_hm n m dl I J rv) (some (.int v)) hp') : em_MC Γ (K + 1) mX7_tour [.ref 0, .int x0, .int x1] (em_hm n m dl I J rv) (some (.int v)) hp' := by
  refine em_MC_of h.1 h.2.1 (by decide +kernel) rfl (Nat.le_of_ble_eq_true rfl) ?_
  (repeat (refine em_pure hB kX7_tour rfl ?_))
  refine em_callV (μ' := mX1_bestBrings) (c1 := 1) kX7_tour rfl lX7_144 tX1_bestBrings (by decide) rfl (em_ltB hB rfl) h rfl rfl (Nat.le_refl _) (Nat.le_of_ble_eq_true rfl) (Nat.le_refl _) (Nat.le_refl _) ?_
  exact em_iret kX7_tour rfl rfl rfl rfl
theorem d_stop {K : Nat} {x0 x1 x2 : Int32} {v : Int32} {hp' : em_Hp} (hB : 85 ≤ n) (h : em_MC Γ K mX1_bestStop [.ref 21, .int x0, .int x1, .int x2] (em_hm n m dl I J rv) (some (.int v)) hp') : em_MC Γ (K + 1) mX7_stop [.ref 0, .int x0, .int x1, .int x2] (em_hm n m dl I J rv) (some (.int v)) hp' := by
  refine em_MC_of h.1 h.2.1 (by decide +kernel) rfl (Nat.le_of_ble_eq_true rfl) ?_
  (repeat (refine em_pure hB kX7_stop rfl ?_))
  refine em_callV (μ' := mX1_bestStop) (c1 := 1) kX7_stop rfl lX7_147 tX1_bestStop (by decide) rfl (em_ltB hB rfl) h rfl rfl (Nat.le_refl _) (Nat.le_of_ble_eq_true rfl) (Nat.le_refl _) (Nat.le_refl _) ?_
  exact em_iret kX7_stop rfl rfl rfl rfl
theorem d_end {K : Nat} {x0 : Int32} {v : Int32} {hp' : em_Hp} (hB : 85 ≤ n) (h : em_MC Γ K mX5_cutTo [.ref 28, .int x0] (em_hm n m dl I J rv) (some (.int v)) hp') (hv : narrow .boolean (.int v) = .int v) : em_MC Γ (K + 1) mX7_end [.ref 0, .int x0] (em_hm n m dl I J rv) (some (.int v)) hp' := by
  refine em_MC_of h.1 h.2.1 (by decide +kernel) rfl (Nat.le_of_ble_eq_true rfl) ?_
  (repeat (refine em_pure hB kX7_end rfl ?_))
  refine em_callV (μ' := mX5_cutTo) (c1 := 5) kX7_end rfl lX7_163 tX5_cutTo (by decide) rfl (em_ltB hB rfl) h rfl rfl (Nat.le_refl _) (Nat.le_of_ble_eq_true rfl) (Nat.le_refl _) (Nat.le_refl _) ?_
  exact em_iret kX7_end rfl rfl hv rfl
theorem d_wall {K : Nat} {x0 x1 : Int32} {v : Int32} {hp' : em_Hp} (hB : 85 ≤ n) (h : em_MC Γ K mX2_setWall [.ref 49, .int x0, .int x1] (em_hm n m dl I J rv) (some (.int v)) hp') (hv : narrow .boolean (.int v) = .int v) : em_MC Γ (K + 1) mX7_wall [.ref 0, .int x0, .int x1] (em_hm n m dl I J rv) (some (.int v)) hp' := by
  refine em_MC_of h.1 h.2.1 (by decide +kernel) rfl (Nat.le_of_ble_eq_true rfl) ?_
  (repeat (refine em_pure hB kX7_wall rfl ?_))
  refine em_callV (μ' := mX2_setWall) (c1 := 2) kX7_wall rfl lX7_189 tX2_setWall (by decide) rfl (em_ltB hB rfl) h rfl rfl (Nat.le_refl _) (Nat.le_of_ble_eq_true rfl) (Nat.le_refl _) (Nat.le_refl _) ?_
  exact em_iret kX7_wall rfl rfl hv rfl
theorem d_hour {K : Nat} {v : Int32} {hp' : em_Hp} (hB : 85 ≤ n) (h : em_MC Γ K mX2_passHour [.ref 49] (em_hm n m dl I J rv) (some (.int v)) hp') : em_MC Γ (K + 1) mX7_hour [.ref 0] (em_hm n m dl I J rv) (some (.int v)) hp' := by
  refine em_MC_of h.1 h.2.1 (by decide +kernel) rfl (Nat.le_of_ble_eq_true rfl) ?_
  (repeat (refine em_pure hB kX7_hour rfl ?_))
  refine em_callV (μ' := mX2_passHour) (c1 := 2) kX7_hour rfl lX7_199 tX2_passHour (by decide) rfl (em_ltB hB rfl) h rfl rfl (Nat.le_refl _) (Nat.le_of_ble_eq_true rfl) (Nat.le_refl _) (Nat.le_refl _) ?_
  exact em_iret kX7_hour rfl rfl rfl rfl
theorem d_look {K : Nat} {x0 : Int32} {v : Int32} {hp' : em_Hp} (hB : 85 ≤ n) (h : em_MC Γ K mX2_lookAt [.ref 49, .int x0] (em_hm n m dl I J rv) (some (.int v)) hp') : em_MC Γ (K + 1) mX7_look [.ref 0, .int x0] (em_hm n m dl I J rv) (some (.int v)) hp' := by
  refine em_MC_of h.1 h.2.1 (by decide +kernel) rfl (Nat.le_of_ble_eq_true rfl) ?_
  (repeat (refine em_pure hB kX7_look rfl ?_))
  refine em_callV (μ' := mX2_lookAt) (c1 := 2) kX7_look rfl lX7_202 tX2_lookAt (by decide) rfl (em_ltB hB rfl) h rfl rfl (Nat.le_refl _) (Nat.le_of_ble_eq_true rfl) (Nat.le_refl _) (Nat.le_refl _) ?_
  exact em_iret kX7_look rfl rfl rfl rfl
theorem d_maybe {K : Nat} {x0 : Int32} {v : Int64} {hp' : em_Hp} (hB : 85 ≤ n) (h : em_MC Γ K mX2_maybeOf [.ref 49, .int x0] (em_hm n m dl I J rv) (some (.long v)) hp') : em_MC Γ (K + 1) mX7_maybe [.ref 0, .int x0] (em_hm n m dl I J rv) (some (.long v)) hp' := by
  refine em_MC_of h.1 h.2.1 (by decide +kernel) rfl (Nat.le_of_ble_eq_true rfl) ?_
  (repeat (refine em_pure hB kX7_maybe rfl ?_))
  refine em_callV (μ' := mX2_maybeOf) (c1 := 2) kX7_maybe rfl lX7_205 tX2_maybeOf (by decide) rfl (em_ltB hB rfl) h rfl rfl (Nat.le_refl _) (Nat.le_of_ble_eq_true rfl) (Nat.le_refl _) (Nat.le_refl _) ?_
  exact em_lret kX7_maybe rfl rfl rfl
theorem d_chance {K : Nat} {x0 x1 : Int32} {v : Int64} {hp' : em_Hp} (hB : 85 ≤ n) (h : em_MC Γ K mX2_chanceOf [.ref 49, .int x0, .int x1] (em_hm n m dl I J rv) (some (.long v)) hp') : em_MC Γ (K + 1) mX7_chance [.ref 0, .int x0, .int x1] (em_hm n m dl I J rv) (some (.long v)) hp' := by
  refine em_MC_of h.1 h.2.1 (by decide +kernel) rfl (Nat.le_of_ble_eq_true rfl) ?_
  (repeat (refine em_pure hB kX7_chance rfl ?_))
  refine em_callV (μ' := mX2_chanceOf) (c1 := 2) kX7_chance rfl lX7_209 tX2_chanceOf (by decide) rfl (em_ltB hB rfl) h rfl rfl (Nat.le_refl _) (Nat.le_of_ble_eq_true rfl) (Nat.le_refl _) (Nat.le_refl _) ?_
  exact em_lret kX7_chance rfl rfl rfl
theorem d_where {K : Nat} {v : Int32} {hp' : em_Hp} (hB : 85 ≤ n) (h : em_MC Γ K mX2_likeliest [.ref 49] (em_hm n m dl I J rv) (some (.int v)) hp') : em_MC Γ (K + 1) mX7_where [.ref 0] (em_hm n m dl I J rv) (some (.int v)) hp' := by
  refine em_MC_of h.1 h.2.1 (by decide +kernel) rfl (Nat.le_of_ble_eq_true rfl) ?_
  (repeat (refine em_pure hB kX7_where rfl ?_))
  refine em_callV (μ' := mX2_likeliest) (c1 := 2) kX7_where rfl lX7_213 tX2_likeliest (by decide) rfl (em_ltB hB rfl) h rfl rfl (Nat.le_refl _) (Nat.le_of_ble_eq_true rfl) (Nat.le_refl _) (Nat.le_refl _) ?_
  exact em_iret kX7_where rfl rfl rfl rfl
end Deleg
