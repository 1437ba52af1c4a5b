/-! THE LAW'S CASES -/
abbrev el_lc (i : Nat) : List (Nat × Value) := [(0, .float 0), (1, .ref 0), (2, .ref 53), (3, .int (nI i))]
def eL (nm : String) : em_Me := ((RL, ⟨yL_law.cls, nm, yL_law.desc⟩, cL_law, 4, some .boolean), iL_law, fL, qL)
theorem kEL (nm : String) : em_ok (eL nm) := kL_law
abbrev el_go (nm : String) (Γ : em_Cx) (hp0 : em_Hp) (pc i n m : Nat) (dl : Nat → Nat) (I : Nat → Nat → Int32) (J : Nat → Nat → Int64) (rv : em_Rv) : Prop := ∃ (n3 m3 : Nat) (dl3 : Nat → Nat) (I3 : Nat → Nat → Int32) (J3 : Nat → Nat → Int64) (rv3 : em_Rv), em_Inv n3 m3 dl3 I3 J3 rv3 ∧ n ≤ n3 ∧ m ≤ m3 ∧ em_EW Γ 24 (eL nm) hp0 (some (.int 1), em_hm n3 m3 dl3 I3 J3 rv3) pc (el_lc i) [] (em_hm n m dl I J rv)
theorem el_ld {Γ : em_Cx} {K : Nat} {μ : em_Me} {hp0 hp : em_Hp} {fin : Option Value × em_Hp} {pc a nx q : Nat} {lc : List (Nat × Value)} {t : List Value} {x : Int32} (hok : em_ok μ) (h : em_at1 62 μ pc = some (a, nx)) (hL : em_L Γ ≤ 3072) (e : x = nI q) (hq : q < em_L Γ) (kk : em_EW Γ K μ hp0 fin nx lc (.int (em_s Γ q) :: t) hp) : em_EW Γ K μ hp0 fin pc lc (.int x :: .float 0 :: t) hp := by
  refine em_sld hok h ?_ ?_
  · rw [e]
    exact nI_in hq (by omega)
  · rw [e, nI_clamp (by omega)]
    exact kk
theorem em_Inv.n85 {n m : Nat} {dl : Nat → Nat} {I : Nat → Nat → Int32} {J : Nat → Nat → Int64} {rv : em_Rv} (H : em_Inv n m dl I J rv) : 85 ≤ n := by
  obtain ⟨N, G, t, c, lam, mu, T, S, h, H⟩ := H
  exact H.hB
section Cases
variable {nm : String} {Γ : em_Cx} {hp0 : em_Hp} {n m i : Nat} {dl : Nat → Nat} {I : Nat → Nat → Int32} {J : Nat → Nat → Int64} {rv : em_Rv}
theorem el_cmp (v : Int64) : lg_cmp v v = 0 := (lg_cmp_eq v v).mpr rfl
theorem el_kind (hL : em_L Γ ≤ 3072) (hi : i + 6 ≤ em_L Γ) (H : em_Inv n m dl I J rv) (kk : ∀ n2 m2 dl2 I2 J2 rv2, em_Inv n2 m2 dl2 I2 J2 rv2 → el_go nm Γ hp0 1149 i n2 m2 dl2 I2 J2 rv2) : el_go nm Γ hp0 172 i n m dl I J rv := by
  have hB := H.n85
  obtain ⟨v, K1, K2, hp1, n2, m2, dl2, I2, J2, rv2, h1, h2, c, r, hI⟩ := p_kind (Γ := Γ) H (x := em_s Γ (i + 1)) (y := em_s Γ (i + 2)) (z := em_s Γ (i + 3))
  obtain ⟨n3, m3, dl3, I3, J3, rv3, g1, g2, g3, g4⟩ := kk n2 m2 dl2 I2 J2 rv2 hI
  have c1 : n ≤ em_n hp1 := c.1
  have c2 : m ≤ em_m hp1 := c.2.1
  have r1 : em_n hp1 ≤ n2 := r.1
  have r2 : em_m hp1 ≤ m2 := r.2.1
  refine ⟨n3, m3, dl3, I3, J3, rv3, g1, by omega, by omega, ?_⟩
  (repeat (refine em_pure (Nat.zero_le _) (kEL nm) rfl ?_))
  refine el_ld (q := i + 1) (kEL nm) rfl hL (nI_add i 1) (by omega) ?_
  (repeat (refine em_pure (Nat.zero_le _) (kEL nm) rfl ?_))
  refine el_ld (q := i + 2) (kEL nm) rfl hL (nI_add i 2) (by omega) ?_
  (repeat (refine em_pure (Nat.zero_le _) (kEL nm) rfl ?_))
  refine el_ld (q := i + 3) (kEL nm) rfl hL (nI_add i 3) (by omega) ?_
  (repeat (refine em_pure (Nat.zero_le _) (kEL nm) rfl ?_))
  refine em_callV (μ' := mX7_kind) (c1 := 7) (kEL nm) rfl lL_13 tX7_kind (by decide) rfl (show 0 < n by omega) c rfl rfl (by omega) (Nat.le_of_ble_eq_true rfl) (show em_n hp1 ≤ n3 by omega) (show em_m hp1 ≤ m3 by omega) ?_
  (repeat (refine em_pure (Nat.zero_le _) (kEL nm) rfl ?_))
  refine el_ld (q := i + 1) (kEL nm) rfl hL (nI_add i 1) (by omega) ?_
  (repeat (refine em_pure (Nat.zero_le _) (kEL nm) rfl ?_))
  refine el_ld (q := i + 2) (kEL nm) rfl hL (nI_add i 2) (by omega) ?_
  (repeat (refine em_pure (Nat.zero_le _) (kEL nm) rfl ?_))
  refine el_ld (q := i + 3) (kEL nm) rfl hL (nI_add i 3) (by omega) ?_
  (repeat (refine em_pure (Nat.zero_le _) (kEL nm) rfl ?_))
  refine em_callV (μ' := mX8_kind) (c1 := 8) (kEL nm) rfl lL_17 tX8_kind (by decide) rfl (show 53 < em_n hp1 by omega) r rfl rfl (by omega) (Nat.le_of_ble_eq_true rfl) (show n2 ≤ n3 by omega) (show m2 ≤ m3 by omega) ?_
  (repeat (refine em_pure (Nat.zero_le _) (kEL nm) rfl ?_))
  refine em_branch (kEL nm) rfl (fun _ => em_loc rfl g4) (fun z => absurd rfl z)
theorem el_beast (hL : em_L Γ ≤ 3072) (hi : i + 6 ≤ em_L Γ) (H : em_Inv n m dl I J rv) (kk : ∀ n2 m2 dl2 I2 J2 rv2, em_Inv n2 m2 dl2 I2 J2 rv2 → el_go nm Γ hp0 1149 i n2 m2 dl2 I2 J2 rv2) : el_go nm Γ hp0 215 i n m dl I J rv := by
  have hB := H.n85
  obtain ⟨v, K1, K2, hp1, n2, m2, dl2, I2, J2, rv2, h1, h2, c, r, hI⟩ := p_beast (Γ := Γ) H (x := em_s Γ (i + 1)) (y := em_s Γ (i + 2))
  obtain ⟨n3, m3, dl3, I3, J3, rv3, g1, g2, g3, g4⟩ := kk n2 m2 dl2 I2 J2 rv2 hI
  have c1 : n ≤ em_n hp1 := c.1
  have c2 : m ≤ em_m hp1 := c.2.1
  have r1 : em_n hp1 ≤ n2 := r.1
  have r2 : em_m hp1 ≤ m2 := r.2.1
  refine ⟨n3, m3, dl3, I3, J3, rv3, g1, by omega, by omega, ?_⟩
  (repeat (refine em_pure (Nat.zero_le _) (kEL nm) rfl ?_))
  refine el_ld (q := i + 1) (kEL nm) rfl hL (nI_add i 1) (by omega) ?_
  (repeat (refine em_pure (Nat.zero_le _) (kEL nm) rfl ?_))
  refine el_ld (q := i + 2) (kEL nm) rfl hL (nI_add i 2) (by omega) ?_
  (repeat (refine em_pure (Nat.zero_le _) (kEL nm) rfl ?_))
  refine em_callV (μ' := mX7_beast) (c1 := 7) (kEL nm) rfl lL_18 tX7_beast (by decide) rfl (show 0 < n by omega) c rfl rfl (by omega) (Nat.le_of_ble_eq_true rfl) (show em_n hp1 ≤ n3 by omega) (show em_m hp1 ≤ m3 by omega) ?_
  (repeat (refine em_pure (Nat.zero_le _) (kEL nm) rfl ?_))
  refine el_ld (q := i + 1) (kEL nm) rfl hL (nI_add i 1) (by omega) ?_
  (repeat (refine em_pure (Nat.zero_le _) (kEL nm) rfl ?_))
  refine el_ld (q := i + 2) (kEL nm) rfl hL (nI_add i 2) (by omega) ?_
  (repeat (refine em_pure (Nat.zero_le _) (kEL nm) rfl ?_))
  refine em_callV (μ' := mX8_beast) (c1 := 8) (kEL nm) rfl lL_22 tX8_beast (by decide) rfl (show 53 < em_n hp1 by omega) r rfl rfl (by omega) (Nat.le_of_ble_eq_true rfl) (show n2 ≤ n3 by omega) (show m2 ≤ m3 by omega) ?_
  (repeat (refine em_pure (Nat.zero_le _) (kEL nm) rfl ?_))
  refine em_branch (kEL nm) rfl (fun _ => em_loc rfl g4) (fun z => absurd rfl z)
theorem el_gone (hL : em_L Γ ≤ 3072) (hi : i + 6 ≤ em_L Γ) (H : em_Inv n m dl I J rv) (kk : ∀ n2 m2 dl2 I2 J2 rv2, em_Inv n2 m2 dl2 I2 J2 rv2 → el_go nm Γ hp0 1149 i n2 m2 dl2 I2 J2 rv2) : el_go nm Γ hp0 248 i n m dl I J rv := by
  have hB := H.n85
  obtain ⟨v, K1, K2, hp1, n2, m2, dl2, I2, J2, rv2, h1, h2, c, r, hI⟩ := p_gone (Γ := Γ) H (x := em_s Γ (i + 1)) (y := em_s Γ (i + 2))
  obtain ⟨n3, m3, dl3, I3, J3, rv3, g1, g2, g3, g4⟩ := kk n2 m2 dl2 I2 J2 rv2 hI
  have c1 : n ≤ em_n hp1 := c.1
  have c2 : m ≤ em_m hp1 := c.2.1
  have r1 : em_n hp1 ≤ n2 := r.1
  have r2 : em_m hp1 ≤ m2 := r.2.1
  refine ⟨n3, m3, dl3, I3, J3, rv3, g1, by omega, by omega, ?_⟩
  (repeat (refine em_pure (Nat.zero_le _) (kEL nm) rfl ?_))
  refine el_ld (q := i + 1) (kEL nm) rfl hL (nI_add i 1) (by omega) ?_
  (repeat (refine em_pure (Nat.zero_le _) (kEL nm) rfl ?_))
  refine el_ld (q := i + 2) (kEL nm) rfl hL (nI_add i 2) (by omega) ?_
  (repeat (refine em_pure (Nat.zero_le _) (kEL nm) rfl ?_))
  refine em_callV (μ' := mX7_gone) (c1 := 7) (kEL nm) rfl lL_23 tX7_gone (by decide) rfl (show 0 < n by omega) c rfl rfl (by omega) (Nat.le_of_ble_eq_true rfl) (show em_n hp1 ≤ n3 by omega) (show em_m hp1 ≤ m3 by omega) ?_
  (repeat (refine em_pure (Nat.zero_le _) (kEL nm) rfl ?_))
  refine el_ld (q := i + 1) (kEL nm) rfl hL (nI_add i 1) (by omega) ?_
  (repeat (refine em_pure (Nat.zero_le _) (kEL nm) rfl ?_))
  refine el_ld (q := i + 2) (kEL nm) rfl hL (nI_add i 2) (by omega) ?_
  (repeat (refine em_pure (Nat.zero_le _) (kEL nm) rfl ?_))
  refine em_callV (μ' := mX8_gone) (c1 := 8) (kEL nm) rfl lL_27 tX8_gone (by decide) rfl (show 53 < em_n hp1 by omega) r rfl rfl (by omega) (Nat.le_of_ble_eq_true rfl) (show n2 ≤ n3 by omega) (show m2 ≤ m3 by omega) ?_
  (repeat (refine em_pure (Nat.zero_le _) (kEL nm) rfl ?_))
  refine em_branch (kEL nm) rfl (fun _ => em_loc rfl g4) (fun z => absurd rfl z)
theorem el_here (hL : em_L Γ ≤ 3072) (hi : i + 6 ≤ em_L Γ) (H : em_Inv n m dl I J rv) (kk : ∀ n2 m2 dl2 I2 J2 rv2, em_Inv n2 m2 dl2 I2 J2 rv2 → el_go nm Γ hp0 1149 i n2 m2 dl2 I2 J2 rv2) : el_go nm Γ hp0 281 i n m dl I J rv := by
  have hB := H.n85
  obtain ⟨v, K1, K2, hp1, n2, m2, dl2, I2, J2, rv2, h1, h2, c, r, hI⟩ := p_here (Γ := Γ) H (x := em_s Γ (i + 1)) (y := em_s Γ (i + 2)) (z := em_s Γ (i + 3))
  obtain ⟨n3, m3, dl3, I3, J3, rv3, g1, g2, g3, g4⟩ := kk n2 m2 dl2 I2 J2 rv2 hI
  have c1 : n ≤ em_n hp1 := c.1
  have c2 : m ≤ em_m hp1 := c.2.1
  have r1 : em_n hp1 ≤ n2 := r.1
  have r2 : em_m hp1 ≤ m2 := r.2.1
  refine ⟨n3, m3, dl3, I3, J3, rv3, g1, by omega, by omega, ?_⟩
  (repeat (refine em_pure (Nat.zero_le _) (kEL nm) rfl ?_))
  refine el_ld (q := i + 1) (kEL nm) rfl hL (nI_add i 1) (by omega) ?_
  (repeat (refine em_pure (Nat.zero_le _) (kEL nm) rfl ?_))
  refine el_ld (q := i + 2) (kEL nm) rfl hL (nI_add i 2) (by omega) ?_
  (repeat (refine em_pure (Nat.zero_le _) (kEL nm) rfl ?_))
  refine el_ld (q := i + 3) (kEL nm) rfl hL (nI_add i 3) (by omega) ?_
  (repeat (refine em_pure (Nat.zero_le _) (kEL nm) rfl ?_))
  refine em_callV (μ' := mX7_here) (c1 := 7) (kEL nm) rfl lL_28 tX7_here (by decide) rfl (show 0 < n by omega) c rfl rfl (by omega) (Nat.le_of_ble_eq_true rfl) (show em_n hp1 ≤ n3 by omega) (show em_m hp1 ≤ m3 by omega) ?_
  (repeat (refine em_pure (Nat.zero_le _) (kEL nm) rfl ?_))
  refine el_ld (q := i + 1) (kEL nm) rfl hL (nI_add i 1) (by omega) ?_
  (repeat (refine em_pure (Nat.zero_le _) (kEL nm) rfl ?_))
  refine el_ld (q := i + 2) (kEL nm) rfl hL (nI_add i 2) (by omega) ?_
  (repeat (refine em_pure (Nat.zero_le _) (kEL nm) rfl ?_))
  refine el_ld (q := i + 3) (kEL nm) rfl hL (nI_add i 3) (by omega) ?_
  (repeat (refine em_pure (Nat.zero_le _) (kEL nm) rfl ?_))
  refine em_callV (μ' := mX8_here) (c1 := 8) (kEL nm) rfl lL_31 tX8_here (by decide) rfl (show 53 < em_n hp1 by omega) r rfl rfl (by omega) (Nat.le_of_ble_eq_true rfl) (show n2 ≤ n3 by omega) (show m2 ≤ m3 by omega) ?_
  (repeat (refine em_pure (Nat.zero_le _) (kEL nm) rfl ?_))
  refine em_branch (kEL nm) rfl (fun _ => em_loc rfl g4) (fun z => absurd rfl z)
theorem el_ration (hL : em_L Γ ≤ 3072) (hi : i + 6 ≤ em_L Γ) (H : em_Inv n m dl I J rv) (kk : ∀ n2 m2 dl2 I2 J2 rv2, em_Inv n2 m2 dl2 I2 J2 rv2 → el_go nm Γ hp0 1149 i n2 m2 dl2 I2 J2 rv2) : el_go nm Γ hp0 324 i n m dl I J rv := by
  have hB := H.n85
  obtain ⟨v, K1, K2, hp1, n2, m2, dl2, I2, J2, rv2, h1, h2, c, r, hI⟩ := p_ration (Γ := Γ) H (y := em_s Γ (i + 1)) (z := em_s Γ (i + 2))
  obtain ⟨n3, m3, dl3, I3, J3, rv3, g1, g2, g3, g4⟩ := kk n2 m2 dl2 I2 J2 rv2 hI
  have c1 : n ≤ em_n hp1 := c.1
  have c2 : m ≤ em_m hp1 := c.2.1
  have r1 : em_n hp1 ≤ n2 := r.1
  have r2 : em_m hp1 ≤ m2 := r.2.1
  refine ⟨n3, m3, dl3, I3, J3, rv3, g1, by omega, by omega, ?_⟩
  (repeat (refine em_pure (Nat.zero_le _) (kEL nm) rfl ?_))
  refine el_ld (q := i + 1) (kEL nm) rfl hL (nI_add i 1) (by omega) ?_
  (repeat (refine em_pure (Nat.zero_le _) (kEL nm) rfl ?_))
  refine el_ld (q := i + 2) (kEL nm) rfl hL (nI_add i 2) (by omega) ?_
  (repeat (refine em_pure (Nat.zero_le _) (kEL nm) rfl ?_))
  refine em_callV (μ' := mX7_ration) (c1 := 7) (kEL nm) rfl lL_32 tX7_ration (by decide) rfl (show 0 < n by omega) c rfl rfl (by omega) (Nat.le_of_ble_eq_true rfl) (show em_n hp1 ≤ n3 by omega) (show em_m hp1 ≤ m3 by omega) ?_
  (repeat (refine em_pure (Nat.zero_le _) (kEL nm) rfl ?_))
  refine el_ld (q := i + 1) (kEL nm) rfl hL (nI_add i 1) (by omega) ?_
  (repeat (refine em_pure (Nat.zero_le _) (kEL nm) rfl ?_))
  refine el_ld (q := i + 2) (kEL nm) rfl hL (nI_add i 2) (by omega) ?_
  (repeat (refine em_pure (Nat.zero_le _) (kEL nm) rfl ?_))
  refine em_callV (μ' := mX8_ration) (c1 := 8) (kEL nm) rfl lL_35 tX8_ration (by decide) rfl (show 53 < em_n hp1 by omega) r rfl rfl (by omega) (Nat.le_of_ble_eq_true rfl) (show n2 ≤ n3 by omega) (show m2 ≤ m3 by omega) ?_
  (repeat (refine em_pure (Nat.zero_le _) (kEL nm) rfl ?_))
  refine em_branch (kEL nm) rfl (fun _ => em_loc rfl g4) (fun z => absurd rfl z)
theorem el_day (hL : em_L Γ ≤ 3072) (hi : i + 6 ≤ em_L Γ) (H : em_Inv n m dl I J rv) (kk : ∀ n2 m2 dl2 I2 J2 rv2, em_Inv n2 m2 dl2 I2 J2 rv2 → el_go nm Γ hp0 1149 i n2 m2 dl2 I2 J2 rv2) : el_go nm Γ hp0 357 i n m dl I J rv := by
  have hB := H.n85
  obtain ⟨v, K1, K2, hp1, n2, m2, dl2, I2, J2, rv2, h1, h2, c, r, hI⟩ := p_day (Γ := Γ) H 
  obtain ⟨n3, m3, dl3, I3, J3, rv3, g1, g2, g3, g4⟩ := kk n2 m2 dl2 I2 J2 rv2 hI
  have c1 : n ≤ em_n hp1 := c.1
  have c2 : m ≤ em_m hp1 := c.2.1
  have r1 : em_n hp1 ≤ n2 := r.1
  have r2 : em_m hp1 ≤ m2 := r.2.1
  refine ⟨n3, m3, dl3, I3, J3, rv3, g1, by omega, by omega, ?_⟩
  (repeat (refine em_pure (Nat.zero_le _) (kEL nm) rfl ?_))
  refine em_callV (μ' := mX7_day) (c1 := 7) (kEL nm) rfl lL_36 tX7_day (by decide) rfl (show 0 < n by omega) c rfl rfl (by omega) (Nat.le_of_ble_eq_true rfl) (show em_n hp1 ≤ n3 by omega) (show em_m hp1 ≤ m3 by omega) ?_
  (repeat (refine em_pure (Nat.zero_le _) (kEL nm) rfl ?_))
  refine em_callV (μ' := mX8_day) (c1 := 8) (kEL nm) rfl lL_40 tX8_day (by decide) rfl (show 53 < em_n hp1 by omega) r rfl rfl (by omega) (Nat.le_of_ble_eq_true rfl) (show n2 ≤ n3 by omega) (show m2 ≤ m3 by omega) ?_
  (repeat (refine em_pure (Nat.zero_le _) (kEL nm) rfl ?_))
  refine em_branch (kEL nm) rfl (fun _ => em_loc rfl g4) (fun z => absurd rfl z)
theorem el_line (hL : em_L Γ ≤ 3072) (hi : i + 6 ≤ em_L Γ) (H : em_Inv n m dl I J rv) (kk : ∀ n2 m2 dl2 I2 J2 rv2, em_Inv n2 m2 dl2 I2 J2 rv2 → el_go nm Γ hp0 1149 i n2 m2 dl2 I2 J2 rv2) : el_go nm Γ hp0 370 i n m dl I J rv := by
  have hB := H.n85
  obtain ⟨v, K1, K2, hp1, n2, m2, dl2, I2, J2, rv2, h1, h2, c, r, hI⟩ := p_line (Γ := Γ) H (x := em_s Γ (i + 1)) (w := em_s Γ (i + 2))
  obtain ⟨n3, m3, dl3, I3, J3, rv3, g1, g2, g3, g4⟩ := kk n2 m2 dl2 I2 J2 rv2 hI
  have c1 : n ≤ em_n hp1 := c.1
  have c2 : m ≤ em_m hp1 := c.2.1
  have r1 : em_n hp1 ≤ n2 := r.1
  have r2 : em_m hp1 ≤ m2 := r.2.1
  refine ⟨n3, m3, dl3, I3, J3, rv3, g1, by omega, by omega, ?_⟩
  (repeat (refine em_pure (Nat.zero_le _) (kEL nm) rfl ?_))
  refine el_ld (q := i + 1) (kEL nm) rfl hL (nI_add i 1) (by omega) ?_
  (repeat (refine em_pure (Nat.zero_le _) (kEL nm) rfl ?_))
  refine el_ld (q := i + 2) (kEL nm) rfl hL (nI_add i 2) (by omega) ?_
  (repeat (refine em_pure (Nat.zero_le _) (kEL nm) rfl ?_))
  refine em_callV (μ' := mX7_line) (c1 := 7) (kEL nm) rfl lL_41 tX7_line (by decide) rfl (show 0 < n by omega) c rfl rfl (by omega) (Nat.le_of_ble_eq_true rfl) (show em_n hp1 ≤ n3 by omega) (show em_m hp1 ≤ m3 by omega) ?_
  (repeat (refine em_pure (Nat.zero_le _) (kEL nm) rfl ?_))
  refine el_ld (q := i + 1) (kEL nm) rfl hL (nI_add i 1) (by omega) ?_
  (repeat (refine em_pure (Nat.zero_le _) (kEL nm) rfl ?_))
  refine el_ld (q := i + 2) (kEL nm) rfl hL (nI_add i 2) (by omega) ?_
  (repeat (refine em_pure (Nat.zero_le _) (kEL nm) rfl ?_))
  refine em_callV (μ' := mX8_line) (c1 := 8) (kEL nm) rfl lL_44 tX8_line (by decide) rfl (show 53 < em_n hp1 by omega) r rfl rfl (by omega) (Nat.le_of_ble_eq_true rfl) (show n2 ≤ n3 by omega) (show m2 ≤ m3 by omega) ?_
  (repeat (refine em_pure (Nat.zero_le _) (kEL nm) rfl ?_))
  refine em_branch (kEL nm) rfl (fun _ => em_loc rfl g4) (fun z => absurd rfl z)
theorem el_booked (hL : em_L Γ ≤ 3072) (hi : i + 6 ≤ em_L Γ) (H : em_Inv n m dl I J rv) (kk : ∀ n2 m2 dl2 I2 J2 rv2, em_Inv n2 m2 dl2 I2 J2 rv2 → el_go nm Γ hp0 1149 i n2 m2 dl2 I2 J2 rv2) : el_go nm Γ hp0 403 i n m dl I J rv := by
  have hB := H.n85
  obtain ⟨v, K1, K2, hp1, n2, m2, dl2, I2, J2, rv2, h1, h2, c, r, hI⟩ := p_booked (Γ := Γ) H (x := em_s Γ (i + 1))
  obtain ⟨n3, m3, dl3, I3, J3, rv3, g1, g2, g3, g4⟩ := kk n2 m2 dl2 I2 J2 rv2 hI
  have c1 : n ≤ em_n hp1 := c.1
  have c2 : m ≤ em_m hp1 := c.2.1
  have r1 : em_n hp1 ≤ n2 := r.1
  have r2 : em_m hp1 ≤ m2 := r.2.1
  refine ⟨n3, m3, dl3, I3, J3, rv3, g1, by omega, by omega, ?_⟩
  (repeat (refine em_pure (Nat.zero_le _) (kEL nm) rfl ?_))
  refine el_ld (q := i + 1) (kEL nm) rfl hL (nI_add i 1) (by omega) ?_
  (repeat (refine em_pure (Nat.zero_le _) (kEL nm) rfl ?_))
  refine em_callV (μ' := mX7_booked) (c1 := 7) (kEL nm) rfl lL_45 tX7_booked (by decide) rfl (show 0 < n by omega) c rfl rfl (by omega) (Nat.le_of_ble_eq_true rfl) (show em_n hp1 ≤ n3 by omega) (show em_m hp1 ≤ m3 by omega) ?_
  (repeat (refine em_pure (Nat.zero_le _) (kEL nm) rfl ?_))
  refine el_ld (q := i + 1) (kEL nm) rfl hL (nI_add i 1) (by omega) ?_
  (repeat (refine em_pure (Nat.zero_le _) (kEL nm) rfl ?_))
  refine em_callV (μ' := mX8_booked) (c1 := 8) (kEL nm) rfl lL_49 tX8_booked (by decide) rfl (show 53 < em_n hp1 by omega) r rfl rfl (by omega) (Nat.le_of_ble_eq_true rfl) (show n2 ≤ n3 by omega) (show m2 ≤ m3 by omega) ?_
  (repeat (refine em_pure (Nat.zero_le _) (kEL nm) rfl ?_))
  refine em_branch (kEL nm) rfl (fun _ => em_loc rfl g4) (fun z => absurd rfl z)
theorem el_load (hL : em_L Γ ≤ 3072) (hi : i + 6 ≤ em_L Γ) (H : em_Inv n m dl I J rv) (kk : ∀ n2 m2 dl2 I2 J2 rv2, em_Inv n2 m2 dl2 I2 J2 rv2 → el_go nm Γ hp0 1149 i n2 m2 dl2 I2 J2 rv2) : el_go nm Γ hp0 426 i n m dl I J rv := by
  have hB := H.n85
  obtain ⟨v, K1, K2, hp1, n2, m2, dl2, I2, J2, rv2, h1, h2, c, r, hI⟩ := p_load (Γ := Γ) H (x := em_s Γ (i + 1)) (y := em_s Γ (i + 2))
  obtain ⟨n3, m3, dl3, I3, J3, rv3, g1, g2, g3, g4⟩ := kk n2 m2 dl2 I2 J2 rv2 hI
  have c1 : n ≤ em_n hp1 := c.1
  have c2 : m ≤ em_m hp1 := c.2.1
  have r1 : em_n hp1 ≤ n2 := r.1
  have r2 : em_m hp1 ≤ m2 := r.2.1
  refine ⟨n3, m3, dl3, I3, J3, rv3, g1, by omega, by omega, ?_⟩
  (repeat (refine em_pure (Nat.zero_le _) (kEL nm) rfl ?_))
  refine el_ld (q := i + 1) (kEL nm) rfl hL (nI_add i 1) (by omega) ?_
  (repeat (refine em_pure (Nat.zero_le _) (kEL nm) rfl ?_))
  refine el_ld (q := i + 2) (kEL nm) rfl hL (nI_add i 2) (by omega) ?_
  (repeat (refine em_pure (Nat.zero_le _) (kEL nm) rfl ?_))
  refine em_callV (μ' := mX7_load) (c1 := 7) (kEL nm) rfl lL_50 tX7_load (by decide) rfl (show 0 < n by omega) c rfl rfl (by omega) (Nat.le_of_ble_eq_true rfl) (show em_n hp1 ≤ n3 by omega) (show em_m hp1 ≤ m3 by omega) ?_
  (repeat (refine em_pure (Nat.zero_le _) (kEL nm) rfl ?_))
  refine el_ld (q := i + 1) (kEL nm) rfl hL (nI_add i 1) (by omega) ?_
  (repeat (refine em_pure (Nat.zero_le _) (kEL nm) rfl ?_))
  refine el_ld (q := i + 2) (kEL nm) rfl hL (nI_add i 2) (by omega) ?_
  (repeat (refine em_pure (Nat.zero_le _) (kEL nm) rfl ?_))
  refine em_callV (μ' := mX8_load) (c1 := 8) (kEL nm) rfl lL_53 tX8_load (by decide) rfl (show 53 < em_n hp1 by omega) r rfl rfl (by omega) (Nat.le_of_ble_eq_true rfl) (show n2 ≤ n3 by omega) (show m2 ≤ m3 by omega) ?_
  (repeat (refine em_pure (Nat.zero_le _) (kEL nm) rfl ?_))
  refine em_branch (kEL nm) rfl (fun _ => em_loc rfl g4) (fun z => absurd rfl z)
theorem el_bar (hL : em_L Γ ≤ 3072) (hi : i + 6 ≤ em_L Γ) (H : em_Inv n m dl I J rv) (kk : ∀ n2 m2 dl2 I2 J2 rv2, em_Inv n2 m2 dl2 I2 J2 rv2 → el_go nm Γ hp0 1149 i n2 m2 dl2 I2 J2 rv2) : el_go nm Γ hp0 459 i n m dl I J rv := by
  have hB := H.n85
  by_cases hz : em_s Γ (i + 3) = 0
  · obtain ⟨v, K1, K2, hp1, n2, m2, dl2, I2, J2, rv2, h1, h2, c, r, hI⟩ := p_bar (Γ := Γ) H (x := em_s Γ (i + 1)) (y := em_s Γ (i + 2)) (v := 0) (Or.inl rfl)
    obtain ⟨n3, m3, dl3, I3, J3, rv3, g1, g2, g3, g4⟩ := kk n2 m2 dl2 I2 J2 rv2 hI
    have c1 : n ≤ em_n hp1 := c.1
    have c2 : m ≤ em_m hp1 := c.2.1
    have r1 : em_n hp1 ≤ n2 := r.1
    have r2 : em_m hp1 ≤ m2 := r.2.1
    refine ⟨n3, m3, dl3, I3, J3, rv3, g1, by omega, by omega, ?_⟩
    (repeat (refine em_pure (Nat.zero_le _) (kEL nm) rfl ?_))
    refine el_ld (q := i + 1) (kEL nm) rfl hL (nI_add i 1) (by omega) ?_
    (repeat (refine em_pure (Nat.zero_le _) (kEL nm) rfl ?_))
    refine el_ld (q := i + 2) (kEL nm) rfl hL (nI_add i 2) (by omega) ?_
    (repeat (refine em_pure (Nat.zero_le _) (kEL nm) rfl ?_))
    refine el_ld (q := i + 3) (kEL nm) rfl hL (nI_add i 3) (by omega) ?_
    (repeat (refine em_pure (Nat.zero_le _) (kEL nm) rfl ?_))
    refine em_branch (kEL nm) rfl (fun _ => ?_) (fun z => absurd hz z)
    (repeat (refine em_pure (Nat.zero_le _) (kEL nm) rfl ?_))
    refine em_callV (μ' := mX7_bar) (c1 := 7) (kEL nm) rfl lL_54 tX7_bar (by decide) rfl (show 0 < n by omega) c rfl rfl (by omega) (Nat.le_of_ble_eq_true rfl) (show em_n hp1 ≤ n3 by omega) (show em_m hp1 ≤ m3 by omega) ?_
    (repeat (refine em_pure (Nat.zero_le _) (kEL nm) rfl ?_))
    refine el_ld (q := i + 1) (kEL nm) rfl hL (nI_add i 1) (by omega) ?_
    (repeat (refine em_pure (Nat.zero_le _) (kEL nm) rfl ?_))
    refine el_ld (q := i + 2) (kEL nm) rfl hL (nI_add i 2) (by omega) ?_
    (repeat (refine em_pure (Nat.zero_le _) (kEL nm) rfl ?_))
    refine el_ld (q := i + 3) (kEL nm) rfl hL (nI_add i 3) (by omega) ?_
    (repeat (refine em_pure (Nat.zero_le _) (kEL nm) rfl ?_))
    refine em_branch (kEL nm) rfl (fun _ => ?_) (fun z => absurd hz z)
    (repeat (refine em_pure (Nat.zero_le _) (kEL nm) rfl ?_))
    refine em_callV (μ' := mX8_bar) (c1 := 8) (kEL nm) rfl lL_58 tX8_bar (by decide) rfl (show 53 < em_n hp1 by omega) r rfl rfl (by omega) (Nat.le_of_ble_eq_true rfl) (show n2 ≤ n3 by omega) (show m2 ≤ m3 by omega) ?_
    (repeat (refine em_pure (Nat.zero_le _) (kEL nm) rfl ?_))
    refine em_branch (kEL nm) rfl (fun _ => em_loc rfl g4) (fun z => absurd rfl z)
  · obtain ⟨v, K1, K2, hp1, n2, m2, dl2, I2, J2, rv2, h1, h2, c, r, hI⟩ := p_bar (Γ := Γ) H (x := em_s Γ (i + 1)) (y := em_s Γ (i + 2)) (v := 1) (Or.inr rfl)
    obtain ⟨n3, m3, dl3, I3, J3, rv3, g1, g2, g3, g4⟩ := kk n2 m2 dl2 I2 J2 rv2 hI
    have c1 : n ≤ em_n hp1 := c.1
    have c2 : m ≤ em_m hp1 := c.2.1
    have r1 : em_n hp1 ≤ n2 := r.1
    have r2 : em_m hp1 ≤ m2 := r.2.1
    refine ⟨n3, m3, dl3, I3, J3, rv3, g1, by omega, by omega, ?_⟩
    (repeat (refine em_pure (Nat.zero_le _) (kEL nm) rfl ?_))
    refine el_ld (q := i + 1) (kEL nm) rfl hL (nI_add i 1) (by omega) ?_
    (repeat (refine em_pure (Nat.zero_le _) (kEL nm) rfl ?_))
    refine el_ld (q := i + 2) (kEL nm) rfl hL (nI_add i 2) (by omega) ?_
    (repeat (refine em_pure (Nat.zero_le _) (kEL nm) rfl ?_))
    refine el_ld (q := i + 3) (kEL nm) rfl hL (nI_add i 3) (by omega) ?_
    (repeat (refine em_pure (Nat.zero_le _) (kEL nm) rfl ?_))
    refine em_branch (kEL nm) rfl (fun z => absurd z hz) (fun _ => ?_)
    (repeat (refine em_pure (Nat.zero_le _) (kEL nm) rfl ?_))
    refine em_callV (μ' := mX7_bar) (c1 := 7) (kEL nm) rfl lL_54 tX7_bar (by decide) rfl (show 0 < n by omega) c rfl rfl (by omega) (Nat.le_of_ble_eq_true rfl) (show em_n hp1 ≤ n3 by omega) (show em_m hp1 ≤ m3 by omega) ?_
    (repeat (refine em_pure (Nat.zero_le _) (kEL nm) rfl ?_))
    refine el_ld (q := i + 1) (kEL nm) rfl hL (nI_add i 1) (by omega) ?_
    (repeat (refine em_pure (Nat.zero_le _) (kEL nm) rfl ?_))
    refine el_ld (q := i + 2) (kEL nm) rfl hL (nI_add i 2) (by omega) ?_
    (repeat (refine em_pure (Nat.zero_le _) (kEL nm) rfl ?_))
    refine el_ld (q := i + 3) (kEL nm) rfl hL (nI_add i 3) (by omega) ?_
    (repeat (refine em_pure (Nat.zero_le _) (kEL nm) rfl ?_))
    refine em_branch (kEL nm) rfl (fun z => absurd z hz) (fun _ => ?_)
    (repeat (refine em_pure (Nat.zero_le _) (kEL nm) rfl ?_))
    refine em_callV (μ' := mX8_bar) (c1 := 8) (kEL nm) rfl lL_58 tX8_bar (by decide) rfl (show 53 < em_n hp1 by omega) r rfl rfl (by omega) (Nat.le_of_ble_eq_true rfl) (show n2 ≤ n3 by omega) (show m2 ≤ m3 by omega) ?_
    (repeat (refine em_pure (Nat.zero_le _) (kEL nm) rfl ?_))
    refine em_branch (kEL nm) rfl (fun _ => em_loc rfl g4) (fun z => absurd rfl z)
theorem el_wagon (hL : em_L Γ ≤ 3072) (hi : i + 6 ≤ em_L Γ) (H : em_Inv n m dl I J rv) (kk : ∀ n2 m2 dl2 I2 J2 rv2, em_Inv n2 m2 dl2 I2 J2 rv2 → el_go nm Γ hp0 1149 i n2 m2 dl2 I2 J2 rv2) : el_go nm Γ hp0 518 i n m dl I J rv := by
  have hB := H.n85
  obtain ⟨v, K1, K2, hp1, n2, m2, dl2, I2, J2, rv2, h1, h2, c, r, hI⟩ := p_wagon (Γ := Γ) H (w := em_s Γ (i + 1)) (x := em_s Γ (i + 2))
  obtain ⟨n3, m3, dl3, I3, J3, rv3, g1, g2, g3, g4⟩ := kk n2 m2 dl2 I2 J2 rv2 hI
  have c1 : n ≤ em_n hp1 := c.1
  have c2 : m ≤ em_m hp1 := c.2.1
  have r1 : em_n hp1 ≤ n2 := r.1
  have r2 : em_m hp1 ≤ m2 := r.2.1
  refine ⟨n3, m3, dl3, I3, J3, rv3, g1, by omega, by omega, ?_⟩
  (repeat (refine em_pure (Nat.zero_le _) (kEL nm) rfl ?_))
  refine el_ld (q := i + 1) (kEL nm) rfl hL (nI_add i 1) (by omega) ?_
  (repeat (refine em_pure (Nat.zero_le _) (kEL nm) rfl ?_))
  refine el_ld (q := i + 2) (kEL nm) rfl hL (nI_add i 2) (by omega) ?_
  (repeat (refine em_pure (Nat.zero_le _) (kEL nm) rfl ?_))
  refine em_callV (μ' := mX7_wagon) (c1 := 7) (kEL nm) rfl lL_59 tX7_wagon (by decide) rfl (show 0 < n by omega) c rfl rfl (by omega) (Nat.le_of_ble_eq_true rfl) (show em_n hp1 ≤ n3 by omega) (show em_m hp1 ≤ m3 by omega) ?_
  (repeat (refine em_pure (Nat.zero_le _) (kEL nm) rfl ?_))
  refine el_ld (q := i + 1) (kEL nm) rfl hL (nI_add i 1) (by omega) ?_
  (repeat (refine em_pure (Nat.zero_le _) (kEL nm) rfl ?_))
  refine el_ld (q := i + 2) (kEL nm) rfl hL (nI_add i 2) (by omega) ?_
  (repeat (refine em_pure (Nat.zero_le _) (kEL nm) rfl ?_))
  refine em_callV (μ' := mX8_wagon) (c1 := 8) (kEL nm) rfl lL_62 tX8_wagon (by decide) rfl (show 53 < em_n hp1 by omega) r rfl rfl (by omega) (Nat.le_of_ble_eq_true rfl) (show n2 ≤ n3 by omega) (show m2 ≤ m3 by omega) ?_
  (repeat (refine em_pure (Nat.zero_le _) (kEL nm) rfl ?_))
  refine em_branch (kEL nm) rfl (fun _ => em_loc rfl g4) (fun z => absurd rfl z)
theorem el_order (hL : em_L Γ ≤ 3072) (hi : i + 6 ≤ em_L Γ) (H : em_Inv n m dl I J rv) (kk : ∀ n2 m2 dl2 I2 J2 rv2, em_Inv n2 m2 dl2 I2 J2 rv2 → el_go nm Γ hp0 1149 i n2 m2 dl2 I2 J2 rv2) : el_go nm Γ hp0 551 i n m dl I J rv := by
  have hB := H.n85
  obtain ⟨v, K1, K2, hp1, n2, m2, dl2, I2, J2, rv2, h1, h2, c, r, hI⟩ := p_order (Γ := Γ) H (x := em_s Γ (i + 1))
  obtain ⟨n3, m3, dl3, I3, J3, rv3, g1, g2, g3, g4⟩ := kk n2 m2 dl2 I2 J2 rv2 hI
  have c1 : n ≤ em_n hp1 := c.1
  have c2 : m ≤ em_m hp1 := c.2.1
  have r1 : em_n hp1 ≤ n2 := r.1
  have r2 : em_m hp1 ≤ m2 := r.2.1
  refine ⟨n3, m3, dl3, I3, J3, rv3, g1, by omega, by omega, ?_⟩
  (repeat (refine em_pure (Nat.zero_le _) (kEL nm) rfl ?_))
  refine el_ld (q := i + 1) (kEL nm) rfl hL (nI_add i 1) (by omega) ?_
  (repeat (refine em_pure (Nat.zero_le _) (kEL nm) rfl ?_))
  refine em_callV (μ' := mX7_order) (c1 := 7) (kEL nm) rfl lL_63 tX7_order (by decide) rfl (show 0 < n by omega) c rfl rfl (by omega) (Nat.le_of_ble_eq_true rfl) (show em_n hp1 ≤ n3 by omega) (show em_m hp1 ≤ m3 by omega) ?_
  (repeat (refine em_pure (Nat.zero_le _) (kEL nm) rfl ?_))
  refine el_ld (q := i + 1) (kEL nm) rfl hL (nI_add i 1) (by omega) ?_
  (repeat (refine em_pure (Nat.zero_le _) (kEL nm) rfl ?_))
  refine em_callV (μ' := mX8_order) (c1 := 8) (kEL nm) rfl lL_66 tX8_order (by decide) rfl (show 53 < em_n hp1 by omega) r rfl rfl (by omega) (Nat.le_of_ble_eq_true rfl) (show n2 ≤ n3 by omega) (show m2 ≤ m3 by omega) ?_
  (repeat (refine em_pure (Nat.zero_le _) (kEL nm) rfl ?_))
  refine em_branch (kEL nm) rfl (fun _ => em_loc rfl g4) (fun z => absurd rfl z)
theorem el_town (hL : em_L Γ ≤ 3072) (hi : i + 6 ≤ em_L Γ) (H : em_Inv n m dl I J rv) (kk : ∀ n2 m2 dl2 I2 J2 rv2, em_Inv n2 m2 dl2 I2 J2 rv2 → el_go nm Γ hp0 1149 i n2 m2 dl2 I2 J2 rv2) : el_go nm Γ hp0 574 i n m dl I J rv := by
  have hB := H.n85
  obtain ⟨v, K1, K2, hp1, n2, m2, dl2, I2, J2, rv2, h1, h2, c, r, hI⟩ := p_town (Γ := Γ) H (x := em_s Γ (i + 1)) (y := em_s Γ (i + 2)) (z := em_s Γ (i + 3))
  obtain ⟨n3, m3, dl3, I3, J3, rv3, g1, g2, g3, g4⟩ := kk n2 m2 dl2 I2 J2 rv2 hI
  have c1 : n ≤ em_n hp1 := c.1
  have c2 : m ≤ em_m hp1 := c.2.1
  have r1 : em_n hp1 ≤ n2 := r.1
  have r2 : em_m hp1 ≤ m2 := r.2.1
  refine ⟨n3, m3, dl3, I3, J3, rv3, g1, by omega, by omega, ?_⟩
  (repeat (refine em_pure (Nat.zero_le _) (kEL nm) rfl ?_))
  refine el_ld (q := i + 1) (kEL nm) rfl hL (nI_add i 1) (by omega) ?_
  (repeat (refine em_pure (Nat.zero_le _) (kEL nm) rfl ?_))
  refine el_ld (q := i + 2) (kEL nm) rfl hL (nI_add i 2) (by omega) ?_
  (repeat (refine em_pure (Nat.zero_le _) (kEL nm) rfl ?_))
  refine el_ld (q := i + 3) (kEL nm) rfl hL (nI_add i 3) (by omega) ?_
  (repeat (refine em_pure (Nat.zero_le _) (kEL nm) rfl ?_))
  refine em_callV (μ' := mX7_town) (c1 := 7) (kEL nm) rfl lL_67 tX7_town (by decide) rfl (show 0 < n by omega) c rfl rfl (by omega) (Nat.le_of_ble_eq_true rfl) (show em_n hp1 ≤ n3 by omega) (show em_m hp1 ≤ m3 by omega) ?_
  (repeat (refine em_pure (Nat.zero_le _) (kEL nm) rfl ?_))
  refine el_ld (q := i + 1) (kEL nm) rfl hL (nI_add i 1) (by omega) ?_
  (repeat (refine em_pure (Nat.zero_le _) (kEL nm) rfl ?_))
  refine el_ld (q := i + 2) (kEL nm) rfl hL (nI_add i 2) (by omega) ?_
  (repeat (refine em_pure (Nat.zero_le _) (kEL nm) rfl ?_))
  refine el_ld (q := i + 3) (kEL nm) rfl hL (nI_add i 3) (by omega) ?_
  (repeat (refine em_pure (Nat.zero_le _) (kEL nm) rfl ?_))
  refine em_callV (μ' := mX8_town) (c1 := 8) (kEL nm) rfl lL_71 tX8_town (by decide) rfl (show 53 < em_n hp1 by omega) r rfl rfl (by omega) (Nat.le_of_ble_eq_true rfl) (show n2 ≤ n3 by omega) (show m2 ≤ m3 by omega) ?_
  (repeat (refine em_pure (Nat.zero_le _) (kEL nm) rfl ?_))
  refine em_branch (kEL nm) rfl (fun _ => em_loc rfl g4) (fun z => absurd rfl z)
theorem el_way (hL : em_L Γ ≤ 3072) (hi : i + 6 ≤ em_L Γ) (H : em_Inv n m dl I J rv) (kk : ∀ n2 m2 dl2 I2 J2 rv2, em_Inv n2 m2 dl2 I2 J2 rv2 → el_go nm Γ hp0 1149 i n2 m2 dl2 I2 J2 rv2) : el_go nm Γ hp0 617 i n m dl I J rv := by
  have hB := H.n85
  obtain ⟨v, K1, K2, hp1, n2, m2, dl2, I2, J2, rv2, h1, h2, c, r, hI⟩ := p_way (Γ := Γ) H (x := em_s Γ (i + 1)) (y := em_s Γ (i + 2)) (z := em_s Γ (i + 3))
  obtain ⟨n3, m3, dl3, I3, J3, rv3, g1, g2, g3, g4⟩ := kk n2 m2 dl2 I2 J2 rv2 hI
  have c1 : n ≤ em_n hp1 := c.1
  have c2 : m ≤ em_m hp1 := c.2.1
  have r1 : em_n hp1 ≤ n2 := r.1
  have r2 : em_m hp1 ≤ m2 := r.2.1
  refine ⟨n3, m3, dl3, I3, J3, rv3, g1, by omega, by omega, ?_⟩
  (repeat (refine em_pure (Nat.zero_le _) (kEL nm) rfl ?_))
  refine el_ld (q := i + 1) (kEL nm) rfl hL (nI_add i 1) (by omega) ?_
  (repeat (refine em_pure (Nat.zero_le _) (kEL nm) rfl ?_))
  refine el_ld (q := i + 2) (kEL nm) rfl hL (nI_add i 2) (by omega) ?_
  (repeat (refine em_pure (Nat.zero_le _) (kEL nm) rfl ?_))
  refine el_ld (q := i + 3) (kEL nm) rfl hL (nI_add i 3) (by omega) ?_
  (repeat (refine em_pure (Nat.zero_le _) (kEL nm) rfl ?_))
  refine em_callV (μ' := mX7_way) (c1 := 7) (kEL nm) rfl lL_72 tX7_way (by decide) rfl (show 0 < n by omega) c rfl rfl (by omega) (Nat.le_of_ble_eq_true rfl) (show em_n hp1 ≤ n3 by omega) (show em_m hp1 ≤ m3 by omega) ?_
  (repeat (refine em_pure (Nat.zero_le _) (kEL nm) rfl ?_))
  refine el_ld (q := i + 1) (kEL nm) rfl hL (nI_add i 1) (by omega) ?_
  (repeat (refine em_pure (Nat.zero_le _) (kEL nm) rfl ?_))
  refine el_ld (q := i + 2) (kEL nm) rfl hL (nI_add i 2) (by omega) ?_
  (repeat (refine em_pure (Nat.zero_le _) (kEL nm) rfl ?_))
  refine el_ld (q := i + 3) (kEL nm) rfl hL (nI_add i 3) (by omega) ?_
  (repeat (refine em_pure (Nat.zero_le _) (kEL nm) rfl ?_))
  refine em_callV (μ' := mX8_way) (c1 := 8) (kEL nm) rfl lL_75 tX8_way (by decide) rfl (show 53 < em_n hp1 by omega) r rfl rfl (by omega) (Nat.le_of_ble_eq_true rfl) (show n2 ≤ n3 by omega) (show m2 ≤ m3 by omega) ?_
  (repeat (refine em_pure (Nat.zero_le _) (kEL nm) rfl ?_))
  refine em_branch (kEL nm) rfl (fun _ => em_loc rfl g4) (fun z => absurd rfl z)
theorem el_fodder (hL : em_L Γ ≤ 3072) (hi : i + 6 ≤ em_L Γ) (H : em_Inv n m dl I J rv) (kk : ∀ n2 m2 dl2 I2 J2 rv2, em_Inv n2 m2 dl2 I2 J2 rv2 → el_go nm Γ hp0 1149 i n2 m2 dl2 I2 J2 rv2) : el_go nm Γ hp0 660 i n m dl I J rv := by
  have hB := H.n85
  obtain ⟨v, K1, K2, hp1, n2, m2, dl2, I2, J2, rv2, h1, h2, c, r, hI⟩ := p_fodder (Γ := Γ) H (z := em_s Γ (i + 1))
  obtain ⟨n3, m3, dl3, I3, J3, rv3, g1, g2, g3, g4⟩ := kk n2 m2 dl2 I2 J2 rv2 hI
  have c1 : n ≤ em_n hp1 := c.1
  have c2 : m ≤ em_m hp1 := c.2.1
  have r1 : em_n hp1 ≤ n2 := r.1
  have r2 : em_m hp1 ≤ m2 := r.2.1
  refine ⟨n3, m3, dl3, I3, J3, rv3, g1, by omega, by omega, ?_⟩
  (repeat (refine em_pure (Nat.zero_le _) (kEL nm) rfl ?_))
  refine el_ld (q := i + 1) (kEL nm) rfl hL (nI_add i 1) (by omega) ?_
  (repeat (refine em_pure (Nat.zero_le _) (kEL nm) rfl ?_))
  refine em_callV (μ' := mX7_fodder) (c1 := 7) (kEL nm) rfl lL_76 tX7_fodder (by decide) rfl (show 0 < n by omega) c rfl rfl (by omega) (Nat.le_of_ble_eq_true rfl) (show em_n hp1 ≤ n3 by omega) (show em_m hp1 ≤ m3 by omega) ?_
  (repeat (refine em_pure (Nat.zero_le _) (kEL nm) rfl ?_))
  refine el_ld (q := i + 1) (kEL nm) rfl hL (nI_add i 1) (by omega) ?_
  (repeat (refine em_pure (Nat.zero_le _) (kEL nm) rfl ?_))
  refine em_callV (μ' := mX8_fodder) (c1 := 8) (kEL nm) rfl lL_80 tX8_fodder (by decide) rfl (show 53 < em_n hp1 by omega) r rfl rfl (by omega) (Nat.le_of_ble_eq_true rfl) (show n2 ≤ n3 by omega) (show m2 ≤ m3 by omega) ?_
  (repeat (refine em_pure (Nat.zero_le _) (kEL nm) rfl ?_))
  refine em_branch (kEL nm) rfl (fun _ => em_loc rfl g4) (fun z => absurd rfl z)
theorem el_tour (hL : em_L Γ ≤ 3072) (hi : i + 6 ≤ em_L Γ) (H : em_Inv n m dl I J rv) (kk : ∀ n2 m2 dl2 I2 J2 rv2, em_Inv n2 m2 dl2 I2 J2 rv2 → el_go nm Γ hp0 1149 i n2 m2 dl2 I2 J2 rv2) : el_go nm Γ hp0 683 i n m dl I J rv := by
  have hB := H.n85
  obtain ⟨v, K1, K2, hp1, n2, m2, dl2, I2, J2, rv2, h1, h2, c, r, hI⟩ := p_tour (Γ := Γ) H (x := em_s Γ (i + 1)) (y := em_s Γ (i + 2))
  obtain ⟨n3, m3, dl3, I3, J3, rv3, g1, g2, g3, g4⟩ := kk n2 m2 dl2 I2 J2 rv2 hI
  have c1 : n ≤ em_n hp1 := c.1
  have c2 : m ≤ em_m hp1 := c.2.1
  have r1 : em_n hp1 ≤ n2 := r.1
  have r2 : em_m hp1 ≤ m2 := r.2.1
  refine ⟨n3, m3, dl3, I3, J3, rv3, g1, by omega, by omega, ?_⟩
  (repeat (refine em_pure (Nat.zero_le _) (kEL nm) rfl ?_))
  refine el_ld (q := i + 1) (kEL nm) rfl hL (nI_add i 1) (by omega) ?_
  (repeat (refine em_pure (Nat.zero_le _) (kEL nm) rfl ?_))
  refine el_ld (q := i + 2) (kEL nm) rfl hL (nI_add i 2) (by omega) ?_
  (repeat (refine em_pure (Nat.zero_le _) (kEL nm) rfl ?_))
  refine em_callV (μ' := mX7_tour) (c1 := 7) (kEL nm) rfl lL_81 tX7_tour (by decide) rfl (show 0 < n by omega) c rfl rfl (by omega) (Nat.le_of_ble_eq_true rfl) (show em_n hp1 ≤ n3 by omega) (show em_m hp1 ≤ m3 by omega) ?_
  (repeat (refine em_pure (Nat.zero_le _) (kEL nm) rfl ?_))
  refine el_ld (q := i + 1) (kEL nm) rfl hL (nI_add i 1) (by omega) ?_
  (repeat (refine em_pure (Nat.zero_le _) (kEL nm) rfl ?_))
  refine el_ld (q := i + 2) (kEL nm) rfl hL (nI_add i 2) (by omega) ?_
  (repeat (refine em_pure (Nat.zero_le _) (kEL nm) rfl ?_))
  refine em_callV (μ' := mX8_tour) (c1 := 8) (kEL nm) rfl lL_84 tX8_tour (by decide) rfl (show 53 < em_n hp1 by omega) r rfl rfl (by omega) (Nat.le_of_ble_eq_true rfl) (show n2 ≤ n3 by omega) (show m2 ≤ m3 by omega) ?_
  (repeat (refine em_pure (Nat.zero_le _) (kEL nm) rfl ?_))
  refine em_branch (kEL nm) rfl (fun _ => em_loc rfl g4) (fun z => absurd rfl z)
theorem el_stop (hL : em_L Γ ≤ 3072) (hi : i + 6 ≤ em_L Γ) (H : em_Inv n m dl I J rv) (kk : ∀ n2 m2 dl2 I2 J2 rv2, em_Inv n2 m2 dl2 I2 J2 rv2 → el_go nm Γ hp0 1149 i n2 m2 dl2 I2 J2 rv2) : el_go nm Γ hp0 716 i n m dl I J rv := by
  have hB := H.n85
  obtain ⟨v, K1, K2, hp1, n2, m2, dl2, I2, J2, rv2, h1, h2, c, r, hI⟩ := p_stop (Γ := Γ) H (x := em_s Γ (i + 1)) (y := em_s Γ (i + 2)) (i := em_s Γ (i + 3))
  obtain ⟨n3, m3, dl3, I3, J3, rv3, g1, g2, g3, g4⟩ := kk n2 m2 dl2 I2 J2 rv2 hI
  have c1 : n ≤ em_n hp1 := c.1
  have c2 : m ≤ em_m hp1 := c.2.1
  have r1 : em_n hp1 ≤ n2 := r.1
  have r2 : em_m hp1 ≤ m2 := r.2.1
  refine ⟨n3, m3, dl3, I3, J3, rv3, g1, by omega, by omega, ?_⟩
  (repeat (refine em_pure (Nat.zero_le _) (kEL nm) rfl ?_))
  refine el_ld (q := i + 1) (kEL nm) rfl hL (nI_add i 1) (by omega) ?_
  (repeat (refine em_pure (Nat.zero_le _) (kEL nm) rfl ?_))
  refine el_ld (q := i + 2) (kEL nm) rfl hL (nI_add i 2) (by omega) ?_
  (repeat (refine em_pure (Nat.zero_le _) (kEL nm) rfl ?_))
  refine el_ld (q := i + 3) (kEL nm) rfl hL (nI_add i 3) (by omega) ?_
  (repeat (refine em_pure (Nat.zero_le _) (kEL nm) rfl ?_))
  refine em_callV (μ' := mX7_stop) (c1 := 7) (kEL nm) rfl lL_85 tX7_stop (by decide) rfl (show 0 < n by omega) c rfl rfl (by omega) (Nat.le_of_ble_eq_true rfl) (show em_n hp1 ≤ n3 by omega) (show em_m hp1 ≤ m3 by omega) ?_
  (repeat (refine em_pure (Nat.zero_le _) (kEL nm) rfl ?_))
  refine el_ld (q := i + 1) (kEL nm) rfl hL (nI_add i 1) (by omega) ?_
  (repeat (refine em_pure (Nat.zero_le _) (kEL nm) rfl ?_))
  refine el_ld (q := i + 2) (kEL nm) rfl hL (nI_add i 2) (by omega) ?_
  (repeat (refine em_pure (Nat.zero_le _) (kEL nm) rfl ?_))
  refine el_ld (q := i + 3) (kEL nm) rfl hL (nI_add i 3) (by omega) ?_
  (repeat (refine em_pure (Nat.zero_le _) (kEL nm) rfl ?_))
  refine em_callV (μ' := mX8_stop) (c1 := 8) (kEL nm) rfl lL_88 tX8_stop (by decide) rfl (show 53 < em_n hp1 by omega) r rfl rfl (by omega) (Nat.le_of_ble_eq_true rfl) (show n2 ≤ n3 by omega) (show m2 ≤ m3 by omega) ?_
  (repeat (refine em_pure (Nat.zero_le _) (kEL nm) rfl ?_))
  refine em_branch (kEL nm) rfl (fun _ => em_loc rfl g4) (fun z => absurd rfl z)
theorem el_feed (hL : em_L Γ ≤ 3072) (hi : i + 6 ≤ em_L Γ) (H : em_Inv n m dl I J rv) (kk : ∀ n2 m2 dl2 I2 J2 rv2, em_Inv n2 m2 dl2 I2 J2 rv2 → el_go nm Γ hp0 1149 i n2 m2 dl2 I2 J2 rv2) : el_go nm Γ hp0 759 i n m dl I J rv := by
  have hB := H.n85
  obtain ⟨v, K1, K2, hp1, n2, m2, dl2, I2, J2, rv2, h1, h2, c, r, hI⟩ := p_feed (Γ := Γ) H (a := em_s Γ (i + 1)) (b := em_s Γ (i + 2)) (d := em_s Γ (i + 3)) (e := em_s Γ (i + 4)) (f := em_s Γ (i + 5))
  obtain ⟨n3, m3, dl3, I3, J3, rv3, g1, g2, g3, g4⟩ := kk n2 m2 dl2 I2 J2 rv2 hI
  have c1 : n ≤ em_n hp1 := c.1
  have c2 : m ≤ em_m hp1 := c.2.1
  have r1 : em_n hp1 ≤ n2 := r.1
  have r2 : em_m hp1 ≤ m2 := r.2.1
  refine ⟨n3, m3, dl3, I3, J3, rv3, g1, by omega, by omega, ?_⟩
  (repeat (refine em_pure (Nat.zero_le _) (kEL nm) rfl ?_))
  refine el_ld (q := i + 1) (kEL nm) rfl hL (nI_add i 1) (by omega) ?_
  (repeat (refine em_pure (Nat.zero_le _) (kEL nm) rfl ?_))
  refine el_ld (q := i + 2) (kEL nm) rfl hL (nI_add i 2) (by omega) ?_
  (repeat (refine em_pure (Nat.zero_le _) (kEL nm) rfl ?_))
  refine el_ld (q := i + 3) (kEL nm) rfl hL (nI_add i 3) (by omega) ?_
  (repeat (refine em_pure (Nat.zero_le _) (kEL nm) rfl ?_))
  refine el_ld (q := i + 4) (kEL nm) rfl hL (nI_add i 4) (by omega) ?_
  (repeat (refine em_pure (Nat.zero_le _) (kEL nm) rfl ?_))
  refine el_ld (q := i + 5) (kEL nm) rfl hL (nI_add i 5) (by omega) ?_
  (repeat (refine em_pure (Nat.zero_le _) (kEL nm) rfl ?_))
  refine em_callV (μ' := mX7_feed) (c1 := 7) (kEL nm) rfl lL_89 tX7_feed (by decide) rfl (show 0 < n by omega) c rfl rfl (by omega) (Nat.le_of_ble_eq_true rfl) (show em_n hp1 ≤ n3 by omega) (show em_m hp1 ≤ m3 by omega) ?_
  (repeat (refine em_pure (Nat.zero_le _) (kEL nm) rfl ?_))
  refine el_ld (q := i + 1) (kEL nm) rfl hL (nI_add i 1) (by omega) ?_
  (repeat (refine em_pure (Nat.zero_le _) (kEL nm) rfl ?_))
  refine el_ld (q := i + 2) (kEL nm) rfl hL (nI_add i 2) (by omega) ?_
  (repeat (refine em_pure (Nat.zero_le _) (kEL nm) rfl ?_))
  refine el_ld (q := i + 3) (kEL nm) rfl hL (nI_add i 3) (by omega) ?_
  (repeat (refine em_pure (Nat.zero_le _) (kEL nm) rfl ?_))
  refine el_ld (q := i + 4) (kEL nm) rfl hL (nI_add i 4) (by omega) ?_
  (repeat (refine em_pure (Nat.zero_le _) (kEL nm) rfl ?_))
  refine el_ld (q := i + 5) (kEL nm) rfl hL (nI_add i 5) (by omega) ?_
  (repeat (refine em_pure (Nat.zero_le _) (kEL nm) rfl ?_))
  refine em_callV (μ' := mX8_feed) (c1 := 8) (kEL nm) rfl lL_93 tX8_feed (by decide) rfl (show 53 < em_n hp1 by omega) r rfl rfl (by omega) (Nat.le_of_ble_eq_true rfl) (show n2 ≤ n3 by omega) (show m2 ≤ m3 by omega) ?_
  (repeat (refine em_pure (Nat.zero_le _) (kEL nm) rfl ?_))
  refine em_branch (kEL nm) rfl (fun _ => em_loc rfl g4) (fun z => absurd rfl z)
theorem el_end (hL : em_L Γ ≤ 3072) (hi : i + 6 ≤ em_L Γ) (H : em_Inv n m dl I J rv) (kk : ∀ n2 m2 dl2 I2 J2 rv2, em_Inv n2 m2 dl2 I2 J2 rv2 → el_go nm Γ hp0 1149 i n2 m2 dl2 I2 J2 rv2) : el_go nm Γ hp0 822 i n m dl I J rv := by
  have hB := H.n85
  obtain ⟨v, K1, K2, hp1, n2, m2, dl2, I2, J2, rv2, h1, h2, c, r, hI⟩ := p_end (Γ := Γ) H (z := em_s Γ (i + 1))
  obtain ⟨n3, m3, dl3, I3, J3, rv3, g1, g2, g3, g4⟩ := kk n2 m2 dl2 I2 J2 rv2 hI
  have c1 : n ≤ em_n hp1 := c.1
  have c2 : m ≤ em_m hp1 := c.2.1
  have r1 : em_n hp1 ≤ n2 := r.1
  have r2 : em_m hp1 ≤ m2 := r.2.1
  refine ⟨n3, m3, dl3, I3, J3, rv3, g1, by omega, by omega, ?_⟩
  (repeat (refine em_pure (Nat.zero_le _) (kEL nm) rfl ?_))
  refine el_ld (q := i + 1) (kEL nm) rfl hL (nI_add i 1) (by omega) ?_
  (repeat (refine em_pure (Nat.zero_le _) (kEL nm) rfl ?_))
  refine em_callV (μ' := mX7_end) (c1 := 7) (kEL nm) rfl lL_94 tX7_end (by decide) rfl (show 0 < n by omega) c rfl rfl (by omega) (Nat.le_of_ble_eq_true rfl) (show em_n hp1 ≤ n3 by omega) (show em_m hp1 ≤ m3 by omega) ?_
  (repeat (refine em_pure (Nat.zero_le _) (kEL nm) rfl ?_))
  refine el_ld (q := i + 1) (kEL nm) rfl hL (nI_add i 1) (by omega) ?_
  (repeat (refine em_pure (Nat.zero_le _) (kEL nm) rfl ?_))
  refine em_callV (μ' := mX8_end) (c1 := 8) (kEL nm) rfl lL_97 tX8_end (by decide) rfl (show 53 < em_n hp1 by omega) r rfl rfl (by omega) (Nat.le_of_ble_eq_true rfl) (show n2 ≤ n3 by omega) (show m2 ≤ m3 by omega) ?_
  (repeat (refine em_pure (Nat.zero_le _) (kEL nm) rfl ?_))
  refine em_branch (kEL nm) rfl (fun _ => em_loc rfl g4) (fun z => absurd rfl z)
theorem el_fault (hL : em_L Γ ≤ 3072) (hi : i + 6 ≤ em_L Γ) (H : em_Inv n m dl I J rv) (kk : ∀ n2 m2 dl2 I2 J2 rv2, em_Inv n2 m2 dl2 I2 J2 rv2 → el_go nm Γ hp0 1149 i n2 m2 dl2 I2 J2 rv2) : el_go nm Γ hp0 845 i n m dl I J rv := by
  have hB := H.n85
  obtain ⟨v, K1, K2, hp1, n2, m2, dl2, I2, J2, rv2, h1, h2, c, r, hI⟩ := p_fault (Γ := Γ) H 
  obtain ⟨n3, m3, dl3, I3, J3, rv3, g1, g2, g3, g4⟩ := kk n2 m2 dl2 I2 J2 rv2 hI
  have c1 : n ≤ em_n hp1 := c.1
  have c2 : m ≤ em_m hp1 := c.2.1
  have r1 : em_n hp1 ≤ n2 := r.1
  have r2 : em_m hp1 ≤ m2 := r.2.1
  refine ⟨n3, m3, dl3, I3, J3, rv3, g1, by omega, by omega, ?_⟩
  (repeat (refine em_pure (Nat.zero_le _) (kEL nm) rfl ?_))
  refine em_callV (μ' := mX7_fault) (c1 := 7) (kEL nm) rfl lL_98 tX7_fault (by decide) rfl (show 0 < n by omega) c rfl rfl (by omega) (Nat.le_of_ble_eq_true rfl) (show em_n hp1 ≤ n3 by omega) (show em_m hp1 ≤ m3 by omega) ?_
  (repeat (refine em_pure (Nat.zero_le _) (kEL nm) rfl ?_))
  refine em_callV (μ' := mX8_fault) (c1 := 8) (kEL nm) rfl lL_101 tX8_fault (by decide) rfl (show 53 < em_n hp1 by omega) r rfl rfl (by omega) (Nat.le_of_ble_eq_true rfl) (show n2 ≤ n3 by omega) (show m2 ≤ m3 by omega) ?_
  (repeat (refine em_pure (Nat.zero_le _) (kEL nm) rfl ?_))
  refine em_branch (kEL nm) rfl (fun _ => em_loc rfl g4) (fun z => absurd rfl z)
theorem el_law (hL : em_L Γ ≤ 3072) (hi : i + 6 ≤ em_L Γ) (H : em_Inv n m dl I J rv) (kk : ∀ n2 m2 dl2 I2 J2 rv2, em_Inv n2 m2 dl2 I2 J2 rv2 → el_go nm Γ hp0 1149 i n2 m2 dl2 I2 J2 rv2) : el_go nm Γ hp0 858 i n m dl I J rv := by
  have hB := H.n85
  obtain ⟨v, K1, K2, hp1, n2, m2, dl2, I2, J2, rv2, h1, h2, c, r, hI⟩ := p_law (Γ := Γ) H (x := em_s Γ (i + 1))
  obtain ⟨n3, m3, dl3, I3, J3, rv3, g1, g2, g3, g4⟩ := kk n2 m2 dl2 I2 J2 rv2 hI
  have c1 : n ≤ em_n hp1 := c.1
  have c2 : m ≤ em_m hp1 := c.2.1
  have r1 : em_n hp1 ≤ n2 := r.1
  have r2 : em_m hp1 ≤ m2 := r.2.1
  refine ⟨n3, m3, dl3, I3, J3, rv3, g1, by omega, by omega, ?_⟩
  (repeat (refine em_pure (Nat.zero_le _) (kEL nm) rfl ?_))
  refine el_ld (q := i + 1) (kEL nm) rfl hL (nI_add i 1) (by omega) ?_
  (repeat (refine em_pure (Nat.zero_le _) (kEL nm) rfl ?_))
  refine em_callV (μ' := mX7_law) (c1 := 7) (kEL nm) rfl lL_102 tX7_law (by decide) rfl (show 0 < n by omega) c rfl rfl (by omega) (Nat.le_of_ble_eq_true rfl) (show em_n hp1 ≤ n3 by omega) (show em_m hp1 ≤ m3 by omega) ?_
  (repeat (refine em_pure (Nat.zero_le _) (kEL nm) rfl ?_))
  refine el_ld (q := i + 1) (kEL nm) rfl hL (nI_add i 1) (by omega) ?_
  (repeat (refine em_pure (Nat.zero_le _) (kEL nm) rfl ?_))
  refine em_callV (μ' := mX8_law) (c1 := 8) (kEL nm) rfl lL_105 tX8_law (by decide) rfl (show 53 < em_n hp1 by omega) r rfl rfl (by omega) (Nat.le_of_ble_eq_true rfl) (show n2 ≤ n3 by omega) (show m2 ≤ m3 by omega) ?_
  (repeat (refine em_pure (Nat.zero_le _) (kEL nm) rfl ?_))
  refine em_branch (kEL nm) rfl (fun _ => em_loc rfl g4) (fun z => absurd rfl z)
theorem el_may (hL : em_L Γ ≤ 3072) (hi : i + 6 ≤ em_L Γ) (H : em_Inv n m dl I J rv) (kk : ∀ n2 m2 dl2 I2 J2 rv2, em_Inv n2 m2 dl2 I2 J2 rv2 → el_go nm Γ hp0 1149 i n2 m2 dl2 I2 J2 rv2) : el_go nm Γ hp0 881 i n m dl I J rv := by
  have hB := H.n85
  obtain ⟨v, K1, K2, hp1, n2, m2, dl2, I2, J2, rv2, h1, h2, c, r, hI⟩ := p_may (Γ := Γ) H (x := em_s Γ (i + 1)) (y := em_s Γ (i + 2))
  obtain ⟨n3, m3, dl3, I3, J3, rv3, g1, g2, g3, g4⟩ := kk n2 m2 dl2 I2 J2 rv2 hI
  have c1 : n ≤ em_n hp1 := c.1
  have c2 : m ≤ em_m hp1 := c.2.1
  have r1 : em_n hp1 ≤ n2 := r.1
  have r2 : em_m hp1 ≤ m2 := r.2.1
  refine ⟨n3, m3, dl3, I3, J3, rv3, g1, by omega, by omega, ?_⟩
  (repeat (refine em_pure (Nat.zero_le _) (kEL nm) rfl ?_))
  refine el_ld (q := i + 1) (kEL nm) rfl hL (nI_add i 1) (by omega) ?_
  (repeat (refine em_pure (Nat.zero_le _) (kEL nm) rfl ?_))
  refine el_ld (q := i + 2) (kEL nm) rfl hL (nI_add i 2) (by omega) ?_
  (repeat (refine em_pure (Nat.zero_le _) (kEL nm) rfl ?_))
  refine em_callV (μ' := mX7_may) (c1 := 7) (kEL nm) rfl lL_106 tX7_may (by decide) rfl (show 0 < n by omega) c rfl rfl (by omega) (Nat.le_of_ble_eq_true rfl) (show em_n hp1 ≤ n3 by omega) (show em_m hp1 ≤ m3 by omega) ?_
  (repeat (refine em_pure (Nat.zero_le _) (kEL nm) rfl ?_))
  refine el_ld (q := i + 1) (kEL nm) rfl hL (nI_add i 1) (by omega) ?_
  (repeat (refine em_pure (Nat.zero_le _) (kEL nm) rfl ?_))
  refine el_ld (q := i + 2) (kEL nm) rfl hL (nI_add i 2) (by omega) ?_
  (repeat (refine em_pure (Nat.zero_le _) (kEL nm) rfl ?_))
  refine em_callV (μ' := mX8_may) (c1 := 8) (kEL nm) rfl lL_109 tX8_may (by decide) rfl (show 53 < em_n hp1 by omega) r rfl rfl (by omega) (Nat.le_of_ble_eq_true rfl) (show n2 ≤ n3 by omega) (show m2 ≤ m3 by omega) ?_
  (repeat (refine em_pure (Nat.zero_le _) (kEL nm) rfl ?_))
  refine em_branch (kEL nm) rfl (fun _ => em_loc rfl g4) (fun z => absurd rfl z)
theorem el_fee (hL : em_L Γ ≤ 3072) (hi : i + 6 ≤ em_L Γ) (H : em_Inv n m dl I J rv) (kk : ∀ n2 m2 dl2 I2 J2 rv2, em_Inv n2 m2 dl2 I2 J2 rv2 → el_go nm Γ hp0 1149 i n2 m2 dl2 I2 J2 rv2) : el_go nm Γ hp0 914 i n m dl I J rv := by
  have hB := H.n85
  obtain ⟨v, K1, K2, hp1, n2, m2, dl2, I2, J2, rv2, h1, h2, c, r, hI⟩ := p_fee (Γ := Γ) H (x := em_s Γ (i + 1))
  obtain ⟨n3, m3, dl3, I3, J3, rv3, g1, g2, g3, g4⟩ := kk n2 m2 dl2 I2 J2 rv2 hI
  have c1 : n ≤ em_n hp1 := c.1
  have c2 : m ≤ em_m hp1 := c.2.1
  have r1 : em_n hp1 ≤ n2 := r.1
  have r2 : em_m hp1 ≤ m2 := r.2.1
  refine ⟨n3, m3, dl3, I3, J3, rv3, g1, by omega, by omega, ?_⟩
  (repeat (refine em_pure (Nat.zero_le _) (kEL nm) rfl ?_))
  refine el_ld (q := i + 1) (kEL nm) rfl hL (nI_add i 1) (by omega) ?_
  (repeat (refine em_pure (Nat.zero_le _) (kEL nm) rfl ?_))
  refine em_callV (μ' := mX7_fee) (c1 := 7) (kEL nm) rfl lL_110 tX7_fee (by decide) rfl (show 0 < n by omega) c rfl rfl (by omega) (Nat.le_of_ble_eq_true rfl) (show em_n hp1 ≤ n3 by omega) (show em_m hp1 ≤ m3 by omega) ?_
  (repeat (refine em_pure (Nat.zero_le _) (kEL nm) rfl ?_))
  refine el_ld (q := i + 1) (kEL nm) rfl hL (nI_add i 1) (by omega) ?_
  (repeat (refine em_pure (Nat.zero_le _) (kEL nm) rfl ?_))
  refine em_callV (μ' := mX8_fee) (c1 := 8) (kEL nm) rfl lL_113 tX8_fee (by decide) rfl (show 53 < em_n hp1 by omega) r rfl rfl (by omega) (Nat.le_of_ble_eq_true rfl) (show n2 ≤ n3 by omega) (show m2 ≤ m3 by omega) ?_
  (repeat (refine em_pure (Nat.zero_le _) (kEL nm) rfl ?_))
  refine em_branch (kEL nm) rfl (fun _ => em_loc rfl g4) (fun z => absurd rfl z)
theorem el_wall (hL : em_L Γ ≤ 3072) (hi : i + 6 ≤ em_L Γ) (H : em_Inv n m dl I J rv) (kk : ∀ n2 m2 dl2 I2 J2 rv2, em_Inv n2 m2 dl2 I2 J2 rv2 → el_go nm Γ hp0 1149 i n2 m2 dl2 I2 J2 rv2) : el_go nm Γ hp0 937 i n m dl I J rv := by
  have hB := H.n85
  by_cases hz : em_s Γ (i + 2) = 0
  · obtain ⟨v, K1, K2, hp1, n2, m2, dl2, I2, J2, rv2, h1, h2, c, r, hI⟩ := p_wall (Γ := Γ) H (x := em_s Γ (i + 1)) (v := 0) (Or.inl rfl)
    obtain ⟨n3, m3, dl3, I3, J3, rv3, g1, g2, g3, g4⟩ := kk n2 m2 dl2 I2 J2 rv2 hI
    have c1 : n ≤ em_n hp1 := c.1
    have c2 : m ≤ em_m hp1 := c.2.1
    have r1 : em_n hp1 ≤ n2 := r.1
    have r2 : em_m hp1 ≤ m2 := r.2.1
    refine ⟨n3, m3, dl3, I3, J3, rv3, g1, by omega, by omega, ?_⟩
    (repeat (refine em_pure (Nat.zero_le _) (kEL nm) rfl ?_))
    refine el_ld (q := i + 1) (kEL nm) rfl hL (nI_add i 1) (by omega) ?_
    (repeat (refine em_pure (Nat.zero_le _) (kEL nm) rfl ?_))
    refine el_ld (q := i + 2) (kEL nm) rfl hL (nI_add i 2) (by omega) ?_
    (repeat (refine em_pure (Nat.zero_le _) (kEL nm) rfl ?_))
    refine em_branch (kEL nm) rfl (fun _ => ?_) (fun z => absurd hz z)
    (repeat (refine em_pure (Nat.zero_le _) (kEL nm) rfl ?_))
    refine em_callV (μ' := mX7_wall) (c1 := 7) (kEL nm) rfl lL_114 tX7_wall (by decide) rfl (show 0 < n by omega) c rfl rfl (by omega) (Nat.le_of_ble_eq_true rfl) (show em_n hp1 ≤ n3 by omega) (show em_m hp1 ≤ m3 by omega) ?_
    (repeat (refine em_pure (Nat.zero_le _) (kEL nm) rfl ?_))
    refine el_ld (q := i + 1) (kEL nm) rfl hL (nI_add i 1) (by omega) ?_
    (repeat (refine em_pure (Nat.zero_le _) (kEL nm) rfl ?_))
    refine el_ld (q := i + 2) (kEL nm) rfl hL (nI_add i 2) (by omega) ?_
    (repeat (refine em_pure (Nat.zero_le _) (kEL nm) rfl ?_))
    refine em_branch (kEL nm) rfl (fun _ => ?_) (fun z => absurd hz z)
    (repeat (refine em_pure (Nat.zero_le _) (kEL nm) rfl ?_))
    refine em_callV (μ' := mX8_wall) (c1 := 8) (kEL nm) rfl lL_118 tX8_wall (by decide) rfl (show 53 < em_n hp1 by omega) r rfl rfl (by omega) (Nat.le_of_ble_eq_true rfl) (show n2 ≤ n3 by omega) (show m2 ≤ m3 by omega) ?_
    (repeat (refine em_pure (Nat.zero_le _) (kEL nm) rfl ?_))
    refine em_branch (kEL nm) rfl (fun _ => em_loc rfl g4) (fun z => absurd rfl z)
  · obtain ⟨v, K1, K2, hp1, n2, m2, dl2, I2, J2, rv2, h1, h2, c, r, hI⟩ := p_wall (Γ := Γ) H (x := em_s Γ (i + 1)) (v := 1) (Or.inr rfl)
    obtain ⟨n3, m3, dl3, I3, J3, rv3, g1, g2, g3, g4⟩ := kk n2 m2 dl2 I2 J2 rv2 hI
    have c1 : n ≤ em_n hp1 := c.1
    have c2 : m ≤ em_m hp1 := c.2.1
    have r1 : em_n hp1 ≤ n2 := r.1
    have r2 : em_m hp1 ≤ m2 := r.2.1
    refine ⟨n3, m3, dl3, I3, J3, rv3, g1, by omega, by omega, ?_⟩
    (repeat (refine em_pure (Nat.zero_le _) (kEL nm) rfl ?_))
    refine el_ld (q := i + 1) (kEL nm) rfl hL (nI_add i 1) (by omega) ?_
    (repeat (refine em_pure (Nat.zero_le _) (kEL nm) rfl ?_))
    refine el_ld (q := i + 2) (kEL nm) rfl hL (nI_add i 2) (by omega) ?_
    (repeat (refine em_pure (Nat.zero_le _) (kEL nm) rfl ?_))
    refine em_branch (kEL nm) rfl (fun z => absurd z hz) (fun _ => ?_)
    (repeat (refine em_pure (Nat.zero_le _) (kEL nm) rfl ?_))
    refine em_callV (μ' := mX7_wall) (c1 := 7) (kEL nm) rfl lL_114 tX7_wall (by decide) rfl (show 0 < n by omega) c rfl rfl (by omega) (Nat.le_of_ble_eq_true rfl) (show em_n hp1 ≤ n3 by omega) (show em_m hp1 ≤ m3 by omega) ?_
    (repeat (refine em_pure (Nat.zero_le _) (kEL nm) rfl ?_))
    refine el_ld (q := i + 1) (kEL nm) rfl hL (nI_add i 1) (by omega) ?_
    (repeat (refine em_pure (Nat.zero_le _) (kEL nm) rfl ?_))
    refine el_ld (q := i + 2) (kEL nm) rfl hL (nI_add i 2) (by omega) ?_
    (repeat (refine em_pure (Nat.zero_le _) (kEL nm) rfl ?_))
    refine em_branch (kEL nm) rfl (fun z => absurd z hz) (fun _ => ?_)
    (repeat (refine em_pure (Nat.zero_le _) (kEL nm) rfl ?_))
    refine em_callV (μ' := mX8_wall) (c1 := 8) (kEL nm) rfl lL_118 tX8_wall (by decide) rfl (show 53 < em_n hp1 by omega) r rfl rfl (by omega) (Nat.le_of_ble_eq_true rfl) (show n2 ≤ n3 by omega) (show m2 ≤ m3 by omega) ?_
    (repeat (refine em_pure (Nat.zero_le _) (kEL nm) rfl ?_))
    refine em_branch (kEL nm) rfl (fun _ => em_loc rfl g4) (fun z => absurd rfl z)
theorem el_away (hL : em_L Γ ≤ 3072) (hi : i + 6 ≤ em_L Γ) (H : em_Inv n m dl I J rv) (kk : ∀ n2 m2 dl2 I2 J2 rv2, em_Inv n2 m2 dl2 I2 J2 rv2 → el_go nm Γ hp0 1149 i n2 m2 dl2 I2 J2 rv2) : el_go nm Γ hp0 986 i n m dl I J rv := by
  have hB := H.n85
  obtain ⟨v, K1, K2, hp1, n2, m2, dl2, I2, J2, rv2, h1, h2, c, r, hI⟩ := p_away (Γ := Γ) H (x := em_s Γ (i + 1)) (y := em_s Γ (i + 2))
  obtain ⟨n3, m3, dl3, I3, J3, rv3, g1, g2, g3, g4⟩ := kk n2 m2 dl2 I2 J2 rv2 hI
  have c1 : n ≤ em_n hp1 := c.1
  have c2 : m ≤ em_m hp1 := c.2.1
  have r1 : em_n hp1 ≤ n2 := r.1
  have r2 : em_m hp1 ≤ m2 := r.2.1
  refine ⟨n3, m3, dl3, I3, J3, rv3, g1, by omega, by omega, ?_⟩
  (repeat (refine em_pure (Nat.zero_le _) (kEL nm) rfl ?_))
  refine el_ld (q := i + 1) (kEL nm) rfl hL (nI_add i 1) (by omega) ?_
  (repeat (refine em_pure (Nat.zero_le _) (kEL nm) rfl ?_))
  refine el_ld (q := i + 2) (kEL nm) rfl hL (nI_add i 2) (by omega) ?_
  (repeat (refine em_pure (Nat.zero_le _) (kEL nm) rfl ?_))
  refine em_callV (μ' := mX7_away) (c1 := 7) (kEL nm) rfl lL_119 tX7_away (by decide) rfl (show 0 < n by omega) c rfl rfl (by omega) (Nat.le_of_ble_eq_true rfl) (show em_n hp1 ≤ n3 by omega) (show em_m hp1 ≤ m3 by omega) ?_
  (repeat (refine em_pure (Nat.zero_le _) (kEL nm) rfl ?_))
  refine el_ld (q := i + 1) (kEL nm) rfl hL (nI_add i 1) (by omega) ?_
  (repeat (refine em_pure (Nat.zero_le _) (kEL nm) rfl ?_))
  refine el_ld (q := i + 2) (kEL nm) rfl hL (nI_add i 2) (by omega) ?_
  (repeat (refine em_pure (Nat.zero_le _) (kEL nm) rfl ?_))
  refine em_callV (μ' := mX8_away) (c1 := 8) (kEL nm) rfl lL_122 tX8_away (by decide) rfl (show 53 < em_n hp1 by omega) r rfl rfl (by omega) (Nat.le_of_ble_eq_true rfl) (show n2 ≤ n3 by omega) (show m2 ≤ m3 by omega) ?_
  (repeat (refine em_pure (Nat.zero_le _) (kEL nm) rfl ?_))
  refine em_branch (kEL nm) rfl (fun _ => em_loc rfl g4) (fun z => absurd rfl z)
theorem el_hour (hL : em_L Γ ≤ 3072) (hi : i + 6 ≤ em_L Γ) (H : em_Inv n m dl I J rv) (kk : ∀ n2 m2 dl2 I2 J2 rv2, em_Inv n2 m2 dl2 I2 J2 rv2 → el_go nm Γ hp0 1149 i n2 m2 dl2 I2 J2 rv2) : el_go nm Γ hp0 1019 i n m dl I J rv := by
  have hB := H.n85
  obtain ⟨v, K1, K2, hp1, n2, m2, dl2, I2, J2, rv2, h1, h2, c, r, hI⟩ := p_hour (Γ := Γ) H 
  obtain ⟨n3, m3, dl3, I3, J3, rv3, g1, g2, g3, g4⟩ := kk n2 m2 dl2 I2 J2 rv2 hI
  have c1 : n ≤ em_n hp1 := c.1
  have c2 : m ≤ em_m hp1 := c.2.1
  have r1 : em_n hp1 ≤ n2 := r.1
  have r2 : em_m hp1 ≤ m2 := r.2.1
  refine ⟨n3, m3, dl3, I3, J3, rv3, g1, by omega, by omega, ?_⟩
  (repeat (refine em_pure (Nat.zero_le _) (kEL nm) rfl ?_))
  refine em_callV (μ' := mX7_hour) (c1 := 7) (kEL nm) rfl lL_123 tX7_hour (by decide) rfl (show 0 < n by omega) c rfl rfl (by omega) (Nat.le_of_ble_eq_true rfl) (show em_n hp1 ≤ n3 by omega) (show em_m hp1 ≤ m3 by omega) ?_
  (repeat (refine em_pure (Nat.zero_le _) (kEL nm) rfl ?_))
  refine em_callV (μ' := mX8_hour) (c1 := 8) (kEL nm) rfl lL_126 tX8_hour (by decide) rfl (show 53 < em_n hp1 by omega) r rfl rfl (by omega) (Nat.le_of_ble_eq_true rfl) (show n2 ≤ n3 by omega) (show m2 ≤ m3 by omega) ?_
  (repeat (refine em_pure (Nat.zero_le _) (kEL nm) rfl ?_))
  refine em_branch (kEL nm) rfl (fun _ => em_loc rfl g4) (fun z => absurd rfl z)
theorem el_look (hL : em_L Γ ≤ 3072) (hi : i + 6 ≤ em_L Γ) (H : em_Inv n m dl I J rv) (kk : ∀ n2 m2 dl2 I2 J2 rv2, em_Inv n2 m2 dl2 I2 J2 rv2 → el_go nm Γ hp0 1149 i n2 m2 dl2 I2 J2 rv2) : el_go nm Γ hp0 1032 i n m dl I J rv := by
  have hB := H.n85
  obtain ⟨v, K1, K2, hp1, n2, m2, dl2, I2, J2, rv2, h1, h2, c, r, hI⟩ := p_look (Γ := Γ) H (x := em_s Γ (i + 1))
  obtain ⟨n3, m3, dl3, I3, J3, rv3, g1, g2, g3, g4⟩ := kk n2 m2 dl2 I2 J2 rv2 hI
  have c1 : n ≤ em_n hp1 := c.1
  have c2 : m ≤ em_m hp1 := c.2.1
  have r1 : em_n hp1 ≤ n2 := r.1
  have r2 : em_m hp1 ≤ m2 := r.2.1
  refine ⟨n3, m3, dl3, I3, J3, rv3, g1, by omega, by omega, ?_⟩
  (repeat (refine em_pure (Nat.zero_le _) (kEL nm) rfl ?_))
  refine el_ld (q := i + 1) (kEL nm) rfl hL (nI_add i 1) (by omega) ?_
  (repeat (refine em_pure (Nat.zero_le _) (kEL nm) rfl ?_))
  refine em_callV (μ' := mX7_look) (c1 := 7) (kEL nm) rfl lL_127 tX7_look (by decide) rfl (show 0 < n by omega) c rfl rfl (by omega) (Nat.le_of_ble_eq_true rfl) (show em_n hp1 ≤ n3 by omega) (show em_m hp1 ≤ m3 by omega) ?_
  (repeat (refine em_pure (Nat.zero_le _) (kEL nm) rfl ?_))
  refine el_ld (q := i + 1) (kEL nm) rfl hL (nI_add i 1) (by omega) ?_
  (repeat (refine em_pure (Nat.zero_le _) (kEL nm) rfl ?_))
  refine em_callV (μ' := mX8_look) (c1 := 8) (kEL nm) rfl lL_130 tX8_look (by decide) rfl (show 53 < em_n hp1 by omega) r rfl rfl (by omega) (Nat.le_of_ble_eq_true rfl) (show n2 ≤ n3 by omega) (show m2 ≤ m3 by omega) ?_
  (repeat (refine em_pure (Nat.zero_le _) (kEL nm) rfl ?_))
  refine em_branch (kEL nm) rfl (fun _ => em_loc rfl g4) (fun z => absurd rfl z)
theorem el_maybe (hL : em_L Γ ≤ 3072) (hi : i + 6 ≤ em_L Γ) (H : em_Inv n m dl I J rv) (kk : ∀ n2 m2 dl2 I2 J2 rv2, em_Inv n2 m2 dl2 I2 J2 rv2 → el_go nm Γ hp0 1149 i n2 m2 dl2 I2 J2 rv2) : el_go nm Γ hp0 1055 i n m dl I J rv := by
  have hB := H.n85
  obtain ⟨v, K1, K2, hp1, n2, m2, dl2, I2, J2, rv2, h1, h2, c, r, hI⟩ := p_maybe (Γ := Γ) H (x := em_s Γ (i + 1))
  obtain ⟨n3, m3, dl3, I3, J3, rv3, g1, g2, g3, g4⟩ := kk n2 m2 dl2 I2 J2 rv2 hI
  have c1 : n ≤ em_n hp1 := c.1
  have c2 : m ≤ em_m hp1 := c.2.1
  have r1 : em_n hp1 ≤ n2 := r.1
  have r2 : em_m hp1 ≤ m2 := r.2.1
  refine ⟨n3, m3, dl3, I3, J3, rv3, g1, by omega, by omega, ?_⟩
  (repeat (refine em_pure (Nat.zero_le _) (kEL nm) rfl ?_))
  refine el_ld (q := i + 1) (kEL nm) rfl hL (nI_add i 1) (by omega) ?_
  (repeat (refine em_pure (Nat.zero_le _) (kEL nm) rfl ?_))
  refine em_callV (μ' := mX7_maybe) (c1 := 7) (kEL nm) rfl lL_131 tX7_maybe (by decide) rfl (show 0 < n by omega) c rfl rfl (by omega) (Nat.le_of_ble_eq_true rfl) (show em_n hp1 ≤ n3 by omega) (show em_m hp1 ≤ m3 by omega) ?_
  (repeat (refine em_pure (Nat.zero_le _) (kEL nm) rfl ?_))
  refine el_ld (q := i + 1) (kEL nm) rfl hL (nI_add i 1) (by omega) ?_
  (repeat (refine em_pure (Nat.zero_le _) (kEL nm) rfl ?_))
  refine em_callV (μ' := mX8_maybe) (c1 := 8) (kEL nm) rfl lL_135 tX8_maybe (by decide) rfl (show 53 < em_n hp1 by omega) r rfl rfl (by omega) (Nat.le_of_ble_eq_true rfl) (show n2 ≤ n3 by omega) (show m2 ≤ m3 by omega) ?_
  (repeat (refine em_pure (Nat.zero_le _) (kEL nm) rfl ?_))
  refine em_branch (kEL nm) rfl (fun _ => em_loc rfl g4) (fun z => absurd (el_cmp v) z)
theorem el_chance (hL : em_L Γ ≤ 3072) (hi : i + 6 ≤ em_L Γ) (H : em_Inv n m dl I J rv) (kk : ∀ n2 m2 dl2 I2 J2 rv2, em_Inv n2 m2 dl2 I2 J2 rv2 → el_go nm Γ hp0 1149 i n2 m2 dl2 I2 J2 rv2) : el_go nm Γ hp0 1079 i n m dl I J rv := by
  have hB := H.n85
  obtain ⟨v, K1, K2, hp1, n2, m2, dl2, I2, J2, rv2, h1, h2, c, r, hI⟩ := p_chance (Γ := Γ) H (x := em_s Γ (i + 1)) (w := em_s Γ (i + 2))
  obtain ⟨n3, m3, dl3, I3, J3, rv3, g1, g2, g3, g4⟩ := kk n2 m2 dl2 I2 J2 rv2 hI
  have c1 : n ≤ em_n hp1 := c.1
  have c2 : m ≤ em_m hp1 := c.2.1
  have r1 : em_n hp1 ≤ n2 := r.1
  have r2 : em_m hp1 ≤ m2 := r.2.1
  refine ⟨n3, m3, dl3, I3, J3, rv3, g1, by omega, by omega, ?_⟩
  (repeat (refine em_pure (Nat.zero_le _) (kEL nm) rfl ?_))
  refine el_ld (q := i + 1) (kEL nm) rfl hL (nI_add i 1) (by omega) ?_
  (repeat (refine em_pure (Nat.zero_le _) (kEL nm) rfl ?_))
  refine el_ld (q := i + 2) (kEL nm) rfl hL (nI_add i 2) (by omega) ?_
  (repeat (refine em_pure (Nat.zero_le _) (kEL nm) rfl ?_))
  refine em_callV (μ' := mX7_chance) (c1 := 7) (kEL nm) rfl lL_136 tX7_chance (by decide) rfl (show 0 < n by omega) c rfl rfl (by omega) (Nat.le_of_ble_eq_true rfl) (show em_n hp1 ≤ n3 by omega) (show em_m hp1 ≤ m3 by omega) ?_
  (repeat (refine em_pure (Nat.zero_le _) (kEL nm) rfl ?_))
  refine el_ld (q := i + 1) (kEL nm) rfl hL (nI_add i 1) (by omega) ?_
  (repeat (refine em_pure (Nat.zero_le _) (kEL nm) rfl ?_))
  refine el_ld (q := i + 2) (kEL nm) rfl hL (nI_add i 2) (by omega) ?_
  (repeat (refine em_pure (Nat.zero_le _) (kEL nm) rfl ?_))
  refine em_callV (μ' := mX8_chance) (c1 := 8) (kEL nm) rfl lL_140 tX8_chance (by decide) rfl (show 53 < em_n hp1 by omega) r rfl rfl (by omega) (Nat.le_of_ble_eq_true rfl) (show n2 ≤ n3 by omega) (show m2 ≤ m3 by omega) ?_
  (repeat (refine em_pure (Nat.zero_le _) (kEL nm) rfl ?_))
  refine em_branch (kEL nm) rfl (fun _ => em_loc rfl g4) (fun z => absurd (el_cmp v) z)
theorem el_where (hL : em_L Γ ≤ 3072) (hi : i + 6 ≤ em_L Γ) (H : em_Inv n m dl I J rv) (kk : ∀ n2 m2 dl2 I2 J2 rv2, em_Inv n2 m2 dl2 I2 J2 rv2 → el_go nm Γ hp0 1149 i n2 m2 dl2 I2 J2 rv2) : el_go nm Γ hp0 1113 i n m dl I J rv := by
  have hB := H.n85
  obtain ⟨v, K1, K2, hp1, n2, m2, dl2, I2, J2, rv2, h1, h2, c, r, hI⟩ := p_where (Γ := Γ) H 
  obtain ⟨n3, m3, dl3, I3, J3, rv3, g1, g2, g3, g4⟩ := kk n2 m2 dl2 I2 J2 rv2 hI
  have c1 : n ≤ em_n hp1 := c.1
  have c2 : m ≤ em_m hp1 := c.2.1
  have r1 : em_n hp1 ≤ n2 := r.1
  have r2 : em_m hp1 ≤ m2 := r.2.1
  refine ⟨n3, m3, dl3, I3, J3, rv3, g1, by omega, by omega, ?_⟩
  (repeat (refine em_pure (Nat.zero_le _) (kEL nm) rfl ?_))
  refine em_callV (μ' := mX7_where) (c1 := 7) (kEL nm) rfl lL_141 tX7_where (by decide) rfl (show 0 < n by omega) c rfl rfl (by omega) (Nat.le_of_ble_eq_true rfl) (show em_n hp1 ≤ n3 by omega) (show em_m hp1 ≤ m3 by omega) ?_
  (repeat (refine em_pure (Nat.zero_le _) (kEL nm) rfl ?_))
  refine em_callV (μ' := mX8_where) (c1 := 8) (kEL nm) rfl lL_144 tX8_where (by decide) rfl (show 53 < em_n hp1 by omega) r rfl rfl (by omega) (Nat.le_of_ble_eq_true rfl) (show n2 ≤ n3 by omega) (show m2 ≤ m3 by omega) ?_
  (repeat (refine em_pure (Nat.zero_le _) (kEL nm) rfl ?_))
  refine em_branch (kEL nm) rfl (fun _ => em_loc rfl g4) (fun z => absurd rfl z)
theorem el_count (hL : em_L Γ ≤ 3072) (hi : i + 6 ≤ em_L Γ) (H : em_Inv n m dl I J rv) (kk : ∀ n2 m2 dl2 I2 J2 rv2, em_Inv n2 m2 dl2 I2 J2 rv2 → el_go nm Γ hp0 1149 i n2 m2 dl2 I2 J2 rv2) : el_go nm Γ hp0 1126 i n m dl I J rv := by
  have hB := H.n85
  obtain ⟨v, K1, K2, hp1, n2, m2, dl2, I2, J2, rv2, h1, h2, c, r, hI⟩ := p_count (Γ := Γ) H (x := em_s Γ (i + 1))
  obtain ⟨n3, m3, dl3, I3, J3, rv3, g1, g2, g3, g4⟩ := kk n2 m2 dl2 I2 J2 rv2 hI
  have c1 : n ≤ em_n hp1 := c.1
  have c2 : m ≤ em_m hp1 := c.2.1
  have r1 : em_n hp1 ≤ n2 := r.1
  have r2 : em_m hp1 ≤ m2 := r.2.1
  refine ⟨n3, m3, dl3, I3, J3, rv3, g1, by omega, by omega, ?_⟩
  (repeat (refine em_pure (Nat.zero_le _) (kEL nm) rfl ?_))
  refine el_ld (q := i + 1) (kEL nm) rfl hL (nI_add i 1) (by omega) ?_
  (repeat (refine em_pure (Nat.zero_le _) (kEL nm) rfl ?_))
  refine em_callV (μ' := mX7_count) (c1 := 7) (kEL nm) rfl lL_145 tX7_count (by decide) rfl (show 0 < n by omega) c rfl rfl (by omega) (Nat.le_of_ble_eq_true rfl) (show em_n hp1 ≤ n3 by omega) (show em_m hp1 ≤ m3 by omega) ?_
  (repeat (refine em_pure (Nat.zero_le _) (kEL nm) rfl ?_))
  refine el_ld (q := i + 1) (kEL nm) rfl hL (nI_add i 1) (by omega) ?_
  (repeat (refine em_pure (Nat.zero_le _) (kEL nm) rfl ?_))
  refine em_callV (μ' := mX8_count) (c1 := 8) (kEL nm) rfl lL_148 tX8_count (by decide) rfl (show 53 < em_n hp1 by omega) r rfl rfl (by omega) (Nat.le_of_ble_eq_true rfl) (show n2 ≤ n3 by omega) (show m2 ≤ m3 by omega) ?_
  (repeat (refine em_pure (Nat.zero_le _) (kEL nm) rfl ?_))
  refine em_branch (kEL nm) rfl (fun _ => em_loc rfl g4) (fun z => absurd rfl z)
end Cases
