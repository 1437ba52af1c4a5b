/-! THE CONSTRUCTORS: a heap that begins with nothing; references by a list -/
abbrev ec_Z : Nat → Nat → Int32 := fun _ _ => 0
abbrev ec_ZJ : Nat → Nat → Int64 := fun _ _ => 0
def ec_rl : List (Nat × Nat × Nat) → Nat → Nat → Option Nat
  | [], _, _ => none
  | q :: l, k, j => bif Nat.beq k q.1 && Nat.beq j q.2.1 then some q.2.2 else ec_rl l k j
abbrev ec_hz (n m : Nat) (I : Nat → Nat → Int32) (J : Nat → Nat → Int64) (R : Nat → Nat → Option Nat) : em_Hp := ((n, m), (fun _ => 0), I, J, R)
theorem ec_rl_up (L : List (Nat × Nat × Nat)) (k j x : Nat) : va_up (ec_rl L) k (va_up (ec_rl L k) j (some x)) = ec_rl ((k, j, x) :: L) := by
  funext a b
  by_cases ha : a = k
  · subst ha
    rw [va_up_self]
    by_cases hb : b = j
    · subst hb
      rw [va_up_self, ec_rl]
      simp
    · rw [va_up_ne _ _ hb, ec_rl, em_neb hb]
      simp
  · rw [va_up_ne _ _ ha, ec_rl, em_neb ha]
    simp
theorem ec_acJ : Cond.arrayClass .long ∈ lw_tbl := by decide +kernel
theorem ec_acZ : Cond.arrayClass .boolean ∈ lw_tbl := by decide +kernel
section Init
variable {Γ : em_Cx} {K : Nat} {μ : em_Me} {hp0 : em_Hp} {fin : Option Value × em_Hp} {pc a nx : Nat} {lc : List (Nat × Value)} {t : List Value} {n m n' m' N : Nat} {I : Nat → Nat → Int32} {J : Nat → Nat → Int64} {R : Nat → Nat → Option Nat} {L : List (Nat × Nat × Nat)}
theorem ec_naI {x : Int32} (hok : em_ok μ) (h : em_at1 76 μ pc = some (a, nx)) (hx : x = nI N) (hn : n' = n + 1) (hm : m' = m + N) (hb : Nat.blt n 85 = true) (hk : em_k n = 9) (hl : em_lS n = N) (hN : N < 100000) (hz : ∀ j, I n j = 0) (f1 : n' ≤ em_n fin.2) (f2 : m' ≤ em_m fin.2) (kk : em_EW Γ K μ hp0 fin nx lc (.ref n :: t) (ec_hz n' m' I J R)) : em_EW Γ K μ hp0 fin pc lc (.int x :: t) (ec_hz n m I J R) := by
  subst hx hn hm
  refine em_newa (op := 76) (at1 := .int) (ty := .int) (hp' := ec_hz (n + 1) (m + N) I J R) hok (Or.inl ⟨rfl, rfl, rfl⟩) h ⟨rfl, rfl, fun _ _ => rfl, fun _ _ => rfl, fun _ _ => rfl, fun _ _ => rfl⟩ hN ?_ (Or.inl ⟨rfl, hk, hz⟩) em_acI f1 f2 kk
  show (bif Nat.blt n 85 then em_lS n else _) = N
  rw [hb, cond_true, hl]
theorem ec_naJ {x : Int32} (hok : em_ok μ) (h : em_at1 77 μ pc = some (a, nx)) (hx : x = nI N) (hn : n' = n + 1) (hm : m' = m + N) (hb : Nat.blt n 85 = true) (hk : em_k n = 10) (hl : em_lS n = N) (hN : N < 100000) (hz : ∀ j, J n j = 0) (f1 : n' ≤ em_n fin.2) (f2 : m' ≤ em_m fin.2) (kk : em_EW Γ K μ hp0 fin nx lc (.ref n :: t) (ec_hz n' m' I J R)) : em_EW Γ K μ hp0 fin pc lc (.int x :: t) (ec_hz n m I J R) := by
  subst hx hn hm
  refine em_newa (op := 77) (at1 := .long) (ty := .long) (hp' := ec_hz (n + 1) (m + N) I J R) hok (Or.inr (Or.inl ⟨rfl, rfl, rfl⟩)) h ⟨rfl, rfl, fun _ _ => rfl, fun _ _ => rfl, fun _ _ => rfl, fun _ _ => rfl⟩ hN ?_ (Or.inr (Or.inl ⟨rfl, hk, hz⟩)) ec_acJ f1 f2 kk
  show (bif Nat.blt n 85 then em_lS n else _) = N
  rw [hb, cond_true, hl]
theorem ec_naB {x : Int32} (hok : em_ok μ) (h : em_at1 78 μ pc = some (a, nx)) (hx : x = nI N) (hn : n' = n + 1) (hm : m' = m + N) (hb : Nat.blt n 85 = true) (hk : em_k n = 11) (hl : em_lS n = N) (hN : N < 100000) (hz : ∀ j, I n j = 0) (f1 : n' ≤ em_n fin.2) (f2 : m' ≤ em_m fin.2) (kk : em_EW Γ K μ hp0 fin nx lc (.ref n :: t) (ec_hz n' m' I J R)) : em_EW Γ K μ hp0 fin pc lc (.int x :: t) (ec_hz n m I J R) := by
  subst hx hn hm
  refine em_newa (op := 78) (at1 := .boolean) (ty := .boolean) (hp' := ec_hz (n + 1) (m + N) I J R) hok (Or.inr (Or.inr ⟨rfl, rfl, rfl⟩)) h ⟨rfl, rfl, fun _ _ => rfl, fun _ _ => rfl, fun _ _ => rfl, fun _ _ => rfl⟩ hN ?_ (Or.inr (Or.inr ⟨rfl, hk, hz⟩)) ec_acZ f1 f2 kk
  show (bif Nat.blt n 85 then em_lS n else _) = N
  rw [hb, cond_true, hl]
theorem ec_an {x : Int32} (hok : em_ok μ) (h : em_at1 79 μ pc = some (a, nx)) (hx : x = nI N) (hn : n' = n + 1) (hm : m' = m + N) (hb : Nat.blt n 85 = true) (hk : em_k n = 12) (hl : em_lS n = N) (hN : N < 100000) (hz : ∀ j, R n j = none) (hcl0 : Cond.classLink (em_own μ) a "BeastRoad$Law" ∈ lw_tbl) (f1 : n' ≤ em_n fin.2) (f2 : m' ≤ em_m fin.2) (kk : em_EW Γ K μ hp0 fin nx lc (.ref n :: t) (ec_hz n' m' I J R)) : em_EW Γ K μ hp0 fin pc lc (.int x :: t) (ec_hz n m I J R) := by
  subst hx hn hm
  refine em_anew (hp' := ec_hz (n + 1) (m + N) I J R) hok h ⟨rfl, rfl, fun _ _ => rfl, fun _ _ => rfl, fun _ _ => rfl, fun _ _ => rfl⟩ hN ?_ hk hz hcl0 f1 f2 kk
  show (bif Nat.blt n 85 then em_lS n else _) = N
  rw [hb, cond_true, hl]
theorem ec_nw {c1 : Nat} {r : vw_C} (hok : em_ok μ) (h : em_at1 75 μ pc = some (a, nx)) (hr0 : vwCl[c1]? = some r) (hc9 : c1 < 9) (hn : n' = n + 1) (hm : m' = m + r.2.2) (k1 : em_k n = c1) (kI : ∀ j, I n j = 0) (kR : ∀ j, R n j = none) (hcl0 : Cond.classLink (em_own μ) a r.1 ∈ lw_tbl) (hins : Cond.instantiable r.1 r.2.2 ∈ lw_tbl) (hini : Cond.initialized r.1 ∈ lw_tbl) (f1 : n' ≤ em_n fin.2) (f2 : m' ≤ em_m fin.2) (kk : em_EW Γ K μ hp0 fin nx lc (.ref n :: t) (ec_hz n' m' I J R)) : em_EW Γ K μ hp0 fin pc lc t (ec_hz n m I J R) := by
  subst hn hm
  exact em_new (hp' := ec_hz (n + 1) (m + r.2.2) I J R) hok h hr0 hc9 ⟨rfl, rfl, fun _ _ => rfl, fun _ _ => rfl, fun _ _ => rfl, fun _ _ => rfl⟩ k1 kI kR hcl0 hins hini f1 f2 kk
theorem ec_pR {c j k x : Nat} {r : vw_C} (hok : em_ok μ) (h : em_pf μ pc = some (c, j, nx)) (hk : em_k k = c) (hc9 : c < 9) (hn : k < n) (hr0 : vwCl[c]? = some r) (hfin : (r.2.1 j).2.2.2 = false ∨ ((r.2.1 j).2.2.2 = true ∧ (em_y μ).name = "<init>" ∧ (r.2.1 j).1 = em_own μ)) (ht : (∃ n, em_ty c j = .object n) ∨ ∃ n, em_ty c j = .array n) (kk : em_EW Γ K μ hp0 fin nx lc t (ec_hz n m I J (ec_rl ((k, j, x) :: L)))) : em_EW Γ K μ hp0 fin pc lc (.ref x :: .ref k :: t) (ec_hz n m I J (ec_rl L)) := by
  refine em_putR hok h hk hc9 hn hr0 hfin ht (em_hpE ?_ kk)
  show ec_hz n m I J (va_up (ec_rl L) k (va_up (ec_rl L k) j (some x))) = _
  rw [ec_rl_up]
theorem ec_aa {x k c1 ii : Nat} {i : Int32} {r : vw_C} (hok : em_ok μ) (h : em_at1 69 μ pc = some (a, nx)) (hk : em_k k = 12) (hn : k < n) (hb : k < 85) (hin : vp_in i (em_lS k)) (hi : i.toNatClampNeg = ii) (hr0 : vwCl[c1]? = some r) (hx0 : em_k x = c1) (hc9 : c1 < 9) (hxn : x < n) (hr1 : r.1 = "BeastRoad$Law") (kk : em_EW Γ K μ hp0 fin nx lc t (ec_hz n m I J (ec_rl ((k, ii, x) :: L)))) : em_EW Γ K μ hp0 fin pc lc (.ref x :: .int i :: .ref k :: t) (ec_hz n m I J (ec_rl L)) := by
  subst hi
  refine em_aast hok h hk hn ?_ hr0 hr1 hx0 hc9 hxn (em_hpE ?_ kk)
  · show vp_in i (bif Nat.blt k 85 then em_lS k else _)
    have : Nat.blt k 85 = true := Nat.ble_eq_true_of_le hb
    rw [this, cond_true]
    exact hin
  · show ec_hz n m I J (va_up (ec_rl L) k (va_up (ec_rl L k) i.toNatClampNeg (some x))) = _
    rw [ec_rl_up]
end Init
abbrev ec_IbX3_1 : Nat → Nat → Int32 := (va_up (va_up ec_Z 2 (em_fil (fun _ => 0) (1) 8)) 3 (em_fil (fun _ => 0) (1) 8))
abbrev ec_LbX3_1 : List (Nat × Nat × Nat) := ((1, 12, 11) :: ((1, 11, 10) :: ((1, 9, 9) :: ((1, 8, 8) :: ((1, 7, 7) :: ((1, 5, 6) :: ((1, 4, 5) :: ((1, 3, 4) :: ((1, 1, 3) :: ((1, 0, 2) :: []))))))))))
theorem s_init_X3_1 (Γ : em_Cx) : em_MC Γ 1 mX3_init [.ref 1] (ec_hz 2 21 ec_Z ec_ZJ (ec_rl [])) none (ec_hz 12 1198 ec_IbX3_1 ec_ZJ (ec_rl ec_LbX3_1)) := by
  refine em_MC_of (Nat.le_of_ble_eq_true rfl) (Nat.le_of_ble_eq_true rfl) (by decide +kernel) rfl (Nat.le_of_ble_eq_true rfl) ?_
  (repeat (refine em_pure (B := 2) (Nat.le_refl _) kX3_init rfl ?_))
  refine em_obj kX3_init rfl (by decide +kernel) (by decide) (Nat.le_of_ble_eq_true rfl) ?_
  (repeat (refine em_pure (B := 2) (Nat.le_refl _) kX3_init rfl ?_))
  refine ec_naI (n' := 3) (m' := 29) (N := 8) kX3_init rfl rfl rfl rfl rfl rfl rfl (by decide) (fun _ => rfl) (Nat.le_of_ble_eq_true rfl) (Nat.le_of_ble_eq_true rfl) ?_
  refine ec_pR (c := 3) (j := 0) kX3_init rfl rfl (by decide) (by decide) rfl (by first | exact Or.inl rfl | exact Or.inr ⟨rfl, rfl, rfl⟩) (by first | exact Or.inl ⟨_, rfl⟩ | exact Or.inr ⟨_, rfl⟩) ?_
  (repeat (refine em_pure (B := 3) (Nat.le_refl _) kX3_init rfl ?_))
  refine ec_naI (n' := 4) (m' := 37) (N := 8) kX3_init rfl rfl rfl rfl rfl rfl rfl (by decide) (fun _ => rfl) (Nat.le_of_ble_eq_true rfl) (Nat.le_of_ble_eq_true rfl) ?_
  refine ec_pR (c := 3) (j := 1) kX3_init rfl rfl (by decide) (by decide) rfl (by first | exact Or.inl rfl | exact Or.inr ⟨rfl, rfl, rfl⟩) (by first | exact Or.inl ⟨_, rfl⟩ | exact Or.inr ⟨_, rfl⟩) ?_
  (repeat (refine em_pure (B := 4) (Nat.le_refl _) kX3_init rfl ?_))
  refine ec_naI (n' := 5) (m' := 77) (N := 40) kX3_init rfl rfl rfl rfl rfl rfl rfl (by decide) (fun _ => rfl) (Nat.le_of_ble_eq_true rfl) (Nat.le_of_ble_eq_true rfl) ?_
  refine ec_pR (c := 3) (j := 3) kX3_init rfl rfl (by decide) (by decide) rfl (by first | exact Or.inl rfl | exact Or.inr ⟨rfl, rfl, rfl⟩) (by first | exact Or.inl ⟨_, rfl⟩ | exact Or.inr ⟨_, rfl⟩) ?_
  (repeat (refine em_pure (B := 5) (Nat.le_refl _) kX3_init rfl ?_))
  refine ec_naI (n' := 6) (m' := 117) (N := 40) kX3_init rfl rfl rfl rfl rfl rfl rfl (by decide) (fun _ => rfl) (Nat.le_of_ble_eq_true rfl) (Nat.le_of_ble_eq_true rfl) ?_
  refine ec_pR (c := 3) (j := 4) kX3_init rfl rfl (by decide) (by decide) rfl (by first | exact Or.inl rfl | exact Or.inr ⟨rfl, rfl, rfl⟩) (by first | exact Or.inl ⟨_, rfl⟩ | exact Or.inr ⟨_, rfl⟩) ?_
  (repeat (refine em_pure (B := 6) (Nat.le_refl _) kX3_init rfl ?_))
  refine ec_naI (n' := 7) (m' := 157) (N := 40) kX3_init rfl rfl rfl rfl rfl rfl rfl (by decide) (fun _ => rfl) (Nat.le_of_ble_eq_true rfl) (Nat.le_of_ble_eq_true rfl) ?_
  refine ec_pR (c := 3) (j := 5) kX3_init rfl rfl (by decide) (by decide) rfl (by first | exact Or.inl rfl | exact Or.inr ⟨rfl, rfl, rfl⟩) (by first | exact Or.inl ⟨_, rfl⟩ | exact Or.inr ⟨_, rfl⟩) ?_
  (repeat (refine em_pure (B := 7) (Nat.le_refl _) kX3_init rfl ?_))
  refine ec_naI (n' := 8) (m' := 357) (N := 200) kX3_init rfl rfl rfl rfl rfl rfl rfl (by decide) (fun _ => rfl) (Nat.le_of_ble_eq_true rfl) (Nat.le_of_ble_eq_true rfl) ?_
  refine ec_pR (c := 3) (j := 7) kX3_init rfl rfl (by decide) (by decide) rfl (by first | exact Or.inl rfl | exact Or.inr ⟨rfl, rfl, rfl⟩) (by first | exact Or.inl ⟨_, rfl⟩ | exact Or.inr ⟨_, rfl⟩) ?_
  (repeat (refine em_pure (B := 8) (Nat.le_refl _) kX3_init rfl ?_))
  refine ec_naI (n' := 9) (m' := 557) (N := 200) kX3_init rfl rfl rfl rfl rfl rfl rfl (by decide) (fun _ => rfl) (Nat.le_of_ble_eq_true rfl) (Nat.le_of_ble_eq_true rfl) ?_
  refine ec_pR (c := 3) (j := 8) kX3_init rfl rfl (by decide) (by decide) rfl (by first | exact Or.inl rfl | exact Or.inr ⟨rfl, rfl, rfl⟩) (by first | exact Or.inl ⟨_, rfl⟩ | exact Or.inr ⟨_, rfl⟩) ?_
  (repeat (refine em_pure (B := 9) (Nat.le_refl _) kX3_init rfl ?_))
  refine ec_naI (n' := 10) (m' := 757) (N := 200) kX3_init rfl rfl rfl rfl rfl rfl rfl (by decide) (fun _ => rfl) (Nat.le_of_ble_eq_true rfl) (Nat.le_of_ble_eq_true rfl) ?_
  refine ec_pR (c := 3) (j := 9) kX3_init rfl rfl (by decide) (by decide) rfl (by first | exact Or.inl rfl | exact Or.inr ⟨rfl, rfl, rfl⟩) (by first | exact Or.inl ⟨_, rfl⟩ | exact Or.inr ⟨_, rfl⟩) ?_
  (repeat (refine em_pure (B := 10) (Nat.le_refl _) kX3_init rfl ?_))
  refine ec_naI (n' := 11) (m' := 797) (N := 40) kX3_init rfl rfl rfl rfl rfl rfl rfl (by decide) (fun _ => rfl) (Nat.le_of_ble_eq_true rfl) (Nat.le_of_ble_eq_true rfl) ?_
  refine ec_pR (c := 3) (j := 11) kX3_init rfl rfl (by decide) (by decide) rfl (by first | exact Or.inl rfl | exact Or.inr ⟨rfl, rfl, rfl⟩) (by first | exact Or.inl ⟨_, rfl⟩ | exact Or.inr ⟨_, rfl⟩) ?_
  (repeat (refine em_pure (B := 11) (Nat.le_refl _) kX3_init rfl ?_))
  refine ec_naI (n' := 12) (m' := 1198) (N := 401) kX3_init rfl rfl rfl rfl rfl rfl rfl (by decide) (fun _ => rfl) (Nat.le_of_ble_eq_true rfl) (Nat.le_of_ble_eq_true rfl) ?_
  refine ec_pR (c := 3) (j := 12) kX3_init rfl rfl (by decide) (by decide) rfl (by first | exact Or.inl rfl | exact Or.inr ⟨rfl, rfl, rfl⟩) (by first | exact Or.inl ⟨_, rfl⟩ | exact Or.inr ⟨_, rfl⟩) ?_
  (repeat (refine em_pure (B := 12) (Nat.le_refl _) kX3_init rfl ?_))
  refine em_callS (μ' := mJ7_fill_53178) kX3_init rfl lX3_42 tJ7_fill_53178 (s_fillI Γ _ (k := 2) (L := 8) (1) rfl (by decide) rfl (by decide)) rfl rfl (by decide) (Nat.le_of_ble_eq_true rfl) (Nat.le_of_ble_eq_true rfl) (Nat.le_of_ble_eq_true rfl) ?_
  refine em_hpE (hp' := (ec_hz 12 1198 (va_up ec_Z 2 (em_fil (fun _ => 0) (1) 8)) ec_ZJ (ec_rl ((1, 12, 11) :: ((1, 11, 10) :: ((1, 9, 9) :: ((1, 8, 8) :: ((1, 7, 7) :: ((1, 5, 6) :: ((1, 4, 5) :: ((1, 3, 4) :: ((1, 1, 3) :: ((1, 0, 2) :: []))))))))))))) rfl ?_
  (repeat (refine em_pure (B := 12) (Nat.le_refl _) kX3_init rfl ?_))
  refine em_callS (μ' := mJ7_fill_53178) kX3_init rfl lX3_42 tJ7_fill_53178 (s_fillI Γ _ (k := 3) (L := 8) (1) rfl (by decide) rfl (by decide)) rfl rfl (by decide) (Nat.le_of_ble_eq_true rfl) (Nat.le_of_ble_eq_true rfl) (Nat.le_of_ble_eq_true rfl) ?_
  refine em_hpE (hp' := (ec_hz 12 1198 (va_up (va_up ec_Z 2 (em_fil (fun _ => 0) (1) 8)) 3 (em_fil (fun _ => 0) (1) 8)) ec_ZJ (ec_rl ((1, 12, 11) :: ((1, 11, 10) :: ((1, 9, 9) :: ((1, 8, 8) :: ((1, 7, 7) :: ((1, 5, 6) :: ((1, 4, 5) :: ((1, 3, 4) :: ((1, 1, 3) :: ((1, 0, 2) :: []))))))))))))) rfl ?_
  exact em_vret kX3_init rfl rfl rfl
abbrev ec_La13 : List (Nat × Nat × Nat) := ((0, 0, 1) :: ec_LbX3_1)
abbrev ec_LbX0_12 : List (Nat × Nat × Nat) := ((12, 2, 14) :: ((12, 0, 13) :: ec_La13))
theorem s_init_X0_12 (Γ : em_Cx) : em_MC Γ 1 mX0_init [.ref 12] (ec_hz 13 1202 ec_IbX3_1 ec_ZJ (ec_rl ec_La13)) none (ec_hz 15 1699 ec_IbX3_1 ec_ZJ (ec_rl ec_LbX0_12)) := by
  refine em_MC_of (Nat.le_of_ble_eq_true rfl) (Nat.le_of_ble_eq_true rfl) (by decide +kernel) rfl (Nat.le_of_ble_eq_true rfl) ?_
  (repeat (refine em_pure (B := 13) (Nat.le_refl _) kX0_init rfl ?_))
  refine em_obj kX0_init rfl (by decide +kernel) (by decide) (Nat.le_of_ble_eq_true rfl) ?_
  (repeat (refine em_pure (B := 13) (Nat.le_refl _) kX0_init rfl ?_))
  refine ec_naI (n' := 14) (m' := 1603) (N := 401) kX0_init rfl rfl rfl rfl rfl rfl rfl (by decide) (fun _ => rfl) (Nat.le_of_ble_eq_true rfl) (Nat.le_of_ble_eq_true rfl) ?_
  refine ec_pR (c := 0) (j := 0) kX0_init rfl rfl (by decide) (by decide) rfl (by first | exact Or.inl rfl | exact Or.inr ⟨rfl, rfl, rfl⟩) (by first | exact Or.inl ⟨_, rfl⟩ | exact Or.inr ⟨_, rfl⟩) ?_
  (repeat (refine em_pure (B := 14) (Nat.le_refl _) kX0_init rfl ?_))
  refine ec_naI (n' := 15) (m' := 1699) (N := 96) kX0_init rfl rfl rfl rfl rfl rfl rfl (by decide) (fun _ => rfl) (Nat.le_of_ble_eq_true rfl) (Nat.le_of_ble_eq_true rfl) ?_
  refine ec_pR (c := 0) (j := 2) kX0_init rfl rfl (by decide) (by decide) rfl (by first | exact Or.inl rfl | exact Or.inr ⟨rfl, rfl, rfl⟩) (by first | exact Or.inl ⟨_, rfl⟩ | exact Or.inr ⟨_, rfl⟩) ?_
  exact em_vret kX0_init rfl rfl rfl
abbrev ec_La16 : List (Nat × Nat × Nat) := ((0, 1, 12) :: ec_LbX0_12)
abbrev ec_IbX6_15 : Nat → Nat → Int32 := (va_up ec_IbX3_1 16 (em_fil (fun _ => 0) (-1) 40))
abbrev ec_LbX6_15 : List (Nat × Nat × Nat) := ((15, 0, 1) :: ((15, 5, 20) :: ((15, 4, 19) :: ((15, 3, 18) :: ((15, 2, 17) :: ((15, 1, 16) :: ec_La16))))))
theorem s_init_X6_15 (Γ : em_Cx) : em_MC Γ 1 mX6_init [.ref 15, .ref 1] (ec_hz 16 1705 ec_IbX3_1 ec_ZJ (ec_rl ec_La16)) none (ec_hz 21 2025 ec_IbX6_15 ec_ZJ (ec_rl ec_LbX6_15)) := by
  refine em_MC_of (Nat.le_of_ble_eq_true rfl) (Nat.le_of_ble_eq_true rfl) (by decide +kernel) rfl (Nat.le_of_ble_eq_true rfl) ?_
  (repeat (refine em_pure (B := 16) (Nat.le_refl _) kX6_init rfl ?_))
  refine em_obj kX6_init rfl (by decide +kernel) (by decide) (Nat.le_of_ble_eq_true rfl) ?_
  (repeat (refine em_pure (B := 16) (Nat.le_refl _) kX6_init rfl ?_))
  refine ec_naI (n' := 17) (m' := 1745) (N := 40) kX6_init rfl rfl rfl rfl rfl rfl rfl (by decide) (fun _ => rfl) (Nat.le_of_ble_eq_true rfl) (Nat.le_of_ble_eq_true rfl) ?_
  refine ec_pR (c := 6) (j := 1) kX6_init rfl rfl (by decide) (by decide) rfl (by first | exact Or.inl rfl | exact Or.inr ⟨rfl, rfl, rfl⟩) (by first | exact Or.inl ⟨_, rfl⟩ | exact Or.inr ⟨_, rfl⟩) ?_
  (repeat (refine em_pure (B := 17) (Nat.le_refl _) kX6_init rfl ?_))
  refine ec_naI (n' := 18) (m' := 1753) (N := 8) kX6_init rfl rfl rfl rfl rfl rfl rfl (by decide) (fun _ => rfl) (Nat.le_of_ble_eq_true rfl) (Nat.le_of_ble_eq_true rfl) ?_
  refine ec_pR (c := 6) (j := 2) kX6_init rfl rfl (by decide) (by decide) rfl (by first | exact Or.inl rfl | exact Or.inr ⟨rfl, rfl, rfl⟩) (by first | exact Or.inl ⟨_, rfl⟩ | exact Or.inr ⟨_, rfl⟩) ?_
  (repeat (refine em_pure (B := 18) (Nat.le_refl _) kX6_init rfl ?_))
  refine ec_naI (n' := 19) (m' := 1761) (N := 8) kX6_init rfl rfl rfl rfl rfl rfl rfl (by decide) (fun _ => rfl) (Nat.le_of_ble_eq_true rfl) (Nat.le_of_ble_eq_true rfl) ?_
  refine ec_pR (c := 6) (j := 3) kX6_init rfl rfl (by decide) (by decide) rfl (by first | exact Or.inl rfl | exact Or.inr ⟨rfl, rfl, rfl⟩) (by first | exact Or.inl ⟨_, rfl⟩ | exact Or.inr ⟨_, rfl⟩) ?_
  (repeat (refine em_pure (B := 19) (Nat.le_refl _) kX6_init rfl ?_))
  refine ec_naI (n' := 20) (m' := 1769) (N := 8) kX6_init rfl rfl rfl rfl rfl rfl rfl (by decide) (fun _ => rfl) (Nat.le_of_ble_eq_true rfl) (Nat.le_of_ble_eq_true rfl) ?_
  refine ec_pR (c := 6) (j := 4) kX6_init rfl rfl (by decide) (by decide) rfl (by first | exact Or.inl rfl | exact Or.inr ⟨rfl, rfl, rfl⟩) (by first | exact Or.inl ⟨_, rfl⟩ | exact Or.inr ⟨_, rfl⟩) ?_
  (repeat (refine em_pure (B := 20) (Nat.le_refl _) kX6_init rfl ?_))
  refine ec_naI (n' := 21) (m' := 2025) (N := 256) kX6_init rfl rfl rfl rfl rfl rfl rfl (by decide) (fun _ => rfl) (Nat.le_of_ble_eq_true rfl) (Nat.le_of_ble_eq_true rfl) ?_
  refine ec_pR (c := 6) (j := 5) kX6_init rfl rfl (by decide) (by decide) rfl (by first | exact Or.inl rfl | exact Or.inr ⟨rfl, rfl, rfl⟩) (by first | exact Or.inl ⟨_, rfl⟩ | exact Or.inr ⟨_, rfl⟩) ?_
  (repeat (refine em_pure (B := 21) (Nat.le_refl _) kX6_init rfl ?_))
  refine ec_pR (c := 6) (j := 0) kX6_init rfl rfl (by decide) (by decide) rfl (by first | exact Or.inl rfl | exact Or.inr ⟨rfl, rfl, rfl⟩) (by first | exact Or.inl ⟨_, rfl⟩ | exact Or.inr ⟨_, rfl⟩) ?_
  (repeat (refine em_pure (B := 21) (Nat.le_refl _) kX6_init rfl ?_))
  refine em_callS (μ' := mJ7_fill_53178) kX6_init rfl lX6_31 tJ7_fill_53178 (s_fillI Γ _ (k := 16) (L := 40) (-1) rfl (by decide) rfl (by decide)) rfl rfl (by decide) (Nat.le_of_ble_eq_true rfl) (Nat.le_of_ble_eq_true rfl) (Nat.le_of_ble_eq_true rfl) ?_
  refine em_hpE (hp' := (ec_hz 21 2025 (va_up ec_IbX3_1 16 (em_fil (fun _ => 0) (-1) 40)) ec_ZJ (ec_rl ((15, 0, 1) :: ((15, 5, 20) :: ((15, 4, 19) :: ((15, 3, 18) :: ((15, 2, 17) :: ((15, 1, 16) :: ec_La16))))))))) rfl ?_
  exact em_vret kX6_init rfl rfl rfl
abbrev ec_La22 : List (Nat × Nat × Nat) := ((0, 2, 15) :: ec_LbX6_15)
abbrev ec_IbX1_21 : Nat → Nat → Int32 := (va_up (va_up ec_IbX6_15 21 (va_up (fun _ => 0) 6 (-1))) 25 (em_fil (fun _ => 0) (9) 64))
abbrev ec_LbX1_21 : List (Nat × Nat × Nat) := ((21, 11, 27) :: ((21, 8, 26) :: ((21, 4, 25) :: ((21, 3, 24) :: ((21, 2, 23) :: ((21, 1, 22) :: ec_La22))))))
theorem s_init_X1_21 (Γ : em_Cx) : em_MC Γ 1 mX1_init [.ref 21] (ec_hz 22 2038 ec_IbX6_15 ec_ZJ (ec_rl ec_La22)) none (ec_hz 28 2142 ec_IbX1_21 ec_ZJ (ec_rl ec_LbX1_21)) := by
  refine em_MC_of (Nat.le_of_ble_eq_true rfl) (Nat.le_of_ble_eq_true rfl) (by decide +kernel) rfl (Nat.le_of_ble_eq_true rfl) ?_
  (repeat (refine em_pure (B := 22) (Nat.le_refl _) kX1_init rfl ?_))
  refine em_obj kX1_init rfl (by decide +kernel) (by decide) (Nat.le_of_ble_eq_true rfl) ?_
  (repeat (refine em_pure (B := 22) (Nat.le_refl _) kX1_init rfl ?_))
  refine ec_naI (n' := 23) (m' := 2046) (N := 8) kX1_init rfl rfl rfl rfl rfl rfl rfl (by decide) (fun _ => rfl) (Nat.le_of_ble_eq_true rfl) (Nat.le_of_ble_eq_true rfl) ?_
  refine ec_pR (c := 1) (j := 1) kX1_init rfl rfl (by decide) (by decide) rfl (by first | exact Or.inl rfl | exact Or.inr ⟨rfl, rfl, rfl⟩) (by first | exact Or.inl ⟨_, rfl⟩ | exact Or.inr ⟨_, rfl⟩) ?_
  (repeat (refine em_pure (B := 23) (Nat.le_refl _) kX1_init rfl ?_))
  refine ec_naI (n' := 24) (m' := 2054) (N := 8) kX1_init rfl rfl rfl rfl rfl rfl rfl (by decide) (fun _ => rfl) (Nat.le_of_ble_eq_true rfl) (Nat.le_of_ble_eq_true rfl) ?_
  refine ec_pR (c := 1) (j := 2) kX1_init rfl rfl (by decide) (by decide) rfl (by first | exact Or.inl rfl | exact Or.inr ⟨rfl, rfl, rfl⟩) (by first | exact Or.inl ⟨_, rfl⟩ | exact Or.inr ⟨_, rfl⟩) ?_
  (repeat (refine em_pure (B := 24) (Nat.le_refl _) kX1_init rfl ?_))
  refine ec_naI (n' := 25) (m' := 2062) (N := 8) kX1_init rfl rfl rfl rfl rfl rfl rfl (by decide) (fun _ => rfl) (Nat.le_of_ble_eq_true rfl) (Nat.le_of_ble_eq_true rfl) ?_
  refine ec_pR (c := 1) (j := 3) kX1_init rfl rfl (by decide) (by decide) rfl (by first | exact Or.inl rfl | exact Or.inr ⟨rfl, rfl, rfl⟩) (by first | exact Or.inl ⟨_, rfl⟩ | exact Or.inr ⟨_, rfl⟩) ?_
  (repeat (refine em_pure (B := 25) (Nat.le_refl _) kX1_init rfl ?_))
  refine ec_naI (n' := 26) (m' := 2126) (N := 64) kX1_init rfl rfl rfl rfl rfl rfl rfl (by decide) (fun _ => rfl) (Nat.le_of_ble_eq_true rfl) (Nat.le_of_ble_eq_true rfl) ?_
  refine ec_pR (c := 1) (j := 4) kX1_init rfl rfl (by decide) (by decide) rfl (by first | exact Or.inl rfl | exact Or.inr ⟨rfl, rfl, rfl⟩) (by first | exact Or.inl ⟨_, rfl⟩ | exact Or.inr ⟨_, rfl⟩) ?_
  (repeat (refine em_pure (B := 26) (Nat.le_refl _) kX1_init rfl ?_))
  refine em_putI (c := 1) (j := 6) kX1_init rfl rfl (by decide) (by decide) rfl rfl rfl ?_
  refine em_hpE (hp' := (ec_hz 26 2126 (va_up ec_IbX6_15 21 (va_up (fun _ => 0) 6 (-1))) ec_ZJ (ec_rl ((21, 4, 25) :: ((21, 3, 24) :: ((21, 2, 23) :: ((21, 1, 22) :: ec_La22))))))) rfl ?_
  (repeat (refine em_pure (B := 26) (Nat.le_refl _) kX1_init rfl ?_))
  refine ec_naI (n' := 27) (m' := 2134) (N := 8) kX1_init rfl rfl rfl rfl rfl rfl rfl (by decide) (fun _ => rfl) (Nat.le_of_ble_eq_true rfl) (Nat.le_of_ble_eq_true rfl) ?_
  refine ec_pR (c := 1) (j := 8) kX1_init rfl rfl (by decide) (by decide) rfl (by first | exact Or.inl rfl | exact Or.inr ⟨rfl, rfl, rfl⟩) (by first | exact Or.inl ⟨_, rfl⟩ | exact Or.inr ⟨_, rfl⟩) ?_
  (repeat (refine em_pure (B := 27) (Nat.le_refl _) kX1_init rfl ?_))
  refine ec_naI (n' := 28) (m' := 2142) (N := 8) kX1_init rfl rfl rfl rfl rfl rfl rfl (by decide) (fun _ => rfl) (Nat.le_of_ble_eq_true rfl) (Nat.le_of_ble_eq_true rfl) ?_
  refine ec_pR (c := 1) (j := 11) kX1_init rfl rfl (by decide) (by decide) rfl (by first | exact Or.inl rfl | exact Or.inr ⟨rfl, rfl, rfl⟩) (by first | exact Or.inl ⟨_, rfl⟩ | exact Or.inr ⟨_, rfl⟩) ?_
  (repeat (refine em_pure (B := 28) (Nat.le_refl _) kX1_init rfl ?_))
  refine em_callS (μ' := mJ7_fill_53178) kX1_init rfl lX1_34 tJ7_fill_53178 (s_fillI Γ _ (k := 25) (L := 64) (9) rfl (by decide) rfl (by decide)) rfl rfl (by decide) (Nat.le_of_ble_eq_true rfl) (Nat.le_of_ble_eq_true rfl) (Nat.le_of_ble_eq_true rfl) ?_
  refine em_hpE (hp' := (ec_hz 28 2142 (va_up (va_up ec_IbX6_15 21 (va_up (fun _ => 0) 6 (-1))) 25 (em_fil (fun _ => 0) (9) 64)) ec_ZJ (ec_rl ((21, 11, 27) :: ((21, 8, 26) :: ((21, 4, 25) :: ((21, 3, 24) :: ((21, 2, 23) :: ((21, 1, 22) :: ec_La22))))))))) rfl ?_
  exact em_vret kX1_init rfl rfl rfl
abbrev ec_La29 : List (Nat × Nat × Nat) := ((0, 3, 21) :: ec_LbX1_21)
abbrev ec_LbX5_28 : List (Nat × Nat × Nat) := ((28, 0, 29) :: ec_La29)
theorem s_init_X5_28 (Γ : em_Cx) : em_MC Γ 1 mX5_init [.ref 28] (ec_hz 29 2144 ec_IbX1_21 ec_ZJ (ec_rl ec_La29)) none (ec_hz 30 2344 ec_IbX1_21 ec_ZJ (ec_rl ec_LbX5_28)) := by
  refine em_MC_of (Nat.le_of_ble_eq_true rfl) (Nat.le_of_ble_eq_true rfl) (by decide +kernel) rfl (Nat.le_of_ble_eq_true rfl) ?_
  (repeat (refine em_pure (B := 29) (Nat.le_refl _) kX5_init rfl ?_))
  refine em_obj kX5_init rfl (by decide +kernel) (by decide) (Nat.le_of_ble_eq_true rfl) ?_
  (repeat (refine em_pure (B := 29) (Nat.le_refl _) kX5_init rfl ?_))
  refine ec_naI (n' := 30) (m' := 2344) (N := 200) kX5_init rfl rfl rfl rfl rfl rfl rfl (by decide) (fun _ => rfl) (Nat.le_of_ble_eq_true rfl) (Nat.le_of_ble_eq_true rfl) ?_
  refine ec_pR (c := 5) (j := 0) kX5_init rfl rfl (by decide) (by decide) rfl (by first | exact Or.inl rfl | exact Or.inr ⟨rfl, rfl, rfl⟩) (by first | exact Or.inl ⟨_, rfl⟩ | exact Or.inr ⟨_, rfl⟩) ?_
  exact em_vret kX5_init rfl rfl rfl
abbrev ec_La32 : List (Nat × Nat × Nat) := ((0, 5, 30) :: ((0, 4, 28) :: ec_LbX5_28))
abbrev ec_IbX4_31 : Nat → Nat → Int32 := (va_up ec_IbX1_21 32 (em_fil (fun _ => 0) (-1) 6))
abbrev ec_LbX4_31 : List (Nat × Nat × Nat) := ((31, 1, 32) :: ec_La32)
theorem s_init_X4_31 (Γ : em_Cx) : em_MC Γ 1 mX4_init [.ref 31] (ec_hz 32 2354 ec_IbX1_21 ec_ZJ (ec_rl ec_La32)) none (ec_hz 33 2360 ec_IbX4_31 ec_ZJ (ec_rl ec_LbX4_31)) := by
  refine em_MC_of (Nat.le_of_ble_eq_true rfl) (Nat.le_of_ble_eq_true rfl) (by decide +kernel) rfl (Nat.le_of_ble_eq_true rfl) ?_
  (repeat (refine em_pure (B := 32) (Nat.le_refl _) kX4_init rfl ?_))
  refine em_obj kX4_init rfl (by decide +kernel) (by decide) (Nat.le_of_ble_eq_true rfl) ?_
  (repeat (refine em_pure (B := 32) (Nat.le_refl _) kX4_init rfl ?_))
  refine ec_naI (n' := 33) (m' := 2360) (N := 6) kX4_init rfl rfl rfl rfl rfl rfl rfl (by decide) (fun _ => rfl) (Nat.le_of_ble_eq_true rfl) (Nat.le_of_ble_eq_true rfl) ?_
  refine ec_pR (c := 4) (j := 1) kX4_init rfl rfl (by decide) (by decide) rfl (by first | exact Or.inl rfl | exact Or.inr ⟨rfl, rfl, rfl⟩) (by first | exact Or.inl ⟨_, rfl⟩ | exact Or.inr ⟨_, rfl⟩) ?_
  (repeat (refine em_pure (B := 33) (Nat.le_refl _) kX4_init rfl ?_))
  refine em_callS (μ' := mJ7_fill_53178) kX4_init rfl lX4_15 tJ7_fill_53178 (s_fillI Γ _ (k := 32) (L := 6) (-1) rfl (by decide) rfl (by decide)) rfl rfl (by decide) (Nat.le_of_ble_eq_true rfl) (Nat.le_of_ble_eq_true rfl) (Nat.le_of_ble_eq_true rfl) ?_
  refine em_hpE (hp' := (ec_hz 33 2360 (va_up ec_IbX1_21 32 (em_fil (fun _ => 0) (-1) 6)) ec_ZJ (ec_rl ((31, 1, 32) :: ec_La32)))) rfl ?_
  exact em_vret kX4_init rfl rfl rfl
abbrev ec_La34 : List (Nat × Nat × Nat) := ((30, 0, 31) :: ec_LbX4_31)
abbrev ec_IbX4_33 : Nat → Nat → Int32 := (va_up ec_IbX4_31 34 (em_fil (fun _ => 0) (-1) 6))
abbrev ec_LbX4_33 : List (Nat × Nat × Nat) := ((33, 1, 34) :: ec_La34)
theorem s_init_X4_33 (Γ : em_Cx) : em_MC Γ 1 mX4_init [.ref 33] (ec_hz 34 2362 ec_IbX4_31 ec_ZJ (ec_rl ec_La34)) none (ec_hz 35 2368 ec_IbX4_33 ec_ZJ (ec_rl ec_LbX4_33)) := by
  refine em_MC_of (Nat.le_of_ble_eq_true rfl) (Nat.le_of_ble_eq_true rfl) (by decide +kernel) rfl (Nat.le_of_ble_eq_true rfl) ?_
  (repeat (refine em_pure (B := 34) (Nat.le_refl _) kX4_init rfl ?_))
  refine em_obj kX4_init rfl (by decide +kernel) (by decide) (Nat.le_of_ble_eq_true rfl) ?_
  (repeat (refine em_pure (B := 34) (Nat.le_refl _) kX4_init rfl ?_))
  refine ec_naI (n' := 35) (m' := 2368) (N := 6) kX4_init rfl rfl rfl rfl rfl rfl rfl (by decide) (fun _ => rfl) (Nat.le_of_ble_eq_true rfl) (Nat.le_of_ble_eq_true rfl) ?_
  refine ec_pR (c := 4) (j := 1) kX4_init rfl rfl (by decide) (by decide) rfl (by first | exact Or.inl rfl | exact Or.inr ⟨rfl, rfl, rfl⟩) (by first | exact Or.inl ⟨_, rfl⟩ | exact Or.inr ⟨_, rfl⟩) ?_
  (repeat (refine em_pure (B := 35) (Nat.le_refl _) kX4_init rfl ?_))
  refine em_callS (μ' := mJ7_fill_53178) kX4_init rfl lX4_15 tJ7_fill_53178 (s_fillI Γ _ (k := 34) (L := 6) (-1) rfl (by decide) rfl (by decide)) rfl rfl (by decide) (Nat.le_of_ble_eq_true rfl) (Nat.le_of_ble_eq_true rfl) (Nat.le_of_ble_eq_true rfl) ?_
  refine em_hpE (hp' := (ec_hz 35 2368 (va_up ec_IbX4_31 34 (em_fil (fun _ => 0) (-1) 6)) ec_ZJ (ec_rl ((33, 1, 34) :: ec_La34)))) rfl ?_
  exact em_vret kX4_init rfl rfl rfl
abbrev ec_La36 : List (Nat × Nat × Nat) := ((30, 1, 33) :: ec_LbX4_33)
abbrev ec_IbX4_35 : Nat → Nat → Int32 := (va_up ec_IbX4_33 36 (em_fil (fun _ => 0) (-1) 6))
abbrev ec_LbX4_35 : List (Nat × Nat × Nat) := ((35, 1, 36) :: ec_La36)
theorem s_init_X4_35 (Γ : em_Cx) : em_MC Γ 1 mX4_init [.ref 35] (ec_hz 36 2370 ec_IbX4_33 ec_ZJ (ec_rl ec_La36)) none (ec_hz 37 2376 ec_IbX4_35 ec_ZJ (ec_rl ec_LbX4_35)) := by
  refine em_MC_of (Nat.le_of_ble_eq_true rfl) (Nat.le_of_ble_eq_true rfl) (by decide +kernel) rfl (Nat.le_of_ble_eq_true rfl) ?_
  (repeat (refine em_pure (B := 36) (Nat.le_refl _) kX4_init rfl ?_))
  refine em_obj kX4_init rfl (by decide +kernel) (by decide) (Nat.le_of_ble_eq_true rfl) ?_
  (repeat (refine em_pure (B := 36) (Nat.le_refl _) kX4_init rfl ?_))
  refine ec_naI (n' := 37) (m' := 2376) (N := 6) kX4_init rfl rfl rfl rfl rfl rfl rfl (by decide) (fun _ => rfl) (Nat.le_of_ble_eq_true rfl) (Nat.le_of_ble_eq_true rfl) ?_
  refine ec_pR (c := 4) (j := 1) kX4_init rfl rfl (by decide) (by decide) rfl (by first | exact Or.inl rfl | exact Or.inr ⟨rfl, rfl, rfl⟩) (by first | exact Or.inl ⟨_, rfl⟩ | exact Or.inr ⟨_, rfl⟩) ?_
  (repeat (refine em_pure (B := 37) (Nat.le_refl _) kX4_init rfl ?_))
  refine em_callS (μ' := mJ7_fill_53178) kX4_init rfl lX4_15 tJ7_fill_53178 (s_fillI Γ _ (k := 36) (L := 6) (-1) rfl (by decide) rfl (by decide)) rfl rfl (by decide) (Nat.le_of_ble_eq_true rfl) (Nat.le_of_ble_eq_true rfl) (Nat.le_of_ble_eq_true rfl) ?_
  refine em_hpE (hp' := (ec_hz 37 2376 (va_up ec_IbX4_33 36 (em_fil (fun _ => 0) (-1) 6)) ec_ZJ (ec_rl ((35, 1, 36) :: ec_La36)))) rfl ?_
  exact em_vret kX4_init rfl rfl rfl
abbrev ec_La38 : List (Nat × Nat × Nat) := ((30, 2, 35) :: ec_LbX4_35)
abbrev ec_IbX4_37 : Nat → Nat → Int32 := (va_up ec_IbX4_35 38 (em_fil (fun _ => 0) (-1) 6))
abbrev ec_LbX4_37 : List (Nat × Nat × Nat) := ((37, 1, 38) :: ec_La38)
theorem s_init_X4_37 (Γ : em_Cx) : em_MC Γ 1 mX4_init [.ref 37] (ec_hz 38 2378 ec_IbX4_35 ec_ZJ (ec_rl ec_La38)) none (ec_hz 39 2384 ec_IbX4_37 ec_ZJ (ec_rl ec_LbX4_37)) := by
  refine em_MC_of (Nat.le_of_ble_eq_true rfl) (Nat.le_of_ble_eq_true rfl) (by decide +kernel) rfl (Nat.le_of_ble_eq_true rfl) ?_
  (repeat (refine em_pure (B := 38) (Nat.le_refl _) kX4_init rfl ?_))
  refine em_obj kX4_init rfl (by decide +kernel) (by decide) (Nat.le_of_ble_eq_true rfl) ?_
  (repeat (refine em_pure (B := 38) (Nat.le_refl _) kX4_init rfl ?_))
  refine ec_naI (n' := 39) (m' := 2384) (N := 6) kX4_init rfl rfl rfl rfl rfl rfl rfl (by decide) (fun _ => rfl) (Nat.le_of_ble_eq_true rfl) (Nat.le_of_ble_eq_true rfl) ?_
  refine ec_pR (c := 4) (j := 1) kX4_init rfl rfl (by decide) (by decide) rfl (by first | exact Or.inl rfl | exact Or.inr ⟨rfl, rfl, rfl⟩) (by first | exact Or.inl ⟨_, rfl⟩ | exact Or.inr ⟨_, rfl⟩) ?_
  (repeat (refine em_pure (B := 39) (Nat.le_refl _) kX4_init rfl ?_))
  refine em_callS (μ' := mJ7_fill_53178) kX4_init rfl lX4_15 tJ7_fill_53178 (s_fillI Γ _ (k := 38) (L := 6) (-1) rfl (by decide) rfl (by decide)) rfl rfl (by decide) (Nat.le_of_ble_eq_true rfl) (Nat.le_of_ble_eq_true rfl) (Nat.le_of_ble_eq_true rfl) ?_
  refine em_hpE (hp' := (ec_hz 39 2384 (va_up ec_IbX4_35 38 (em_fil (fun _ => 0) (-1) 6)) ec_ZJ (ec_rl ((37, 1, 38) :: ec_La38)))) rfl ?_
  exact em_vret kX4_init rfl rfl rfl
abbrev ec_La40 : List (Nat × Nat × Nat) := ((30, 3, 37) :: ec_LbX4_37)
abbrev ec_IbX4_39 : Nat → Nat → Int32 := (va_up ec_IbX4_37 40 (em_fil (fun _ => 0) (-1) 6))
abbrev ec_LbX4_39 : List (Nat × Nat × Nat) := ((39, 1, 40) :: ec_La40)
theorem s_init_X4_39 (Γ : em_Cx) : em_MC Γ 1 mX4_init [.ref 39] (ec_hz 40 2386 ec_IbX4_37 ec_ZJ (ec_rl ec_La40)) none (ec_hz 41 2392 ec_IbX4_39 ec_ZJ (ec_rl ec_LbX4_39)) := by
  refine em_MC_of (Nat.le_of_ble_eq_true rfl) (Nat.le_of_ble_eq_true rfl) (by decide +kernel) rfl (Nat.le_of_ble_eq_true rfl) ?_
  (repeat (refine em_pure (B := 40) (Nat.le_refl _) kX4_init rfl ?_))
  refine em_obj kX4_init rfl (by decide +kernel) (by decide) (Nat.le_of_ble_eq_true rfl) ?_
  (repeat (refine em_pure (B := 40) (Nat.le_refl _) kX4_init rfl ?_))
  refine ec_naI (n' := 41) (m' := 2392) (N := 6) kX4_init rfl rfl rfl rfl rfl rfl rfl (by decide) (fun _ => rfl) (Nat.le_of_ble_eq_true rfl) (Nat.le_of_ble_eq_true rfl) ?_
  refine ec_pR (c := 4) (j := 1) kX4_init rfl rfl (by decide) (by decide) rfl (by first | exact Or.inl rfl | exact Or.inr ⟨rfl, rfl, rfl⟩) (by first | exact Or.inl ⟨_, rfl⟩ | exact Or.inr ⟨_, rfl⟩) ?_
  (repeat (refine em_pure (B := 41) (Nat.le_refl _) kX4_init rfl ?_))
  refine em_callS (μ' := mJ7_fill_53178) kX4_init rfl lX4_15 tJ7_fill_53178 (s_fillI Γ _ (k := 40) (L := 6) (-1) rfl (by decide) rfl (by decide)) rfl rfl (by decide) (Nat.le_of_ble_eq_true rfl) (Nat.le_of_ble_eq_true rfl) (Nat.le_of_ble_eq_true rfl) ?_
  refine em_hpE (hp' := (ec_hz 41 2392 (va_up ec_IbX4_37 40 (em_fil (fun _ => 0) (-1) 6)) ec_ZJ (ec_rl ((39, 1, 40) :: ec_La40)))) rfl ?_
  exact em_vret kX4_init rfl rfl rfl
abbrev ec_La42 : List (Nat × Nat × Nat) := ((30, 4, 39) :: ec_LbX4_39)
abbrev ec_IbX4_41 : Nat → Nat → Int32 := (va_up ec_IbX4_39 42 (em_fil (fun _ => 0) (-1) 6))
abbrev ec_LbX4_41 : List (Nat × Nat × Nat) := ((41, 1, 42) :: ec_La42)
theorem s_init_X4_41 (Γ : em_Cx) : em_MC Γ 1 mX4_init [.ref 41] (ec_hz 42 2394 ec_IbX4_39 ec_ZJ (ec_rl ec_La42)) none (ec_hz 43 2400 ec_IbX4_41 ec_ZJ (ec_rl ec_LbX4_41)) := by
  refine em_MC_of (Nat.le_of_ble_eq_true rfl) (Nat.le_of_ble_eq_true rfl) (by decide +kernel) rfl (Nat.le_of_ble_eq_true rfl) ?_
  (repeat (refine em_pure (B := 42) (Nat.le_refl _) kX4_init rfl ?_))
  refine em_obj kX4_init rfl (by decide +kernel) (by decide) (Nat.le_of_ble_eq_true rfl) ?_
  (repeat (refine em_pure (B := 42) (Nat.le_refl _) kX4_init rfl ?_))
  refine ec_naI (n' := 43) (m' := 2400) (N := 6) kX4_init rfl rfl rfl rfl rfl rfl rfl (by decide) (fun _ => rfl) (Nat.le_of_ble_eq_true rfl) (Nat.le_of_ble_eq_true rfl) ?_
  refine ec_pR (c := 4) (j := 1) kX4_init rfl rfl (by decide) (by decide) rfl (by first | exact Or.inl rfl | exact Or.inr ⟨rfl, rfl, rfl⟩) (by first | exact Or.inl ⟨_, rfl⟩ | exact Or.inr ⟨_, rfl⟩) ?_
  (repeat (refine em_pure (B := 43) (Nat.le_refl _) kX4_init rfl ?_))
  refine em_callS (μ' := mJ7_fill_53178) kX4_init rfl lX4_15 tJ7_fill_53178 (s_fillI Γ _ (k := 42) (L := 6) (-1) rfl (by decide) rfl (by decide)) rfl rfl (by decide) (Nat.le_of_ble_eq_true rfl) (Nat.le_of_ble_eq_true rfl) (Nat.le_of_ble_eq_true rfl) ?_
  refine em_hpE (hp' := (ec_hz 43 2400 (va_up ec_IbX4_39 42 (em_fil (fun _ => 0) (-1) 6)) ec_ZJ (ec_rl ((41, 1, 42) :: ec_La42)))) rfl ?_
  exact em_vret kX4_init rfl rfl rfl
abbrev ec_La44 : List (Nat × Nat × Nat) := ((30, 5, 41) :: ec_LbX4_41)
abbrev ec_IbX4_43 : Nat → Nat → Int32 := (va_up ec_IbX4_41 44 (em_fil (fun _ => 0) (-1) 6))
abbrev ec_LbX4_43 : List (Nat × Nat × Nat) := ((43, 1, 44) :: ec_La44)
theorem s_init_X4_43 (Γ : em_Cx) : em_MC Γ 1 mX4_init [.ref 43] (ec_hz 44 2402 ec_IbX4_41 ec_ZJ (ec_rl ec_La44)) none (ec_hz 45 2408 ec_IbX4_43 ec_ZJ (ec_rl ec_LbX4_43)) := by
  refine em_MC_of (Nat.le_of_ble_eq_true rfl) (Nat.le_of_ble_eq_true rfl) (by decide +kernel) rfl (Nat.le_of_ble_eq_true rfl) ?_
  (repeat (refine em_pure (B := 44) (Nat.le_refl _) kX4_init rfl ?_))
  refine em_obj kX4_init rfl (by decide +kernel) (by decide) (Nat.le_of_ble_eq_true rfl) ?_
  (repeat (refine em_pure (B := 44) (Nat.le_refl _) kX4_init rfl ?_))
  refine ec_naI (n' := 45) (m' := 2408) (N := 6) kX4_init rfl rfl rfl rfl rfl rfl rfl (by decide) (fun _ => rfl) (Nat.le_of_ble_eq_true rfl) (Nat.le_of_ble_eq_true rfl) ?_
  refine ec_pR (c := 4) (j := 1) kX4_init rfl rfl (by decide) (by decide) rfl (by first | exact Or.inl rfl | exact Or.inr ⟨rfl, rfl, rfl⟩) (by first | exact Or.inl ⟨_, rfl⟩ | exact Or.inr ⟨_, rfl⟩) ?_
  (repeat (refine em_pure (B := 45) (Nat.le_refl _) kX4_init rfl ?_))
  refine em_callS (μ' := mJ7_fill_53178) kX4_init rfl lX4_15 tJ7_fill_53178 (s_fillI Γ _ (k := 44) (L := 6) (-1) rfl (by decide) rfl (by decide)) rfl rfl (by decide) (Nat.le_of_ble_eq_true rfl) (Nat.le_of_ble_eq_true rfl) (Nat.le_of_ble_eq_true rfl) ?_
  refine em_hpE (hp' := (ec_hz 45 2408 (va_up ec_IbX4_41 44 (em_fil (fun _ => 0) (-1) 6)) ec_ZJ (ec_rl ((43, 1, 44) :: ec_La44)))) rfl ?_
  exact em_vret kX4_init rfl rfl rfl
abbrev ec_La46 : List (Nat × Nat × Nat) := ((30, 6, 43) :: ec_LbX4_43)
abbrev ec_IbX4_45 : Nat → Nat → Int32 := (va_up ec_IbX4_43 46 (em_fil (fun _ => 0) (-1) 6))
abbrev ec_LbX4_45 : List (Nat × Nat × Nat) := ((45, 1, 46) :: ec_La46)
theorem s_init_X4_45 (Γ : em_Cx) : em_MC Γ 1 mX4_init [.ref 45] (ec_hz 46 2410 ec_IbX4_43 ec_ZJ (ec_rl ec_La46)) none (ec_hz 47 2416 ec_IbX4_45 ec_ZJ (ec_rl ec_LbX4_45)) := by
  refine em_MC_of (Nat.le_of_ble_eq_true rfl) (Nat.le_of_ble_eq_true rfl) (by decide +kernel) rfl (Nat.le_of_ble_eq_true rfl) ?_
  (repeat (refine em_pure (B := 46) (Nat.le_refl _) kX4_init rfl ?_))
  refine em_obj kX4_init rfl (by decide +kernel) (by decide) (Nat.le_of_ble_eq_true rfl) ?_
  (repeat (refine em_pure (B := 46) (Nat.le_refl _) kX4_init rfl ?_))
  refine ec_naI (n' := 47) (m' := 2416) (N := 6) kX4_init rfl rfl rfl rfl rfl rfl rfl (by decide) (fun _ => rfl) (Nat.le_of_ble_eq_true rfl) (Nat.le_of_ble_eq_true rfl) ?_
  refine ec_pR (c := 4) (j := 1) kX4_init rfl rfl (by decide) (by decide) rfl (by first | exact Or.inl rfl | exact Or.inr ⟨rfl, rfl, rfl⟩) (by first | exact Or.inl ⟨_, rfl⟩ | exact Or.inr ⟨_, rfl⟩) ?_
  (repeat (refine em_pure (B := 47) (Nat.le_refl _) kX4_init rfl ?_))
  refine em_callS (μ' := mJ7_fill_53178) kX4_init rfl lX4_15 tJ7_fill_53178 (s_fillI Γ _ (k := 46) (L := 6) (-1) rfl (by decide) rfl (by decide)) rfl rfl (by decide) (Nat.le_of_ble_eq_true rfl) (Nat.le_of_ble_eq_true rfl) (Nat.le_of_ble_eq_true rfl) ?_
  refine em_hpE (hp' := (ec_hz 47 2416 (va_up ec_IbX4_43 46 (em_fil (fun _ => 0) (-1) 6)) ec_ZJ (ec_rl ((45, 1, 46) :: ec_La46)))) rfl ?_
  exact em_vret kX4_init rfl rfl rfl
abbrev ec_La48 : List (Nat × Nat × Nat) := ((30, 7, 45) :: ec_LbX4_45)
abbrev ec_IbX4_47 : Nat → Nat → Int32 := (va_up ec_IbX4_45 48 (em_fil (fun _ => 0) (-1) 6))
abbrev ec_LbX4_47 : List (Nat × Nat × Nat) := ((47, 1, 48) :: ec_La48)
theorem s_init_X4_47 (Γ : em_Cx) : em_MC Γ 1 mX4_init [.ref 47] (ec_hz 48 2418 ec_IbX4_45 ec_ZJ (ec_rl ec_La48)) none (ec_hz 49 2424 ec_IbX4_47 ec_ZJ (ec_rl ec_LbX4_47)) := by
  refine em_MC_of (Nat.le_of_ble_eq_true rfl) (Nat.le_of_ble_eq_true rfl) (by decide +kernel) rfl (Nat.le_of_ble_eq_true rfl) ?_
  (repeat (refine em_pure (B := 48) (Nat.le_refl _) kX4_init rfl ?_))
  refine em_obj kX4_init rfl (by decide +kernel) (by decide) (Nat.le_of_ble_eq_true rfl) ?_
  (repeat (refine em_pure (B := 48) (Nat.le_refl _) kX4_init rfl ?_))
  refine ec_naI (n' := 49) (m' := 2424) (N := 6) kX4_init rfl rfl rfl rfl rfl rfl rfl (by decide) (fun _ => rfl) (Nat.le_of_ble_eq_true rfl) (Nat.le_of_ble_eq_true rfl) ?_
  refine ec_pR (c := 4) (j := 1) kX4_init rfl rfl (by decide) (by decide) rfl (by first | exact Or.inl rfl | exact Or.inr ⟨rfl, rfl, rfl⟩) (by first | exact Or.inl ⟨_, rfl⟩ | exact Or.inr ⟨_, rfl⟩) ?_
  (repeat (refine em_pure (B := 49) (Nat.le_refl _) kX4_init rfl ?_))
  refine em_callS (μ' := mJ7_fill_53178) kX4_init rfl lX4_15 tJ7_fill_53178 (s_fillI Γ _ (k := 48) (L := 6) (-1) rfl (by decide) rfl (by decide)) rfl rfl (by decide) (Nat.le_of_ble_eq_true rfl) (Nat.le_of_ble_eq_true rfl) (Nat.le_of_ble_eq_true rfl) ?_
  refine em_hpE (hp' := (ec_hz 49 2424 (va_up ec_IbX4_45 48 (em_fil (fun _ => 0) (-1) 6)) ec_ZJ (ec_rl ((47, 1, 48) :: ec_La48)))) rfl ?_
  exact em_vret kX4_init rfl rfl rfl
abbrev ec_La50 : List (Nat × Nat × Nat) := ((0, 6, 47) :: ec_LbX4_47)
abbrev ec_IbX2_49 : Nat → Nat → Int32 := (va_up ec_IbX4_47 49 (va_up (fun _ => 0) 3 (-1)))
abbrev ec_LbX2_49 : List (Nat × Nat × Nat) := ((49, 2, 52) :: ((49, 1, 51) :: ((49, 0, 50) :: ec_La50)))
theorem s_init_X2_49 (Γ : em_Cx) : em_MC Γ 1 mX2_init [.ref 49] (ec_hz 50 2429 ec_IbX4_47 ec_ZJ (ec_rl ec_La50)) none (ec_hz 53 2621 ec_IbX2_49 ec_ZJ (ec_rl ec_LbX2_49)) := by
  refine em_MC_of (Nat.le_of_ble_eq_true rfl) (Nat.le_of_ble_eq_true rfl) (by decide +kernel) rfl (Nat.le_of_ble_eq_true rfl) ?_
  (repeat (refine em_pure (B := 50) (Nat.le_refl _) kX2_init rfl ?_))
  refine em_obj kX2_init rfl (by decide +kernel) (by decide) (Nat.le_of_ble_eq_true rfl) ?_
  (repeat (refine em_pure (B := 50) (Nat.le_refl _) kX2_init rfl ?_))
  refine ec_naB (n' := 51) (m' := 2493) (N := 64) kX2_init rfl rfl rfl rfl rfl rfl rfl (by decide) (fun _ => rfl) (Nat.le_of_ble_eq_true rfl) (Nat.le_of_ble_eq_true rfl) ?_
  refine ec_pR (c := 2) (j := 0) kX2_init rfl rfl (by decide) (by decide) rfl (by first | exact Or.inl rfl | exact Or.inr ⟨rfl, rfl, rfl⟩) (by first | exact Or.inl ⟨_, rfl⟩ | exact Or.inr ⟨_, rfl⟩) ?_
  (repeat (refine em_pure (B := 51) (Nat.le_refl _) kX2_init rfl ?_))
  refine ec_naJ (n' := 52) (m' := 2557) (N := 64) kX2_init rfl rfl rfl rfl rfl rfl rfl (by decide) (fun _ => rfl) (Nat.le_of_ble_eq_true rfl) (Nat.le_of_ble_eq_true rfl) ?_
  refine ec_pR (c := 2) (j := 1) kX2_init rfl rfl (by decide) (by decide) rfl (by first | exact Or.inl rfl | exact Or.inr ⟨rfl, rfl, rfl⟩) (by first | exact Or.inl ⟨_, rfl⟩ | exact Or.inr ⟨_, rfl⟩) ?_
  (repeat (refine em_pure (B := 52) (Nat.le_refl _) kX2_init rfl ?_))
  refine ec_naJ (n' := 53) (m' := 2621) (N := 64) kX2_init rfl rfl rfl rfl rfl rfl rfl (by decide) (fun _ => rfl) (Nat.le_of_ble_eq_true rfl) (Nat.le_of_ble_eq_true rfl) ?_
  refine ec_pR (c := 2) (j := 2) kX2_init rfl rfl (by decide) (by decide) rfl (by first | exact Or.inl rfl | exact Or.inr ⟨rfl, rfl, rfl⟩) (by first | exact Or.inl ⟨_, rfl⟩ | exact Or.inr ⟨_, rfl⟩) ?_
  (repeat (refine em_pure (B := 53) (Nat.le_refl _) kX2_init rfl ?_))
  refine em_putI (c := 2) (j := 3) kX2_init rfl rfl (by decide) (by decide) rfl rfl rfl ?_
  refine em_hpE (hp' := (ec_hz 53 2621 (va_up ec_IbX4_47 49 (va_up (fun _ => 0) 3 (-1))) ec_ZJ (ec_rl ((49, 2, 52) :: ((49, 1, 51) :: ((49, 0, 50) :: ec_La50)))))) rfl ?_
  exact em_vret kX2_init rfl rfl rfl
abbrev ec_LbX7_0 : List (Nat × Nat × Nat) := ((0, 7, 49) :: ec_LbX2_49)
theorem s_init_X7_0 (Γ : em_Cx) : em_MC Γ 2 mX7_init [.ref 0] (ec_hz 1 8 ec_Z ec_ZJ (ec_rl [])) none (ec_hz 53 2621 ec_IbX2_49 ec_ZJ (ec_rl ec_LbX7_0)) := by
  refine em_MC_of (Nat.le_of_ble_eq_true rfl) (Nat.le_of_ble_eq_true rfl) (by decide +kernel) rfl (Nat.le_of_ble_eq_true rfl) ?_
  (repeat (refine em_pure (B := 1) (Nat.le_refl _) kX7_init rfl ?_))
  refine em_obj kX7_init rfl (by decide +kernel) (by decide) (Nat.le_of_ble_eq_true rfl) ?_
  (repeat (refine em_pure (B := 1) (Nat.le_refl _) kX7_init rfl ?_))
  refine ec_nw (n' := 2) (m' := 21) (c1 := 3) kX7_init rfl rfl (by decide) rfl rfl rfl (fun _ => rfl) (fun _ => rfl) (by decide +kernel) (by decide +kernel) (by decide +kernel) (Nat.le_of_ble_eq_true rfl) (Nat.le_of_ble_eq_true rfl) ?_
  (repeat (refine em_pure (B := 2) (Nat.le_refl _) kX7_init rfl ?_))
  refine em_callI (μ' := mX3_init) kX7_init rfl lX7_9 tX3_init (s_init_X3_1 Γ) rfl rfl (by decide) (Nat.le_of_ble_eq_true rfl) (Nat.le_of_ble_eq_true rfl) (Nat.le_of_ble_eq_true rfl) ?_
  refine ec_pR (c := 7) (j := 0) kX7_init rfl rfl (by decide) (by decide) rfl (by first | exact Or.inl rfl | exact Or.inr ⟨rfl, rfl, rfl⟩) (by first | exact Or.inl ⟨_, rfl⟩ | exact Or.inr ⟨_, rfl⟩) ?_
  (repeat (refine em_pure (B := 12) (Nat.le_refl _) kX7_init rfl ?_))
  refine ec_nw (n' := 13) (m' := 1202) (c1 := 0) kX7_init rfl rfl (by decide) rfl rfl rfl (fun _ => rfl) (fun _ => rfl) (by decide +kernel) (by decide +kernel) (by decide +kernel) (Nat.le_of_ble_eq_true rfl) (Nat.le_of_ble_eq_true rfl) ?_
  (repeat (refine em_pure (B := 13) (Nat.le_refl _) kX7_init rfl ?_))
  refine em_callI (μ' := mX0_init) kX7_init rfl lX7_18 tX0_init (s_init_X0_12 Γ) rfl rfl (by decide) (Nat.le_of_ble_eq_true rfl) (Nat.le_of_ble_eq_true rfl) (Nat.le_of_ble_eq_true rfl) ?_
  refine ec_pR (c := 7) (j := 1) kX7_init rfl rfl (by decide) (by decide) rfl (by first | exact Or.inl rfl | exact Or.inr ⟨rfl, rfl, rfl⟩) (by first | exact Or.inl ⟨_, rfl⟩ | exact Or.inr ⟨_, rfl⟩) ?_
  (repeat (refine em_pure (B := 15) (Nat.le_refl _) kX7_init rfl ?_))
  refine ec_nw (n' := 16) (m' := 1705) (c1 := 6) kX7_init rfl rfl (by decide) rfl rfl rfl (fun _ => rfl) (fun _ => rfl) (by decide +kernel) (by decide +kernel) (by decide +kernel) (Nat.le_of_ble_eq_true rfl) (Nat.le_of_ble_eq_true rfl) ?_
  (repeat (refine em_pure (B := 16) (Nat.le_refl _) kX7_init rfl ?_))
  refine em_callI (μ' := mX6_init) kX7_init rfl lX7_25 tX6_init (s_init_X6_15 Γ) rfl rfl (by decide) (Nat.le_of_ble_eq_true rfl) (Nat.le_of_ble_eq_true rfl) (Nat.le_of_ble_eq_true rfl) ?_
  refine ec_pR (c := 7) (j := 2) kX7_init rfl rfl (by decide) (by decide) rfl (by first | exact Or.inl rfl | exact Or.inr ⟨rfl, rfl, rfl⟩) (by first | exact Or.inl ⟨_, rfl⟩ | exact Or.inr ⟨_, rfl⟩) ?_
  (repeat (refine em_pure (B := 21) (Nat.le_refl _) kX7_init rfl ?_))
  refine ec_nw (n' := 22) (m' := 2038) (c1 := 1) kX7_init rfl rfl (by decide) rfl rfl rfl (fun _ => rfl) (fun _ => rfl) (by decide +kernel) (by decide +kernel) (by decide +kernel) (Nat.le_of_ble_eq_true rfl) (Nat.le_of_ble_eq_true rfl) ?_
  (repeat (refine em_pure (B := 22) (Nat.le_refl _) kX7_init rfl ?_))
  refine em_callI (μ' := mX1_init) kX7_init rfl lX7_34 tX1_init (s_init_X1_21 Γ) rfl rfl (by decide) (Nat.le_of_ble_eq_true rfl) (Nat.le_of_ble_eq_true rfl) (Nat.le_of_ble_eq_true rfl) ?_
  refine ec_pR (c := 7) (j := 3) kX7_init rfl rfl (by decide) (by decide) rfl (by first | exact Or.inl rfl | exact Or.inr ⟨rfl, rfl, rfl⟩) (by first | exact Or.inl ⟨_, rfl⟩ | exact Or.inr ⟨_, rfl⟩) ?_
  (repeat (refine em_pure (B := 28) (Nat.le_refl _) kX7_init rfl ?_))
  refine ec_nw (n' := 29) (m' := 2144) (c1 := 5) kX7_init rfl rfl (by decide) rfl rfl rfl (fun _ => rfl) (fun _ => rfl) (by decide +kernel) (by decide +kernel) (by decide +kernel) (Nat.le_of_ble_eq_true rfl) (Nat.le_of_ble_eq_true rfl) ?_
  (repeat (refine em_pure (B := 29) (Nat.le_refl _) kX7_init rfl ?_))
  refine em_callI (μ' := mX5_init) kX7_init rfl lX7_41 tX5_init (s_init_X5_28 Γ) rfl rfl (by decide) (Nat.le_of_ble_eq_true rfl) (Nat.le_of_ble_eq_true rfl) (Nat.le_of_ble_eq_true rfl) ?_
  refine ec_pR (c := 7) (j := 4) kX7_init rfl rfl (by decide) (by decide) rfl (by first | exact Or.inl rfl | exact Or.inr ⟨rfl, rfl, rfl⟩) (by first | exact Or.inl ⟨_, rfl⟩ | exact Or.inr ⟨_, rfl⟩) ?_
  (repeat (refine em_pure (B := 30) (Nat.le_refl _) kX7_init rfl ?_))
  refine ec_an (n' := 31) (m' := 2352) (N := 8) kX7_init rfl rfl rfl rfl rfl rfl rfl (by decide) (fun _ => rfl) (by decide +kernel) (Nat.le_of_ble_eq_true rfl) (Nat.le_of_ble_eq_true rfl) ?_
  refine ec_pR (c := 7) (j := 5) kX7_init rfl rfl (by decide) (by decide) rfl (by first | exact Or.inl rfl | exact Or.inr ⟨rfl, rfl, rfl⟩) (by first | exact Or.inl ⟨_, rfl⟩ | exact Or.inr ⟨_, rfl⟩) ?_
  (repeat (refine em_pure (B := 31) (Nat.le_refl _) kX7_init rfl ?_))
  refine em_branch kX7_init rfl (fun h => absurd h (by decide)) (fun _ => ?_)
  refine em_loc (lc' := [(0, .ref 0), (1, .int 0)]) rfl ?_
  (repeat (refine em_pure (B := 31) (Nat.le_refl _) kX7_init rfl ?_))
  refine ec_nw (n' := 32) (m' := 2354) (c1 := 4) kX7_init rfl rfl (by decide) rfl rfl rfl (fun _ => rfl) (fun _ => rfl) (by decide +kernel) (by decide +kernel) (by decide +kernel) (Nat.le_of_ble_eq_true rfl) (Nat.le_of_ble_eq_true rfl) ?_
  (repeat (refine em_pure (B := 32) (Nat.le_refl _) kX7_init rfl ?_))
  refine em_callI (μ' := mX4_init) kX7_init rfl lX7_52 tX4_init (s_init_X4_31 Γ) rfl rfl (by decide) (Nat.le_of_ble_eq_true rfl) (Nat.le_of_ble_eq_true rfl) (Nat.le_of_ble_eq_true rfl) ?_
  refine ec_aa (k := 30) (x := 31) (c1 := 4) (i := 0) (ii := 0) kX7_init rfl rfl (by decide) (by decide) (nI_in (c := 0) (N := 8) (by decide) (by decide)) rfl rfl rfl (by decide) (by decide) rfl ?_
  (repeat (refine em_pure (B := 33) (Nat.le_refl _) kX7_init rfl ?_))
  refine em_branch kX7_init rfl (fun h => absurd h (by decide)) (fun _ => ?_)
  refine em_loc (lc' := [(0, .ref 0), (1, .int 1)]) rfl ?_
  (repeat (refine em_pure (B := 33) (Nat.le_refl _) kX7_init rfl ?_))
  refine ec_nw (n' := 34) (m' := 2362) (c1 := 4) kX7_init rfl rfl (by decide) rfl rfl rfl (fun _ => rfl) (fun _ => rfl) (by decide +kernel) (by decide +kernel) (by decide +kernel) (Nat.le_of_ble_eq_true rfl) (Nat.le_of_ble_eq_true rfl) ?_
  (repeat (refine em_pure (B := 34) (Nat.le_refl _) kX7_init rfl ?_))
  refine em_callI (μ' := mX4_init) kX7_init rfl lX7_52 tX4_init (s_init_X4_33 Γ) rfl rfl (by decide) (Nat.le_of_ble_eq_true rfl) (Nat.le_of_ble_eq_true rfl) (Nat.le_of_ble_eq_true rfl) ?_
  refine ec_aa (k := 30) (x := 33) (c1 := 4) (i := 1) (ii := 1) kX7_init rfl rfl (by decide) (by decide) (nI_in (c := 1) (N := 8) (by decide) (by decide)) rfl rfl rfl (by decide) (by decide) rfl ?_
  (repeat (refine em_pure (B := 35) (Nat.le_refl _) kX7_init rfl ?_))
  refine em_branch kX7_init rfl (fun h => absurd h (by decide)) (fun _ => ?_)
  refine em_loc (lc' := [(0, .ref 0), (1, .int 2)]) rfl ?_
  (repeat (refine em_pure (B := 35) (Nat.le_refl _) kX7_init rfl ?_))
  refine ec_nw (n' := 36) (m' := 2370) (c1 := 4) kX7_init rfl rfl (by decide) rfl rfl rfl (fun _ => rfl) (fun _ => rfl) (by decide +kernel) (by decide +kernel) (by decide +kernel) (Nat.le_of_ble_eq_true rfl) (Nat.le_of_ble_eq_true rfl) ?_
  (repeat (refine em_pure (B := 36) (Nat.le_refl _) kX7_init rfl ?_))
  refine em_callI (μ' := mX4_init) kX7_init rfl lX7_52 tX4_init (s_init_X4_35 Γ) rfl rfl (by decide) (Nat.le_of_ble_eq_true rfl) (Nat.le_of_ble_eq_true rfl) (Nat.le_of_ble_eq_true rfl) ?_
  refine ec_aa (k := 30) (x := 35) (c1 := 4) (i := 2) (ii := 2) kX7_init rfl rfl (by decide) (by decide) (nI_in (c := 2) (N := 8) (by decide) (by decide)) rfl rfl rfl (by decide) (by decide) rfl ?_
  (repeat (refine em_pure (B := 37) (Nat.le_refl _) kX7_init rfl ?_))
  refine em_branch kX7_init rfl (fun h => absurd h (by decide)) (fun _ => ?_)
  refine em_loc (lc' := [(0, .ref 0), (1, .int 3)]) rfl ?_
  (repeat (refine em_pure (B := 37) (Nat.le_refl _) kX7_init rfl ?_))
  refine ec_nw (n' := 38) (m' := 2378) (c1 := 4) kX7_init rfl rfl (by decide) rfl rfl rfl (fun _ => rfl) (fun _ => rfl) (by decide +kernel) (by decide +kernel) (by decide +kernel) (Nat.le_of_ble_eq_true rfl) (Nat.le_of_ble_eq_true rfl) ?_
  (repeat (refine em_pure (B := 38) (Nat.le_refl _) kX7_init rfl ?_))
  refine em_callI (μ' := mX4_init) kX7_init rfl lX7_52 tX4_init (s_init_X4_37 Γ) rfl rfl (by decide) (Nat.le_of_ble_eq_true rfl) (Nat.le_of_ble_eq_true rfl) (Nat.le_of_ble_eq_true rfl) ?_
  refine ec_aa (k := 30) (x := 37) (c1 := 4) (i := 3) (ii := 3) kX7_init rfl rfl (by decide) (by decide) (nI_in (c := 3) (N := 8) (by decide) (by decide)) rfl rfl rfl (by decide) (by decide) rfl ?_
  (repeat (refine em_pure (B := 39) (Nat.le_refl _) kX7_init rfl ?_))
  refine em_branch kX7_init rfl (fun h => absurd h (by decide)) (fun _ => ?_)
  refine em_loc (lc' := [(0, .ref 0), (1, .int 4)]) rfl ?_
  (repeat (refine em_pure (B := 39) (Nat.le_refl _) kX7_init rfl ?_))
  refine ec_nw (n' := 40) (m' := 2386) (c1 := 4) kX7_init rfl rfl (by decide) rfl rfl rfl (fun _ => rfl) (fun _ => rfl) (by decide +kernel) (by decide +kernel) (by decide +kernel) (Nat.le_of_ble_eq_true rfl) (Nat.le_of_ble_eq_true rfl) ?_
  (repeat (refine em_pure (B := 40) (Nat.le_refl _) kX7_init rfl ?_))
  refine em_callI (μ' := mX4_init) kX7_init rfl lX7_52 tX4_init (s_init_X4_39 Γ) rfl rfl (by decide) (Nat.le_of_ble_eq_true rfl) (Nat.le_of_ble_eq_true rfl) (Nat.le_of_ble_eq_true rfl) ?_
  refine ec_aa (k := 30) (x := 39) (c1 := 4) (i := 4) (ii := 4) kX7_init rfl rfl (by decide) (by decide) (nI_in (c := 4) (N := 8) (by decide) (by decide)) rfl rfl rfl (by decide) (by decide) rfl ?_
  (repeat (refine em_pure (B := 41) (Nat.le_refl _) kX7_init rfl ?_))
  refine em_branch kX7_init rfl (fun h => absurd h (by decide)) (fun _ => ?_)
  refine em_loc (lc' := [(0, .ref 0), (1, .int 5)]) rfl ?_
  (repeat (refine em_pure (B := 41) (Nat.le_refl _) kX7_init rfl ?_))
  refine ec_nw (n' := 42) (m' := 2394) (c1 := 4) kX7_init rfl rfl (by decide) rfl rfl rfl (fun _ => rfl) (fun _ => rfl) (by decide +kernel) (by decide +kernel) (by decide +kernel) (Nat.le_of_ble_eq_true rfl) (Nat.le_of_ble_eq_true rfl) ?_
  (repeat (refine em_pure (B := 42) (Nat.le_refl _) kX7_init rfl ?_))
  refine em_callI (μ' := mX4_init) kX7_init rfl lX7_52 tX4_init (s_init_X4_41 Γ) rfl rfl (by decide) (Nat.le_of_ble_eq_true rfl) (Nat.le_of_ble_eq_true rfl) (Nat.le_of_ble_eq_true rfl) ?_
  refine ec_aa (k := 30) (x := 41) (c1 := 4) (i := 5) (ii := 5) kX7_init rfl rfl (by decide) (by decide) (nI_in (c := 5) (N := 8) (by decide) (by decide)) rfl rfl rfl (by decide) (by decide) rfl ?_
  (repeat (refine em_pure (B := 43) (Nat.le_refl _) kX7_init rfl ?_))
  refine em_branch kX7_init rfl (fun h => absurd h (by decide)) (fun _ => ?_)
  refine em_loc (lc' := [(0, .ref 0), (1, .int 6)]) rfl ?_
  (repeat (refine em_pure (B := 43) (Nat.le_refl _) kX7_init rfl ?_))
  refine ec_nw (n' := 44) (m' := 2402) (c1 := 4) kX7_init rfl rfl (by decide) rfl rfl rfl (fun _ => rfl) (fun _ => rfl) (by decide +kernel) (by decide +kernel) (by decide +kernel) (Nat.le_of_ble_eq_true rfl) (Nat.le_of_ble_eq_true rfl) ?_
  (repeat (refine em_pure (B := 44) (Nat.le_refl _) kX7_init rfl ?_))
  refine em_callI (μ' := mX4_init) kX7_init rfl lX7_52 tX4_init (s_init_X4_43 Γ) rfl rfl (by decide) (Nat.le_of_ble_eq_true rfl) (Nat.le_of_ble_eq_true rfl) (Nat.le_of_ble_eq_true rfl) ?_
  refine ec_aa (k := 30) (x := 43) (c1 := 4) (i := 6) (ii := 6) kX7_init rfl rfl (by decide) (by decide) (nI_in (c := 6) (N := 8) (by decide) (by decide)) rfl rfl rfl (by decide) (by decide) rfl ?_
  (repeat (refine em_pure (B := 45) (Nat.le_refl _) kX7_init rfl ?_))
  refine em_branch kX7_init rfl (fun h => absurd h (by decide)) (fun _ => ?_)
  refine em_loc (lc' := [(0, .ref 0), (1, .int 7)]) rfl ?_
  (repeat (refine em_pure (B := 45) (Nat.le_refl _) kX7_init rfl ?_))
  refine ec_nw (n' := 46) (m' := 2410) (c1 := 4) kX7_init rfl rfl (by decide) rfl rfl rfl (fun _ => rfl) (fun _ => rfl) (by decide +kernel) (by decide +kernel) (by decide +kernel) (Nat.le_of_ble_eq_true rfl) (Nat.le_of_ble_eq_true rfl) ?_
  (repeat (refine em_pure (B := 46) (Nat.le_refl _) kX7_init rfl ?_))
  refine em_callI (μ' := mX4_init) kX7_init rfl lX7_52 tX4_init (s_init_X4_45 Γ) rfl rfl (by decide) (Nat.le_of_ble_eq_true rfl) (Nat.le_of_ble_eq_true rfl) (Nat.le_of_ble_eq_true rfl) ?_
  refine ec_aa (k := 30) (x := 45) (c1 := 4) (i := 7) (ii := 7) kX7_init rfl rfl (by decide) (by decide) (nI_in (c := 7) (N := 8) (by decide) (by decide)) rfl rfl rfl (by decide) (by decide) rfl ?_
  (repeat (refine em_pure (B := 47) (Nat.le_refl _) kX7_init rfl ?_))
  refine em_branch kX7_init rfl (fun _ => ?_) (fun h => absurd (by decide) h)
  refine em_loc (lc' := [(0, .ref 0), (1, .int 8)]) rfl ?_
  (repeat (refine em_pure (B := 47) (Nat.le_refl _) kX7_init rfl ?_))
  refine ec_nw (n' := 48) (m' := 2418) (c1 := 4) kX7_init rfl rfl (by decide) rfl rfl rfl (fun _ => rfl) (fun _ => rfl) (by decide +kernel) (by decide +kernel) (by decide +kernel) (Nat.le_of_ble_eq_true rfl) (Nat.le_of_ble_eq_true rfl) ?_
  (repeat (refine em_pure (B := 48) (Nat.le_refl _) kX7_init rfl ?_))
  refine em_callI (μ' := mX4_init) kX7_init rfl lX7_52 tX4_init (s_init_X4_47 Γ) rfl rfl (by decide) (Nat.le_of_ble_eq_true rfl) (Nat.le_of_ble_eq_true rfl) (Nat.le_of_ble_eq_true rfl) ?_
  refine ec_pR (c := 7) (j := 6) kX7_init rfl rfl (by decide) (by decide) rfl (by first | exact Or.inl rfl | exact Or.inr ⟨rfl, rfl, rfl⟩) (by first | exact Or.inl ⟨_, rfl⟩ | exact Or.inr ⟨_, rfl⟩) ?_
  (repeat (refine em_pure (B := 49) (Nat.le_refl _) kX7_init rfl ?_))
  refine ec_nw (n' := 50) (m' := 2429) (c1 := 2) kX7_init rfl rfl (by decide) rfl rfl rfl (fun _ => rfl) (fun _ => rfl) (by decide +kernel) (by decide +kernel) (by decide +kernel) (Nat.le_of_ble_eq_true rfl) (Nat.le_of_ble_eq_true rfl) ?_
  (repeat (refine em_pure (B := 50) (Nat.le_refl _) kX7_init rfl ?_))
  refine em_callI (μ' := mX2_init) kX7_init rfl lX7_59 tX2_init (s_init_X2_49 Γ) rfl rfl (by decide) (Nat.le_of_ble_eq_true rfl) (Nat.le_of_ble_eq_true rfl) (Nat.le_of_ble_eq_true rfl) ?_
  refine ec_pR (c := 7) (j := 7) kX7_init rfl rfl (by decide) (by decide) rfl (by first | exact Or.inl rfl | exact Or.inr ⟨rfl, rfl, rfl⟩) (by first | exact Or.inl ⟨_, rfl⟩ | exact Or.inr ⟨_, rfl⟩) ?_
  exact em_vret kX7_init rfl rfl rfl
abbrev ec_Ic : Nat → Nat → Int32 := (va_up ec_IbX2_49 53 (va_up (fun _ => 0) 6 (-1)))
abbrev ec_Lc : List (Nat × Nat × Nat) := ((53, 43, 84) :: ((53, 42, 83) :: ((53, 41, 82) :: ((53, 40, 81) :: ((53, 38, 80) :: ((53, 37, 79) :: ((53, 36, 78) :: ((53, 34, 77) :: ((53, 30, 76) :: ((53, 29, 75) :: ((53, 28, 74) :: ((53, 27, 73) :: ((53, 26, 72) :: ((53, 25, 71) :: ((53, 24, 70) :: ((53, 23, 69) :: ((53, 22, 68) :: ((53, 21, 67) :: ((53, 20, 66) :: ((53, 19, 65) :: ((53, 18, 64) :: ((53, 17, 63) :: ((53, 16, 62) :: ((53, 15, 61) :: ((53, 14, 60) :: ((53, 13, 59) :: ((53, 12, 58) :: ((53, 11, 57) :: ((53, 10, 56) :: ((53, 9, 55) :: ((53, 8, 54) :: ec_LbX7_0)))))))))))))))))))))))))))))))
def ec_8 : Nat → Nat := fun _ => 8
theorem ec_X8_1 (Γ : em_Cx) {fin : Option Value × em_Hp} {hp0 : em_Hp} (hf1 : 85 ≤ em_n fin.2) (kk : em_EW Γ 1 mX8_init hp0 fin 292 [(0, .ref 53)] [] (ec_hz 85 5332 (va_up (va_up ec_Ic 54 (em_fil (fun _ => 0) 1 8)) 55 (em_fil (fun _ => 0) 1 8)) ec_ZJ (ec_rl ec_Lc))) : em_EW Γ 1 mX8_init hp0 fin 264 [(0, .ref 53)] [] (ec_hz 85 5332 ec_Ic ec_ZJ (ec_rl ec_Lc)) := by
  have hB : 85 ≤ 85 := Nat.le_refl _
  have loop : ∀ e i, i + e = 8 → em_EW Γ 1 mX8_init hp0 fin 266 [(0, .ref 53), (1, .int (nI i))] [] (ec_hz 85 5332 (va_up (va_up ec_Ic 54 (em_fil (fun _ => 0) 1 i)) 55 (em_fil (fun _ => 0) 1 i)) ec_ZJ (ec_rl ec_Lc)) := by
    intro e
    induction e with
    | zero =>
      intro i hi
      obtain rfl : i = 8 := by omega
      (repeat (refine em_pure hB kX8_init rfl ?_))
      refine em_branch kX8_init rfl (fun _ => ?_) (fun h => absurd (by decide) h)
      exact em_loc rfl kk
    | succ e ih =>
      intro i hi
      (repeat (refine em_pure hB kX8_init rfl ?_))
      refine em_branch kX8_init rfl (fun (h : (8 : Int32) ≤ nI i) => absurd h (nI_ge (b := 8) (by omega) (by omega))) (fun _ => ?_)
      (repeat (refine em_pure hB kX8_init rfl ?_))
      refine em_iw (L := 8) hB kX8_init rfl rfl rfl rfl rfl (show i < 8 by omega) rfl ?_
      (repeat (refine em_pure hB kX8_init rfl ?_))
      refine em_iw (L := 8) hB kX8_init rfl rfl rfl rfl rfl (show i < 8 by omega) rfl ?_
      refine em_hpE (hp' := ec_hz 85 5332 (va_up (va_up ec_Ic 54 (em_fil (fun _ => 0) 1 (i + 1))) 55 (em_fil (fun _ => 0) 1 (i + 1))) ec_ZJ (ec_rl ec_Lc)) ?_ ?_
      · show ec_hz 85 5332 (va_up (va_up (va_up (va_up ec_Ic 54 (em_fil (fun _ => 0) 1 i)) 55 (em_fil (fun _ => 0) 1 i)) 54 (va_up (em_fil (fun _ => 0) 1 i) i 1)) 55 (va_up (em_fil (fun _ => 0) 1 i) i 1)) ec_ZJ (ec_rl ec_Lc) = _
        rw [em_u2 _ _ _ _ (show ¬ 54 = 55 by decide), bx_uu, em_fil_s]
      (repeat (refine em_pureT 266 hB kX8_init rfl rfl ?_))
      refine em_loc (lc' := [(0, .ref 53), (1, .int (nI i + 1))]) rfl ?_
      rw [nI_1]
      exact ih (i + 1) (by omega)
  (repeat (refine em_pureT 266 hB kX8_init rfl rfl ?_))
  refine em_loc (lc' := [(0, .ref 53), (1, .int (nI 0))]) rfl ?_
  refine em_hpE ?_ (loop 8 0 (by omega))
  show ec_hz 85 5332 ec_Ic ec_ZJ (ec_rl ec_Lc) = ec_hz 85 5332 (va_up (va_up ec_Ic 54 (em_fil (ec_Ic 54) 1 0)) 55 (em_fil (va_up ec_Ic 54 (em_fil (ec_Ic 54) 1 0) 55) 1 0)) ec_ZJ (ec_rl ec_Lc)
  rw [em_fil_0, em_fil_0, em_va_id, em_va_id]
abbrev ec_I2 : Nat → Nat → Int32 := (va_up (va_up ec_Ic 54 (em_fil (fun _ => 0) 1 8)) 55 (em_fil (fun _ => 0) 1 8))
theorem ec_X8_2 (Γ : em_Cx) {fin : Option Value × em_Hp} {hp0 : em_Hp} (kk : em_EW Γ 1 mX8_init hp0 fin 333 [(0, .ref 53)] [] (ec_hz 85 5332 (va_up ec_I2 74 (em_fil (fun _ => 0) 9 64)) ec_ZJ (ec_rl ec_Lc))) : em_EW Γ 1 mX8_init hp0 fin 292 [(0, .ref 53)] [] (ec_hz 85 5332 ec_I2 ec_ZJ (ec_rl ec_Lc)) := by
  have hB : 85 ≤ 85 := Nat.le_refl _
  have inner : ∀ i, i < 8 → em_EW Γ 1 mX8_init hp0 fin 294 [(0, .ref 53), (1, .int (nI (i + 1)))] [] (ec_hz 85 5332 (va_up ec_I2 74 (em_fil (fun _ => 0) 9 (8 * (i + 1)))) ec_ZJ (ec_rl ec_Lc)) → ∀ e j, j + e = 8 → em_EW Γ 1 mX8_init hp0 fin 302 [(0, .ref 53), (1, .int (nI i)), (2, .int (nI j))] [] (ec_hz 85 5332 (va_up ec_I2 74 (em_fil (fun _ => 0) 9 (8 * i + j))) ec_ZJ (ec_rl ec_Lc)) := by
    intro i hi hh e
    induction e with
    | zero =>
      intro j hj
      obtain rfl : j = 8 := by omega
      (repeat (refine em_pure hB kX8_init rfl ?_))
      refine em_branch kX8_init rfl (fun _ => ?_) (fun h => absurd (by decide) h)
      (repeat (refine em_pureT 294 hB kX8_init rfl rfl ?_))
      refine em_loc (lc' := [(0, .ref 53), (1, .int (nI i + 1))]) rfl ?_
      rw [nI_1]
      exact hh
    | succ e ih =>
      intro j hj
      (repeat (refine em_pure hB kX8_init rfl ?_))
      refine em_branch kX8_init rfl (fun (h : (8 : Int32) ≤ nI j) => absurd h (nI_ge (b := 8) (by omega) (by omega))) (fun _ => ?_)
      (repeat (refine em_pure hB kX8_init rfl ?_))
      refine em_iw (L := 64) hB kX8_init rfl rfl rfl rfl em_w8' (show 8 * i + j < 64 by omega) rfl ?_
      refine em_hpE (hp' := ec_hz 85 5332 (va_up ec_I2 74 (em_fil (fun _ => 0) 9 (8 * i + (j + 1)))) ec_ZJ (ec_rl ec_Lc)) ?_ ?_
      · show ec_hz 85 5332 (va_up (va_up ec_I2 74 (em_fil (fun _ => 0) 9 (8 * i + j))) 74 (va_up (em_fil (fun _ => 0) 9 (8 * i + j)) (8 * i + j) 9)) ec_ZJ (ec_rl ec_Lc) = _
        rw [bx_uu, em_fil_s]
        rfl
      (repeat (refine em_pureT 302 hB kX8_init rfl rfl ?_))
      refine em_loc (lc' := [(0, .ref 53), (1, .int (nI i)), (2, .int (nI j + 1))]) rfl ?_
      rw [nI_1]
      exact ih (j + 1) (by omega)
  have outer : ∀ e i, i + e = 8 → em_EW Γ 1 mX8_init hp0 fin 294 [(0, .ref 53), (1, .int (nI i))] [] (ec_hz 85 5332 (va_up ec_I2 74 (em_fil (fun _ => 0) 9 (8 * i))) ec_ZJ (ec_rl ec_Lc)) := by
    intro e
    induction e with
    | zero =>
      intro i hi
      obtain rfl : i = 8 := by omega
      (repeat (refine em_pure hB kX8_init rfl ?_))
      refine em_branch kX8_init rfl (fun _ => ?_) (fun h => absurd (by decide) h)
      exact em_loc rfl kk
    | succ e ih =>
      intro i hi
      (repeat (refine em_pure hB kX8_init rfl ?_))
      refine em_branch kX8_init rfl (fun (h : (8 : Int32) ≤ nI i) => absurd h (nI_ge (b := 8) (by omega) (by omega))) (fun _ => ?_)
      (repeat (refine em_pureT 302 hB kX8_init rfl rfl ?_))
      refine em_loc (lc' := [(0, .ref 53), (1, .int (nI i)), (2, .int (nI 0))]) rfl ?_
      exact inner i (by omega) (ih (i + 1) (by omega)) 8 0 (by omega)
  (repeat (refine em_pureT 294 hB kX8_init rfl rfl ?_))
  refine em_loc (lc' := [(0, .ref 53), (1, .int (nI 0))]) rfl ?_
  refine em_hpE ?_ (outer 8 0 (by omega))
  show ec_hz 85 5332 ec_I2 ec_ZJ (ec_rl ec_Lc) = ec_hz 85 5332 (va_up ec_I2 74 (em_fil (ec_I2 74) 9 0)) ec_ZJ (ec_rl ec_Lc)
  rw [em_fil_0, em_va_id]
abbrev ec_I9 : Nat → Nat → Int32 := va_up ec_I2 74 (em_fil (fun _ => 0) 9 64)
theorem s_init_X8_53 (Γ : em_Cx) : em_MC Γ 1 mX8_init [.ref 53] (ec_hz 54 2665 ec_IbX2_49 ec_ZJ (ec_rl ec_LbX7_0)) none (ec_hz 85 5332 ec_I9 ec_ZJ (ec_rl ec_Lc)) := by
  refine em_MC_of (Nat.le_of_ble_eq_true rfl) (Nat.le_of_ble_eq_true rfl) (by decide +kernel) rfl (Nat.le_of_ble_eq_true rfl) ?_
  (repeat (refine em_pure (B := 54) (Nat.le_refl _) kX8_init rfl ?_))
  refine em_obj kX8_init rfl (by decide +kernel) (by decide) (Nat.le_of_ble_eq_true rfl) ?_
  (repeat (refine em_pure (B := 54) (Nat.le_refl _) kX8_init rfl ?_))
  refine em_putI (c := 8) (j := 6) kX8_init rfl rfl (by decide) (by decide) rfl rfl rfl ?_
  refine em_hpE (hp' := (ec_hz 54 2665 (va_up ec_IbX2_49 53 (va_up (fun _ => 0) 6 (-1))) ec_ZJ (ec_rl ec_LbX7_0))) rfl ?_
  (repeat (refine em_pure (B := 54) (Nat.le_refl _) kX8_init rfl ?_))
  refine ec_naI (n' := 55) (m' := 2673) (N := 8) kX8_init rfl rfl rfl rfl rfl rfl rfl (by decide) (fun _ => rfl) (Nat.le_of_ble_eq_true rfl) (Nat.le_of_ble_eq_true rfl) ?_
  refine ec_pR (c := 8) (j := 8) kX8_init rfl rfl (by decide) (by decide) rfl (by first | exact Or.inl rfl | exact Or.inr ⟨rfl, rfl, rfl⟩) (by first | exact Or.inl ⟨_, rfl⟩ | exact Or.inr ⟨_, rfl⟩) ?_
  (repeat (refine em_pure (B := 55) (Nat.le_refl _) kX8_init rfl ?_))
  refine ec_naI (n' := 56) (m' := 2681) (N := 8) kX8_init rfl rfl rfl rfl rfl rfl rfl (by decide) (fun _ => rfl) (Nat.le_of_ble_eq_true rfl) (Nat.le_of_ble_eq_true rfl) ?_
  refine ec_pR (c := 8) (j := 9) kX8_init rfl rfl (by decide) (by decide) rfl (by first | exact Or.inl rfl | exact Or.inr ⟨rfl, rfl, rfl⟩) (by first | exact Or.inl ⟨_, rfl⟩ | exact Or.inr ⟨_, rfl⟩) ?_
  (repeat (refine em_pure (B := 56) (Nat.le_refl _) kX8_init rfl ?_))
  refine ec_naI (n' := 57) (m' := 2721) (N := 40) kX8_init rfl rfl rfl rfl rfl rfl rfl (by decide) (fun _ => rfl) (Nat.le_of_ble_eq_true rfl) (Nat.le_of_ble_eq_true rfl) ?_
  refine ec_pR (c := 8) (j := 10) kX8_init rfl rfl (by decide) (by decide) rfl (by first | exact Or.inl rfl | exact Or.inr ⟨rfl, rfl, rfl⟩) (by first | exact Or.inl ⟨_, rfl⟩ | exact Or.inr ⟨_, rfl⟩) ?_
  (repeat (refine em_pure (B := 57) (Nat.le_refl _) kX8_init rfl ?_))
  refine ec_naI (n' := 58) (m' := 2761) (N := 40) kX8_init rfl rfl rfl rfl rfl rfl rfl (by decide) (fun _ => rfl) (Nat.le_of_ble_eq_true rfl) (Nat.le_of_ble_eq_true rfl) ?_
  refine ec_pR (c := 8) (j := 11) kX8_init rfl rfl (by decide) (by decide) rfl (by first | exact Or.inl rfl | exact Or.inr ⟨rfl, rfl, rfl⟩) (by first | exact Or.inl ⟨_, rfl⟩ | exact Or.inr ⟨_, rfl⟩) ?_
  (repeat (refine em_pure (B := 58) (Nat.le_refl _) kX8_init rfl ?_))
  refine ec_naI (n' := 59) (m' := 2801) (N := 40) kX8_init rfl rfl rfl rfl rfl rfl rfl (by decide) (fun _ => rfl) (Nat.le_of_ble_eq_true rfl) (Nat.le_of_ble_eq_true rfl) ?_
  refine ec_pR (c := 8) (j := 12) kX8_init rfl rfl (by decide) (by decide) rfl (by first | exact Or.inl rfl | exact Or.inr ⟨rfl, rfl, rfl⟩) (by first | exact Or.inl ⟨_, rfl⟩ | exact Or.inr ⟨_, rfl⟩) ?_
  (repeat (refine em_pure (B := 59) (Nat.le_refl _) kX8_init rfl ?_))
  refine ec_naI (n' := 60) (m' := 2841) (N := 40) kX8_init rfl rfl rfl rfl rfl rfl rfl (by decide) (fun _ => rfl) (Nat.le_of_ble_eq_true rfl) (Nat.le_of_ble_eq_true rfl) ?_
  refine ec_pR (c := 8) (j := 13) kX8_init rfl rfl (by decide) (by decide) rfl (by first | exact Or.inl rfl | exact Or.inr ⟨rfl, rfl, rfl⟩) (by first | exact Or.inl ⟨_, rfl⟩ | exact Or.inr ⟨_, rfl⟩) ?_
  (repeat (refine em_pure (B := 60) (Nat.le_refl _) kX8_init rfl ?_))
  refine ec_naI (n' := 61) (m' := 3041) (N := 200) kX8_init rfl rfl rfl rfl rfl rfl rfl (by decide) (fun _ => rfl) (Nat.le_of_ble_eq_true rfl) (Nat.le_of_ble_eq_true rfl) ?_
  refine ec_pR (c := 8) (j := 14) kX8_init rfl rfl (by decide) (by decide) rfl (by first | exact Or.inl rfl | exact Or.inr ⟨rfl, rfl, rfl⟩) (by first | exact Or.inl ⟨_, rfl⟩ | exact Or.inr ⟨_, rfl⟩) ?_
  (repeat (refine em_pure (B := 61) (Nat.le_refl _) kX8_init rfl ?_))
  refine ec_naI (n' := 62) (m' := 3241) (N := 200) kX8_init rfl rfl rfl rfl rfl rfl rfl (by decide) (fun _ => rfl) (Nat.le_of_ble_eq_true rfl) (Nat.le_of_ble_eq_true rfl) ?_
  refine ec_pR (c := 8) (j := 15) kX8_init rfl rfl (by decide) (by decide) rfl (by first | exact Or.inl rfl | exact Or.inr ⟨rfl, rfl, rfl⟩) (by first | exact Or.inl ⟨_, rfl⟩ | exact Or.inr ⟨_, rfl⟩) ?_
  (repeat (refine em_pure (B := 62) (Nat.le_refl _) kX8_init rfl ?_))
  refine ec_naI (n' := 63) (m' := 3441) (N := 200) kX8_init rfl rfl rfl rfl rfl rfl rfl (by decide) (fun _ => rfl) (Nat.le_of_ble_eq_true rfl) (Nat.le_of_ble_eq_true rfl) ?_
  refine ec_pR (c := 8) (j := 16) kX8_init rfl rfl (by decide) (by decide) rfl (by first | exact Or.inl rfl | exact Or.inr ⟨rfl, rfl, rfl⟩) (by first | exact Or.inl ⟨_, rfl⟩ | exact Or.inr ⟨_, rfl⟩) ?_
  (repeat (refine em_pure (B := 63) (Nat.le_refl _) kX8_init rfl ?_))
  refine ec_naI (n' := 64) (m' := 3843) (N := 402) kX8_init rfl rfl rfl rfl rfl rfl rfl (by decide) (fun _ => rfl) (Nat.le_of_ble_eq_true rfl) (Nat.le_of_ble_eq_true rfl) ?_
  refine ec_pR (c := 8) (j := 17) kX8_init rfl rfl (by decide) (by decide) rfl (by first | exact Or.inl rfl | exact Or.inr ⟨rfl, rfl, rfl⟩) (by first | exact Or.inl ⟨_, rfl⟩ | exact Or.inr ⟨_, rfl⟩) ?_
  (repeat (refine em_pure (B := 64) (Nat.le_refl _) kX8_init rfl ?_))
  refine ec_naI (n' := 65) (m' := 4099) (N := 256) kX8_init rfl rfl rfl rfl rfl rfl rfl (by decide) (fun _ => rfl) (Nat.le_of_ble_eq_true rfl) (Nat.le_of_ble_eq_true rfl) ?_
  refine ec_pR (c := 8) (j := 18) kX8_init rfl rfl (by decide) (by decide) rfl (by first | exact Or.inl rfl | exact Or.inr ⟨rfl, rfl, rfl⟩) (by first | exact Or.inl ⟨_, rfl⟩ | exact Or.inr ⟨_, rfl⟩) ?_
  (repeat (refine em_pure (B := 65) (Nat.le_refl _) kX8_init rfl ?_))
  refine ec_naI (n' := 66) (m' := 4355) (N := 256) kX8_init rfl rfl rfl rfl rfl rfl rfl (by decide) (fun _ => rfl) (Nat.le_of_ble_eq_true rfl) (Nat.le_of_ble_eq_true rfl) ?_
  refine ec_pR (c := 8) (j := 19) kX8_init rfl rfl (by decide) (by decide) rfl (by first | exact Or.inl rfl | exact Or.inr ⟨rfl, rfl, rfl⟩) (by first | exact Or.inl ⟨_, rfl⟩ | exact Or.inr ⟨_, rfl⟩) ?_
  (repeat (refine em_pure (B := 66) (Nat.le_refl _) kX8_init rfl ?_))
  refine ec_naI (n' := 67) (m' := 4611) (N := 256) kX8_init rfl rfl rfl rfl rfl rfl rfl (by decide) (fun _ => rfl) (Nat.le_of_ble_eq_true rfl) (Nat.le_of_ble_eq_true rfl) ?_
  refine ec_pR (c := 8) (j := 20) kX8_init rfl rfl (by decide) (by decide) rfl (by first | exact Or.inl rfl | exact Or.inr ⟨rfl, rfl, rfl⟩) (by first | exact Or.inl ⟨_, rfl⟩ | exact Or.inr ⟨_, rfl⟩) ?_
  (repeat (refine em_pure (B := 67) (Nat.le_refl _) kX8_init rfl ?_))
  refine ec_naB (n' := 68) (m' := 4675) (N := 64) kX8_init rfl rfl rfl rfl rfl rfl rfl (by decide) (fun _ => rfl) (Nat.le_of_ble_eq_true rfl) (Nat.le_of_ble_eq_true rfl) ?_
  refine ec_pR (c := 8) (j := 21) kX8_init rfl rfl (by decide) (by decide) rfl (by first | exact Or.inl rfl | exact Or.inr ⟨rfl, rfl, rfl⟩) (by first | exact Or.inl ⟨_, rfl⟩ | exact Or.inr ⟨_, rfl⟩) ?_
  (repeat (refine em_pure (B := 68) (Nat.le_refl _) kX8_init rfl ?_))
  refine ec_naI (n' := 69) (m' := 4683) (N := 8) kX8_init rfl rfl rfl rfl rfl rfl rfl (by decide) (fun _ => rfl) (Nat.le_of_ble_eq_true rfl) (Nat.le_of_ble_eq_true rfl) ?_
  refine ec_pR (c := 8) (j := 22) kX8_init rfl rfl (by decide) (by decide) rfl (by first | exact Or.inl rfl | exact Or.inr ⟨rfl, rfl, rfl⟩) (by first | exact Or.inl ⟨_, rfl⟩ | exact Or.inr ⟨_, rfl⟩) ?_
  (repeat (refine em_pure (B := 69) (Nat.le_refl _) kX8_init rfl ?_))
  refine ec_naB (n' := 70) (m' := 4691) (N := 8) kX8_init rfl rfl rfl rfl rfl rfl rfl (by decide) (fun _ => rfl) (Nat.le_of_ble_eq_true rfl) (Nat.le_of_ble_eq_true rfl) ?_
  refine ec_pR (c := 8) (j := 23) kX8_init rfl rfl (by decide) (by decide) rfl (by first | exact Or.inl rfl | exact Or.inr ⟨rfl, rfl, rfl⟩) (by first | exact Or.inl ⟨_, rfl⟩ | exact Or.inr ⟨_, rfl⟩) ?_
  (repeat (refine em_pure (B := 70) (Nat.le_refl _) kX8_init rfl ?_))
  refine ec_naB (n' := 71) (m' := 4755) (N := 64) kX8_init rfl rfl rfl rfl rfl rfl rfl (by decide) (fun _ => rfl) (Nat.le_of_ble_eq_true rfl) (Nat.le_of_ble_eq_true rfl) ?_
  refine ec_pR (c := 8) (j := 24) kX8_init rfl rfl (by decide) (by decide) rfl (by first | exact Or.inl rfl | exact Or.inr ⟨rfl, rfl, rfl⟩) (by first | exact Or.inl ⟨_, rfl⟩ | exact Or.inr ⟨_, rfl⟩) ?_
  (repeat (refine em_pure (B := 71) (Nat.le_refl _) kX8_init rfl ?_))
  refine ec_naI (n' := 72) (m' := 4763) (N := 8) kX8_init rfl rfl rfl rfl rfl rfl rfl (by decide) (fun _ => rfl) (Nat.le_of_ble_eq_true rfl) (Nat.le_of_ble_eq_true rfl) ?_
  refine ec_pR (c := 8) (j := 25) kX8_init rfl rfl (by decide) (by decide) rfl (by first | exact Or.inl rfl | exact Or.inr ⟨rfl, rfl, rfl⟩) (by first | exact Or.inl ⟨_, rfl⟩ | exact Or.inr ⟨_, rfl⟩) ?_
  (repeat (refine em_pure (B := 72) (Nat.le_refl _) kX8_init rfl ?_))
  refine ec_naI (n' := 73) (m' := 4771) (N := 8) kX8_init rfl rfl rfl rfl rfl rfl rfl (by decide) (fun _ => rfl) (Nat.le_of_ble_eq_true rfl) (Nat.le_of_ble_eq_true rfl) ?_
  refine ec_pR (c := 8) (j := 26) kX8_init rfl rfl (by decide) (by decide) rfl (by first | exact Or.inl rfl | exact Or.inr ⟨rfl, rfl, rfl⟩) (by first | exact Or.inl ⟨_, rfl⟩ | exact Or.inr ⟨_, rfl⟩) ?_
  (repeat (refine em_pure (B := 73) (Nat.le_refl _) kX8_init rfl ?_))
  refine ec_naI (n' := 74) (m' := 4779) (N := 8) kX8_init rfl rfl rfl rfl rfl rfl rfl (by decide) (fun _ => rfl) (Nat.le_of_ble_eq_true rfl) (Nat.le_of_ble_eq_true rfl) ?_
  refine ec_pR (c := 8) (j := 27) kX8_init rfl rfl (by decide) (by decide) rfl (by first | exact Or.inl rfl | exact Or.inr ⟨rfl, rfl, rfl⟩) (by first | exact Or.inl ⟨_, rfl⟩ | exact Or.inr ⟨_, rfl⟩) ?_
  (repeat (refine em_pure (B := 74) (Nat.le_refl _) kX8_init rfl ?_))
  refine ec_naI (n' := 75) (m' := 4843) (N := 64) kX8_init rfl rfl rfl rfl rfl rfl rfl (by decide) (fun _ => rfl) (Nat.le_of_ble_eq_true rfl) (Nat.le_of_ble_eq_true rfl) ?_
  refine ec_pR (c := 8) (j := 28) kX8_init rfl rfl (by decide) (by decide) rfl (by first | exact Or.inl rfl | exact Or.inr ⟨rfl, rfl, rfl⟩) (by first | exact Or.inl ⟨_, rfl⟩ | exact Or.inr ⟨_, rfl⟩) ?_
  (repeat (refine em_pure (B := 75) (Nat.le_refl _) kX8_init rfl ?_))
  refine ec_naI (n' := 76) (m' := 4851) (N := 8) kX8_init rfl rfl rfl rfl rfl rfl rfl (by decide) (fun _ => rfl) (Nat.le_of_ble_eq_true rfl) (Nat.le_of_ble_eq_true rfl) ?_
  refine ec_pR (c := 8) (j := 29) kX8_init rfl rfl (by decide) (by decide) rfl (by first | exact Or.inl rfl | exact Or.inr ⟨rfl, rfl, rfl⟩) (by first | exact Or.inl ⟨_, rfl⟩ | exact Or.inr ⟨_, rfl⟩) ?_
  (repeat (refine em_pure (B := 76) (Nat.le_refl _) kX8_init rfl ?_))
  refine ec_naI (n' := 77) (m' := 4859) (N := 8) kX8_init rfl rfl rfl rfl rfl rfl rfl (by decide) (fun _ => rfl) (Nat.le_of_ble_eq_true rfl) (Nat.le_of_ble_eq_true rfl) ?_
  refine ec_pR (c := 8) (j := 30) kX8_init rfl rfl (by decide) (by decide) rfl (by first | exact Or.inl rfl | exact Or.inr ⟨rfl, rfl, rfl⟩) (by first | exact Or.inl ⟨_, rfl⟩ | exact Or.inr ⟨_, rfl⟩) ?_
  (repeat (refine em_pure (B := 77) (Nat.le_refl _) kX8_init rfl ?_))
  refine ec_naI (n' := 78) (m' := 5079) (N := 220) kX8_init rfl rfl rfl rfl rfl rfl rfl (by decide) (fun _ => rfl) (Nat.le_of_ble_eq_true rfl) (Nat.le_of_ble_eq_true rfl) ?_
  refine ec_pR (c := 8) (j := 34) kX8_init rfl rfl (by decide) (by decide) rfl (by first | exact Or.inl rfl | exact Or.inr ⟨rfl, rfl, rfl⟩) (by first | exact Or.inl ⟨_, rfl⟩ | exact Or.inr ⟨_, rfl⟩) ?_
  (repeat (refine em_pure (B := 78) (Nat.le_refl _) kX8_init rfl ?_))
  refine ec_naI (n' := 79) (m' := 5087) (N := 8) kX8_init rfl rfl rfl rfl rfl rfl rfl (by decide) (fun _ => rfl) (Nat.le_of_ble_eq_true rfl) (Nat.le_of_ble_eq_true rfl) ?_
  refine ec_pR (c := 8) (j := 36) kX8_init rfl rfl (by decide) (by decide) rfl (by first | exact Or.inl rfl | exact Or.inr ⟨rfl, rfl, rfl⟩) (by first | exact Or.inl ⟨_, rfl⟩ | exact Or.inr ⟨_, rfl⟩) ?_
  (repeat (refine em_pure (B := 79) (Nat.le_refl _) kX8_init rfl ?_))
  refine ec_naI (n' := 80) (m' := 5127) (N := 40) kX8_init rfl rfl rfl rfl rfl rfl rfl (by decide) (fun _ => rfl) (Nat.le_of_ble_eq_true rfl) (Nat.le_of_ble_eq_true rfl) ?_
  refine ec_pR (c := 8) (j := 37) kX8_init rfl rfl (by decide) (by decide) rfl (by first | exact Or.inl rfl | exact Or.inr ⟨rfl, rfl, rfl⟩) (by first | exact Or.inl ⟨_, rfl⟩ | exact Or.inr ⟨_, rfl⟩) ?_
  (repeat (refine em_pure (B := 80) (Nat.le_refl _) kX8_init rfl ?_))
  refine ec_naB (n' := 81) (m' := 5135) (N := 8) kX8_init rfl rfl rfl rfl rfl rfl rfl (by decide) (fun _ => rfl) (Nat.le_of_ble_eq_true rfl) (Nat.le_of_ble_eq_true rfl) ?_
  refine ec_pR (c := 8) (j := 38) kX8_init rfl rfl (by decide) (by decide) rfl (by first | exact Or.inl rfl | exact Or.inr ⟨rfl, rfl, rfl⟩) (by first | exact Or.inl ⟨_, rfl⟩ | exact Or.inr ⟨_, rfl⟩) ?_
  (repeat (refine em_pure (B := 81) (Nat.le_refl _) kX8_init rfl ?_))
  refine ec_naI (n' := 82) (m' := 5140) (N := 5) kX8_init rfl rfl rfl rfl rfl rfl rfl (by decide) (fun _ => rfl) (Nat.le_of_ble_eq_true rfl) (Nat.le_of_ble_eq_true rfl) ?_
  refine ec_pR (c := 8) (j := 40) kX8_init rfl rfl (by decide) (by decide) rfl (by first | exact Or.inl rfl | exact Or.inr ⟨rfl, rfl, rfl⟩) (by first | exact Or.inl ⟨_, rfl⟩ | exact Or.inr ⟨_, rfl⟩) ?_
  (repeat (refine em_pure (B := 82) (Nat.le_refl _) kX8_init rfl ?_))
  refine ec_naB (n' := 83) (m' := 5204) (N := 64) kX8_init rfl rfl rfl rfl rfl rfl rfl (by decide) (fun _ => rfl) (Nat.le_of_ble_eq_true rfl) (Nat.le_of_ble_eq_true rfl) ?_
  refine ec_pR (c := 8) (j := 41) kX8_init rfl rfl (by decide) (by decide) rfl (by first | exact Or.inl rfl | exact Or.inr ⟨rfl, rfl, rfl⟩) (by first | exact Or.inl ⟨_, rfl⟩ | exact Or.inr ⟨_, rfl⟩) ?_
  (repeat (refine em_pure (B := 83) (Nat.le_refl _) kX8_init rfl ?_))
  refine ec_naJ (n' := 84) (m' := 5268) (N := 64) kX8_init rfl rfl rfl rfl rfl rfl rfl (by decide) (fun _ => rfl) (Nat.le_of_ble_eq_true rfl) (Nat.le_of_ble_eq_true rfl) ?_
  refine ec_pR (c := 8) (j := 42) kX8_init rfl rfl (by decide) (by decide) rfl (by first | exact Or.inl rfl | exact Or.inr ⟨rfl, rfl, rfl⟩) (by first | exact Or.inl ⟨_, rfl⟩ | exact Or.inr ⟨_, rfl⟩) ?_
  (repeat (refine em_pure (B := 84) (Nat.le_refl _) kX8_init rfl ?_))
  refine ec_naJ (n' := 85) (m' := 5332) (N := 64) kX8_init rfl rfl rfl rfl rfl rfl rfl (by decide) (fun _ => rfl) (Nat.le_of_ble_eq_true rfl) (Nat.le_of_ble_eq_true rfl) ?_
  refine ec_pR (c := 8) (j := 43) kX8_init rfl rfl (by decide) (by decide) rfl (by first | exact Or.inl rfl | exact Or.inr ⟨rfl, rfl, rfl⟩) (by first | exact Or.inl ⟨_, rfl⟩ | exact Or.inr ⟨_, rfl⟩) ?_
  refine em_loc (lc' := [(0, .ref 53)]) rfl ?_
  refine em_hpE (hp' := ec_hz 85 5332 ec_Ic ec_ZJ (ec_rl ec_Lc)) rfl ?_
  refine ec_X8_1 Γ (Nat.le_refl _) ?_
  refine ec_X8_2 Γ ?_
  exact em_vret kX8_init rfl rfl rfl
