/-! PAIRS: THE FIELD -/
theorem ef_up (g : Nat → Nat) (o v : Nat) : ∀ n, ef_sum (va_up g o (g o + v)) n = ef_sum g n + if o < n then v else 0
  | 0 => by
    rw [if_neg (by omega)]
    rfl
  | n + 1 => by
    rw [ef_sum, ef_sum, ef_up g o v n]
    by_cases h : n = o
    · subst h
      rw [va_up_self, if_neg (by omega), if_pos (by omega)]
      omega
    · rw [va_up_ne _ _ h]
      by_cases h2 : o < n
      · rw [if_pos h2, if_pos (by omega)]; omega
      · rw [if_neg h2, if_neg (by omega)]; omega
theorem ef_lift {f : Nat → Int64} {g : Nat → Nat} (h : ∀ q, q < 64 → f q = lN (g q)) {o v : Nat} (ho : o < 64) : ∀ q, q < 64 → va_up f o (f o + lN v) q = lN (va_up g o (g o + v) q) := by
  intro q hq
  by_cases e : q = o
  · subst e
    rw [va_up_self, va_up_self, h q hq, lN_add]
  · rw [va_up_ne _ _ e, va_up_ne _ _ e, h q hq]
theorem ef_sd {w : Nat → Int32} {v c : Nat} (hc : c < 64) {f : Nat → Int64} {g : Nat → Nat} (h : ∀ q, q < 64 → f q = lN (g q)) : ∀ d, ∃ g', (∀ q, q < 64 → (em_sd w (lN v) c d f).1 q = lN (g' q)) ∧ ef_sum g' 64 = ef_sum g 64 + (em_sd w (lN v) c d f).2 * v
  | 0 => ⟨g, h, by show _ = _ + 0 * v; omega⟩
  | d + 1 => by
    obtain ⟨g', h1, h2⟩ := ef_sd (w := w) (v := v) hc h d
    rw [em_sd]
    cases ho : em_nb1 c d with
    | none => exact ⟨g', h1, h2⟩
    | some o =>
      have ho64 := em_nb1_lt hc ho
      show ∃ g', (∀ q, q < 64 → (if w o = 0 then (va_up (em_sd w (lN v) c d f).1 o ((em_sd w (lN v) c d f).1 o + lN v), (em_sd w (lN v) c d f).2 + 1) else em_sd w (lN v) c d f).1 q = lN (g' q)) ∧ ef_sum g' 64 = ef_sum g 64 + (if w o = 0 then (va_up (em_sd w (lN v) c d f).1 o ((em_sd w (lN v) c d f).1 o + lN v), (em_sd w (lN v) c d f).2 + 1) else em_sd w (lN v) c d f).2 * v
      by_cases hw : w o = 0
      · rw [if_pos hw]
        refine ⟨va_up g' o (g' o + v), ef_lift h1 ho64, ?_⟩
        show _ = _ + ((em_sd w (lN v) c d f).2 + 1) * v
        rw [ef_up, if_pos ho64, h2, Nat.add_mul]
        omega
      · rw [if_neg hw]
        exact ⟨g', h1, h2⟩
theorem ef_sp {w : Nat → Int32} {v c : Nat} (hc : c < 64) {f : Nat → Int64} {g : Nat → Nat} (h : ∀ q, q < 64 → f q = lN (g q)) : ∃ g', (∀ q, q < 64 → em_sp w (lN v) c f q = lN (g' q)) ∧ ef_sum g' 64 = ef_sum g 64 + 5 * v := by
  obtain ⟨g', h1, h2⟩ := ef_sd (w := w) (v := v) hc h 4
  have hle := em_sd_le w (lN v) c f 4
  refine ⟨va_up g' c (g' c + v * (5 - (em_sd w (lN v) c 4 f).2)), ?_, ?_⟩
  · rw [em_sp, nI_l (by omega), lN_mul]
    exact ef_lift h1 hc
  · rw [ef_up, if_pos hc, h2, Nat.add_assoc, Nat.mul_comm v, ← Nat.add_mul]
    congr 2
    omega
theorem ef_hr {w : Nat → Int32} {mb f : Nat → Int64} {v g : Nat → Nat} (h : ∀ q, q < 64 → f q = lN (g q)) (hm : ∀ q, q < 64 → mb q = lN (v q)) : ∀ c, c ≤ 64 → ∃ g', (∀ q, q < 64 → em_hr w mb f c q = lN (g' q)) ∧ ef_sum g' 64 = ef_sum g 64 + 5 * ef_sum v c
  | 0, _ => ⟨g, h, by rw [ef_sum]; omega⟩
  | c + 1, hc => by
    obtain ⟨g1, h1, h2⟩ := ef_hr (w := w) h hm c (by omega)
    rw [em_hr, hm c (by omega)]
    obtain ⟨g2, h3, h4⟩ := ef_sp (w := w) (v := v c) (show c < 64 by omega) h1
    exact ⟨g2, h3, by rw [h4, h2, show ef_sum v (c + 1) = ef_sum v c + v c from rfl]; omega⟩
theorem ef_sd_eq {w : Nat → Int32} {v : Int64} {c : Nat} (hc : c < 64) {f f' : Nat → Int64} (h : ∀ q, q < 64 → f q = f' q) : ∀ d, (em_sd w v c d f).2 = (em_sd w v c d f').2 ∧ ∀ q, q < 64 → (em_sd w v c d f).1 q = (em_sd w v c d f').1 q
  | 0 => ⟨rfl, h⟩
  | d + 1 => by
    obtain ⟨i1, i2⟩ := ef_sd_eq (w := w) (v := v) hc h d
    rw [em_sd, em_sd]
    cases ho : em_nb1 c d with
    | none => exact ⟨i1, i2⟩
    | some o =>
      have ho64 := em_nb1_lt hc ho
      show (if w o = 0 then (va_up (em_sd w v c d f).1 o ((em_sd w v c d f).1 o + v), (em_sd w v c d f).2 + 1) else em_sd w v c d f).2 = (if w o = 0 then (va_up (em_sd w v c d f').1 o ((em_sd w v c d f').1 o + v), (em_sd w v c d f').2 + 1) else em_sd w v c d f').2 ∧ ∀ q, q < 64 → (if w o = 0 then (va_up (em_sd w v c d f).1 o ((em_sd w v c d f).1 o + v), (em_sd w v c d f).2 + 1) else em_sd w v c d f).1 q = (if w o = 0 then (va_up (em_sd w v c d f').1 o ((em_sd w v c d f').1 o + v), (em_sd w v c d f').2 + 1) else em_sd w v c d f').1 q
      by_cases hw : w o = 0
      · rw [if_pos hw, if_pos hw]
        refine ⟨by show _ + 1 = _ + 1; rw [i1], fun q hq => ?_⟩
        show va_up _ o _ q = va_up _ o _ q
        by_cases e : q = o
        · subst e; rw [va_up_self, va_up_self, i2 q hq]
        · rw [va_up_ne _ _ e, va_up_ne _ _ e, i2 q hq]
      · rw [if_neg hw, if_neg hw]
        exact ⟨i1, i2⟩
theorem ef_hr_eq {w : Nat → Int32} {mb mb' f f' : Nat → Int64} (h : ∀ q, q < 64 → f q = f' q) (hm : ∀ q, q < 64 → mb q = mb' q) : ∀ c, c ≤ 64 → ∀ q, q < 64 → em_hr w mb f c q = em_hr w mb' f' c q
  | 0, _, q, hq => h q hq
  | c + 1, hc, q, hq => by
    have ih := ef_hr_eq (w := w) h hm c (by omega)
    rw [em_hr, em_hr, hm c (by omega)]
    obtain ⟨i1, i2⟩ := ef_sd_eq (w := w) (v := mb' c) (show c < 64 by omega) ih 4
    rw [em_sp, em_sp, i1, i2 c (by omega)]
    by_cases e : q = c
    · subst e; rw [va_up_self, va_up_self]
    · rw [va_up_ne _ _ e, va_up_ne _ _ e, i2 q hq]
theorem ef_sL_eq {f f' : Nat → Int64} : ∀ n, (∀ q, q < n → f q = f' q) → em_sL f n = em_sL f' n
  | 0, _ => rfl
  | n + 1, h => by rw [em_sL, em_sL, ef_sL_eq n (fun q hq => h q (by omega)), h n (by omega)]
theorem ef_sL {f : Nat → Int64} {v : Nat → Nat} : ∀ n, (∀ q, q < n → f q = lN (v q)) → em_sL f n = lN (ef_sum v n)
  | 0, _ => rfl
  | n + 1, h => by rw [em_sL, ef_sum, ef_sL n (fun q hq => h q (by omega)), h n (by omega), lN_add]
theorem ef_mx_eq {f f' : Nat → Int64} : ∀ n, (∀ q, q < n → f q = f' q) → em_mx f n = em_mx f' n
  | 0, _ => rfl
  | n + 1, h => by
    have ih := ef_mx_eq n (fun q hq => h q (by omega))
    rw [em_mx, em_mx, ih, h n (by omega)]
    cases n with
    | zero =>
      show (if f 0 < f' 0 then 0 else em_mx f' 0) = if f' 0 < f' 0 then 0 else em_mx f' 0
      rw [h 0 (by omega)]
    | succ n =>
      have hl := em_mx_lt f' n
      rw [h (em_mx f' (n + 1)) (by omega)]
theorem ef_le {v : Nat → Nat} : ∀ n q, q < n → v q ≤ ef_sum v n
  | n + 1, q, h => by
    rw [ef_sum]
    by_cases e : q = n
    · subst e; omega
    · have := ef_le (v := v) n q (by omega)
      omega
theorem ef_cut {v : Nat → Nat} {j : Nat} : ∀ n, ef_sum (va_up v j 0) n + (if j < n then v j else 0) = ef_sum v n
  | 0 => by rw [if_neg (by omega)]; rfl
  | n + 1 => by
    have ih := ef_cut (v := v) (j := j) n
    rw [ef_sum, ef_sum]
    by_cases e : n = j
    · subst e
      rw [if_neg (by omega)] at ih
      rw [va_up_self, if_pos (by omega)]
      omega
    · rw [va_up_ne _ _ e]
      by_cases h2 : j < n
      · rw [if_pos h2] at ih; rw [if_pos (by omega)]; omega
      · rw [if_neg h2] at ih; rw [if_neg (by omega)]; omega
theorem ef_lN {a b : Nat} (ha : a < 2 ^ 63) (hb : b < 2 ^ 63) (h : lN a = lN b) : a = b := by
  have h1 : (lN a).toInt = (a : Int) := Int64.toInt_ofNat_of_lt ha
  have h2 : (lN b).toInt = (b : Int) := Int64.toInt_ofNat_of_lt hb
  rw [h, h2] at h1
  omega
theorem ef_5 {h : Nat} (hh : h ≤ 20) : 5 ^ h < 2 ^ 63 := Nat.lt_of_le_of_lt (Nat.pow_le_pow_right (by decide) hh) (by decide)
theorem ef_mb (rv : em_Rv) : ¬ em_mb rv = 51 ∧ ¬ em_mb rv = 52 := by
  obtain ⟨a, b, c, d, s⟩ := rv
  cases s
  · exact ⟨(by decide : ¬ 83 = 51), (by decide : ¬ 83 = 52)⟩
  · exact ⟨(by decide : ¬ 84 = 51), (by decide : ¬ 84 = 52)⟩
section PairsF
variable {Γ : em_Cx} {n m : Nat} {dl : Nat → Nat} {I : Nat → Nat → Int32} {J : Nat → Nat → Int64} {rv : em_Rv}
theorem p_wall (H : em_Inv n m dl I J rv) {x v : Int32} (hv : v = 0 ∨ v = 1) : em_pair Γ mX7_wall mX8_wall [.int x, .int v] n m dl I J rv := by
  have H0 := H
  obtain ⟨N, G, t, c, lam, mu, T, S, h, H⟩ := H
  have hF := H.F
  by_cases hc : I 49 3 = -1 ∧ (0 ≤ x ∧ x ≤ 63) ∧ ¬ I 50 x.toNatClampNeg = v
  · obtain ⟨h1, h2, h3⟩ := hc
    obtain ⟨j, hj, rfl⟩ := em_inC h2
    rw [nI_clamp (by omega)] at h3
    refine ep_mk (by decide) (by decide) (d_wall H.hB (s_setWall_ok H.hB h1 hj rfl h3 hv) rfl) (s_mWall_ok H.hB (j := j) (by show I 53 6 = -1; rw [hF.w1]; exact h1) hj rfl (by show ¬ I 82 j = v; rw [hF.wl]; exact h3) hv) ?_
    refine em_Iv.inv (N := N) (G := G) (t := t) (c := c) (lam := lam) (mu := mu) (T := T) (S := S) (h := h) (em_Iv.mk (hB := H.hB) (A := H.A) (B := H.B.frame (by repeat (first | exact ek_r _ | refine ek_s ?_ rfl)) rfl) (C := H.C) (D := H.D) (E := H.E) (F := ?_))
    exact em_gF.mk (w1 := hF.w1) (w2 := hF.w2) (w3 := hF.w3) (w4 := hF.w4) (wl := by show va_up (I 82) j v = va_up (I 50) j v; rw [hF.wl]) (jm := hF.jm) (mv := hF.mv)
  · refine ep_mk (by decide) (by decide) (d_wall H.hB (s_setWall_no H.hB hc) rfl) (s_mWall_no H.hB ?_) H0
    rw [hF.w1, hF.wl]
    exact hc
theorem p_away (H : em_Inv n m dl I J rv) {x y : Int32} : em_pair Γ mX7_away mX8_away [.int x, .int y] n m dl I J rv := by
  have H0 := H
  obtain ⟨N, G, t, c, lam, mu, T, S, h, H⟩ := H
  have hF := H.F
  have e1 : I 53 1 = I 1 2 := by rw [H.A.m1, H.A.n1]
  by_cases hc : (0 ≤ x ∧ x ≤ I 1 2 - 1) ∧ (I 49 3 = -1 ∧ (0 ≤ y ∧ y ≤ 63) ∧ I 50 y.toNatClampNeg = 0)
  · obtain ⟨h0, h1, h2, h3⟩ := hc
    obtain ⟨j, hj, rfl⟩ := em_inC h2
    rw [nI_clamp (by omega)] at h3
    refine ep_mk (by decide) (by decide) (s_away_ok H.hB h0 h1 hj rfl h3) (s_mAway_ok H.hB (j := j) (by show 0 ≤ x ∧ x ≤ I 53 1 - 1; rw [e1]; exact h0) (by show I 53 6 = -1; rw [hF.w1]; exact h1) hj rfl (by show I 82 j = 0; rw [hF.wl]; exact h3)) ?_
    refine em_Iv.inv (N := N) (G := G) (t := t) (c := c) (lam := lam) (mu := mu) (T := T) (S := S) (h := 0) (em_Iv.mk (hB := H.hB) (A := H.A) (B := H.B.frame (by repeat (first | exact ek_r _ | refine ek_s ?_ rfl)) rfl) (C := H.C) (D := H.D) (E := H.E) (F := ?_))
    have hmb := ef_mb rv
    have j51 : ∀ q, q < 64 → va_up (va_up J 51 (va_up (em_fil (J 51) 0 64) j 1)) (em_mb rv) (em_one (va_up J 51 (va_up (em_fil (J 51) 0 64) j 1) (em_mb rv)) (nI j) 64) 51 q = lN (va_up (fun _ => 0) j 1 q) := by
      intro q hq
      rw [va_up_ne _ _ (fun z => hmb.1 z.symm), va_up_self]
      by_cases e : q = j
      · subst e; rw [va_up_self, va_up_self]; rfl
      · rw [va_up_ne _ _ e, va_up_ne _ _ e, em_fil, if_pos hq]; rfl
    refine em_gF.mk (w1 := rfl) (w2 := rfl) (w3 := rfl) (w4 := by omega) (wl := hF.wl) (jm := ?_) (mv := ⟨va_up (fun _ => 0) j 1, j51, ?_, fun _ => ?_⟩)
    · intro q hq
      rw [j51 q hq, va_up_self, em_one, if_pos hq]
      by_cases e : q = j
      · subst e; rw [if_pos rfl, va_up_self]; rfl
      · rw [if_neg (show ¬ nI q = nI j from fun z => e ((nI_eq (by omega) (by omega)).mp z)), va_up_ne _ _ e]; rfl
    · have := ef_up (fun _ => 0) j 1 64
      rw [show (fun _ => 0 : Nat → Nat) j + 1 = 1 from rfl, if_pos hj] at this
      rw [this]
      have z : ∀ n, ef_sum (fun _ => 0) n = 0 := fun n => by
        induction n with
        | zero => rfl
        | succ n ih => rw [ef_sum, ih]
      rw [z]
      decide
    · have := ef_le (v := va_up (fun _ => 0) j 1) 64 j hj
      rw [va_up_self] at this
      omega
  · refine ep_mk (by decide) (by decide) (s_away_no H.hB hc) (s_mAway_no H.hB ?_) H0
    rw [e1, hF.w1, hF.wl]
    exact hc
theorem p_where (H : em_Inv n m dl I J rv) : em_pair Γ mX7_where mX8_where [] n m dl I J rv := by
  have H0 := H
  obtain ⟨N, G, t, c, lam, mu, T, S, h, H⟩ := H
  have hF := H.F
  have r := s_mWhere (Γ := Γ) (m := m) (dl := dl) (I := I) (J := J) (rv := rv) H.hB
  rw [hF.w1, ef_mx_eq 64 hF.jm] at r
  exact ep_mk (by decide) (by decide) (d_where H.hB (s_likeliest H.hB)) r H0
theorem p_maybe (H : em_Inv n m dl I J rv) {x : Int32} : em_pairL Γ mX7_maybe mX8_maybe [.int x] n m dl I J rv := by
  have H0 := H
  obtain ⟨N, G, t, c, lam, mu, T, S, h, H⟩ := H
  have hF := H.F
  have r := s_mMaybe (Γ := Γ) (m := m) (dl := dl) (I := I) (J := J) (rv := rv) H.hB (x := x)
  have e : (if ¬ I 53 6 = -1 ∧ (0 ≤ x ∧ x ≤ 63) then J (em_mb rv) x.toNatClampNeg else -1) = if ¬ I 49 3 = -1 ∧ (0 ≤ x ∧ x ≤ 63) then J 51 x.toNatClampNeg else -1 := by
    rw [hF.w1]
    by_cases hx : ¬ I 49 3 = -1 ∧ (0 ≤ x ∧ x ≤ 63)
    · rw [if_pos hx, if_pos hx]
      obtain ⟨j, hj, rfl⟩ := em_inC hx.2
      rw [nI_clamp (by omega), hF.jm j hj]
    · rw [if_neg hx, if_neg hx]
  rw [e] at r
  exact ep_mkL (by decide) (by decide) (d_maybe H.hB (s_maybeOf H.hB)) r H0
theorem p_look (H : em_Inv n m dl I J rv) {x : Int32} : em_pair Γ mX7_look mX8_look [.int x] n m dl I J rv := by
  have H0 := H
  obtain ⟨N, G, t, c, lam, mu, T, S, h, H⟩ := H
  have hF := H.F
  have hmb := ef_mb rv
  by_cases hx : ¬ I 49 3 = -1 ∧ (0 ≤ x ∧ x ≤ 63)
  · have hx' : ¬ I 53 6 = -1 ∧ (0 ≤ x ∧ x ≤ 63) := by rw [hF.w1]; exact hx
    obtain ⟨j, hj, rfl⟩ := em_inC hx.2
    have ec : (nI j).toNatClampNeg = j := nI_clamp (by omega)
    have ej := hF.jm j hj
    have es := ef_sL_eq 64 hF.jm
    obtain ⟨v, v1, v2, v3⟩ := hF.mv
    have v3 := v3 hx.1
    have h5 := ef_5 hF.w4
    have esum := ef_sL 64 v1
    have hle := ef_le (v := v) 64 j hj
    by_cases h0 : J 51 j = 0
    · exact ep_mk (by decide) (by decide) (d_look H.hB (s_lookAt H.hB (r := 0) (I' := I) (J' := J) (Or.inr ⟨hx, Or.inl ⟨by rw [ec]; exact h0, rfl, rfl, rfl⟩⟩))) (s_mLook H.hB (r := 0) (I' := I) (J' := J) (Or.inr ⟨hx', Or.inl ⟨by rw [ec, ej]; exact h0, rfl, rfl, rfl⟩⟩)) H0
    · by_cases h1 : J 51 j = em_sL (J 51) 64
      · refine ep_mk (by decide) (by decide) (d_look H.hB (s_lookAt H.hB (r := 2) (I' := va_up I 49 (va_up (I 49) 3 (-1))) (J' := J) (Or.inr ⟨hx, Or.inr ⟨by rw [ec]; exact h0, Or.inl ⟨by rw [ec]; exact h1, rfl, rfl, rfl⟩⟩⟩))) (s_mLook (I := va_up I 49 (va_up (I 49) 3 (-1))) H.hB (r := 2) (I' := va_up (va_up I 49 (va_up (I 49) 3 (-1))) 53 (va_up (I 53) 6 (-1))) (J' := J) (Or.inr ⟨hx', Or.inr ⟨by rw [ec, ej]; exact h0, Or.inl ⟨by rw [ec, ej, es]; exact h1, rfl, rfl, rfl⟩⟩⟩)) ?_
        refine em_Iv.inv (N := N) (G := G) (t := t) (c := c) (lam := lam) (mu := mu) (T := T) (S := S) (h := h) (em_Iv.mk (hB := H.hB) (A := H.A) (B := H.B.frame (by repeat (first | exact ek_r _ | refine ek_s ?_ rfl)) rfl) (C := H.C) (D := H.D) (E := H.E) (F := ?_))
        exact em_gF.mk (w1 := rfl) (w2 := hF.w2) (w3 := hF.w3) (w4 := hF.w4) (wl := hF.wl) (jm := hF.jm) (mv := ⟨v, v1, v2, fun z => absurd rfl z⟩)
      · have es' : em_sL (va_up J 51 (va_up (J 51) j 0) (em_mb rv)) 64 = em_sL (J 51) 64 := by rw [va_up_ne _ _ hmb.1]; exact es
        have ej' : va_up J 51 (va_up (J 51) j 0) (em_mb rv) j = J 51 j := by rw [va_up_ne _ _ hmb.1]; exact ej
        refine ep_mk (by decide) (by decide) (d_look H.hB (s_lookAt H.hB (r := 1) (I' := I) (J' := va_up J 51 (va_up (J 51) j 0)) (Or.inr ⟨hx, Or.inr ⟨by rw [ec]; exact h0, Or.inr ⟨by rw [ec]; exact h1, rfl, rfl, by rw [ec]⟩⟩⟩))) (s_mLook (J := va_up J 51 (va_up (J 51) j 0)) H.hB (r := 1) (I' := I) (J' := va_up (va_up J 51 (va_up (J 51) j 0)) (em_mb rv) (va_up (va_up J 51 (va_up (J 51) j 0) (em_mb rv)) j 0)) (Or.inr ⟨hx', Or.inr ⟨by rw [ec, ej']; exact h0, Or.inr ⟨by rw [ec, ej', es']; exact h1, rfl, rfl, by rw [ec]⟩⟩⟩)) ?_
        refine em_Iv.inv (N := N) (G := G) (t := t) (c := c) (lam := lam) (mu := mu) (T := T) (S := S) (h := h) (em_Iv.mk (hB := H.hB) (A := H.A) (B := H.B) (C := H.C) (D := H.D) (E := H.E) (F := ?_))
        have j51 : va_up (va_up J 51 (va_up (J 51) j 0)) (em_mb rv) (va_up (va_up J 51 (va_up (J 51) j 0) (em_mb rv)) j 0) 51 = va_up (J 51) j 0 := by rw [va_up_ne _ _ (fun z => hmb.1 z.symm), va_up_self]
        have hcut := ef_cut (v := v) (j := j) 64
        rw [if_pos hj] at hcut
        refine em_gF.mk (w1 := hF.w1) (w2 := hF.w2) (w3 := hF.w3) (w4 := hF.w4) (wl := hF.wl) (jm := ?_) (mv := ⟨va_up v j 0, ?_, by omega, fun _ => ?_⟩)
        · intro q hq
          rw [j51, va_up_self, va_up_ne _ _ hmb.1]
          by_cases e : q = j
          · subst e; rw [va_up_self, va_up_self]
          · rw [va_up_ne _ _ e, va_up_ne _ _ e]; exact hF.jm q hq
        · intro q hq
          rw [j51]
          by_cases e : q = j
          · subst e; rw [va_up_self, va_up_self]; rfl
          · rw [va_up_ne _ _ e, va_up_ne _ _ e]; exact v1 q hq
        · have : ¬ v j = ef_sum v 64 := fun z => h1 (by rw [v1 j hj, esum, z])
          omega
  · have hx' : ¬ (¬ I 53 6 = -1 ∧ (0 ≤ x ∧ x ≤ 63)) := by rw [hF.w1]; exact hx
    exact ep_mk (by decide) (by decide) (d_look H.hB (s_lookAt H.hB (r := -1) (I' := I) (J' := J) (Or.inl ⟨hx, rfl, rfl, rfl⟩))) (s_mLook H.hB (r := -1) (I' := I) (J' := J) (Or.inl ⟨hx', rfl, rfl, rfl⟩)) H0
theorem p_chance (H : em_Inv n m dl I J rv) {x w : Int32} : em_pairL Γ mX7_chance mX8_chance [.int x, .int w] n m dl I J rv := by
  have H0 := H
  obtain ⟨N, G, t, c, lam, mu, T, S, h, H⟩ := H
  have hF := H.F
  by_cases hx : (¬ I 49 3 = -1 ∧ (0 ≤ x ∧ x ≤ 63)) ∧ (0 ≤ w ∧ w ≤ 1)
  · obtain ⟨hx, hw⟩ := hx
    have hx' : ¬ I 53 6 = -1 ∧ (0 ≤ x ∧ x ≤ 63) := by rw [hF.w1]; exact hx
    obtain ⟨j, hj, rfl⟩ := em_inC hx.2
    have ec : (nI j).toNatClampNeg = j := nI_clamp (by omega)
    obtain ⟨v, v1, v2, v3⟩ := hF.mv
    have v3 := v3 hx.1
    have h5 := ef_5 hF.w4
    have esum := ef_sL 64 v1
    have hle := ef_le (v := v) 64 j hj
    have hg : em_gcd 128 (J 51 (nI j).toNatClampNeg) (em_sL (J 51) 64) = lN (Nat.gcd (v j) (ef_sum v 64)) := by
      rw [ec, v1 j hj, esum]
      exact em_gcd_ok 63 128 _ _ (by decide) (by omega) (by omega) (by omega)
    have hpos : 0 < Nat.gcd (v j) (ef_sum v 64) := Nat.gcd_pos_of_pos_right _ v3
    have hgle : Nat.gcd (v j) (ef_sum v 64) ≤ ef_sum v 64 := Nat.gcd_le_right _ v3
    have cc := s_chanceOf_ok (Γ := Γ) (m := m) (dl := dl) (J := J) (rv := rv) H.hB (w := w) hx hw (by rw [hg]; exact fun z => absurd (ef_lN (by omega) (b := 0) (by decide) z) (by omega))
    have r := s_mChance_ok (Γ := Γ) (m := m) (dl := dl) (J := J) (rv := rv) H.hB (w := w) (a := v j) (b := ef_sum v 64) hx' hw (by rw [ec, hF.jm j hj, v1 j hj]) (by rw [ef_sL_eq 64 hF.jm, esum]) (by omega) v3 (by omega)
    rw [hg, ec, v1 j hj, esum] at cc
    exact ep_mkL (by decide) (by decide) (d_chance H.hB cc) r H0
  · refine ep_mkL (by decide) (by decide) (d_chance H.hB (s_chanceOf_no H.hB hx)) (s_mChance_no H.hB ?_) H0
    rw [hF.w1]
    exact hx
theorem ef_F {I : Nat → Nat → Int32} {J J' : Nat → Nat → Int64} {rv rv' : em_Rv} {h : Nat} (hF : em_gF I J rv h) (h20 : h < 20) {I' : Nat → Nat → Int32} (e1 : I' 53 6 = I 53 6) (e2 : I' 53 7 = I 53 7 + 1) (e3 : I' 49 3 = I 49 3) (e4 : I' 49 4 = I 49 4 + 1) (e5 : I' 82 = I' 50) (a : ∀ q, q < 64 → J' 51 q = em_hr (I 50) (J 51) (em_fil (J 52) 0 64) 64 q) (b : ∀ q, q < 64 → ∃ f, (∀ q, q < 64 → f q = 0) ∧ J' (em_mb rv') q = em_hr (I 50) (J (em_mb rv)) f 64 q) : em_gF I' J' rv' (h + 1) := by
  obtain ⟨v, v1, v2, v3⟩ := hF.mv
  have z0 : ∀ q, q < 64 → em_fil (J 52) 0 64 q = lN ((fun _ => 0 : Nat → Nat) q) := fun q hq => by rw [em_fil, if_pos hq]; rfl
  have z : ∀ n, ef_sum (fun _ => 0) n = 0 := fun n => by
    induction n with
    | zero => rfl
    | succ n ih => rw [ef_sum, ih]
  obtain ⟨g, g1, g2⟩ := ef_hr (w := I 50) z0 v1 64 (Nat.le_refl _)
  rw [z, Nat.zero_add] at g2
  refine em_gF.mk (w1 := by rw [e1, e3]; exact hF.w1) (w2 := by rw [e2, e4, hF.w2]) (w3 := by rw [e4, hF.w3, nI_1]) (w4 := by omega) (wl := e5) (jm := ?_) (mv := ⟨g, fun q hq => by rw [a q hq]; exact g1 q hq, ?_, fun hh => ?_⟩)
  · intro q hq
    obtain ⟨f, f0, f1⟩ := b q hq
    rw [f1, a q hq]
    exact ef_hr_eq (fun q hq => by rw [f0 q hq, em_fil, if_pos hq]) hF.jm 64 (Nat.le_refl _) q hq
  · rw [g2, Nat.pow_succ, Nat.mul_comm]
    exact Nat.mul_le_mul_right _ v2
  · rw [e3] at hh
    have := v3 hh
    omega
theorem p_hour (H : em_Inv n m dl I J rv) : em_pair Γ mX7_hour mX8_hour [] n m dl I J rv := by
  have H0 := H
  obtain ⟨N, G, t, c, lam, mu, T, S, h, H⟩ := H
  have hF := H.F
  have hh := hF.w4
  by_cases hc : ¬ I 49 3 = -1 ∧ I 49 4 < 20
  · obtain ⟨h1, h2⟩ := hc
    have h20 : h < 20 := by
      rw [hF.w3] at h2
      exact (nI_ltI (b := 20) (by omega) (by omega)).mp h2
    have m1 : ¬ I 53 6 = -1 := by rw [hF.w1]; exact h1
    have m2 : ¬ I 53 7 = 20 := by
      rw [hF.w2, hF.w3]
      exact fun z => absurd ((nI_eq (b := 20) (by omega) (by omega)).mp z) (by omega)
    have cc := d_hour H.hB (s_passHour_ok (Γ := Γ) (m := m) (dl := dl) (J := J) (rv := rv) H.hB h1 h2)
    have e7 : I 53 7 + 1 = I 49 4 + 1 := by rw [hF.w2]
    have a51 : ∀ q, q < 64 → va_cpy (em_hr (I 50) (J 51) (em_fil (J 52) 0 64) 64) (J 51) 0 0 64 q = em_hr (I 50) (J 51) (em_fil (J 52) 0 64) 64 q := by
      intro q hq
      rw [va_cpy, if_pos (by omega)]
      congr 1
      omega
    obtain ⟨aL, a1, a2, a3, s⟩ := rv
    cases s with
    | false =>
      have r := s_mHour_ok0 (Γ := Γ) (n := n) (m := m) (dl := dl) (I := va_up I 49 (va_up (I 49) 4 (I 49 4 + 1))) (J := va_up (va_up J 52 (em_hr (I 50) (J 51) (em_fil (J 52) 0 64) 64)) 51 (va_cpy (em_hr (I 50) (J 51) (em_fil (J 52) 0 64) 64) (J 51) 0 0 64)) (aL := aL) (a1 := a1) (a2 := a2) (a3 := a3) H.hB m1 m2
      have e8 : va_up I 49 (va_up (I 49) 4 (I 49 4 + 1)) 53 7 + 1 = I 49 4 + 1 := e7
      rw [e8] at r
      refine ep_mk (by decide) (by decide) cc r ?_
      refine em_Iv.inv (N := N) (G := G) (t := t) (c := c) (lam := lam) (mu := mu) (T := T) (S := S) (h := h + 1) (em_Iv.mk (hB := H.hB) (A := H.A) (B := H.B.frame (by repeat (first | exact ek_r _ | refine ek_s ?_ rfl)) rfl) (C := H.C) (D := H.D) (E := H.E) (F := ?_))
      refine ef_F hF h20 (by rfl) (by show I 49 4 + 1 = _; rw [hF.w2]) (by rfl) (by rfl) hF.wl a51 (fun q hq => ⟨em_fil (J 84) 0 64, fun q hq => by rw [em_fil, if_pos hq], ?_⟩)
      show em_hr (I 82) (J 83) (em_fil (J 84) 0 64) 64 q = em_hr (I 50) (J 83) (em_fil (J 84) 0 64) 64 q
      rw [hF.wl]
    | true =>
      have r := s_mHour_ok1 (Γ := Γ) (n := n) (m := m) (dl := dl) (I := va_up I 49 (va_up (I 49) 4 (I 49 4 + 1))) (J := va_up (va_up J 52 (em_hr (I 50) (J 51) (em_fil (J 52) 0 64) 64)) 51 (va_cpy (em_hr (I 50) (J 51) (em_fil (J 52) 0 64) 64) (J 51) 0 0 64)) (aL := aL) (a1 := a1) (a2 := a2) (a3 := a3) H.hB m1 m2
      have e8 : va_up I 49 (va_up (I 49) 4 (I 49 4 + 1)) 53 7 + 1 = I 49 4 + 1 := e7
      rw [e8] at r
      refine ep_mk (by decide) (by decide) cc r ?_
      refine em_Iv.inv (N := N) (G := G) (t := t) (c := c) (lam := lam) (mu := mu) (T := T) (S := S) (h := h + 1) (em_Iv.mk (hB := H.hB) (A := H.A) (B := H.B.frame (by repeat (first | exact ek_r _ | refine ek_s ?_ rfl)) rfl) (C := H.C) (D := H.D) (E := H.E) (F := ?_))
      refine ef_F hF h20 (by rfl) (by show I 49 4 + 1 = _; rw [hF.w2]) (by rfl) (by rfl) hF.wl a51 (fun q hq => ⟨em_fil (J 83) 0 64, fun q hq => by rw [em_fil, if_pos hq], ?_⟩)
      show em_hr (I 82) (J 84) (em_fil (J 83) 0 64) 64 q = em_hr (I 50) (J 84) (em_fil (J 83) 0 64) 64 q
      rw [hF.wl]
  · refine ep_mk (by decide) (by decide) (d_hour H.hB (s_passHour_no H.hB hc)) (s_mHour_no H.hB ?_) H0
    rw [hF.w1, hF.w2, hF.w3]
    by_cases h1 : I 49 3 = -1
    · exact Or.inl h1
    · right
      have : ¬ h < 20 := fun z => hc ⟨h1, by rw [hF.w3]; exact nI_lt (b := 20) z (by omega)⟩
      obtain rfl : h = 20 := by omega
      rfl
end PairsF
