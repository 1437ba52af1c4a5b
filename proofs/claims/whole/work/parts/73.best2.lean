/-! THE BEST TOUR: THE REFERENCE'S SEARCH. Tours come in the order of their towns, so none that comes later is lower -/
def et_bf (b q : List Nat) : Prop := (b.length < q.length ∧ ∀ i, i < b.length → b.getD i 0 = q.getD i 0) ∨ ∃ i, i < b.length ∧ i < q.length ∧ (∀ j, j < i → b.getD j 0 = q.getD j 0) ∧ b.getD i 0 < q.getD i 0
def et_px (q b : List Nat) : Prop := q.length ≤ b.length ∧ ∀ i, i < q.length → b.getD i 0 = q.getD i 0
theorem et_lo (q : List Nat) (k : Nat) {i : Nat} (h : i < q.length) : (q ++ [k]).getD i 0 = q.getD i 0 := by rw [et_getD, if_pos h]
theorem et_hi (q : List Nat) (k : Nat) : (q ++ [k]).getD q.length 0 = k := by rw [et_getD, if_neg (by omega), if_pos rfl]
theorem et_len (q : List Nat) (k : Nat) : (q ++ [k]).length = q.length + 1 := by simp
theorem et_bf1 {b q : List Nat} (k : Nat) (h : et_bf b q) : et_bf b (q ++ [k]) := by
  rcases h with ⟨h1, h2⟩ | ⟨i, h1, h2, h3, h4⟩
  · exact Or.inl ⟨by rw [et_len]; omega, fun i hi => by rw [et_lo q k (by omega)]; exact h2 i hi⟩
  · exact Or.inr ⟨i, h1, by rw [et_len]; omega, fun j hj => by rw [et_lo q k (by omega)]; exact h3 j hj, by rw [et_lo q k h2]; exact h4⟩
theorem et_bf2 (q : List Nat) (k : Nat) : et_bf q (q ++ [k]) := Or.inl ⟨by rw [et_len]; omega, fun i hi => by rw [et_lo q k hi]⟩
theorem et_bf3 {b q : List Nat} {k k' : Nat} (h : et_px (q ++ [k]) b) (hk : k < k') : et_bf b (q ++ [k']) := by
  obtain ⟨h1, h2⟩ := h
  rw [et_len] at h1
  refine Or.inr ⟨q.length, by omega, by rw [et_len]; omega, fun j hj => ?_, ?_⟩
  · rw [h2 j (by rw [et_len]; omega), et_lo q k hj, et_lo q k' hj]
  · rw [h2 q.length (by rw [et_len]; omega), et_hi, et_hi]
    exact hk
theorem et_px1 {b q : List Nat} {k : Nat} (h : et_px (q ++ [k]) b) : et_px q b := by
  obtain ⟨h1, h2⟩ := h
  rw [et_len] at h1
  exact ⟨by omega, fun i hi => by rw [h2 i (by rw [et_len]; omega), et_lo q k hi]⟩
theorem et_isl {p r : Nat → Int32} {i : Nat} : ∀ e k, k ≤ i → i < k + e → (∀ j, k ≤ j → j < i → p j = r j) → r i < p i → em_isl p r e k = false
  | 0, k, h1, h2, _, _ => by omega
  | e + 1, k, h1, h2, h3, h4 => by
    rw [em_isl]
    by_cases hk : k = i
    · subst hk
      rw [if_neg (fun z => by rw [z] at h4; exact Int32.lt_irrefl h4)]
      exact decide_eq_false (fun z => Int32.lt_irrefl (Int32.lt_trans z h4))
    · rw [if_pos (h3 k (Nat.le_refl _) (by omega))]
      exact et_isl e (k + 1) (by omega) (by omega) (fun j a b => h3 j (by omega) b) h4
section Best2
variable {I : Nat → Nat → Int32} {T : Nat}
theorem et_gon (hT : T ≤ 8) : ∀ (f : Nat) (P : List Nat) (t : Nat) (ar br sn : Int32) (s : em_GS) (σ : Int32 × List Nat), P.length + f ≤ 8 → t < T → ¬ t ∈ P → (∀ i, P.getD i 0 < 8) → (∀ i, σ.2.getD i 0 < 8) → et_is σ s.1 s.2.1 s.2.2.1 → (∀ i, i < P.length → s.2.2.2 i = nI (P.getD i 0)) → (∀ k, k < 8 → (em_hs sn k ↔ k ∈ P ++ [t])) → et_bf σ.2 (P ++ [t]) →
    et_is (et_go (I 71) (I 72) (I 73) (I 74) (I 53 5) (I 53 33) T f P t ar br σ) (em_gon I T f P.length t ar br sn s).1 (em_gon I T f P.length t ar br sn s).2.1 (em_gon I T f P.length t ar br sn s).2.2.1 ∧ (∀ i, i < P.length → (em_gon I T f P.length t ar br sn s).2.2.2 i = nI (P.getD i 0)) ∧ (∀ i, (et_go (I 71) (I 72) (I 73) (I 74) (I 53 5) (I 53 33) T f P t ar br σ).2.getD i 0 < 8) ∧ ((et_go (I 71) (I 72) (I 73) (I 74) (I 53 5) (I 53 33) T f P t ar br σ).2 = σ.2 ∨ et_px (P ++ [t]) (et_go (I 71) (I 72) (I 73) (I 74) (I 53 5) (I 53 33) T f P t ar br σ).2)
  | 0, _, _, _, _, _, _, _, _, _, _, _, h5, h1, h2, _, _ => ⟨h1, h2, h5, Or.inl rfl⟩
  | f + 1, P, t, ar, br, sn, s, σ, hf, ht, hP, hP8, h5, h1, h2, h3, hbf => by
    rw [em_gon, et_go]
    by_cases hl : I 72 t < em_atg I t ar
    · rw [if_pos hl, if_pos hl]
      exact ⟨h1, h2, h5, Or.inl rfl⟩
    rw [if_neg hl, if_neg hl]
    have hlen := et_len P t
    have Q8 : ∀ i, (P ++ [t]).getD i 0 < 8 := by
      intro i
      rw [et_getD]
      split
      · exact hP8 i
      · split <;> omega
    have path : ∀ i, i < (P ++ [t]).length → va_up s.2.2.2 P.length (nI t) i = nI ((P ++ [t]).getD i 0) := by
      intro i hi
      rw [hlen] at hi
      rw [et_getD]
      by_cases e : i = P.length
      · rw [e, va_up_self, if_neg (by omega), if_pos rfl]
      · rw [va_up_ne _ _ e, if_pos (show i < P.length by omega)]
        exact h2 i (by omega)
    generalize hv : et_net (I 71) (I 73) (I 53 5) (I 53 33) t ar br = v
    have hv' : em_net I t ar br = v := hv
    rw [hv']
    have node : et_is (et_up σ v (P ++ [t])) (em_gkp (em_g1s s P.length t) (P.length + 1) v).1 (em_gkp (em_g1s s P.length t) (P.length + 1) v).2.1 (em_gkp (em_g1s s P.length t) (P.length + 1) v).2.2.1 ∧ (em_gkp (em_g1s s P.length t) (P.length + 1) v).2.2.2 = va_up s.2.2.2 P.length (nI t) ∧ (et_up σ v (P ++ [t]) = σ ∨ et_up σ v (P ++ [t]) = (v, P ++ [t])) := by
      obtain ⟨u1, u2, u3, u4⟩ := h1
      have c : em_gbt (em_g1s s P.length t) (P.length + 1) v ↔ (σ.1 < v ∨ (v = σ.1 ∧ (P ++ [t]).length < σ.2.length)) := by
        show s.2.1 < v ∨ (v = s.2.1 ∧ (nI (P.length + 1) < s.1 ∨ (nI (P.length + 1) = s.1 ∧ em_isl (va_up s.2.2.2 P.length (nI t)) s.2.2.1 (P.length + 1) 0 = true))) ↔ _
        rw [u1, u2, hlen]
        constructor
        · rintro (z | ⟨z1, z2 | ⟨z2, z3⟩⟩)
          · exact Or.inl z
          · exact Or.inr ⟨z1, (nI_ltI (by omega) (by omega)).mp z2⟩
          · exfalso
            have el := (nI_eq (by omega) (by omega)).mp z2
            rcases hbf with ⟨y1, -⟩ | ⟨i, y1, y2, y3, y4⟩
            · omega
            · have q := et_isl (p := va_up s.2.2.2 P.length (nI t)) (r := s.2.2.1) (i := i) (P.length + 1) 0 (by omega) (by omega) (fun j _ hj => by rw [path j (by omega), u4 j (by omega), y3 j hj]) (by rw [path i y2, u4 i y1]; exact nI_lt y4 (by have := Q8 i; omega))
              rw [q] at z3
              cases z3
        · rintro (z | ⟨z1, z2⟩)
          · exact Or.inl z
          · exact Or.inr ⟨z1, Or.inl (nI_lt z2 (by omega))⟩
      rw [em_gkp, et_up]
      by_cases hc : em_gbt (em_g1s s P.length t) (P.length + 1) v
      · rw [if_pos hc, if_pos (c.mp hc)]
        refine ⟨⟨by rw [hlen], rfl, by rw [hlen]; omega, fun i hi => ?_⟩, rfl, Or.inr rfl⟩
        have hi : i < (P ++ [t]).length := hi
        show va_cpy (va_up s.2.2.2 P.length (nI t)) _ 0 0 (P.length + 1) i = nI ((P ++ [t]).getD i 0)
        rw [va_cpy, if_pos (by rw [hlen] at hi; omega), show 0 + (i - 0) = i by omega]
        exact path i hi
      · rw [if_neg hc, if_neg (fun z => hc (c.mpr z))]
        exact ⟨⟨u1, u2, u3, u4⟩, rfl, Or.inl rfl⟩
    obtain ⟨k1, k2, k3⟩ := node
    generalize em_gkp (em_g1s s P.length t) (P.length + 1) v = s2 at *
    have bf2 : ∀ k', et_bf (et_up σ v (P ++ [t])).2 (P ++ [t] ++ [k']) := by
      intro k'
      rcases k3 with e | e
      · rw [e]; exact et_bf1 k' hbf
      · rw [e]; exact et_bf2 _ k'
    have px2 : (et_up σ v (P ++ [t])).2 = σ.2 ∨ et_px (P ++ [t]) (et_up σ v (P ++ [t])).2 := by
      rcases k3 with e | e
      · exact Or.inl (by rw [e])
      · right
        rw [e]
        exact ⟨Nat.le_refl _, fun _ _ => rfl⟩
    have b2 : ∀ i, (et_up σ v (P ++ [t])).2.getD i 0 < 8 := by
      rcases k3 with e | e
      · rw [e]; exact h5
      · rw [e]; exact Q8
    generalize et_up σ v (P ++ [t]) = σ2 at *
    have fold := em_fold_rel (g := fun k s => if em_hs sn k then s else em_gon I T f (P.length + 1) k (em_atg I t ar + 1 + I 74 (8 * t + k)) (br + I 73 t) (sn ||| (1 <<< (nI k &&& 31))) s) (g' := fun k s => if k ∈ P ++ [t] then s else et_go (I 71) (I 72) (I 73) (I 74) (I 53 5) (I 53 33) T f (P ++ [t]) k (et_at (I 71) t ar + 1 + I 74 (8 * t + k)) (br + I 73 t) s) (a := s2) (b := σ2) (T := T) (fun k x y => et_is y x.1 x.2.1 x.2.2.1 ∧ (∀ i, i < (P ++ [t]).length → x.2.2.2 i = nI ((P ++ [t]).getD i 0)) ∧ (∀ i, y.2.getD i 0 < 8) ∧ (∀ k', k ≤ k' → et_bf y.2 (P ++ [t] ++ [k'])) ∧ (y.2 = σ.2 ∨ et_px (P ++ [t]) y.2)) ⟨k1, by rw [k2]; exact path, b2, fun k' _ => bf2 k', px2⟩ (fun k hk x y hxy => by
      obtain ⟨y1, y2, y3, y4, y5⟩ := hxy
      by_cases hm : k ∈ P ++ [t]
      · rw [if_pos ((h3 k (by omega)).mpr hm), if_pos hm]
        exact ⟨y1, y2, y3, fun k' hk' => y4 k' (by omega), y5⟩
      · rw [if_neg (fun z => hm ((h3 k (by omega)).mp z)), if_neg hm]
        have ih := et_gon hT f (P ++ [t]) k (em_atg I t ar + 1 + I 74 (8 * t + k)) (br + I 73 t) (sn ||| (1 <<< (nI k &&& 31))) x y (by rw [hlen]; omega) hk hm Q8 y3 y1 y2 (fun q hq => by rw [em_hs_or _ hq (by omega), h3 q hq]; exact (List.mem_append.trans (or_congr Iff.rfl List.mem_singleton)).symm) (y4 k (Nat.le_refl _))
        rw [hlen.symm]
        obtain ⟨w1, w2, w3, w4⟩ := ih
        refine ⟨w1, w2, w3, fun k' hk' => ?_, ?_⟩
        · rcases w4 with e | e
          · have e : (et_go (I 71) (I 72) (I 73) (I 74) (I 53 5) (I 53 33) T f (P ++ [t]) k (et_at (I 71) t ar + 1 + I 74 (8 * t + k)) (br + I 73 t) y).2 = y.2 := e
            rw [e]
            exact y4 k' (by omega)
          · exact et_bf3 e (by omega)
        · rcases w4 with e | e
          · have e : (et_go (I 71) (I 72) (I 73) (I 74) (I 53 5) (I 53 33) T f (P ++ [t]) k (et_at (I 71) t ar + 1 + I 74 (8 * t + k)) (br + I 73 t) y).2 = y.2 := e
            rw [e]
            exact y5
          · exact Or.inr (et_px1 e)) T (Nat.le_refl _)
    obtain ⟨y1, y2, y3, -, y5⟩ := fold
    refine ⟨y1, fun i hi => ?_, y3, y5⟩
    have := y2 i (by rw [hlen]; omega)
    rw [et_lo P t hi] at this
    exact this
end Best2
