/-! THE BEST TOUR: THE CLASS'S SEARCH LEAVES OUT NOTHING THAT COULD BE BETTER -/
theorem em_fold_rel {α β : Type} {g : Nat → α → α} {g' : Nat → β → β} {a : α} {b : β} {T : Nat} (R : Nat → α → β → Prop) (h0 : R 0 a b) (step : ∀ k, k < T → ∀ x y, R k x y → R (k + 1) (g k x) (g' k y)) : ∀ k, k ≤ T → R k (em_fold g k a) (em_fold g' k b)
  | 0, _ => h0
  | k + 1, h => step k (by omega) _ _ (em_fold_rel R h0 step k (by omega))
theorem em_fold_fix {α : Type} {g : Nat → α → α} {a : α} : ∀ T, (∀ k, k < T → g k a = a) → em_fold g T a = a
  | 0, _ => rfl
  | k + 1, h => by rw [em_fold, em_fold_fix k (fun j hj => h j (by omega)), h k (by omega)]
def et_ps (br : Nat → Nat) (q : List Nat) : Nat → Nat
  | 0 => 0
  | k + 1 => et_ps br q k + (if k ∈ q then 0 else br k)
def et_pc (br : Nat → Nat) (q : List Nat) : Nat → Nat
  | 0 => 0
  | k + 1 => et_pc br q k + (if k ∈ q ∨ br k = 0 then 0 else 1)
theorem et_ps_s (br : Nat → Nat) (q : List Nat) {t : Nat} (ht : ¬ t ∈ q) : ∀ T, et_ps br (q ++ [t]) T + (if t < T then br t else 0) = et_ps br q T
  | 0 => by rw [if_neg (by omega)]; rfl
  | k + 1 => by
    have ih := et_ps_s br q ht k
    rw [et_ps, et_ps]
    by_cases e : k = t
    · subst e
      rw [if_neg (by omega)] at ih
      rw [if_pos (by simp), if_pos (by omega), if_neg ht]
      omega
    · have m : k ∈ q ++ [t] ↔ k ∈ q := by simp [e]
      have e2 : (if t < k + 1 then br t else 0) = if t < k then br t else 0 := by
        by_cases h : t < k
        · rw [if_pos h, if_pos (by omega)]
        · rw [if_neg h, if_neg (by omega)]
      rw [e2, ei_if m]
      omega
theorem et_pc_s (br : Nat → Nat) (q : List Nat) {t : Nat} (ht : ¬ t ∈ q) : ∀ T, et_pc br (q ++ [t]) T + (if t < T ∧ ¬ br t = 0 then 1 else 0) = et_pc br q T
  | 0 => by rw [if_neg (by omega)]; rfl
  | k + 1 => by
    have ih := et_pc_s br q ht k
    rw [et_pc, et_pc]
    by_cases e : k = t
    · subst e
      rw [if_neg (by omega)] at ih
      rw [if_pos (show k ∈ q ++ [k] ∨ br k = 0 from Or.inl (by simp))]
      by_cases h0 : br k = 0
      · rw [if_neg (fun z => z.2 h0), if_pos (Or.inr h0)]
        omega
      · rw [if_pos ⟨by omega, h0⟩, if_neg (fun z => z.elim ht h0)]
        omega
    · have m : (k ∈ q ++ [t] ∨ br k = 0) ↔ (k ∈ q ∨ br k = 0) := by simp [e]
      have m2 : (t < k + 1 ∧ ¬ br t = 0) ↔ (t < k ∧ ¬ br t = 0) := by
        constructor
        · exact fun z => ⟨by omega, z.2⟩
        · exact fun z => ⟨by omega, z.2⟩
      rw [ei_if m, ei_if m2]
      omega
theorem et_ps_0 (br : Nat → Nat) (q : List Nat) : ∀ T, et_ps br q T = 0 → et_pc br q T = 0
  | 0, _ => rfl
  | k + 1, h => by
    rw [et_ps] at h
    rw [et_pc, et_ps_0 br q k (by omega)]
    by_cases hk : k ∈ q
    · rw [if_pos (Or.inl hk)]
    · rw [if_neg hk] at h
      rw [if_pos (Or.inr (by omega))]
theorem et_ps_le (br : Nat → Nat) (q : List Nat) : ∀ T, (∀ j, j < T → br j ≤ 10000) → et_ps br q T ≤ 10000 * T
  | 0, _ => Nat.le_refl _
  | k + 1, h => by
    have ih := et_ps_le br q k (fun j hj => h j (by omega))
    have := h k (by omega)
    rw [et_ps]
    split <;> omega
theorem et_pc_le (br : Nat → Nat) (q : List Nat) : ∀ T, et_pc br q T ≤ T
  | 0 => Nat.le_refl _
  | k + 1 => by
    have ih := et_pc_le br q k
    rw [et_pc]
    split <;> omega
def et_E (fst lst brg wys : Nat → Int32) (fo : Int32) (T : Nat) (fn ln bn wn : Nat → Nat) (fN : Nat) : Prop := (∀ j, j < T → fst j = nI (fn j) ∧ lst j = nI (ln j) ∧ brg j = nI (bn j) ∧ fn j ≤ ln j ∧ ln j ≤ 1000 ∧ bn j ≤ 10000) ∧ (∀ j, j < 64 → wys j = nI (wn j) ∧ wn j ≤ 60) ∧ (fo = nI fN ∧ fN ≤ 1000) ∧ (T ≤ 8)
theorem et_E.h1 {fst lst brg wys : Nat → Int32} {fo : Int32} {T : Nat} {fn ln bn wn : Nat → Nat} {fN : Nat} (h0_ : et_E fst lst brg wys fo T fn ln bn wn fN) : ∀ j, j < T → fst j = nI (fn j) ∧ lst j = nI (ln j) ∧ brg j = nI (bn j) ∧ fn j ≤ ln j ∧ ln j ≤ 1000 ∧ bn j ≤ 10000 := h0_.1
theorem et_E.h2 {fst lst brg wys : Nat → Int32} {fo : Int32} {T : Nat} {fn ln bn wn : Nat → Nat} {fN : Nat} (h0_ : et_E fst lst brg wys fo T fn ln bn wn fN) : ∀ j, j < 64 → wys j = nI (wn j) ∧ wn j ≤ 60 := h0_.2.1
theorem et_E.h3 {fst lst brg wys : Nat → Int32} {fo : Int32} {T : Nat} {fn ln bn wn : Nat → Nat} {fN : Nat} (h0_ : et_E fst lst brg wys fo T fn ln bn wn fN) : fo = nI fN ∧ fN ≤ 1000 := h0_.2.2.1
theorem et_E.h8 {fst lst brg wys : Nat → Int32} {fo : Int32} {T : Nat} {fn ln bn wn : Nat → Nat} {fN : Nat} (h0_ : et_E fst lst brg wys fo T fn ln bn wn fN) : T ≤ 8 := h0_.2.2.2
theorem et_E.mk {fst lst brg wys : Nat → Int32} {fo : Int32} {T : Nat} {fn ln bn wn : Nat → Nat} {fN : Nat} (h1 : ∀ j, j < T → fst j = nI (fn j) ∧ lst j = nI (ln j) ∧ brg j = nI (bn j) ∧ fn j ≤ ln j ∧ ln j ≤ 1000 ∧ bn j ≤ 10000) (h2 : ∀ j, j < 64 → wys j = nI (wn j) ∧ wn j ≤ 60) (h3 : fo = nI fN ∧ fN ≤ 1000) (h8 : T ≤ 8) : et_E fst lst brg wys fo T fn ln bn wn fN := ⟨h1, h2, h3, h8⟩
section Best
variable {fst lst brg wys : Nat → Int32} {fo : Int32} {T : Nat} {fn ln bn wn : Nat → Nat} {fN D : Nat}
theorem et_atN (E : et_E fst lst brg wys fo T fn ln bn wn fN) {t a : Nat} (ht : t < T) (ha : a ≤ 1061) : et_at fst t (nI a) = nI (max a (fn t)) := by
  obtain ⟨e1, e2, e3, l1, l2, l3⟩ := E.h1 t ht
  show (if nI a < fst t then fst t else nI a) = _
  rw [e1]
  by_cases h : a < fn t
  · rw [if_pos (nI_lt h (by omega)), Nat.max_eq_right (by omega)]
  · rw [if_neg (nI_nlt (by omega) (by omega)), Nat.max_eq_left (by omega)]
theorem et_late (E : et_E fst lst brg wys fo T fn ln bn wn fN) {t a : Nat} (ht : t < T) (ha : a ≤ 1061) : lst t < et_at fst t (nI a) ↔ ln t < max a (fn t) := by
  obtain ⟨e1, e2, e3, l1, l2, l3⟩ := E.h1 t ht
  rw [et_atN E ht ha, e2]
  exact nI_ltI (by omega) (by omega)
theorem et_toI {x y : Nat} (hx : x ≤ 1000000000) (hy : y ≤ 1000000000) : (nI x - nI y).toInt = (x : Int) - (y : Int) := by
  have e : nI x - nI y = Int32.ofInt ((x : Int) - (y : Int)) := by
    rw [Int32.ofInt_sub]
    rfl
  rw [e, Int32.toInt_ofInt_of_le (by omega) (by omega)]
theorem et_netN (E : et_E fst lst brg wys fo T fn ln bn wn fN) {t a b : Nat} (ht : t < T) (ha : D ≤ a) (hl : max a (fn t) ≤ 1000) (hb : b ≤ 80000) : et_net fst brg fo (nI D) t (nI a) (nI b) = nI (b + bn t) - nI (fN * (max a (fn t) + 1 - D)) ∧ fN * (max a (fn t) + 1 - D) ≤ 1001000 := by
  obtain ⟨e1, e2, e3, l1, l2, l3⟩ := E.h1 t ht
  obtain ⟨f1, f2⟩ := E.h3
  refine ⟨?_, ?_⟩
  · show nI b + brg t - fo * (et_at fst t (nI a) + 1 - nI D) = _
    rw [et_atN E ht (by omega), e3, f1, nI_add, nI_1]
    obtain ⟨L, hL⟩ : ∃ L, max a (fn t) + 1 = D + L := ⟨max a (fn t) + 1 - D, by omega⟩
    rw [hL, em_nIs, pk_mul, Nat.add_sub_cancel_left]
  · calc fN * (max a (fn t) + 1 - D) ≤ 1000 * 1001 := Nat.mul_le_mul f2 (by omega)
      _ = 1001000 := rfl
/-- a tour that can't get better by going on -/
abbrev et_st (bn : Nat → Nat) (T : Nat) (q : List Nat) (b C : Nat) (s : Int32 × List Nat) : Prop := (b : Int) - (C : Int) + (et_ps bn q T : Int) < s.1.toInt ∨ ((b : Int) - (C : Int) + (et_ps bn q T : Int) = s.1.toInt ∧ s.2.length ≤ q.length + et_pc bn q T)
theorem et_nb (E : et_E fst lst brg wys fo T fn ln bn wn fN) : ∀ (f : Nat) (q : List Nat) (t a b C : Nat) (s : Int32 × List Nat), t < T → ¬ t ∈ q → D ≤ a → a ≤ 1061 → b ≤ 10000 * q.length → q.length + f ≤ 8 → C ≤ fN * (a - D) → et_st bn T q b C s → et_go fst lst brg wys fo (nI D) T f q t (nI a) (nI b) s = s
  | 0, _, _, _, _, _, _, _, _, _, _, _, _, _, _ => rfl
  | f + 1, q, t, a, b, C, s, ht, hq, hD, ha, hb, hf, hC, hs => by
    obtain ⟨e1, e2, e3, l1, l2, l3⟩ := E.h1 t ht
    have h8 := E.h8
    rw [et_go]
    by_cases hl : lst t < et_at fst t (nI a)
    · rw [if_pos hl]
    · rw [if_neg hl]
      have hl : ¬ ln t < max a (fn t) := fun z => hl ((et_late E ht ha).mpr z)
      have hA : max a (fn t) ≤ 1000 := by omega
      obtain ⟨en, hn⟩ := et_netN (D := D) E ht hD hA (show b ≤ 80000 by omega)
      have hC' : C ≤ fN * (max a (fn t) + 1 - D) := Nat.le_trans hC (Nat.mul_le_mul_left _ (by omega))
      have ps := et_ps_s bn q hq T
      have pc := et_pc_s bn q hq T
      rw [if_pos ht] at ps
      have hlen : (q ++ [t]).length = q.length + 1 := by simp
      have ev : (nI (b + bn t) - nI (fN * (max a (fn t) + 1 - D))).toInt = ((b + bn t : Nat) : Int) - ((fN * (max a (fn t) + 1 - D) : Nat) : Int) := et_toI (by omega) (by omega)
      have et := et_atN E ht ha
      have zero := et_ps_0 bn (q ++ [t]) T
      generalize hCC : fN * (max a (fn t) + 1 - D) = C' at *
      have st' : et_st bn T (q ++ [t]) (b + bn t) C' s := by
        show _ ∨ _
        rw [hlen]
        by_cases hz : bn t = 0
        · rw [if_neg (fun z => z.2 hz)] at pc
          omega
        · rw [if_pos ⟨ht, hz⟩] at pc
          omega
      have hup : et_up s (et_net fst brg fo (nI D) t (nI a) (nI b)) (q ++ [t]) = s := by
        rw [et_up, en, if_neg]
        rintro (z | ⟨z1, z2⟩)
        · have z := Int32.lt_iff_toInt_lt.mp z
          rw [ev] at z
          omega
        · have z1 : (nI (b + bn t) - nI C').toInt = s.1.toInt := by rw [z1]
          rw [ev] at z1
          rw [hlen] at z2
          have st2 := st'
          unfold et_st at st2
          rw [hlen] at st2
          by_cases hp : et_ps bn (q ++ [t]) T = 0
          · have z0 := zero hp
            omega
          · omega
      rw [hup]
      refine em_fold_fix T (fun k hk => ?_)
      by_cases hm : k ∈ q ++ [t]
      · rw [if_pos hm]
      · rw [if_neg hm, et, e3, nI_add, nI_1]
        obtain ⟨w1, w2⟩ := E.h2 (8 * t + k) (by omega)
        rw [w1, nI_add]
        refine et_nb E f (q ++ [t]) k (max a (fn t) + 1 + wn (8 * t + k)) (b + bn t) C' s hk hm (by omega) (by omega) (by omega) (by omega) ?_ st'
        rw [← hCC]
        exact Nat.mul_le_mul_left _ (by omega)
/-! the class's search and the document's -/
theorem et_mg {I : Nat → Nat → Int32} (E : et_E fst lst (I 24) wys fo T fn ln bn wn fN) {sn : Int32} {q : List Nat} {c : Nat} {v : Int32} (hq : ∀ k, k < 8 → (em_hs sn k ↔ k ∈ q)) : ∀ j, j ≤ T → em_mg I sn (nI c) v j = (nI (c + et_pc bn q j), v + nI (et_ps bn q j))
  | 0, _ => by
    rw [em_mg, et_pc, et_ps]
    show _ = (nI c, v + 0)
    rw [Int32.add_zero]
  | k + 1, h => by
    have h8 := E.h8
    obtain ⟨e1, e2, e3, l1, l2, l3⟩ := E.h1 k (by omega)
    have ih := et_mg E (c := c) (v := v) hq k (by omega)
    have hk := hq k (by omega)
    have z : I 24 k ≤ 0 ↔ bn k = 0 := by
      rw [e3]
      constructor
      · intro z
        have := (nI_leI (b := 0) (by omega) (by omega)).mp z
        omega
      · intro z
        rw [z]
        decide
    rw [em_mg, ih, et_pc, et_ps]
    by_cases hm : k ∈ q
    · rw [if_pos (Or.inl (hk.mpr hm)), if_pos (Or.inl hm), if_pos hm]
      rfl
    · rw [if_neg hm]
      by_cases h0 : bn k = 0
      · rw [if_pos (Or.inr (z.mpr h0)), if_pos (Or.inr h0), h0]
        rfl
      · rw [if_neg (fun y => y.elim (fun y => hm (hk.mp y)) (fun y => h0 (z.mp y))), if_neg (fun y => y.elim hm h0), e3]
        show (nI (c + et_pc bn q k) + 1, v + nI (et_ps bn q k) + nI (bn k)) = _
        rw [nI_1, Int32.add_assoc, nI_add]
        rfl
theorem et_getD (P : List Nat) (t i : Nat) : (P ++ [t]).getD i 0 = if i < P.length then P.getD i 0 else if i = P.length then t else 0 := by
  by_cases h : i < P.length
  · rw [if_pos h]
    simp [List.getD_eq_getElem?_getD, List.getElem?_append_left h]
  · rw [if_neg h]
    by_cases e : i = P.length
    · rw [if_pos e]
      simp [List.getD_eq_getElem?_getD, e]
    · rw [if_neg e]
      simp [List.getD_eq_getElem?_getD, List.getElem?_eq_none (show (P ++ [t]).length ≤ i by simp; omega)]
theorem et_vis {I : Nat → Nat → Int32} (E : et_E (I 22) (I 23) (I 24) (I 25) (I 21 5) T fn ln bn wn fN) (h7 : I 21 7 = nI D) : ∀ (f : Nat) (P : List Nat) (t a b : Nat) (s : em_FS) (σ : Int32 × List Nat), P.length + f = 8 → t < T → ¬ t ∈ P → D ≤ a → a ≤ 1061 → b ≤ 10000 * P.length → et_is σ s.1 s.2.1 s.2.2.2.1 → (∀ i, i < P.length → s.2.2.2.2 i = nI (P.getD i 0)) → (∀ k, k < 8 → (em_hs s.2.2.1 k ↔ k ∈ P)) →
    et_is (et_go (I 22) (I 23) (I 24) (I 25) (I 21 5) (nI D) T f P t (nI a) (nI b) σ) (em_vis I T f P.length t (nI a) (nI b) s).1 (em_vis I T f P.length t (nI a) (nI b) s).2.1 (em_vis I T f P.length t (nI a) (nI b) s).2.2.2.1 ∧ (∀ i, i < P.length → (em_vis I T f P.length t (nI a) (nI b) s).2.2.2.2 i = nI (P.getD i 0)) ∧ ∀ k, k < 8 → (em_hs (em_vis I T f P.length t (nI a) (nI b) s).2.2.1 k ↔ k ∈ P)
  | 0, _, _, _, _, _, _, _, _, _, _, _, _, h1, h2, h3 => ⟨h1, h2, h3⟩
  | f + 1, P, t, a, b, s, σ, hf, ht, hP, hD, ha, hb, h1, h2, h3 => by
    have h8 := E.h8
    obtain ⟨e1, e2, e3, l1, l2, l3⟩ := E.h1 t ht
    rw [em_vis, et_go]
    have late : I 23 t < nI a ↔ I 23 t < et_at (I 22) t (nI a) := by
      rw [et_late E ht ha, e2]
      refine Iff.trans (nI_ltI (by omega) (by omega)) ?_
      omega
    by_cases hl : I 23 t < nI a
    · rw [if_pos hl, if_pos (late.mp hl)]
      exact ⟨h1, h2, h3⟩
    rw [if_neg hl, if_neg (fun z => hl (late.mpr z))]
    have hl : ¬ ln t < max a (fn t) := fun z => hl (late.mpr ((et_late E ht ha).mpr z))
    have hA : max a (fn t) ≤ 1000 := by omega
    obtain ⟨en, hn⟩ := et_netN (D := D) E ht hD hA (show b ≤ 80000 by omega)
    have ev : em_vlg I t (nI a) (nI b) = et_net (I 22) (I 24) (I 21 5) (nI D) t (nI a) (nI b) := by
      show nI b + I 24 t - I 21 5 * (em_lvg I t (nI a) - I 21 7) = _
      rw [h7]
    have elv : em_lvg I t (nI a) = nI (max a (fn t) + 1) := by
      show et_at (I 22) t (nI a) + 1 = _
      rw [et_atN E ht ha, nI_1]
    have eat : et_at (I 22) t (nI a) + 1 = nI (max a (fn t) + 1) := elv
    have evI : (nI (b + bn t) - nI (fN * (max a (fn t) + 1 - D))).toInt = ((b + bn t : Nat) : Int) - ((fN * (max a (fn t) + 1 - D) : Nat) : Int) := et_toI (by omega) (by omega)
    rw [ev, elv, eat, e3, nI_add]
    generalize hv : et_net (I 22) (I 24) (I 21 5) (nI D) t (nI a) (nI b) = v at *
    have hlen : (P ++ [t]).length = P.length + 1 := by simp
    have t8 : t < 8 := by omega
    -- the node itself
    have k1 : et_is (et_up σ v (P ++ [t])) (em_kp (em_s1 s P.length t) P.length v).1 (em_kp (em_s1 s P.length t) P.length v).2.1 (em_kp (em_s1 s P.length t) P.length v).2.2.2.1 ∧ (em_kp (em_s1 s P.length t) P.length v).2.2.1 = s.2.2.1 ||| (1 <<< (nI t &&& 31)) ∧ (em_kp (em_s1 s P.length t) P.length v).2.2.2.2 = va_up s.2.2.2.2 P.length (nI t) := by
      obtain ⟨u1, u2, u3, u4⟩ := h1
      have c : em_btr (em_s1 s P.length t) (nI (P.length + 1)) v ↔ (σ.1 < v ∨ (v = σ.1 ∧ (P ++ [t]).length < σ.2.length)) := by
        show s.2.1 < v ∨ (v = s.2.1 ∧ nI (P.length + 1) < s.1) ↔ _
        rw [u1, u2, hlen, nI_ltI (by omega) (by omega)]
      rw [em_kp, et_up]
      by_cases hc : em_btr (em_s1 s P.length t) (nI (P.length + 1)) v
      · rw [if_pos hc, if_pos (c.mp hc)]
        refine ⟨⟨by rw [hlen], rfl, by rw [hlen]; omega, fun i hi => ?_⟩, rfl, rfl⟩
        have hi : i < (P ++ [t]).length := hi
        rw [hlen] at hi
        show va_cpy (va_up s.2.2.2.2 P.length (nI t)) _ 0 0 (P.length + 1) i = nI ((P ++ [t]).getD i 0)
        rw [va_cpy, if_pos (by omega), show 0 + (i - 0) = i by omega, et_getD]
        by_cases e : i = P.length
        · rw [e, va_up_self, if_neg (by omega), if_pos rfl]
        · rw [va_up_ne _ _ e, if_pos (show i < P.length by omega)]
          exact h2 i (by omega)
      · rw [if_neg hc, if_neg (fun z => hc (c.mpr z))]
        exact ⟨⟨u1, u2, u3, u4⟩, rfl, rfl⟩
    obtain ⟨k1, k2, k3⟩ := k1
    generalize em_kp (em_s1 s P.length t) P.length v = s2 at *
    generalize et_up σ v (P ++ [t]) = σ2 at *
    have seen2 : ∀ k, k < 8 → (em_hs s2.2.2.1 k ↔ k ∈ P ++ [t]) := by
      intro k hk
      rw [k2, em_hs_or _ hk t8, h3 k hk]
      simp
    have path2 : ∀ i, i < (P ++ [t]).length → s2.2.2.2.2 i = nI ((P ++ [t]).getD i 0) := by
      intro i hi
      rw [hlen] at hi
      rw [k3, et_getD]
      by_cases e : i = P.length
      · rw [e, va_up_self, if_neg (by omega), if_pos rfl]
      · rw [va_up_ne _ _ e, if_pos (show i < P.length by omega)]
        exact h2 i (by omega)
    have last : ∀ (s3 : em_FS) (σ3 : Int32 × List Nat), et_is σ3 s3.1 s3.2.1 s3.2.2.2.1 → (∀ i, i < (P ++ [t]).length → s3.2.2.2.2 i = nI ((P ++ [t]).getD i 0)) → (∀ k, k < 8 → (em_hs s3.2.2.1 k ↔ k ∈ P ++ [t])) → et_is σ3 (em_s9 s3 t).1 (em_s9 s3 t).2.1 (em_s9 s3 t).2.2.2.1 ∧ (∀ i, i < P.length → (em_s9 s3 t).2.2.2.2 i = nI (P.getD i 0)) ∧ ∀ k, k < 8 → (em_hs (em_s9 s3 t).2.2.1 k ↔ k ∈ P) := by
      intro s3 σ3 y1 y2 y3
      refine ⟨y1, fun i hi => ?_, fun k hk => ?_⟩
      · show s3.2.2.2.2 i = _
        rw [y2 i (by omega), et_getD, if_pos hi]
      · show em_hs (s3.2.2.1 &&& ((1 <<< (nI t &&& 31)) ^^^ (-1))) k ↔ _
        rw [ei_hs_off _ hk t8, y3 k hk]
        constructor
        · rintro ⟨z1, z2⟩
          simp at z1
          exact z1.elim id (fun z => absurd z z2)
        · intro z
          exact ⟨by simp [z], fun e => hP (e ▸ z)⟩
    rw [et_mg E (c := P.length + 1) (v := v) seen2 T (Nat.le_refl _)]
    have pcl := et_pc_le bn (P ++ [t]) T
    have psl := et_ps_le bn (P ++ [t]) T (fun j hj => (E.h1 j hj).2.2.2.2.2)
    by_cases hg : em_btr s2 (nI (P.length + 1 + et_pc bn (P ++ [t]) T), v + nI (et_ps bn (P ++ [t]) T)).1 (nI (P.length + 1 + et_pc bn (P ++ [t]) T), v + nI (et_ps bn (P ++ [t]) T)).2
    · rw [if_pos hg]
      have fold := em_fold_rel (g := fun k s => if em_hs s.2.2.1 k then s else em_vis I T f (P.length + 1) k (nI (max a (fn t) + 1) + I 25 (8 * t + k)) (nI (b + bn t)) s) (g' := fun k s => if k ∈ P ++ [t] then s else et_go (I 22) (I 23) (I 24) (I 25) (I 21 5) (nI D) T f (P ++ [t]) k (nI (max a (fn t) + 1) + I 25 (8 * t + k)) (nI (b + bn t)) s) (a := s2) (b := σ2) (T := T) (fun _ x y => et_is y x.1 x.2.1 x.2.2.2.1 ∧ (∀ i, i < (P ++ [t]).length → x.2.2.2.2 i = nI ((P ++ [t]).getD i 0)) ∧ ∀ k, k < 8 → (em_hs x.2.2.1 k ↔ k ∈ P ++ [t])) ⟨k1, path2, seen2⟩ (fun k hk x y hxy => by
        obtain ⟨y1, y2, y3⟩ := hxy
        by_cases hm : k ∈ P ++ [t]
        · rw [if_pos ((y3 k (by omega)).mpr hm), if_pos hm]
          exact ⟨y1, y2, y3⟩
        · rw [if_neg (fun z => hm ((y3 k (by omega)).mp z)), if_neg hm]
          obtain ⟨w1, w2⟩ := E.h2 (8 * t + k) (by omega)
          rw [w1, nI_add]
          have ih := et_vis E h7 f (P ++ [t]) k (max a (fn t) + 1 + wn (8 * t + k)) (b + bn t) x y (by omega) hk hm (by omega) (by omega) (by omega) y1 y2 y3
          rw [hlen.symm]
          exact ih) T (Nat.le_refl _)
      obtain ⟨y1, y2, y3⟩ := fold
      exact last _ _ y1 y2 y3
    · rw [if_neg hg]
      have stuck : et_st bn T (P ++ [t]) (b + bn t) (fN * (max a (fn t) + 1 - D)) σ2 := by
        obtain ⟨u1, u2, u3, u4⟩ := k1
        show _ ∨ _
        have hvt : v.toInt = ((b + bn t : Nat) : Int) - ((fN * (max a (fn t) + 1 - D) : Nat) : Int) := by rw [en, evI]
        have hmo : (v + nI (et_ps bn (P ++ [t]) T)).toInt = v.toInt + (et_ps bn (P ++ [t]) T : Int) := by
          rw [Int32.toInt_add, nI_toInt (by omega)]
          refine Int.bmod_eq_of_le (by omega) (by omega)
        have n1 : ¬ σ2.1 < v + nI (et_ps bn (P ++ [t]) T) := fun z => hg (Or.inl (by rw [u2]; exact z))
        have n1 : ¬ σ2.1.toInt < (v + nI (et_ps bn (P ++ [t]) T)).toInt := fun z => n1 (Int32.lt_iff_toInt_lt.mpr z)
        rw [hmo, hvt] at n1
        by_cases he : v + nI (et_ps bn (P ++ [t]) T) = σ2.1
        · right
          refine ⟨by rw [← he, hmo, hvt], ?_⟩
          have n2 : ¬ nI (P.length + 1 + et_pc bn (P ++ [t]) T) < s2.1 := fun z => hg (Or.inr ⟨by rw [u2]; exact he, z⟩)
          rw [u1] at n2
          have n4 : ¬ P.length + 1 + et_pc bn (P ++ [t]) T < σ2.2.length := fun z => n2 (nI_lt z (by omega))
          rw [hlen]
          omega
        · left
          have n3 : ¬ (v + nI (et_ps bn (P ++ [t]) T)).toInt = σ2.1.toInt := fun z => he (Int32.toInt_inj.mp z)
          rw [hmo, hvt] at n3
          omega
      have hfix : em_fold (fun k s => if k ∈ P ++ [t] then s else et_go (I 22) (I 23) (I 24) (I 25) (I 21 5) (nI D) T f (P ++ [t]) k (nI (max a (fn t) + 1) + I 25 (8 * t + k)) (nI (b + bn t)) s) T σ2 = σ2 := by
        refine em_fold_fix T (fun k hk => ?_)
        by_cases hm : k ∈ P ++ [t]
        · rw [if_pos hm]
        · rw [if_neg hm]
          obtain ⟨w1, w2⟩ := E.h2 (8 * t + k) (by omega)
          rw [w1, nI_add]
          exact et_nb E f (P ++ [t]) k (max a (fn t) + 1 + wn (8 * t + k)) (b + bn t) (fN * (max a (fn t) + 1 - D)) σ2 hk hm (by omega) (by omega) (by omega) (by omega) (Nat.mul_le_mul_left _ (by omega)) stuck
      rw [hfix]
      exact last s2 σ2 k1 path2 seen2
end Best
