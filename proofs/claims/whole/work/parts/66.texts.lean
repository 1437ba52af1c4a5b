/-! TEXTS: THE CLASS'S AND THE REFERENCE'S READING -/
theorem ei_pa (P : Int32 → Bool) (f : Nat → Int32) : ∀ d p i, p ≤ i → i < em_pa P f d p → P (f i) = true
  | 0, p, i, h1, h2 => by
    rw [em_pa] at h2
    omega
  | d + 1, p, i, h1, h2 => by
    rw [em_pa] at h2
    by_cases hP : P (f p) = true
    · rw [if_pos hP] at h2
      by_cases e : i = p
      · rw [e]; exact hP
      · exact ei_pa P f d (p + 1) i (by omega) h2
    · rw [if_neg hP] at h2
      omega
theorem ei_digit {x : Int32} (h : em_isD x = true) : ∃ j, j ≤ 9 ∧ x = nI (48 + j) := by
  have h := of_decide_eq_true h
  obtain ⟨k, hk, rfl⟩ := nI_of2 (M := 57) (n := 57) rfl (fun q => absurd (Int32.lt_of_lt_of_le q (show (0 : Int32) ≤ 48 by decide)) (Int32.not_lt.mpr h.1)) h.2
  have : 48 ≤ k := (nI_leI (a := 48) (by omega) (by omega)).mp h.1
  exact ⟨k - 48, by omega, by congr 1; omega⟩
theorem ei_val {f : Nat → Int32} : ∀ d p k, (∀ i, p ≤ i → i < p + d → em_isD (f i) = true) → ∃ r, r < (k + 1) * 10 ^ d ∧ em_val f d p (nI k) = nI r
  | 0, p, k, _ => ⟨k, by omega, rfl⟩
  | d + 1, p, k, h => by
    obtain ⟨j, hj, e⟩ := ei_digit (h p (Nat.le_refl _) (by omega))
    have e2 : nI k * 10 + f p - 48 = nI (10 * k + j) := by
      rw [e, show (10 : Int32) = nI 10 from rfl, pk_mul, nI_add, show (48 : Int32) = nI 48 from rfl, show k * 10 + (48 + j) = 48 + (10 * k + j) by omega, em_nIs]
    obtain ⟨r, hr, er⟩ := ei_val d (p + 1) (10 * k + j) (fun i h1 h2 => h i (by omega) (by omega))
    refine ⟨r, ?_, ?_⟩
    · refine Nat.lt_of_lt_of_le hr ?_
      rw [Nat.pow_succ, Nat.mul_comm (10 ^ d) 10, ← Nat.mul_assoc]
      exact Nat.mul_le_mul_right _ (by omega)
    · rw [em_val, e2, er]
theorem ei_cl1 {f : Nat → Int32} {S p bh s : Nat} {v : Int32} (h : em_cl1 f S p = some (bh, s, v)) : ∃ k, k < 100000 ∧ v = nI k := by
  unfold em_cl1 at h
  split at h
  case isFalse => cases h
  generalize em_fs f S p 6 0 = q at h
  generalize hnb : em_bl f S (p + em_tl.getD q 0) = nb at h
  unfold em_cl2 at h
  split at h
  case isTrue => cases h
  rename_i hne
  split at h
  case isFalse => cases h
  cases h
  have hd : 1 ≤ em_dg f S nb - nb ∧ em_dg f S nb - nb ≤ 5 := Classical.byContradiction (fun z => hne (Or.inr z))
  obtain ⟨r, hr, e⟩ := ei_val (f := f) (em_dg f S nb - nb) nb 0 (fun i h1 h2 => ei_pa em_isD f (S - nb) nb i h1 (by show i < em_dg f S nb; omega))
  refine ⟨r, ?_, e⟩
  refine Nat.lt_of_lt_of_le hr ?_
  rw [Nat.zero_add, Nat.one_mul]
  exact Nat.pow_le_pow_right (by decide) hd.2
theorem ei_and1 (x : Int32) : x &&& 1 = 0 ∨ x &&& 1 = 1 := by
  have e : (x &&& 1).toBitVec = BitVec.setWidth 32 (BitVec.ofBool (x.toBitVec.getLsbD 0)) := BitVec.and_one_eq_setWidth_ofBool_getLsbD
  cases hb : x.toBitVec.getLsbD 0 with
  | false => rw [hb] at e; exact Or.inl (Int32.toBitVec_inj.mp e)
  | true => rw [hb] at e; exact Or.inr (Int32.toBitVec_inj.mp e)
abbrev ei_rel (F : Int32) (N N' : Nat → Int32) : Prop := (∃ x, x < 256 ∧ F = nI x) ∧ ∀ s, s < 5 → N (s + 1) = N' s ∧ (N (s + 1) = -1 ∨ 0 ≤ N (s + 1))
theorem ei_tk {s k : Nat} {F : Int32} {N N' : Nat → Int32} (hs : s < 6) (hk : k < 100000) (hr : ei_rel F N N') : (em_tk s (nI k) F N = none ∧ em_tkM s (nI k) F N' = none) ∨ ∃ F1 N1 N1', em_tk s (nI k) F N = some (F1, N1) ∧ em_tkM s (nI k) F N' = some (F1, N1') ∧ ei_rel F1 N1 N1' := by
  rw [em_tk, em_tkM]
  by_cases h0 : s = 0
  · rw [if_pos h0, if_pos h0]
    by_cases h7 : k ≤ 7
    · have c1 : 0 ≤ nI k ∧ nI k ≤ 7 := ⟨nI_pos' (by omega), nI_le (b := 7) h7 (by omega)⟩
      have c2 : ¬ 7 < nI k := Int32.not_lt.mpr c1.2
      by_cases hb : (F >>> (nI k &&& 31)) &&& 1 = 0
      · right
        have c3 : ¬ (F >>> (nI k &&& 31)) &&& 1 = 1 := fun z => by
          rw [hb] at z
          exact absurd z (by decide)
        refine ⟨F ||| (1 <<< (nI k &&& 31)), N, N', if_pos ⟨c1, hb⟩, if_pos ⟨c2, c3⟩, ?_, hr.2⟩
        · obtain ⟨x, hx, rfl⟩ := hr.1
          obtain ⟨-, -, a, b⟩ := ei_sb_c k (by omega) x hx
          exact ⟨_, a, b⟩
      · left
        refine ⟨if_neg (fun z => hb z.2), if_neg (fun z => z.2 ((ei_and1 _).elim (fun q => absurd q hb) id))⟩
    · left
      refine ⟨if_neg (fun z => ?_), if_neg (fun z => ?_)⟩
      · exact h7 ((nI_leI (b := 7) (by omega) (by omega)).mp z.1.2)
      · exact z.1 (nI_lt (a := 7) (by omega) (by omega))
  · rw [if_neg h0, if_neg h0]
    obtain ⟨s', rfl⟩ : ∃ s', s = s' + 1 := ⟨s - 1, by omega⟩
    obtain ⟨e1, e2⟩ := hr.2 s' (by omega)
    rw [Nat.add_sub_cancel, e1]
    by_cases hn : N' s' = -1
    · right
      refine ⟨F, va_up N (s' + 1) (nI k), va_up N' s' (nI k), if_pos hn, if_pos hn, hr.1, fun q hq => ?_⟩
      by_cases e : q = s'
      · subst e
        rw [va_up_self, va_up_self]
        exact ⟨rfl, Or.inr (nI_pos' (by omega))⟩
      · rw [va_up_ne _ _ e, va_up_ne _ _ (show ¬ q + 1 = s' + 1 by omega)]
        exact hr.2 q hq
    · left
      exact ⟨if_neg hn, if_neg hn⟩
theorem ei_prs {f : Nat → Int32} {S : Nat} : ∀ d d' p F N N', p ≤ S → S - p < d → S - p < d' → ei_rel F N N' → (em_prs f S d p F N).1 = (em_prsM f S d' p F N').1 ∧ ((em_prs f S d p F N).1 = -1 → (em_prs f S d p F N).2.1 = (em_prsM f S d' p F N').2.1 ∧ ei_rel (em_prs f S d p F N).2.1 (em_prs f S d p F N).2.2 (em_prsM f S d' p F N').2.2)
  | 0, _, _, _, _, _, _, h, _, _ => by omega
  | _ + 1, 0, _, _, _, _, _, _, h, _ => by omega
  | d + 1, d' + 1, p, F, N, N', hp, h1, h2, hr => by
    rw [em_prs, em_prsM]
    cases hc : em_cl1 f S p with
    | none => exact ⟨rfl, fun _ => ⟨rfl, hr⟩⟩
    | some q =>
      obtain ⟨bh, s, v⟩ := q
      obtain ⟨k, hk, rfl⟩ := ei_cl1 hc
      obtain ⟨g1, g2, g3⟩ := em_cl1_lt hp hc
      rcases ei_tk g3 hk hr with ⟨t1, t2⟩ | ⟨F1, N1, N1', t1, t2, hr1⟩
      · simp only [t1, t2]
        exact ⟨trivial, fun _ => ⟨trivial, hr⟩⟩
      · simp only [t1, t2]
        by_cases hb : bh = S
        · rw [if_pos hb, if_pos hb]
          exact ⟨rfl, fun _ => ⟨rfl, hr1⟩⟩
        · rw [if_neg hb, if_neg hb]
          have hl := em_bl_le (f := f) (S := S) (p := bh + 1) (by omega)
          exact ei_prs d d' (em_bl f S (bh + 1)) F1 N1 N1' hl.2 (by omega) (by omega) hr1
theorem ei_flt {f : Nat → Int32} {S : Nat} (hS : S ≤ 200) {N N' : Nat → Int32} (h : ∀ s, s < 5 → N (s + 1) = -1 ∧ N' s = -1) : (em_flt f S N).1 = (em_fltM f S N').1 ∧ ((em_flt f S N).1 = -1 → (em_flt f S N).2.1 = (em_fltM f S N').2.1 ∧ ei_rel (em_flt f S N).2.1 (em_flt f S N).2.2 (em_fltM f S N').2.2) := by
  have hr : ei_rel 0 N N' := ⟨⟨0, by omega, rfl⟩, fun s hs => ⟨by rw [(h s hs).1, (h s hs).2], Or.inl (h s hs).1⟩⟩
  rw [em_flt, em_fltM]
  by_cases hb : em_bl f S 0 = S
  · rw [if_pos hb, if_pos hb]
    exact ⟨rfl, fun _ => ⟨rfl, hr⟩⟩
  · rw [if_neg hb, if_neg hb]
    have hl := em_bl_le (f := f) (S := S) (p := 0) (by omega)
    exact ei_prs 201 (S + 1) _ 0 N N' hl.2 (by omega) (by omega) hr
