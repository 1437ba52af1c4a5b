/-! THE ORDER: SETS OF BEGINNINGS AGAINST TRYING -/
theorem eo_hs {s j : Nat} (hj : j < 8) : em_hs (nI s) j ↔ s.testBit j = true := by
  rw [em_hs_b _ hj]
  show (BitVec.ofNat 32 s).getLsbD j = true ↔ _
  rw [BitVec.getLsbD_ofNat]
  have : j < 32 := by omega
  simp [this]
theorem eo_cb : ∀ s, s < 256 → ∀ j, j < 8 → ∀ w, w < 8 → ((em_cb s j).testBit w = (s.testBit w && !decide (w = j))) := by decide +kernel
theorem eo_cb2 : ∀ s, s < 256 → ∀ j, j < 8 → s.testBit j = true → em_cb s j < s ∧ em_pc (em_cb s j) + 1 = em_pc s := by decide +kernel
theorem eo_pc0 : ∀ s, s < 256 → (em_pc s = 0 ↔ s = 0) := by decide +kernel
theorem eo_m1 {j : Nat} (hj : j < 32) : (-1 : Int32).toBitVec.getLsbD j = true := by
  revert j
  exact (by decide +kernel : ∀ j, j < 32 → (-1 : Int32).toBitVec.getLsbD j = true) _
theorem eo_nt (x : Int32) {j : Nat} (hj : j < 8) : em_hs (em_nt x) j ↔ ¬ em_hs x j := by
  rw [em_hs_b _ hj, em_hs_b _ hj]
  show (x.toBitVec ^^^ (-1 : Int32).toBitVec).getLsbD j = true ↔ _
  rw [BitVec.getLsbD_xor, eo_m1 (by omega)]
  simp
theorem eo_and (x y : Int32) {j : Nat} (hj : j < 8) : em_hs (x &&& y) j ↔ em_hs x j ∧ em_hs y j := by
  rw [em_hs_b _ hj, em_hs_b _ hj, em_hs_b _ hj]
  show (x.toBitVec &&& y.toBitVec).getLsbD j = true ↔ _
  rw [BitVec.getLsbD_and]
  simp
theorem eo_meet {X Y : Int32} {x : Nat} (hx : x < 256) (e : X = nI x) : ¬ X &&& em_nt Y = 0 ↔ ∃ j, j < 8 ∧ em_hs X j ∧ ¬ em_hs Y j := by
  rw [Int32.and_comm, ei_meet hx e]
  constructor
  · rintro ⟨j, hj, a, b⟩
    exact ⟨j, hj, b, (eo_nt Y hj).mp a⟩
  · rintro ⟨j, hj, a, b⟩
    exact ⟨j, hj, (eo_nt Y hj).mpr b, a⟩
theorem eo_sub {s f : Nat} (hs : s < 256) (h : ∀ w, w < 8 → s.testBit w = true → f.testBit w = true) : nI s &&& em_nt (nI f) = 0 := by
  refine Classical.byContradiction (fun z => ?_)
  obtain ⟨j, hj, a, b⟩ := (eo_meet hs rfl).mp z
  exact b ((eo_hs hj).mpr (h j hj ((eo_hs hj).mp a)))
theorem eo_bgo (B F : Nat → Int32) {s j : Nat} (hs : s < 256) (hj : j < 8) : ∀ W, W ≤ 8 → (em_hs (em_bgo B F (nI s) W) j ↔ j < W ∧ s.testBit j = true ∧ (em_cb s j = 0 ∨ ¬ B (em_cb s j) &&& em_nt (F j) = 0))
  | 0, _ => by
    constructor
    · exact fun z => absurd z (em_hs_0 hj)
    · exact fun z => by omega
  | w + 1, hw => by
    have ih := eo_bgo B F hs hj w (by omega)
    obtain ⟨e1, e2⟩ := em_cb_ok s hs w (by omega)
    have e0 : nI (em_cb s w) = 0 ↔ em_cb s w = 0 := by
      constructor
      · exact fun z => (nI_eq (b := 0) (by omega) (by omega)).mp z
      · intro z; rw [z]; rfl
    have e3 : (em_hs (nI s) w ∧ (nI (em_cb s w) = 0 ∨ ¬ B (em_cb s w) &&& em_nt (F w) = 0)) ↔ (s.testBit w = true ∧ (em_cb s w = 0 ∨ ¬ B (em_cb s w) &&& em_nt (F w) = 0)) := by rw [e0, eo_hs (show w < 8 by omega)]
    rw [em_bgo, e1, nI_clamp (by omega), ei_if e3]
    by_cases hc : s.testBit w = true ∧ (em_cb s w = 0 ∨ ¬ B (em_cb s w) &&& em_nt (F w) = 0)
    · rw [if_pos hc, em_hs_or _ hj (by omega), ih]
      constructor
      · rintro (z | rfl)
        · exact ⟨by omega, z.2⟩
        · exact ⟨by omega, hc⟩
      · rintro ⟨z1, z2⟩
        by_cases e : j = w
        · exact Or.inr e
        · exact Or.inl ⟨by omega, z2⟩
    · rw [if_neg hc, ih]
      constructor
      · exact fun z => ⟨by omega, z.2⟩
      · rintro ⟨z1, z2⟩
        by_cases e : j = w
        · subst e; exact absurd z2 hc
        · exact ⟨by omega, z2⟩
theorem eo_bgo_r (B F : Nat → Int32) (s : Int32) : ∀ W, W ≤ 8 → ∃ x, x < 256 ∧ em_bgo B F s W = nI x
  | 0, _ => ⟨0, by omega, rfl⟩
  | w + 1, h => by
    obtain ⟨x, hx, e⟩ := eo_bgo_r B F s w (by omega)
    rw [em_bgo]
    split
    · rw [e]
      obtain ⟨-, -, a, b⟩ := ei_sb_c w (by omega) x hx
      exact ⟨_, a, b⟩
    · exact ⟨x, hx, e⟩
theorem eo_bgo_eq {B B' F : Nat → Int32} {s : Nat} (hs : s < 256) (h : ∀ q, q < s → B q = B' q) : ∀ W, W ≤ 8 → em_bgo B F (nI s) W = em_bgo B' F (nI s) W
  | 0, _ => rfl
  | w + 1, hw => by
    rw [em_bgo, em_bgo, eo_bgo_eq hs h w (by omega)]
    obtain ⟨e1, e2⟩ := em_cb_ok s hs w (by omega)
    rw [e1, nI_clamp (by omega)]
    by_cases hb : em_hs (nI s) w
    · have := (eo_cb2 s hs w (by omega) ((eo_hs (by omega)).mp hb)).1
      rw [h _ this]
    · rw [if_neg (fun z => hb z.1), if_neg (fun z => hb z.1)]
theorem eo_fbg_s {B F : Nat → Int32} {f : Int32} {s : Nat} : ∀ k d, s ≤ k → em_fbg B F f (k + d) s = em_fbg B F f k s
  | _, 0, _ => rfl
  | k, d + 1, h => by
    rw [← Nat.add_assoc, em_fbg, va_up_ne _ _ (by omega)]
    exact eo_fbg_s k d h
theorem eo_fbg {B F : Nat → Int32} {f s : Nat} (h1 : 1 ≤ s) (h2 : s < 256) (hf : ∀ w, w < 8 → s.testBit w = true → f.testBit w = true) : em_fbg B F (nI f) 255 s = em_bgo (em_fbg B F (nI f) 255) F (nI s) 8 := by
  obtain ⟨k, rfl⟩ : ∃ k, s = k + 1 := ⟨s - 1, by omega⟩
  have e : em_fbg B F (nI f) 255 (k + 1) = em_fbg B F (nI f) (k + 1) (k + 1) := by
    have := eo_fbg_s (B := B) (F := F) (f := nI f) (s := k + 1) (k + 1) (255 - (k + 1)) (Nat.le_refl _)
    rw [show k + 1 + (255 - (k + 1)) = 255 by omega] at this
    exact this
  rw [e, em_fbg, va_up_self, if_pos (eo_sub h2 hf)]
  refine eo_bgo_eq h2 (fun q hq => ?_) 8 (Nat.le_refl _)
  have := eo_fbg_s (B := B) (F := F) (f := nI f) (s := q) k (255 - k) (by omega)
  rw [show k + (255 - k) = 255 by omega] at this
  exact this.symm
theorem eo_lf {g : Nat → Option (List Nat)} {x : Int32} : ∀ d i, i + d ≤ 8 → (∀ w, w < 8 → (em_hs x w ↔ (g w).isSome = true)) → em_lf g d i = (em_lw1 x d i).bind g
  | 0, _, _, _ => rfl
  | d + 1, i, h, hg => by
    have hi := hg i (by omega)
    rw [em_lf, em_lw1]
    cases e : g i with
    | none =>
      rw [e] at hi
      rw [if_neg (fun z => absurd (hi.mp z) (by simp))]
      exact eo_lf d (i + 1) (by omega) hg
    | some l =>
      rw [e] at hi
      rw [if_pos (hi.mpr rfl)]
      exact e.symm
theorem eo_lw1 {x : Int32} : ∀ d i, i + d ≤ 8 → ((∃ w, em_lw1 x d i = some w ∧ i ≤ w ∧ w < i + d ∧ em_hs x w) ∨ (em_lw1 x d i = none ∧ ∀ w, i ≤ w → w < i + d → ¬ em_hs x w))
  | 0, i, _ => Or.inr ⟨rfl, fun w a b => by omega⟩
  | d + 1, i, h => by
    rw [em_lw1]
    by_cases hx : em_hs x i
    · rw [if_pos hx]
      exact Or.inl ⟨i, rfl, Nat.le_refl _, by omega, hx⟩
    · rw [if_neg hx]
      rcases eo_lw1 (x := x) d (i + 1) (by omega) with ⟨w, a, b, c, e⟩ | ⟨a, b⟩
      · exact Or.inl ⟨w, a, by omega, by omega, e⟩
      · refine Or.inr ⟨a, fun w h1 h2 => ?_⟩
        by_cases e : w = i
        · rw [e]; exact hx
        · exact b w (by omega) (by omega)
def eo_at (o : Option (List Nat)) (i : Nat) : Int32 := match o with
  | none => -1
  | some l => nI (l.getD i 0)
theorem eo_ly {R : Nat → Nat → Bool} {B0 F : Nat → Int32} {f : Nat} (hR : ∀ v w, v < 8 → w < 8 → ¬ v = w → f.testBit v = true → f.testBit w = true → (R v w = true ↔ em_hs (F v) w)) : ∀ c r (p : Nat → Bool) la b, r < 256 → em_pc r = c → (∀ w, w < 8 → (p w = false ↔ r.testBit w = true)) → (∀ w, w < 8 → r.testBit w = true → f.testBit w = true) → (∀ w, w < 8 → r.testBit w = true → (em_bdl R la w = true ↔ em_hs b w)) →
    ((em_ly R c p la).isSome = true ↔ c = 0 ∨ ∃ w, w < 8 ∧ em_hs (em_fbg B0 F (nI f) 255 r) w ∧ ¬ em_hs b w) ∧ ∀ i w0, i < c → em_pbl (em_fbg B0 F (nI f) 255) F (i + 1) r b w0 = eo_at (em_ly R c p la) i
  | 0, _, _, _, _, _, _, _, _, _ => ⟨⟨fun _ => Or.inl rfl, fun _ => rfl⟩, fun i w0 h => by omega⟩
  | c + 1, r, p, la, b, hr, hc, hp, hf, hb => by
    have hr0 : ¬ r = 0 := fun z => by
      have := (eo_pc0 r hr).mpr z
      omega
    have hB : ∀ w, w < 8 → (em_hs (em_fbg B0 F (nI f) 255 r) w ↔ r.testBit w = true ∧ (em_cb r w = 0 ∨ ∃ j, j < 8 ∧ em_hs (em_fbg B0 F (nI f) 255 (em_cb r w)) j ∧ ¬ em_hs (F w) j)) := by
      intro w hw
      rw [eo_fbg (by omega) hr hf, eo_bgo _ _ hr hw 8 (Nat.le_refl _)]
      constructor
      · rintro ⟨-, z1, z2⟩
        refine ⟨z1, ?_⟩
        by_cases h0 : em_cb r w = 0
        · exact Or.inl h0
        · right
          have hlt := (eo_cb2 r hr w hw z1).1
          have sub : ∀ v, v < 8 → (em_cb r w).testBit v = true → f.testBit v = true := fun v hv z => hf v hv (by
            rw [eo_cb r hr w hw v hv, Bool.and_eq_true] at z
            exact z.1)
          have hx : ∃ x, x < 256 ∧ em_fbg B0 F (nI f) 255 (em_cb r w) = nI x := by
            rw [eo_fbg (by omega) (by omega) sub]
            exact eo_bgo_r _ _ _ 8 (Nat.le_refl _)
          obtain ⟨x, hx, e⟩ := hx
          exact (eo_meet hx e).mp (z2.elim (fun z => absurd z h0) id)
      · rintro ⟨z1, z2⟩
        refine ⟨hw, z1, ?_⟩
        by_cases h0 : em_cb r w = 0
        · exact Or.inl h0
        · right
          have hlt := (eo_cb2 r hr w hw z1).1
          have sub : ∀ v, v < 8 → (em_cb r w).testBit v = true → f.testBit v = true := fun v hv z => hf v hv (by
            rw [eo_cb r hr w hw v hv, Bool.and_eq_true] at z
            exact z.1)
          have hx : ∃ x, x < 256 ∧ em_fbg B0 F (nI f) 255 (em_cb r w) = nI x := by
            rw [eo_fbg (by omega) (by omega) sub]
            exact eo_bgo_r _ _ _ 8 (Nat.le_refl _)
          obtain ⟨x, hx, e⟩ := hx
          exact (eo_meet hx e).mpr (z2.elim (fun z => absurd z h0) id)
    have ih : ∀ w, w < 8 → r.testBit w = true → ((em_ly R c (va_up p w true) (some w)).isSome = true ↔ c = 0 ∨ ∃ j, j < 8 ∧ em_hs (em_fbg B0 F (nI f) 255 (em_cb r w)) j ∧ ¬ em_hs (F w) j) ∧ ∀ i w0, i < c → em_pbl (em_fbg B0 F (nI f) 255) F (i + 1) (em_cb r w) (F w) w0 = eo_at (em_ly R c (va_up p w true) (some w)) i := by
      intro w hw hrw
      have hlt := (eo_cb2 r hr w hw hrw)
      refine eo_ly hR c (em_cb r w) (va_up p w true) (some w) (F w) (by omega) (by omega) (fun v hv => ?_) (fun v hv z => ?_) (fun v hv z => ?_)
      · rw [eo_cb r hr w hw v hv, Bool.and_eq_true]
        by_cases e : v = w
        · subst e; rw [va_up_self]; simp
        · rw [va_up_ne _ _ e, hp v hv]; simp [e]
      · rw [eo_cb r hr w hw v hv, Bool.and_eq_true] at z
        exact hf v hv z.1
      · rw [eo_cb r hr w hw v hv, Bool.and_eq_true] at z
        have hne : ¬ w = v := fun e => by
          have := z.2
          rw [e] at this
          simp at this
        exact hR w v hw hv hne (hf w hw hrw) (hf v hv z.1)
    have hg : ∀ w, w < 8 → (em_hs (em_fbg B0 F (nI f) 255 r &&& em_nt b) w ↔ ((fun w => if p w || em_bdl R la w then none else (em_ly R c (va_up p w true) (some w)).map (fun l => w :: l)) w).isSome = true) := by
      intro w hw
      rw [eo_and _ _ hw, eo_nt b hw, hB w hw]
      show _ ↔ (if (p w || em_bdl R la w) = true then none else (em_ly R c (va_up p w true) (some w)).map (fun l => w :: l)).isSome = true
      by_cases hrw : r.testBit w = true
      · have hpw := (hp w hw).mpr hrw
        obtain ⟨i1, -⟩ := ih w hw hrw
        have hc0 : c = 0 ↔ em_cb r w = 0 := by
          have := (eo_cb2 r hr w hw hrw)
          rw [← eo_pc0 (em_cb r w) (by omega)]
          omega
        have hbw := hb w hw hrw
        by_cases hbb : em_hs b w
        · rw [hpw, hbw.mpr hbb, Bool.or_true, if_pos rfl]
          exact ⟨fun z => absurd hbb z.2, fun z => by cases z⟩
        · have : em_bdl R la w = false := by
            cases z : em_bdl R la w with
            | false => rfl
            | true => exact absurd (hbw.mp z) hbb
          rw [hpw, this, if_neg (by simp), Option.isSome_map, i1, hc0]
          exact ⟨fun z => z.1.2, fun z => ⟨⟨hrw, z⟩, hbb⟩⟩
      · have hpw : p w = true := by
          cases z : p w with
          | true => rfl
          | false => exact absurd ((hp w hw).mp z) hrw
        rw [hpw, Bool.true_or, if_pos rfl]
        simp
        exact fun z => absurd z hrw
    have hly : em_ly R (c + 1) p la = (em_lw1 (em_fbg B0 F (nI f) 255 r &&& em_nt b) 8 0).bind (fun w => if p w || em_bdl R la w then none else (em_ly R c (va_up p w true) (some w)).map (fun l => w :: l)) := by
      rw [em_ly]
      exact eo_lf 8 0 (by omega) hg
    rcases eo_lw1 (x := em_fbg B0 F (nI f) 255 r &&& em_nt b) 8 0 (by omega) with ⟨w, e, -, hw, hx⟩ | ⟨e, hno⟩
    · have hw : w < 8 := by omega
      have h1 := hx
      rw [eo_and _ _ hw, eo_nt b hw] at h1
      have hrw := ((hB w hw).mp h1.1).1
      have hsome := (hg w hw).mp hx
      have hcond : ¬ (p w || em_bdl R la w) = true := fun z => by
        rw [show ((fun w => if p w || em_bdl R la w then none else (em_ly R c (va_up p w true) (some w)).map (fun l => w :: l)) w) = none from if_pos z] at hsome
        cases hsome
      have hsome : ((em_ly R c (va_up p w true) (some w)).map (fun l => w :: l)).isSome = true := by
        rw [show ((fun w => if p w || em_bdl R la w then none else (em_ly R c (va_up p w true) (some w)).map (fun l => w :: l)) w) = (em_ly R c (va_up p w true) (some w)).map (fun l => w :: l) from if_neg hcond] at hsome
        exact hsome
      rw [hly, e]
      show ((if (p w || em_bdl R la w) = true then none else (em_ly R c (va_up p w true) (some w)).map (fun l => w :: l)).isSome = true ↔ _) ∧ ∀ i w0, i < c + 1 → _ = eo_at (if (p w || em_bdl R la w) = true then none else (em_ly R c (va_up p w true) (some w)).map (fun l => w :: l)) i
      rw [if_neg hcond]
      refine ⟨⟨fun _ => Or.inr ⟨w, hw, h1.1, h1.2⟩, fun _ => hsome⟩, fun i w0 hi => ?_⟩
      obtain ⟨-, i2⟩ := ih w hw hrw
      rw [em_pbl, e]
      show em_pbl (em_fbg B0 F (nI f) 255) F i (em_cb r w) (F w) (nI w) = _
      cases hl : em_ly R c (va_up p w true) (some w) with
      | none => rw [hl] at hsome; cases hsome
      | some l =>
        cases i with
        | zero => rfl
        | succ i =>
          rw [i2 i (nI w) (by omega), hl]
          rfl
    · rw [hly, e]
      refine ⟨⟨fun z => absurd z (by simp), fun z => ?_⟩, fun i w0 hi => ?_⟩
      · rcases z with z | ⟨w, hw, a, b'⟩
        · omega
        · exact absurd ((eo_and _ _ hw).mpr ⟨a, (eo_nt b hw).mpr b'⟩) (hno w (by omega) (by omega))
      · rw [em_pbl, e]
        rfl
