/-! THE ABSTRACT MACHINE. A context: the launch; where the heap ended at the law's entry, and that heap; the classes' numbers; the array classes; outside addresses (0: the script, 1 .. 6: the six words, 7 .. 12: their bytes); the script. -/
abbrev em_Cx : Type := Launch × (Nat × Heap) × va_G × (ClassId × ClassId × ClassId × ClassId) × (Nat → Nat) × (Nat × (Nat → Int32))
abbrev em_l (Γ : em_Cx) : Launch := Γ.1
abbrev em_z (Γ : em_Cx) : Nat := Γ.2.1.1
abbrev em_h (Γ : em_Cx) : Heap := Γ.2.1.2
abbrev em_D (Γ : em_Cx) : va_G := Γ.2.2.1
abbrev em_cI (Γ : em_Cx) : ClassId := Γ.2.2.2.1.1
abbrev em_cJ (Γ : em_Cx) : ClassId := Γ.2.2.2.1.2.1
abbrev em_cZ (Γ : em_Cx) : ClassId := Γ.2.2.2.1.2.2.1
abbrev em_cL (Γ : em_Cx) : ClassId := Γ.2.2.2.1.2.2.2
abbrev em_x (Γ : em_Cx) : Nat → Nat := Γ.2.2.2.2.1
abbrev em_L (Γ : em_Cx) : Nat := Γ.2.2.2.2.2.1
abbrev em_s (Γ : em_Cx) : Nat → Int32 := Γ.2.2.2.2.2.2
/-- a heap: how many cells and slots; lengths of the grown arrays; ints, longs and references by cell and place -/
abbrev em_Hp : Type := (Nat × Nat) × (Nat → Nat) × (Nat → Nat → Int32) × (Nat → Nat → Int64) × (Nat → Nat → Option Nat)
abbrev em_n (hp : em_Hp) : Nat := hp.1.1
abbrev em_m (hp : em_Hp) : Nat := hp.1.2
abbrev em_d (hp : em_Hp) : Nat → Nat := hp.2.1
abbrev em_I (hp : em_Hp) : Nat → Nat → Int32 := hp.2.2.1
abbrev em_J (hp : em_Hp) : Nat → Nat → Int64 := hp.2.2.2.1
abbrev em_R (hp : em_Hp) : Nat → Nat → Option Nat := hp.2.2.2.2
/-- an abstract value's value: a reference counts from the heap's end at the law's entry; .float i is the outside address i -/
def em_v (Γ : em_Cx) : Value → Value
  | .ref r => .ref (em_z Γ + r)
  | .float u => .ref (em_x Γ u.toNat)
  | v => v
theorem em_v_cat (Γ : em_Cx) (v : Value) : (em_v Γ v).category = v.category := by cases v <;> rfl
def em_rf : Option Nat → Value
  | none => .null
  | some r => .ref r
def em_ln (hp : em_Hp) (k : Nat) : Nat := bif Nat.blt k 85 then em_lS k else em_d hp k
def em_fv (hp : em_Hp) (c k j : Nat) : Value := match em_ty c j with
  | .int => .int (em_I hp k j)
  | _ => em_rf (em_R hp k j)
/-- cell k, as the heap has it -/
def em_cl (Γ : em_Cx) (hp : em_Hp) (H : Heap) (k : Nat) : Prop := match em_k k with
  | 9 => H[em_z Γ + k]? = some (arrV (em_cI Γ) (em_ln hp k) (fun j => .int (em_I hp k j)))
  | 10 => H[em_z Γ + k]? = some (arrV (em_cJ Γ) (em_ln hp k) (fun j => .long (em_J hp k j)))
  | 11 => H[em_z Γ + k]? = some (arrV (em_cZ Γ) (em_ln hp k) (fun j => .int (em_I hp k j)))
  | 12 => H[em_z Γ + k]? = some (arrV (em_cL Γ) (em_ln hp k) (fun j => em_v Γ (em_rf (em_R hp k j))))
  | c => t_OB (em_z Γ + k) ((em_D Γ).1 c) (em_nf c) ((em_D Γ).2 c) H (fun j => em_v Γ (em_fv hp c k j))
theorem em_cl_9 {Γ : em_Cx} {hp : em_Hp} {H : Heap} {k : Nat} (hk : em_k k = 9) : em_cl Γ hp H k ↔ H[em_z Γ + k]? = some (arrV (em_cI Γ) (em_ln hp k) (fun j => .int (em_I hp k j))) := by simp only [em_cl, hk]
theorem em_cl_10 {Γ : em_Cx} {hp : em_Hp} {H : Heap} {k : Nat} (hk : em_k k = 10) : em_cl Γ hp H k ↔ H[em_z Γ + k]? = some (arrV (em_cJ Γ) (em_ln hp k) (fun j => .long (em_J hp k j))) := by simp only [em_cl, hk]
theorem em_cl_11 {Γ : em_Cx} {hp : em_Hp} {H : Heap} {k : Nat} (hk : em_k k = 11) : em_cl Γ hp H k ↔ H[em_z Γ + k]? = some (arrV (em_cZ Γ) (em_ln hp k) (fun j => .int (em_I hp k j))) := by simp only [em_cl, hk]
theorem em_cl_12 {Γ : em_Cx} {hp : em_Hp} {H : Heap} {k : Nat} (hk : em_k k = 12) : em_cl Γ hp H k ↔ H[em_z Γ + k]? = some (arrV (em_cL Γ) (em_ln hp k) (fun j => em_v Γ (em_rf (em_R hp k j)))) := by simp only [em_cl, hk]
theorem em_cl_c {Γ : em_Cx} {hp : em_Hp} {H : Heap} {k c : Nat} (hk : em_k k = c) (hc : c < 9) : em_cl Γ hp H k ↔ t_OB (em_z Γ + k) ((em_D Γ).1 c) (em_nf c) ((em_D Γ).2 c) H (fun j => em_v Γ (em_fv hp c k j)) := by
  rcases (show c = 0 ∨ c = 1 ∨ c = 2 ∨ c = 3 ∨ c = 4 ∨ c = 5 ∨ c = 6 ∨ c = 7 ∨ c = 8 by omega) with rfl | rfl | rfl | rfl | rfl | rfl | rfl | rfl | rfl <;> simp only [em_cl, hk]
theorem em_cl_kept {Γ : em_Cx} {hp hp' : em_Hp} {H H' : Heap} {k : Nat} (hI : em_I hp' k = em_I hp k) (hJ : em_J hp' k = em_J hp k) (hR : em_R hp' k = em_R hp k) (hl : em_ln hp' k = em_ln hp k) (hH : H'[em_z Γ + k]? = H[em_z Γ + k]?) (h : em_cl Γ hp H k) : em_cl Γ hp' H' k := by
  unfold em_cl em_fv at h ⊢
  rw [hI, hJ, hR, hl]
  split at h
  · exact hH.trans h
  · exact hH.trans h
  · exact hH.trans h
  · exact hH.trans h
  · exact h.kept hH
/-- the heap holds the abstract one, and is below as it was at the law's entry -/
def em_W (Γ : em_Cx) (hp : em_Hp) (H : Heap) : Prop := H.size = em_z Γ + em_n hp ∧ (∀ q : Nat, q < em_z Γ → H[q]? = (em_h Γ)[q]?) ∧ ∀ k : Nat, k < em_n hp → em_cl Γ hp H k
theorem em_W_set {Γ : em_Cx} {hp hp' : em_Hp} {H H' : Heap} {k : Nat} (hW : em_W Γ hp H) (hn : em_n hp' = em_n hp) (hd : ∀ j, j < em_n hp → em_ln hp' j = em_ln hp j) (hI : ∀ j, j ≠ k → em_I hp' j = em_I hp j) (hJ : ∀ j, j ≠ k → em_J hp' j = em_J hp j) (hR : ∀ j, j ≠ k → em_R hp' j = em_R hp j)
    (hz : H'.size = H.size) (ho : ∀ q : Nat, q ≠ em_z Γ + k → H'[q]? = H[q]?) (hc : em_cl Γ hp' H' k) : em_W Γ hp' H' := by
  refine ⟨by rw [hz, hn]; exact hW.1, fun q hq => (ho q (by omega)).trans (hW.2.1 q hq), fun j hj => ?_⟩
  rw [hn] at hj
  by_cases hjk : j = k
  · subst hjk; exact hc
  · exact em_cl_kept (hI j hjk) (hJ j hjk) (hR j hjk) (hd j hj) (ho _ (by omega)) (hW.2.2 j hj)
theorem em_W_push {Γ : em_Cx} {hp hp' : em_Hp} {H H' : Heap} (hW : em_W Γ hp H) (hn : em_n hp' = em_n hp + 1) (hd : ∀ j, j < em_n hp → em_ln hp' j = em_ln hp j) (hI : ∀ j, j < em_n hp → em_I hp' j = em_I hp j) (hJ : ∀ j, j < em_n hp → em_J hp' j = em_J hp j) (hR : ∀ j, j < em_n hp → em_R hp' j = em_R hp j)
    (hz : H'.size = H.size + 1) (ho : ∀ q : Nat, q < H.size → H'[q]? = H[q]?) (hc : em_cl Γ hp' H' (em_n hp)) : em_W Γ hp' H' := by
  refine ⟨by rw [hz, hn, hW.1]; omega, fun q hq => (ho q (by rw [hW.1]; omega)).trans (hW.2.1 q hq), fun j hj => ?_⟩
  by_cases hjk : j = em_n hp
  · subst hjk; exact hc
  · exact em_cl_kept (hI j (by omega)) (hJ j (by omega)) (hR j (by omega)) (hd j (by omega)) (ho _ (by rw [hW.1]; omega)) (hW.2.2 j (by omega))
/-! what the tables and the start say, at any state behind the start -/
def em_okw (w : Cond) : Bool := goodWord w || (match w with
  | .fieldLinkNest _ _ _ _ _ _ => true
  | .methodLinkNest _ _ _ _ => true
  | _ => false)
def em_tys (Γ : em_Cx) : List (ClassId × FieldType) := [(em_cI Γ, .int), (em_cJ Γ, .long), (em_cZ Γ, .boolean), (em_cL Γ, .object "BeastRoad$Law")]
def em_tl : List Nat := [2, 4, 3, 3, 4, 2]
def em_tb : List (List Int32) := [[110, 111], [109, 111, 115, 116], [102, 101, 101], [112, 101, 114], [102, 114, 111, 109], [116, 111]]
def em_tx (i : Nat) : String := match i with
  | 0 => "no"
  | 1 => "most"
  | 2 => "fee"
  | 3 => "per"
  | 4 => "from"
  | _ => "to"
def em_ti (i : Nat) : Nat := 67 + 2 * i
def em_tm (i : Nat) : Nat := match i with
  | 0 => 209
  | 1 => 211
  | 2 => 213
  | 3 => 215
  | 4 => 217
  | _ => 218
abbrev em_A (Γ : em_Cx) : Nat → Prop := fun q => em_z Γ ≤ q
def em_X (Γ : em_Cx) (U : State) : Prop := va_AO "BeastRoad$Law" U ∧ (em_h Γ).size = em_z Γ ∧ em_x Γ 0 < em_z Γ ∧ va_X (em_x Γ 0) (em_L Γ) (em_s Γ) U (em_h Γ) ∧ vk_S 6 em_tl em_tb (fun i => em_x Γ (1 + i)) (fun i => em_x Γ (7 + i)) (em_A Γ) U (em_h Γ) ∧ va_Z "java/lang/String" "COMPACT_STRINGS" "Z" (.int 1) (em_A Γ) U (em_h Γ) ∧
  (∃ v : Value, va_Z "jdk/internal/util/Preconditions" "SIOOBE_FORMATTER" "Ljava/util/function/BiFunction;" v (em_A Γ) U (em_h Γ) ∧ (v = .null ∨ ∃ a, v = .ref a)) ∧ ∀ i, i < 6 → vk_R "BeastRoad$Tape" (em_ti i) (em_tx i) (em_x Γ (1 + i)) U ∧ vk_R "BeastRoadModel" (em_tm i) (em_tx i) (em_x Γ (1 + i)) U
def em_G (Γ : em_Cx) (U : State) : Prop := (∀ w ∈ lw_tbl, em_okw w = true → ∀ a : Array Value, w.before a U = true) ∧ va_K (em_D Γ) vwCl (em_tys Γ) U ∧ em_X Γ U
theorem em_G_warm {Γ : em_Cx} {s U : State} (hW : s.WarmedH U.vm) (h : em_G Γ s) : em_G Γ U := by
  obtain ⟨h1, h2, gA, g0, g1, g2, g3, g4, ⟨v, g5, g6⟩, g7⟩ := h
  refine ⟨fun w hw ho a => ?_, va_K.moved hW.alike h2, va_AO.moved hW.alike gA, g0, g1, va_X.moved hW.alike g2, vk_S.moved hW.alike g3, va_Z.moved hW.alike g4, ⟨v, va_Z.moved hW.alike g5, g6⟩, fun i hi => ⟨(g7 i hi).1.warm hW, (g7 i hi).2.warm hW⟩⟩
  have hs := h1 w hw ho #[]
  unfold em_okw at ho
  rcases (Bool.or_eq_true _ _).mp ho with hg | hg
  · exact word_at hW (good_of_word hg) hs
  · cases w <;> first | exact va_Nw.use rfl (va_Nw.warmF hW (va_Nw.of rfl hs)) | exact va_Nw.use rfl (va_Nw.warmM hW (va_Nw.of rfl hs)) | simp at hg
theorem em_G_call {Γ : em_Cx} {U : State} {g : JFrame} {mk : MethodId} {a : Array Value} (h : em_G Γ U) : em_G Γ (U.calling g mk a) := em_G_warm (s := U) (U := U.calling g mk a) (State.WarmedH.refl U) h
