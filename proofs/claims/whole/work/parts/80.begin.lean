/-! THE LAW'S BEGINNING AND END -/
theorem eb_cl {s : State} {b : Nat} (hts : ∀ w ∈ lw_tbl, w.before #[Value.ref b] s = true) : ∃ D : va_G, ∀ (c : Nat) (q : vw_C), vwCl[c]? = some q → u_Kn s q.1 q.2.1 q.2.2 (D.1 c) (D.2 c) := by
  obtain ⟨c0, i0, k0⟩ := u_known (C := RX0) (T := TX0) (N := 4) (n := 4) hts (by decide +kernel) (hts (.instantiable RX0 4) (by decide +kernel))
  obtain ⟨c1, i1, k1⟩ := u_known (C := RX1) (T := TX1) (N := 13) (n := 13) hts (by decide +kernel) (hts (.instantiable RX1 13) (by decide +kernel))
  obtain ⟨c2, i2, k2⟩ := u_known (C := RX2) (T := TX2) (N := 5) (n := 5) hts (by decide +kernel) (hts (.instantiable RX2 5) (by decide +kernel))
  obtain ⟨c3, i3, k3⟩ := u_known (C := RX3) (T := TX3) (N := 13) (n := 13) hts (by decide +kernel) (hts (.instantiable RX3 13) (by decide +kernel))
  obtain ⟨c4, i4, k4⟩ := u_known (C := RX4) (T := TX4) (N := 2) (n := 2) hts (by decide +kernel) (hts (.instantiable RX4 2) (by decide +kernel))
  obtain ⟨c5, i5, k5⟩ := u_known (C := RX5) (T := TX5) (N := 2) (n := 2) hts (by decide +kernel) (hts (.instantiable RX5 2) (by decide +kernel))
  obtain ⟨c6, i6, k6⟩ := u_known (C := RX6) (T := TX6) (N := 6) (n := 6) hts (by decide +kernel) (hts (.instantiable RX6 6) (by decide +kernel))
  obtain ⟨c7, i7, k7⟩ := u_known (C := RX7) (T := TX7) (N := 8) (n := 8) hts (by decide +kernel) (hts (.instantiable RX7 8) (by decide +kernel))
  obtain ⟨c8, i8, k8⟩ := u_known (C := RX8) (T := TX8) (N := 44) (n := 44) hts (by decide +kernel) (hts (.instantiable RX8 44) (by decide +kernel))
  refine ⟨(fun k => [c0, c1, c2, c3, c4, c5, c6, c7, c8].getD k c0, fun k => [i0, i1, i2, i3, i4, i5, i6, i7, i8].getD k i0), ?_⟩
  intro k q hq
  match k, hq with
  | 0, hq => cases hq; exact k0
  | 1, hq => cases hq; exact k1
  | 2, hq => cases hq; exact k2
  | 3, hq => cases hq; exact k3
  | 4, hq => cases hq; exact k4
  | 5, hq => cases hq; exact k5
  | 6, hq => cases hq; exact k6
  | 7, hq => cases hq; exact k7
  | 8, hq => cases hq; exact k8
  | k + 9, hq => cases hq
theorem eb_arr {s : State} {b : Nat} {ty : FieldType} (hty : ∀ n, ¬ ty = .object n) (h : (Cond.arrayClass ty).before #[Value.ref b] s = true) : ∃ c, ArrOfT s c ty ∧ va_RA s c ty := by
  obtain ⟨c, k, comp, h1, h2, h3⟩ := Cond.arrayClass_spec h
  refine ⟨c, fun n z => ⟨fun k h => (by cases h), k, h2, comp, h3⟩, ?_⟩
  cases ty with
  | object n => exact absurd rfl (hty n)
  | _ => exact h1
theorem eb_obj {s : State} {b : Nat} (h : (Cond.arrayOver (.object "BeastRoad$Law")).before #[Value.ref b] s = true) : ∃ c, ArrOfT s c (.object "BeastRoad$Law") ∧ va_RA s c (.object "BeastRoad$Law") := by
  obtain ⟨comp, c, k, h1, -, h2, h3, h4⟩ := Cond.arrayOver_spec h
  exact ⟨c, fun n z => ⟨fun k h => (by cases h), k, h2, comp, h3⟩, k, comp, h2, h3, h1, h4⟩
theorem eb_ctx {p : Program} {s : State} {m : MethodId} {meth : Method} {c : Code} (l : Launch) {b L : Nat} {xs : Nat → Int32} (C0 : lw_At p s m meth c b L xs) : ∃ Γ : em_Cx, em_l Γ = l ∧ em_z Γ = s.heap.size ∧ em_h Γ = s.heap ∧ em_x Γ 0 = b ∧ em_L Γ = L ∧ em_G Γ s := by
  obtain ⟨hx, hb, hr, hml, hown, hts, hX, hbl, hlk, hgv⟩ := C0
  have hs := flat_of_before _ hgv
  obtain ⟨D, hD⟩ := eb_cl hts
  obtain ⟨cI, aI⟩ := eb_arr (b := b) (ty := .int) (fun n z => by cases z) (hts _ em_acI)
  obtain ⟨cJ, aJ⟩ := eb_arr (b := b) (ty := .long) (fun n z => by cases z) (hts _ ec_acJ)
  obtain ⟨cZ, aZ⟩ := eb_arr (b := b) (ty := .boolean) (fun n z => by cases z) (hts _ ec_acZ)
  have hao : (Cond.arrayOver (.object "BeastRoad$Law")).before #[Value.ref b] s = true := hts _ (by decide +kernel)
  obtain ⟨cL, aL⟩ := eb_obj hao
  have hA : ∀ a : Nat, a < s.heap.size → ¬ (fun q : Nat => s.heap.size ≤ q) a := fun a h => Nat.not_le.mpr h
  obtain ⟨adK, adV, hS, hE⟩ := vk_Sof (args := #[Value.ref b]) (s := s) (N := 6) (tm := fun i => Term.string "BeastRoad$Tape" (em_ti i)) (len := em_tl) (byt := em_tb) (A := fun q : Nat => s.heap.size ≤ q) (by decide +kernel)
    (fun i hi => hs _ ((by decide +kernel : ∀ i, i < 6 → Cond.exactly (Term.string "BeastRoad$Tape" (em_ti i)) "java/lang/String" ∈ flatC (Jvm.Cond.and given_1 narrow_1)) i hi))
    (fun i hi => hs _ ((by decide +kernel : ∀ i, i < 6 → Cond.eq (.field (Term.string "BeastRoad$Tape" (em_ti i)) "java/lang/String" "coder" "B") (.int 0) ∈ flatC (Jvm.Cond.and given_1 narrow_1)) i hi))
    (fun i hi => hs _ ((by decide +kernel : ∀ i, i < 6 → Cond.arrayOf (.field (Term.string "BeastRoad$Tape" (em_ti i)) "java/lang/String" "value" "[B") .byte ∈ flatC (Jvm.Cond.and given_1 narrow_1)) i hi))
    (fun i hi => hs _ ((by decide +kernel : ∀ i, i < 6 → Cond.eq (.length (.field (Term.string "BeastRoad$Tape" (em_ti i)) "java/lang/String" "value" "[B")) (.int (Int32.ofNat (em_tl.getD i 0))) ∈ flatC (Jvm.Cond.and given_1 narrow_1)) i hi))
    (fun i hi j hj => hs _ ((by decide +kernel : ∀ i, i < 6 → ∀ j, j < em_tl.getD i 0 → Cond.eq (.elem (.field (Term.string "BeastRoad$Tape" (em_ti i)) "java/lang/String" "value" "[B") (.int (Int32.ofNat j))) (.int ((em_tb.getD i []).getD j 0)) ∈ flatC (Jvm.Cond.and given_1 narrow_1)) i hi j hj))
    (fun i j hi hj hij => ((by decide +kernel : ∀ i, i < 6 → ∀ j, j < 6 → i ≠ j → Cond.not (Cond.eq (Term.string "BeastRoad$Tape" (em_ti i)) (Term.string "BeastRoad$Tape" (em_ti j))) ∈ flatC (Jvm.Cond.and given_1 narrow_1) ∨ Cond.not (Cond.eq (Term.string "BeastRoad$Tape" (em_ti j)) (Term.string "BeastRoad$Tape" (em_ti i))) ∈ flatC (Jvm.Cond.and given_1 narrow_1)) i hi j hj hij).elim (fun z => Or.inl (hs _ z)) (fun z => Or.inr (hs _ z)))
    hA
  have x1 : ∀ i, i < 6 → (fun q : Nat => if q = 0 then b else if q < 7 then adK (q - 1) else adV (q - 7)) (1 + i) = adK i := fun i hi => by
    show (if 1 + i = 0 then b else if 1 + i < 7 then adK (1 + i - 1) else adV (1 + i - 7)) = adK i
    rw [if_neg (by omega), if_pos (by omega), Nat.add_sub_cancel_left]
  have x7 : ∀ i, i < 6 → (fun q : Nat => if q = 0 then b else if q < 7 then adK (q - 1) else adV (q - 7)) (7 + i) = adV i := fun i hi => by
    show (if 7 + i = 0 then b else if 7 + i < 7 then adK (7 + i - 1) else adV (7 + i - 7)) = adV i
    rw [if_neg (by omega), if_neg (by omega), Nat.add_sub_cancel_left]
  refine ⟨(l, (s.heap.size, s.heap), D, (cI, cJ, cZ, cL), (fun q => if q = 0 then b else if q < 7 then adK (q - 1) else adV (q - 7)), (L, xs)), rfl, rfl, rfl, rfl, rfl, ?_, ⟨hD, ?_⟩, va_AO.of hao, rfl, hbl, hX, ?_, ?_, ?_, ?_⟩
  · intro w hw ho a
    have h0 := hts w hw
    unfold em_okw at ho
    rcases (Bool.or_eq_true _ _).mp ho with hg | hg
    · exact word_at (State.WarmedH.refl s) (good_of_word hg) h0
    · cases w <;> first | exact va_Nw.use rfl (va_Nw.of rfl h0) | simp at hg
  · intro k q hq
    match k, hq with
    | 0, hq => cases hq; exact aI
    | 1, hq => cases hq; exact aJ
    | 2, hq => cases hq; exact aZ
    | 3, hq => cases hq; exact aL
    | k + 4, hq => cases hq
  · refine ⟨fun i hi => ?_, fun i j hi hj e => ?_⟩
    · have z := hS.1 i hi
      rw [← x1 i hi, ← x7 i hi] at z
      exact z
    · refine hS.2 i j hi hj ?_
      have e : (fun q : Nat => if q = 0 then b else if q < 7 then adK (q - 1) else adV (q - 7)) (1 + i) = (fun q : Nat => if q = 0 then b else if q < 7 then adK (q - 1) else adV (q - 7)) (1 + j) := e
      rw [x1 i hi, x1 j hj] at e
      exact e
  · exact va_Zof (hts _ (by decide +kernel)) (hts _ (by decide +kernel)) (va_eqt (hs _ (by decide +kernel))) hA
  · obtain ⟨v, hv, hi⟩ := Cond.isRef_spec (hs (Cond.isRef (.static "jdk/internal/util/Preconditions" "SIOOBE_FORMATTER" "Ljava/util/function/BiFunction;")) (by decide +kernel))
    refine ⟨v, va_Zof (hts _ (by decide +kernel)) (hts _ (by decide +kernel)) hv hA, ?_⟩
    cases v <;> first | exact Or.inl rfl | exact Or.inr ⟨_, rfl⟩ | cases hi
  · intro i hi
    have e1 := hE i hi
    have e2 := va_eqR (hs _ ((by decide +kernel : ∀ i, i < 6 → Cond.eq (Term.string "BeastRoad$Tape" (em_ti i)) (Term.string "BeastRoadModel" (em_tm i)) ∈ flatC (Jvm.Cond.and given_1 narrow_1)) i hi)) e1
    show vk_R "BeastRoad$Tape" (em_ti i) (em_tx i) ((fun q : Nat => if q = 0 then b else if q < 7 then adK (q - 1) else adV (q - 7)) (1 + i)) s ∧ vk_R "BeastRoadModel" (em_tm i) (em_tx i) ((fun q : Nat => if q = 0 then b else if q < 7 then adK (q - 1) else adV (q - 7)) (1 + i)) s
    rw [x1 i hi]
    exact ⟨vk_R.of (hts _ ((by decide +kernel : ∀ i, i < 6 → Cond.stringRef "BeastRoad$Tape" (em_ti i) (em_tx i) ∈ lw_tbl) i hi)) e1, vk_R.of (hts _ ((by decide +kernel : ∀ i, i < 6 → Cond.stringRef "BeastRoadModel" (em_tm i) (em_tx i) ∈ lw_tbl) i hi)) e2⟩
theorem eb_room {n m : Nat} {dl : Nat → Nat} {I : Nat → Nat → Int32} {J : Nat → Nat → Int64} {rv : em_Rv} (H : em_Inv n m dl I J rv) : n ≤ 600000 ∧ m ≤ 7302249 := by
  obtain ⟨N, G, t, c, lam, mu, T, S, h, H⟩ := H
  have a := H.B.nn
  have b := H.B.mm
  have d := H.B.L4
  have e := H.B.u2
  omega
/-- from the entry, for every script of at most 3072 ints, the law comes to its end with true -/
theorem whole_start {p : Program} {e : Env} {s : State} {m : MethodId} {below : List Frame} {meth : Method} {c : Code} (l : Launch) {b L : Nat} {xs : Nat → Int32} (hL : L ≤ 3072) (C0 : lw_At p s m meth c b L xs) : W p l e room_1 s m #[Value.ref b] below meth c s.heap [] 0 0 (lw_Z below #[Value.ref b] s) (entryFrame m ([Value.ref b] : List Value).toArray 4) := by
  obtain ⟨Γ, e1, e2, e3, e4, e5, hG⟩ := eb_ctx l C0
  obtain ⟨hx, hb, hr, hml, hown, hts, hX, hbl, hlk, hgv⟩ := C0
  obtain ⟨n3, m3, dl3, I3, J3, rv3, hI, hW⟩ := el_whole meth.name Γ (by rw [e5]; exact hL)
  obtain ⟨b1, b2⟩ := eb_room hI
  have hl := lv_entry ([.ref b]) (n := 4) (Nat.le_of_ble_eq_true rfl)
  rw [lg_entry_eq]
  generalize (lg_sl ([.ref b]) ++ List.replicate (4 - (lg_sl ([.ref b])).length) Slot.unset).toArray = ls at hl ⊢
  have hl : lv_has ls 4 [(0, .ref b)] := hl
  intro T hT X
  subst e1
  have X' : Stand p (em_l Γ) e (em_rm 24 (n3 - 0) (m3 - 0)) s m #[Value.ref b] below meth c T [] 0 0 := Stand.mk X.admits X.cas X.clock X.frames (Jvm.Free.hasRoom_mono (r' := room_1) (show 24 ≤ 2048 by decide) (show 40 * 24 ≤ 84000 by decide) b1 b2 X.room) X.hears X.method X.code X.here X.tail X.warmed X.limits X.bytes X.same
  have hl2 : lv_has ls 4 (em_lv Γ [(0, .float 0)]) := by
    have : em_lv Γ [(0, .float 0)] = [(0, .ref (em_x Γ 0))] := rfl
    rw [this, e4]
    exact hl
  have hw : em_W Γ el_hp0 s.heap := ⟨by rw [e2]; rfl, fun q hq => by rw [e3], fun k hk => absurd hk (Nat.not_lt_zero k)⟩
  obtain ⟨t, st, o, q1, q2, q3, L0, q4, q5⟩ := hW p e s m #[Value.ref b] below meth c hx hb hr hlk hml hown rfl hG (by rw [e2]; rfl) s.heap [] 0 0 ls hw (fun q h => by cases h) rfl rfl hl2 T hT X'
  obtain ⟨q6, q7⟩ := q3
  obtain ⟨f1, f2, f3⟩ := q4
  refine ⟨t, st, o, q1, q2, q6, f1, f2, ?_⟩
  refine State.sameButNew.mono (c := n3 - 0) (n := m3 - 0) ?_ b1 b2
  refine State.sameButNew.drop_fresh (L := []) (J := L0) f3 (fun x hx => ?_)
  have := q5 x hx
  rw [← e2]
  exact this
