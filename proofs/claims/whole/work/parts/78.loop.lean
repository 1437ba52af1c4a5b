/-! THE LAW'S LOOP -/
theorem el_and31 (x : Int32) : ∃ k, k < 32 ∧ x &&& 31 = nI k := by
  refine ⟨(x &&& 31).toBitVec.toNat, ?_, ?_⟩
  · show (x.toBitVec &&& 31#32).toNat < 32
    rw [BitVec.toNat_and]
    exact Nat.lt_of_le_of_lt Nat.and_le_right (by decide)
  · refine Int32.toBitVec_inj.mp ?_
    show (x &&& 31).toBitVec = BitVec.ofNat 32 (x &&& 31).toBitVec.toNat
    rw [BitVec.ofNat_toNat, BitVec.setWidth_eq]
section Loop
variable {nm : String} {Γ : em_Cx} {hp0 : em_Hp}
theorem el_step (hL : em_L Γ ≤ 3072) {n m i : Nat} {dl : Nat → Nat} {I : Nat → Nat → Int32} {J : Nat → Nat → Int64} {rv : em_Rv} (hi : i + 6 ≤ em_L Γ) (H : em_Inv n m dl I J rv) (kk : ∀ n2 m2 dl2 I2 J2 rv2, em_Inv n2 m2 dl2 I2 J2 rv2 → el_go nm Γ hp0 1149 i n2 m2 dl2 I2 J2 rv2) : el_go nm Γ hp0 27 i n m dl I J rv := by
  have hdec : decode (em_c (eL nm)) 33 = .ok (.tableswitch 1116 0 30 #[139, 182, 215, 248, 291, 324, 337, 370, 393, 426, 485, 518, 541, 584, 627, 650, 683, 726, 789, 812, 825, 848, 881, 904, 953, 986, 999, 1022, 1046, 1080, 1093], 139) := by
    show decode cL_law 33 = _
    decide +kernel
  have pre : ∀ fin, em_EW Γ 24 (eL nm) hp0 fin 33 (el_lc i) [.int (em_s Γ i &&& 31)] (em_hm n m dl I J rv) → em_EW Γ 24 (eL nm) hp0 fin 27 (el_lc i) [] (em_hm n m dl I J rv) := by
    intro fin k
    (repeat (refine em_pure (Nat.zero_le _) (kEL nm) rfl ?_))
    refine el_ld (q := i) (kEL nm) rfl hL rfl (by omega) ?_
    (repeat (refine em_pureT 33 (Nat.zero_le _) (kEL nm) rfl rfl ?_))
    exact k
  obtain ⟨k, hk, e⟩ := el_and31 (em_s Γ i)
  rw [e] at pre
  rcases (show k = 0 ∨ k = 1 ∨ k = 2 ∨ k = 3 ∨ k = 4 ∨ k = 5 ∨ k = 6 ∨ k = 7 ∨ k = 8 ∨ k = 9 ∨ k = 10 ∨ k = 11 ∨ k = 12 ∨ k = 13 ∨ k = 14 ∨ k = 15 ∨ k = 16 ∨ k = 17 ∨ k = 18 ∨ k = 19 ∨ k = 20 ∨ k = 21 ∨ k = 22 ∨ k = 23 ∨ k = 24 ∨ k = 25 ∨ k = 26 ∨ k = 27 ∨ k = 28 ∨ k = 29 ∨ k = 30 ∨ k = 31 by omega) with rfl | rfl | rfl | rfl | rfl | rfl | rfl | rfl | rfl | rfl | rfl | rfl | rfl | rfl | rfl | rfl | rfl | rfl | rfl | rfl | rfl | rfl | rfl | rfl | rfl | rfl | rfl | rfl | rfl | rfl | rfl | rfl
  · obtain ⟨n3, m3, dl3, I3, J3, rv3, g1, g2, g3, g4⟩ := el_kind hL hi H kk
    exact ⟨n3, m3, dl3, I3, J3, rv3, g1, g2, g3, pre _ (em_tsIn (x := nI 0) hdec (by decide) (by decide) rfl rfl g4)⟩
  · obtain ⟨n3, m3, dl3, I3, J3, rv3, g1, g2, g3, g4⟩ := el_beast hL hi H kk
    exact ⟨n3, m3, dl3, I3, J3, rv3, g1, g2, g3, pre _ (em_tsIn (x := nI 1) hdec (by decide) (by decide) rfl rfl g4)⟩
  · obtain ⟨n3, m3, dl3, I3, J3, rv3, g1, g2, g3, g4⟩ := el_gone hL hi H kk
    exact ⟨n3, m3, dl3, I3, J3, rv3, g1, g2, g3, pre _ (em_tsIn (x := nI 2) hdec (by decide) (by decide) rfl rfl g4)⟩
  · obtain ⟨n3, m3, dl3, I3, J3, rv3, g1, g2, g3, g4⟩ := el_here hL hi H kk
    exact ⟨n3, m3, dl3, I3, J3, rv3, g1, g2, g3, pre _ (em_tsIn (x := nI 3) hdec (by decide) (by decide) rfl rfl g4)⟩
  · obtain ⟨n3, m3, dl3, I3, J3, rv3, g1, g2, g3, g4⟩ := el_ration hL hi H kk
    exact ⟨n3, m3, dl3, I3, J3, rv3, g1, g2, g3, pre _ (em_tsIn (x := nI 4) hdec (by decide) (by decide) rfl rfl g4)⟩
  · obtain ⟨n3, m3, dl3, I3, J3, rv3, g1, g2, g3, g4⟩ := el_day hL hi H kk
    exact ⟨n3, m3, dl3, I3, J3, rv3, g1, g2, g3, pre _ (em_tsIn (x := nI 5) hdec (by decide) (by decide) rfl rfl g4)⟩
  · obtain ⟨n3, m3, dl3, I3, J3, rv3, g1, g2, g3, g4⟩ := el_line hL hi H kk
    exact ⟨n3, m3, dl3, I3, J3, rv3, g1, g2, g3, pre _ (em_tsIn (x := nI 6) hdec (by decide) (by decide) rfl rfl g4)⟩
  · obtain ⟨n3, m3, dl3, I3, J3, rv3, g1, g2, g3, g4⟩ := el_booked hL hi H kk
    exact ⟨n3, m3, dl3, I3, J3, rv3, g1, g2, g3, pre _ (em_tsIn (x := nI 7) hdec (by decide) (by decide) rfl rfl g4)⟩
  · obtain ⟨n3, m3, dl3, I3, J3, rv3, g1, g2, g3, g4⟩ := el_load hL hi H kk
    exact ⟨n3, m3, dl3, I3, J3, rv3, g1, g2, g3, pre _ (em_tsIn (x := nI 8) hdec (by decide) (by decide) rfl rfl g4)⟩
  · obtain ⟨n3, m3, dl3, I3, J3, rv3, g1, g2, g3, g4⟩ := el_bar hL hi H kk
    exact ⟨n3, m3, dl3, I3, J3, rv3, g1, g2, g3, pre _ (em_tsIn (x := nI 9) hdec (by decide) (by decide) rfl rfl g4)⟩
  · obtain ⟨n3, m3, dl3, I3, J3, rv3, g1, g2, g3, g4⟩ := el_wagon hL hi H kk
    exact ⟨n3, m3, dl3, I3, J3, rv3, g1, g2, g3, pre _ (em_tsIn (x := nI 10) hdec (by decide) (by decide) rfl rfl g4)⟩
  · obtain ⟨n3, m3, dl3, I3, J3, rv3, g1, g2, g3, g4⟩ := el_order hL hi H kk
    exact ⟨n3, m3, dl3, I3, J3, rv3, g1, g2, g3, pre _ (em_tsIn (x := nI 11) hdec (by decide) (by decide) rfl rfl g4)⟩
  · obtain ⟨n3, m3, dl3, I3, J3, rv3, g1, g2, g3, g4⟩ := el_town hL hi H kk
    exact ⟨n3, m3, dl3, I3, J3, rv3, g1, g2, g3, pre _ (em_tsIn (x := nI 12) hdec (by decide) (by decide) rfl rfl g4)⟩
  · obtain ⟨n3, m3, dl3, I3, J3, rv3, g1, g2, g3, g4⟩ := el_way hL hi H kk
    exact ⟨n3, m3, dl3, I3, J3, rv3, g1, g2, g3, pre _ (em_tsIn (x := nI 13) hdec (by decide) (by decide) rfl rfl g4)⟩
  · obtain ⟨n3, m3, dl3, I3, J3, rv3, g1, g2, g3, g4⟩ := el_fodder hL hi H kk
    exact ⟨n3, m3, dl3, I3, J3, rv3, g1, g2, g3, pre _ (em_tsIn (x := nI 14) hdec (by decide) (by decide) rfl rfl g4)⟩
  · obtain ⟨n3, m3, dl3, I3, J3, rv3, g1, g2, g3, g4⟩ := el_tour hL hi H kk
    exact ⟨n3, m3, dl3, I3, J3, rv3, g1, g2, g3, pre _ (em_tsIn (x := nI 15) hdec (by decide) (by decide) rfl rfl g4)⟩
  · obtain ⟨n3, m3, dl3, I3, J3, rv3, g1, g2, g3, g4⟩ := el_stop hL hi H kk
    exact ⟨n3, m3, dl3, I3, J3, rv3, g1, g2, g3, pre _ (em_tsIn (x := nI 16) hdec (by decide) (by decide) rfl rfl g4)⟩
  · obtain ⟨n3, m3, dl3, I3, J3, rv3, g1, g2, g3, g4⟩ := el_feed hL hi H kk
    exact ⟨n3, m3, dl3, I3, J3, rv3, g1, g2, g3, pre _ (em_tsIn (x := nI 17) hdec (by decide) (by decide) rfl rfl g4)⟩
  · obtain ⟨n3, m3, dl3, I3, J3, rv3, g1, g2, g3, g4⟩ := el_end hL hi H kk
    exact ⟨n3, m3, dl3, I3, J3, rv3, g1, g2, g3, pre _ (em_tsIn (x := nI 18) hdec (by decide) (by decide) rfl rfl g4)⟩
  · obtain ⟨n3, m3, dl3, I3, J3, rv3, g1, g2, g3, g4⟩ := el_fault hL hi H kk
    exact ⟨n3, m3, dl3, I3, J3, rv3, g1, g2, g3, pre _ (em_tsIn (x := nI 19) hdec (by decide) (by decide) rfl rfl g4)⟩
  · obtain ⟨n3, m3, dl3, I3, J3, rv3, g1, g2, g3, g4⟩ := el_law hL hi H kk
    exact ⟨n3, m3, dl3, I3, J3, rv3, g1, g2, g3, pre _ (em_tsIn (x := nI 20) hdec (by decide) (by decide) rfl rfl g4)⟩
  · obtain ⟨n3, m3, dl3, I3, J3, rv3, g1, g2, g3, g4⟩ := el_may hL hi H kk
    exact ⟨n3, m3, dl3, I3, J3, rv3, g1, g2, g3, pre _ (em_tsIn (x := nI 21) hdec (by decide) (by decide) rfl rfl g4)⟩
  · obtain ⟨n3, m3, dl3, I3, J3, rv3, g1, g2, g3, g4⟩ := el_fee hL hi H kk
    exact ⟨n3, m3, dl3, I3, J3, rv3, g1, g2, g3, pre _ (em_tsIn (x := nI 22) hdec (by decide) (by decide) rfl rfl g4)⟩
  · obtain ⟨n3, m3, dl3, I3, J3, rv3, g1, g2, g3, g4⟩ := el_wall hL hi H kk
    exact ⟨n3, m3, dl3, I3, J3, rv3, g1, g2, g3, pre _ (em_tsIn (x := nI 23) hdec (by decide) (by decide) rfl rfl g4)⟩
  · obtain ⟨n3, m3, dl3, I3, J3, rv3, g1, g2, g3, g4⟩ := el_away hL hi H kk
    exact ⟨n3, m3, dl3, I3, J3, rv3, g1, g2, g3, pre _ (em_tsIn (x := nI 24) hdec (by decide) (by decide) rfl rfl g4)⟩
  · obtain ⟨n3, m3, dl3, I3, J3, rv3, g1, g2, g3, g4⟩ := el_hour hL hi H kk
    exact ⟨n3, m3, dl3, I3, J3, rv3, g1, g2, g3, pre _ (em_tsIn (x := nI 25) hdec (by decide) (by decide) rfl rfl g4)⟩
  · obtain ⟨n3, m3, dl3, I3, J3, rv3, g1, g2, g3, g4⟩ := el_look hL hi H kk
    exact ⟨n3, m3, dl3, I3, J3, rv3, g1, g2, g3, pre _ (em_tsIn (x := nI 26) hdec (by decide) (by decide) rfl rfl g4)⟩
  · obtain ⟨n3, m3, dl3, I3, J3, rv3, g1, g2, g3, g4⟩ := el_maybe hL hi H kk
    exact ⟨n3, m3, dl3, I3, J3, rv3, g1, g2, g3, pre _ (em_tsIn (x := nI 27) hdec (by decide) (by decide) rfl rfl g4)⟩
  · obtain ⟨n3, m3, dl3, I3, J3, rv3, g1, g2, g3, g4⟩ := el_chance hL hi H kk
    exact ⟨n3, m3, dl3, I3, J3, rv3, g1, g2, g3, pre _ (em_tsIn (x := nI 28) hdec (by decide) (by decide) rfl rfl g4)⟩
  · obtain ⟨n3, m3, dl3, I3, J3, rv3, g1, g2, g3, g4⟩ := el_where hL hi H kk
    exact ⟨n3, m3, dl3, I3, J3, rv3, g1, g2, g3, pre _ (em_tsIn (x := nI 29) hdec (by decide) (by decide) rfl rfl g4)⟩
  · obtain ⟨n3, m3, dl3, I3, J3, rv3, g1, g2, g3, g4⟩ := el_count hL hi H kk
    exact ⟨n3, m3, dl3, I3, J3, rv3, g1, g2, g3, pre _ (em_tsIn (x := nI 30) hdec (by decide) (by decide) rfl rfl g4)⟩
  · obtain ⟨n3, m3, dl3, I3, J3, rv3, g1, g2, g3, g4⟩ := kk n m dl I J rv H
    exact ⟨n3, m3, dl3, I3, J3, rv3, g1, g2, g3, pre _ (em_tsOut (x := nI 31) hdec (Or.inr (by decide)) rfl g4)⟩
theorem el_cnd {L i : Nat} (hL : L ≤ 3072) (hi : i ≤ 4000) : nI L - 6 < nI i ↔ ¬ i + 6 ≤ L := by
  by_cases h6 : 6 ≤ L
  · obtain ⟨q, rfl⟩ : ∃ q, L = 6 + q := ⟨L - 6, by omega⟩
    rw [show (6 : Int32) = nI 6 from rfl, em_nIs, nI_ltI (by omega) (by omega)]
    omega
  · have h0 : nI L - 6 < 0 := by
      rcases (show L = 0 ∨ L = 1 ∨ L = 2 ∨ L = 3 ∨ L = 4 ∨ L = 5 by omega) with rfl | rfl | rfl | rfl | rfl | rfl <;> decide
    exact ⟨fun _ => by omega, fun _ => Int32.lt_of_lt_of_le h0 (nI_pos' (by omega))⟩
theorem el_loop (hL : em_L Γ ≤ 3072) : ∀ (r i n m : Nat) (dl : Nat → Nat) (I : Nat → Nat → Int32) (J : Nat → Nat → Int64) (rv : em_Rv), em_L Γ < i + 6 * r + 6 → i ≤ 3078 → em_Inv n m dl I J rv → el_go nm Γ hp0 18 i n m dl I J rv := by
  intro r
  induction r with
  | zero =>
    intro i n m dl I J rv h1 h2 H
    refine ⟨n, m, dl, I, J, rv, H, Nat.le_refl _, Nat.le_refl _, ?_⟩
    (repeat (refine em_pure (Nat.zero_le _) (kEL nm) rfl ?_))
    refine em_slen (kEL nm) rfl ?_
    (repeat (refine em_pure (Nat.zero_le _) (kEL nm) rfl ?_))
    refine em_branch (kEL nm) rfl (fun _ => ?_) (fun z => absurd ((el_cnd hL (by omega)).mpr (by omega)) z)
    (repeat (refine em_pure (Nat.zero_le _) (kEL nm) rfl ?_))
    exact em_iret (kEL nm) rfl rfl rfl rfl
  | succ r ih =>
    intro i n m dl I J rv h1 h2 H
    by_cases hi : i + 6 ≤ em_L Γ
    · obtain ⟨n3, m3, dl3, I3, J3, rv3, g1, g2, g3, g4⟩ := el_step (hp0 := hp0) hL hi H (fun n2 m2 dl2 I2 J2 rv2 H2 => by
        obtain ⟨n3, m3, dl3, I3, J3, rv3, g1, g2, g3, g4⟩ := ih (i + 6) n2 m2 dl2 I2 J2 rv2 (by omega) (by omega) H2
        refine ⟨n3, m3, dl3, I3, J3, rv3, g1, g2, g3, ?_⟩
        (repeat (refine em_pureT 18 (Nat.zero_le _) (kEL nm) rfl rfl ?_))
        refine em_loc (lc' := [(0, .float 0), (1, .ref 0), (2, .ref 53), (3, .int (nI i + 6))]) rfl ?_
        rw [show (6 : Int32) = nI 6 from rfl, nI_add]
        exact g4)
      refine ⟨n3, m3, dl3, I3, J3, rv3, g1, g2, g3, ?_⟩
      (repeat (refine em_pure (Nat.zero_le _) (kEL nm) rfl ?_))
      refine em_slen (kEL nm) rfl ?_
      (repeat (refine em_pure (Nat.zero_le _) (kEL nm) rfl ?_))
      refine em_branch (kEL nm) rfl (fun z => absurd ((el_cnd hL (by omega)).mp z) (fun y => y hi)) (fun _ => ?_)
      exact g4
    · refine ⟨n, m, dl, I, J, rv, H, Nat.le_refl _, Nat.le_refl _, ?_⟩
      (repeat (refine em_pure (Nat.zero_le _) (kEL nm) rfl ?_))
      refine em_slen (kEL nm) rfl ?_
      (repeat (refine em_pure (Nat.zero_le _) (kEL nm) rfl ?_))
      refine em_branch (kEL nm) rfl (fun _ => ?_) (fun z => absurd ((el_cnd hL (by omega)).mpr hi) z)
      (repeat (refine em_pure (Nat.zero_le _) (kEL nm) rfl ?_))
      exact em_iret (kEL nm) rfl rfl rfl rfl
end Loop
theorem el_inv0 : em_Inv 85 5332 (fun _ => 0) ec_I9 ec_ZJ (14, 64, 65, 66, false) := by
  have w : ∀ (x : Int32) (N : Nat → Int32) (F' : Int32) (N' : Nat → Int32) (h : Int32), x = 0 → h = 0 → (∀ s, s < 5 → N (s + 1) = -1) → em_lrl x N F' N' h := fun x N F' N' h a b c => ⟨⟨0, by omega, a⟩, Or.inl ⟨b, a, c⟩⟩
  have w6 : ∀ s, s < 5 → em_fil (fun _ => 0) (-1 : Int32) 6 (s + 1) = -1 := fun s hs => by rw [em_fil, if_pos (by omega)]
  refine em_Iv.inv (N := 0) (G := 0) (t := 0) (c := 0) (lam := 96) (mu := 256) (T := 0) (S := 0) (h := 0) (em_Iv.mk (hB := Nat.le_refl _) (A := ?_) (B := ?_) (C := ?_) (D := ?_) (E := ?_) (F := ?_))
  · exact em_gA.mk (n1 := rfl) (n2 := by omega) (g1 := rfl) (g2 := by omega) (t1 := rfl) (t2 := by omega) (m1 := rfl) (m2 := rfl) (m0 := rfl) (e54 := rfl) (e55 := rfl) (e56 := rfl) (e57 := rfl) (e58 := rfl) (e60 := rfl) (e61 := rfl) (e62 := rfl) (kd := fun b hb => by omega) (fd := fun j hj => ⟨1, by omega, by show em_fil (fun _ => 0) (1 : Int32) 8 j = nI 1; rw [em_fil, if_pos hj]; rfl⟩) (wt := fun j hj => ⟨1, by omega, by show em_fil (fun _ => 0) (1 : Int32) 8 j = nI 1; rw [em_fil, if_pos hj]; rfl⟩) (fr := fun b hb => by omega) (tl := fun b hb => by omega) (gb := fun b hb => by omega) (gf := fun b hb => by omega) (go := fun b hb => by omega) (gs := fun i j _ hj => by omega)
  · exact em_gB.mk (c1 := rfl) (c2 := rfl) (c3 := by omega) (u := rfl) (al := (ei_sum_0 _ 401 (fun _ _ => rfl)).symm) (L1 := Or.inl rfl) (L2 := by decide) (L3 := rfl) (L4 := by omega) (L5 := by omega) (k1 := Or.inl rfl) (k2 := Or.inl rfl) (k3 := Or.inl rfl) (t1 := by decide) (t2 := by decide) (t3 := by decide) (l1 := rfl) (l2 := rfl) (l3 := rfl) (d12 := by decide) (d13 := by decide) (d23 := by decide) (d01 := by decide) (d02 := by decide) (d03 := by decide) (u1 := by omega) (u2 := by omega) (u3 := by omega) (ln := fun i hi => by omega) (nn := by omega) (mm := Or.inl (by omega))
  · exact em_gC.mk (wg := fun b hb => by omega) (wn := fun b _ hb => by show em_fil (fun _ => 0) (-1 : Int32) 40 b = -1; rw [em_fil, if_pos hb]) (wr := fun b hb => by omega) (br := fun a ha => ⟨0, by omega, rfl⟩) (bb := fun a b ha hb => ⟨fun z => absurd z (em_hs_0 hb), fun z => absurd (show (0 : Int32) = 1 from z) (by decide)⟩) (bv := fun i hi => Or.inl rfl) (bs := fun a b _ _ => rfl)
  · exact em_gD.mk (T1 := rfl) (T2 := rfl) (T8 := by omega) (e71 := rfl) (e72 := rfl) (e73 := rfl) (e74 := rfl) (fo := rfl) (fb := ⟨0, by omega, rfl⟩) (td := fun j hj => by omega) (tb := fun j hj => by omega) (tw := fun j hj => ⟨9, by omega, by show em_fil (fun _ => 0) (9 : Int32) 64 j = nI 9; rw [em_fil, if_pos hj]; rfl⟩) (pc := Or.inl rfl)
  · exact em_gE.mk (s1 := rfl) (s2 := rfl) (s3 := by omega) (tp := rfl) (w0 := w _ _ _ _ _ rfl rfl w6) (w1 := w _ _ _ _ _ rfl rfl w6) (w2 := w _ _ _ _ _ rfl rfl w6) (w3 := w _ _ _ _ _ rfl rfl w6) (w4 := w _ _ _ _ _ rfl rfl w6) (w5 := w _ _ _ _ _ rfl rfl w6) (w6 := w _ _ _ _ _ rfl rfl w6) (w7 := w _ _ _ _ _ rfl rfl w6)
  · refine em_gF.mk (w1 := rfl) (w2 := rfl) (w3 := rfl) (w4 := by omega) (wl := rfl) (jm := fun _ _ => rfl) (mv := ⟨fun _ => 0, fun _ _ => rfl, ?_, fun z => absurd rfl z⟩)
    decide
abbrev el_hp0 : em_Hp := ec_hz 0 0 ec_Z ec_ZJ (ec_rl [])
/-- the law, from its entry to its end -/
theorem el_whole (nm : String) (Γ : em_Cx) (hL : em_L Γ ≤ 3072) : ∃ (n3 m3 : Nat) (dl3 : Nat → Nat) (I3 : Nat → Nat → Int32) (J3 : Nat → Nat → Int64) (rv3 : em_Rv), em_Inv n3 m3 dl3 I3 J3 rv3 ∧ em_EW Γ 24 (eL nm) el_hp0 (some (.int 1), em_hm n3 m3 dl3 I3 J3 rv3) 0 [(0, .float 0)] [] el_hp0 := by
  obtain ⟨n3, m3, dl3, I3, J3, rv3, g1, g2, g3, g4⟩ := el_loop (hp0 := el_hp0) hL 512 0 85 5332 (fun _ => 0) ec_I9 ec_ZJ (14, 64, 65, 66, false) (by omega) (by omega) el_inv0
  refine ⟨n3, m3, dl3, I3, J3, rv3, g1, ?_⟩
  (repeat (refine em_pure (Nat.zero_le _) (kEL nm) rfl ?_))
  refine ec_nw (n' := 1) (m' := 8) (c1 := 7) (kEL nm) rfl rfl (by decide) rfl rfl rfl (fun _ => rfl) (fun _ => rfl) (by show Cond.classLink RL 7 RX7 ∈ lw_tbl; decide +kernel) (by decide +kernel) (by decide +kernel) (show 1 ≤ n3 by omega) (show 8 ≤ m3 by omega) ?_
  (repeat (refine em_pure (Nat.zero_le _) (kEL nm) rfl ?_))
  refine em_callI (μ' := mX7_init) (kEL nm) rfl lL_9 tX7_init (s_init_X7_0 Γ) rfl rfl (by decide) (Nat.le_of_ble_eq_true rfl) (show 53 ≤ n3 by omega) (show 2621 ≤ m3 by omega) ?_
  (repeat (refine em_pure (Nat.zero_le _) (kEL nm) rfl ?_))
  refine ec_nw (n' := 54) (m' := 2665) (c1 := 8) (kEL nm) rfl rfl (by decide) rfl rfl rfl (fun _ => rfl) (fun _ => rfl) (by show Cond.classLink RL 10 RX8 ∈ lw_tbl; decide +kernel) (by decide +kernel) (by decide +kernel) (show 54 ≤ n3 by omega) (show 2665 ≤ m3 by omega) ?_
  (repeat (refine em_pure (Nat.zero_le _) (kEL nm) rfl ?_))
  refine em_callI (μ' := mX8_init) (kEL nm) rfl lL_12 tX8_init (s_init_X8_53 Γ) rfl rfl (by decide) (Nat.le_of_ble_eq_true rfl) (show 85 ≤ n3 by omega) (show 5332 ≤ m3 by omega) ?_
  (repeat (refine em_pureT 18 (Nat.zero_le _) (kEL nm) rfl rfl ?_))
  refine em_loc (lc' := [(0, .float 0), (1, .ref 0), (2, .ref 53), (3, .int (nI 0))]) rfl ?_
  exact es_EW (hp' := em_hm 85 5332 (fun _ => 0) ec_I9 ec_ZJ (14, 64, 65, 66, false)) rfl rfl (fun H h => es_W0 h) g4
