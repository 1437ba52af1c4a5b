/-! THE INVARIANT, GO ON. The best tour, as the document has it: every way on, in order; a better value, or as good with fewer towns -/
abbrev et_at (fst : Nat → Int32) (t : Nat) (ar : Int32) : Int32 := if ar < fst t then fst t else ar
abbrev et_net (fst brg : Nat → Int32) (fo D : Int32) (t : Nat) (ar br : Int32) : Int32 := br + brg t - fo * (et_at fst t ar + 1 - D)
def et_up (s : Int32 × List Nat) (v : Int32) (p : List Nat) : Int32 × List Nat := if s.1 < v ∨ (v = s.1 ∧ p.length < s.2.length) then (v, p) else s
def et_go (fst lst brg wys : Nat → Int32) (fo D : Int32) (T : Nat) : Nat → List Nat → Nat → Int32 → Int32 → Int32 × List Nat → Int32 × List Nat
  | 0, _, _, _, _, s => s
  | f + 1, p, t, ar, br, s =>
    if lst t < et_at fst t ar then s
    else em_fold (fun k s => if k ∈ p ++ [t] then s else et_go fst lst brg wys fo D T f (p ++ [t]) k (et_at fst t ar + 1 + wys (8 * t + k)) (br + brg t) s) T (et_up s (et_net fst brg fo D t ar br) (p ++ [t]))
abbrev et_bst (fst lst brg wys : Nat → Int32) (fo : Int32) (T t D : Nat) : Int32 × List Nat := et_go fst lst brg wys fo (nI D) T 8 [] t (nI D) 0 (0, [])
abbrev et_is (r : Int32 × List Nat) (c v : Int32) (b : Nat → Int32) : Prop := c = nI r.2.length ∧ v = r.1 ∧ r.2.length ≤ 8 ∧ ∀ i, i < r.2.length → b i = nI (r.2.getD i 0)
def em_gD (I : Nat → Nat → Int32) (T : Nat) : Prop := (I 21 0 = nI T) ∧ (I 53 4 = nI T) ∧ (T ≤ 8) ∧ (I 71 = I 22) ∧ (I 72 = I 23) ∧ (I 73 = I 24) ∧ (I 74 = I 25) ∧ (I 53 5 = I 21 5) ∧ (∃ f, f ≤ 1000 ∧ I 21 5 = nI f) ∧ (∀ j, j < T → ∃ a b, a ≤ b ∧ b ≤ 1000 ∧ I 22 j = nI a ∧ I 23 j = nI b) ∧ (∀ j, j < T → ∃ x, x ≤ 10000 ∧ I 24 j = nI x) ∧ (∀ j, j < 64 → ∃ x, x ≤ 60 ∧ I 25 j = nI x) ∧ (I 21 6 = -1 ∨ ∃ t D, t < T ∧ D ≤ 1000 ∧ I 21 6 = nI t ∧ I 21 7 = nI D ∧ et_is (et_bst (I 22) (I 23) (I 24) (I 25) (I 21 5) T t D) (I 21 9) (I 21 10) (I 26))
theorem em_gD.T1 {I : Nat → Nat → Int32} {T : Nat} (h0_ : em_gD I T) : I 21 0 = nI T := h0_.1
theorem em_gD.T2 {I : Nat → Nat → Int32} {T : Nat} (h0_ : em_gD I T) : I 53 4 = nI T := h0_.2.1
theorem em_gD.T8 {I : Nat → Nat → Int32} {T : Nat} (h0_ : em_gD I T) : T ≤ 8 := h0_.2.2.1
theorem em_gD.e71 {I : Nat → Nat → Int32} {T : Nat} (h0_ : em_gD I T) : I 71 = I 22 := h0_.2.2.2.1
theorem em_gD.e72 {I : Nat → Nat → Int32} {T : Nat} (h0_ : em_gD I T) : I 72 = I 23 := h0_.2.2.2.2.1
theorem em_gD.e73 {I : Nat → Nat → Int32} {T : Nat} (h0_ : em_gD I T) : I 73 = I 24 := h0_.2.2.2.2.2.1
theorem em_gD.e74 {I : Nat → Nat → Int32} {T : Nat} (h0_ : em_gD I T) : I 74 = I 25 := h0_.2.2.2.2.2.2.1
theorem em_gD.fo {I : Nat → Nat → Int32} {T : Nat} (h0_ : em_gD I T) : I 53 5 = I 21 5 := h0_.2.2.2.2.2.2.2.1
theorem em_gD.fb {I : Nat → Nat → Int32} {T : Nat} (h0_ : em_gD I T) : ∃ f, f ≤ 1000 ∧ I 21 5 = nI f := h0_.2.2.2.2.2.2.2.2.1
theorem em_gD.td {I : Nat → Nat → Int32} {T : Nat} (h0_ : em_gD I T) : ∀ j, j < T → ∃ a b, a ≤ b ∧ b ≤ 1000 ∧ I 22 j = nI a ∧ I 23 j = nI b := h0_.2.2.2.2.2.2.2.2.2.1
theorem em_gD.tb {I : Nat → Nat → Int32} {T : Nat} (h0_ : em_gD I T) : ∀ j, j < T → ∃ x, x ≤ 10000 ∧ I 24 j = nI x := h0_.2.2.2.2.2.2.2.2.2.2.1
theorem em_gD.tw {I : Nat → Nat → Int32} {T : Nat} (h0_ : em_gD I T) : ∀ j, j < 64 → ∃ x, x ≤ 60 ∧ I 25 j = nI x := h0_.2.2.2.2.2.2.2.2.2.2.2.1
theorem em_gD.pc {I : Nat → Nat → Int32} {T : Nat} (h0_ : em_gD I T) : I 21 6 = -1 ∨ ∃ t D, t < T ∧ D ≤ 1000 ∧ I 21 6 = nI t ∧ I 21 7 = nI D ∧ et_is (et_bst (I 22) (I 23) (I 24) (I 25) (I 21 5) T t D) (I 21 9) (I 21 10) (I 26) := h0_.2.2.2.2.2.2.2.2.2.2.2.2
theorem em_gD.mk {I : Nat → Nat → Int32} {T : Nat} (T1 : I 21 0 = nI T) (T2 : I 53 4 = nI T) (T8 : T ≤ 8) (e71 : I 71 = I 22) (e72 : I 72 = I 23) (e73 : I 73 = I 24) (e74 : I 74 = I 25) (fo : I 53 5 = I 21 5) (fb : ∃ f, f ≤ 1000 ∧ I 21 5 = nI f) (td : ∀ j, j < T → ∃ a b, a ≤ b ∧ b ≤ 1000 ∧ I 22 j = nI a ∧ I 23 j = nI b) (tb : ∀ j, j < T → ∃ x, x ≤ 10000 ∧ I 24 j = nI x) (tw : ∀ j, j < 64 → ∃ x, x ≤ 60 ∧ I 25 j = nI x) (pc : I 21 6 = -1 ∨ ∃ t D, t < T ∧ D ≤ 1000 ∧ I 21 6 = nI t ∧ I 21 7 = nI D ∧ et_is (et_bst (I 22) (I 23) (I 24) (I 25) (I 21 5) T t D) (I 21 9) (I 21 10) (I 26)) : em_gD I T := ⟨T1, T2, T8, e71, e72, e73, e74, fo, fb, td, tb, tw, pc⟩
abbrev em_lrl (F : Int32) (N : Nat → Int32) (F' : Int32) (N' : Nat → Int32) (h : Int32) : Prop := (∃ x, x < 256 ∧ F = nI x) ∧ ((h = 0 ∧ F = 0 ∧ ∀ s, s < 5 → N (s + 1) = -1) ∨ (h = 1 ∧ F' = F ∧ ∀ s, s < 5 → N (s + 1) = N' s ∧ (N (s + 1) = -1 ∨ 0 ≤ N (s + 1))))
def em_gE (I : Nat → Nat → Int32) (S : Nat) : Prop := (I 28 1 = nI S) ∧ (I 53 35 = nI S) ∧ (S ≤ 200) ∧ (I 77 = I 29) ∧ (em_lrl (I 31 0) (I 32) (I 78 0) (fun s => I 79 (0 + s)) (I 80 0)) ∧ (em_lrl (I 33 0) (I 34) (I 78 1) (fun s => I 79 (5 + s)) (I 80 1)) ∧ (em_lrl (I 35 0) (I 36) (I 78 2) (fun s => I 79 (10 + s)) (I 80 2)) ∧ (em_lrl (I 37 0) (I 38) (I 78 3) (fun s => I 79 (15 + s)) (I 80 3)) ∧ (em_lrl (I 39 0) (I 40) (I 78 4) (fun s => I 79 (20 + s)) (I 80 4)) ∧ (em_lrl (I 41 0) (I 42) (I 78 5) (fun s => I 79 (25 + s)) (I 80 5)) ∧ (em_lrl (I 43 0) (I 44) (I 78 6) (fun s => I 79 (30 + s)) (I 80 6)) ∧ (em_lrl (I 45 0) (I 46) (I 78 7) (fun s => I 79 (35 + s)) (I 80 7))
theorem em_gE.s1 {I : Nat → Nat → Int32} {S : Nat} (h0_ : em_gE I S) : I 28 1 = nI S := h0_.1
theorem em_gE.s2 {I : Nat → Nat → Int32} {S : Nat} (h0_ : em_gE I S) : I 53 35 = nI S := h0_.2.1
theorem em_gE.s3 {I : Nat → Nat → Int32} {S : Nat} (h0_ : em_gE I S) : S ≤ 200 := h0_.2.2.1
theorem em_gE.tp {I : Nat → Nat → Int32} {S : Nat} (h0_ : em_gE I S) : I 77 = I 29 := h0_.2.2.2.1
theorem em_gE.w0 {I : Nat → Nat → Int32} {S : Nat} (h0_ : em_gE I S) : em_lrl (I 31 0) (I 32) (I 78 0) (fun s => I 79 (0 + s)) (I 80 0) := h0_.2.2.2.2.1
theorem em_gE.w1 {I : Nat → Nat → Int32} {S : Nat} (h0_ : em_gE I S) : em_lrl (I 33 0) (I 34) (I 78 1) (fun s => I 79 (5 + s)) (I 80 1) := h0_.2.2.2.2.2.1
theorem em_gE.w2 {I : Nat → Nat → Int32} {S : Nat} (h0_ : em_gE I S) : em_lrl (I 35 0) (I 36) (I 78 2) (fun s => I 79 (10 + s)) (I 80 2) := h0_.2.2.2.2.2.2.1
theorem em_gE.w3 {I : Nat → Nat → Int32} {S : Nat} (h0_ : em_gE I S) : em_lrl (I 37 0) (I 38) (I 78 3) (fun s => I 79 (15 + s)) (I 80 3) := h0_.2.2.2.2.2.2.2.1
theorem em_gE.w4 {I : Nat → Nat → Int32} {S : Nat} (h0_ : em_gE I S) : em_lrl (I 39 0) (I 40) (I 78 4) (fun s => I 79 (20 + s)) (I 80 4) := h0_.2.2.2.2.2.2.2.2.1
theorem em_gE.w5 {I : Nat → Nat → Int32} {S : Nat} (h0_ : em_gE I S) : em_lrl (I 41 0) (I 42) (I 78 5) (fun s => I 79 (25 + s)) (I 80 5) := h0_.2.2.2.2.2.2.2.2.2.1
theorem em_gE.w6 {I : Nat → Nat → Int32} {S : Nat} (h0_ : em_gE I S) : em_lrl (I 43 0) (I 44) (I 78 6) (fun s => I 79 (30 + s)) (I 80 6) := h0_.2.2.2.2.2.2.2.2.2.2.1
theorem em_gE.w7 {I : Nat → Nat → Int32} {S : Nat} (h0_ : em_gE I S) : em_lrl (I 45 0) (I 46) (I 78 7) (fun s => I 79 (35 + s)) (I 80 7) := h0_.2.2.2.2.2.2.2.2.2.2.2
theorem em_gE.mk {I : Nat → Nat → Int32} {S : Nat} (s1 : I 28 1 = nI S) (s2 : I 53 35 = nI S) (s3 : S ≤ 200) (tp : I 77 = I 29) (w0 : em_lrl (I 31 0) (I 32) (I 78 0) (fun s => I 79 (0 + s)) (I 80 0)) (w1 : em_lrl (I 33 0) (I 34) (I 78 1) (fun s => I 79 (5 + s)) (I 80 1)) (w2 : em_lrl (I 35 0) (I 36) (I 78 2) (fun s => I 79 (10 + s)) (I 80 2)) (w3 : em_lrl (I 37 0) (I 38) (I 78 3) (fun s => I 79 (15 + s)) (I 80 3)) (w4 : em_lrl (I 39 0) (I 40) (I 78 4) (fun s => I 79 (20 + s)) (I 80 4)) (w5 : em_lrl (I 41 0) (I 42) (I 78 5) (fun s => I 79 (25 + s)) (I 80 5)) (w6 : em_lrl (I 43 0) (I 44) (I 78 6) (fun s => I 79 (30 + s)) (I 80 6)) (w7 : em_lrl (I 45 0) (I 46) (I 78 7) (fun s => I 79 (35 + s)) (I 80 7)) : em_gE I S := ⟨s1, s2, s3, tp, w0, w1, w2, w3, w4, w5, w6, w7⟩
def ef_sum (v : Nat → Nat) : Nat → Nat
  | 0 => 0
  | q + 1 => ef_sum v q + v q
def em_gF (I : Nat → Nat → Int32) (J : Nat → Nat → Int64) (rv : em_Rv) (h : Nat) : Prop := (I 53 6 = I 49 3) ∧ (I 53 7 = I 49 4) ∧ (I 49 4 = nI h) ∧ (h ≤ 20) ∧ (I 82 = I 50) ∧ (∀ q, q < 64 → J (em_mb rv) q = J 51 q) ∧ (∃ v : Nat → Nat, (∀ q, q < 64 → J 51 q = lN (v q)) ∧ ef_sum v 64 ≤ 5 ^ h ∧ (¬ I 49 3 = -1 → 0 < ef_sum v 64))
theorem em_gF.w1 {I : Nat → Nat → Int32} {J : Nat → Nat → Int64} {rv : em_Rv} {h : Nat} (h0_ : em_gF I J rv h) : I 53 6 = I 49 3 := h0_.1
theorem em_gF.w2 {I : Nat → Nat → Int32} {J : Nat → Nat → Int64} {rv : em_Rv} {h : Nat} (h0_ : em_gF I J rv h) : I 53 7 = I 49 4 := h0_.2.1
theorem em_gF.w3 {I : Nat → Nat → Int32} {J : Nat → Nat → Int64} {rv : em_Rv} {h : Nat} (h0_ : em_gF I J rv h) : I 49 4 = nI h := h0_.2.2.1
theorem em_gF.w4 {I : Nat → Nat → Int32} {J : Nat → Nat → Int64} {rv : em_Rv} {h : Nat} (h0_ : em_gF I J rv h) : h ≤ 20 := h0_.2.2.2.1
theorem em_gF.wl {I : Nat → Nat → Int32} {J : Nat → Nat → Int64} {rv : em_Rv} {h : Nat} (h0_ : em_gF I J rv h) : I 82 = I 50 := h0_.2.2.2.2.1
theorem em_gF.jm {I : Nat → Nat → Int32} {J : Nat → Nat → Int64} {rv : em_Rv} {h : Nat} (h0_ : em_gF I J rv h) : ∀ q, q < 64 → J (em_mb rv) q = J 51 q := h0_.2.2.2.2.2.1
theorem em_gF.mv {I : Nat → Nat → Int32} {J : Nat → Nat → Int64} {rv : em_Rv} {h : Nat} (h0_ : em_gF I J rv h) : ∃ v : Nat → Nat, (∀ q, q < 64 → J 51 q = lN (v q)) ∧ ef_sum v 64 ≤ 5 ^ h ∧ (¬ I 49 3 = -1 → 0 < ef_sum v 64) := h0_.2.2.2.2.2.2
theorem em_gF.mk {I : Nat → Nat → Int32} {J : Nat → Nat → Int64} {rv : em_Rv} {h : Nat} (w1 : I 53 6 = I 49 3) (w2 : I 53 7 = I 49 4) (w3 : I 49 4 = nI h) (w4 : h ≤ 20) (wl : I 82 = I 50) (jm : ∀ q, q < 64 → J (em_mb rv) q = J 51 q) (mv : ∃ v : Nat → Nat, (∀ q, q < 64 → J 51 q = lN (v q)) ∧ ef_sum v 64 ≤ 5 ^ h ∧ (¬ I 49 3 = -1 → 0 < ef_sum v 64)) : em_gF I J rv h := ⟨w1, w2, w3, w4, wl, jm, mv⟩
def em_Iv (n m : Nat) (dl : Nat → Nat) (I : Nat → Nat → Int32) (J : Nat → Nat → Int64) (rv : em_Rv) (N G t c lam mu T S h : Nat) : Prop := (85 ≤ n) ∧ (em_gA I N G t) ∧ (em_gB n m dl I rv c lam mu) ∧ (em_gC I N) ∧ (em_gD I T) ∧ (em_gE I S) ∧ (em_gF I J rv h)
theorem em_Iv.hB {n m : Nat} {dl : Nat → Nat} {I : Nat → Nat → Int32} {J : Nat → Nat → Int64} {rv : em_Rv} {N G t c lam mu T S h : Nat} (h0_ : em_Iv n m dl I J rv N G t c lam mu T S h) : 85 ≤ n := h0_.1
theorem em_Iv.A {n m : Nat} {dl : Nat → Nat} {I : Nat → Nat → Int32} {J : Nat → Nat → Int64} {rv : em_Rv} {N G t c lam mu T S h : Nat} (h0_ : em_Iv n m dl I J rv N G t c lam mu T S h) : em_gA I N G t := h0_.2.1
theorem em_Iv.B {n m : Nat} {dl : Nat → Nat} {I : Nat → Nat → Int32} {J : Nat → Nat → Int64} {rv : em_Rv} {N G t c lam mu T S h : Nat} (h0_ : em_Iv n m dl I J rv N G t c lam mu T S h) : em_gB n m dl I rv c lam mu := h0_.2.2.1
theorem em_Iv.C {n m : Nat} {dl : Nat → Nat} {I : Nat → Nat → Int32} {J : Nat → Nat → Int64} {rv : em_Rv} {N G t c lam mu T S h : Nat} (h0_ : em_Iv n m dl I J rv N G t c lam mu T S h) : em_gC I N := h0_.2.2.2.1
theorem em_Iv.D {n m : Nat} {dl : Nat → Nat} {I : Nat → Nat → Int32} {J : Nat → Nat → Int64} {rv : em_Rv} {N G t c lam mu T S h : Nat} (h0_ : em_Iv n m dl I J rv N G t c lam mu T S h) : em_gD I T := h0_.2.2.2.2.1
theorem em_Iv.E {n m : Nat} {dl : Nat → Nat} {I : Nat → Nat → Int32} {J : Nat → Nat → Int64} {rv : em_Rv} {N G t c lam mu T S h : Nat} (h0_ : em_Iv n m dl I J rv N G t c lam mu T S h) : em_gE I S := h0_.2.2.2.2.2.1
theorem em_Iv.F {n m : Nat} {dl : Nat → Nat} {I : Nat → Nat → Int32} {J : Nat → Nat → Int64} {rv : em_Rv} {N G t c lam mu T S h : Nat} (h0_ : em_Iv n m dl I J rv N G t c lam mu T S h) : em_gF I J rv h := h0_.2.2.2.2.2.2
theorem em_Iv.mk {n m : Nat} {dl : Nat → Nat} {I : Nat → Nat → Int32} {J : Nat → Nat → Int64} {rv : em_Rv} {N G t c lam mu T S h : Nat} (hB : 85 ≤ n) (A : em_gA I N G t) (B : em_gB n m dl I rv c lam mu) (C : em_gC I N) (D : em_gD I T) (E : em_gE I S) (F : em_gF I J rv h) : em_Iv n m dl I J rv N G t c lam mu T S h := ⟨hB, A, B, C, D, E, F⟩
def em_Inv (n m : Nat) (dl : Nat → Nat) (I : Nat → Nat → Int32) (J : Nat → Nat → Int64) (rv : em_Rv) : Prop := ∃ N G t c lam mu T S h, em_Iv n m dl I J rv N G t c lam mu T S h
theorem em_Iv.inv {n m : Nat} {dl : Nat → Nat} {I : Nat → Nat → Int32} {J : Nat → Nat → Int64} {rv : em_Rv} {N G t c lam mu T S h : Nat} (H : em_Iv n m dl I J rv N G t c lam mu T S h) : em_Inv n m dl I J rv := ⟨N, G, t, c, lam, mu, T, S, h, H⟩
/-! rows that the book's group looks at by variable numbers -/
def ek_d (k : Nat) : Prop := k = 12 ∨ k = 13 ∨ k = 14 ∨ k = 63 ∨ k = 64 ∨ k = 65 ∨ k = 66 ∨ 85 ≤ k
def ek_b (k : Nat) : Bool := Nat.blt k 12 || (Nat.blt 14 k && Nat.blt k 63) || (Nat.blt 66 k && Nat.blt k 85)
def ek_ok (I I' : Nat → Nat → Int32) : Prop := ∀ k, ek_d k → I' k = I k
theorem ek_r (I : Nat → Nat → Int32) : ek_ok I I := fun _ _ => rfl
theorem ek_s {I I' : Nat → Nat → Int32} {q : Nat} {r : Nat → Int32} (h : ek_ok I I') (hq : ek_b q = true) : ek_ok I (va_up I' q r) := by
  intro k hk
  have hne : ¬ k = q := by
    intro e
    subst e
    have e1 : (Nat.blt k 12 = true) ↔ k < 12 := ⟨Nat.le_of_ble_eq_true, Nat.ble_eq_true_of_le⟩
    have e2 : (Nat.blt 14 k = true) ↔ 14 < k := ⟨Nat.le_of_ble_eq_true, Nat.ble_eq_true_of_le⟩
    have e3 : (Nat.blt k 63 = true) ↔ k < 63 := ⟨Nat.le_of_ble_eq_true, Nat.ble_eq_true_of_le⟩
    have e4 : (Nat.blt 66 k = true) ↔ 66 < k := ⟨Nat.le_of_ble_eq_true, Nat.ble_eq_true_of_le⟩
    have e5 : (Nat.blt k 85 = true) ↔ k < 85 := ⟨Nat.le_of_ble_eq_true, Nat.ble_eq_true_of_le⟩
    unfold ek_b at hq
    rw [Bool.or_eq_true, Bool.or_eq_true, Bool.and_eq_true, Bool.and_eq_true, e1, e2, e3, e4, e5] at hq
    unfold ek_d at hk
    omega
  rw [va_up_ne _ _ hne]
  exact h k hk
theorem em_gB.frame {n m : Nat} {dl : Nat → Nat} {I I' : Nat → Nat → Int32} {rv : em_Rv} {c lam mu : Nat} (h : em_gB n m dl I rv c lam mu) (hs : ek_ok I I') (h53 : I' 53 3 = I 53 3) : em_gB n m dl I' rv c lam mu := by
  have k1 := h.k1
  have k2 := h.k2
  have k3 := h.k3
  have L1 := h.L1
  have e12 : I' 12 = I 12 := hs 12 (by unfold ek_d; omega)
  have e13 : I' 13 = I 13 := hs 13 (by unfold ek_d; omega)
  have e63 : I' 63 = I 63 := hs 63 (by unfold ek_d; omega)
  have r0 : I' rv.1 = I rv.1 := hs _ (by unfold ek_d; omega)
  have r1 : I' rv.2.1 = I rv.2.1 := hs _ (by unfold ek_d; omega)
  have r2 : I' rv.2.2.1 = I rv.2.2.1 := hs _ (by unfold ek_d; omega)
  have r3 : I' rv.2.2.2.1 = I rv.2.2.2.1 := hs _ (by unfold ek_d; omega)
  exact em_gB.mk (c1 := by rw [e12]; exact h.c1) (c2 := by rw [h53]; exact h.c2) (c3 := h.c3) (u := by rw [e63, e13]; exact h.u) (al := by rw [e12, e13]; exact h.al) (L1 := h.L1) (L2 := h.L2) (L3 := h.L3) (L4 := h.L4) (L5 := h.L5) (k1 := h.k1) (k2 := h.k2) (k3 := h.k3) (t1 := h.t1) (t2 := h.t2) (t3 := h.t3) (l1 := h.l1) (l2 := h.l2) (l3 := h.l3) (d12 := h.d12) (d13 := h.d13) (d23 := h.d23) (d01 := h.d01) (d02 := h.d02) (d03 := h.d03) (u1 := h.u1) (u2 := h.u2) (u3 := h.u3) (ln := by rw [r0, r1, r2, r3]; exact h.ln) (nn := h.nn) (mm := h.mm)
/-- class and reference at one call: the same answer, and the invariant again -/
def em_pair (Γ : em_Cx) (μc μr : em_Me) (a : List Value) (n m : Nat) (dl : Nat → Nat) (I : Nat → Nat → Int32) (J : Nat → Nat → Int64) (rv : em_Rv) : Prop :=
  ∃ (v : Int32) (K1 K2 : Nat) (hp1 : em_Hp) (n2 m2 : Nat) (dl2 : Nat → Nat) (I2 : Nat → Nat → Int32) (J2 : Nat → Nat → Int64) (rv2 : em_Rv), K1 ≤ 23 ∧ K2 ≤ 23 ∧ em_MC Γ K1 μc (.ref 0 :: a) (em_hm n m dl I J rv) (some (.int v)) hp1 ∧ em_MC Γ K2 μr (.ref 53 :: a) hp1 (some (.int v)) (em_hm n2 m2 dl2 I2 J2 rv2) ∧ em_Inv n2 m2 dl2 I2 J2 rv2
def em_pairL (Γ : em_Cx) (μc μr : em_Me) (a : List Value) (n m : Nat) (dl : Nat → Nat) (I : Nat → Nat → Int32) (J : Nat → Nat → Int64) (rv : em_Rv) : Prop :=
  ∃ (v : Int64) (K1 K2 : Nat) (hp1 : em_Hp) (n2 m2 : Nat) (dl2 : Nat → Nat) (I2 : Nat → Nat → Int32) (J2 : Nat → Nat → Int64) (rv2 : em_Rv), K1 ≤ 23 ∧ K2 ≤ 23 ∧ em_MC Γ K1 μc (.ref 0 :: a) (em_hm n m dl I J rv) (some (.long v)) hp1 ∧ em_MC Γ K2 μr (.ref 53 :: a) hp1 (some (.long v)) (em_hm n2 m2 dl2 I2 J2 rv2) ∧ em_Inv n2 m2 dl2 I2 J2 rv2
section Pairs
variable {Γ : em_Cx} {n m : Nat} {dl : Nat → Nat} {I : Nat → Nat → Int32} {J : Nat → Nat → Int64} {rv : em_Rv}
theorem ep_mk {μc μr : em_Me} {a : List Value} {v : Int32} {K1 K2 : Nat} {hp1 : em_Hp} {n2 m2 : Nat} {dl2 : Nat → Nat} {I2 : Nat → Nat → Int32} {J2 : Nat → Nat → Int64} {rv2 : em_Rv} (h1 : K1 ≤ 23) (h2 : K2 ≤ 23) (c : em_MC Γ K1 μc (.ref 0 :: a) (em_hm n m dl I J rv) (some (.int v)) hp1) (r : em_MC Γ K2 μr (.ref 53 :: a) hp1 (some (.int v)) (em_hm n2 m2 dl2 I2 J2 rv2)) (hI : em_Inv n2 m2 dl2 I2 J2 rv2) : em_pair Γ μc μr a n m dl I J rv := ⟨v, K1, K2, hp1, n2, m2, dl2, I2, J2, rv2, h1, h2, c, r, hI⟩
theorem ep_mkL {μc μr : em_Me} {a : List Value} {v : Int64} {K1 K2 : Nat} {hp1 : em_Hp} {n2 m2 : Nat} {dl2 : Nat → Nat} {I2 : Nat → Nat → Int32} {J2 : Nat → Nat → Int64} {rv2 : em_Rv} (h1 : K1 ≤ 23) (h2 : K2 ≤ 23) (c : em_MC Γ K1 μc (.ref 0 :: a) (em_hm n m dl I J rv) (some (.long v)) hp1) (r : em_MC Γ K2 μr (.ref 53 :: a) hp1 (some (.long v)) (em_hm n2 m2 dl2 I2 J2 rv2)) (hI : em_Inv n2 m2 dl2 I2 J2 rv2) : em_pairL Γ μc μr a n m dl I J rv := ⟨v, K1, K2, hp1, n2, m2, dl2, I2, J2, rv2, h1, h2, c, r, hI⟩
theorem p_booked (H : em_Inv n m dl I J rv) {x : Int32} : em_pair Γ mX7_booked mX8_booked [.int x] n m dl I J rv := by
  have H0 := H
  obtain ⟨N, G, t, c, lam, mu, T, S, h, H⟩ := H
  have r := s_mBooked (Γ := Γ) (m := m) (dl := dl) (I := I) (J := J) (rv := rv) H.hB (x := x)
  rw [H.B.u] at r
  exact ep_mk (by decide) (by decide) (d_booked H.hB (s_unitsFor H.hB)) r H0
theorem p_beast (H : em_Inv n m dl I J rv) {x y : Int32} : em_pair Γ mX7_beast mX8_beast [.int x, .int y] n m dl I J rv := by
  have H0 := H
  obtain ⟨N, G, t, c, lam, mu, T, S, h, H⟩ := H
  have hA := H.A
  have hN := hA.n2
  by_cases hc : (0 ≤ x ∧ x ≤ 7) ∧ (0 ≤ y ∧ y ≤ I 1 10) ∧ I 1 2 < 40
  · obtain ⟨h1, h2, h3⟩ := hc
    have hN2 : N < 40 := by
      rw [hA.n1] at h3
      exact (nI_ltI (b := 40) (by omega) (by omega)).mp h3
    refine ep_mk (by decide) (by decide) (d_beast H.hB (s_tellBeast_ok H.hB hA.n1 hN2 h1 h2)) (s_mBeast_ok H.hB (N := N) hA.m1 hN2 h1 (show 0 ≤ y ∧ y ≤ I 53 0 by rw [hA.m0, ← hA.t1]; exact h2)) ?_
    refine em_Iv.inv (N := N + 1) (G := G) (t := t) (c := c) (lam := lam) (mu := mu) (T := T) (S := S) (h := h) (em_Iv.mk (hB := H.hB) (A := ?_) (B := H.B.frame (by repeat (first | exact ek_r _ | refine ek_s ?_ rfl)) rfl) (C := ?_) (D := H.D) (E := H.E) (F := H.F))
    · obtain ⟨k, hk, rfl⟩ := nI_of2 (M := 7) (n := 7) rfl (Int32.not_lt.mpr h1.1) h1.2
      rw [hA.t1] at h2
      obtain ⟨f, hf, rfl⟩ := nI_of2 (M := nI t) (n := t) (nI_toInt (by have := hA.t2; omega)) (Int32.not_lt.mpr h2.1) h2.2
      have lo : ∀ (r : Nat → Int32) (v : Int32) b, b < N → va_up r N v b = r b := fun r v b hb => va_up_ne _ _ (by omega)
      refine em_gA.mk (n1 := ?_) (n2 := by omega) (g1 := hA.g1) (g2 := hA.g2) (t1 := hA.t1) (t2 := hA.t2) (m1 := ?_) (m2 := hA.m2) (m0 := hA.m0) (e54 := hA.e54) (e55 := hA.e55) (e56 := ?_) (e57 := ?_) (e58 := ?_) (e60 := hA.e60) (e61 := hA.e61) (e62 := hA.e62) (kd := ?_) (fd := hA.fd) (wt := hA.wt) (fr := ?_) (tl := ?_) (gb := ?_) (gf := ?_) (go := hA.go) (gs := hA.gs)
      · show I 1 2 + 1 = nI (N + 1)
        rw [hA.n1, nI_1]
      · show I 53 1 + 1 = nI (N + 1)
        rw [hA.m1, nI_1]
      · show va_up (I 56) N _ = va_up (I 4) N _
        rw [hA.e56]
      · show va_up (I 57) N _ = va_up (I 5) N _
        rw [hA.e57]
      · show va_up (I 58) N (I 53 0) = va_up (I 6) N (I 1 10)
        rw [hA.e58, hA.m0, hA.t1]
      · intro b hb
        show ∃ k', k' < 8 ∧ va_up (I 4) N (nI k) b = nI k'
        by_cases e : b = N
        · subst e; exact ⟨k, by omega, va_up_self _ _ _⟩
        · obtain ⟨k', h', e'⟩ := hA.kd b (by omega)
          exact ⟨k', h', by rw [va_up_ne _ _ e, e']⟩
      · intro b hb
        show ∃ k', k' ≤ t ∧ va_up (I 5) N (nI f) b = nI k'
        by_cases e : b = N
        · subst e; exact ⟨f, hf, va_up_self _ _ _⟩
        · obtain ⟨k', h', e'⟩ := hA.fr b (by omega)
          exact ⟨k', h', by rw [va_up_ne _ _ e, e']⟩
      · intro b hb
        show ∃ k', k' ≤ t ∧ va_up (I 6) N (I 1 10) b = nI k'
        by_cases e : b = N
        · subst e; exact ⟨t, Nat.le_refl _, by rw [va_up_self, hA.t1]⟩
        · obtain ⟨k', h', e'⟩ := hA.tl b (by omega)
          exact ⟨k', h', by rw [va_up_ne _ _ e, e']⟩
      · intro i hi
        obtain ⟨b, hb, e⟩ := hA.gb i hi
        exact ⟨b, by omega, e⟩
      · intro i hi
        rcases hA.gf i hi with e | ⟨k', b, h1, h2, e1, e2, e3⟩
        · exact Or.inl e
        · right
          refine ⟨k', b, h1, by omega, e1, e2, ?_⟩
          show va_up (I 5) N (nI f) b ≤ _
          rw [va_up_ne _ _ (by omega)]
          exact e3
    · have hC := H.C
      refine em_gC.mk (wg := ?_) (wn := ?_) (wr := ?_) (br := hC.br) (bb := hC.bb) (bv := hC.bv) (bs := hC.bs)
      · intro b hb
        show va_up (I 59) N (-1) b = I 16 b
        by_cases e : b = N
        · subst e; rw [va_up_self, hC.wn b (Nat.le_refl _) hN2]
        · rw [va_up_ne _ _ e]; exact hC.wg b (by omega)
      · intro b h1 h2
        exact hC.wn b (by omega) h2
      · intro b hb
        by_cases e : b = N
        · subst e; exact Or.inl (hC.wn b (Nat.le_refl _) hN2)
        · exact hC.wr b (by omega)
  · refine ep_mk (by decide) (by decide) (d_beast H.hB (s_tellBeast_no H.hB hc)) (s_mBeast_no H.hB (fun z => hc ⟨z.1, ?_, ?_⟩)) H0
    · rw [hA.t1, ← hA.m0]
      exact z.2.1
    · rw [hA.n1]
      refine nI_lt (b := 40) ?_ (by omega)
      have : ¬ N = 40 := fun e => z.2.2 (by rw [hA.m1, e]; rfl)
      omega
end Pairs
