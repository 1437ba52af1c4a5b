/-! THE METHODS' TABLES: how they are checked -/
def em_tr {α : Type} (N : Nat) (f : Nat → Option α) : Nat → Option α := fun pc => bif Nat.blt pc N then f pc else none
theorem em_tr_none {α : Type} {N : Nat} {f : Nat → Option α} {pc : Nat} (h : N ≤ pc) : em_tr N f pc = none := by
  have h1 : Nat.blt pc N = false := by
    cases hb : Nat.blt pc N with
    | false => rfl
    | true => have := Nat.le_of_ble_eq_true hb; omega
  simp [em_tr, h1]
theorem em_in {k : Nat} {w : Cond} (h : tables_1[k]? = some w) : w ∈ lw_tbl := List.mem_append_right _ (List.mem_of_getElem? h)
def em_ck1 (own : String) (c : ByteArray) (q : Nat × Nat × Int32 × Nat) (pc : Nat) : Bool := match em_dec q.1 q.2.1 q.2.2.1 pc with
  | some (i, len) => decide (decode c pc = .ok (i, len)) && (decide (q.2.2.2 = pc + len) && (!decide (q.1 = 37) || decide (Cond.constantLong own q.2.1 (-1) ∈ lw_tbl)))
  | none => false
def em_ckR (own : String) (c : ByteArray) (f : Nat → Option (Nat × Nat × Int32 × Nat)) (lo n : Nat) : Bool := (List.range n).all (fun i => match f (lo + i) with
  | some q => em_ck1 own c q (lo + i)
  | none => true)
theorem em_ckR_at {own : String} {c : ByteArray} {f : Nat → Option (Nat × Nat × Int32 × Nat)} {lo n : Nat} (h : em_ckR own c f lo n = true) {pc : Nat} (h1 : lo ≤ pc) (h2 : pc < lo + n) {q : Nat × Nat × Int32 × Nat} (hq : f pc = some q) : em_ck1 own c q pc = true := by
  have h3 := List.all_eq_true.mp h (pc - lo) (List.mem_range.mpr (by omega))
  rw [show lo + (pc - lo) = pc by omega, hq] at h3
  exact h3
def em_ckF (own : String) (f : Nat → Option (Nat × Nat)) (N : Nat) : Bool := (List.range N).all (fun idx => match f idx with
  | some (c, j) => (match vwCl[c]? with
    | some r => decide (j < r.2.2) && decide (Cond.fieldLink own idx (r.2.1 j).1 (r.2.1 j).2.1 (r.2.1 j).2.2.1 ∈ lw_tbl)
    | none => false)
  | none => true)
theorem em_okF_of {own : String} {f : Nat → Option (Nat × Nat)} {N : Nat} (h : em_ckF own (em_tr N f) N = true) : ∀ idx c j, em_tr N f idx = some (c, j) → em_okF own idx c j := by
  intro idx c j hf
  by_cases hN : idx < N
  · have h3 := List.all_eq_true.mp h idx (List.mem_range.mpr hN)
    rw [hf] at h3
    simp only at h3
    split at h3
    · rename_i r hr
      rw [Bool.and_eq_true, decide_eq_true_eq, decide_eq_true_eq] at h3
      exact ⟨r, hr, h3.1, h3.2⟩
    · cases h3
  · rw [em_tr_none (by omega)] at hf
    cases hf
def em_ckK (own : String) (f : Nat → Option Int32) (N : Nat) : Bool := (List.range N).all (fun idx => match f idx with
  | some v => decide (Cond.constant own idx v ∈ lw_tbl)
  | none => true)
theorem em_okK_of {own : String} {f : Nat → Option Int32} {N : Nat} (h : em_ckK own (em_tr N f) N = true) : ∀ idx v, em_tr N f idx = some v → Cond.constant own idx v ∈ lw_tbl := by
  intro idx v hf
  by_cases hN : idx < N
  · have h3 := List.all_eq_true.mp h idx (List.mem_range.mpr hN)
    rw [hf] at h3
    exact of_decide_eq_true h3
  · rw [em_tr_none (by omega)] at hf
    cases hf
theorem em_okM {μ : em_Me} {N : Nat} {f : Nat → Option (Nat × Nat × Int32 × Nat)} (he : em_i μ = em_tr N f) (h : ∀ pc, pc < N → ∀ q, em_tr N f pc = some q → em_ck1 (em_own μ) (em_c μ) q pc = true) (hF : ∀ idx c j, em_fl μ idx = some (c, j) → em_okF (em_own μ) idx c j) (hK : ∀ idx v, em_kl μ idx = some v → Cond.constant (em_own μ) idx v ∈ lw_tbl) : em_ok μ := by
  have key : ∀ pc op a b nx, em_i μ pc = some (op, a, b, nx) → em_ck1 (em_own μ) (em_c μ) (op, a, b, nx) pc = true := by
    intro pc op a b nx hi
    rw [he] at hi
    by_cases hN : pc < N
    · exact h pc hN _ hi
    · rw [em_tr_none (by omega)] at hi; cases hi
  refine ⟨⟨N, fun pc hpc => by rw [he]; exact em_tr_none hpc, fun pc hpc op a b nx hi => ?_⟩, hF, hK, fun pc a b nx hi => ?_⟩
  · have h1 := key pc op a b nx hi
    unfold em_ck1 at h1
    split at h1
    · rename_i i len hd
      rw [Bool.and_eq_true, Bool.and_eq_true, decide_eq_true_eq, decide_eq_true_eq] at h1
      exact ⟨i, len, hd, h1.1, h1.2.1⟩
    · cases h1
  · have h1 := key pc 37 a b nx hi
    unfold em_ck1 at h1
    split at h1
    · rw [Bool.and_eq_true, Bool.and_eq_true] at h1
      have h2 := h1.2.2
      simp only [decide_true, Bool.not_true, Bool.false_or, decide_eq_true_eq] at h2
      exact h2
    · cases h1

def fX0 : Nat → Option (Nat × Nat) := em_tr 23 (fun i => (bif Nat.blt i 18 then (bif Nat.blt i 15 then (bif Nat.beq i 9 then some (0, 0) else none) else (bif Nat.beq i 15 then some (0, 2) else none)) else (bif Nat.blt i 22 then (bif Nat.beq i 18 then some (0, 3) else none) else (bif Nat.beq i 22 then some (0, 1) else none))))
theorem fX0_ok : ∀ idx c j, fX0 idx = some (c, j) → em_okF RX0 idx c j := em_okF_of (by decide +kernel)
def qX0 : Nat → Option Int32 := em_tr 43 (fun i => (bif Nat.blt i 42 then (bif Nat.beq i 29 then some (-1000000) else none) else (bif Nat.beq i 42 then some (60000) else none)))
theorem qX0_ok : ∀ idx v, qX0 idx = some v → Cond.constant RX0 idx v ∈ lw_tbl := em_okK_of (by decide +kernel)
def fX1 : Nat → Option (Nat × Nat) := em_tr 68 (fun i => (bif Nat.blt i 31 then (bif Nat.blt i 21 then (bif Nat.blt i 15 then (bif Nat.beq i 9 then some (1, 1) else none) else (bif Nat.blt i 18 then (bif Nat.beq i 15 then some (1, 2) else none) else (bif Nat.beq i 18 then some (1, 3) else none))) else (bif Nat.blt i 24 then (bif Nat.beq i 21 then some (1, 4) else none) else (bif Nat.blt i 28 then (bif Nat.beq i 24 then some (1, 6) else none) else (bif Nat.beq i 28 then some (1, 8) else none)))) else (bif Nat.blt i 58 then (bif Nat.blt i 40 then (bif Nat.beq i 31 then some (1, 11) else none) else (bif Nat.blt i 51 then (bif Nat.beq i 40 then some (1, 0) else none) else (bif Nat.beq i 51 then some (1, 5) else none))) else (bif Nat.blt i 64 then (bif Nat.blt i 61 then (bif Nat.beq i 58 then some (1, 10) else none) else (bif Nat.beq i 61 then some (1, 9) else none)) else (bif Nat.blt i 67 then (bif Nat.beq i 64 then some (1, 7) else none) else (bif Nat.beq i 67 then some (1, 12) else none))))))
theorem fX1_ok : ∀ idx c j, fX1 idx = some (c, j) → em_okF RX1 idx c j := em_okF_of (by decide +kernel)
def qX1 : Nat → Option Int32 := em_tr 0 (fun i => none)
theorem qX1_ok : ∀ idx v, qX1 idx = some v → Cond.constant RX1 idx v ∈ lw_tbl := em_okK_of (by decide +kernel)
def fX2 : Nat → Option (Nat × Nat) := em_tr 27 (fun i => (bif Nat.blt i 19 then (bif Nat.blt i 15 then (bif Nat.beq i 9 then some (2, 0) else none) else (bif Nat.beq i 15 then some (2, 1) else none)) else (bif Nat.blt i 22 then (bif Nat.beq i 19 then some (2, 2) else none) else (bif Nat.blt i 26 then (bif Nat.beq i 22 then some (2, 3) else none) else (bif Nat.beq i 26 then some (2, 4) else none)))))
theorem fX2_ok : ∀ idx c j, fX2 idx = some (c, j) → em_okF RX2 idx c j := em_okF_of (by decide +kernel)
def qX2 : Nat → Option Int32 := em_tr 0 (fun i => none)
theorem qX2_ok : ∀ idx v, qX2 idx = some v → Cond.constant RX2 idx v ∈ lw_tbl := em_okK_of (by decide +kernel)
def fX3 : Nat → Option (Nat × Nat) := em_tr 70 (fun i => (bif Nat.blt i 30 then (bif Nat.blt i 21 then (bif Nat.blt i 15 then (bif Nat.beq i 9 then some (3, 0) else none) else (bif Nat.blt i 18 then (bif Nat.beq i 15 then some (3, 1) else none) else (bif Nat.beq i 18 then some (3, 3) else none))) else (bif Nat.blt i 24 then (bif Nat.beq i 21 then some (3, 4) else none) else (bif Nat.blt i 27 then (bif Nat.beq i 24 then some (3, 5) else none) else (bif Nat.beq i 27 then some (3, 7) else none)))) else (bif Nat.blt i 39 then (bif Nat.blt i 33 then (bif Nat.beq i 30 then some (3, 8) else none) else (bif Nat.blt i 36 then (bif Nat.beq i 33 then some (3, 9) else none) else (bif Nat.beq i 36 then some (3, 11) else none))) else (bif Nat.blt i 52 then (bif Nat.blt i 48 then (bif Nat.beq i 39 then some (3, 12) else none) else (bif Nat.beq i 48 then some (3, 10) else none)) else (bif Nat.blt i 69 then (bif Nat.beq i 52 then some (3, 2) else none) else (bif Nat.beq i 69 then some (3, 6) else none))))))
theorem fX3_ok : ∀ idx c j, fX3 idx = some (c, j) → em_okF RX3 idx c j := em_okF_of (by decide +kernel)
def qX3 : Nat → Option Int32 := em_tr 0 (fun i => none)
theorem qX3_ok : ∀ idx v, qX3 idx = some v → Cond.constant RX3 idx v ∈ lw_tbl := em_okK_of (by decide +kernel)
def fX4 : Nat → Option (Nat × Nat) := em_tr 22 (fun i => (bif Nat.blt i 21 then (bif Nat.beq i 9 then some (4, 1) else none) else (bif Nat.beq i 21 then some (4, 0) else none)))
theorem fX4_ok : ∀ idx c j, fX4 idx = some (c, j) → em_okF RX4 idx c j := em_okF_of (by decide +kernel)
def qX4 : Nat → Option Int32 := em_tr 0 (fun i => none)
theorem qX4_ok : ∀ idx v, qX4 idx = some v → Cond.constant RX4 idx v ∈ lw_tbl := em_okK_of (by decide +kernel)
def fX5 : Nat → Option (Nat × Nat) := em_tr 16 (fun i => (bif Nat.blt i 15 then (bif Nat.beq i 9 then some (5, 0) else none) else (bif Nat.beq i 15 then some (5, 1) else none)))
theorem fX5_ok : ∀ idx c j, fX5 idx = some (c, j) → em_okF RX5 idx c j := em_okF_of (by decide +kernel)
def qX5 : Nat → Option Int32 := em_tr 0 (fun i => none)
theorem qX5_ok : ∀ idx v, qX5 idx = some v → Cond.constant RX5 idx v ∈ lw_tbl := em_okK_of (by decide +kernel)
def fX6 : Nat → Option (Nat × Nat) := em_tr 28 (fun i => (bif Nat.blt i 21 then (bif Nat.blt i 15 then (bif Nat.beq i 9 then some (6, 1) else none) else (bif Nat.blt i 18 then (bif Nat.beq i 15 then some (6, 2) else none) else (bif Nat.beq i 18 then some (6, 3) else none))) else (bif Nat.blt i 24 then (bif Nat.beq i 21 then some (6, 4) else none) else (bif Nat.blt i 27 then (bif Nat.beq i 24 then some (6, 5) else none) else (bif Nat.beq i 27 then some (6, 0) else none)))))
theorem fX6_ok : ∀ idx c j, fX6 idx = some (c, j) → em_okF RX6 idx c j := em_okF_of (by decide +kernel)
def qX6 : Nat → Option Int32 := em_tr 0 (fun i => none)
theorem qX6_ok : ∀ idx v, qX6 idx = some v → Cond.constant RX6 idx v ∈ lw_tbl := em_okK_of (by decide +kernel)
def fX7 : Nat → Option (Nat × Nat) := em_tr 61 (fun i => (bif Nat.blt i 42 then (bif Nat.blt i 28 then (bif Nat.blt i 19 then (bif Nat.beq i 10 then some (7, 0) else none) else (bif Nat.beq i 19 then some (7, 1) else none)) else (bif Nat.blt i 35 then (bif Nat.beq i 28 then some (7, 2) else none) else (bif Nat.beq i 35 then some (7, 3) else none))) else (bif Nat.blt i 53 then (bif Nat.blt i 48 then (bif Nat.beq i 42 then some (7, 4) else none) else (bif Nat.beq i 48 then some (7, 5) else none)) else (bif Nat.blt i 60 then (bif Nat.beq i 53 then some (7, 6) else none) else (bif Nat.beq i 60 then some (7, 7) else none)))))
theorem fX7_ok : ∀ idx c j, fX7 idx = some (c, j) → em_okF RX7 idx c j := em_okF_of (by decide +kernel)
def qX7 : Nat → Option Int32 := em_tr 0 (fun i => none)
theorem qX7_ok : ∀ idx v, qX7 idx = some v → Cond.constant RX7 idx v ∈ lw_tbl := em_okK_of (by decide +kernel)
def fX8 : Nat → Option (Nat × Nat) := em_tr 244 (fun i => (bif Nat.blt i 78 then (bif Nat.blt i 44 then (bif Nat.blt i 26 then (bif Nat.blt i 17 then (bif Nat.blt i 13 then (bif Nat.beq i 9 then some (8, 6) else none) else (bif Nat.beq i 13 then some (8, 8) else none)) else (bif Nat.blt i 20 then (bif Nat.beq i 17 then some (8, 9) else none) else (bif Nat.blt i 23 then (bif Nat.beq i 20 then some (8, 10) else none) else (bif Nat.beq i 23 then some (8, 11) else none)))) else (bif Nat.blt i 35 then (bif Nat.blt i 29 then (bif Nat.beq i 26 then some (8, 12) else none) else (bif Nat.blt i 32 then (bif Nat.beq i 29 then some (8, 13) else none) else (bif Nat.beq i 32 then some (8, 14) else none))) else (bif Nat.blt i 38 then (bif Nat.beq i 35 then some (8, 15) else none) else (bif Nat.blt i 41 then (bif Nat.beq i 38 then some (8, 16) else none) else (bif Nat.beq i 41 then some (8, 17) else none))))) else (bif Nat.blt i 60 then (bif Nat.blt i 50 then (bif Nat.blt i 47 then (bif Nat.beq i 44 then some (8, 18) else none) else (bif Nat.beq i 47 then some (8, 19) else none)) else (bif Nat.blt i 53 then (bif Nat.beq i 50 then some (8, 20) else none) else (bif Nat.blt i 57 then (bif Nat.beq i 53 then some (8, 21) else none) else (bif Nat.beq i 57 then some (8, 22) else none)))) else (bif Nat.blt i 69 then (bif Nat.blt i 63 then (bif Nat.beq i 60 then some (8, 23) else none) else (bif Nat.blt i 66 then (bif Nat.beq i 63 then some (8, 24) else none) else (bif Nat.beq i 66 then some (8, 25) else none))) else (bif Nat.blt i 72 then (bif Nat.beq i 69 then some (8, 26) else none) else (bif Nat.blt i 75 then (bif Nat.beq i 72 then some (8, 27) else none) else (bif Nat.beq i 75 then some (8, 28) else none)))))) else (bif Nat.blt i 116 then (bif Nat.blt i 93 then (bif Nat.blt i 84 then (bif Nat.blt i 81 then (bif Nat.beq i 78 then some (8, 29) else none) else (bif Nat.beq i 81 then some (8, 30) else none)) else (bif Nat.blt i 87 then (bif Nat.beq i 84 then some (8, 34) else none) else (bif Nat.blt i 90 then (bif Nat.beq i 87 then some (8, 36) else none) else (bif Nat.beq i 90 then some (8, 37) else none)))) else (bif Nat.blt i 102 then (bif Nat.blt i 96 then (bif Nat.beq i 93 then some (8, 38) else none) else (bif Nat.blt i 99 then (bif Nat.beq i 96 then some (8, 40) else none) else (bif Nat.beq i 99 then some (8, 41) else none))) else (bif Nat.blt i 106 then (bif Nat.beq i 102 then some (8, 42) else none) else (bif Nat.blt i 109 then (bif Nat.beq i 106 then some (8, 43) else none) else (bif Nat.beq i 109 then some (8, 1) else none))))) else (bif Nat.blt i 172 then (bif Nat.blt i 140 then (bif Nat.blt i 130 then (bif Nat.beq i 116 then some (8, 0) else none) else (bif Nat.beq i 130 then some (8, 2) else none)) else (bif Nat.blt i 158 then (bif Nat.beq i 140 then some (8, 3) else none) else (bif Nat.blt i 164 then (bif Nat.beq i 158 then some (8, 4) else none) else (bif Nat.beq i 164 then some (8, 5) else none)))) else (bif Nat.blt i 196 then (bif Nat.blt i 175 then (bif Nat.beq i 172 then some (8, 33) else none) else (bif Nat.blt i 178 then (bif Nat.beq i 175 then some (8, 32) else none) else (bif Nat.beq i 178 then some (8, 31) else none))) else (bif Nat.blt i 231 then (bif Nat.beq i 196 then some (8, 35) else none) else (bif Nat.blt i 243 then (bif Nat.beq i 231 then some (8, 39) else none) else (bif Nat.beq i 243 then some (8, 7) else none))))))))
theorem fX8_ok : ∀ idx c j, fX8 idx = some (c, j) → em_okF RX8 idx c j := em_okF_of (by decide +kernel)
def qX8 : Nat → Option Int32 := em_tr 148 (fun i => (bif Nat.beq i 147 then some (-1000000) else none))
theorem qX8_ok : ∀ idx v, qX8 idx = some v → Cond.constant RX8 idx v ∈ lw_tbl := em_okK_of (by decide +kernel)
def fL : Nat → Option (Nat × Nat) := em_tr 0 (fun i => none)
theorem fL_ok : ∀ idx c j, fL idx = some (c, j) → em_okF RL idx c j := em_okF_of (by decide +kernel)
def qL : Nat → Option Int32 := em_tr 0 (fun i => none)
theorem qL_ok : ∀ idx v, qL idx = some v → Cond.constant RL idx v ∈ lw_tbl := em_okK_of (by decide +kernel)
def fJ6 : Nat → Option (Nat × Nat) := em_tr 0 (fun i => none)
theorem fJ6_ok : ∀ idx c j, fJ6 idx = some (c, j) → em_okF RJ6 idx c j := em_okF_of (by decide +kernel)
def qJ6 : Nat → Option Int32 := em_tr 268 (fun i => (bif Nat.blt i 266 then (bif Nat.beq i 265 then some (1431655765) else none) else (bif Nat.blt i 267 then (bif Nat.beq i 266 then some (858993459) else none) else (bif Nat.beq i 267 then some (252645135) else none))))
theorem qJ6_ok : ∀ idx v, qJ6 idx = some v → Cond.constant RJ6 idx v ∈ lw_tbl := em_okK_of (by decide +kernel)
def fJ7 : Nat → Option (Nat × Nat) := em_tr 0 (fun i => none)
theorem fJ7_ok : ∀ idx c j, fJ7 idx = some (c, j) → em_okF RJ7 idx c j := em_okF_of (by decide +kernel)
def qJ7 : Nat → Option Int32 := em_tr 0 (fun i => none)
theorem qJ7_ok : ∀ idx v, qJ7 idx = some v → Cond.constant RJ7 idx v ∈ lw_tbl := em_okK_of (by decide +kernel)
def fJ9 : Nat → Option (Nat × Nat) := em_tr 0 (fun i => none)
theorem fJ9_ok : ∀ idx c j, fJ9 idx = some (c, j) → em_okF RJ9 idx c j := em_okF_of (by decide +kernel)
def qJ9 : Nat → Option Int32 := em_tr 0 (fun i => none)
theorem qJ9_ok : ∀ idx v, qJ9 idx = some v → Cond.constant RJ9 idx v ∈ lw_tbl := em_okK_of (by decide +kernel)
