/-! THE INVARIANT BETWEEN THE LAW'S CALLS -/
def em_gA (I : Nat → Nat → Int32) (N G t : Nat) : Prop := (I 1 2 = nI N) ∧ (N ≤ 40) ∧ (I 1 6 = nI G) ∧ (G ≤ 200) ∧ (I 1 10 = nI t) ∧ (t ≤ 400) ∧ (I 53 1 = nI N) ∧ (I 53 2 = nI G) ∧ (I 53 0 = nI t) ∧ (I 54 = I 2) ∧ (I 55 = I 3) ∧ (I 56 = I 4) ∧ (I 57 = I 5) ∧ (I 58 = I 6) ∧ (I 60 = I 7) ∧ (I 61 = I 8) ∧ (I 62 = I 9) ∧ (∀ b, b < N → ∃ k, k < 8 ∧ I 4 b = nI k) ∧ (∀ j, j < 8 → ∃ f, f ≤ 100 ∧ I 2 j = nI f) ∧ (∀ j, j < 8 → ∃ w, w ≤ 1000 ∧ I 3 j = nI w) ∧ (∀ b, b < N → ∃ k, k ≤ t ∧ I 5 b = nI k) ∧ (∀ b, b < N → ∃ k, k ≤ t ∧ I 6 b = nI k) ∧ (∀ i, i < G → ∃ b, b < N ∧ I 7 i = nI b) ∧ (∀ i, i < G → I 8 i = -1 ∨ ∃ k b, k ≤ t ∧ b < N ∧ I 8 i = nI k ∧ I 7 i = nI b ∧ I 5 b ≤ nI k) ∧ (∀ i, i < G → ∃ k, k ≤ t ∧ I 9 i = nI k) ∧ (∀ i j, i ≤ j → j < G → I 9 i ≤ I 9 j)
theorem em_gA.n1 {I : Nat → Nat → Int32} {N G t : Nat} (h0_ : em_gA I N G t) : I 1 2 = nI N := h0_.1
theorem em_gA.n2 {I : Nat → Nat → Int32} {N G t : Nat} (h0_ : em_gA I N G t) : N ≤ 40 := h0_.2.1
theorem em_gA.g1 {I : Nat → Nat → Int32} {N G t : Nat} (h0_ : em_gA I N G t) : I 1 6 = nI G := h0_.2.2.1
theorem em_gA.g2 {I : Nat → Nat → Int32} {N G t : Nat} (h0_ : em_gA I N G t) : G ≤ 200 := h0_.2.2.2.1
theorem em_gA.t1 {I : Nat → Nat → Int32} {N G t : Nat} (h0_ : em_gA I N G t) : I 1 10 = nI t := h0_.2.2.2.2.1
theorem em_gA.t2 {I : Nat → Nat → Int32} {N G t : Nat} (h0_ : em_gA I N G t) : t ≤ 400 := h0_.2.2.2.2.2.1
theorem em_gA.m1 {I : Nat → Nat → Int32} {N G t : Nat} (h0_ : em_gA I N G t) : I 53 1 = nI N := h0_.2.2.2.2.2.2.1
theorem em_gA.m2 {I : Nat → Nat → Int32} {N G t : Nat} (h0_ : em_gA I N G t) : I 53 2 = nI G := h0_.2.2.2.2.2.2.2.1
theorem em_gA.m0 {I : Nat → Nat → Int32} {N G t : Nat} (h0_ : em_gA I N G t) : I 53 0 = nI t := h0_.2.2.2.2.2.2.2.2.1
theorem em_gA.e54 {I : Nat → Nat → Int32} {N G t : Nat} (h0_ : em_gA I N G t) : I 54 = I 2 := h0_.2.2.2.2.2.2.2.2.2.1
theorem em_gA.e55 {I : Nat → Nat → Int32} {N G t : Nat} (h0_ : em_gA I N G t) : I 55 = I 3 := h0_.2.2.2.2.2.2.2.2.2.2.1
theorem em_gA.e56 {I : Nat → Nat → Int32} {N G t : Nat} (h0_ : em_gA I N G t) : I 56 = I 4 := h0_.2.2.2.2.2.2.2.2.2.2.2.1
theorem em_gA.e57 {I : Nat → Nat → Int32} {N G t : Nat} (h0_ : em_gA I N G t) : I 57 = I 5 := h0_.2.2.2.2.2.2.2.2.2.2.2.2.1
theorem em_gA.e58 {I : Nat → Nat → Int32} {N G t : Nat} (h0_ : em_gA I N G t) : I 58 = I 6 := h0_.2.2.2.2.2.2.2.2.2.2.2.2.2.1
theorem em_gA.e60 {I : Nat → Nat → Int32} {N G t : Nat} (h0_ : em_gA I N G t) : I 60 = I 7 := h0_.2.2.2.2.2.2.2.2.2.2.2.2.2.2.1
theorem em_gA.e61 {I : Nat → Nat → Int32} {N G t : Nat} (h0_ : em_gA I N G t) : I 61 = I 8 := h0_.2.2.2.2.2.2.2.2.2.2.2.2.2.2.2.1
theorem em_gA.e62 {I : Nat → Nat → Int32} {N G t : Nat} (h0_ : em_gA I N G t) : I 62 = I 9 := h0_.2.2.2.2.2.2.2.2.2.2.2.2.2.2.2.2.1
theorem em_gA.kd {I : Nat → Nat → Int32} {N G t : Nat} (h0_ : em_gA I N G t) : ∀ b, b < N → ∃ k, k < 8 ∧ I 4 b = nI k := h0_.2.2.2.2.2.2.2.2.2.2.2.2.2.2.2.2.2.1
theorem em_gA.fd {I : Nat → Nat → Int32} {N G t : Nat} (h0_ : em_gA I N G t) : ∀ j, j < 8 → ∃ f, f ≤ 100 ∧ I 2 j = nI f := h0_.2.2.2.2.2.2.2.2.2.2.2.2.2.2.2.2.2.2.1
theorem em_gA.wt {I : Nat → Nat → Int32} {N G t : Nat} (h0_ : em_gA I N G t) : ∀ j, j < 8 → ∃ w, w ≤ 1000 ∧ I 3 j = nI w := h0_.2.2.2.2.2.2.2.2.2.2.2.2.2.2.2.2.2.2.2.1
theorem em_gA.fr {I : Nat → Nat → Int32} {N G t : Nat} (h0_ : em_gA I N G t) : ∀ b, b < N → ∃ k, k ≤ t ∧ I 5 b = nI k := h0_.2.2.2.2.2.2.2.2.2.2.2.2.2.2.2.2.2.2.2.2.1
theorem em_gA.tl {I : Nat → Nat → Int32} {N G t : Nat} (h0_ : em_gA I N G t) : ∀ b, b < N → ∃ k, k ≤ t ∧ I 6 b = nI k := h0_.2.2.2.2.2.2.2.2.2.2.2.2.2.2.2.2.2.2.2.2.2.1
theorem em_gA.gb {I : Nat → Nat → Int32} {N G t : Nat} (h0_ : em_gA I N G t) : ∀ i, i < G → ∃ b, b < N ∧ I 7 i = nI b := h0_.2.2.2.2.2.2.2.2.2.2.2.2.2.2.2.2.2.2.2.2.2.2.1
theorem em_gA.gf {I : Nat → Nat → Int32} {N G t : Nat} (h0_ : em_gA I N G t) : ∀ i, i < G → I 8 i = -1 ∨ ∃ k b, k ≤ t ∧ b < N ∧ I 8 i = nI k ∧ I 7 i = nI b ∧ I 5 b ≤ nI k := h0_.2.2.2.2.2.2.2.2.2.2.2.2.2.2.2.2.2.2.2.2.2.2.2.1
theorem em_gA.go {I : Nat → Nat → Int32} {N G t : Nat} (h0_ : em_gA I N G t) : ∀ i, i < G → ∃ k, k ≤ t ∧ I 9 i = nI k := h0_.2.2.2.2.2.2.2.2.2.2.2.2.2.2.2.2.2.2.2.2.2.2.2.2.1
theorem em_gA.gs {I : Nat → Nat → Int32} {N G t : Nat} (h0_ : em_gA I N G t) : ∀ i j, i ≤ j → j < G → I 9 i ≤ I 9 j := h0_.2.2.2.2.2.2.2.2.2.2.2.2.2.2.2.2.2.2.2.2.2.2.2.2.2
theorem em_gA.mk {I : Nat → Nat → Int32} {N G t : Nat} (n1 : I 1 2 = nI N) (n2 : N ≤ 40) (g1 : I 1 6 = nI G) (g2 : G ≤ 200) (t1 : I 1 10 = nI t) (t2 : t ≤ 400) (m1 : I 53 1 = nI N) (m2 : I 53 2 = nI G) (m0 : I 53 0 = nI t) (e54 : I 54 = I 2) (e55 : I 55 = I 3) (e56 : I 56 = I 4) (e57 : I 57 = I 5) (e58 : I 58 = I 6) (e60 : I 60 = I 7) (e61 : I 61 = I 8) (e62 : I 62 = I 9) (kd : ∀ b, b < N → ∃ k, k < 8 ∧ I 4 b = nI k) (fd : ∀ j, j < 8 → ∃ f, f ≤ 100 ∧ I 2 j = nI f) (wt : ∀ j, j < 8 → ∃ w, w ≤ 1000 ∧ I 3 j = nI w) (fr : ∀ b, b < N → ∃ k, k ≤ t ∧ I 5 b = nI k) (tl : ∀ b, b < N → ∃ k, k ≤ t ∧ I 6 b = nI k) (gb : ∀ i, i < G → ∃ b, b < N ∧ I 7 i = nI b) (gf : ∀ i, i < G → I 8 i = -1 ∨ ∃ k b, k ≤ t ∧ b < N ∧ I 8 i = nI k ∧ I 7 i = nI b ∧ I 5 b ≤ nI k) (go : ∀ i, i < G → ∃ k, k ≤ t ∧ I 9 i = nI k) (gs : ∀ i j, i ≤ j → j < G → I 9 i ≤ I 9 j) : em_gA I N G t := ⟨n1, n2, g1, g2, t1, t2, m1, m2, m0, e54, e55, e56, e57, e58, e60, e61, e62, kd, fd, wt, fr, tl, gb, gf, go, gs⟩
def em_gB (n m : Nat) (dl : Nat → Nat) (I : Nat → Nat → Int32) (rv : em_Rv) (c lam mu : Nat) : Prop := (I 12 3 = nI c) ∧ (I 53 3 = nI c) ∧ (c ≤ 20000) ∧ (I 63 = I 13) ∧ (I 12 1 = bx_sum (I 13) 401) ∧ (em_rl rv.1) ∧ (rv.1 < n) ∧ (em_lnd dl rv.1 = lam) ∧ (lam ≤ 60000) ∧ (3 * c ≤ lam) ∧ (em_rk rv.2.1 64) ∧ (em_rk rv.2.2.1 65) ∧ (em_rk rv.2.2.2.1 66) ∧ (rv.2.1 < n) ∧ (rv.2.2.1 < n) ∧ (rv.2.2.2.1 < n) ∧ (em_lnd dl rv.2.1 = mu) ∧ (em_lnd dl rv.2.2.1 = mu) ∧ (em_lnd dl rv.2.2.2.1 = mu) ∧ (¬ rv.2.1 = rv.2.2.1) ∧ (¬ rv.2.1 = rv.2.2.2.1) ∧ (¬ rv.2.2.1 = rv.2.2.2.1) ∧ (¬ rv.1 = rv.2.1) ∧ (¬ rv.1 = rv.2.2.1) ∧ (¬ rv.1 = rv.2.2.2.1) ∧ (1 ≤ mu) ∧ (mu ≤ 40000) ∧ (c ≤ mu) ∧ (∀ i, i < c → I rv.1 (3 * i) = I rv.2.1 i ∧ I rv.1 (3 * i + 1) = I rv.2.2.1 i ∧ I rv.1 (3 * i + 2) = I rv.2.2.2.1 i) ∧ (n + 96 + 768 ≤ 85 + lam + 3 * mu) ∧ (m + 1536 ≤ 5332 + 2 * lam + 6 * mu ∨ (lam = 60000 ∧ m + 1536 ≤ 185332 + 6 * mu))
theorem em_gB.c1 {n m : Nat} {dl : Nat → Nat} {I : Nat → Nat → Int32} {rv : em_Rv} {c lam mu : Nat} (h0_ : em_gB n m dl I rv c lam mu) : I 12 3 = nI c := h0_.1
theorem em_gB.c2 {n m : Nat} {dl : Nat → Nat} {I : Nat → Nat → Int32} {rv : em_Rv} {c lam mu : Nat} (h0_ : em_gB n m dl I rv c lam mu) : I 53 3 = nI c := h0_.2.1
theorem em_gB.c3 {n m : Nat} {dl : Nat → Nat} {I : Nat → Nat → Int32} {rv : em_Rv} {c lam mu : Nat} (h0_ : em_gB n m dl I rv c lam mu) : c ≤ 20000 := h0_.2.2.1
theorem em_gB.u {n m : Nat} {dl : Nat → Nat} {I : Nat → Nat → Int32} {rv : em_Rv} {c lam mu : Nat} (h0_ : em_gB n m dl I rv c lam mu) : I 63 = I 13 := h0_.2.2.2.1
theorem em_gB.al {n m : Nat} {dl : Nat → Nat} {I : Nat → Nat → Int32} {rv : em_Rv} {c lam mu : Nat} (h0_ : em_gB n m dl I rv c lam mu) : I 12 1 = bx_sum (I 13) 401 := h0_.2.2.2.2.1
theorem em_gB.L1 {n m : Nat} {dl : Nat → Nat} {I : Nat → Nat → Int32} {rv : em_Rv} {c lam mu : Nat} (h0_ : em_gB n m dl I rv c lam mu) : em_rl rv.1 := h0_.2.2.2.2.2.1
theorem em_gB.L2 {n m : Nat} {dl : Nat → Nat} {I : Nat → Nat → Int32} {rv : em_Rv} {c lam mu : Nat} (h0_ : em_gB n m dl I rv c lam mu) : rv.1 < n := h0_.2.2.2.2.2.2.1
theorem em_gB.L3 {n m : Nat} {dl : Nat → Nat} {I : Nat → Nat → Int32} {rv : em_Rv} {c lam mu : Nat} (h0_ : em_gB n m dl I rv c lam mu) : em_lnd dl rv.1 = lam := h0_.2.2.2.2.2.2.2.1
theorem em_gB.L4 {n m : Nat} {dl : Nat → Nat} {I : Nat → Nat → Int32} {rv : em_Rv} {c lam mu : Nat} (h0_ : em_gB n m dl I rv c lam mu) : lam ≤ 60000 := h0_.2.2.2.2.2.2.2.2.1
theorem em_gB.L5 {n m : Nat} {dl : Nat → Nat} {I : Nat → Nat → Int32} {rv : em_Rv} {c lam mu : Nat} (h0_ : em_gB n m dl I rv c lam mu) : 3 * c ≤ lam := h0_.2.2.2.2.2.2.2.2.2.1
theorem em_gB.k1 {n m : Nat} {dl : Nat → Nat} {I : Nat → Nat → Int32} {rv : em_Rv} {c lam mu : Nat} (h0_ : em_gB n m dl I rv c lam mu) : em_rk rv.2.1 64 := h0_.2.2.2.2.2.2.2.2.2.2.1
theorem em_gB.k2 {n m : Nat} {dl : Nat → Nat} {I : Nat → Nat → Int32} {rv : em_Rv} {c lam mu : Nat} (h0_ : em_gB n m dl I rv c lam mu) : em_rk rv.2.2.1 65 := h0_.2.2.2.2.2.2.2.2.2.2.2.1
theorem em_gB.k3 {n m : Nat} {dl : Nat → Nat} {I : Nat → Nat → Int32} {rv : em_Rv} {c lam mu : Nat} (h0_ : em_gB n m dl I rv c lam mu) : em_rk rv.2.2.2.1 66 := h0_.2.2.2.2.2.2.2.2.2.2.2.2.1
theorem em_gB.t1 {n m : Nat} {dl : Nat → Nat} {I : Nat → Nat → Int32} {rv : em_Rv} {c lam mu : Nat} (h0_ : em_gB n m dl I rv c lam mu) : rv.2.1 < n := h0_.2.2.2.2.2.2.2.2.2.2.2.2.2.1
theorem em_gB.t2 {n m : Nat} {dl : Nat → Nat} {I : Nat → Nat → Int32} {rv : em_Rv} {c lam mu : Nat} (h0_ : em_gB n m dl I rv c lam mu) : rv.2.2.1 < n := h0_.2.2.2.2.2.2.2.2.2.2.2.2.2.2.1
theorem em_gB.t3 {n m : Nat} {dl : Nat → Nat} {I : Nat → Nat → Int32} {rv : em_Rv} {c lam mu : Nat} (h0_ : em_gB n m dl I rv c lam mu) : rv.2.2.2.1 < n := h0_.2.2.2.2.2.2.2.2.2.2.2.2.2.2.2.1
theorem em_gB.l1 {n m : Nat} {dl : Nat → Nat} {I : Nat → Nat → Int32} {rv : em_Rv} {c lam mu : Nat} (h0_ : em_gB n m dl I rv c lam mu) : em_lnd dl rv.2.1 = mu := h0_.2.2.2.2.2.2.2.2.2.2.2.2.2.2.2.2.1
theorem em_gB.l2 {n m : Nat} {dl : Nat → Nat} {I : Nat → Nat → Int32} {rv : em_Rv} {c lam mu : Nat} (h0_ : em_gB n m dl I rv c lam mu) : em_lnd dl rv.2.2.1 = mu := h0_.2.2.2.2.2.2.2.2.2.2.2.2.2.2.2.2.2.1
theorem em_gB.l3 {n m : Nat} {dl : Nat → Nat} {I : Nat → Nat → Int32} {rv : em_Rv} {c lam mu : Nat} (h0_ : em_gB n m dl I rv c lam mu) : em_lnd dl rv.2.2.2.1 = mu := h0_.2.2.2.2.2.2.2.2.2.2.2.2.2.2.2.2.2.2.1
theorem em_gB.d12 {n m : Nat} {dl : Nat → Nat} {I : Nat → Nat → Int32} {rv : em_Rv} {c lam mu : Nat} (h0_ : em_gB n m dl I rv c lam mu) : ¬ rv.2.1 = rv.2.2.1 := h0_.2.2.2.2.2.2.2.2.2.2.2.2.2.2.2.2.2.2.2.1
theorem em_gB.d13 {n m : Nat} {dl : Nat → Nat} {I : Nat → Nat → Int32} {rv : em_Rv} {c lam mu : Nat} (h0_ : em_gB n m dl I rv c lam mu) : ¬ rv.2.1 = rv.2.2.2.1 := h0_.2.2.2.2.2.2.2.2.2.2.2.2.2.2.2.2.2.2.2.2.1
theorem em_gB.d23 {n m : Nat} {dl : Nat → Nat} {I : Nat → Nat → Int32} {rv : em_Rv} {c lam mu : Nat} (h0_ : em_gB n m dl I rv c lam mu) : ¬ rv.2.2.1 = rv.2.2.2.1 := h0_.2.2.2.2.2.2.2.2.2.2.2.2.2.2.2.2.2.2.2.2.2.1
theorem em_gB.d01 {n m : Nat} {dl : Nat → Nat} {I : Nat → Nat → Int32} {rv : em_Rv} {c lam mu : Nat} (h0_ : em_gB n m dl I rv c lam mu) : ¬ rv.1 = rv.2.1 := h0_.2.2.2.2.2.2.2.2.2.2.2.2.2.2.2.2.2.2.2.2.2.2.1
theorem em_gB.d02 {n m : Nat} {dl : Nat → Nat} {I : Nat → Nat → Int32} {rv : em_Rv} {c lam mu : Nat} (h0_ : em_gB n m dl I rv c lam mu) : ¬ rv.1 = rv.2.2.1 := h0_.2.2.2.2.2.2.2.2.2.2.2.2.2.2.2.2.2.2.2.2.2.2.2.1
theorem em_gB.d03 {n m : Nat} {dl : Nat → Nat} {I : Nat → Nat → Int32} {rv : em_Rv} {c lam mu : Nat} (h0_ : em_gB n m dl I rv c lam mu) : ¬ rv.1 = rv.2.2.2.1 := h0_.2.2.2.2.2.2.2.2.2.2.2.2.2.2.2.2.2.2.2.2.2.2.2.2.1
theorem em_gB.u1 {n m : Nat} {dl : Nat → Nat} {I : Nat → Nat → Int32} {rv : em_Rv} {c lam mu : Nat} (h0_ : em_gB n m dl I rv c lam mu) : 1 ≤ mu := h0_.2.2.2.2.2.2.2.2.2.2.2.2.2.2.2.2.2.2.2.2.2.2.2.2.2.1
theorem em_gB.u2 {n m : Nat} {dl : Nat → Nat} {I : Nat → Nat → Int32} {rv : em_Rv} {c lam mu : Nat} (h0_ : em_gB n m dl I rv c lam mu) : mu ≤ 40000 := h0_.2.2.2.2.2.2.2.2.2.2.2.2.2.2.2.2.2.2.2.2.2.2.2.2.2.2.1
theorem em_gB.u3 {n m : Nat} {dl : Nat → Nat} {I : Nat → Nat → Int32} {rv : em_Rv} {c lam mu : Nat} (h0_ : em_gB n m dl I rv c lam mu) : c ≤ mu := h0_.2.2.2.2.2.2.2.2.2.2.2.2.2.2.2.2.2.2.2.2.2.2.2.2.2.2.2.1
theorem em_gB.ln {n m : Nat} {dl : Nat → Nat} {I : Nat → Nat → Int32} {rv : em_Rv} {c lam mu : Nat} (h0_ : em_gB n m dl I rv c lam mu) : ∀ i, i < c → I rv.1 (3 * i) = I rv.2.1 i ∧ I rv.1 (3 * i + 1) = I rv.2.2.1 i ∧ I rv.1 (3 * i + 2) = I rv.2.2.2.1 i := h0_.2.2.2.2.2.2.2.2.2.2.2.2.2.2.2.2.2.2.2.2.2.2.2.2.2.2.2.2.1
theorem em_gB.nn {n m : Nat} {dl : Nat → Nat} {I : Nat → Nat → Int32} {rv : em_Rv} {c lam mu : Nat} (h0_ : em_gB n m dl I rv c lam mu) : n + 96 + 768 ≤ 85 + lam + 3 * mu := h0_.2.2.2.2.2.2.2.2.2.2.2.2.2.2.2.2.2.2.2.2.2.2.2.2.2.2.2.2.2.1
theorem em_gB.mm {n m : Nat} {dl : Nat → Nat} {I : Nat → Nat → Int32} {rv : em_Rv} {c lam mu : Nat} (h0_ : em_gB n m dl I rv c lam mu) : m + 1536 ≤ 5332 + 2 * lam + 6 * mu ∨ (lam = 60000 ∧ m + 1536 ≤ 185332 + 6 * mu) := h0_.2.2.2.2.2.2.2.2.2.2.2.2.2.2.2.2.2.2.2.2.2.2.2.2.2.2.2.2.2.2
theorem em_gB.mk {n m : Nat} {dl : Nat → Nat} {I : Nat → Nat → Int32} {rv : em_Rv} {c lam mu : Nat} (c1 : I 12 3 = nI c) (c2 : I 53 3 = nI c) (c3 : c ≤ 20000) (u : I 63 = I 13) (al : I 12 1 = bx_sum (I 13) 401) (L1 : em_rl rv.1) (L2 : rv.1 < n) (L3 : em_lnd dl rv.1 = lam) (L4 : lam ≤ 60000) (L5 : 3 * c ≤ lam) (k1 : em_rk rv.2.1 64) (k2 : em_rk rv.2.2.1 65) (k3 : em_rk rv.2.2.2.1 66) (t1 : rv.2.1 < n) (t2 : rv.2.2.1 < n) (t3 : rv.2.2.2.1 < n) (l1 : em_lnd dl rv.2.1 = mu) (l2 : em_lnd dl rv.2.2.1 = mu) (l3 : em_lnd dl rv.2.2.2.1 = mu) (d12 : ¬ rv.2.1 = rv.2.2.1) (d13 : ¬ rv.2.1 = rv.2.2.2.1) (d23 : ¬ rv.2.2.1 = rv.2.2.2.1) (d01 : ¬ rv.1 = rv.2.1) (d02 : ¬ rv.1 = rv.2.2.1) (d03 : ¬ rv.1 = rv.2.2.2.1) (u1 : 1 ≤ mu) (u2 : mu ≤ 40000) (u3 : c ≤ mu) (ln : ∀ i, i < c → I rv.1 (3 * i) = I rv.2.1 i ∧ I rv.1 (3 * i + 1) = I rv.2.2.1 i ∧ I rv.1 (3 * i + 2) = I rv.2.2.2.1 i) (nn : n + 96 + 768 ≤ 85 + lam + 3 * mu) (mm : m + 1536 ≤ 5332 + 2 * lam + 6 * mu ∨ (lam = 60000 ∧ m + 1536 ≤ 185332 + 6 * mu)) : em_gB n m dl I rv c lam mu := ⟨c1, c2, c3, u, al, L1, L2, L3, L4, L5, k1, k2, k3, t1, t2, t3, l1, l2, l3, d12, d13, d23, d01, d02, d03, u1, u2, u3, ln, nn, mm⟩
def em_gC (I : Nat → Nat → Int32) (N : Nat) : Prop := (∀ b, b < N → I 59 b = I 16 b) ∧ (∀ b, N ≤ b → b < 40 → I 16 b = -1) ∧ (∀ b, b < N → I 16 b = -1 ∨ ∃ w, w < 8 ∧ I 16 b = nI w) ∧ (∀ a, a < 8 → ∃ x, x < 256 ∧ I 17 a = nI x) ∧ (∀ a b, a < 8 → b < 8 → (em_hs (I 17 a) b ↔ I 67 (8 * a + b) = 1)) ∧ (∀ i, i < 64 → I 67 i = 0 ∨ I 67 i = 1) ∧ (∀ a b, a < 8 → b < 8 → I 67 (8 * a + b) = I 67 (8 * b + a))
theorem em_gC.wg {I : Nat → Nat → Int32} {N : Nat} (h0_ : em_gC I N) : ∀ b, b < N → I 59 b = I 16 b := h0_.1
theorem em_gC.wn {I : Nat → Nat → Int32} {N : Nat} (h0_ : em_gC I N) : ∀ b, N ≤ b → b < 40 → I 16 b = -1 := h0_.2.1
theorem em_gC.wr {I : Nat → Nat → Int32} {N : Nat} (h0_ : em_gC I N) : ∀ b, b < N → I 16 b = -1 ∨ ∃ w, w < 8 ∧ I 16 b = nI w := h0_.2.2.1
theorem em_gC.br {I : Nat → Nat → Int32} {N : Nat} (h0_ : em_gC I N) : ∀ a, a < 8 → ∃ x, x < 256 ∧ I 17 a = nI x := h0_.2.2.2.1
theorem em_gC.bb {I : Nat → Nat → Int32} {N : Nat} (h0_ : em_gC I N) : ∀ a b, a < 8 → b < 8 → (em_hs (I 17 a) b ↔ I 67 (8 * a + b) = 1) := h0_.2.2.2.2.1
theorem em_gC.bv {I : Nat → Nat → Int32} {N : Nat} (h0_ : em_gC I N) : ∀ i, i < 64 → I 67 i = 0 ∨ I 67 i = 1 := h0_.2.2.2.2.2.1
theorem em_gC.bs {I : Nat → Nat → Int32} {N : Nat} (h0_ : em_gC I N) : ∀ a b, a < 8 → b < 8 → I 67 (8 * a + b) = I 67 (8 * b + a) := h0_.2.2.2.2.2.2
theorem em_gC.mk {I : Nat → Nat → Int32} {N : Nat} (wg : ∀ b, b < N → I 59 b = I 16 b) (wn : ∀ b, N ≤ b → b < 40 → I 16 b = -1) (wr : ∀ b, b < N → I 16 b = -1 ∨ ∃ w, w < 8 ∧ I 16 b = nI w) (br : ∀ a, a < 8 → ∃ x, x < 256 ∧ I 17 a = nI x) (bb : ∀ a b, a < 8 → b < 8 → (em_hs (I 17 a) b ↔ I 67 (8 * a + b) = 1)) (bv : ∀ i, i < 64 → I 67 i = 0 ∨ I 67 i = 1) (bs : ∀ a b, a < 8 → b < 8 → I 67 (8 * a + b) = I 67 (8 * b + a)) : em_gC I N := ⟨wg, wn, wr, br, bb, bv, bs⟩
/-! recalled and till: the same -/
theorem ei_rec_lo (I : Nat → Nat → Int32) (q : Int32) (j : Nat) : ∀ d i g, (∀ k, i ≤ k → k < i + d → ¬ (I 7 k).toNatClampNeg = j ∨ q < I 9 k) → (∀ k l, i ≤ k → k ≤ l → l < i + d → I 9 k ≤ I 9 l) → em_rec I q d i g j = g j
  | 0, _, _, _, _ => rfl
  | d + 1, i, g, h, hs => by
    rw [em_rec]
    by_cases hq : q < I 9 i
    · rw [if_pos hq]
    · rw [if_neg hq, ei_rec_lo I q j d (i + 1) _ (fun k h1 h2 => h k (by omega) (by omega)) (fun k l h1 h2 h3 => hs k l (by omega) h2 (by omega))]
      rcases h i (Nat.le_refl _) (by omega) with h1 | h1
      · rw [va_up_ne _ _ (fun e => h1 e.symm)]
      · exact absurd h1 hq
theorem ei_rec_snoc (I : Nat → Nat → Int32) (q : Int32) : ∀ d i g, (∀ k l, i ≤ k → k ≤ l → l < i + (d + 1) → I 9 k ≤ I 9 l) → em_rec I q (d + 1) i g = if q < I 9 (i + d) then em_rec I q d i g else va_up (em_rec I q d i g) (I 7 (i + d)).toNatClampNeg (I 8 (i + d))
  | 0, i, g, _ => by
    rw [em_rec, em_rec, em_rec]
    rfl
  | d + 1, i, g, hs => by
    rw [em_rec]
    by_cases hq : q < I 9 i
    · have h2 : q < I 9 (i + (d + 1)) := Int32.lt_of_lt_of_le hq (hs i (i + (d + 1)) (Nat.le_refl _) (by omega) (by omega))
      rw [if_pos hq, if_pos h2, em_rec, if_pos hq]
    · rw [if_neg hq, ei_rec_snoc I q d (i + 1) _ (fun k l h1 h2 h3 => hs k l (by omega) h2 (by omega))]
      rw [show em_rec I q (d + 1) i g = em_rec I q d (i + 1) (va_up g (I 7 i).toNatClampNeg (I 8 i)) by rw [em_rec, if_neg hq], show i + 1 + d = i + (d + 1) by omega]
theorem ei_till {I : Nat → Nat → Int32} {N : Nat} (e60 : I 60 = I 7) (e61 : I 61 = I 8) (e62 : I 62 = I 9) {q : Int32} {j : Nat} (hj : j < 40) (hN : N ≤ 40) : ∀ G, (∀ i, i < G → ∃ b, b < N ∧ I 7 i = nI b) → (∀ i k, i ≤ k → k < G → I 9 i ≤ I 9 k) → em_gf I G q j = em_till I (nI j) q G
  | 0, _, _ => by
    show em_fil (I 10) (-1) 40 j = -1
    rw [em_fil, if_pos hj]
  | i + 1, hb, hs => by
    have ih := ei_till e60 e61 e62 (q := q) hj hN i (fun k hk => hb k (by omega)) (fun a b h1 h2 => hs a b h1 (by omega))
    obtain ⟨b, hbN, e⟩ := hb i (by omega)
    rw [em_till, e60, e61, e62, ← ih]
    show em_rec I q (i + 1) 0 (em_fil (I 10) (-1) 40) j = _
    rw [ei_rec_snoc I q i 0 _ (fun k l h1 h2 h3 => hs k l h2 (by omega)), Nat.zero_add]
    by_cases hq : q < I 9 i
    · rw [if_pos hq, if_neg (fun z => Int32.not_le.mpr hq z.2)]
    · rw [if_neg hq]
      have hle := Int32.not_lt.mp hq
      by_cases hbj : b = j
      · subst hbj
        rw [if_pos ⟨e, hle⟩, e, nI_clamp (by omega), va_up_self]
      · rw [if_neg (fun z => hbj (by rw [e] at z; exact (nI_eq (by omega) (by omega)).mp z.1)), e, nI_clamp (by omega), va_up_ne _ _ (fun z => hbj z.symm)]
theorem ei_std {I : Nat → Nat → Int32} {N G t : Nat} (hA : em_gA I N G t) {j : Nat} (hj : j < N) (d q : Int32) : em_std I (em_gf I G q) j d q ↔ em_msd I G j d q := by
  have hN := hA.n2
  show (I 6 j ≤ q ∧ I 5 j ≤ d) ∧ (em_gf I G q j = -1 ∨ d < em_gf I G q j) ↔ (I 58 j ≤ q ∧ I 57 j ≤ d) ∧ (em_till I (nI j) q G = -1 ∨ d < em_till I (nI j) q G)
  rw [ei_till hA.e60 hA.e61 hA.e62 (by omega) hN G hA.gb hA.gs, hA.e58, hA.e57]
theorem ei_sum_eq {f g : Nat → Int32} : ∀ N, (∀ b, b < N → f b = g b) → bx_sum f N = bx_sum g N
  | 0, _ => rfl
  | b + 1, h => by
    show bx_sum f b + f b = bx_sum g b + g b
    rw [ei_sum_eq b (fun k hk => h k (by omega)), h b (by omega)]
theorem ei_eat {I : Nat → Nat → Int32} {N G t : Nat} (hA : em_gA I N G t) (d q : Int32) : em_eat I (em_gf I G q) d q N = em_meat I G d q N := by
  refine ei_sum_eq N (fun b hb => ?_)
  rw [hA.e54, hA.e56]
  by_cases h : em_msd I G b d q
  · rw [if_pos h, if_pos ((ei_std hA hb d q).mpr h)]
  · rw [if_neg h, if_neg (fun z => h ((ei_std hA hb d q).mp z))]
theorem ei_hn {I : Nat → Nat → Int32} {N G t : Nat} (hA : em_gA I N G t) (d : Int32) : em_hn I (em_gf I G d) d N = bx_sum (fun b => if em_msd I G b d d then 1 else 0) N := by
  refine ei_sum_eq N (fun b hb => ?_)
  by_cases h : em_msd I G b d d
  · rw [if_pos h, if_pos ((ei_std hA hb d d).mpr h)]
  · rw [if_neg h, if_neg (fun z => h ((ei_std hA hb d d).mp z))]
