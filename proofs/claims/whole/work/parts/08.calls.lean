/-! FIELDS, NEW CELLS, CALLS -/
theorem em_ap {Γ : em_Cx} {s : State} {args : Array Value} (hG : em_G Γ s) {c : Nat} {r : vw_C} (h : vwCl[c]? = some r) (hnm : ∀ a, a < r.2.2 → ∀ b, b < r.2.2 → a ≠ b → (r.2.1 a).2.1 ≠ (r.2.1 b).2.1) (hty : ∀ k, k < r.2.2 → ∃ ty, parseFieldDescriptor (r.2.1 k).2.2.1 = some ty) : ∀ x y, x < r.2.2 → y < r.2.2 → x ≠ y → ((em_D Γ).2 c) x ≠ ((em_D Γ).2 c) y := by
  intro x y hx hy hne
  obtain ⟨hS, -⟩ := hG.2.1.1 c _ h
  obtain ⟨_, _, _, fa, hia, ea⟩ := hS x hx
  obtain ⟨_, _, _, fb, hib, eb⟩ := hS y hy
  rw [← ea, ← eb]
  obtain ⟨t1, h1⟩ := hty x hx
  obtain ⟨t2, h2⟩ := hty y hy
  refine u_apart (args := args) (em_lays hG h hx) (em_lays hG h hy) hia hib ?_
  rw [(State.fieldFound?_type hia h1).1, (State.fieldFound?_type hib h2).1]
  exact hnm x hx y hy hne
theorem em_nms {c : Nat} {r : vw_C} (h : vwCl[c]? = some r) : ∀ a, a < r.2.2 → ∀ b, b < r.2.2 → a ≠ b → (r.2.1 a).2.1 ≠ (r.2.1 b).2.1 := by
  match c, h with
  | 0, h => cases h; exact nmX0
  | 1, h => cases h; exact nmX1
  | 2, h => cases h; exact nmX2
  | 3, h => cases h; exact nmX3
  | 4, h => cases h; exact nmX4
  | 5, h => cases h; exact nmX5
  | 6, h => cases h; exact nmX6
  | 7, h => cases h; exact nmX7
  | 8, h => cases h; exact nmX8
  | n + 9, h => simp [vwCl] at h
theorem em_tyo {c : Nat} {r : vw_C} (h : vwCl[c]? = some r) : ∀ k, k < r.2.2 → parseFieldDescriptor (r.2.1 k).2.2.1 = some (em_ty c k) := by
  match c, h with
  | 0, h => cases h; exact tyX0_ok
  | 1, h => cases h; exact tyX1_ok
  | 2, h => cases h; exact tyX2_ok
  | 3, h => cases h; exact tyX3_ok
  | 4, h => cases h; exact tyX4_ok
  | 5, h => cases h; exact tyX5_ok
  | 6, h => cases h; exact tyX6_ok
  | 7, h => cases h; exact tyX7_ok
  | 8, h => cases h; exact tyX8_ok
  | n + 9, h => simp [vwCl] at h
def em_pf (μ : em_Me) (pc : Nat) : Option (Nat × Nat × Nat) := match em_i μ pc with
  | some (o, a, _, nx) => bif Nat.beq o 74 then (match em_fl μ a with
    | some (c, j) => some (c, j, nx)
    | none => none) else none
  | none => none
section EmCalls
variable {Γ : em_Cx} {K : Nat} {μ : em_Me} {hp0 : em_Hp} {fin : Option Value × em_Hp} {pc a nx : Nat} {b : Int32} {lc : List (Nat × Value)} {st t : List Value} {hp hp' : em_Hp}
theorem em_put {c j k : Nat} {v : Value} {r : vw_C} (hok : em_ok μ) (h : em_pf μ pc = some (c, j, nx)) (hk : em_k k = c) (hc9 : c < 9) (hn : k < em_n hp) (hr0 : vwCl[c]? = some r) (hfin : (r.2.1 j).2.2.2 = false ∨ ((r.2.1 j).2.2.2 = true ∧ (em_y μ).name = "<init>" ∧ (r.2.1 j).1 = em_own μ))
    (hnar : narrow (em_ty c j) (em_v Γ v) = em_v Γ v) (hfit : fits (em_ty c j) (em_v Γ v) = true) (hn' : em_n hp' = em_n hp) (hm' : em_m hp' = em_m hp) (hd' : ∀ q, em_ln hp' q = em_ln hp q) (hI : ∀ q, q ≠ k → em_I hp' q = em_I hp q) (hJ : ∀ q, q ≠ k → em_J hp' q = em_J hp q) (hR : ∀ q, q ≠ k → em_R hp' q = em_R hp q)
    (hv : ∀ q, em_fv hp' c k q = if q = j then v else em_fv hp c k q) (kk : em_EW Γ K μ hp0 fin nx lc t hp') : em_EW Γ K μ hp0 fin pc lc (v :: .ref k :: t) hp := by
  unfold em_pf at h
  split at h
  case h_2 => cases h
  rename_i o a1 b1 n1 hi
  cases hq : Nat.beq o 74 with
  | false => rw [hq] at h; cases h
  | true =>
    rw [hq] at h
    have e0 := Nat.eq_of_beq_eq_true hq
    subst e0
    simp only [cond_true] at h
    split at h
    case h_2 => cases h
    rename_i c1 j1 hf1
    cases h
    obtain ⟨ii, len, hd, hdec, hnx⟩ := hok.dec hi
    subst hnx
    cases hd
    obtain ⟨r', hr1, hj, hlink⟩ := hok.2.1 _ _ _ hf1
    obtain rfl : r' = r := Option.some.inj (hr1.symm.trans hr0)
    intro p e s m args below meth c0 hx hb hr hlk hml hown hnm hG hs H locs cells slots ls hW hlo hcl hsl hl
    have hnf : em_nf c = r'.2.2 := em_nf_ok hr0
    obtain ⟨cell, g1, g2, g3, g4⟩ := (em_cl_c hk hc9).mp (hW.2.2 k hn)
    obtain ⟨hS, hfc, kC, hkC, hkind⟩ := hG.2.1.1 c r' hr0
    obtain ⟨cf, kf, fi, f, hfi, hfs⟩ := hS j hj
    have hap := em_ap (args := args) hG hr0 (em_nms hr0) (fun k hk => ⟨_, em_tyo hr0 k hk⟩)
    have hlays := em_lays (args := args) hG hr0 hj
    have hst := (u_facts hfc hkC hlays hfi).1
    have fini : ∀ H1 : Heap, H1[em_z Γ + k]? = some (cell.setSlot f.slot (em_v Γ v)) → H1.size = H.size → (∀ q, q ≠ em_z Γ + k → H1[q]? = H[q]?) → em_W Γ hp' H1 := by
      intro H1 e1 z1 oq
      refine em_W_set (k := k) hW hn' (fun q _ => hd' q) hI hJ hR z1 oq ((em_cl_c hk hc9).mpr ?_)
      rw [hfs] at e1
      refine t_OB.to (V := updV (fun j => em_v Γ (em_fv hp c k j)) j (em_v Γ v)) ⟨_, e1, g2, g3, t_set g4 (by rw [hnf]; exact hap) (by rw [hnf]; exact hj) (em_v Γ v)⟩ (fun q _ => ?_)
      rw [hv q]
      by_cases hqj : q = j
      · simp [updV, hqj]
      · simp [updV, hqj]
    rcases hfin with hf0 | ⟨hf0, hf1', hf2⟩
    · have hlay := em_layAt (args := args) hG hr0 hj
      unfold u_lay at hlay
      rw [if_neg (by rw [hf0]; decide)] at hlay
      have h6 := u_store hfc hkC hkind hlay hfi (em_tyo hr0 j hj) hnar hfit
      refine W.putK hx hb (f := f) ⟨hown, hG.1 _ hlink rfl args, ⟨_, _, _, hfi⟩, hst⟩ (by rw [g2]; exact h6) g1 g3 (by rw [hfs]; exact k2_hasslot (g4 j (by rw [hnf]; exact hj))) rfl rfl hdec fun H1 e1 z1 oq => ?_
      exact kk p e s m args below meth c0 hx hb hr hlk hml hown hnm hG hs H1 _ cells slots ls (fini H1 e1 z1 oq) (em_lo hlo k _) (by rw [hn']; exact hcl) (by rw [hm']; exact hsl) hl
    · have hlay := em_layAt (args := args) hG hr0 hj
      unfold u_lay at hlay
      rw [if_pos hf0] at hlay
      have hcf : m.cls = cf := by
        obtain ⟨_, _, c', _, _, _, -, -, hf', -, -, -, hown2, -⟩ := Cond.laysFinal_spec hlay
        have e1 : c' = cf := by have := hfi.symm.trans hf'; simp at this; exact this.1.symm
        rw [hf2] at hown2
        rw [← e1]; exact Option.some.inj (hown.symm.trans hown2)
      have h6 := u_fits hfc hkC hkind (Or.inr hlay) hfi (em_tyo hr0 j hj) hnar hfit
      refine W.putFinK hx hb hown (hG.1 _ hlink rfl args) hfi hst hcf (hnm.trans hf1') (by rw [g2]; exact h6) g1 g3 (by rw [hfs]; exact k2_hasslot (g4 j (by rw [hnf]; exact hj))) rfl rfl hdec fun H1 e1 z1 oq => ?_
      exact kk p e s m args below meth c0 hx hb hr hlk hml hown hnm hG hs H1 _ cells slots ls (fini H1 e1 z1 oq) (em_lo hlo k _) (by rw [hn']; exact hcl) (by rw [hm']; exact hsl) hl
theorem em_putI {c j k : Nat} {x : Int32} {r : vw_C} (hok : em_ok μ) (h : em_pf μ pc = some (c, j, nx)) (hk : em_k k = c) (hc9 : c < 9) (hn : k < em_n hp) (hr0 : vwCl[c]? = some r) (hfin : (r.2.1 j).2.2.2 = false) (ht : em_ty c j = .int) (kk : em_EW Γ K μ hp0 fin nx lc t (em_sI hp k (va_up (em_I hp k) j x))) : em_EW Γ K μ hp0 fin pc lc (.int x :: .ref k :: t) hp := by
  refine em_put (hp' := em_sI hp k (va_up (em_I hp k) j x)) hok h hk hc9 hn hr0 (Or.inl hfin) (by rw [ht]; rfl) (by rw [ht]; rfl) rfl rfl (fun _ => rfl) em_ne (fun _ _ => rfl) (fun _ _ => rfl) (fun q => ?_) kk
  unfold em_fv
  by_cases hq : q = j
  · subst hq
    rw [ht, if_pos rfl]
    simp [em_I, va_up]
  · rw [if_neg hq]
    split
    · simp [em_I, va_up, hq]
    · rfl
theorem em_putR {c j k x : Nat} {r : vw_C} (hok : em_ok μ) (h : em_pf μ pc = some (c, j, nx)) (hk : em_k k = c) (hc9 : c < 9) (hn : k < em_n hp) (hr0 : vwCl[c]? = some r) (hfin : (r.2.1 j).2.2.2 = false ∨ ((r.2.1 j).2.2.2 = true ∧ (em_y μ).name = "<init>" ∧ (r.2.1 j).1 = em_own μ)) (ht : (∃ n, em_ty c j = .object n) ∨ ∃ n, em_ty c j = .array n) (kk : em_EW Γ K μ hp0 fin nx lc t (em_sR hp k (va_up (em_R hp k) j (some x)))) : em_EW Γ K μ hp0 fin pc lc (.ref x :: .ref k :: t) hp := by
  refine em_put (hp' := em_sR hp k (va_up (em_R hp k) j (some x))) hok h hk hc9 hn hr0 hfin (by rcases ht with ⟨n, e⟩ | ⟨n, e⟩ <;> rw [e] <;> rfl) (by rcases ht with ⟨n, e⟩ | ⟨n, e⟩ <;> rw [e] <;> rfl) rfl rfl (fun _ => rfl) (fun _ _ => rfl) (fun _ _ => rfl) em_ne (fun q => ?_) kk
  unfold em_fv
  by_cases hq : q = j
  · subst hq
    rw [if_pos rfl]
    rcases ht with ⟨n, e⟩ | ⟨n, e⟩ <;> rw [e] <;> simp [em_R, va_up, em_rf]
  · rw [if_neg hq]
    split
    · rfl
    · simp [em_R, va_up, hq]
end EmCalls
