/-! THE HEAP THAT THE CONSTRUCTORS LEAVE -/
theorem es_arr {c : ClassId} {N : Nat} {f g : Nat → Value} (h : ∀ j, j < N → f j = g j) : arrV c N f = arrV c N g := by
  have e : (Array.ofFn (n := N) fun j => f j.val) = Array.ofFn (n := N) fun j => g j.val := by
    congr 1
    funext j
    exact h j.val j.isLt
  unfold arrV
  rw [e]
theorem es_cl {Γ : em_Cx} {hp hp' : em_Hp} {H : Heap} {k : Nat} (hI : em_I hp' k = em_I hp k) (hJ : em_J hp' k = em_J hp k) (hl : em_ln hp' k = em_ln hp k) (hR : ¬ em_k k = 12 → ∀ j, j < 44 → em_R hp' k j = em_R hp k j) (hR2 : em_k k = 12 → ∀ j, j < em_ln hp k → em_R hp' k j = em_R hp k j) (h : em_cl Γ hp H k) : em_cl Γ hp' H k := by
  unfold em_cl at h ⊢
  rw [hI, hJ, hl]
  split at h
  · exact h
  · exact h
  · exact h
  · rename_i h12
    rw [h]
    congr 1
    refine es_arr (fun j hj => ?_)
    rw [hR2 h12 j hj]
  · rename_i h12
    refine h.to (fun j hj => ?_)
    have h44 : j < 44 := by
      refine Nat.lt_of_lt_of_le hj ?_
      unfold em_nf
      split <;> decide
    unfold em_fv
    rw [hI, hR h12 j h44]
theorem es_W {Γ : em_Cx} {hp hp' : em_Hp} {H : Heap} (hn : em_n hp' = em_n hp) (hI : ∀ k, k < em_n hp → em_I hp' k = em_I hp k) (hJ : ∀ k, k < em_n hp → em_J hp' k = em_J hp k) (hl : ∀ k, k < em_n hp → em_ln hp' k = em_ln hp k) (hR : ∀ k, k < em_n hp → ¬ em_k k = 12 → ∀ j, j < 44 → em_R hp' k j = em_R hp k j) (hR2 : ∀ k, k < em_n hp → em_k k = 12 → ∀ j, j < em_ln hp k → em_R hp' k j = em_R hp k j) (h : em_W Γ hp H) : em_W Γ hp' H := by
  refine ⟨by rw [hn]; exact h.1, h.2.1, fun k hk => ?_⟩
  rw [hn] at hk
  exact es_cl (hI k hk) (hJ k hk) (hl k hk) (hR k hk) (hR2 k hk) (h.2.2 k hk)
theorem es_R : ∀ k, k < 85 → ∀ j, j < 44 → k = 30 ∨ em_RR (14, 64, 65, 66, false) k j = ec_rl ec_Lc k j := by decide +kernel
theorem es_R30 : ∀ j, j < 8 → em_RR (14, 64, 65, 66, false) 30 j = ec_rl ec_Lc 30 j := by decide +kernel
theorem es_12 : ∀ k, k < 85 → em_k k = 12 → k = 30 := by decide +kernel
theorem es_30 : em_k 30 = 12 := rfl
theorem es_W0 {Γ : em_Cx} {m : Nat} {I : Nat → Nat → Int32} {H : Heap} (h : em_W Γ (ec_hz 85 m I ec_ZJ (ec_rl ec_Lc)) H) : em_W Γ (em_hm 85 m (fun _ => 0) I ec_ZJ (14, 64, 65, 66, false)) H := by
  refine es_W (hp := ec_hz 85 m I ec_ZJ (ec_rl ec_Lc)) rfl (fun _ _ => rfl) (fun _ _ => rfl) (fun _ _ => rfl) (fun k hk h12 j hj => ?_) (fun k hk h12 j hj => ?_) h
  · rcases es_R k hk j hj with rfl | e
    · exact absurd es_30 h12
    · exact e
  · obtain rfl := es_12 k hk h12
    exact es_R30 j hj
theorem es_EW {Γ : em_Cx} {K : Nat} {μ : em_Me} {hp0 hp hp' : em_Hp} {fin : Option Value × em_Hp} {pc : Nat} {lc : List (Nat × Value)} {st : List Value} (hn : em_n hp' = em_n hp) (hm : em_m hp' = em_m hp) (hW : ∀ H, em_W Γ hp H → em_W Γ hp' H) (k : em_EW Γ K μ hp0 fin pc lc st hp') : em_EW Γ K μ hp0 fin pc lc st hp := by
  intro p e s m args below meth c hx hb hr hlk hml hown hnm hG hs H locs cells slots ls hW0 hlo hcl hsl hl
  exact k p e s m args below meth c hx hb hr hlk hml hown hnm hG hs H locs cells slots ls (hW H hW0) hlo (by rw [hn]; exact hcl) (by rw [hm]; exact hsl) hl
