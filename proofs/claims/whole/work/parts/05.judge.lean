/-! METHODS AND THE JUDGEMENT. A method: ((its class, its name, its code, its locals, its answer's type), instructions (operation, number, constant, next pc) by pc, fields by pool index (class, slot), int constants by pool index) -/
abbrev em_Me : Type := (String × MethodName × ByteArray × Nat × Option FieldType) × (Nat → Option (Nat × Nat × Int32 × Nat)) × (Nat → Option (Nat × Nat)) × (Nat → Option Int32)
abbrev em_own (μ : em_Me) : String := μ.1.1
abbrev em_y (μ : em_Me) : MethodName := μ.1.2.1
abbrev em_c (μ : em_Me) : ByteArray := μ.1.2.2.1
abbrev em_nL (μ : em_Me) : Nat := μ.1.2.2.2.1
abbrev em_rt (μ : em_Me) : Option FieldType := μ.1.2.2.2.2
abbrev em_i (μ : em_Me) : Nat → Option (Nat × Nat × Int32 × Nat) := μ.2.1
abbrev em_fl (μ : em_Me) : Nat → Option (Nat × Nat) := μ.2.2.1
abbrev em_kl (μ : em_Me) : Nat → Option Int32 := μ.2.2.2
def em_rm (K mc ms : Nat) : Room := { frames := K, cells := mc, slots := ms, locals := 40 * K }
def em_lv (Γ : em_Cx) (lc : List (Nat × Value)) : List (Nat × Value) := lc.map (fun q => (q.1, em_v Γ q.2))
def em_Pc (Γ : em_Cx) (av : List Value) (hp : em_Hp) : Array Value → State → Prop := fun v U => v = (av.map (em_v Γ)).toArray ∧ em_G Γ U ∧ em_W Γ hp U.heap
def em_Q (Γ : em_Cx) (r : Option Value) (hp : em_Hp) : Array Value → State → Outcome → State → Prop := fun _ _ oc t => oc = .returned (r.map (em_v Γ)) ∧ em_W Γ hp t.heap
/-- a method's contract: of height K, from these arguments and this heap it comes to this answer and this heap -/
def em_MC (Γ : em_Cx) (K : Nat) (μ : em_Me) (av : List Value) (hp : em_Hp) (r : Option Value) (hp' : em_Hp) : Prop :=
  em_n hp ≤ em_n hp' ∧ em_m hp ≤ em_m hp' ∧ Met (em_l Γ) (em_y μ) [.code (em_y μ) (em_c μ) (em_nL μ) (em_rt μ)] (em_rm K (em_n hp' - em_n hp) (em_m hp' - em_m hp)) (em_Pc Γ av hp) (em_Q Γ r hp') (em_n hp' - em_n hp) (em_m hp' - em_m hp) (em_A Γ)
/-- the judgement: from this point of the method's body, with these locals, this stack and this heap, the method ends with the answer and the heap of fin; hp0 was the heap at its entry -/
def em_EW (Γ : em_Cx) (K : Nat) (μ : em_Me) (hp0 : em_Hp) (fin : Option Value × em_Hp) (pc : Nat) (lc : List (Nat × Value)) (st : List Value) (hp : em_Hp) : Prop :=
  ∀ (p : Program) (e : Env) (s : State) (m : MethodId) (args : Array Value) (below : List Frame) (meth : Method) (c : Code),
    p.tables.exec = Jvm.exec → c.code = em_c μ → meth.sig.returnType = em_rt μ → meth.locks = false → c.maxLocals = em_nL μ → s.vm.findClass (em_own μ) = some m.cls → meth.name = (em_y μ).name → em_G Γ s → s.heap.size = em_z Γ + em_n hp0 →
    ∀ (H : Heap) (locs : List Loc) (cells slots : Nat) (ls : Array Slot), em_W Γ hp H → (∀ q ∈ locs, em_A Γ q.base) → cells + em_n hp0 = em_n hp → slots + em_m hp0 = em_m hp → lv_has ls (em_nL μ) (em_lv Γ lc) →
      W p (em_l Γ) e (em_rm K (em_n fin.2 - em_n hp0) (em_m fin.2 - em_m hp0)) s m args below meth c H locs cells slots (MQ below (em_Q Γ fin.1 fin.2) args s (em_n fin.2 - em_n hp0) (em_m fin.2 - em_m hp0) (em_A Γ)) (F0 m pc ls (st.map (em_v Γ)))
theorem em_lv_args (Γ : em_Cx) : ∀ (i : Nat) (vs : List Value), lv_args i (vs.map (em_v Γ)) = em_lv Γ (lv_args i vs)
  | _, [] => rfl
  | i, v :: vs => by
    show (i, em_v Γ v) :: lv_args (if (em_v Γ v).category = 2 then i + 2 else i + 1) (vs.map (em_v Γ)) = (i, em_v Γ v) :: em_lv Γ (lv_args (if v.category = 2 then i + 2 else i + 1) vs)
    rw [em_v_cat, em_lv_args Γ _ vs]
def em_cats (vs : List Value) : Nat := (vs.map (fun v => v.category)).sum
theorem em_sl_len (Γ : em_Cx) : ∀ (vs : List Value), (lg_sl (vs.map (em_v Γ))).length = em_cats vs
  | [] => rfl
  | v :: vs => by
    have ih := em_sl_len Γ vs
    have e : lg_sl ((v :: vs).map (em_v Γ)) = lg_sl [em_v Γ v] ++ lg_sl (vs.map (em_v Γ)) := by simp [lg_sl]
    rw [e, List.length_append, ih]
    show _ = v.category + em_cats vs
    rcases lv_cat v with h | h <;> simp [lg_sl, em_v_cat, h]
theorem em_MC_of {Γ : em_Cx} {K : Nat} {μ : em_Me} {av : List Value} {hp : em_Hp} {r : Option Value} {hp' : em_Hp} (hn : em_n hp ≤ em_n hp') (hm : em_m hp ≤ em_m hp') (hy : plainName (em_y μ).cls = true) (hc : (em_y μ).cls = em_own μ) (ha : em_cats av ≤ em_nL μ)
    (k : em_EW Γ K μ hp (r, hp') 0 (lv_args 0 av) [] hp) : em_MC Γ K μ av hp r hp' := by
  refine ⟨hn, hm, Met.ofW (cc := em_c μ) (maxL := em_nL μ) (ret := em_rt μ) hy rfl ?_⟩
  intro p e s m args below meth c s₁ B hml hv
  obtain ⟨rfl, hG, hW⟩ := hv
  have hown : s.vm.findClass (em_y μ).cls = some m.cls := findClass_of_methodNamed B.named
  rw [hc] at hown
  have hl := lv_entry (av.map (em_v Γ)) (n := em_nL μ) (by rw [em_sl_len]; exact ha)
  rw [lg_entry_eq]
  rw [em_lv_args] at hl
  exact k p e s m _ below meth c B.exec B.bytes B.returns B.notSynchronized hml hown (name_of_methodNamed B.named B.method).1 hG hW.1 s.heap [] 0 0 _ hW (fun q h => by cases h) (by omega) (by omega) hl
theorem em_EW_as {Γ : em_Cx} {K : Nat} {μ : em_Me} {hp0 : em_Hp} {fin : Option Value × em_Hp} {pc : Nat} {lc lc' : List (Nat × Value)} {st st' : List Value} {hp hp' : em_Hp} (k : em_EW Γ K μ hp0 fin pc lc st hp) (h1 : lc = lc') (h2 : st = st') (h3 : hp = hp') : em_EW Γ K μ hp0 fin pc lc' st' hp' := by subst h1; subst h2; subst h3; exact k
/-! what is checked of a method's tables, once -/
def em_f4 (f : Fin 4 → Instr) (a : Nat) : Option (Instr × Nat) := if h : a < 4 then some (f ⟨a, h⟩, 1) else none
def em_br (pc a : Nat) : Int := (a : Int) - (pc : Int)
def em_dec (op a : Nat) (b : Int32) (pc : Nat) : Option (Instr × Nat) := match op with
  | 0 => some (.iconst b.toInt, 1)
  | 1 => if (Int8.ofInt b.toInt).toInt32 = b then some (.bipush b.toInt, 2) else none
  | 2 => if (Int16.ofInt b.toInt).toInt32 = b then some (.sipush b.toInt, 3) else none
  | 3 => if a = 0 then some (.lconst 0, 1) else if a = 1 then some (.lconst 1, 1) else none
  | 4 => em_f4 .iload_n a
  | 5 => some (.iload a, 2)
  | 6 => em_f4 .lload_n a
  | 7 => some (.lload a, 2)
  | 8 => em_f4 .aload_n a
  | 9 => some (.aload a, 2)
  | 10 => em_f4 .istore_n a
  | 11 => some (.istore a, 2)
  | 12 => em_f4 .lstore_n a
  | 13 => some (.lstore a, 2)
  | 14 => em_f4 .astore_n a
  | 15 => some (.astore a, 2)
  | 16 => some (.iinc a b.toInt, 3)
  | 17 => some (.iadd, 1)
  | 18 => some (.isub, 1)
  | 19 => some (.imul, 1)
  | 20 => some (.iand, 1)
  | 21 => some (.ior, 1)
  | 22 => some (.ixor, 1)
  | 23 => some (.ishl, 1)
  | 24 => some (.ishr, 1)
  | 25 => some (.iushr, 1)
  | 26 => some (.ladd, 1)
  | 27 => some (.lmul, 1)
  | 28 => some (.i2l, 1)
  | 29 => some (.lcmp, 1)
  | 30 => some (.dup, 1)
  | 31 => some (.dup2, 1)
  | 32 => some (.goto (em_br pc a), 3)
  | 33 => some (.getfield a, 3)
  | 34 => some (.arraylength, 1)
  | 35 => some (.ldc a, 2)
  | 36 => some (.ldc_w a, 3)
  | 37 => some (.ldc2_w a, 3)
  | 50 => some (.ifCond .eq (em_br pc a), 3)
  | 51 => some (.ifCond .ne (em_br pc a), 3)
  | 52 => some (.ifCond .lt (em_br pc a), 3)
  | 53 => some (.ifCond .ge (em_br pc a), 3)
  | 54 => some (.ifCond .gt (em_br pc a), 3)
  | 55 => some (.ifCond .le (em_br pc a), 3)
  | 56 => some (.if_icmp .eq (em_br pc a), 3)
  | 57 => some (.if_icmp .ne (em_br pc a), 3)
  | 58 => some (.if_icmp .lt (em_br pc a), 3)
  | 59 => some (.if_icmp .ge (em_br pc a), 3)
  | 60 => some (.if_icmp .gt (em_br pc a), 3)
  | 61 => some (.if_icmp .le (em_br pc a), 3)
  | 62 => some (.iaload, 1)
  | 63 => some (.baload, 1)
  | 64 => some (.laload, 1)
  | 65 => some (.aaload, 1)
  | 66 => some (.iastore, 1)
  | 67 => some (.bastore, 1)
  | 68 => some (.lastore, 1)
  | 69 => some (.aastore, 1)
  | 70 => some (.idiv, 1)
  | 71 => some (.irem, 1)
  | 72 => some (.ldiv, 1)
  | 73 => some (.lrem, 1)
  | 74 => some (.putfield a, 3)
  | 75 => some (.new a, 3)
  | 76 => some (.newarray .int, 2)
  | 77 => some (.newarray .long, 2)
  | 78 => some (.newarray .boolean, 2)
  | 79 => some (.anewarray a, 3)
  | 80 => some (.invokestatic a, 3)
  | 81 => some (.invokevirtual a, 3)
  | 82 => some (.invokespecial a, 3)
  | 83 => some (.ireturn, 1)
  | 84 => some (.lreturn, 1)
  | 85 => some (.areturn, 1)
  | 86 => some (.return_, 1)
  | _ => none
/-- the instructions are the code's, below a bound; the next pc is where the next one stands -/
def em_okI (μ : em_Me) (N : Nat) : Prop := (∀ pc, N ≤ pc → em_i μ pc = none) ∧ ∀ pc, pc < N → ∀ op a b nx, em_i μ pc = some (op, a, b, nx) → ∃ i len, em_dec op a b pc = some (i, len) ∧ decode (em_c μ) pc = .ok (i, len) ∧ nx = pc + len
/-- a field's link, among the tables' words -/
def em_okF (own : String) (idx c j : Nat) : Prop := ∃ r : vw_C, vwCl[c]? = some r ∧ j < r.2.2 ∧ Cond.fieldLink own idx (r.2.1 j).1 (r.2.1 j).2.1 (r.2.1 j).2.2.1 ∈ lw_tbl
def em_ok (μ : em_Me) : Prop := (∃ N, em_okI μ N) ∧ (∀ idx c j, em_fl μ idx = some (c, j) → em_okF (em_own μ) idx c j) ∧ (∀ idx v, em_kl μ idx = some v → Cond.constant (em_own μ) idx v ∈ lw_tbl) ∧ ∀ pc a b nx, em_i μ pc = some (37, a, b, nx) → Cond.constantLong (em_own μ) a (-1) ∈ lw_tbl
theorem em_ok.dec {μ : em_Me} (h : em_ok μ) {pc op a nx : Nat} {b : Int32} (hi : em_i μ pc = some (op, a, b, nx)) : ∃ i len, em_dec op a b pc = some (i, len) ∧ decode (em_c μ) pc = .ok (i, len) ∧ nx = pc + len := by
  obtain ⟨⟨N, h1, h2⟩, -⟩ := h
  by_cases hN : pc < N
  · exact h2 pc hN op a b nx hi
  · rw [h1 pc (by omega)] at hi; cases hi
