/-! ENGINE, part 5: what each instruction gives, as closures; made by wip/engine/gen07.py -/
section QEK
/-- a method: its name, bytes, locals, answer, words, class -/
abbrev qe_B : Type := MethodName × ByteArray × Nat × Option FieldType × List Cond × String
def qe_bd (B : qe_B) (p : Program) (l : Launch) (s : State) (m : MethodId) (args : Array Value) (meth : Method) (c : Code) : Prop :=
  p.tables.exec = Jvm.exec ∧ c.code = B.2.1 ∧ c.maxLocals = B.2.2.1 ∧ meth.sig.returnType = B.2.2.2.1 ∧ (∀ w ∈ B.2.2.2.2.1, w.before args s = true) ∧ s.vm.findClass B.2.2.2.2.2 = some m.cls ∧ meth.locks = false ∧ (B.1.name = "<init>" → meth.name = "<init>") ∧ l.stackTraces = false
def qc_st (B : qe_B) (pc nx : Nat) (st st2 : List Value) : Prop := ∀ {p : Program} {l : Launch} {e : Env} {R : Room} {s : State} {m : MethodId} {args : Array Value} {below : List Frame} {meth : Method} {c : Code} {H : Heap} {locs : List Loc} {cells slots : Nat} {Q : State → Prop} {la : Array Slot} {rest : List Value}, qe_bd B p l s m args meth c → W p l e R s m args below meth c H locs cells slots Q (F0 m nx la (st2 ++ rest)) → W p l e R s m args below meth c H locs cells slots Q (F0 m pc la (st ++ rest))
theorem qk_iconst {B : qe_B} {pc : Nat} {n : Int} {v : Int32} (h : decode B.2.1 pc = .ok (.iconst n, 1)) (hv : Int32.ofInt n = v) : qc_st B pc (pc + 1) [] [.int v] := fun {p l e R s m args below meth c H locs cells slots Q la rest} hB k => lv_iconst hB.1 hB.2.1 h hv k
theorem qk_bipush {B : qe_B} {pc : Nat} {n : Int} {v : Int32} (h : decode B.2.1 pc = .ok (.bipush n, 2)) (hv : (Int8.ofInt n).toInt32 = v) : qc_st B pc (pc + 2) [] [.int v] := fun {p l e R s m args below meth c H locs cells slots Q la rest} hB k => lv_bipush hB.1 hB.2.1 h hv k
theorem qk_sipush {B : qe_B} {pc : Nat} {n : Int} {v : Int32} (h : decode B.2.1 pc = .ok (.sipush n, 3)) (hv : (Int16.ofInt n).toInt32 = v) : qc_st B pc (pc + 3) [] [.int v] := fun {p l e R s m args below meth c H locs cells slots Q la rest} hB k => lv_sipush hB.1 hB.2.1 h hv k
theorem qk_lconst {B : qe_B} {pc : Nat} {n : Fin 2} {v : Int64} (h : decode B.2.1 pc = .ok (.lconst n, 1)) (hv : Int64.ofNat (n : Nat) = v) : qc_st B pc (pc + 1) [] [.long v] := fun {p l e R s m args below meth c H locs cells slots Q la rest} hB k => lv_lconst hB.1 hB.2.1 h hv k
theorem qk_ldc {B : qe_B} {pc index : Nat} {v : Int32} (h : decode B.2.1 pc = .ok (.ldc index, 2)) (hw : Cond.constant B.2.2.2.2.2 index v ∈ B.2.2.2.2.1) : qc_st B pc (pc + 2) [] [.int v] := fun {p l e R s m args below meth c H locs cells slots Q la rest} hB k => lv_ldc hB.1 hB.2.1 hB.2.2.2.2.2.1 (hB.2.2.2.2.1 _ hw) h k
theorem qk_ldcw {B : qe_B} {pc index : Nat} {v : Int32} (h : decode B.2.1 pc = .ok (.ldc_w index, 3)) (hw : Cond.constant B.2.2.2.2.2 index v ∈ B.2.2.2.2.1) : qc_st B pc (pc + 3) [] [.int v] := fun {p l e R s m args below meth c H locs cells slots Q la rest} hB k => lv_ldcw hB.1 hB.2.1 hB.2.2.2.2.2.1 (hB.2.2.2.2.1 _ hw) h k
theorem qk_ldc2 {B : qe_B} {pc index : Nat} {v : Int64} (h : decode B.2.1 pc = .ok (.ldc2_w index, 3)) (hw : Cond.constantLong B.2.2.2.2.2 index v ∈ B.2.2.2.2.1) : qc_st B pc (pc + 3) [] [.long v] := fun {p l e R s m args below meth c H locs cells slots Q la rest} hB k => lv_ldc2 hB.1 hB.2.1 hB.2.2.2.2.2.1 (hB.2.2.2.2.1 _ hw) h k
theorem qk_iadd {B : qe_B} {pc : Nat} (h : decode B.2.1 pc = .ok (.iadd, 1)) : ∀ x y : Int32, qc_st B pc (pc + 1) [.int y, .int x] [.int (qe_sem 10 x y)] := fun x y {p l e R s m args below meth c H locs cells slots Q la rest} hB k => lv_iadd hB.1 hB.2.1 h k
theorem qk_isub {B : qe_B} {pc : Nat} (h : decode B.2.1 pc = .ok (.isub, 1)) : ∀ x y : Int32, qc_st B pc (pc + 1) [.int y, .int x] [.int (qe_sem 11 x y)] := fun x y {p l e R s m args below meth c H locs cells slots Q la rest} hB k => lv_isub hB.1 hB.2.1 h k
theorem qk_imul {B : qe_B} {pc : Nat} (h : decode B.2.1 pc = .ok (.imul, 1)) : ∀ x y : Int32, qc_st B pc (pc + 1) [.int y, .int x] [.int (qe_sem 12 x y)] := fun x y {p l e R s m args below meth c H locs cells slots Q la rest} hB k => lv_imul hB.1 hB.2.1 h k
theorem qk_iand {B : qe_B} {pc : Nat} (h : decode B.2.1 pc = .ok (.iand, 1)) : ∀ x y : Int32, qc_st B pc (pc + 1) [.int y, .int x] [.int (qe_sem 13 x y)] := fun x y {p l e R s m args below meth c H locs cells slots Q la rest} hB k => lv_iand hB.1 hB.2.1 h k
theorem qk_ior {B : qe_B} {pc : Nat} (h : decode B.2.1 pc = .ok (.ior, 1)) : ∀ x y : Int32, qc_st B pc (pc + 1) [.int y, .int x] [.int (qe_sem 14 x y)] := fun x y {p l e R s m args below meth c H locs cells slots Q la rest} hB k => lv_ior hB.1 hB.2.1 h k
theorem qk_ixor {B : qe_B} {pc : Nat} (h : decode B.2.1 pc = .ok (.ixor, 1)) : ∀ x y : Int32, qc_st B pc (pc + 1) [.int y, .int x] [.int (qe_sem 15 x y)] := fun x y {p l e R s m args below meth c H locs cells slots Q la rest} hB k => lv_ixor hB.1 hB.2.1 h k
theorem qk_ishl {B : qe_B} {pc : Nat} (h : decode B.2.1 pc = .ok (.ishl, 1)) : ∀ x y : Int32, qc_st B pc (pc + 1) [.int y, .int x] [.int (qe_sem 16 x y)] := fun x y {p l e R s m args below meth c H locs cells slots Q la rest} hB k => lv_ishl hB.1 hB.2.1 h k
theorem qk_ishr {B : qe_B} {pc : Nat} (h : decode B.2.1 pc = .ok (.ishr, 1)) : ∀ x y : Int32, qc_st B pc (pc + 1) [.int y, .int x] [.int (qe_sem 17 x y)] := fun x y {p l e R s m args below meth c H locs cells slots Q la rest} hB k => lv_ishr hB.1 hB.2.1 h k
theorem qk_iushr {B : qe_B} {pc : Nat} (h : decode B.2.1 pc = .ok (.iushr, 1)) : ∀ x y : Int32, qc_st B pc (pc + 1) [.int y, .int x] [.int (qe_sem 18 x y)] := fun x y {p l e R s m args below meth c H locs cells slots Q la rest} hB k => lv_iushr hB.1 hB.2.1 h rfl k
theorem qk_ineg {B : qe_B} {pc : Nat} (h : decode B.2.1 pc = .ok (.ineg, 1)) : ∀ x : Int32, qc_st B pc (pc + 1) [.int x] [.int (-x)] := fun x {p l e R s m args below meth c H locs cells slots Q la rest} hB k => lv_ineg hB.1 hB.2.1 h k
theorem qk_i2l {B : qe_B} {pc : Nat} (h : decode B.2.1 pc = .ok (.i2l, 1)) : ∀ x : Int32, qc_st B pc (pc + 1) [.int x] [.long x.toInt64] := fun x {p l e R s m args below meth c H locs cells slots Q la rest} hB k => lv_i2l hB.1 hB.2.1 h rfl k
theorem qk_lcmp {B : qe_B} {pc : Nat} (h : decode B.2.1 pc = .ok (.lcmp, 1)) : ∀ x y : Int64, qc_st B pc (pc + 1) [.long y, .long x] [.int (lg_cmp x y)] := fun x y {p l e R s m args below meth c H locs cells slots Q la rest} hB k => W.lcmp hB.1 hB.2.1 h k
theorem qk_idiv {B : qe_B} {pc : Nat} (h : decode B.2.1 pc = .ok (.idiv, 1)) : ∀ x y : Int32, ¬ y = 0 → qc_st B pc (pc + 1) [.int y, .int x] [.int (x / y)] := fun x y hy {p l e R s m args below meth c H locs cells slots Q la rest} hB k => lv_idiv hB.1 hB.2.1 h hy k
theorem qk_irem {B : qe_B} {pc : Nat} (h : decode B.2.1 pc = .ok (.irem, 1)) : ∀ x y : Int32, ¬ y = 0 → qc_st B pc (pc + 1) [.int y, .int x] [.int (x - x / y * y)] := fun x y hy {p l e R s m args below meth c H locs cells slots Q la rest} hB k => lv_irem hB.1 hB.2.1 h hy k
theorem qk_dup {B : qe_B} {pc : Nat} (h : decode B.2.1 pc = .ok (.dup, 1)) : ∀ v : Value, v.category = 1 → qc_st B pc (pc + 1) [v] [v, v] := fun v hv {p l e R s m args below meth c H locs cells slots Q la rest} hB k => lv_dup hB.1 hB.2.1 h hv k
theorem qk_pop {B : qe_B} {pc : Nat} (h : decode B.2.1 pc = .ok (.pop, 1)) : ∀ v : Value, v.category = 1 → qc_st B pc (pc + 1) [v] [] := fun v hv {p l e R s m args below meth c H locs cells slots Q la rest} hB k => lv_pop hB.1 hB.2.1 h hv k
theorem qk_dup2 {B : qe_B} {pc : Nat} (h : decode B.2.1 pc = .ok (.dup2, 1)) : ∀ v w : Value, v.category = 1 → w.category = 1 → qc_st B pc (pc + 1) [v, w] [v, w, v, w] := fun v w hv hw {p l e R s m args below meth c H locs cells slots Q la rest} hB k => lv_dup2_11 hB.1 hB.2.1 h hv hw k
theorem qk_goto {B : qe_B} {pc tgt : Nat} {off : Int} (h : decode B.2.1 pc = .ok (.goto off, 3)) (ht : (pc : Int) + off = (tgt : Int)) : qc_st B pc tgt [] [] := fun {p l e R s m args below meth c H locs cells slots Q la rest} hB k => lv_goto hB.1 hB.2.1 h ht k
def qe_br (k r : Nat) : Bool := cond (Nat.beq k 0) (Nat.beq r 1) (cond (Nat.beq k 1) (!(Nat.beq r 1)) (cond (Nat.beq k 2) (Nat.beq r 0) (cond (Nat.beq k 3) (!(Nat.beq r 0)) (cond (Nat.beq k 4) (Nat.beq r 2) (!(Nat.beq r 2))))))
def qc_if (B : qe_B) (pc nx tgt k : Nat) : Prop := ∀ {p : Program} {l : Launch} {e : Env} {R : Room} {s : State} {m : MethodId} {args : Array Value} {below : List Frame} {meth : Method} {c : Code} {H : Heap} {locs : List Loc} {cells slots : Nat} {Q : State → Prop} {la : Array Slot} {rest : List Value}, qe_bd B p l s m args meth c → ∀ x : Int32, W p l e R s m args below meth c H locs cells slots Q (F0 m (cond (qe_br k (qe_c3 (qe_so x) (qe_so 0))) tgt nx) la rest) → W p l e R s m args below meth c H locs cells slots Q (F0 m pc la (.int x :: rest))
def qc_ic (B : qe_B) (pc nx tgt k : Nat) : Prop := ∀ {p : Program} {l : Launch} {e : Env} {R : Room} {s : State} {m : MethodId} {args : Array Value} {below : List Frame} {meth : Method} {c : Code} {H : Heap} {locs : List Loc} {cells slots : Nat} {Q : State → Prop} {la : Array Slot} {rest : List Value}, qe_bd B p l s m args meth c → ∀ x y : Int32, W p l e R s m args below meth c H locs cells slots Q (F0 m (cond (qe_br k (qe_c3 (qe_so x) (qe_so y))) tgt nx) la rest) → W p l e R s m args below meth c H locs cells slots Q (F0 m pc la (.int y :: .int x :: rest))
theorem qe_c3_cases (x y : Int32) : (x < y ∧ qe_c3 (qe_so x) (qe_so y) = 0) ∨ (x = y ∧ qe_c3 (qe_so x) (qe_so y) = 1) ∨ (y < x ∧ qe_c3 (qe_so x) (qe_so y) = 2) := by
  rcases Nat.lt_trichotomy (qe_so x) (qe_so y) with h | h | h
  · exact Or.inl ⟨qe_so_ilt.mpr h, qe_c3_lt h⟩
  · exact Or.inr (Or.inl ⟨qe_so_inj.mpr h, qe_c3_eq h⟩)
  · exact Or.inr (Or.inr ⟨qe_so_ilt.mpr h, qe_c3_gt h⟩)
theorem qe_ilt_irr (x : Int32) : ¬ x < x := fun h => Nat.lt_irrefl _ (qe_so_ilt.mp h)
theorem qe_ilt_asym {x y : Int32} (h : x < y) : ¬ y < x := fun g => Nat.lt_asymm (qe_so_ilt.mp h) (qe_so_ilt.mp g)
theorem qe_ile {x y : Int32} : x ≤ y ↔ ¬ y < x := by
  rw [Int32.le_iff_toInt_le, Int32.lt_iff_toInt_lt]
  omega
theorem qe_br_eq (x y : Int32) : (qe_br 0 (qe_c3 (qe_so x) (qe_so y)) = true ∧ (x = y)) ∨ (qe_br 0 (qe_c3 (qe_so x) (qe_so y)) = false ∧ ¬ (x = y)) := by
  rcases qe_c3_cases x y with ⟨h, e⟩ | ⟨h, e⟩ | ⟨h, e⟩ <;> rw [e] <;> (try simp only [qe_ile])
  · first | exact Or.inl ⟨rfl, h⟩ | exact Or.inl ⟨rfl, qe_ilt_asym h⟩ | exact Or.inr ⟨rfl, fun q => q h⟩ | exact Or.inr ⟨rfl, qe_ilt_asym h⟩ | exact Or.inr ⟨rfl, fun q => by subst q; exact qe_ilt_irr _ h⟩ | exact Or.inl ⟨rfl, fun q => by subst q; exact qe_ilt_irr _ h⟩
  · subst h; first | exact Or.inl ⟨rfl, rfl⟩ | exact Or.inr ⟨rfl, qe_ilt_irr _⟩ | exact Or.inl ⟨rfl, qe_ilt_irr _⟩ | exact Or.inr ⟨rfl, fun q => q rfl⟩
  · first | exact Or.inl ⟨rfl, h⟩ | exact Or.inl ⟨rfl, qe_ilt_asym h⟩ | exact Or.inr ⟨rfl, fun q => q h⟩ | exact Or.inr ⟨rfl, qe_ilt_asym h⟩ | exact Or.inr ⟨rfl, fun q => by subst q; exact qe_ilt_irr _ h⟩ | exact Or.inl ⟨rfl, fun q => by subst q; exact qe_ilt_irr _ h⟩
theorem qe_br_ne (x y : Int32) : (qe_br 1 (qe_c3 (qe_so x) (qe_so y)) = true ∧ (¬ x = y)) ∨ (qe_br 1 (qe_c3 (qe_so x) (qe_so y)) = false ∧ ¬ (¬ x = y)) := by
  rcases qe_c3_cases x y with ⟨h, e⟩ | ⟨h, e⟩ | ⟨h, e⟩ <;> rw [e] <;> (try simp only [qe_ile])
  · first | exact Or.inl ⟨rfl, h⟩ | exact Or.inl ⟨rfl, qe_ilt_asym h⟩ | exact Or.inr ⟨rfl, fun q => q h⟩ | exact Or.inr ⟨rfl, qe_ilt_asym h⟩ | exact Or.inr ⟨rfl, fun q => by subst q; exact qe_ilt_irr _ h⟩ | exact Or.inl ⟨rfl, fun q => by subst q; exact qe_ilt_irr _ h⟩
  · subst h; first | exact Or.inl ⟨rfl, rfl⟩ | exact Or.inr ⟨rfl, qe_ilt_irr _⟩ | exact Or.inl ⟨rfl, qe_ilt_irr _⟩ | exact Or.inr ⟨rfl, fun q => q rfl⟩
  · first | exact Or.inl ⟨rfl, h⟩ | exact Or.inl ⟨rfl, qe_ilt_asym h⟩ | exact Or.inr ⟨rfl, fun q => q h⟩ | exact Or.inr ⟨rfl, qe_ilt_asym h⟩ | exact Or.inr ⟨rfl, fun q => by subst q; exact qe_ilt_irr _ h⟩ | exact Or.inl ⟨rfl, fun q => by subst q; exact qe_ilt_irr _ h⟩
theorem qe_br_lt (x y : Int32) : (qe_br 2 (qe_c3 (qe_so x) (qe_so y)) = true ∧ (x < y)) ∨ (qe_br 2 (qe_c3 (qe_so x) (qe_so y)) = false ∧ ¬ (x < y)) := by
  rcases qe_c3_cases x y with ⟨h, e⟩ | ⟨h, e⟩ | ⟨h, e⟩ <;> rw [e] <;> (try simp only [qe_ile])
  · first | exact Or.inl ⟨rfl, h⟩ | exact Or.inl ⟨rfl, qe_ilt_asym h⟩ | exact Or.inr ⟨rfl, fun q => q h⟩ | exact Or.inr ⟨rfl, qe_ilt_asym h⟩ | exact Or.inr ⟨rfl, fun q => by subst q; exact qe_ilt_irr _ h⟩ | exact Or.inl ⟨rfl, fun q => by subst q; exact qe_ilt_irr _ h⟩
  · subst h; first | exact Or.inl ⟨rfl, rfl⟩ | exact Or.inr ⟨rfl, qe_ilt_irr _⟩ | exact Or.inl ⟨rfl, qe_ilt_irr _⟩ | exact Or.inr ⟨rfl, fun q => q rfl⟩
  · first | exact Or.inl ⟨rfl, h⟩ | exact Or.inl ⟨rfl, qe_ilt_asym h⟩ | exact Or.inr ⟨rfl, fun q => q h⟩ | exact Or.inr ⟨rfl, qe_ilt_asym h⟩ | exact Or.inr ⟨rfl, fun q => by subst q; exact qe_ilt_irr _ h⟩ | exact Or.inl ⟨rfl, fun q => by subst q; exact qe_ilt_irr _ h⟩
theorem qe_br_ge (x y : Int32) : (qe_br 3 (qe_c3 (qe_so x) (qe_so y)) = true ∧ (y ≤ x)) ∨ (qe_br 3 (qe_c3 (qe_so x) (qe_so y)) = false ∧ ¬ (y ≤ x)) := by
  rcases qe_c3_cases x y with ⟨h, e⟩ | ⟨h, e⟩ | ⟨h, e⟩ <;> rw [e] <;> (try simp only [qe_ile])
  · first | exact Or.inl ⟨rfl, h⟩ | exact Or.inl ⟨rfl, qe_ilt_asym h⟩ | exact Or.inr ⟨rfl, fun q => q h⟩ | exact Or.inr ⟨rfl, qe_ilt_asym h⟩ | exact Or.inr ⟨rfl, fun q => by subst q; exact qe_ilt_irr _ h⟩ | exact Or.inl ⟨rfl, fun q => by subst q; exact qe_ilt_irr _ h⟩
  · subst h; first | exact Or.inl ⟨rfl, rfl⟩ | exact Or.inr ⟨rfl, qe_ilt_irr _⟩ | exact Or.inl ⟨rfl, qe_ilt_irr _⟩ | exact Or.inr ⟨rfl, fun q => q rfl⟩
  · first | exact Or.inl ⟨rfl, h⟩ | exact Or.inl ⟨rfl, qe_ilt_asym h⟩ | exact Or.inr ⟨rfl, fun q => q h⟩ | exact Or.inr ⟨rfl, qe_ilt_asym h⟩ | exact Or.inr ⟨rfl, fun q => by subst q; exact qe_ilt_irr _ h⟩ | exact Or.inl ⟨rfl, fun q => by subst q; exact qe_ilt_irr _ h⟩
theorem qe_br_gt (x y : Int32) : (qe_br 4 (qe_c3 (qe_so x) (qe_so y)) = true ∧ (y < x)) ∨ (qe_br 4 (qe_c3 (qe_so x) (qe_so y)) = false ∧ ¬ (y < x)) := by
  rcases qe_c3_cases x y with ⟨h, e⟩ | ⟨h, e⟩ | ⟨h, e⟩ <;> rw [e] <;> (try simp only [qe_ile])
  · first | exact Or.inl ⟨rfl, h⟩ | exact Or.inl ⟨rfl, qe_ilt_asym h⟩ | exact Or.inr ⟨rfl, fun q => q h⟩ | exact Or.inr ⟨rfl, qe_ilt_asym h⟩ | exact Or.inr ⟨rfl, fun q => by subst q; exact qe_ilt_irr _ h⟩ | exact Or.inl ⟨rfl, fun q => by subst q; exact qe_ilt_irr _ h⟩
  · subst h; first | exact Or.inl ⟨rfl, rfl⟩ | exact Or.inr ⟨rfl, qe_ilt_irr _⟩ | exact Or.inl ⟨rfl, qe_ilt_irr _⟩ | exact Or.inr ⟨rfl, fun q => q rfl⟩
  · first | exact Or.inl ⟨rfl, h⟩ | exact Or.inl ⟨rfl, qe_ilt_asym h⟩ | exact Or.inr ⟨rfl, fun q => q h⟩ | exact Or.inr ⟨rfl, qe_ilt_asym h⟩ | exact Or.inr ⟨rfl, fun q => by subst q; exact qe_ilt_irr _ h⟩ | exact Or.inl ⟨rfl, fun q => by subst q; exact qe_ilt_irr _ h⟩
theorem qe_br_le (x y : Int32) : (qe_br 5 (qe_c3 (qe_so x) (qe_so y)) = true ∧ (x ≤ y)) ∨ (qe_br 5 (qe_c3 (qe_so x) (qe_so y)) = false ∧ ¬ (x ≤ y)) := by
  rcases qe_c3_cases x y with ⟨h, e⟩ | ⟨h, e⟩ | ⟨h, e⟩ <;> rw [e] <;> (try simp only [qe_ile])
  · first | exact Or.inl ⟨rfl, h⟩ | exact Or.inl ⟨rfl, qe_ilt_asym h⟩ | exact Or.inr ⟨rfl, fun q => q h⟩ | exact Or.inr ⟨rfl, qe_ilt_asym h⟩ | exact Or.inr ⟨rfl, fun q => by subst q; exact qe_ilt_irr _ h⟩ | exact Or.inl ⟨rfl, fun q => by subst q; exact qe_ilt_irr _ h⟩
  · subst h; first | exact Or.inl ⟨rfl, rfl⟩ | exact Or.inr ⟨rfl, qe_ilt_irr _⟩ | exact Or.inl ⟨rfl, qe_ilt_irr _⟩ | exact Or.inr ⟨rfl, fun q => q rfl⟩
  · first | exact Or.inl ⟨rfl, h⟩ | exact Or.inl ⟨rfl, qe_ilt_asym h⟩ | exact Or.inr ⟨rfl, fun q => q h⟩ | exact Or.inr ⟨rfl, qe_ilt_asym h⟩ | exact Or.inr ⟨rfl, fun q => by subst q; exact qe_ilt_irr _ h⟩ | exact Or.inl ⟨rfl, fun q => by subst q; exact qe_ilt_irr _ h⟩
theorem qk_if_eq {B : qe_B} {pc tgt : Nat} {off : Int} (h : decode B.2.1 pc = .ok (.ifCond .eq off, 3)) (ht : (pc : Int) + off = (tgt : Int)) : qc_if B pc (pc + 3) tgt 0 := by
  intro p l e R s m args below meth c H locs cells slots Q la rest hB x k
  refine lv_if_eq (tgt := tgt) hB.1 hB.2.1 h ht (fun z => ?_) (fun z => ?_)
  · rcases qe_br_eq x 0 with ⟨e1, e2⟩ | ⟨e1, e2⟩
    · rw [e1] at k; exact k
    · first | exact absurd z e2 | exact absurd e2 z
  · rcases qe_br_eq x 0 with ⟨e1, e2⟩ | ⟨e1, e2⟩
    · first | exact absurd e2 z | exact absurd z e2
    · rw [e1] at k; exact k
theorem qk_ic_eq {B : qe_B} {pc tgt : Nat} {off : Int} (h : decode B.2.1 pc = .ok (.if_icmp .eq off, 3)) (ht : (pc : Int) + off = (tgt : Int)) : qc_ic B pc (pc + 3) tgt 0 := by
  intro p l e R s m args below meth c H locs cells slots Q la rest hB x y k
  refine lv_icmp_eq (tgt := tgt) hB.1 hB.2.1 h ht (fun z => ?_) (fun z => ?_)
  · rcases qe_br_eq x y with ⟨e1, e2⟩ | ⟨e1, e2⟩
    · rw [e1] at k; exact k
    · first | exact absurd z e2 | exact absurd e2 z
  · rcases qe_br_eq x y with ⟨e1, e2⟩ | ⟨e1, e2⟩
    · first | exact absurd e2 z | exact absurd z e2
    · rw [e1] at k; exact k
theorem qk_if_ne {B : qe_B} {pc tgt : Nat} {off : Int} (h : decode B.2.1 pc = .ok (.ifCond .ne off, 3)) (ht : (pc : Int) + off = (tgt : Int)) : qc_if B pc (pc + 3) tgt 1 := by
  intro p l e R s m args below meth c H locs cells slots Q la rest hB x k
  refine lv_if_ne (tgt := tgt) hB.1 hB.2.1 h ht (fun z => ?_) (fun z => ?_)
  · rcases qe_br_ne x 0 with ⟨e1, e2⟩ | ⟨e1, e2⟩
    · rw [e1] at k; exact k
    · first | exact absurd z e2 | exact absurd e2 z
  · rcases qe_br_ne x 0 with ⟨e1, e2⟩ | ⟨e1, e2⟩
    · first | exact absurd e2 z | exact absurd z e2
    · rw [e1] at k; exact k
theorem qk_ic_ne {B : qe_B} {pc tgt : Nat} {off : Int} (h : decode B.2.1 pc = .ok (.if_icmp .ne off, 3)) (ht : (pc : Int) + off = (tgt : Int)) : qc_ic B pc (pc + 3) tgt 1 := by
  intro p l e R s m args below meth c H locs cells slots Q la rest hB x y k
  refine lv_icmp_ne (tgt := tgt) hB.1 hB.2.1 h ht (fun z => ?_) (fun z => ?_)
  · rcases qe_br_ne x y with ⟨e1, e2⟩ | ⟨e1, e2⟩
    · rw [e1] at k; exact k
    · first | exact absurd z e2 | exact absurd e2 z
  · rcases qe_br_ne x y with ⟨e1, e2⟩ | ⟨e1, e2⟩
    · first | exact absurd e2 z | exact absurd z e2
    · rw [e1] at k; exact k
theorem qk_if_lt {B : qe_B} {pc tgt : Nat} {off : Int} (h : decode B.2.1 pc = .ok (.ifCond .lt off, 3)) (ht : (pc : Int) + off = (tgt : Int)) : qc_if B pc (pc + 3) tgt 2 := by
  intro p l e R s m args below meth c H locs cells slots Q la rest hB x k
  refine lv_if_lt (tgt := tgt) hB.1 hB.2.1 h ht (fun z => ?_) (fun z => ?_)
  · rcases qe_br_lt x 0 with ⟨e1, e2⟩ | ⟨e1, e2⟩
    · rw [e1] at k; exact k
    · first | exact absurd z e2 | exact absurd e2 z
  · rcases qe_br_lt x 0 with ⟨e1, e2⟩ | ⟨e1, e2⟩
    · first | exact absurd e2 z | exact absurd z e2
    · rw [e1] at k; exact k
theorem qk_ic_lt {B : qe_B} {pc tgt : Nat} {off : Int} (h : decode B.2.1 pc = .ok (.if_icmp .lt off, 3)) (ht : (pc : Int) + off = (tgt : Int)) : qc_ic B pc (pc + 3) tgt 2 := by
  intro p l e R s m args below meth c H locs cells slots Q la rest hB x y k
  refine lv_icmp_lt (tgt := tgt) hB.1 hB.2.1 h ht (fun z => ?_) (fun z => ?_)
  · rcases qe_br_lt x y with ⟨e1, e2⟩ | ⟨e1, e2⟩
    · rw [e1] at k; exact k
    · first | exact absurd z e2 | exact absurd e2 z
  · rcases qe_br_lt x y with ⟨e1, e2⟩ | ⟨e1, e2⟩
    · first | exact absurd e2 z | exact absurd z e2
    · rw [e1] at k; exact k
theorem qk_if_ge {B : qe_B} {pc tgt : Nat} {off : Int} (h : decode B.2.1 pc = .ok (.ifCond .ge off, 3)) (ht : (pc : Int) + off = (tgt : Int)) : qc_if B pc (pc + 3) tgt 3 := by
  intro p l e R s m args below meth c H locs cells slots Q la rest hB x k
  refine lv_if_ge (tgt := tgt) hB.1 hB.2.1 h ht (fun z => ?_) (fun z => ?_)
  · rcases qe_br_ge x 0 with ⟨e1, e2⟩ | ⟨e1, e2⟩
    · rw [e1] at k; exact k
    · first | exact absurd z e2 | exact absurd e2 z
  · rcases qe_br_ge x 0 with ⟨e1, e2⟩ | ⟨e1, e2⟩
    · first | exact absurd e2 z | exact absurd z e2
    · rw [e1] at k; exact k
theorem qk_ic_ge {B : qe_B} {pc tgt : Nat} {off : Int} (h : decode B.2.1 pc = .ok (.if_icmp .ge off, 3)) (ht : (pc : Int) + off = (tgt : Int)) : qc_ic B pc (pc + 3) tgt 3 := by
  intro p l e R s m args below meth c H locs cells slots Q la rest hB x y k
  refine lv_icmp_ge (tgt := tgt) hB.1 hB.2.1 h ht (fun z => ?_) (fun z => ?_)
  · rcases qe_br_ge x y with ⟨e1, e2⟩ | ⟨e1, e2⟩
    · rw [e1] at k; exact k
    · first | exact absurd z e2 | exact absurd e2 z
  · rcases qe_br_ge x y with ⟨e1, e2⟩ | ⟨e1, e2⟩
    · first | exact absurd e2 z | exact absurd z e2
    · rw [e1] at k; exact k
theorem qk_if_gt {B : qe_B} {pc tgt : Nat} {off : Int} (h : decode B.2.1 pc = .ok (.ifCond .gt off, 3)) (ht : (pc : Int) + off = (tgt : Int)) : qc_if B pc (pc + 3) tgt 4 := by
  intro p l e R s m args below meth c H locs cells slots Q la rest hB x k
  refine lv_if_gt (tgt := tgt) hB.1 hB.2.1 h ht (fun z => ?_) (fun z => ?_)
  · rcases qe_br_gt x 0 with ⟨e1, e2⟩ | ⟨e1, e2⟩
    · rw [e1] at k; exact k
    · first | exact absurd z e2 | exact absurd e2 z
  · rcases qe_br_gt x 0 with ⟨e1, e2⟩ | ⟨e1, e2⟩
    · first | exact absurd e2 z | exact absurd z e2
    · rw [e1] at k; exact k
theorem qk_ic_gt {B : qe_B} {pc tgt : Nat} {off : Int} (h : decode B.2.1 pc = .ok (.if_icmp .gt off, 3)) (ht : (pc : Int) + off = (tgt : Int)) : qc_ic B pc (pc + 3) tgt 4 := by
  intro p l e R s m args below meth c H locs cells slots Q la rest hB x y k
  refine lv_icmp_gt (tgt := tgt) hB.1 hB.2.1 h ht (fun z => ?_) (fun z => ?_)
  · rcases qe_br_gt x y with ⟨e1, e2⟩ | ⟨e1, e2⟩
    · rw [e1] at k; exact k
    · first | exact absurd z e2 | exact absurd e2 z
  · rcases qe_br_gt x y with ⟨e1, e2⟩ | ⟨e1, e2⟩
    · first | exact absurd e2 z | exact absurd z e2
    · rw [e1] at k; exact k
theorem qk_if_le {B : qe_B} {pc tgt : Nat} {off : Int} (h : decode B.2.1 pc = .ok (.ifCond .le off, 3)) (ht : (pc : Int) + off = (tgt : Int)) : qc_if B pc (pc + 3) tgt 5 := by
  intro p l e R s m args below meth c H locs cells slots Q la rest hB x k
  refine lv_if_le (tgt := tgt) hB.1 hB.2.1 h ht (fun z => ?_) (fun z => ?_)
  · rcases qe_br_le x 0 with ⟨e1, e2⟩ | ⟨e1, e2⟩
    · rw [e1] at k; exact k
    · first | exact absurd z e2 | exact absurd e2 z
  · rcases qe_br_le x 0 with ⟨e1, e2⟩ | ⟨e1, e2⟩
    · first | exact absurd e2 z | exact absurd z e2
    · rw [e1] at k; exact k
theorem qk_ic_le {B : qe_B} {pc tgt : Nat} {off : Int} (h : decode B.2.1 pc = .ok (.if_icmp .le off, 3)) (ht : (pc : Int) + off = (tgt : Int)) : qc_ic B pc (pc + 3) tgt 5 := by
  intro p l e R s m args below meth c H locs cells slots Q la rest hB x y k
  refine lv_icmp_le (tgt := tgt) hB.1 hB.2.1 h ht (fun z => ?_) (fun z => ?_)
  · rcases qe_br_le x y with ⟨e1, e2⟩ | ⟨e1, e2⟩
    · rw [e1] at k; exact k
    · first | exact absurd z e2 | exact absurd e2 z
  · rcases qe_br_le x y with ⟨e1, e2⟩ | ⟨e1, e2⟩
    · first | exact absurd e2 z | exact absurd z e2
    · rw [e1] at k; exact k
def qe_srt (k : Nat) (v : Value) : Prop := cond (Nat.beq k 0) (∃ x : Int32, v = .int x) (cond (Nat.beq k 1) (∃ x : Int64, v = .long x) (∃ a : Nat, v = .ref a))
def qc_ld (B : qe_B) (pc nx i k : Nat) : Prop := ∀ {p : Program} {l : Launch} {e : Env} {R : Room} {s : State} {m : MethodId} {args : Array Value} {below : List Frame} {meth : Method} {c : Code} {H : Heap} {locs : List Loc} {cells slots : Nat} {Q : State → Prop} {la : Array Slot} {rest : List Value}, qe_bd B p l s m args meth c → ∀ v : Value, la[i]? = some (.val v) → qe_srt k v → W p l e R s m args below meth c H locs cells slots Q (F0 m nx la (v :: rest)) → W p l e R s m args below meth c H locs cells slots Q (F0 m pc la rest)
theorem qk_iload {B : qe_B} {pc i : Nat} (h : decode B.2.1 pc = .ok (.iload i, 2)) : qc_ld B pc (pc + 2) i 0 := by
  intro p l e R s m args below meth c H locs cells slots Q la rest hB v hv hs k
  obtain ⟨x, rfl⟩ := hs
  exact lv_iload hB.1 hB.2.1 h hv k
theorem qk_iload_n {B : qe_B} {pc i : Nat} {n : Fin 4} (h : decode B.2.1 pc = .ok (.iload_n n, 1)) (hi : (n : Nat) = i) : qc_ld B pc (pc + 1) i 0 := by
  intro p l e R s m args below meth c H locs cells slots Q la rest hB v hv hs k
  obtain ⟨x, rfl⟩ := hs
  exact lv_iload_n hB.1 hB.2.1 h hi hv k
theorem qk_lload {B : qe_B} {pc i : Nat} (h : decode B.2.1 pc = .ok (.lload i, 2)) : qc_ld B pc (pc + 2) i 1 := by
  intro p l e R s m args below meth c H locs cells slots Q la rest hB v hv hs k
  obtain ⟨x, rfl⟩ := hs
  exact lv_lload hB.1 hB.2.1 h hv k
theorem qk_lload_n {B : qe_B} {pc i : Nat} {n : Fin 4} (h : decode B.2.1 pc = .ok (.lload_n n, 1)) (hi : (n : Nat) = i) : qc_ld B pc (pc + 1) i 1 := by
  intro p l e R s m args below meth c H locs cells slots Q la rest hB v hv hs k
  obtain ⟨x, rfl⟩ := hs
  exact lv_lload_n hB.1 hB.2.1 h hi hv k
theorem qk_aload {B : qe_B} {pc i : Nat} (h : decode B.2.1 pc = .ok (.aload i, 2)) : qc_ld B pc (pc + 2) i 2 := by
  intro p l e R s m args below meth c H locs cells slots Q la rest hB v hv hs k
  obtain ⟨x, rfl⟩ := hs
  exact lv_aload hB.1 hB.2.1 h hv k
theorem qk_aload_n {B : qe_B} {pc i : Nat} {n : Fin 4} (h : decode B.2.1 pc = .ok (.aload_n n, 1)) (hi : (n : Nat) = i) : qc_ld B pc (pc + 1) i 2 := by
  intro p l e R s m args below meth c H locs cells slots Q la rest hB v hv hs k
  obtain ⟨x, rfl⟩ := hs
  exact lv_aload_n hB.1 hB.2.1 h hi hv k
def qc_s1 (B : qe_B) (pc nx i k : Nat) : Prop := ∀ {p : Program} {l : Launch} {e : Env} {R : Room} {s : State} {m : MethodId} {args : Array Value} {below : List Frame} {meth : Method} {c : Code} {H : Heap} {locs : List Loc} {cells slots : Nat} {Q : State → Prop} {la : Array Slot} {rest : List Value}, qe_bd B p l s m args meth c → ∀ (v : Value) (nL : Nat) (lv : List (Nat × Value)), qe_srt k v → lv_has la nL lv → i < nL → (∀ la2 : Array Slot, lv_has la2 nL ((i, v) :: lv.filter (fun q => !(q.1 == i) && !(q.1 + 1 == i && q.2.category == 2))) → W p l e R s m args below meth c H locs cells slots Q (F0 m nx la2 rest)) → W p l e R s m args below meth c H locs cells slots Q (F0 m pc la (v :: rest))
def qc_s2 (B : qe_B) (pc nx i : Nat) : Prop := ∀ {p : Program} {l : Launch} {e : Env} {R : Room} {s : State} {m : MethodId} {args : Array Value} {below : List Frame} {meth : Method} {c : Code} {H : Heap} {locs : List Loc} {cells slots : Nat} {Q : State → Prop} {la : Array Slot} {rest : List Value}, qe_bd B p l s m args meth c → ∀ (v : Value) (nL : Nat) (lv : List (Nat × Value)), qe_srt 1 v → lv_has la nL lv → i + 1 < nL → (∀ la2 : Array Slot, lv_has la2 nL ((i, v) :: lv.filter (fun q => !(q.1 == i) && (!(q.1 == i + 1) && !(q.1 + 1 == i && q.2.category == 2)))) → W p l e R s m args below meth c H locs cells slots Q (F0 m nx la2 rest)) → W p l e R s m args below meth c H locs cells slots Q (F0 m pc la (v :: rest))
def qc_inc (B : qe_B) (pc nx i : Nat) (d : Int32) : Prop := ∀ {p : Program} {l : Launch} {e : Env} {R : Room} {s : State} {m : MethodId} {args : Array Value} {below : List Frame} {meth : Method} {c : Code} {H : Heap} {locs : List Loc} {cells slots : Nat} {Q : State → Prop} {la : Array Slot} {rest : List Value}, qe_bd B p l s m args meth c → ∀ (x : Int32) (nL : Nat) (lv : List (Nat × Value)), lv_has la nL lv → (i, Value.int x) ∈ lv → i < nL → (∀ la2 : Array Slot, lv_has la2 nL ((i, .int (x + d)) :: lv.filter (fun q => !(q.1 == i) && !(q.1 + 1 == i && q.2.category == 2))) → W p l e R s m args below meth c H locs cells slots Q (F0 m nx la2 rest)) → W p l e R s m args below meth c H locs cells slots Q (F0 m pc la rest)
theorem qk_istore {B : qe_B} {pc i : Nat} (h : decode B.2.1 pc = .ok (.istore i, 2)) : qc_s1 B pc (pc + 2) i 0 := by
  intro p l e R s m args below meth c H locs cells slots Q la rest hB v nL lv hs hl hi k
  obtain ⟨x, rfl⟩ := hs
  exact lv_istore hB.1 hB.2.1 h hl hi rfl k
theorem qk_istore_n {B : qe_B} {pc i : Nat} {n : Fin 4} (h : decode B.2.1 pc = .ok (.istore_n n, 1)) (hn : (n : Nat) = i) : qc_s1 B pc (pc + 1) i 0 := by
  intro p l e R s m args below meth c H locs cells slots Q la rest hB v nL lv hs hl hi k
  obtain ⟨x, rfl⟩ := hs
  exact lv_istore_n hB.1 hB.2.1 h hn hl hi rfl k
theorem qk_astore {B : qe_B} {pc i : Nat} (h : decode B.2.1 pc = .ok (.astore i, 2)) : qc_s1 B pc (pc + 2) i 2 := by
  intro p l e R s m args below meth c H locs cells slots Q la rest hB v nL lv hs hl hi k
  obtain ⟨x, rfl⟩ := hs
  exact lv_astore hB.1 hB.2.1 h hl hi rfl k
theorem qk_astore_n {B : qe_B} {pc i : Nat} {n : Fin 4} (h : decode B.2.1 pc = .ok (.astore_n n, 1)) (hn : (n : Nat) = i) : qc_s1 B pc (pc + 1) i 2 := by
  intro p l e R s m args below meth c H locs cells slots Q la rest hB v nL lv hs hl hi k
  obtain ⟨x, rfl⟩ := hs
  exact lv_astore_n hB.1 hB.2.1 h hn hl hi rfl k
theorem qk_lstore {B : qe_B} {pc i : Nat} (h : decode B.2.1 pc = .ok (.lstore i, 2)) : qc_s2 B pc (pc + 2) i := by
  intro p l e R s m args below meth c H locs cells slots Q la rest hB v nL lv hs hl hi k
  obtain ⟨x, rfl⟩ := hs
  exact lv_lstore hB.1 hB.2.1 h hl hi rfl k
theorem qk_lstore_n {B : qe_B} {pc i : Nat} {n : Fin 4} (h : decode B.2.1 pc = .ok (.lstore_n n, 1)) (hn : (n : Nat) = i) : qc_s2 B pc (pc + 1) i := by
  intro p l e R s m args below meth c H locs cells slots Q la rest hB v nL lv hs hl hi k
  obtain ⟨x, rfl⟩ := hs
  exact lv_lstore_n hB.1 hB.2.1 h hn hl hi rfl k
theorem qk_iinc {B : qe_B} {pc i : Nat} {n : Int} {d : Int32} (h : decode B.2.1 pc = .ok (.iinc i n, 3)) (hd : Int32.ofInt n = d) : qc_inc B pc (pc + 3) i d := by
  intro p l e R s m args below meth c H locs cells slots Q la rest hB x nL lv hl hx hi k
  obtain ⟨j, hj⟩ := List.getElem?_of_mem hx
  exact lv_iinc (k := j) hB.1 hB.2.1 h hl hj (by rw [hd]) hi rfl k
def qc_sw (B : qe_B) (pc : Nat) (lo : Int) (dflt : Nat) (tg : List Nat) : Prop := ∀ {p : Program} {l : Launch} {e : Env} {R : Room} {s : State} {m : MethodId} {args : Array Value} {below : List Frame} {meth : Method} {c : Code} {H : Heap} {locs : List Loc} {cells slots : Nat} {Q : State → Prop} {la : Array Slot} {rest : List Value}, qe_bd B p l s m args meth c → ∀ x : Int32, ((x.toInt < lo ∨ lo + (tg.length : Int) ≤ x.toInt) → W p l e R s m args below meth c H locs cells slots Q (F0 m dflt la rest)) → (∀ (i tgt : Nat), tg[i]? = some tgt → x.toInt = lo + (i : Int) → W p l e R s m args below meth c H locs cells slots Q (F0 m tgt la rest)) → W p l e R s m args below meth c H locs cells slots Q (F0 m pc la (.int x :: rest))
theorem qk_sw {B : qe_B} {pc dflt len : Nat} {df lo hi : Int} {offs : Array Int} {tg : List Nat} (h : decode B.2.1 pc = .ok (.tableswitch df lo hi offs, len)) (hd : (pc : Int) + df = (dflt : Int)) (hh : hi + 1 = lo + (tg.length : Int)) (ht : tg.map (fun t : Nat => (t : Int) - (pc : Int)) = offs.toList) : qc_sw B pc lo dflt tg := by
  intro p l e R s m args below meth c H locs cells slots Q la rest hB x k1 k2
  by_cases h1 : x.toInt < lo
  · exact lv_tableOut hB.1 hB.2.1 h (Or.inl h1) hd (k1 (Or.inl h1))
  · by_cases h2 : hi < x.toInt
    · exact lv_tableOut hB.1 hB.2.1 h (Or.inr h2) hd (k1 (Or.inr (by omega)))
    · have hl : (x.toInt - lo).toNat < tg.length := by omega
      have e1 : tg[(x.toInt - lo).toNat]? = some tg[(x.toInt - lo).toNat] := List.getElem?_eq_getElem hl
      have e2 : offs[(x.toInt - lo).toNat]? = some (((tg[(x.toInt - lo).toNat] : Nat) : Int) - (pc : Int)) := by
        rw [← Array.getElem?_toList, ← ht, List.getElem?_map, e1]; rfl
      exact lv_tableIn (tgt := tg[(x.toInt - lo).toNat]) hB.1 hB.2.1 h h1 h2 e2 (by omega) (k2 _ _ e1 (by omega))
variable (cl : List vw_C)
def qc_get (B : qe_B) (pc nx ci k : Nat) : Prop := ∀ {p : Program} {l : Launch} {e : Env} {R : Room} {s : State} {m : MethodId} {args : Array Value} {below : List Frame} {meth : Method} {c : Code} {H : Heap} {locs : List Loc} {cells slots : Nat} {Q : State → Prop} {la : Array Slot} {rest : List Value} {D : va_G} {tys : List (ClassId × FieldType)} {ws : va_W} {A : Nat → Prop} {H0 : Heap}, qe_bd B p l s m args meth c → va_K D cl tys s → va_P D cl ws H → ∀ (q0 a : Nat) (fs : List Value) (v : Value), ws[q0]? = some (a, .inr (ci, fs)) → fs[k]? = some v → W p l e R s m args below meth c H locs cells slots Q (F0 m nx la (v :: rest)) → W p l e R s m args below meth c H locs cells slots Q (F0 m pc la (.ref a :: rest))
theorem qk_get {B : qe_B} {pc index ci k N : Nat} {ref C : String} {T : u_T} (h : decode B.2.1 pc = .ok (.getfield index, 3)) (hin : ∀ w ∈ u_ws C T N, w ∈ B.2.2.2.2.1) (hc : cl[ci]? = some (C, T, N)) (hk : k < N) (hl : Cond.fieldLink B.2.2.2.2.2 index (T k).1 (T k).2.1 (T k).2.2.1 ∈ B.2.2.2.2.1) : qc_get cl B pc (pc + 3) ci k := by
  intro p l e R s m args below meth c H locs cells slots Q la rest D tys ws A H0 hB hK hP q0 a fs v he hv kk
  exact va_get (D := D) (T := T) hB.1 hB.2.1 hB.2.2.2.2.1 hin hB.2.2.2.2.2.1 hK hP q0 he hc k hk (hB.2.2.2.2.1 _ hl) (fun _ h9 => h9) hv h kk
def qc_put (B : qe_B) (pc nx ci k : Nat) (ty : FieldType) : Prop := ∀ {p : Program} {l : Launch} {e : Env} {R : Room} {s : State} {m : MethodId} {args : Array Value} {below : List Frame} {meth : Method} {c : Code} {H : Heap} {locs : List Loc} {cells slots : Nat} {Q : State → Prop} {la : Array Slot} {rest : List Value} {D : va_G} {tys : List (ClassId × FieldType)} {ws : va_W} {A : Nat → Prop} {H0 : Heap}, qe_bd B p l s m args meth c → va_K D cl tys s → va_P D cl ws H → va_D A ws → va_S A H0 H locs → ∀ (q0 a : Nat) (fs : List Value) (v : Value), ws[q0]? = some (a, .inr (ci, fs)) → narrow ty v = v → fits ty v = true → k < fs.length → (∀ (H1 : Heap) (locs1 : List Loc), va_P D cl (ws.set q0 (a, .inr (ci, fs.set k v))) H1 → va_D A (ws.set q0 (a, .inr (ci, fs.set k v))) → va_S A H0 H1 locs1 → W p l e R s m args below meth c H1 locs1 cells slots Q (F0 m nx la rest)) → W p l e R s m args below meth c H locs cells slots Q (F0 m pc la (v :: .ref a :: rest))
theorem qk_put {B : qe_B} {pc index ci k N : Nat} {C : String} {T : u_T} {ty0 : Nat → FieldType} {ty : FieldType} (h : decode B.2.1 pc = .ok (.putfield index, 3)) (hin : ∀ w ∈ u_ws C T N, w ∈ B.2.2.2.2.1) (hty : ∀ k, k < N → parseFieldDescriptor (T k).2.2.1 = some (ty0 k)) (hnm : ∀ a, a < N → ∀ b, b < N → a ≠ b → (T a).2.1 ≠ (T b).2.1) (hc : cl[ci]? = some (C, T, N)) (hk : k < N) (hl : Cond.fieldLink B.2.2.2.2.2 index (T k).1 (T k).2.1 (T k).2.2.1 ∈ B.2.2.2.2.1) (hf : (T k).2.2.2 = false) (hd : ty0 k = ty) : qc_put cl B pc (pc + 3) ci k ty := by
  intro p l e R s m args below meth c H locs cells slots Q la rest D tys ws A H0 hB hK hP hD hS q0 a fs v he hn hfit hlen kk
  exact va_put (D := D) (T := T) hB.1 hB.2.1 hB.2.2.2.2.1 hin ty0 hty hnm hB.2.2.2.2.2.1 hK hP hD hS q0 he hc k hk (hB.2.2.2.2.1 _ hl) (fun _ h9 => h9) hf (by rw [hty k hk, hd]) hn hfit hlen h kk
theorem qk_putF {B : qe_B} {pc index ci k N : Nat} {C : String} {T : u_T} {ty0 : Nat → FieldType} {ty : FieldType} (h : decode B.2.1 pc = .ok (.putfield index, 3)) (hin : ∀ w ∈ u_ws C T N, w ∈ B.2.2.2.2.1) (hty : ∀ k, k < N → parseFieldDescriptor (T k).2.2.1 = some (ty0 k)) (hnm : ∀ a, a < N → ∀ b, b < N → a ≠ b → (T a).2.1 ≠ (T b).2.1) (hc : cl[ci]? = some (C, T, N)) (hk : k < N) (hl : Cond.fieldLink B.2.2.2.2.2 index (T k).1 (T k).2.1 (T k).2.2.1 ∈ B.2.2.2.2.1) (hf : (T k).2.2.2 = true) (hi : B.1.name = "<init>") (hdc : (T k).1 = B.2.2.2.2.2) (hd : ty0 k = ty) : qc_put cl B pc (pc + 3) ci k ty := by
  intro p l e R s m args below meth c H locs cells slots Q la rest D tys ws A H0 hB hK hP hD hS q0 a fs v he hn hfit hlen kk
  exact va_putF (D := D) (T := T) hB.1 hB.2.1 hB.2.2.2.2.1 hin ty0 hty hnm hB.2.2.2.2.2.1 hK hP hD hS q0 he hc k hk (hB.2.2.2.2.1 _ hl) (fun _ h9 => h9) hf (hB.2.2.2.2.2.2.2.1 hi) hdc (by rw [hty k hk, hd]) hn hfit hlen h kk
def qc_new (B : qe_B) (pc nx ci N : Nat) (fs : List Value) : Prop := ∀ {p : Program} {l : Launch} {e : Env} {R : Room} {s : State} {m : MethodId} {args : Array Value} {below : List Frame} {meth : Method} {c : Code} {H : Heap} {locs : List Loc} {cells slots : Nat} {Q : State → Prop} {la : Array Slot} {rest : List Value} {D : va_G} {tys : List (ClassId × FieldType)} {ws : va_W} {A : Nat → Prop} {H0 : Heap}, qe_bd B p l s m args meth c → va_K D cl tys s → va_P D cl ws H → va_D A ws → va_S A H0 H locs → (∀ q, H0.size ≤ q → A q) → cells + 1 ≤ R.cells → slots + N ≤ R.slots → (∀ (q : Nat) (H1 : Heap), va_P D cl (ws ++ [(q, .inr (ci, fs))]) H1 → va_D A (ws ++ [(q, .inr (ci, fs))]) → va_S A H0 H1 locs → W p l e R s m args below meth c H1 locs (cells + 1) (slots + N) Q (F0 m nx la (.ref q :: rest))) → W p l e R s m args below meth c H locs cells slots Q (F0 m pc la rest)
theorem qk_new {B : qe_B} {pc index ci N : Nat} {C : String} {T : u_T} {ty0 : Nat → FieldType} {fs : List Value} (h : decode B.2.1 pc = .ok (.new index, 3)) (hin : ∀ w ∈ u_ws C T N, w ∈ B.2.2.2.2.1) (hty : ∀ k, k < N → parseFieldDescriptor (T k).2.2.1 = some (ty0 k)) (hc : cl[ci]? = some (C, T, N)) (h1 : Cond.classLink B.2.2.2.2.2 index C ∈ B.2.2.2.2.1) (h2 : Cond.instantiable C N ∈ B.2.2.2.2.1) (h3 : Cond.initialized C ∈ B.2.2.2.2.1) (hfs : ∀ j, j < N → defaultValue (ty0 j) = vp_V fs j) : qc_new cl B pc (pc + 3) ci N fs := by
  intro p l e R s m args below meth c H locs cells slots Q la rest D tys ws A H0 hB hK hP hD hS hA hr1 hr2 kk
  exact va_new (D := D) (T := T) hB.1 hB.2.1 hB.2.2.2.2.1 hin ty0 hty hB.2.2.2.2.2.1 (hB.2.2.2.2.1 _ h1) (hB.2.2.2.2.1 _ h2) (hB.2.2.2.2.1 _ h3) hK hP hD hS hA hc hfs hr1 hr2 h kk
def qc_newa (B : qe_B) (pc nx : Nat) (ty : FieldType) (a0 : Nat → vp_A) : Prop := ∀ {p : Program} {l : Launch} {e : Env} {R : Room} {s : State} {m : MethodId} {args : Array Value} {below : List Frame} {meth : Method} {c : Code} {H : Heap} {locs : List Loc} {cells slots : Nat} {Q : State → Prop} {la : Array Slot} {rest : List Value} {D : va_G} {tys : List (ClassId × FieldType)} {ws : va_W} {A : Nat → Prop} {H0 : Heap}, qe_bd B p l s m args meth c → va_K D cl tys s → va_P D cl ws H → va_D A ws → va_S A H0 H locs → (∀ q, H0.size ≤ q → A q) → ∀ (n : Int32) (N : Nat), ¬ n < 0 → n.toNatClampNeg = N → N ≤ 65536 → cells + 1 ≤ R.cells → slots + N ≤ R.slots → (∀ (q : Nat) (cA : ClassId) (H1 : Heap), va_K D cl (tys ++ [(cA, ty)]) s → va_P D cl (ws ++ [(q, .inl (cA, a0 N))]) H1 → va_D A (ws ++ [(q, .inl (cA, a0 N))]) → va_S A H0 H1 locs → W p l e R s m args below meth c H1 locs (cells + 1) (slots + N) Q (F0 m nx la (.ref q :: rest))) → W p l e R s m args below meth c H locs cells slots Q (F0 m pc la (.int n :: rest))
theorem qk_newa_int {B : qe_B} {pc : Nat} (h : decode B.2.1 pc = .ok (.newarray .int, 2)) (hw : Cond.arrayClass .int ∈ B.2.2.2.2.1) : qc_newa cl B pc (pc + 2) .int (fun N => (N, .inl (fun _ => 0))) := by
  intro p l e R s m args below meth c H locs cells slots Q la rest D tys ws A H0 hB hK hP hD hS hA n N hn hN hb hr1 hr2 kk
  exact va_newa (D := D) (atype := .int) (ty := .int) hB.1 hB.2.1 (hB.2.2.2.2.1 _ hw) rfl hK hP hD hS hA (a0 := (fun N => (N, .inl (fun _ => 0))) N) (fun _ => rfl) hn hN (Nat.le_trans (Nat.mul_le_mul_right _ hb) (by decide)) hr1 hr2 h kk
theorem qk_newa_boolean {B : qe_B} {pc : Nat} (h : decode B.2.1 pc = .ok (.newarray .boolean, 2)) (hw : Cond.arrayClass .boolean ∈ B.2.2.2.2.1) : qc_newa cl B pc (pc + 2) .boolean (fun N => (N, .inl (fun _ => 0))) := by
  intro p l e R s m args below meth c H locs cells slots Q la rest D tys ws A H0 hB hK hP hD hS hA n N hn hN hb hr1 hr2 kk
  exact va_newa (D := D) (atype := .boolean) (ty := .boolean) hB.1 hB.2.1 (hB.2.2.2.2.1 _ hw) rfl hK hP hD hS hA (a0 := (fun N => (N, .inl (fun _ => 0))) N) (fun _ => rfl) hn hN (Nat.le_trans (Nat.mul_le_mul_right _ hb) (by decide)) hr1 hr2 h kk
theorem qk_newa_long {B : qe_B} {pc : Nat} (h : decode B.2.1 pc = .ok (.newarray .long, 2)) (hw : Cond.arrayClass .long ∈ B.2.2.2.2.1) : qc_newa cl B pc (pc + 2) .long (fun N => (N, .inr (.inl (fun _ => 0)))) := by
  intro p l e R s m args below meth c H locs cells slots Q la rest D tys ws A H0 hB hK hP hD hS hA n N hn hN hb hr1 hr2 kk
  exact va_newa (D := D) (atype := .long) (ty := .long) hB.1 hB.2.1 (hB.2.2.2.2.1 _ hw) rfl hK hP hD hS hA (a0 := (fun N => (N, .inr (.inl (fun _ => 0)))) N) (fun _ => rfl) hn hN (Nat.le_trans (Nat.mul_le_mul_right _ hb) (by decide)) hr1 hr2 h kk
def qc_alen (B : qe_B) (pc nx : Nat) : Prop := ∀ {p : Program} {l : Launch} {e : Env} {R : Room} {s : State} {m : MethodId} {args : Array Value} {below : List Frame} {meth : Method} {c : Code} {H : Heap} {locs : List Loc} {cells slots : Nat} {Q : State → Prop} {la : Array Slot} {rest : List Value} {D : va_G} {tys : List (ClassId × FieldType)} {ws : va_W} {A : Nat → Prop} {H0 : Heap}, qe_bd B p l s m args meth c → va_K D cl tys s → va_P D cl ws H → ∀ (q0 t0 a : Nat) (cA : ClassId) (x : vp_A) (ty : FieldType), ws[q0]? = some (a, .inl (cA, x)) → tys[t0]? = some (cA, ty) → W p l e R s m args below meth c H locs cells slots Q (F0 m nx la (.int (Int32.ofNat x.1) :: rest)) → W p l e R s m args below meth c H locs cells slots Q (F0 m pc la (.ref a :: rest))
theorem qk_alen {B : qe_B} {pc : Nat} (h : decode B.2.1 pc = .ok (.arraylength, 1)) : qc_alen cl B pc (pc + 1) := by
  intro p l e R s m args below meth c H locs cells slots Q la rest D tys ws A H0 hB hK hP q0 t0 a cA x ty ha ht kk
  exact va_alen (D := D) hB.1 hB.2.1 hK hP q0 t0 ha ht rfl h kk
def qc_iald (B : qe_B) (pc nx : Nat) : Prop := ∀ {p : Program} {l : Launch} {e : Env} {R : Room} {s : State} {m : MethodId} {args : Array Value} {below : List Frame} {meth : Method} {c : Code} {H : Heap} {locs : List Loc} {cells slots : Nat} {Q : State → Prop} {la : Array Slot} {rest : List Value} {D : va_G} {tys : List (ClassId × FieldType)} {ws : va_W} {A : Nat → Prop} {H0 : Heap}, qe_bd B p l s m args meth c → va_K D cl tys s → va_P D cl ws H → ∀ (q0 t0 a n : Nat) (cA : ClassId) (f : Nat → Int32) (i : Int32), ws[q0]? = some (a, .inl (cA, n, .inl f)) → tys[t0]? = some (cA, .int) → vp_in i n → W p l e R s m args below meth c H locs cells slots Q (F0 m nx la (.int (f i.toNatClampNeg) :: rest)) → W p l e R s m args below meth c H locs cells slots Q (F0 m pc la (.int i :: .ref a :: rest))
theorem qk_iald {B : qe_B} {pc : Nat} (h : decode B.2.1 pc = .ok (.iaload, 1)) : qc_iald cl B pc (pc + 1) := by
  intro p l e R s m args below meth c H locs cells slots Q la rest D tys ws A H0 hB hK hP q0 t0 a n cA f i ha ht hin kk
  exact va_iald (D := D) hB.1 hB.2.1 hK hP q0 t0 ha ht hin h kk
def qc_zald (B : qe_B) (pc nx : Nat) : Prop := ∀ {p : Program} {l : Launch} {e : Env} {R : Room} {s : State} {m : MethodId} {args : Array Value} {below : List Frame} {meth : Method} {c : Code} {H : Heap} {locs : List Loc} {cells slots : Nat} {Q : State → Prop} {la : Array Slot} {rest : List Value} {D : va_G} {tys : List (ClassId × FieldType)} {ws : va_W} {A : Nat → Prop} {H0 : Heap}, qe_bd B p l s m args meth c → va_K D cl tys s → va_P D cl ws H → ∀ (q0 t0 a n : Nat) (cA : ClassId) (f : Nat → Int32) (i : Int32), ws[q0]? = some (a, .inl (cA, n, .inl f)) → tys[t0]? = some (cA, .boolean) → vp_in i n → W p l e R s m args below meth c H locs cells slots Q (F0 m nx la (.int (f i.toNatClampNeg) :: rest)) → W p l e R s m args below meth c H locs cells slots Q (F0 m pc la (.int i :: .ref a :: rest))
theorem qk_zald {B : qe_B} {pc : Nat} (h : decode B.2.1 pc = .ok (.baload, 1)) : qc_zald cl B pc (pc + 1) := by
  intro p l e R s m args below meth c H locs cells slots Q la rest D tys ws A H0 hB hK hP q0 t0 a n cA f i ha ht hin kk
  exact va_zald (D := D) hB.1 hB.2.1 hK hP q0 t0 ha ht hin h kk
def qc_lald (B : qe_B) (pc nx : Nat) : Prop := ∀ {p : Program} {l : Launch} {e : Env} {R : Room} {s : State} {m : MethodId} {args : Array Value} {below : List Frame} {meth : Method} {c : Code} {H : Heap} {locs : List Loc} {cells slots : Nat} {Q : State → Prop} {la : Array Slot} {rest : List Value} {D : va_G} {tys : List (ClassId × FieldType)} {ws : va_W} {A : Nat → Prop} {H0 : Heap}, qe_bd B p l s m args meth c → va_K D cl tys s → va_P D cl ws H → ∀ (q0 t0 a n : Nat) (cA : ClassId) (f : Nat → Int64) (i : Int32), ws[q0]? = some (a, .inl (cA, n, .inr (.inl f))) → tys[t0]? = some (cA, .long) → vp_in i n → W p l e R s m args below meth c H locs cells slots Q (F0 m nx la (.long (f i.toNatClampNeg) :: rest)) → W p l e R s m args below meth c H locs cells slots Q (F0 m pc la (.int i :: .ref a :: rest))
theorem qk_lald {B : qe_B} {pc : Nat} (h : decode B.2.1 pc = .ok (.laload, 1)) : qc_lald cl B pc (pc + 1) := by
  intro p l e R s m args below meth c H locs cells slots Q la rest D tys ws A H0 hB hK hP q0 t0 a n cA f i ha ht hin kk
  exact va_lald (D := D) hB.1 hB.2.1 hK hP q0 t0 ha ht hin h kk
def qc_iast (B : qe_B) (pc nx : Nat) : Prop := ∀ {p : Program} {l : Launch} {e : Env} {R : Room} {s : State} {m : MethodId} {args : Array Value} {below : List Frame} {meth : Method} {c : Code} {H : Heap} {locs : List Loc} {cells slots : Nat} {Q : State → Prop} {la : Array Slot} {rest : List Value} {D : va_G} {tys : List (ClassId × FieldType)} {ws : va_W} {A : Nat → Prop} {H0 : Heap}, qe_bd B p l s m args meth c → va_K D cl tys s → va_P D cl ws H → va_D A ws → va_S A H0 H locs → ∀ (q0 t0 a n : Nat) (cA : ClassId) (f : Nat → Int32) (i x : Int32), ws[q0]? = some (a, .inl (cA, n, .inl f)) → tys[t0]? = some (cA, .int) → vp_in i n → (∀ (H1 : Heap) (locs1 : List Loc), va_P D cl (ws.set q0 (a, .inl (cA, n, .inl (upd f i.toNatClampNeg x)))) H1 → va_D A (ws.set q0 (a, .inl (cA, n, .inl (upd f i.toNatClampNeg x)))) → va_S A H0 H1 locs1 → W p l e R s m args below meth c H1 locs1 cells slots Q (F0 m nx la rest)) → W p l e R s m args below meth c H locs cells slots Q (F0 m pc la (.int x :: .int i :: .ref a :: rest))
theorem qk_iast {B : qe_B} {pc : Nat} (h : decode B.2.1 pc = .ok (.iastore, 1)) : qc_iast cl B pc (pc + 1) := by
  intro p l e R s m args below meth c H locs cells slots Q la rest D tys ws A H0 hB hK hP hD hS q0 t0 a n cA f i x ha ht hin kk
  exact va_iast (D := D) hB.1 hB.2.1 hK hP hD hS q0 t0 ha ht hin h kk
def qc_zast (B : qe_B) (pc nx : Nat) : Prop := ∀ {p : Program} {l : Launch} {e : Env} {R : Room} {s : State} {m : MethodId} {args : Array Value} {below : List Frame} {meth : Method} {c : Code} {H : Heap} {locs : List Loc} {cells slots : Nat} {Q : State → Prop} {la : Array Slot} {rest : List Value} {D : va_G} {tys : List (ClassId × FieldType)} {ws : va_W} {A : Nat → Prop} {H0 : Heap}, qe_bd B p l s m args meth c → va_K D cl tys s → va_P D cl ws H → va_D A ws → va_S A H0 H locs → ∀ (q0 t0 a n : Nat) (cA : ClassId) (f : Nat → Int32) (i x : Int32), ws[q0]? = some (a, .inl (cA, n, .inl f)) → tys[t0]? = some (cA, .boolean) → vp_in i n → vp_nar .boolean x = x → (∀ (H1 : Heap) (locs1 : List Loc), va_P D cl (ws.set q0 (a, .inl (cA, n, .inl (upd f i.toNatClampNeg x)))) H1 → va_D A (ws.set q0 (a, .inl (cA, n, .inl (upd f i.toNatClampNeg x)))) → va_S A H0 H1 locs1 → W p l e R s m args below meth c H1 locs1 cells slots Q (F0 m nx la rest)) → W p l e R s m args below meth c H locs cells slots Q (F0 m pc la (.int x :: .int i :: .ref a :: rest))
theorem qk_zast {B : qe_B} {pc : Nat} (h : decode B.2.1 pc = .ok (.bastore, 1)) : qc_zast cl B pc (pc + 1) := by
  intro p l e R s m args below meth c H locs cells slots Q la rest D tys ws A H0 hB hK hP hD hS q0 t0 a n cA f i x ha ht hin hx kk
  exact va_zast (D := D) hB.1 hB.2.1 hK hP hD hS q0 t0 ha ht hin h (by rw [hx]; exact kk)
def qc_last (B : qe_B) (pc nx : Nat) : Prop := ∀ {p : Program} {l : Launch} {e : Env} {R : Room} {s : State} {m : MethodId} {args : Array Value} {below : List Frame} {meth : Method} {c : Code} {H : Heap} {locs : List Loc} {cells slots : Nat} {Q : State → Prop} {la : Array Slot} {rest : List Value} {D : va_G} {tys : List (ClassId × FieldType)} {ws : va_W} {A : Nat → Prop} {H0 : Heap}, qe_bd B p l s m args meth c → va_K D cl tys s → va_P D cl ws H → va_D A ws → va_S A H0 H locs → ∀ (q0 t0 a n : Nat) (cA : ClassId) (f : Nat → Int64) (i : Int32) (x : Int64), ws[q0]? = some (a, .inl (cA, n, .inr (.inl f))) → tys[t0]? = some (cA, .long) → vp_in i n → (∀ (H1 : Heap) (locs1 : List Loc), va_P D cl (ws.set q0 (a, .inl (cA, n, .inr (.inl (vp_updL f i.toNatClampNeg x))))) H1 → va_D A (ws.set q0 (a, .inl (cA, n, .inr (.inl (vp_updL f i.toNatClampNeg x))))) → va_S A H0 H1 locs1 → W p l e R s m args below meth c H1 locs1 cells slots Q (F0 m nx la rest)) → W p l e R s m args below meth c H locs cells slots Q (F0 m pc la (.long x :: .int i :: .ref a :: rest))
theorem qk_last {B : qe_B} {pc : Nat} (h : decode B.2.1 pc = .ok (.lastore, 1)) : qc_last cl B pc (pc + 1) := by
  intro p l e R s m args below meth c H locs cells slots Q la rest D tys ws A H0 hB hK hP hD hS q0 t0 a n cA f i x ha ht hin kk
  exact va_last (D := D) hB.1 hB.2.1 hK hP hD hS q0 t0 ha ht hin h kk
end QEK
