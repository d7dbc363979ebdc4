/-! ENGINE, part 10: rows of the kit that need the room or what lies outside the world: arrays written, calls, throws, ends; made by wip/engine/gen12.py -/
section QEL
variable {dp : Nat}
def qx_cat (l : List Value) : Nat := (l.map fun v => v.category).sum
def qc_obj (Z : qe_Z) (j : Nat) (pc nx : Nat) : Prop := ∀ {p : Program} {l : Launch} {e : Env} {R : Room} {s : State} {m : MethodId} {args : Array Value} {below : List Frame} {meth : Method} {c : Code} {H : Heap} {locs : List Loc} {cells slots : Nat} {la : Array Slot} {rest : List Value} {Q : State → Prop}, qe_bd (zM Z j) p l s m args meth c → 1 ≤ R.frames → qx_cat rest + 12 ≤ R.locals → la.size = c.maxLocals → ∀ a : Nat, W p l e R s m args below meth c H locs cells slots Q (F0 m nx la rest) → W p l e R s m args below meth c H locs cells slots Q (F0 m pc la (.ref a :: rest))
theorem qk_obj {Z : qe_Z} {j pc idx : Nat} (h : decode (zM Z j).2.1 pc = .ok (.invokespecial idx, 3)) (w1 : Cond.methodLink (zM Z j).2.2.2.2.2 idx Lib.objectInit ∈ (zM Z j).2.2.2.2.1) (w2 : Cond.instanceMethod Lib.objectInit ∈ (zM Z j).2.2.2.2.1) (w3 : Cond.code Lib.objectInit ⟨#[0xb1]⟩ 1 none ∈ (zM Z j).2.2.2.2.1) : qc_obj Z j pc (pc + 3) := by
  intro p l e R s m args below meth c H locs cells slots la rest Q hB hf hl hs a kk
  refine W.objInit hB.1 hB.2.1 hB.2.2.2.2.2.1 (hB.2.2.2.2.1 _ w1) (hB.2.2.2.2.1 _ w2) (hB.2.2.2.2.1 _ w3) rfl hs rfl h hf ?_ kk
  show 2 * 0 + (rest.map fun v => v.category).sum + 12 ≤ R.locals
  have : (rest.map fun v => v.category).sum + 12 ≤ R.locals := hl
  omega
def qc_mm (Z : qe_Z) (j : Nat) (pc nx w : Nat) : Prop := ∀ {p : Program} {l : Launch} {e : Env} {R : Room} {s : State} {m : MethodId} {args : Array Value} {below : List Frame} {meth : Method} {c : Code} {H : Heap} {locs : List Loc} {cells slots : Nat} {la : Array Slot} {rest : List Value} {Q : State → Prop}, qe_bd (zM Z j) p l s m args meth c → 1 ≤ R.frames → qx_cat rest + 13 ≤ R.locals → la.size = c.maxLocals → cells ≤ R.cells → slots ≤ R.slots → ∀ x y : Int32, W p l e R s m args below meth c H locs cells slots Q (F0 m nx la (.int (cond (Nat.beq (qe_c3 (qe_so x) (qe_so y)) w) y x) :: rest)) → W p l e R s m args below meth c H locs cells slots Q (F0 m pc la (.int y :: .int x :: rest))
theorem qk_mmax {Z : qe_Z} {j pc idx : Nat} (h : decode (zM Z j).2.1 pc = .ok (.invokestatic idx, 3)) (w1 : Cond.methodLink (zM Z j).2.2.2.2.2 idx Lib.Math.max.name ∈ (zM Z j).2.2.2.2.1) (w2 : Cond.static Lib.Math.max.name ∈ (zM Z j).2.2.2.2.1) (w3 : Cond.initialized "java/lang/Math" ∈ (zM Z j).2.2.2.2.1) (w4 : Cond.code Lib.Math.max.name Lib.Math.max.code 2 (some .int) ∈ (zM Z j).2.2.2.2.1) : qc_mm Z j pc (pc + 3) 0 := by
  intro p l e R s m args below meth c H locs cells slots la rest Q hB hf hl hs hc1 hc2 x y kk
  have e1 : (if x < y then y else x) = cond (Nat.beq (qe_c3 (qe_so x) (qe_so y)) 0) y x := by
    rcases qe_c3_cases x y with ⟨a, b⟩ | ⟨a, b⟩ | ⟨a, b⟩ <;> rw [b]
    · first | rw [if_pos a]; rfl | rw [if_neg (qe_ilt_asym a)]; rfl
    · subst a; rw [if_neg (qe_ilt_irr _)]; rfl
    · first | rw [if_pos a]; rfl | rw [if_neg (qe_ilt_asym a)]; rfl
  refine va_mmax hB.1 hB.2.1 hs.symm hB.2.2.2.2.2.1 (hB.2.2.2.2.1 _ w1) (hB.2.2.2.2.1 _ w2) (hB.2.2.2.2.1 _ w3) (hB.2.2.2.2.1 _ w4) hf hl hc1 hc2 h ?_
  rw [e1]
  exact kk
theorem qk_mmin {Z : qe_Z} {j pc idx : Nat} (h : decode (zM Z j).2.1 pc = .ok (.invokestatic idx, 3)) (w1 : Cond.methodLink (zM Z j).2.2.2.2.2 idx Lib.Math.min.name ∈ (zM Z j).2.2.2.2.1) (w2 : Cond.static Lib.Math.min.name ∈ (zM Z j).2.2.2.2.1) (w3 : Cond.initialized "java/lang/Math" ∈ (zM Z j).2.2.2.2.1) (w4 : Cond.code Lib.Math.min.name Lib.Math.min.code 2 (some .int) ∈ (zM Z j).2.2.2.2.1) : qc_mm Z j pc (pc + 3) 2 := by
  intro p l e R s m args below meth c H locs cells slots la rest Q hB hf hl hs hc1 hc2 x y kk
  have e1 : (if y < x then y else x) = cond (Nat.beq (qe_c3 (qe_so x) (qe_so y)) 2) y x := by
    rcases qe_c3_cases x y with ⟨a, b⟩ | ⟨a, b⟩ | ⟨a, b⟩ <;> rw [b]
    · first | rw [if_pos a]; rfl | rw [if_neg (qe_ilt_asym a)]; rfl
    · subst a; rw [if_neg (qe_ilt_irr _)]; rfl
    · first | rw [if_pos a]; rfl | rw [if_neg (qe_ilt_asym a)]; rfl
  refine va_mmin hB.1 hB.2.1 hs.symm hB.2.2.2.2.2.1 (hB.2.2.2.2.1 _ w1) (hB.2.2.2.2.1 _ w2) (hB.2.2.2.2.1 _ w3) (hB.2.2.2.2.1 _ w4) hf hl hc1 hc2 h ?_
  rw [e1]
  exact kk
def qc_slen (Z : qe_Z) (j : Nat) (pc nx : Nat) (len : Nat → Nat) : Prop := ∀ {p : Program} {l : Launch} {e : Env} {R : Room} {s : State} {m : MethodId} {args : Array Value} {below : List Frame} {meth : Method} {c : Code} {H : Heap} {locs : List Loc} {cells slots : Nat} {la : Array Slot} {rest : List Value} {Q : State → Prop}, qe_bd (zM Z j) p l s m args meth c → ∀ (A : Nat → Prop), zX Z A s s.heap → va_S A s.heap H locs → (∀ q, s.heap.size ≤ q → A q) → 20 ≤ R.frames → 200 ≤ R.locals → qx_cat rest ≤ 8 → la.size = c.maxLocals → cells ≤ R.cells → slots ≤ R.slots → ∀ i : Nat, 0 < len i → W p l e R s m args below meth c H locs cells slots Q (F0 m nx la (.int (Int32.ofNat (len i)) :: rest)) → W p l e R s m args below meth c H locs cells slots Q (F0 m pc la (.ref ((zE Z).2.2.1 i) :: rest))
def qc_pstr (Z : qe_Z) (j : Nat) (pc nx i : Nat) : Prop := ∀ {p : Program} {l : Launch} {e : Env} {R : Room} {s : State} {m : MethodId} {args : Array Value} {below : List Frame} {meth : Method} {c : Code} {H : Heap} {locs : List Loc} {cells slots : Nat} {la : Array Slot} {rest : List Value} {Q : State → Prop}, qe_bd (zM Z j) p l s m args meth c → ∀ (A : Nat → Prop), zX Z A s s.heap → W p l e R s m args below meth c H locs cells slots Q (F0 m nx la (.ref ((zE Z).2.2.1 i) :: rest)) → W p l e R s m args below meth c H locs cells slots Q (F0 m pc la rest)
def qc_xlen (Z : qe_Z) (j : Nat) (pc nx L : Nat) : Prop := ∀ {p : Program} {l : Launch} {e : Env} {R : Room} {s : State} {m : MethodId} {args : Array Value} {below : List Frame} {meth : Method} {c : Code} {H : Heap} {locs : List Loc} {cells slots : Nat} {la : Array Slot} {rest : List Value} {Q : State → Prop}, qe_bd (zM Z j) p l s m args meth c → ∀ (A : Nat → Prop), zX Z A s s.heap → va_S A s.heap H locs → W p l e R s m args below meth c H locs cells slots Q (F0 m nx la (.int (Int32.ofNat L) :: rest)) → W p l e R s m args below meth c H locs cells slots Q (F0 m pc la (.ref ((zE Z).2.2.1 0) :: rest))
def qc_xld (Z : qe_Z) (j : Nat) (pc nx L : Nat) : Prop := ∀ {p : Program} {l : Launch} {e : Env} {R : Room} {s : State} {m : MethodId} {args : Array Value} {below : List Frame} {meth : Method} {c : Code} {H : Heap} {locs : List Loc} {cells slots : Nat} {la : Array Slot} {rest : List Value} {Q : State → Prop}, qe_bd (zM Z j) p l s m args meth c → ∀ (A : Nat → Prop), zX Z A s s.heap → va_S A s.heap H locs → ∀ i : Nat, i < L → i < 65536 → W p l e R s m args below meth c H locs cells slots Q (F0 m nx la (.int ((zE Z).2.2.2 i) :: rest)) → W p l e R s m args below meth c H locs cells slots Q (F0 m pc la (.int (Int32.ofNat i) :: .ref ((zE Z).2.2.1 0) :: rest))
def qc_cpy (Z : qe_Z) (j : Nat) (pc nx : Nat) : Prop := ∀ {p : Program} {l : Launch} {e : Env} {R : Room} {s : State} {m : MethodId} {args : Array Value} {below : List Frame} {meth : Method} {c : Code} {H : Heap} {locs : List Loc} {cells slots : Nat} {la : Array Slot} {rest : List Value} {Q : State → Prop}, qe_bd (zM Z j) p l s m args meth c → ∀ {D : va_G} {tys : List (ClassId × FieldType)} {ws : va_W} {A : Nat → Prop} {H0 : Heap}, va_K D (zc Z) tys s → va_P D (zc Z) ws H → va_D A ws → va_S A H0 H locs → 20 ≤ R.frames → 200 ≤ R.locals → qx_cat rest ≤ 8 → la.size = c.maxLocals → ∀ (q0 q1 t0 a0 a1 n0 n1 i : Nat) (cA : ClassId) (f g : Nat → Int32), ws[q0]? = some (a0, .inl (cA, n0, .inl f)) → ws[q1]? = some (a1, .inl (cA, n1, .inl g)) → tys[t0]? = some (cA, .int) → i ≤ n0 → i ≤ n1 → i < 65536 → (∀ (H1 : Heap) (locs1 : List Loc), va_P D (zc Z) (ws.set q1 (a1, .inl (cA, n1, .inl (fun k => if k < i then f k else g k)))) H1 → va_D A (ws.set q1 (a1, .inl (cA, n1, .inl (fun k => if k < i then f k else g k)))) → va_S A H0 H1 locs1 → W p l e R s m args below meth c H1 locs1 cells slots Q (F0 m nx la rest)) → W p l e R s m args below meth c H locs cells slots Q (F0 m pc la (.int (Int32.ofNat i) :: .int 0 :: .ref a1 :: .int 0 :: .ref a0 :: rest))
theorem qk_cpy {Z : qe_Z} {j pc idx : Nat} (h : decode (zM Z j).2.1 pc = .ok (.invokestatic idx, 3)) (w1 : Cond.methodLink (zM Z j).2.2.2.2.2 idx arraycopyName ∈ (zM Z j).2.2.2.2.1) (w2 : Cond.native arraycopyName ∈ (zM Z j).2.2.2.2.1) (w3 : Cond.static arraycopyName ∈ (zM Z j).2.2.2.2.1) (w4 : Cond.initialized "java/lang/System" ∈ (zM Z j).2.2.2.2.1) : qc_cpy Z j pc (pc + 3) := by
  intro p l e R s m args below meth c H locs cells slots la rest Q hB D tys ws A H0 hK hP hD hS hf hl hcat hs q0 q1 t0 a0 a1 n0 n1 i cA f g ha0 ha1 ht hi0 hi1 hi kk
  obtain ⟨c1, c2⟩ := qe_clamp hi
  have z1 : ((0 : Int32)).toNatClampNeg = 0 := rfl
  have z2 : ¬ ((0 : Int32) < 0) := by decide
  have hw : nativeFrameWords "java/lang/System" "arraycopy" 5 + 11 + 8 ≤ 200 := by decide +kernel
  have hcat' : (rest.map fun v => v.category).sum ≤ 8 := hcat
  have he : va_cpy f g ((0 : Int32)).toNatClampNeg ((0 : Int32)).toNatClampNeg (Int32.ofNat i).toNatClampNeg = fun k => if k < i then f k else g k := by
    rw [z1, c1]
    funext k
    unfold va_cpy
    by_cases hk : k < i
    · rw [if_pos ⟨Nat.zero_le _, by omega⟩, if_pos hk]; congr 1; omega
    · rw [if_neg (by omega), if_neg hk]
  refine va_copyi (D := D) hB.1 hB.2.1 hs.symm hB.2.2.2.2.2.1 (hB.2.2.2.2.1 _ w1) (hB.2.2.2.2.1 _ w2) (hB.2.2.2.2.1 _ w3) (hB.2.2.2.2.1 _ w4) hK hP hD hS q0 q1 t0 t0 ha0 ha1 ht ht rfl z2 z2 c2 (by rw [z1, c1]; omega) (by rw [z1, c1]; omega) (fun _ _ => rfl) (by omega) (by omega) h (fun H1 locs1 p1 p2 p3 => ?_)
  rw [he] at p1 p2
  exact kk H1 locs1 p1 p2 p3
def qx_rv (rt : Nat) (v : Value) : Prop := (rt = 1 ∧ ∃ x : Int32, v = .int x) ∨ (rt = 2 ∧ ∃ x : Int32, v = .int x ∧ narrow .boolean (.int x) = .int x) ∨ (rt = 3 ∧ ∃ x : Int64, v = .long x) ∨ (rt = 4 ∧ (v = .null ∨ ∃ a : Nat, v = .ref a))
def qc_ret (Z : qe_Z) (j : Nat) (pc rt : Nat) : Prop := ∀ {p : Program} {l : Launch} {e : Env} {R : Room} {s : State} {m : MethodId} {args : Array Value} {below : List Frame} {meth : Method} {c : Code} {H : Heap} {locs : List Loc} {cells slots : Nat} {la : Array Slot} {rest : List Value} {A : Nat → Prop} {QC : Array Value → State → Outcome → State → Prop} {XC : String → State → State → Prop}, qe_bd (zM Z j) p l s m args meth c → ∀ v : Value, qx_rv rt v → (∀ t : State, t.heap = H → s.WarmedH t.vm → QC args s (.returned (some v)) t) → (∀ q ∈ locs, A q.base) → cells ≤ R.cells → slots ≤ R.slots → W p l e R s m args below meth c H locs cells slots (vx_MQ below QC XC args s R.cells R.slots A) (F0 m pc la [v])
def qc_ret0 (Z : qe_Z) (j : Nat) (pc : Nat) : Prop := ∀ {p : Program} {l : Launch} {e : Env} {R : Room} {s : State} {m : MethodId} {args : Array Value} {below : List Frame} {meth : Method} {c : Code} {H : Heap} {locs : List Loc} {cells slots : Nat} {la : Array Slot} {rest : List Value} {A : Nat → Prop} {QC : Array Value → State → Outcome → State → Prop} {XC : String → State → State → Prop}, qe_bd (zM Z j) p l s m args meth c → (∀ t : State, t.heap = H → s.WarmedH t.vm → QC args s (.returned none) t) → (∀ q ∈ locs, A q.base) → cells ≤ R.cells → slots ≤ R.slots → W p l e R s m args below meth c H locs cells slots (vx_MQ below QC XC args s R.cells R.slots A) (F0 m pc la [])
theorem qk_ireti {Z : qe_Z} {j pc : Nat} (h : decode (zM Z j).2.1 pc = .ok (.ireturn, 1)) (hr : (zM Z j).2.2.2.1 = some .int) : qc_ret Z j pc 1 := by
  intro p l e R s m args below meth c H locs cells slots la rest A QC XC hB v hv hq hf h1 h2
  have hr2 := hB.2.2.2.1.trans hr
  have hk := hB.2.2.2.2.2.2.1
  rcases hv with ⟨a, b⟩ | ⟨a, b⟩ | ⟨a, b⟩ | ⟨a, b⟩ <;> first | (exfalso; omega) | skip
  obtain ⟨x, rfl⟩ := b
  refine W.widen h1 h2 (vx_ret ?_)
  exact W.iret hB.1 hB.2.1 hr2 hq hf h hk
theorem qk_iretz {Z : qe_Z} {j pc : Nat} (h : decode (zM Z j).2.1 pc = .ok (.ireturn, 1)) (hr : (zM Z j).2.2.2.1 = some .boolean) : qc_ret Z j pc 2 := by
  intro p l e R s m args below meth c H locs cells slots la rest A QC XC hB v hv hq hf h1 h2
  have hr2 := hB.2.2.2.1.trans hr
  have hk := hB.2.2.2.2.2.2.1
  rcases hv with ⟨a, b⟩ | ⟨a, b⟩ | ⟨a, b⟩ | ⟨a, b⟩ <;> first | (exfalso; omega) | skip
  obtain ⟨x, rfl, hn⟩ := b
  refine W.widen h1 h2 (vx_ret ?_)
  exact W.zret hB.1 hB.2.1 hr2 hn hq hf h hk
theorem qk_lret {Z : qe_Z} {j pc : Nat} (h : decode (zM Z j).2.1 pc = .ok (.lreturn, 1)) (hr : (zM Z j).2.2.2.1 = some .long) : qc_ret Z j pc 3 := by
  intro p l e R s m args below meth c H locs cells slots la rest A QC XC hB v hv hq hf h1 h2
  have hr2 := hB.2.2.2.1.trans hr
  have hk := hB.2.2.2.2.2.2.1
  rcases hv with ⟨a, b⟩ | ⟨a, b⟩ | ⟨a, b⟩ | ⟨a, b⟩ <;> first | (exfalso; omega) | skip
  obtain ⟨x, rfl⟩ := b
  refine W.widen h1 h2 (vx_ret ?_)
  exact W.lret hB.1 hB.2.1 hr2 hq hf h hk
theorem qk_aret {Z : qe_Z} {j pc : Nat} {rt : FieldType} (h : decode (zM Z j).2.1 pc = .ok (.areturn, 1)) (hr : (zM Z j).2.2.2.1 = some rt) (ht : (∃ n, rt = .object n) ∨ ∃ t, rt = .array t) : qc_ret Z j pc 4 := by
  intro p l e R s m args below meth c H locs cells slots la rest A QC XC hB v hv hq hf h1 h2
  have hr2 := hB.2.2.2.1.trans hr
  have hk := hB.2.2.2.2.2.2.1
  rcases hv with ⟨a, b⟩ | ⟨a, b⟩ | ⟨a, b⟩ | ⟨a, b⟩ <;> first | (exfalso; omega) | skip
  refine W.widen h1 h2 (vx_ret ?_)
  exact W.aret hB.1 hB.2.1 hr2 ht b hq hf h hk
theorem qk_vret {Z : qe_Z} {j pc : Nat} (h : decode (zM Z j).2.1 pc = .ok (.return_, 1)) (hr : (zM Z j).2.2.2.1 = none) : qc_ret0 Z j pc := by
  intro p l e R s m args below meth c H locs cells slots la rest A QC XC hB hq hf h1 h2
  have hr2 := hB.2.2.2.1.trans hr
  have hk := hB.2.2.2.2.2.2.1
  refine W.widen h1 h2 (vx_ret ?_)
  exact W.vret hB.1 hB.2.1 hr2 hq hf h hk
def qc_thr (Z : qe_Z) (j : Nat) (pc i : Nat) : Prop := ∀ {p : Program} {l : Launch} {e : Env} {R : Room} {s : State} {m : MethodId} {args : Array Value} {below : List Frame} {meth : Method} {c : Code} {H : Heap} {locs : List Loc} {cells slots : Nat} {la : Array Slot} {rest : List Value} {A : Nat → Prop} {QC : Array Value → State → Outcome → State → Prop} {XC : String → State → State → Prop}, qe_bd (zM Z j) p l s m args meth c → zX Z A s s.heap → va_S A s.heap H locs → (∀ q, s.heap.size ≤ q → A q) → zT Z j c → la.size = c.maxLocals → 20 ≤ R.frames → 200 ≤ R.locals → cells + 1 ≤ R.cells → slots + 6 ≤ R.slots → qx_cat rest ≤ 8 → (∀ t : State, s.vm.Alike t.vm → H.size ≤ t.heap.size → (∀ q : Nat, q < H.size → t.heap[q]? = H[q]?) → XC (zn Z i) s t) → W p l e R s m args below meth c H locs cells slots (vx_MQ below QC XC args s R.cells R.slots A) (F0 m pc la rest)
def qc_out (Z : qe_Z) (j : Nat) (pc i : Nat) : Prop := ∀ {p : Program} {l : Launch} {e : Env} {R : Room} {s : State} {m : MethodId} {args : Array Value} {below : List Frame} {meth : Method} {c : Code} {H : Heap} {locs : List Loc} {cells slots : Nat} {la : Array Slot} {rest : List Value} {A : Nat → Prop} {QC : Array Value → State → Outcome → State → Prop} {XC : String → State → State → Prop}, qe_bd (zM Z j) p l s m args meth c → zT Z j c → ∀ (q : Nat) (ce : Cell), H[q]? = some ce → ce.vm = .none → s.vm.findClass (zn Z i) = some ce.cls → zX Z A s s.heap → (∀ t : State, t.heap = H → s.vm.Alike t.vm → XC (zn Z i) s t) → (∀ z ∈ locs, A z.base) → cells ≤ R.cells → slots ≤ R.slots → vx_W p l e R s m args below meth c H locs cells slots (vx_MQ below QC XC args s R.cells R.slots A) (F0 m pc la rest) q
def qc_cat (Z : qe_Z) (j : Nat) (pc i pc2 lo : Nat) : Prop := ∀ {p : Program} {l : Launch} {e : Env} {R : Room} {s : State} {m : MethodId} {args : Array Value} {below : List Frame} {meth : Method} {c : Code} {H : Heap} {locs : List Loc} {cells slots : Nat} {la : Array Slot} {rest : List Value} {A : Nat → Prop} {QC : Array Value → State → Outcome → State → Prop} {XC : String → State → State → Prop}, qe_bd (zM Z j) p l s m args meth c → zT Z j c → ∀ (q : Nat) (ce : Cell) (nL : Nat) (lv : List (Nat × Value)), H[q]? = some ce → ce.vm = .none → s.vm.findClass (zn Z i) = some ce.cls → zX Z A s s.heap → lv_has la nL lv → lo < nL → (∀ la2 : Array Slot, lv_has la2 nL ((lo, .ref q) :: lv.filter (fun q => !(q.1 == lo) && !(q.1 + 1 == lo && q.2.category == 2))) → W p l e R s m args below meth c H locs cells slots (vx_MQ below QC XC args s R.cells R.slots A) (F0 m pc2 la2 [])) → vx_W p l e R s m args below meth c H locs cells slots (vx_MQ below QC XC args s R.cells R.slots A) (F0 m pc la rest) q
/-- what a call of method jj owes: rc as in the engine -/
def qx_rc (Z : qe_Z) (rc : Nat) (As : List Value) (H : Heap) (s : State) : Prop := rc = 0 ∨ ∃ (a : Nat) (As2 : List Value) (q : vw_C), As = .ref a :: As2 ∧ (zc Z)[rc - 1]? = some q ∧ ∃ cell : Cell, H[a]? = some cell ∧ cell.vm.isStatics = false ∧ s.vm.findClass q.1 = some cell.cls
def qc_inv (Z : qe_Z) (j pc nx jj na rc : Nat) : Prop := ∀ {p : Program} {l : Launch} {e : Env} {R : Room} {s : State} {m : MethodId} {args : Array Value} {below : List Frame} {meth : Method} {c : Code} {H : Heap} {locs : List Loc} {cells slots : Nat} {la : Array Slot} {rest : List Value} {As : List Value} {rm : Room} {Pc : Array Value → State → Prop} {Qc : Array Value → State → Outcome → State → Prop} {XC : String → State → State → Prop} {mc ms : Nat} {free : Addr → Prop} {A : Nat → Prop}, qe_bd (zM Z j) p l s m args meth c → zX Z A s s.heap → vx_Met l (zM Z jj).1 (zM Z jj).2.2.2.2.1 rm Pc Qc XC mc ms free → rm.cells = mc → rm.slots = ms → rm.frames + 1 ≤ R.frames → 8 + ((zM Z jj).2.2.1 + 11) + rm.locals ≤ R.locals → FrameBlind Pc → qx_rc Z rc As H s → (∀ U : State, U.heap = H → s.WarmedH U.vm → Pc As.toArray U) → As.length = na → la.size = c.maxLocals → qx_cat rest ≤ 8 → cells + mc ≤ R.cells ∧ slots + ms ≤ R.slots → nx = pc + 3 ∧ vx_Run p l e R s m args below meth c H locs cells slots mc ms (F0 m pc la (As.reverse ++ rest)) rest (Qc As.toArray) XC free
end QEL
