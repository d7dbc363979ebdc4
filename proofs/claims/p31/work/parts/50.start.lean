/-! THE START WITH THE SCRIPT OF 500 CALLS -/
section QFS
def zq_SN (N : Nat) : Array Value := ⟨(List.range N).map (fun i => Value.int (zq_xs i))⟩
def zq_S : Array Value := zq_SN 1500
def zq_s0 : State := start1.aboutOf zq_S
def zq_z0 : Cell := { cls := 31, slots := zq_S, vm := .none }
def zq_tl : List Cell := zq_s0.heap.toList.tail
set_option maxRecDepth 16384 in
theorem zq_vm (A B : Array Value) : (start1.aboutOf A).vm = (start1.aboutOf B).vm := rfl
set_option maxRecDepth 16384 in
theorem zq_hp (A : Array Value) : (start1.aboutOf A).heap.toList = { cls := 31, slots := A, vm := .none } :: (start1.aboutOf A).heap.toList.tail := rfl
set_option maxRecDepth 16384 in
theorem zq_hp0 (A : Array Value) : (start1.aboutOf A).heap[0]? = some { cls := 31, slots := A, vm := .none } := rfl
set_option maxRecDepth 16384 in
theorem zq_cl (A : Array Value) : (start1.aboutOf A).vm.classes[31]? = some (start1.cArr "[I" 30 .int) := rfl
theorem zq_SNn (N : Nat) : (zq_SN N).size = N := by
  show ((List.range N).map (fun i => Value.int (zq_xs i))).length = N
  rw [List.length_map, List.length_range]
theorem zq_SNg (N j : Nat) (hj : j < N) : (zq_SN N)[j]? = some (.int (zq_xs j)) := by
  rw [← Array.getElem?_toList]
  show ((List.range N).map (fun i => Value.int (zq_xs i)))[j]? = some (.int (zq_xs j))
  rw [List.getElem?_map, List.getElem?_range hj]
  rfl
theorem zq_Sn : zq_S.size = 1500 := zq_SNn 1500
theorem zq_Sg (j : Nat) (hj : j < 1500) : zq_S[j]? = some (.int (zq_xs j)) := zq_SNg 1500 j hj
theorem zq_Si {i : Nat} {v : Value} (h : zq_S[i]? = some v) : ∃ k, v = .int k := by
  have hi : i < zq_S.size := (Array.getElem?_eq_some_iff.mp h).1
  rw [zq_Sn] at hi
  rw [zq_Sg i hi] at h
  exact ⟨_, (Option.some.inj h).symm⟩
theorem zq_slG {s : State} {c : ClassId} {k : Class} {p : ClassId} (h1 : s.vm.classes[c]? = some k) (h2 : k.kind = .array p .int) (i : Nat) (n : Int32) : s.fitsSlot c .none i (.int n) = true := by
  simp [State.fitsSlot, State.slotType?, h1, h2, fits]
theorem zq_cfG {s : State} {c : Cell} (h : ∀ i v, c.slots[i]? = some v → s.fitsSlot c.cls c.vm i v = true) : cellFits s c = true := by
  refine List.all_eq_true.mpr fun i _ => ?_
  cases hv : c.slots[i]? with
  | none => rfl
  | some v => exact h i v hv
theorem zq_atG {s : State} {a : Addr} {c : Cell} {k : Class} {p : ClassId} {t : FieldType} (h1 : s.heap[a]? = some c) (h2 : s.vm.classes[c.cls]? = some k) (h3 : c.vm = .none) (h4 : k.kind = .array p t) : s.arrayAt? a = some c := by
  simp only [State.arrayAt?, h1, Option.bind_eq_bind, Option.bind_some, h2]
  simp [h3, h4, VmData.isStatics]
theorem zq_at : zq_s0.arrayAt? 0 = some zq_z0 := zq_atG (s := start1.aboutOf zq_S) (zq_hp0 zq_S) (zq_cl zq_S) rfl rfl
theorem zq_ff (s : State) : heapFits' s = heapFits s := rfl
set_option maxRecDepth 16384 in
theorem zq_tail : zq_tl.all (cellFits zq_s0) = true := by decide +kernel
theorem zq_fit : heapFits zq_s0 = true := by
  refine Array.all_eq_true_iff_forall_mem.mpr fun c hc => ?_
  have h1 : c ∈ zq_s0.heap.toList := Array.mem_def.mp hc
  have e : zq_s0.heap.toList = zq_z0 :: zq_tl := zq_hp zq_S
  rw [e] at h1
  rcases List.mem_cons.mp h1 with q | q
  · rw [q]
    refine zq_cfG fun i v hv => ?_
    obtain ⟨k, rfl⟩ := zq_Si hv
    exact zq_slG (s := start1.aboutOf zq_S) (zq_cl zq_S) rfl i k
  · exact List.all_eq_true.mp zq_tail c q
theorem zq_len : (Term.length (Term.arg (0 : Nat))).eval start1.args0 zq_s0 none [] zq_s0 = some (.int (1500 : Nat).toInt32) := by
  have ea : (Term.arg (0 : Nat)).eval start1.args0 zq_s0 none [] zq_s0 = some (.ref 0) := rfl
  have en : zq_z0.slots.size = 1500 := zq_Sn
  rw [Term.eval, ea]
  simp only [Option.bind_eq_bind, Option.bind_some, zq_at, en]
  rfl
theorem zq_rest : rest_1_c.before start1.args0 zq_s0 = true := by
  have hF : heapFits' zq_s0 = true := (zq_ff zq_s0).trans zq_fit
  have h2 := Cond.all_isInt_of_fit (args := start1.args0) (s := zq_s0) (t := Term.arg (0 : Nat)) (a := 0) (cell := zq_z0) hF (fun _ => rfl) zq_at (by show zq_S.size < 2 ^ 31; rw [zq_Sn]; decide) ⟨fun k h => (by cases h), _, zq_cl zq_S, 30, rfl⟩
  have h1 : (Cond.isInt (Term.length (Term.arg (0 : Nat)))).before start1.args0 zq_s0 = true := by
    have hv := Cond.isInt_int (args := start1.args0) (first := zq_s0) (o := none) (s := zq_s0) (idx := []) zq_len
    simp only [Cond.before, Cond.holds, hv]
    rfl
  unfold rest_1_c
  rw [Cond.before_and, Bool.and_eq_true]
  exact ⟨h1, h2⟩
end QFS
