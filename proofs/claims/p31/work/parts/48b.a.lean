/-! THE START: made by wip/engine/gen35.py -/
section QZS
def qs_flat : Cond → List Cond → List Cond
  | .and a b, acc => qs_flat a (qs_flat b acc)
  | c, acc => c :: acc
theorem qs_flat_ok {args : Array Value} {s : State} (T : Cond) : T.before args s = true → ∀ acc : List Cond, (∀ c ∈ acc, c.before args s = true) → ∀ c ∈ qs_flat T acc, c.before args s = true := by
  induction T with
  | and a b iha ihb =>
    intro h acc hacc c hc
    rw [Cond.before_and, Bool.and_eq_true] at h
    simp only [qs_flat] at hc
    exact iha h.1 _ (ihb h.2 acc hacc) c hc
  | _ =>
    intro h acc hacc c hc
    simp only [qs_flat, List.mem_cons] at hc
    rcases hc with e | e
    · rw [e]; exact h
    · exact hacc c e
def qs_F : List Cond := qs_flat (Jvm.Cond.and given_1 narrow_1) []
theorem qs_Fb {args : Array Value} {s : State} (h : (Jvm.Cond.and given_1 narrow_1).before args s = true) : ∀ c ∈ qs_F, c.before args s = true := qs_flat_ok _ h [] (fun c hc => absurd hc List.not_mem_nil)
theorem qs_Tof {args : Array Value} {s : State} {tm : Term} {ty : FieldType} {N : Nat} {A : Nat → Prop} (hN : N < 2 ^ 31) (harr : (Cond.arrayOf tm ty).before args s = true) (hlen : (Term.length tm).eval args s none [] s = some (.int (Int32.ofNat N))) (hA : ∀ a : Nat, a < s.heap.size → ¬ A a) : ∃ (t : Nat) (f : Nat → Value), tm.eval args s none [] s = some (.ref t) ∧ va_T ty t N f A s s.heap := by
  obtain ⟨t, cell, ht, hat, hv⟩ := Term.length_spec hlen
  obtain ⟨hcell, hkn, -, -⟩ := State.arrayAt?_spec hat
  obtain ⟨hof, -⟩ := Cond.arrayOf_spec harr ht hcell
  have e1 : cell.slots.size.toInt32 = Int32.ofNat N := (Value.int.inj hv).symm
  have e2 : N ≤ cell.slots.size := by
    have e3 : (Int32.ofNat cell.slots.size).toBitVec = (Int32.ofNat N).toBitVec := congrArg Int32.toBitVec e1
    rw [qe_bv, qe_bv] at e3
    have e4 := congrArg BitVec.toNat e3
    rw [BitVec.toNat_ofNat, BitVec.toNat_ofNat] at e4
    omega
  refine ⟨t, fun j => (cell.slots[j]?).getD .null, ht, cell, hcell, hof, hkn, e2, e1, fun j hj => ?_, hA t (Array.getElem?_eq_some_iff.mp hcell).1⟩
  have hj2 : j < cell.slots.size := Nat.lt_of_lt_of_le hj e2
  show cell.slots[j]? = some ((cell.slots[j]?).getD .null)
  rw [Array.getElem?_eq_getElem hj2]
  rfl
theorem qs_str {args : Array Value} {s : State} {A : Nat → Prop} {own tx : String} {k N : Nat} (b1 : (Cond.exactly (.string own k) "java/lang/String").before args s = true) (b2 : (Cond.eq (.field (.string own k) "java/lang/String" "coder" "B") (.int 0)).before args s = true) (b3 : (Cond.arrayOf (.field (.string own k) "java/lang/String" "value" "[B") .byte).before args s = true) (b4 : (Cond.eq (.length (.field (.string own k) "java/lang/String" "value" "[B")) (.int (Int32.ofNat N))).before args s = true) (hl : tx.length = N) (hN : N < 2 ^ 31) (hr : (Cond.stringRef own k tx).before args s = true) (hA : ∀ a : Nat, a < s.heap.size → ¬ A a) :
    ∃ a : Nat, (Term.string own k).eval args s none [] s = some (.ref a) ∧ (vk_R own k tx a s ∧ va_O "java/lang/String" a A s s.heap ∧ va_OF "java/lang/String" "coder" "B" (.int 0) a A s s.heap ∧ ∃ (b : Nat) (f : Nat → Value), va_OF "java/lang/String" "value" "[B" (.ref b) a A s s.heap ∧ va_T .byte b tx.length f A s s.heap) := by
  obtain ⟨a, c, cA, kA, q1, q2, q3, q4, q5, q6, -⟩ := Cond.exactly_spec (args := args) (first := s) (o := none) (s := s) (idx := []) (t := Term.string own k) (cls := "java/lang/String") b1
  obtain ⟨t, f, ht, hT⟩ := qs_Tof (A := A) hN b3 (va_eqt b4) hA
  refine ⟨a, q1, vk_R.of hr q1, ⟨cA, q3, q5, by rw [q6]; exact q2, hA a (Array.getElem?_eq_some_iff.mp q3).1⟩, vk_OFof q1 (va_eqt b2) hA, t, f, vk_OFof q1 ht hA, ?_⟩
  rw [hl]
  exact hT
/-- the addresses from outside: the script, then the texts' constants -/
noncomputable def qs_ext (b : Nat) (s : State) (i : Nat) : Nat := match i with
  | 0 => b
  | n + 1 => match qw_strs[n]? with
    | some q => match (Term.string q.1 q.2.1).eval #[Value.ref b] s none [] s with
      | some (.ref a) => a
      | _ => 0
    | none => 0
theorem qs_ext_at {b : Nat} {s : State} {i a : Nat} {q : String × Nat × String × Nat} (hq : qw_strs[i]? = some q) (he : (Term.string q.1 q.2.1).eval #[Value.ref b] s none [] s = some (.ref a)) : qs_ext b s (i + 1) = a := by
  unfold qs_ext
  simp only [hq, he]

end QZS
