/-! THE START: made by wip/engine/gen35.py -/
section QZS
def qs_flat : Cond → List Cond → List Cond
  | .and a b, acc => qs_flat a (qs_flat b acc)
  | c, acc => c :: acc
theorem qs_flat_ok {args : Array Value} {s : State} (T : Cond) : T.before args s = true → ∀ acc : List Cond, (∀ c ∈ acc, c.before args s = true) → ∀ c ∈ qs_flat T acc, c.before args s = true := by
  induction T with
  | and a b iha ihb =>
    intro h acc hacc c hc
    rw [Cond.before_and, Bool.and_eq_true] at h
    simp only [qs_flat] at hc
    exact iha h.1 _ (ihb h.2 acc hacc) c hc
  | _ =>
    intro h acc hacc c hc
    simp only [qs_flat, List.mem_cons] at hc
    rcases hc with e | e
    · rw [e]; exact h
    · exact hacc c e
def qs_F : List Cond := qs_flat (Jvm.Cond.and given_1 narrow_1) []
theorem qs_Fb {args : Array Value} {s : State} (h : (Jvm.Cond.and given_1 narrow_1).before args s = true) : ∀ c ∈ qs_F, c.before args s = true := qs_flat_ok _ h [] (fun c hc => absurd hc List.not_mem_nil)
abbrev qs_tv (q : String × Nat × String × Nat) : Term := Term.field (Term.string q.1 q.2.1) "java/lang/String" "value" "[B"
def qs_exp (q : String × Nat × String × Nat) (bs : List Int32) : List Cond := [Cond.exactly (.string q.1 q.2.1) "java/lang/String", Cond.eq (.field (.string q.1 q.2.1) "java/lang/String" "coder" "B") (.int 0), Cond.arrayOf (qs_tv q) .byte, Cond.eq (.length (qs_tv q)) (.int (Int32.ofNat bs.length))] ++ (List.range bs.length).map (fun j => Cond.eq (.elem (qs_tv q) (.int (Int32.ofNat j))) (.int (bs.getD j 0)))
theorem qs_str {args : Array Value} {s : State} {A : Nat → Prop} {q : String × Nat × String × Nat} {n : Nat} {bs : List Int32} (hF : ∀ c ∈ qs_F, c.before args s = true) (h : (qs_F.drop n).take (4 + bs.length) = qs_exp q bs) (hl : q.2.2.1.length = bs.length) (hN : bs.length < 2 ^ 31) (hr : (Cond.stringRef q.1 q.2.1 q.2.2.1).before args s = true) (hA : ∀ a : Nat, a < s.heap.size → ¬ A a) :
    ∃ a : Nat, (Term.string q.1 q.2.1).eval args s none [] s = some (.ref a) ∧ (vk_R q.1 q.2.1 q.2.2.1 a s ∧ va_O "java/lang/String" a A s s.heap ∧ va_OF "java/lang/String" "coder" "B" (.int 0) a A s s.heap ∧ ∃ (b : Nat) (f : Nat → Value), va_OF "java/lang/String" "value" "[B" (.ref b) a A s s.heap ∧ va_T .byte b q.2.2.1.length f A s s.heap) := by
  have hm : ∀ c ∈ qs_exp q bs, c.before args s = true := fun c hc => hF c (List.mem_of_mem_drop (List.mem_of_mem_take (by rw [h]; exact hc)))
  have b1 := hm (Cond.exactly (.string q.1 q.2.1) "java/lang/String") (List.mem_append_left _ (List.mem_of_getElem? (i := 0) rfl))
  have b2 := hm (Cond.eq (.field (.string q.1 q.2.1) "java/lang/String" "coder" "B") (.int 0)) (List.mem_append_left _ (List.mem_of_getElem? (i := 1) rfl))
  have b3 := hm (Cond.arrayOf (qs_tv q) .byte) (List.mem_append_left _ (List.mem_of_getElem? (i := 2) rfl))
  have b4 := hm (Cond.eq (.length (qs_tv q)) (.int (Int32.ofNat bs.length))) (List.mem_append_left _ (List.mem_of_getElem? (i := 3) rfl))
  have b5 : ∀ j : Nat, j < bs.length → (Cond.eq (.elem (qs_tv q) (.int (Int32.ofNat j))) (.int (bs.getD j 0))).before args s = true := fun j hj => hm _ (List.mem_append_right _ (List.mem_map.mpr ⟨j, List.mem_range.mpr hj, rfl⟩))
  obtain ⟨a, c, cA, kA, q1, q2, q3, q4, q5, q6, -⟩ := Cond.exactly_spec (args := args) (first := s) (o := none) (s := s) (idx := []) (t := Term.string q.1 q.2.1) (cls := "java/lang/String") b1
  obtain ⟨t, ht, hT⟩ := va_Tof (f := fun j => .int (bs.getD j 0)) (A := A) hN b3 (va_eqt b4) (fun j hj => va_eqt (b5 j hj)) hA
  refine ⟨a, q1, vk_R.of hr q1, ⟨cA, q3, q5, by rw [q6]; exact q2, hA a (Array.getElem?_eq_some_iff.mp q3).1⟩, vk_OFof q1 (va_eqt b2) hA, t, _, vk_OFof q1 ht hA, ?_⟩
  rw [hl]
  exact hT
/-- the addresses from outside: the script, then the texts' constants -/
noncomputable def qs_ext (b : Nat) (s : State) (i : Nat) : Nat := match i with
  | 0 => b
  | n + 1 => match qw_strs[n]? with
    | some q => match (Term.string q.1 q.2.1).eval #[Value.ref b] s none [] s with
      | some (.ref a) => a
      | _ => 0
    | none => 0
theorem qs_ext_at {b : Nat} {s : State} {i a : Nat} {q : String × Nat × String × Nat} (hq : qw_strs[i]? = some q) (he : (Term.string q.1 q.2.1).eval #[Value.ref b] s none [] s = some (.ref a)) : qs_ext b s (i + 1) = a := by
  unfold qs_ext
  simp only [hq, he]

def qsb_0 : List Int32 := [97, 32, 98, 121, 116, 101, 32, 105, 115, 32, 110, 111, 32, 99, 104, 97, 114, 97, 99, 116, 101, 114]
def qsq_0 : String × Nat × String × Nat := ("TextSwitchCompiler", 96, "a byte is no character", 1)
theorem qsr_0 : (qs_F.drop 70).take (4 + qsb_0.length) = qs_exp qsq_0 qsb_0 := by decide +kernel
theorem qsl_0 : qsq_0.2.2.1.length = qsb_0.length ∧ qsb_0.length < 2 ^ 31 := by decide +kernel
theorem qsw_0 : Cond.stringRef qsq_0.1 qsq_0.2.1 qsq_0.2.2.1 ∈ lw_tbl := List.mem_of_getElem? (i := 821) (by decide +kernel)
def qsb_1 : List Int32 := [116, 104, 101, 32, 98, 117, 102, 102, 101, 114, 32, 105, 115, 32, 116, 111, 111, 32, 115, 104, 111, 114, 116]
def qsq_1 : String × Nat × String × Nat := ("TextSwitchCompiler", 106, "the buffer is too short", 2)
theorem qsr_1 : (qs_F.drop 96).take (4 + qsb_1.length) = qs_exp qsq_1 qsb_1 := by decide +kernel
theorem qsl_1 : qsq_1.2.2.1.length = qsb_1.length ∧ qsb_1.length < 2 ^ 31 := by decide +kernel
theorem qsw_1 : Cond.stringRef qsq_1.1 qsq_1.2.1 qsq_1.2.2.1 ∈ lw_tbl := List.mem_of_getElem? (i := 857) (by decide +kernel)
def qsb_2 : List Int32 := [116, 104, 101, 32, 116, 101, 120, 116, 32, 99, 97, 110, 110, 111, 116, 32, 98, 101, 32, 97, 32, 107, 101, 121]
def qsq_2 : String × Nat × String × Nat := ("TextSwitchCompiler", 119, "the text cannot be a key", 3)
theorem qsr_2 : (qs_F.drop 123).take (4 + qsb_2.length) = qs_exp qsq_2 qsb_2 := by decide +kernel
theorem qsl_2 : qsq_2.2.2.1.length = qsb_2.length ∧ qsb_2.length < 2 ^ 31 := by decide +kernel
theorem qsw_2 : Cond.stringRef qsq_2.1 qsq_2.2.1 qsq_2.2.2.1 ∈ lw_tbl := List.mem_of_getElem? (i := 887) (by decide +kernel)
def qsb_3 : List Int32 := [116, 104, 101, 32, 107, 101, 121, 32, 101, 120, 105, 115, 116, 115, 32, 97, 108, 114, 101, 97, 100, 121, 44, 32, 111, 114, 32, 116, 104, 101, 114, 101, 32, 97, 114, 101, 32, 116, 111, 111, 32, 109, 97, 110, 121]
def qsq_3 : String × Nat × String × Nat := ("TextSwitchCompiler", 128, "the key exists already, or there are too many", 4)
theorem qsr_3 : (qs_F.drop 181).take (4 + qsb_3.length) = qs_exp qsq_3 qsb_3 := by decide +kernel
theorem qsl_3 : qsq_3.2.2.1.length = qsb_3.length ∧ qsb_3.length < 2 ^ 31 := by decide +kernel
theorem qsw_3 : Cond.stringRef qsq_3.1 qsq_3.2.1 qsq_3.2.2.1 ∈ lw_tbl := List.mem_of_getElem? (i := 906) (by decide +kernel)
def qsb_4 : List Int32 := [116, 104, 101, 32, 119, 101, 105, 103, 104, 116, 32, 105, 115, 32, 111, 117, 116, 32, 111, 102, 32, 114, 97, 110, 103, 101]
def qsq_4 : String × Nat × String × Nat := ("TextSwitchCompiler", 151, "the weight is out of range", 5)
theorem qsr_4 : (qs_F.drop 245).take (4 + qsb_4.length) = qs_exp qsq_4 qsb_4 := by decide +kernel
theorem qsl_4 : qsq_4.2.2.1.length = qsb_4.length ∧ qsb_4.length < 2 ^ 31 := by decide +kernel
theorem qsw_4 : Cond.stringRef qsq_4.1 qsq_4.2.1 qsq_4.2.2.1 ∈ lw_tbl := List.mem_of_getElem? (i := 980) (by decide +kernel)
def qsb_5 : List Int32 := [116, 104, 101, 32, 108, 111, 97, 100, 32, 105, 115, 32, 111, 117, 116, 32, 111, 102, 32, 114, 97, 110, 103, 101]
def qsq_5 : String × Nat × String × Nat := ("TextSwitchCompiler", 156, "the load is out of range", 6)
theorem qsr_5 : (qs_F.drop 275).take (4 + qsb_5.length) = qs_exp qsq_5 qsb_5 := by decide +kernel
theorem qsl_5 : qsq_5.2.2.1.length = qsb_5.length ∧ qsb_5.length < 2 ^ 31 := by decide +kernel
theorem qsw_5 : Cond.stringRef qsq_5.1 qsq_5.2.1 qsq_5.2.2.1 ∈ lw_tbl := List.mem_of_getElem? (i := 988) (by decide +kernel)
def qsb_6 : List Int32 := [97, 32, 102, 111, 114, 109, 32, 101, 114, 114, 111, 114]
def qsq_6 : String × Nat × String × Nat := ("TextSwitchCompiler", 175, "a form error", 7)
theorem qsr_6 : (qs_F.drop 335).take (4 + qsb_6.length) = qs_exp qsq_6 qsb_6 := by decide +kernel
theorem qsl_6 : qsq_6.2.2.1.length = qsb_6.length ∧ qsb_6.length < 2 ^ 31 := by decide +kernel
theorem qsw_6 : Cond.stringRef qsq_6.1 qsq_6.2.1 qsq_6.2.2.1 ∈ lw_tbl := List.mem_of_getElem? (i := 1115) (by decide +kernel)
def qsb_7 : List Int32 := [97, 110, 32, 101, 120, 101, 99, 117, 116, 105, 111, 110, 32, 101, 114, 114, 111, 114]
def qsq_7 : String × Nat × String × Nat := ("TextSwitchCompiler", 177, "an execution error", 8)
theorem qsr_7 : (qs_F.drop 351).take (4 + qsb_7.length) = qs_exp qsq_7 qsb_7 := by decide +kernel
theorem qsl_7 : qsq_7.2.2.1.length = qsb_7.length ∧ qsb_7.length < 2 ^ 31 := by decide +kernel
theorem qsw_7 : Cond.stringRef qsq_7.1 qsq_7.2.1 qsq_7.2.2.1 ∈ lw_tbl := List.mem_of_getElem? (i := 1116) (by decide +kernel)
def qsb_8 : List Int32 := [110, 111, 32, 115, 117, 99, 104, 32, 112, 114, 111, 112, 101, 114, 116, 121]
def qsq_8 : String × Nat × String × Nat := ("TextSwitchCompiler", 190, "no such property", 9)
theorem qsr_8 : (qs_F.drop 373).take (4 + qsb_8.length) = qs_exp qsq_8 qsb_8 := by decide +kernel
theorem qsl_8 : qsq_8.2.2.1.length = qsb_8.length ∧ qsb_8.length < 2 ^ 31 := by decide +kernel
theorem qsw_8 : Cond.stringRef qsq_8.1 qsq_8.2.1 qsq_8.2.2.1 ∈ lw_tbl := List.mem_of_getElem? (i := 1132) (by decide +kernel)
def qsb_9 : List Int32 := [110, 111, 32, 115, 117, 99, 104, 32, 112, 111, 115, 105, 116, 105, 111, 110]
def qsq_9 : String × Nat × String × Nat := ("TextSwitchCompiler", 194, "no such position", 10)
theorem qsr_9 : (qs_F.drop 393).take (4 + qsb_9.length) = qs_exp qsq_9 qsb_9 := by decide +kernel
theorem qsl_9 : qsq_9.2.2.1.length = qsb_9.length ∧ qsb_9.length < 2 ^ 31 := by decide +kernel
theorem qsw_9 : Cond.stringRef qsq_9.1 qsq_9.2.1 qsq_9.2.2.1 ∈ lw_tbl := List.mem_of_getElem? (i := 1140) (by decide +kernel)
def qsb_10 : List Int32 := [98, 111, 116, 104, 32, 107, 101, 121, 115, 32, 97, 114, 101, 32, 116, 104, 101, 32, 115, 97, 109, 101]
def qsq_10 : String × Nat × String × Nat := ("TextSwitchCompiler", 201, "both keys are the same", 11)
theorem qsr_10 : (qs_F.drop 413).take (4 + qsb_10.length) = qs_exp qsq_10 qsb_10 := by decide +kernel
theorem qsl_10 : qsq_10.2.2.1.length = qsb_10.length ∧ qsb_10.length < 2 ^ 31 := by decide +kernel
theorem qsw_10 : Cond.stringRef qsq_10.1 qsq_10.2.1 qsq_10.2.2.1 ∈ lw_tbl := List.mem_of_getElem? (i := 1149) (by decide +kernel)
def qsb_11 : List Int32 := [110, 111, 32, 115, 117, 99, 104, 32, 115, 105, 122, 101]
def qsq_11 : String × Nat × String × Nat := ("TextSwitchCompiler", 206, "no such size", 12)
theorem qsr_11 : (qs_F.drop 439).take (4 + qsb_11.length) = qs_exp qsq_11 qsb_11 := by decide +kernel
theorem qsl_11 : qsq_11.2.2.1.length = qsb_11.length ∧ qsb_11.length < 2 ^ 31 := by decide +kernel
theorem qsw_11 : Cond.stringRef qsq_11.1 qsq_11.2.1 qsq_11.2.2.1 ∈ lw_tbl := List.mem_of_getElem? (i := 1158) (by decide +kernel)
def qsb_12 : List Int32 := [110, 111, 32, 107, 101, 121, 115]
def qsq_12 : String × Nat × String × Nat := ("TextSwitchCompiler", 239, "no keys", 13)
theorem qsr_12 : (qs_F.drop 496).take (4 + qsb_12.length) = qs_exp qsq_12 qsb_12 := by decide +kernel
theorem qsl_12 : qsq_12.2.2.1.length = qsb_12.length ∧ qsb_12.length < 2 ^ 31 := by decide +kernel
theorem qsw_12 : Cond.stringRef qsq_12.1 qsq_12.2.1 qsq_12.2.2.1 ∈ lw_tbl := List.mem_of_getElem? (i := 1230) (by decide +kernel)
def qsb_13 : List Int32 := [110, 111, 32, 115, 117, 99, 104, 32, 115, 108, 111, 116]
def qsq_13 : String × Nat × String × Nat := ("TextSwitchCompiler", 290, "no such slot", 14)
theorem qsr_13 : (qs_F.drop 507).take (4 + qsb_13.length) = qs_exp qsq_13 qsb_13 := by decide +kernel
theorem qsl_13 : qsq_13.2.2.1.length = qsb_13.length ∧ qsb_13.length < 2 ^ 31 := by decide +kernel
theorem qsw_13 : Cond.stringRef qsq_13.1 qsq_13.2.1 qsq_13.2.2.1 ∈ lw_tbl := List.mem_of_getElem? (i := 1267) (by decide +kernel)
def qsb_14 : List Int32 := [110, 111, 32, 115, 117, 99, 104, 32, 98, 117, 99, 107, 101, 116]
def qsq_14 : String × Nat × String × Nat := ("TextSwitchCompiler", 295, "no such bucket", 15)
theorem qsr_14 : (qs_F.drop 523).take (4 + qsb_14.length) = qs_exp qsq_14 qsb_14 := by decide +kernel
theorem qsl_14 : qsq_14.2.2.1.length = qsb_14.length ∧ qsb_14.length < 2 ^ 31 := by decide +kernel
theorem qsw_14 : Cond.stringRef qsq_14.1 qsq_14.2.1 qsq_14.2.2.1 ∈ lw_tbl := List.mem_of_getElem? (i := 1275) (by decide +kernel)
def qsb_15 : List Int32 := [110, 111, 32, 115, 117, 99, 104, 32, 105, 110, 100, 101, 120]
def qsq_15 : String × Nat × String × Nat := ("TextSwitchCompiler", 310, "no such index", 16)
theorem qsr_15 : (qs_F.drop 541).take (4 + qsb_15.length) = qs_exp qsq_15 qsb_15 := by decide +kernel
theorem qsl_15 : qsq_15.2.2.1.length = qsb_15.length ∧ qsb_15.length < 2 ^ 31 := by decide +kernel
theorem qsw_15 : Cond.stringRef qsq_15.1 qsq_15.2.1 qsq_15.2.2.1 ∈ lw_tbl := List.mem_of_getElem? (i := 1333) (by decide +kernel)
def qsb_16 : List Int32 := [110, 111, 116, 104, 105, 110, 103, 32, 119, 97, 115, 32, 115, 97, 118, 101, 100]
def qsq_16 : String × Nat × String × Nat := ("TextSwitchCompiler", 318, "nothing was saved", 17)
theorem qsr_16 : (qs_F.drop 558).take (4 + qsb_16.length) = qs_exp qsq_16 qsb_16 := by decide +kernel
theorem qsl_16 : qsq_16.2.2.1.length = qsb_16.length ∧ qsb_16.length < 2 ^ 31 := by decide +kernel
theorem qsw_16 : Cond.stringRef qsq_16.1 qsq_16.2.1 qsq_16.2.2.1 ∈ lw_tbl := List.mem_of_getElem? (i := 1342) (by decide +kernel)
def qsb_17 : List Int32 := [110, 111, 32, 115, 117, 99, 104, 32, 107, 101, 121]
def qsq_17 : String × Nat × String × Nat := ("TextSwitchCompiler", 323, "no such key", 18)
theorem qsr_17 : (qs_F.drop 230).take (4 + qsb_17.length) = qs_exp qsq_17 qsb_17 := by decide +kernel
theorem qsl_17 : qsq_17.2.2.1.length = qsb_17.length ∧ qsb_17.length < 2 ^ 31 := by decide +kernel
theorem qsw_17 : Cond.stringRef qsq_17.1 qsq_17.2.1 qsq_17.2.2.1 ∈ lw_tbl := List.mem_of_getElem? (i := 955) (by decide +kernel)
def qsb_18 : List Int32 := [116, 104, 101, 32, 98, 114, 97, 110, 99, 104, 32, 105, 115, 32, 111, 117, 116, 32, 111, 102, 32, 114, 97, 110, 103, 101]
def qsq_18 : String × Nat × String × Nat := ("TextSwitchCompiler", 325, "the branch is out of range", 19)
theorem qsr_18 : (qs_F.drop 151).take (4 + qsb_18.length) = qs_exp qsq_18 qsb_18 := by decide +kernel
theorem qsl_18 : qsq_18.2.2.1.length = qsb_18.length ∧ qsb_18.length < 2 ^ 31 := by decide +kernel
theorem qsw_18 : Cond.stringRef qsq_18.1 qsq_18.2.1 qsq_18.2.2.1 ∈ lw_tbl := List.mem_of_getElem? (i := 891) (by decide +kernel)
def qsb_19 : List Int32 := [110, 111, 32, 115, 117, 99, 104, 32, 115, 116, 114, 97, 116, 101, 103, 121]
def qsq_19 : String × Nat × String × Nat := ("TextSwitchCompiler", 327, "no such strategy", 20)
theorem qsr_19 : (qs_F.drop 455).take (4 + qsb_19.length) = qs_exp qsq_19 qsb_19 := by decide +kernel
theorem qsl_19 : qsq_19.2.2.1.length = qsb_19.length ∧ qsb_19.length < 2 ^ 31 := by decide +kernel
theorem qsw_19 : Cond.stringRef qsq_19.1 qsq_19.2.1 qsq_19.2.2.1 ∈ lw_tbl := List.mem_of_getElem? (i := 1173) (by decide +kernel)
def qsb_20 : List Int32 := [116, 104, 101, 114, 101, 32, 105, 115, 32, 110, 111, 32, 116, 97, 98, 108, 101]
def qsq_20 : String × Nat × String × Nat := ("TextSwitchCompiler", 329, "there is no table", 21)
theorem qsr_20 : (qs_F.drop 475).take (4 + qsb_20.length) = qs_exp qsq_20 qsb_20 := by decide +kernel
theorem qsl_20 : qsq_20.2.2.1.length = qsb_20.length ∧ qsb_20.length < 2 ^ 31 := by decide +kernel
theorem qsw_20 : Cond.stringRef qsq_20.1 qsq_20.2.1 qsq_20.2.2.1 ∈ lw_tbl := List.mem_of_getElem? (i := 1174) (by decide +kernel)
def qsb_21 : List Int32 := [97, 100, 100]
def qsq_21 : String × Nat × String × Nat := ("TextSwitchCompilerModel", 138, "add", 22)
theorem qsr_21 : (qs_F.drop 579).take (4 + qsb_21.length) = qs_exp qsq_21 qsb_21 := by decide +kernel
theorem qsl_21 : qsq_21.2.2.1.length = qsb_21.length ∧ qsb_21.length < 2 ^ 31 := by decide +kernel
theorem qsw_21 : Cond.stringRef qsq_21.1 qsq_21.2.1 qsq_21.2.2.1 ∈ lw_tbl := List.mem_of_getElem? (i := 1543) (by decide +kernel)
def qsb_22 : List Int32 := [100, 101, 108]
def qsq_22 : String × Nat × String × Nat := ("TextSwitchCompilerModel", 144, "del", 23)
theorem qsr_22 : (qs_F.drop 587).take (4 + qsb_22.length) = qs_exp qsq_22 qsb_22 := by decide +kernel
theorem qsl_22 : qsq_22.2.2.1.length = qsb_22.length ∧ qsb_22.length < 2 ^ 31 := by decide +kernel
theorem qsw_22 : Cond.stringRef qsq_22.1 qsq_22.2.1 qsq_22.2.2.1 ∈ lw_tbl := List.mem_of_getElem? (i := 1550) (by decide +kernel)
def qsb_23 : List Int32 := [119, 101, 105, 103, 104, 116]
def qsq_23 : String × Nat × String × Nat := ("TextSwitchCompilerModel", 146, "weight", 24)
theorem qsr_23 : (qs_F.drop 595).take (4 + qsb_23.length) = qs_exp qsq_23 qsb_23 := by decide +kernel
theorem qsl_23 : qsq_23.2.2.1.length = qsb_23.length ∧ qsb_23.length < 2 ^ 31 := by decide +kernel
theorem qsw_23 : Cond.stringRef qsq_23.1 qsq_23.2.1 qsq_23.2.2.1 ∈ lw_tbl := List.mem_of_getElem? (i := 1551) (by decide +kernel)
def qsb_24 : List Int32 := [108, 111, 97, 100]
def qsq_24 : String × Nat × String × Nat := ("TextSwitchCompilerModel", 148, "load", 25)
theorem qsr_24 : (qs_F.drop 606).take (4 + qsb_24.length) = qs_exp qsq_24 qsb_24 := by decide +kernel
theorem qsl_24 : qsq_24.2.2.1.length = qsb_24.length ∧ qsb_24.length < 2 ^ 31 := by decide +kernel
theorem qsw_24 : Cond.stringRef qsq_24.1 qsq_24.2.1 qsq_24.2.2.1 ∈ lw_tbl := List.mem_of_getElem? (i := 1552) (by decide +kernel)
def qsb_25 : List Int32 := [97, 100, 100]
def qsq_25 : String × Nat × String × Nat := ("TextSwitchCompiler$Commands", 83, "add", 26)
theorem qsr_25 : (qs_F.drop 303).take (4 + qsb_25.length) = qs_exp qsq_25 qsb_25 := by decide +kernel
theorem qsl_25 : qsq_25.2.2.1.length = qsb_25.length ∧ qsb_25.length < 2 ^ 31 := by decide +kernel
theorem qsw_25 : Cond.stringRef qsq_25.1 qsq_25.2.1 qsq_25.2.2.1 ∈ lw_tbl := List.mem_of_getElem? (i := 1015) (by decide +kernel)
def qsb_26 : List Int32 := [100, 101, 108]
def qsq_26 : String × Nat × String × Nat := ("TextSwitchCompiler$Commands", 89, "del", 27)
theorem qsr_26 : (qs_F.drop 310).take (4 + qsb_26.length) = qs_exp qsq_26 qsb_26 := by decide +kernel
theorem qsl_26 : qsq_26.2.2.1.length = qsb_26.length ∧ qsb_26.length < 2 ^ 31 := by decide +kernel
theorem qsw_26 : Cond.stringRef qsq_26.1 qsq_26.2.1 qsq_26.2.2.1 ∈ lw_tbl := List.mem_of_getElem? (i := 1068) (by decide +kernel)
def qsb_27 : List Int32 := [119, 101, 105, 103, 104, 116]
def qsq_27 : String × Nat × String × Nat := ("TextSwitchCompiler$Commands", 91, "weight", 28)
theorem qsr_27 : (qs_F.drop 317).take (4 + qsb_27.length) = qs_exp qsq_27 qsb_27 := by decide +kernel
theorem qsl_27 : qsq_27.2.2.1.length = qsb_27.length ∧ qsb_27.length < 2 ^ 31 := by decide +kernel
theorem qsw_27 : Cond.stringRef qsq_27.1 qsq_27.2.1 qsq_27.2.2.1 ∈ lw_tbl := List.mem_of_getElem? (i := 1069) (by decide +kernel)
def qsb_28 : List Int32 := [108, 111, 97, 100]
def qsq_28 : String × Nat × String × Nat := ("TextSwitchCompiler$Commands", 93, "load", 29)
theorem qsr_28 : (qs_F.drop 327).take (4 + qsb_28.length) = qs_exp qsq_28 qsb_28 := by decide +kernel
theorem qsl_28 : qsq_28.2.2.1.length = qsb_28.length ∧ qsb_28.length < 2 ^ 31 := by decide +kernel
theorem qsw_28 : Cond.stringRef qsq_28.1 qsq_28.2.1 qsq_28.2.2.1 ∈ lw_tbl := List.mem_of_getElem? (i := 1070) (by decide +kernel)
theorem qs_strs : ∀ q ∈ qw_strs, ∃ (i n : Nat) (bs : List Int32), qw_strs[i]? = some q ∧ q.2.2.2 = i + 1 ∧ (qs_F.drop n).take (4 + bs.length) = qs_exp q bs ∧ (q.2.2.1.length = bs.length ∧ bs.length < 2 ^ 31) ∧ Cond.stringRef q.1 q.2.1 q.2.2.1 ∈ lw_tbl := List.forall_mem_cons.mpr ⟨⟨0, 70, qsb_0, rfl, rfl, qsr_0, qsl_0, qsw_0⟩, List.forall_mem_cons.mpr ⟨⟨1, 96, qsb_1, rfl, rfl, qsr_1, qsl_1, qsw_1⟩, List.forall_mem_cons.mpr ⟨⟨2, 123, qsb_2, rfl, rfl, qsr_2, qsl_2, qsw_2⟩, List.forall_mem_cons.mpr ⟨⟨3, 181, qsb_3, rfl, rfl, qsr_3, qsl_3, qsw_3⟩, List.forall_mem_cons.mpr ⟨⟨4, 245, qsb_4, rfl, rfl, qsr_4, qsl_4, qsw_4⟩, List.forall_mem_cons.mpr ⟨⟨5, 275, qsb_5, rfl, rfl, qsr_5, qsl_5, qsw_5⟩, List.forall_mem_cons.mpr ⟨⟨6, 335, qsb_6, rfl, rfl, qsr_6, qsl_6, qsw_6⟩, List.forall_mem_cons.mpr ⟨⟨7, 351, qsb_7, rfl, rfl, qsr_7, qsl_7, qsw_7⟩, List.forall_mem_cons.mpr ⟨⟨8, 373, qsb_8, rfl, rfl, qsr_8, qsl_8, qsw_8⟩, List.forall_mem_cons.mpr ⟨⟨9, 393, qsb_9, rfl, rfl, qsr_9, qsl_9, qsw_9⟩, List.forall_mem_cons.mpr ⟨⟨10, 413, qsb_10, rfl, rfl, qsr_10, qsl_10, qsw_10⟩, List.forall_mem_cons.mpr ⟨⟨11, 439, qsb_11, rfl, rfl, qsr_11, qsl_11, qsw_11⟩, List.forall_mem_cons.mpr ⟨⟨12, 496, qsb_12, rfl, rfl, qsr_12, qsl_12, qsw_12⟩, List.forall_mem_cons.mpr ⟨⟨13, 507, qsb_13, rfl, rfl, qsr_13, qsl_13, qsw_13⟩, List.forall_mem_cons.mpr ⟨⟨14, 523, qsb_14, rfl, rfl, qsr_14, qsl_14, qsw_14⟩, List.forall_mem_cons.mpr ⟨⟨15, 541, qsb_15, rfl, rfl, qsr_15, qsl_15, qsw_15⟩, List.forall_mem_cons.mpr ⟨⟨16, 558, qsb_16, rfl, rfl, qsr_16, qsl_16, qsw_16⟩, List.forall_mem_cons.mpr ⟨⟨17, 230, qsb_17, rfl, rfl, qsr_17, qsl_17, qsw_17⟩, List.forall_mem_cons.mpr ⟨⟨18, 151, qsb_18, rfl, rfl, qsr_18, qsl_18, qsw_18⟩, List.forall_mem_cons.mpr ⟨⟨19, 455, qsb_19, rfl, rfl, qsr_19, qsl_19, qsw_19⟩, List.forall_mem_cons.mpr ⟨⟨20, 475, qsb_20, rfl, rfl, qsr_20, qsl_20, qsw_20⟩, List.forall_mem_cons.mpr ⟨⟨21, 579, qsb_21, rfl, rfl, qsr_21, qsl_21, qsw_21⟩, List.forall_mem_cons.mpr ⟨⟨22, 587, qsb_22, rfl, rfl, qsr_22, qsl_22, qsw_22⟩, List.forall_mem_cons.mpr ⟨⟨23, 595, qsb_23, rfl, rfl, qsr_23, qsl_23, qsw_23⟩, List.forall_mem_cons.mpr ⟨⟨24, 606, qsb_24, rfl, rfl, qsr_24, qsl_24, qsw_24⟩, List.forall_mem_cons.mpr ⟨⟨25, 303, qsb_25, rfl, rfl, qsr_25, qsl_25, qsw_25⟩, List.forall_mem_cons.mpr ⟨⟨26, 310, qsb_26, rfl, rfl, qsr_26, qsl_26, qsw_26⟩, List.forall_mem_cons.mpr ⟨⟨27, 317, qsb_27, rfl, rfl, qsr_27, qsl_27, qsw_27⟩, List.forall_mem_cons.mpr ⟨⟨28, 327, qsb_28, rfl, rfl, qsr_28, qsl_28, qsw_28⟩, fun q hq => absurd hq List.not_mem_nil⟩⟩⟩⟩⟩⟩⟩⟩⟩⟩⟩⟩⟩⟩⟩⟩⟩⟩⟩⟩⟩⟩⟩⟩⟩⟩⟩⟩⟩
theorem qs_nest : ∀ q ∈ qw_nest, Cond.methodLinkNest q.1 q.2.1 q.2.2.1 q.2.2.2 ∈ lw_tbl := List.forall_mem_cons.mpr ⟨List.mem_of_getElem? (i := 160) (by decide +kernel), List.forall_mem_cons.mpr ⟨List.mem_of_getElem? (i := 203) (by decide +kernel), List.forall_mem_cons.mpr ⟨List.mem_of_getElem? (i := 208) (by decide +kernel), List.forall_mem_cons.mpr ⟨List.mem_of_getElem? (i := 1008) (by decide +kernel), List.forall_mem_cons.mpr ⟨List.mem_of_getElem? (i := 766) (by decide +kernel), List.forall_mem_cons.mpr ⟨List.mem_of_getElem? (i := 619) (by decide +kernel), fun q hq => absurd hq List.not_mem_nil⟩⟩⟩⟩⟩⟩
theorem qs_casts : ∀ q ∈ qw_casts, Cond.castable q.1 q.2 ∈ lw_tbl := List.forall_mem_cons.mpr ⟨List.mem_of_getElem? (i := 780) (by decide +kernel), List.forall_mem_cons.mpr ⟨List.mem_of_getElem? (i := 850) (by decide +kernel), List.forall_mem_cons.mpr ⟨List.mem_of_getElem? (i := 925) (by decide +kernel), List.forall_mem_cons.mpr ⟨List.mem_of_getElem? (i := 948) (by decide +kernel), List.forall_mem_cons.mpr ⟨List.mem_of_getElem? (i := 1219) (by decide +kernel), List.forall_mem_cons.mpr ⟨List.mem_of_getElem? (i := 1865) (by decide +kernel), fun q hq => absurd hq List.not_mem_nil⟩⟩⟩⟩⟩⟩
theorem qs_decls : ∀ y ∈ qw_decls, Cond.declares y ∈ lw_tbl := List.forall_mem_cons.mpr ⟨List.mem_of_getElem? (i := 781) (by decide +kernel), List.forall_mem_cons.mpr ⟨List.mem_of_getElem? (i := 782) (by decide +kernel), List.forall_mem_cons.mpr ⟨List.mem_of_getElem? (i := 783) (by decide +kernel), List.forall_mem_cons.mpr ⟨List.mem_of_getElem? (i := 784) (by decide +kernel), List.forall_mem_cons.mpr ⟨List.mem_of_getElem? (i := 785) (by decide +kernel), List.forall_mem_cons.mpr ⟨List.mem_of_getElem? (i := 786) (by decide +kernel), List.forall_mem_cons.mpr ⟨List.mem_of_getElem? (i := 926) (by decide +kernel), List.forall_mem_cons.mpr ⟨List.mem_of_getElem? (i := 927) (by decide +kernel), fun q hq => absurd hq List.not_mem_nil⟩⟩⟩⟩⟩⟩⟩⟩
theorem qs_ncs : ∀ q ∈ qw_ncs, Cond.not (Cond.castable q.1 q.2) ∈ qs_F := List.forall_mem_cons.mpr ⟨List.mem_of_getElem? (i := 37) (by decide +kernel), List.forall_mem_cons.mpr ⟨List.mem_of_getElem? (i := 52) (by decide +kernel), List.forall_mem_cons.mpr ⟨List.mem_of_getElem? (i := 66) (by decide +kernel), List.forall_mem_cons.mpr ⟨List.mem_of_getElem? (i := 22) (by decide +kernel), List.forall_mem_cons.mpr ⟨List.mem_of_getElem? (i := 53) (by decide +kernel), List.forall_mem_cons.mpr ⟨List.mem_of_getElem? (i := 67) (by decide +kernel), List.forall_mem_cons.mpr ⟨List.mem_of_getElem? (i := 24) (by decide +kernel), List.forall_mem_cons.mpr ⟨List.mem_of_getElem? (i := 39) (by decide +kernel), List.forall_mem_cons.mpr ⟨List.mem_of_getElem? (i := 69) (by decide +kernel), List.forall_mem_cons.mpr ⟨List.mem_of_getElem? (i := 25) (by decide +kernel), List.forall_mem_cons.mpr ⟨List.mem_of_getElem? (i := 40) (by decide +kernel), List.forall_mem_cons.mpr ⟨List.mem_of_getElem? (i := 54) (by decide +kernel), fun q hq => absurd hq List.not_mem_nil⟩⟩⟩⟩⟩⟩⟩⟩⟩⟩⟩⟩
theorem qs_w0 : Cond.laysStatic Bundle.tN "UNASSIGNED_STACK" Bundle.steD ∈ lw_tbl := List.mem_of_getElem? (i := 805) (by decide +kernel)
theorem qs_w1 : Cond.initialized Bundle.tN ∈ lw_tbl := List.mem_of_getElem? (i := 113) (by decide +kernel)
theorem qs_w2 : Cond.laysStatic Bundle.tN "SUPPRESSED_SENTINEL" Bundle.listD ∈ lw_tbl := List.mem_of_getElem? (i := 807) (by decide +kernel)
theorem qs_w3 : Cond.laysStatic "java/lang/String" "COMPACT_STRINGS" "Z" ∈ lw_tbl := List.mem_of_getElem? (i := 1029) (by decide +kernel)
theorem qs_w4 : Cond.initialized "java/lang/String" ∈ lw_tbl := List.mem_of_getElem? (i := 120) (by decide +kernel)
theorem qs_wl : Cond.initialized RL ∈ lw_tbl := List.mem_of_getElem? (i := 100) (by decide +kernel)
theorem qs_f0 : Cond.isRef (.static Bundle.tN "UNASSIGNED_STACK" Bundle.steD) ∈ qs_F := List.mem_of_getElem? (i := 4) (by decide +kernel)
theorem qs_f1 : Cond.isRef (.static Bundle.tN "SUPPRESSED_SENTINEL" Bundle.listD) ∈ qs_F := List.mem_of_getElem? (i := 5) (by decide +kernel)
theorem qs_f2 : Cond.eq (.static "java/lang/String" "COMPACT_STRINGS" "Z") (.int 1) ∈ qs_F := List.mem_of_getElem? (i := 6) (by decide +kernel)
def qs_r100 (xs : Nat → Int32) : Int32 := qe_sem 13 (xs 0) (Int32.ofNat 31)
def qs_r101 (xs : Nat → Int32) : Int32 := qe_sem 12 (Int32.ofNat 31) (xs 1)
def qs_r102 (xs : Nat → Int32) : Int32 := qe_sem 10 (qs_r101 xs) (Int32.ofNat 0)
def qs_r103 (xs : Nat → Int32) : Int32 := qe_sem 18 (qs_r102 xs) (Int32.ofNat 15)
def qs_r104 (xs : Nat → Int32) : Int32 := qe_sem 15 (qs_r102 xs) (qs_r103 xs)
def qs_r105 (xs : Nat → Int32) : Int32 := qe_sem 12 (qs_r104 xs) (Int32.ofNat 739982445)
def qs_r106 (xs : Nat → Int32) : Int32 := qe_sem 18 (qs_r105 xs) (Int32.ofNat 12)
def qs_r107 (xs : Nat → Int32) : Int32 := qe_sem 15 (qs_r105 xs) (qs_r106 xs)
def qs_r108 (xs : Nat → Int32) : Int32 := qe_sem 18 (xs 1) (Int32.ofNat 24)
def qs_r109 (xs : Nat → Int32) : Int32 := qe_sem 13 (qs_r108 xs) (Int32.ofNat 255)
def qs_r110 (xs : Nat → Int32) : Int32 := qe_sem 18 (xs 1) (Int32.ofNat 16)
def qs_r111 (xs : Nat → Int32) : Int32 := qe_sem 13 (qs_r110 xs) (Int32.ofNat 255)
def qs_r112 (xs : Nat → Int32) : Int32 := qe_sem 18 (xs 1) (Int32.ofNat 8)
def qs_r113 (xs : Nat → Int32) : Int32 := qe_sem 13 (qs_r112 xs) (Int32.ofNat 255)
def qs_r114 (xs : Nat → Int32) : Int32 := qe_sem 18 (xs 1) (Int32.ofNat 0)
def qs_r115 (xs : Nat → Int32) : Int32 := qe_sem 13 (qs_r114 xs) (Int32.ofNat 255)
def qs_rho (xs : Nat → Int32) (i : Nat) : Int32 := cond (Nat.beq i 100) (qs_r100 xs) (cond (Nat.beq i 101) (qs_r101 xs) (cond (Nat.beq i 102) (qs_r102 xs) (cond (Nat.beq i 103) (qs_r103 xs) (cond (Nat.beq i 104) (qs_r104 xs) (cond (Nat.beq i 105) (qs_r105 xs) (cond (Nat.beq i 106) (qs_r106 xs) (cond (Nat.beq i 107) (qs_r107 xs) (cond (Nat.beq i 108) (qs_r108 xs) (cond (Nat.beq i 109) (qs_r109 xs) (cond (Nat.beq i 110) (qs_r110 xs) (cond (Nat.beq i 111) (qs_r111 xs) (cond (Nat.beq i 112) (qs_r112 xs) (cond (Nat.beq i 113) (qs_r113 xs) (cond (Nat.beq i 114) (qs_r114 xs) (cond (Nat.beq i 115) (qs_r115 xs) (xs i))))))))))))))))
theorem qs_rho_lt (xs : Nat → Int32) {j : Nat} (h : j < 3) : qs_rho xs j = xs j := by
  rcases (show j = 0 ∨ j = 1 ∨ j = 2 by omega) with rfl | rfl | rfl <;> rfl
theorem qs_d100 (xs : Nat → Int32) : qs_rho xs 100 = qe_sem 13 (qe_int (qs_rho xs) 4) (qe_int (qs_rho xs) 248) := by
  rw [show qe_int (qs_rho xs) 4 = (xs 0) from rfl, show qe_int (qs_rho xs) 248 = (Int32.ofNat 31) from rfl]
  rfl
theorem qs_d101 (xs : Nat → Int32) : qs_rho xs 101 = qe_sem 12 (qe_int (qs_rho xs) 248) (qe_int (qs_rho xs) 12) := by
  rw [show qe_int (qs_rho xs) 248 = (Int32.ofNat 31) from rfl, show qe_int (qs_rho xs) 12 = (xs 1) from rfl]
  rfl
theorem qs_d102 (xs : Nat → Int32) : qs_rho xs 102 = qe_sem 10 (qe_int (qs_rho xs) 812) (qe_int (qs_rho xs) 0) := by
  rw [show qe_int (qs_rho xs) 812 = (qs_r101 xs) from rfl, show qe_int (qs_rho xs) 0 = (Int32.ofNat 0) from rfl]
  rfl
theorem qs_d103 (xs : Nat → Int32) : qs_rho xs 103 = qe_sem 18 (qe_int (qs_rho xs) 820) (qe_int (qs_rho xs) 120) := by
  rw [show qe_int (qs_rho xs) 820 = (qs_r102 xs) from rfl, show qe_int (qs_rho xs) 120 = (Int32.ofNat 15) from rfl]
  rfl
theorem qs_d104 (xs : Nat → Int32) : qs_rho xs 104 = qe_sem 15 (qe_int (qs_rho xs) 820) (qe_int (qs_rho xs) 828) := by
  rw [show qe_int (qs_rho xs) 820 = (qs_r102 xs) from rfl, show qe_int (qs_rho xs) 828 = (qs_r103 xs) from rfl]
  rfl
theorem qs_d105 (xs : Nat → Int32) : qs_rho xs 105 = qe_sem 12 (qe_int (qs_rho xs) 836) (qe_int (qs_rho xs) 5919859560) := by
  rw [show qe_int (qs_rho xs) 836 = (qs_r104 xs) from rfl, show qe_int (qs_rho xs) 5919859560 = (Int32.ofNat 739982445) from rfl]
  rfl
theorem qs_d106 (xs : Nat → Int32) : qs_rho xs 106 = qe_sem 18 (qe_int (qs_rho xs) 844) (qe_int (qs_rho xs) 96) := by
  rw [show qe_int (qs_rho xs) 844 = (qs_r105 xs) from rfl, show qe_int (qs_rho xs) 96 = (Int32.ofNat 12) from rfl]
  rfl
theorem qs_d107 (xs : Nat → Int32) : qs_rho xs 107 = qe_sem 15 (qe_int (qs_rho xs) 844) (qe_int (qs_rho xs) 852) := by
  rw [show qe_int (qs_rho xs) 844 = (qs_r105 xs) from rfl, show qe_int (qs_rho xs) 852 = (qs_r106 xs) from rfl]
  rfl
theorem qs_d108 (xs : Nat → Int32) : qs_rho xs 108 = qe_sem 18 (qe_int (qs_rho xs) 12) (qe_int (qs_rho xs) 192) := by
  rw [show qe_int (qs_rho xs) 12 = (xs 1) from rfl, show qe_int (qs_rho xs) 192 = (Int32.ofNat 24) from rfl]
  rfl
theorem qs_d109 (xs : Nat → Int32) : qs_rho xs 109 = qe_sem 13 (qe_int (qs_rho xs) 868) (qe_int (qs_rho xs) 2040) := by
  rw [show qe_int (qs_rho xs) 868 = (qs_r108 xs) from rfl, show qe_int (qs_rho xs) 2040 = (Int32.ofNat 255) from rfl]
  rfl
theorem qs_d110 (xs : Nat → Int32) : qs_rho xs 110 = qe_sem 18 (qe_int (qs_rho xs) 12) (qe_int (qs_rho xs) 128) := by
  rw [show qe_int (qs_rho xs) 12 = (xs 1) from rfl, show qe_int (qs_rho xs) 128 = (Int32.ofNat 16) from rfl]
  rfl
theorem qs_d111 (xs : Nat → Int32) : qs_rho xs 111 = qe_sem 13 (qe_int (qs_rho xs) 884) (qe_int (qs_rho xs) 2040) := by
  rw [show qe_int (qs_rho xs) 884 = (qs_r110 xs) from rfl, show qe_int (qs_rho xs) 2040 = (Int32.ofNat 255) from rfl]
  rfl
theorem qs_d112 (xs : Nat → Int32) : qs_rho xs 112 = qe_sem 18 (qe_int (qs_rho xs) 12) (qe_int (qs_rho xs) 64) := by
  rw [show qe_int (qs_rho xs) 12 = (xs 1) from rfl, show qe_int (qs_rho xs) 64 = (Int32.ofNat 8) from rfl]
  rfl
theorem qs_d113 (xs : Nat → Int32) : qs_rho xs 113 = qe_sem 13 (qe_int (qs_rho xs) 900) (qe_int (qs_rho xs) 2040) := by
  rw [show qe_int (qs_rho xs) 900 = (qs_r112 xs) from rfl, show qe_int (qs_rho xs) 2040 = (Int32.ofNat 255) from rfl]
  rfl
theorem qs_d114 (xs : Nat → Int32) : qs_rho xs 114 = qe_sem 18 (qe_int (qs_rho xs) 12) (qe_int (qs_rho xs) 0) := by
  rw [show qe_int (qs_rho xs) 12 = (xs 1) from rfl, show qe_int (qs_rho xs) 0 = (Int32.ofNat 0) from rfl]
  rfl
theorem qs_d115 (xs : Nat → Int32) : qs_rho xs 115 = qe_sem 13 (qe_int (qs_rho xs) 916) (qe_int (qs_rho xs) 2040) := by
  rw [show qe_int (qs_rho xs) 916 = (qs_r114 xs) from rfl, show qe_int (qs_rho xs) 2040 = (Int32.ofNat 255) from rfl]
  rfl
theorem qs_dok (xs : Nat → Int32) : qe_dok (qs_rho xs) qt_df := List.forall_mem_cons.mpr ⟨qs_d100 xs, List.forall_mem_cons.mpr ⟨qs_d101 xs, List.forall_mem_cons.mpr ⟨qs_d102 xs, List.forall_mem_cons.mpr ⟨qs_d103 xs, List.forall_mem_cons.mpr ⟨qs_d104 xs, List.forall_mem_cons.mpr ⟨qs_d105 xs, List.forall_mem_cons.mpr ⟨qs_d106 xs, List.forall_mem_cons.mpr ⟨qs_d107 xs, List.forall_mem_cons.mpr ⟨qs_d108 xs, List.forall_mem_cons.mpr ⟨qs_d109 xs, List.forall_mem_cons.mpr ⟨qs_d110 xs, List.forall_mem_cons.mpr ⟨qs_d111 xs, List.forall_mem_cons.mpr ⟨qs_d112 xs, List.forall_mem_cons.mpr ⟨qs_d113 xs, List.forall_mem_cons.mpr ⟨qs_d114 xs, List.forall_mem_cons.mpr ⟨qs_d115 xs, fun q hq => absurd hq List.not_mem_nil⟩⟩⟩⟩⟩⟩⟩⟩⟩⟩⟩⟩⟩⟩⟩⟩
theorem qs_X {s : State} {b L : Nat} {xs : Nat → Int32} (hL : L ≤ 3) (hts : ∀ w ∈ lw_tbl, w.before #[Value.ref b] s = true) (hX : va_X b L xs s s.heap) (hbl : b < s.heap.size) (hgv : (Jvm.Cond.and given_1 narrow_1).before #[Value.ref b] s = true) : qw_X qw_Os (qs_ext b s) L (qs_rho xs) (fun q => s.heap.size ≤ q) s s.heap := by
  have hA : ∀ a : Nat, a < s.heap.size → ¬ (fun q : Nat => s.heap.size ≤ q) a := fun a h => Nat.not_le.mpr h
  have hF := qs_Fb hgv
  refine ⟨⟨vx_Zqof (hts _ qs_w0) (hts _ qs_w1) (hF _ qs_f0) hA, vx_Zqof (hts _ qs_w2) (hts _ qs_w1) (hF _ qs_f1) hA⟩, ⟨fun q hq => va_Nw.of rfl (hts _ (qs_nest q hq)), fun q hq => va_Nw.of rfl (hts _ (qs_casts q hq)), fun y hy => va_Nw.of rfl (hts _ (qs_decls y hy)), fun q hq => va_Nc.of (hF _ (qs_ncs q hq))⟩, ⟨?_, hbl, hA b hbl⟩, va_Zof (hts _ qs_w3) (hts _ qs_w4) (va_eqi (hF _ qs_f2)) hA, fun q hq => ?_⟩
  · obtain ⟨scr, h1, h2, h3, h4, h5⟩ := hX
    exact ⟨scr, h1, h2, h3, h4, fun j hj => by rw [qs_rho_lt xs (by omega)]; exact h5 j hj⟩
  · obtain ⟨i, n, bs, h1, h2, h3, ⟨h4, h5⟩, h6⟩ := qs_strs q hq
    obtain ⟨a, e, h7⟩ := qs_str hF h3 h4 h5 (hts _ h6) hA
    rw [h2, qs_ext_at h1 e]
    exact h7
theorem qs_arr {s : State} {args : Array Value} {ty : FieldType} (hno : ∀ C, ty ≠ .object C) (h : (Cond.arrayClass ty).before args s = true) : ∃ cA : ClassId, ArrOfT s cA ty ∧ s.vm.findClass ("[" ++ ty.toString) = some cA := by
  obtain ⟨c, k, comp, h1, h2, h3⟩ := Cond.arrayClass_spec (show (Cond.arrayClass ty).holds args s none s [] = true from h)
  exact ⟨c, fun n z => ⟨fun k h => (by cases h), k, h2, comp, h3⟩, h1⟩
theorem qs_cls {s : State} (cl : List vw_C) (h : ∀ q ∈ cl, ∃ (cC : ClassId) (iS : Nat → Nat), u_Kn s q.1 q.2.1 q.2.2 cC iS) : ∃ (dC : Nat → ClassId) (dI : Nat → Nat → Nat), ∀ (k : Nat) (q : vw_C), cl[k]? = some q → u_Kn s q.1 q.2.1 q.2.2 (dC k) (dI k) := by
  have h' : ∀ k : Nat, ∃ p : ClassId × (Nat → Nat), ∀ q : vw_C, cl[k]? = some q → u_Kn s q.1 q.2.1 q.2.2 p.1 p.2 := fun k => by
    cases hk : cl[k]? with
    | none => exact ⟨(0, fun _ => 0), fun q hq => (by cases hq)⟩
    | some q =>
      obtain ⟨cC, iS, hq⟩ := h q (List.mem_of_getElem? hk)
      exact ⟨(cC, iS), fun q2 e => (by cases e; exact hq)⟩
  exact ⟨fun k => (Classical.choose (h' k)).1, fun k => (Classical.choose (h' k)).2, fun k q hq => Classical.choose_spec (h' k) q hq⟩
theorem qs_u0 : ∀ w ∈ u_ws RJ0 TJ0 2, w ∈ qw_G := qw_all [930, 932] (by decide +kernel) (by decide +kernel)
theorem qs_i0 : Cond.instantiable RJ0 4 ∈ lw_tbl := List.mem_of_getElem? (i := 929) (by decide +kernel)
theorem qs_u1 : ∀ w ∈ u_ws RJx00060 TJx00060 6, w ∈ qw_G := qw_all [918, 919, 920, 921, 922, 923] (by decide +kernel) (by decide +kernel)
theorem qs_i1 : Cond.instantiable RJx00060 6 ∈ lw_tbl := List.mem_of_getElem? (i := 911) (by decide +kernel)
theorem qs_u2 : ∀ w ∈ u_ws RX0 TX0 9, w ∈ qw_G := qu_2
theorem qs_i2 : Cond.instantiable RX0 9 ∈ lw_tbl := List.mem_of_getElem? (i := 202) (by decide +kernel)
theorem qs_u3 : ∀ w ∈ u_ws RX1 TX1 13, w ∈ qw_G := qu_3
theorem qs_i3 : Cond.instantiable RX1 13 ∈ lw_tbl := List.mem_of_getElem? (i := 255) (by decide +kernel)
theorem qs_u4 : ∀ w ∈ u_ws RX2 TX2 7, w ∈ qw_G := qu_4
theorem qs_i4 : Cond.instantiable RX2 7 ∈ lw_tbl := List.mem_of_getElem? (i := 159) (by decide +kernel)
theorem qs_u5 : ∀ w ∈ u_ws RX3 TX3 5, w ∈ qw_G := qu_5
theorem qs_i5 : Cond.instantiable RX3 5 ∈ lw_tbl := List.mem_of_getElem? (i := 439) (by decide +kernel)
theorem qs_u6 : ∀ w ∈ u_ws RX4 TX4 2, w ∈ qw_G := qu_6
theorem qs_i6 : Cond.instantiable RX4 2 ∈ lw_tbl := List.mem_of_getElem? (i := 240) (by decide +kernel)
theorem qs_u7 : ∀ w ∈ u_ws RX5 TX5 9, w ∈ qw_G := qu_7
theorem qs_i7 : Cond.instantiable RX5 9 ∈ lw_tbl := List.mem_of_getElem? (i := 399) (by decide +kernel)
theorem qs_u8 : ∀ w ∈ u_ws RX6 TX6 4, w ∈ qw_G := qu_8
theorem qs_i8 : Cond.instantiable RX6 4 ∈ lw_tbl := List.mem_of_getElem? (i := 311) (by decide +kernel)
theorem qs_u9 : ∀ w ∈ u_ws RX7 TX7 14, w ∈ qw_G := qu_9
theorem qs_i9 : Cond.instantiable RX7 14 ∈ lw_tbl := List.mem_of_getElem? (i := 333) (by decide +kernel)
theorem qs_u10 : ∀ w ∈ u_ws RX8 TX8 2, w ∈ qw_G := qu_10
theorem qs_i10 : Cond.instantiable RX8 2 ∈ lw_tbl := List.mem_of_getElem? (i := 138) (by decide +kernel)
theorem qs_u11 : ∀ w ∈ u_ws RX9 TX9 13, w ∈ qw_G := qu_11
theorem qs_i11 : Cond.instantiable RX9 13 ∈ lw_tbl := List.mem_of_getElem? (i := 130) (by decide +kernel)
theorem qs_u12 : ∀ w ∈ u_ws RX10 TX10 36, w ∈ qw_G := qu_12
theorem qs_i12 : Cond.instantiable RX10 36 ∈ lw_tbl := List.mem_of_getElem? (i := 1344) (by decide +kernel)
theorem qs_a_int : Cond.arrayClass .int ∈ lw_tbl := List.mem_of_getElem? (i := 157) (by decide +kernel)
theorem qs_a_bool : Cond.arrayClass .boolean ∈ lw_tbl := List.mem_of_getElem? (i := 1642) (by decide +kernel)
theorem qs_a_long : Cond.arrayClass .long ∈ lw_tbl := List.mem_of_getElem? (i := 1863) (by decide +kernel)
theorem qs_K {s : State} {b : Nat} (hts : ∀ w ∈ lw_tbl, w.before #[Value.ref b] s = true) (ext : Nat → Nat) (rho : Nat → Int32) : ∃ E : qe_E, E.2.2.1 = ext ∧ E.2.2.2 = rho ∧ va_K E.1 vwCl (qe_tys E) s := by
  have hG : ∀ w ∈ qw_G, w.before #[Value.ref b] s = true := fun w hw => hts w (List.mem_filter.mp hw).1
  obtain ⟨dC, dI, hK⟩ := qs_cls vwCl (List.forall_mem_cons.mpr ⟨u_known (T := TJ0) hG qs_u0 (hts _ qs_i0), List.forall_mem_cons.mpr ⟨u_known (T := TJx00060) hG qs_u1 (hts _ qs_i1), List.forall_mem_cons.mpr ⟨u_known (T := TX0) hG qs_u2 (hts _ qs_i2), List.forall_mem_cons.mpr ⟨u_known (T := TX1) hG qs_u3 (hts _ qs_i3), List.forall_mem_cons.mpr ⟨u_known (T := TX2) hG qs_u4 (hts _ qs_i4), List.forall_mem_cons.mpr ⟨u_known (T := TX3) hG qs_u5 (hts _ qs_i5), List.forall_mem_cons.mpr ⟨u_known (T := TX4) hG qs_u6 (hts _ qs_i6), List.forall_mem_cons.mpr ⟨u_known (T := TX5) hG qs_u7 (hts _ qs_i7), List.forall_mem_cons.mpr ⟨u_known (T := TX6) hG qs_u8 (hts _ qs_i8), List.forall_mem_cons.mpr ⟨u_known (T := TX7) hG qs_u9 (hts _ qs_i9), List.forall_mem_cons.mpr ⟨u_known (T := TX8) hG qs_u10 (hts _ qs_i10), List.forall_mem_cons.mpr ⟨u_known (T := TX9) hG qs_u11 (hts _ qs_i11), List.forall_mem_cons.mpr ⟨u_known (T := TX10) hG qs_u12 (hts _ qs_i12), fun q hq => absurd hq List.not_mem_nil⟩⟩⟩⟩⟩⟩⟩⟩⟩⟩⟩⟩⟩)
  obtain ⟨c1, h1, g1⟩ := qs_arr (fun C h => (by cases h)) (hts _ qs_a_int)
  obtain ⟨c2, h2, g2⟩ := qs_arr (fun C h => (by cases h)) (hts _ qs_a_bool)
  obtain ⟨c3, h3, g3⟩ := qs_arr (fun C h => (by cases h)) (hts _ qs_a_long)
  refine ⟨((dC, dI), (c1, c2, c3), ext, rho), rfl, rfl, hK, fun k q hq => ?_⟩
  match k, hq with
  | 0, hq => cases hq; exact ⟨h1, g1⟩
  | 1, hq => cases hq; exact ⟨h2, g2⟩
  | 2, hq => cases hq; exact ⟨h3, g3⟩
  | k + 3, hq => simp [qe_tys] at hq
end QZS
