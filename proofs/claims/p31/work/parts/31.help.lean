/-! BLOCKS: helpers -/
section QEH
variable {dp : Nat}
theorem sn_pushI {Z : qe_Z} {j pc nx a : Nat} {nt : qe_N dp} (n : Nat) (ha : a = 8 * n) (hc : qc_st (zM Z j) pc nx [] [.int (Int32.ofNat n)]) (hn : qx_sn Z j nx nt) : qx_sn Z j pc (ql_push a nt) := by
  subst ha
  have h0 : qe_is 0 (8 * n) = true := by
    show Nat.beq (8 * n % 4) 0 = true
    rw [show 8 * n % 4 = 0 by omega]; rfl
  have hs : qe_sym (8 * n) = false := by
    show Nat.beq (8 * n / 4 % 2) 1 = false
    rw [show 8 * n / 4 % 2 = 0 by omega]; rfl
  refine sn_push (fun ad => ?_) ?_ hn
  · have e : qe_v (zE Z) ad (8 * n) = .int (Int32.ofNat n) := by
      rw [show qe_v (zE Z) ad (8 * n) = .int (qe_int (zE Z).2.2.2 (8 * n)) from qe_val_int h0]
      unfold qe_int
      rw [hs]
      show Value.int (Int32.ofNat (8 * n / 8)) = _
      rw [show 8 * n / 8 = n by omega]
    rw [e]; exact @hc
  · show Nat.beq (8 * n % 4) 2 = false
    rw [show 8 * n % 4 = 0 by omega]; rfl
theorem sn_pushL {Z : qe_Z} {j pc nx a : Nat} {nt : qe_N dp} (n : Nat) (ha : a = 8 * n + 1) (hc : qc_st (zM Z j) pc nx [] [.long (Int64.ofNat n)]) (hn : qx_sn Z j nx nt) : qx_sn Z j pc (ql_push a nt) := by
  subst ha
  have h0 : qe_is 1 (8 * n + 1) = true := by
    show Nat.beq ((8 * n + 1) % 4) 1 = true
    rw [show (8 * n + 1) % 4 = 1 by omega]; rfl
  have hs : qe_sym (8 * n + 1) = false := by
    show Nat.beq ((8 * n + 1) / 4 % 2) 1 = false
    rw [show (8 * n + 1) / 4 % 2 = 0 by omega]; rfl
  refine sn_push (fun ad => ?_) ?_ hn
  · have e : qe_v (zE Z) ad (8 * n + 1) = .long (Int64.ofNat n) := by
      rw [show qe_v (zE Z) ad (8 * n + 1) = .long (qe_lng (zE Z).2.2.2 (8 * n + 1)) from qe_val_lng h0]
      unfold qe_lng
      rw [hs]
      show Value.long (Int64.ofNat ((8 * n + 1) / 8)) = _
      rw [show (8 * n + 1) / 8 = n by omega]
    rw [e]; exact @hc
  · show Nat.beq ((8 * n + 1) % 4) 2 = false
    rw [show (8 * n + 1) % 4 = 1 by omega]; rfl
theorem sn_str {Z : qe_Z} {j pc nx a : Nat} {nt : qe_N dp} (i : Nat) (ha : a = 8 * i + 6) (hc : qc_pstr Z j pc nx i) (hn : qx_sn Z j nx nt) : qx_sn Z j pc (ql_push a nt) := by
  subst ha; exact sn_pstr hc hn
theorem sn_node {Z : qe_Z} {j pc b m : Nat} {A B : qe_N dp × Unit} (hA : qx_sn Z j pc A.1) (hB : qx_sn Z j pc B.1) : qx_sn Z j pc (cond (Nat.blt b m) A B).1 := by
  cases Nat.blt b m
  · exact hB
  · exact hA
theorem sn_leaf {Z : qe_Z} {j b i : Nat} {f : Nat → Nat} {x : qe_N dp} (h : qx_sn Z j (f i) x) : qx_sn Z j (f b) (cond (Nat.beq b i) (x, ()) (ql_no, ())).1 := by
  cases hb : Nat.beq b i
  · exact sn_no
  · rw [Nat.eq_of_beq_eq_true hb]; exact h
theorem sn_leafJ {Z : qe_Z} {j k b : Nat} {x : qe_N dp × Unit} (h : qx_sn Z k (zp Z k b) x.1) : qx_sn Z j (zp Z j b) (cond (Nat.beq j k) x (ql_no, ())).1 := by
  cases hb : Nat.beq j k
  · exact sn_no
  · rw [Nat.eq_of_beq_eq_true hb]; exact h
theorem qw_any {L : List Cond} (h : L.all (fun w => !goodWord w || tables_1.any (fun x => decide (x = w))) = true) : ∀ w ∈ L.filter goodWord, w ∈ qw_G := by
  intro w hw
  obtain ⟨h1, h2⟩ := List.mem_filter.mp hw
  have h3 := List.all_eq_true.mp h w h1
  rw [h2] at h3
  simp only [Bool.not_true, Bool.false_or] at h3
  obtain ⟨x, h4, h5⟩ := List.any_eq_true.mp h3
  have h6 : x = w := of_decide_eq_true h5
  subst h6
  exact List.mem_filter.mpr ⟨List.mem_append_right _ h4, h2⟩
def qw_B : List Cond := qw_casts.map (fun q => Cond.castable q.1 q.2) ++ qw_decls.map (fun y => Cond.declares y)
theorem qw_B_ok : ∀ w ∈ qw_B, (∃ q ∈ qw_Os.2.1, w = .castable q.1 q.2) ∨ (∃ y ∈ qw_Os.2.2.1, w = .declares y) := by
  intro w h
  rcases List.mem_append.mp h with h | h
  · obtain ⟨q, h1, h2⟩ := List.mem_map.mp h
    exact Or.inl ⟨q, h1, h2.symm⟩
  · obtain ⟨y, h1, h2⟩ := List.mem_map.mp h
    exact Or.inr ⟨y, h1, h2.symm⟩
def qw_up : List String := ["java/lang/RuntimeException", "java/lang/Exception"]
theorem qw_up_fit : ∀ n ∈ qw_up, Bundle.fit n = true := by decide +kernel
theorem qz_0 : Cond.classLink RL 13 "java/lang/IllegalArgumentException" ∈ qw_G := qw_in 772 (by decide +kernel) (by decide +kernel)
theorem qz_1 : Cond.classLink RL 15 "java/lang/IllegalStateException" ∈ qw_G := qw_in 773 (by decide +kernel) (by decide +kernel)
theorem qd_sl_big (i : Nat) (h : 30 ≤ i) : qd_sl i = 0 := by
  unfold qd_sl
  have e : ∀ n, n ≤ 30 → Nat.blt i n = false := fun n hn => by
    cases hb : Nat.blt i n
    · rfl
    · exact absurd (Nat.le_of_ble_eq_true hb) (by omega)
  simp only [e 1 (by omega), e 2 (by omega), e 3 (by omega), e 4 (by omega), e 5 (by omega), e 6 (by omega), e 7 (by omega), e 8 (by omega), e 9 (by omega), e 10 (by omega), e 11 (by omega), e 12 (by omega), e 13 (by omega), e 14 (by omega), e 15 (by omega), e 16 (by omega), e 17 (by omega), e 18 (by omega), e 19 (by omega), e 20 (by omega), e 21 (by omega), e 22 (by omega), e 23 (by omega), e 24 (by omega), e 25 (by omega), e 26 (by omega), e 27 (by omega), e 28 (by omega), e 29 (by omega), e 30 (by omega), cond_false]
theorem qsl_ok : ∀ i, 0 < qd_sl i → ∃ q ∈ qw_Os.2.2.2.2, q.2.2.2 = i ∧ q.2.2.1.length = qd_sl i := by
  intro i hi
  by_cases h : i < 30
  · have all : ∀ i, i < 30 → 0 < qd_sl i → ((qw_strs[i - 1]?).map fun q => decide (q.2.2.2 = i) && decide (q.2.2.1.length = qd_sl i)) = some true := by decide +kernel
    have := all i h hi
    cases hq : qw_strs[i - 1]? with
    | none => rw [hq] at this; cases this
    | some q =>
      rw [hq] at this
      have h2 := Option.some.inj this
      rw [Bool.and_eq_true] at h2
      exact ⟨q, List.mem_of_getElem? hq, of_decide_eq_true h2.1, of_decide_eq_true h2.2⟩
  · exfalso
    have : qd_sl i = 0 := qd_sl_big i (Nat.le_of_not_lt h)
    omega
theorem qss_1 : ("TextSwitchCompiler", 96, "a byte is no character", 1) ∈ qw_Os.2.2.2.2 := List.mem_of_getElem? (i := 0) (by decide +kernel)
theorem qss_2 : ("TextSwitchCompiler", 106, "the buffer is too short", 2) ∈ qw_Os.2.2.2.2 := List.mem_of_getElem? (i := 1) (by decide +kernel)
theorem qss_3 : ("TextSwitchCompiler", 119, "the text cannot be a key", 3) ∈ qw_Os.2.2.2.2 := List.mem_of_getElem? (i := 2) (by decide +kernel)
theorem qss_4 : ("TextSwitchCompiler", 128, "the key exists already, or there are too many", 4) ∈ qw_Os.2.2.2.2 := List.mem_of_getElem? (i := 3) (by decide +kernel)
theorem qss_5 : ("TextSwitchCompiler", 151, "the weight is out of range", 5) ∈ qw_Os.2.2.2.2 := List.mem_of_getElem? (i := 4) (by decide +kernel)
theorem qss_6 : ("TextSwitchCompiler", 156, "the load is out of range", 6) ∈ qw_Os.2.2.2.2 := List.mem_of_getElem? (i := 5) (by decide +kernel)
theorem qss_7 : ("TextSwitchCompiler", 175, "a form error", 7) ∈ qw_Os.2.2.2.2 := List.mem_of_getElem? (i := 6) (by decide +kernel)
theorem qss_8 : ("TextSwitchCompiler", 177, "an execution error", 8) ∈ qw_Os.2.2.2.2 := List.mem_of_getElem? (i := 7) (by decide +kernel)
theorem qss_9 : ("TextSwitchCompiler", 190, "no such property", 9) ∈ qw_Os.2.2.2.2 := List.mem_of_getElem? (i := 8) (by decide +kernel)
theorem qss_10 : ("TextSwitchCompiler", 194, "no such position", 10) ∈ qw_Os.2.2.2.2 := List.mem_of_getElem? (i := 9) (by decide +kernel)
theorem qss_11 : ("TextSwitchCompiler", 201, "both keys are the same", 11) ∈ qw_Os.2.2.2.2 := List.mem_of_getElem? (i := 10) (by decide +kernel)
theorem qss_12 : ("TextSwitchCompiler", 206, "no such size", 12) ∈ qw_Os.2.2.2.2 := List.mem_of_getElem? (i := 11) (by decide +kernel)
theorem qss_13 : ("TextSwitchCompiler", 239, "no keys", 13) ∈ qw_Os.2.2.2.2 := List.mem_of_getElem? (i := 12) (by decide +kernel)
theorem qss_14 : ("TextSwitchCompiler", 290, "no such slot", 14) ∈ qw_Os.2.2.2.2 := List.mem_of_getElem? (i := 13) (by decide +kernel)
theorem qss_15 : ("TextSwitchCompiler", 295, "no such bucket", 15) ∈ qw_Os.2.2.2.2 := List.mem_of_getElem? (i := 14) (by decide +kernel)
theorem qss_16 : ("TextSwitchCompiler", 310, "no such index", 16) ∈ qw_Os.2.2.2.2 := List.mem_of_getElem? (i := 15) (by decide +kernel)
theorem qss_17 : ("TextSwitchCompiler", 318, "nothing was saved", 17) ∈ qw_Os.2.2.2.2 := List.mem_of_getElem? (i := 16) (by decide +kernel)
theorem qss_18 : ("TextSwitchCompiler", 323, "no such key", 18) ∈ qw_Os.2.2.2.2 := List.mem_of_getElem? (i := 17) (by decide +kernel)
theorem qss_19 : ("TextSwitchCompiler", 325, "the branch is out of range", 19) ∈ qw_Os.2.2.2.2 := List.mem_of_getElem? (i := 18) (by decide +kernel)
theorem qss_20 : ("TextSwitchCompiler", 327, "no such strategy", 20) ∈ qw_Os.2.2.2.2 := List.mem_of_getElem? (i := 19) (by decide +kernel)
theorem qss_21 : ("TextSwitchCompiler", 329, "there is no table", 21) ∈ qw_Os.2.2.2.2 := List.mem_of_getElem? (i := 20) (by decide +kernel)
theorem qss_22 : ("TextSwitchCompilerModel", 138, "add", 22) ∈ qw_Os.2.2.2.2 := List.mem_of_getElem? (i := 21) (by decide +kernel)
theorem qss_23 : ("TextSwitchCompilerModel", 144, "del", 23) ∈ qw_Os.2.2.2.2 := List.mem_of_getElem? (i := 22) (by decide +kernel)
theorem qss_24 : ("TextSwitchCompilerModel", 146, "weight", 24) ∈ qw_Os.2.2.2.2 := List.mem_of_getElem? (i := 23) (by decide +kernel)
theorem qss_25 : ("TextSwitchCompilerModel", 148, "load", 25) ∈ qw_Os.2.2.2.2 := List.mem_of_getElem? (i := 24) (by decide +kernel)
theorem qss_26 : ("TextSwitchCompiler$Commands", 83, "add", 26) ∈ qw_Os.2.2.2.2 := List.mem_of_getElem? (i := 25) (by decide +kernel)
theorem qss_27 : ("TextSwitchCompiler$Commands", 89, "del", 27) ∈ qw_Os.2.2.2.2 := List.mem_of_getElem? (i := 26) (by decide +kernel)
theorem qss_28 : ("TextSwitchCompiler$Commands", 91, "weight", 28) ∈ qw_Os.2.2.2.2 := List.mem_of_getElem? (i := 27) (by decide +kernel)
theorem qss_29 : ("TextSwitchCompiler$Commands", 93, "load", 29) ∈ qw_Os.2.2.2.2 := List.mem_of_getElem? (i := 28) (by decide +kernel)
theorem qnc_0 : ("java/lang/IllegalArgumentException", "java/lang/IllegalStateException") ∈ qw_Os.2.2.2.1 := List.mem_of_getElem? (i := 0) (by decide +kernel)
theorem qnc_1 : ("java/lang/IllegalArgumentException", "java/lang/IndexOutOfBoundsException") ∈ qw_Os.2.2.2.1 := List.mem_of_getElem? (i := 1) (by decide +kernel)
theorem qnc_2 : ("java/lang/IllegalArgumentException", "java/lang/ArithmeticException") ∈ qw_Os.2.2.2.1 := List.mem_of_getElem? (i := 2) (by decide +kernel)
theorem qnc_3 : ("java/lang/IllegalStateException", "java/lang/IllegalArgumentException") ∈ qw_Os.2.2.2.1 := List.mem_of_getElem? (i := 3) (by decide +kernel)
theorem qnc_4 : ("java/lang/IllegalStateException", "java/lang/IndexOutOfBoundsException") ∈ qw_Os.2.2.2.1 := List.mem_of_getElem? (i := 4) (by decide +kernel)
theorem qnc_5 : ("java/lang/IllegalStateException", "java/lang/ArithmeticException") ∈ qw_Os.2.2.2.1 := List.mem_of_getElem? (i := 5) (by decide +kernel)
theorem qnc_6 : ("java/lang/IndexOutOfBoundsException", "java/lang/IllegalArgumentException") ∈ qw_Os.2.2.2.1 := List.mem_of_getElem? (i := 6) (by decide +kernel)
theorem qnc_7 : ("java/lang/IndexOutOfBoundsException", "java/lang/IllegalStateException") ∈ qw_Os.2.2.2.1 := List.mem_of_getElem? (i := 7) (by decide +kernel)
theorem qnc_8 : ("java/lang/IndexOutOfBoundsException", "java/lang/ArithmeticException") ∈ qw_Os.2.2.2.1 := List.mem_of_getElem? (i := 8) (by decide +kernel)
theorem qnc_9 : ("java/lang/ArithmeticException", "java/lang/IllegalArgumentException") ∈ qw_Os.2.2.2.1 := List.mem_of_getElem? (i := 9) (by decide +kernel)
theorem qnc_10 : ("java/lang/ArithmeticException", "java/lang/IllegalStateException") ∈ qw_Os.2.2.2.1 := List.mem_of_getElem? (i := 10) (by decide +kernel)
theorem qnc_11 : ("java/lang/ArithmeticException", "java/lang/IndexOutOfBoundsException") ∈ qw_Os.2.2.2.1 := List.mem_of_getElem? (i := 11) (by decide +kernel)
theorem qcs_0 : ("java/lang/IllegalArgumentException", "java/lang/IllegalArgumentException") ∈ qw_Os.2.1 := List.mem_of_getElem? (i := 0) (by decide +kernel)
theorem qcs_1 : ("java/lang/IllegalStateException", "java/lang/IllegalStateException") ∈ qw_Os.2.1 := List.mem_of_getElem? (i := 1) (by decide +kernel)
theorem qcs_2 : ("java/lang/ArrayIndexOutOfBoundsException", "java/lang/ArrayIndexOutOfBoundsException") ∈ qw_Os.2.1 := List.mem_of_getElem? (i := 2) (by decide +kernel)
theorem qcs_3 : ("java/lang/IndexOutOfBoundsException", "java/lang/IndexOutOfBoundsException") ∈ qw_Os.2.1 := List.mem_of_getElem? (i := 3) (by decide +kernel)
theorem qcs_4 : ("java/lang/ArithmeticException", "java/lang/ArithmeticException") ∈ qw_Os.2.1 := List.mem_of_getElem? (i := 4) (by decide +kernel)
theorem qcs_5 : ("java/lang/ArrayIndexOutOfBoundsException", "java/lang/IndexOutOfBoundsException") ∈ qw_Os.2.1 := List.mem_of_getElem? (i := 5) (by decide +kernel)
theorem qne_0 : ("TextSwitchCompiler", 20, (⟨"TextSwitchCompiler$Keys", "<init>", "()V"⟩ : MethodName), "TextSwitchCompiler") ∈ qw_Os.1 := List.mem_of_getElem? (i := 0) (by decide +kernel)
theorem qne_1 : ("TextSwitchCompiler", 34, (⟨"TextSwitchCompiler$Commands", "<init>", "()V"⟩ : MethodName), "TextSwitchCompiler") ∈ qw_Os.1 := List.mem_of_getElem? (i := 1) (by decide +kernel)
theorem qne_2 : ("TextSwitchCompiler$Commands", 29, (⟨"TextSwitchCompiler$Keys", "<init>", "()V"⟩ : MethodName), "TextSwitchCompiler") ∈ qw_Os.1 := List.mem_of_getElem? (i := 2) (by decide +kernel)
theorem qne_3 : ("TextSwitchCompiler$Forest", 60, (⟨"TextSwitchCompiler", "at", "([II)I"⟩ : MethodName), "TextSwitchCompiler") ∈ qw_Os.1 := List.mem_of_getElem? (i := 3) (by decide +kernel)
theorem qne_4 : ("TextSwitchCompiler$Forest", 78, (⟨"TextSwitchCompiler", "put", "([III)V"⟩ : MethodName), "TextSwitchCompiler") ∈ qw_Os.1 := List.mem_of_getElem? (i := 4) (by decide +kernel)
theorem qne_5 : ("TextSwitchCompiler$Keys", 55, (⟨"TextSwitchCompiler", "put", "([III)V"⟩ : MethodName), "TextSwitchCompiler") ∈ qw_Os.1 := List.mem_of_getElem? (i := 5) (by decide +kernel)
theorem qne_6 : ("TextSwitchCompiler$Order", 29, (⟨"TextSwitchCompiler", "put", "([III)V"⟩ : MethodName), "TextSwitchCompiler") ∈ qw_Os.1 := List.mem_of_getElem? (i := 6) (by decide +kernel)
theorem qne_7 : ("TextSwitchCompiler$Selection", 42, (⟨"TextSwitchCompiler", "contains", "(II)Z"⟩ : MethodName), "TextSwitchCompiler") ∈ qw_Os.1 := List.mem_of_getElem? (i := 7) (by decide +kernel)
theorem qne_8 : ("TextSwitchCompiler$Selection", 58, (⟨"TextSwitchCompiler", "put", "([III)V"⟩ : MethodName), "TextSwitchCompiler") ∈ qw_Os.1 := List.mem_of_getElem? (i := 8) (by decide +kernel)
theorem qne_9 : ("TextSwitchCompiler$Selection", 62, (⟨"TextSwitchCompiler", "at", "([II)I"⟩ : MethodName), "TextSwitchCompiler") ∈ qw_Os.1 := List.mem_of_getElem? (i := 9) (by decide +kernel)
theorem qne_10 : ("TextSwitchCompiler$Table", 80, (⟨"TextSwitchCompiler", "at", "([II)I"⟩ : MethodName), "TextSwitchCompiler") ∈ qw_Os.1 := List.mem_of_getElem? (i := 10) (by decide +kernel)
theorem qne_11 : ("TextSwitchCompiler$Table", 90, (⟨"TextSwitchCompiler", "put", "([III)V"⟩ : MethodName), "TextSwitchCompiler") ∈ qw_Os.1 := List.mem_of_getElem? (i := 11) (by decide +kernel)
theorem qne_12 : ("TextSwitchCompiler$Text", 33, (⟨"TextSwitchCompiler", "isLetter", "(I)Z"⟩ : MethodName), "TextSwitchCompiler") ∈ qw_Os.1 := List.mem_of_getElem? (i := 12) (by decide +kernel)
end QEH
