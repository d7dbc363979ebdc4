/-! ENGINE, part 15: what lies outside the world; the script, the texts' constants, throws, handlers -/
section QEO
/-- what the walk is told of the tables that do not last by themselves: nest mates' links, castable and not, declared, String constants (class, place, text, number) -/
abbrev qw_O : Type := List (String × Nat × MethodName × String) × List (String × String) × List MethodName × List (String × String) × List (String × Nat × String × Nat)
def qw_X (O : qw_O) (ext : Nat → Nat) (L : Nat) (rho : Nat → Int32) (A : Nat → Prop) (U : State) (H : Heap) : Prop :=
  (vx_Zq Bundle.tN "UNASSIGNED_STACK" Bundle.steD A U H ∧ vx_Zq Bundle.tN "SUPPRESSED_SENTINEL" Bundle.listD A U H) ∧
  ((∀ q ∈ O.1, va_Nw (.methodLinkNest q.1 q.2.1 q.2.2.1 q.2.2.2) U) ∧ (∀ q ∈ O.2.1, va_Nw (.castable q.1 q.2) U) ∧ (∀ y ∈ O.2.2.1, va_Nw (.declares y) U) ∧ (∀ q ∈ O.2.2.2.1, va_Nc q.1 q.2 U)) ∧
  (va_X (ext 0) L rho U H ∧ ext 0 < H.size ∧ ¬ A (ext 0)) ∧ va_Z "java/lang/String" "COMPACT_STRINGS" "Z" (.int 1) A U H ∧
  (∀ q ∈ O.2.2.2.2, vk_R q.1 q.2.1 q.2.2.1 (ext q.2.2.2) U ∧ va_O "java/lang/String" (ext q.2.2.2) A U H ∧ va_OF "java/lang/String" "coder" "B" (.int 0) (ext q.2.2.2) A U H ∧ ∃ (b : Nat) (f : Nat → Value), va_OF "java/lang/String" "value" "[B" (.ref b) (ext q.2.2.2) A U H ∧ va_T .byte b q.2.2.1.length f A U H)
theorem qw_X_warm {O : qw_O} {ext : Nat → Nat} {L : Nat} {rho : Nat → Int32} (A : Nat → Prop) (s U : State) (H : Heap) (hW : s.WarmedH U.vm) (h : qw_X O ext L rho A s H) : qw_X O ext L rho A U H := by
  obtain ⟨⟨a1, a2⟩, ⟨b1, b2, b3, b4⟩, ⟨c1, c2, c3⟩, d, f⟩ := h
  have hal := hW.alike
  refine ⟨⟨a1.moved hal, a2.moved hal⟩, ⟨fun q hq => va_Nw.warmM hW (b1 q hq), fun q hq => va_Nw.warmC hW (b2 q hq), fun y hy => va_Nw.warmD hW (b3 y hy), fun q hq => (b4 q hq).moved hal⟩, ⟨c1.moved hal, c2, c3⟩, d.moved hal, fun q hq => ?_⟩
  obtain ⟨f1, f2, f3, b, g, f4, f5⟩ := f q hq
  exact ⟨f1.warm hW, f2.moved hal, f3.moved hal, b, g, f4.moved hal, f5.moved hal⟩
theorem qw_X_kept {O : qw_O} {ext : Nat → Nat} {L : Nat} {rho : Nat → Int32} (A : Nat → Prop) (U : State) (H H1 : Heap) (h : qw_X O ext L rho A U H) (hk : ∀ a : Nat, a < H.size → ¬ A a → H1[a]? = H[a]?) : qw_X O ext L rho A U H1 := by
  obtain ⟨⟨a1, a2⟩, b, ⟨c1, c2, c3⟩, d, f⟩ := h
  have e0 := hk (ext 0) c2 c3
  refine ⟨⟨a1.kept hk, a2.kept hk⟩, b, ⟨c1.kept e0, ?_, c3⟩, d.kept hk, fun q hq => ?_⟩
  · rw [Array.getElem?_eq_getElem c2] at e0
    exact (Array.getElem?_eq_some_iff.mp e0).1
  obtain ⟨f1, f2, f3, b, g, f4, f5⟩ := f q hq
  exact ⟨f1, f2.kept hk, f3.kept hk, b, g, f4.kept hk, f5.kept hk⟩
theorem qw_X_narrow {O : qw_O} {ext : Nat → Nat} {L : Nat} {rho : Nat → Int32} (A B : Nat → Prop) (U : State) (H : Heap) (hAB : ∀ q, B q → A q) (h : qw_X O ext L rho A U H) : qw_X O ext L rho B U H := by
  obtain ⟨⟨a1, a2⟩, b, ⟨c1, c2, c3⟩, d, f⟩ := h
  refine ⟨⟨a1.narrow hAB, a2.narrow hAB⟩, b, ⟨c1, c2, fun z => c3 (hAB _ z)⟩, d.narrow hAB, fun q hq => ?_⟩
  obtain ⟨f1, f2, f3, b, g, f4, f5⟩ := f q hq
  exact ⟨f1, f2.narrow hAB, f3.narrow hAB, b, g, f4.narrow hAB, f5.narrow hAB⟩
theorem qz_of {Z : qe_Z} {O : qw_O} {L : Nat} (h : zX Z = qw_X O (zE Z).2.2.1 L (zE Z).2.2.2) : qz_ok Z := by
  refine ⟨?_, ?_, ?_⟩
  · rw [h]; exact qw_X_warm
  · rw [h]; exact qw_X_kept
  · rw [h]; exact qw_X_narrow
/-- the script -/
theorem qk_xlen {Z : qe_Z} {O : qw_O} {L j pc : Nat} (hX : zX Z = qw_X O (zE Z).2.2.1 L (zE Z).2.2.2) (h : decode (zM Z j).2.1 pc = .ok (.arraylength, 1)) : qc_xlen Z j pc (pc + 1) L := by
  intro p l e R s m args below meth c H locs cells slots la rest Q hB A hx hS kk
  rw [hX] at hx
  obtain ⟨-, -, ⟨c1, c2, c3⟩, -, -⟩ := hx
  exact va_slen hB.1 hB.2.1 c1 c2 c3 hS h kk
theorem qe_xin {i L : Nat} (h : i < L) (h2 : i < 65536) : vp_in (Int32.ofNat i) L ∧ (Int32.ofNat i).toNatClampNeg = i := by
  have e1 : (Int32.ofNat i).toInt = (i : Int) := by
    rw [Int32.toInt_ofNat_of_lt (by omega)]
  have e2 : (Int32.ofNat i).toNatClampNeg = i := by
    show (Int32.ofNat i).toInt.toNat = i
    rw [e1]; rfl
  refine ⟨?_, e2⟩
  intro q
  rcases q with q | q
  · have := Int32.lt_iff_toInt_lt.mp q
    rw [e1] at this
    have h0 : (0 : Int32).toInt = 0 := by decide
    rw [h0] at this
    omega
  · rw [e2] at q; omega
theorem qk_xld {Z : qe_Z} {O : qw_O} {L j pc : Nat} (hX : zX Z = qw_X O (zE Z).2.2.1 L (zE Z).2.2.2) (h : decode (zM Z j).2.1 pc = .ok (.iaload, 1)) : qc_xld Z j pc (pc + 1) L := by
  intro p l e R s m args below meth c H locs cells slots la rest Q hB A hx hS i hi hi2 kk
  rw [hX] at hx
  obtain ⟨-, -, ⟨c1, c2, c3⟩, -, -⟩ := hx
  obtain ⟨g1, g2⟩ := qe_xin hi hi2
  refine va_sld hB.1 hB.2.1 c1 c2 c3 hS g1 h ?_
  rw [g2]
  exact kk
/-- a String constant -/
theorem qk_pstr {Z : qe_Z} {O : qw_O} {L j pc index i : Nat} {tx : String} (hX : zX Z = qw_X O (zE Z).2.2.1 L (zE Z).2.2.2) (hq : ((zM Z j).2.2.2.2.2, index, tx, i) ∈ O.2.2.2.2) (h : decode (zM Z j).2.1 pc = .ok (.ldc index, 2)) : qc_pstr Z j pc (pc + 2) i := by
  intro p l e R s m args below meth c H locs cells slots la rest Q hB A hx kk
  rw [hX] at hx
  obtain ⟨-, -, -, -, f⟩ := hx
  exact va_ldcS hB.1 hB.2.1 hB.2.2.2.2.2.1 (f _ hq).1 h kk
/-- nothing is caught in this method -/
theorem qk_out {Z : qe_Z} {j pc i : Nat} (hT : ∀ c : Code, zT Z j c → ∀ x ∈ c.exceptionTable.toList, covers x pc = false) : qc_out Z j pc i := by
  intro p l e R s m args below meth c H locs cells slots la rest A QC XC hB hZ q ce h1 h2 h3 hx h4 h5 h6 h7
  exact vx_out (hT c hZ) hB.2.2.2.2.2.2.1 h1 h2 h3 h4 h5 h6 h7
/-- a throw -/
theorem qk_thr {Z : qe_Z} {O : qw_O} {L j pc i sn ik is ic : Nat} {cls tx : String} {names : List String} {B : List Cond} (hX : zX Z = qw_X O (zE Z).2.2.1 L (zE Z).2.2.2) (hin : ∀ w ∈ qw_G, w ∈ (zM Z j).2.2.2.2.1) (hcls : Bundle.fit cls = true) (hnames : ∀ n ∈ names, Bundle.fit n = true) (hnl : names.length ≤ 4)
    (hk : Cond.classLink (zM Z j).2.2.2.2.2 ik cls ∈ qw_G) (hini : Cond.initialized cls ∈ qw_G) (hstr : ((zM Z j).2.2.2.2.2, is, tx, sn) ∈ O.2.2.2.2)
    (hat1 : ∀ w ∈ (vx_atS (zM Z j).2.2.2.2.2 ic cls names).filter goodWord, w ∈ qw_G) (hat2 : ∀ w ∈ (vx_atS (zM Z j).2.2.2.2.2 ic cls names).filter (fun w => !goodWord w), w ∈ B) (hB : ∀ w ∈ B, (∃ q ∈ O.2.1, w = .castable q.1 q.2) ∨ (∃ y ∈ O.2.2.1, w = .declares y))
    (hgood : ∀ w ∈ Cond.classLink (zM Z j).2.2.2.2.2 ik cls :: Cond.initialized cls :: vx_atS (zM Z j).2.2.2.2.2 ic cls names, vx_ot w = true) (hzn : zn Z i = cls)
    (hdec : (decode (zM Z j).2.1 pc = .ok (.new ik, 3) ∧ decode (zM Z j).2.1 (pc + 3) = .ok (.dup, 1) ∧ decode (zM Z j).2.1 (pc + 4) = .ok (.ldc is, 2) ∧ decode (zM Z j).2.1 (pc + 6) = .ok (.invokespecial ic, 3) ∧ decode (zM Z j).2.1 (pc + 9) = .ok (.athrow, 1)) ∨ (decode (zM Z j).2.1 pc = .ok (.new ik, 3) ∧ decode (zM Z j).2.1 (pc + 3) = .ok (.dup, 1) ∧ decode (zM Z j).2.1 (pc + 4) = .ok (.ldc_w is, 3) ∧ decode (zM Z j).2.1 (pc + 7) = .ok (.invokespecial ic, 3) ∧ decode (zM Z j).2.1 (pc + 10) = .ok (.athrow, 1)))
    (hT : ∀ c : Code, zT Z j c → ∀ x ∈ c.exceptionTable.toList, False) : qc_thr Z j pc i := by
  intro p l e R s m args below meth c H locs cells slots la rest A QC XC hb hx hS hA hz hsz hf hlo hc hs hrest hxc
  rw [hX] at hx
  obtain ⟨⟨a1, a2⟩, ⟨b1, b2, b3, b4⟩, -, -, f⟩ := hx
  have hw : ∀ w ∈ qw_G, w.before args s = true := fun w h => hb.2.2.2.2.1 w (hin w h)
  have hat : ∀ w ∈ vx_atS (zM Z j).2.2.2.2.2 ic cls names, w.before args s = true := vx_hat (B := B) (fun w h => hw w (hat1 w h)) hat2 (fun w h => by
    rcases hB w h with ⟨q, h1, h2⟩ | ⟨y, h1, h2⟩
    · rw [h2]; exact va_Nw.use rfl (b2 q h1)
    · rw [h2]; exact va_Nw.use rfl (b3 y h1))
  have hr : (rest.map fun v => v.category).sum ≤ 8 := hrest
  have hloc : ∀ q ∈ locs, A q.base := hS.2.2
  rw [hzn] at hxc
  rcases hdec with ⟨d0, d3, d4, d6, d9⟩ | ⟨d0, d3, d4, d7, d10⟩
  · exact vx_throwS hb.1 hb.2.1 hb.2.2.2.2.2.2.2.2 hb.2.2.2.2.2.1 hcls hnames (hw _ hk) (hw _ hini) (f _ hstr).1 hat hgood a1 a2 hS hsz d0 d3 d4 d6 d9 (fun x h => absurd (hT c hz x h) id) (by omega) (by omega) hc hs hb.2.2.2.2.2.2.1 hxc hloc hc hs
  · exact vx_throwSW hb.1 hb.2.1 hb.2.2.2.2.2.2.2.2 hb.2.2.2.2.2.1 hcls hnames (hw _ hk) (hw _ hini) (f _ hstr).1 hat hgood a1 a2 hS hsz d0 d3 d4 d7 d10 (fun x h => absurd (hT c hz x h) id) (by omega) (by omega) hc hs hb.2.2.2.2.2.2.1 hxc hloc hc hs
end QEO
