/-! ENGINE, part 16: the length of a String constant -/
section QES
theorem qy_1 : Cond.fieldLink RJ0 9 "java/lang/String" "value" "[B" ∈ qw_G := qw_in 1866 (by decide +kernel) (by decide +kernel)
theorem qy_2 : Cond.fieldLink RJ0 15 "java/lang/String" "coder" "B" ∈ qw_G := qw_in 1867 (by decide +kernel) (by decide +kernel)
theorem qy_3 : Cond.fieldLink RJ0 38 "java/lang/String" "COMPACT_STRINGS" "Z" ∈ qw_G := qw_in 1028 (by decide +kernel) (by decide +kernel)
theorem qy_4 : Cond.methodLink RJ0 335 yJ0_coder_7d493 ∈ qw_G := qw_in 1024 (by decide +kernel) (by decide +kernel)
theorem qy_5 : Cond.instanceMethod yJ0_coder_7d493 ∈ qw_G := qw_in 1025 (by decide +kernel) (by decide +kernel)
theorem qy_6 : Cond.selects RJ0 yJ0_coder_7d493 yJ0_coder_7d493 ∈ qw_G := qw_in 1026 (by decide +kernel) (by decide +kernel)
theorem qy_7 : Cond.initialized RJ0 ∈ qw_G := qw_in 120 (by decide +kernel) (by decide +kernel)
theorem qy_8 : Cond.code yJ0_coder_7d493 cJ0_coder_7d493 1 (some .byte) ∈ qw_G := qw_in 1027 (by decide +kernel) (by decide +kernel)
theorem qy_9 : Cond.instanceMethod yJ0_length_8abf5 ∈ qw_G := qw_in 1021 (by decide +kernel) (by decide +kernel)
theorem qy_10 : Cond.selects RJ0 yJ0_length_8abf5 yJ0_length_8abf5 ∈ qw_G := qw_in 1022 (by decide +kernel) (by decide +kernel)
theorem qy_11 : Cond.code yJ0_length_8abf5 cJ0_length_8abf5 1 (some .int) ∈ qw_G := qw_in 1023 (by decide +kernel) (by decide +kernel)
def qy_Bc : qe_B := (yJ0_coder_7d493, cJ0_coder_7d493, 1, some .byte, Cond.code yJ0_coder_7d493 cJ0_coder_7d493 1 (some .byte) :: qw_G, RJ0)
def qy_Bl : qe_B := (yJ0_length_8abf5, cJ0_length_8abf5, 1, some .int, Cond.code yJ0_length_8abf5 cJ0_length_8abf5 1 (some .int) :: qw_G, RJ0)
def qy_rm0 : Room := { frames := 1, cells := 0, slots := 0, locals := 20 }
def qy_rm1 : Room := { frames := 4, cells := 0, slots := 0, locals := 60 }
def qy_C (a : Nat) (U : State) : Prop := ∃ A : Nat → Prop, va_Z "java/lang/String" "COMPACT_STRINGS" "Z" (.int 1) A U U.heap ∧ va_OF "java/lang/String" "coder" "B" (.int 0) a A U U.heap
def qy_Q (v : Int32) : Array Value → State → Outcome → State → Prop := fun _ st oc u => oc = .returned (some (.int v)) ∧ u.heap = st.heap
def qy_no : String → State → State → Prop := fun _ _ _ => False
theorem qy_bd {Bq : qe_B} {p : Program} {l : Launch} {e : Env} {s s₁ : State} {m : MethodId} {args : Array Value} {below : List Frame} {meth : Method} {c : Code} {rm : Room} (hcls : Bq.1.cls = Bq.2.2.2.2.2) (hni : Bq.1.name ≠ "<init>") (hl : l.stackTraces = false)
    (B : BodyLoose p l Bq.1 (headSpec Bq.2.2.2.2.1 rm) Bq.2.1 Bq.2.2.1 Bq.2.2.2.1 e s m args below meth c s₁) (hml : c.maxLocals = Bq.2.2.1) : qe_bd Bq p l s m args meth c :=
  ⟨B.exec, B.bytes, hml, B.returns, atoms_spec (ws := Bq.2.2.2.2.1) B.pre, by rw [← hcls]; exact findClass_of_methodNamed B.named, B.notSynchronized, fun h => absurd h hni, hl⟩
theorem qy_coder {l : Launch} (hl : l.stackTraces = false) (a : Nat) : vx_Met l qy_Bc.1 qy_Bc.2.2.2.2.1 qy_rm0 (va_Pc [.ref a] (qy_C a)) (qy_Q 0) qy_no 0 0 (fun _ => False) := by
  refine vx_ofW (cc := qy_Bc.2.1) (maxL := qy_Bc.2.2.1) (ret := qy_Bc.2.2.2.1) (ws' := qw_G) (by decide +kernel) rfl ?_
  intro p e s m args below meth c s₁ B hml htab hP
  obtain ⟨hargs, A, hZ, hF⟩ := hP
  subst hargs
  have hB := qy_bd (Bq := qy_Bc) rfl (by decide +kernel) hl B hml
  have hw : ∀ w ∈ qw_G, w.before [Value.ref a].toArray s = true := fun w h => hB.2.2.2.2.1 w (List.mem_cons_of_mem _ h)
  have hlv := lv_entry [Value.ref a] (n := 1) (Nat.le_refl 1)
  have hla := hlv.2.2 (0, Value.ref a) (by show (0, Value.ref a) ∈ [(0, Value.ref a)]; exact List.mem_cons_self)
  have hown := hB.2.2.2.2.2.1
  have hS : va_S A s.heap s.heap [] := va_S.rf
  rw [lg_entry_eq]
  refine va_gets (cc := qy_Bc.2.1) (own := RJ0) (index := 38) (ref := "java/lang/String") hB.1 hB.2.1 hZ hS hown (hw _ qy_3) (fun x h => h) (by decide +kernel) ?_
  refine qk_if_eq (B := qy_Bc) (pc := 3) (tgt := 13) (off := 10) (by decide +kernel) rfl hB 1 ?_
  refine qk_aload_n (B := qy_Bc) (pc := 6) (i := 0) (n := 0) (by decide +kernel) rfl hB (Value.ref a) hla ⟨a, rfl⟩ ?_
  refine vk_getf (cc := qy_Bc.2.1) (own := RJ0) (index := 15) (ref := "java/lang/String") hB.1 hB.2.1 hF hS hown (hw _ qy_2) (fun x h => h) (by decide +kernel) ?_
  refine qk_goto (B := qy_Bc) (pc := 10) (tgt := 14) (off := 4) (by decide +kernel) rfl hB ?_
  refine vx_ret ?_
  exact W.zret (ty := .byte) hB.1 hB.2.1 hB.2.2.2.1 rfl (fun t h9 _ => ⟨rfl, h9⟩) (fun z hz => absurd hz List.not_mem_nil) (by decide +kernel) hB.2.2.2.2.2.2.1
theorem qy_shr0 (x : Int32) : qe_sem 17 x 0 = x := by
  have h := qe_sem_op 17 x.toBitVec.toNat 0
  have e1 : Int32.ofNat x.toBitVec.toNat = x := by
    apply Int32.toBitVec_inj.mp
    show BitVec.ofNat 32 x.toBitVec.toNat = x.toBitVec
    exact BitVec.ofNat_toNat _ _ |>.trans (BitVec.setWidth_eq _)
  rw [e1] at h
  show x >>> (0 : Int32) = x
  simp
def qy_L (a n : Nat) (U : State) : Prop := ∃ A : Nat → Prop, va_Z "java/lang/String" "COMPACT_STRINGS" "Z" (.int 1) A U U.heap ∧ va_O "java/lang/String" a A U U.heap ∧ va_OF "java/lang/String" "coder" "B" (.int 0) a A U U.heap ∧ ∃ (b : Nat) (f : Nat → Value), va_OF "java/lang/String" "value" "[B" (.ref b) a A U U.heap ∧ va_T .byte b n f A U U.heap
theorem qy_C_blind (a : Nat) : FrameBlind (va_Pc [.ref a] (qy_C a)) := by
  intro x U g mk h
  obtain ⟨h1, A, h2, h3⟩ := h
  exact ⟨h1, A, h2.moved (u := U) (U := U.calling g mk x) (Vm.Alike.refl U.vm), h3.moved (u := U) (U := U.calling g mk x) (Vm.Alike.refl U.vm)⟩
theorem qy_L_blind (a n : Nat) : FrameBlind (va_Pc [.ref a] (qy_L a n)) := by
  intro x U g mk h
  have k : U.vm.Alike (U.calling g mk x).vm := Vm.Alike.refl U.vm
  obtain ⟨h1, A, h2, h3, h4, b, f, h5, h6⟩ := h
  exact ⟨h1, A, h2.moved k, h3.moved k, h4.moved k, b, f, h5.moved k, h6.moved k⟩
theorem qy_length {l : Launch} (hl : l.stackTraces = false) (a n : Nat) : vx_Met l qy_Bl.1 qy_Bl.2.2.2.2.1 qy_rm1 (va_Pc [.ref a] (qy_L a n)) (qy_Q (Int32.ofNat n)) qy_no 0 0 (fun _ => False) := by
  refine vx_ofW (cc := qy_Bl.2.1) (maxL := qy_Bl.2.2.1) (ret := qy_Bl.2.2.2.1) (ws' := qw_G) (by decide +kernel) rfl ?_
  intro p e s m args below meth c s₁ B hml htab hP
  obtain ⟨hargs, A, hZ, hO, hF, b, f, hV, hT⟩ := hP
  subst hargs
  have hB := qy_bd (Bq := qy_Bl) rfl (by decide +kernel) hl B hml
  have hw : ∀ w ∈ qw_G, w.before [Value.ref a].toArray s = true := fun w h => hB.2.2.2.2.1 w (List.mem_cons_of_mem _ h)
  have hlv := lv_entry [Value.ref a] (n := 1) (Nat.le_refl 1)
  have hla := hlv.2.2 (0, Value.ref a) (by show (0, Value.ref a) ∈ [(0, Value.ref a)]; exact List.mem_cons_self)
  have hsz := hlv.1
  have hown := hB.2.2.2.2.2.1
  have hS : va_S A s.heap s.heap [] := va_S.rf
  rw [lg_entry_eq]
  refine qk_aload_n (B := qy_Bl) (pc := 0) (i := 0) (n := 0) (by decide +kernel) rfl hB (Value.ref a) hla ⟨a, rfl⟩ ?_
  refine vk_getf (cc := qy_Bl.2.1) (own := RJ0) (index := 9) (ref := "java/lang/String") hB.1 hB.2.1 hV hS hown (hw _ qy_1) (fun x h => h) (by decide +kernel) ?_
  obtain ⟨scr, g1, g2, g3, g4, g5, g6, g7⟩ := hT
  refine W.alen (n := Int32.ofNat n) (cc := qy_Bl.2.1) hB.1 hB.2.1 g1 g2 g5 rfl rfl (show decode qy_Bl.2.1 4 = .ok (.arraylength, 1) by decide +kernel) ?_
  refine qk_aload_n (B := qy_Bl) (pc := 5) (i := 0) (n := 0) (by decide +kernel) rfl hB (Value.ref a) hla ⟨a, rfl⟩ ?_
  obtain ⟨cell, o1, o2, o3, -⟩ := hO
  have run := vx_runV (cells := 0) (slots := 0) (locs := []) (e := e) (R := qy_rm1) (below := below) (meth := meth) (l := l) (H := s.heap) (C := RJ0) (index := 335) (n := 0) (b := a) (As := []) (rest := [Value.int (Int32.ofNat n)]) (g := F0 m 6 _ [Value.ref a, Value.int (Int32.ofNat n)]) (cc := qy_Bl.2.1) (nL := 1) (own := RJ0)
    ⟨hB.1, hB.2.1, hB.2.2.1, hown, hB.2.2.2.2.1⟩ (qy_coder hl a) ⟨callB_of 0 hB.2.2.2.2.1 (qw_goodN (fun x h => List.mem_cons_of_mem _ h) qy_8) rfl rfl rfl (hw _ qy_7) (hw _ qy_4) (by decide +kernel) ⟨by decide, by decide⟩, hw _ qy_5, hw _ qy_6⟩
    ⟨qy_C_blind a, ⟨cell, o1, o2, o3⟩, fun U hU hW => ⟨rfl, A, by rw [hU]; exact hZ.moved hW.alike, by rw [hU]; exact hF.moved hW.alike⟩⟩ rfl rfl hsz rfl (by show 2 * 0 + 1 ≤ 8; omega) (show decode qy_Bl.2.1 6 = .ok (.invokevirtual 335, 3) by decide +kernel) ⟨Nat.le_refl 0, Nat.le_refl 0⟩
  intro T hT X
  rcases run T hT X with ⟨v, st₀, t, T2, L, h0, X2, hL, e1, e3, hq, st⟩ | ⟨q, st₀, t, T2, L, E9, ce, h0, X2, hL, e1, e3, hq, hce, hcv, hcl, st⟩
  · have hL0 : L = [] := by
      cases L with
      | nil => rfl
      | cons z _ => exact absurd (hL z List.mem_cons_self) id
    subst hL0
    obtain ⟨hq1, hq2⟩ := hq
    cases hq1
    have hT2 : T2.heap = s.heap := by rw [e1, hq2, h0]
    have w : W p l e qy_rm1 s m [Value.ref a].toArray below meth c s.heap [] 0 0 (vx_MQ below (qy_Q (Int32.ofNat n)) qy_no [Value.ref a].toArray s 0 0 (fun _ => False)) (F0 m 9 ((lg_sl [Value.ref a] ++ List.replicate (1 - (lg_sl [Value.ref a]).length) Slot.unset).toArray) (Value.int 0 :: Value.int (Int32.ofNat n) :: [])) := by
      refine qk_ishr (B := qy_Bl) (pc := 9) (by decide +kernel) (Int32.ofNat n) 0 hB ?_
      rw [qy_shr0]
      refine vx_ret ?_
      exact W.iret hB.1 hB.2.1 hB.2.2.2.1 (fun t h9 _ => ⟨rfl, h9⟩) (fun z hz => absurd hz List.not_mem_nil) (by decide +kernel) hB.2.2.2.2.2.2.1
    obtain ⟨t2, a1, b1⟩ := w T2 hT2 X2
    exact ⟨t2, st t2 a1, b1⟩
  · exact absurd hq id
/-- a String constant's length -/
theorem qk_slen {Z : qe_Z} {O : qw_O} {L j pc idx : Nat} {len : Nat → Nat} (hX : zX Z = qw_X O (zE Z).2.2.1 L (zE Z).2.2.2) (hin : ∀ w ∈ qw_G, w ∈ (zM Z j).2.2.2.2.1) (w1 : Cond.methodLink (zM Z j).2.2.2.2.2 idx yJ0_length_8abf5 ∈ qw_G)
    (hq : ∀ i, 0 < len i → ∃ q ∈ O.2.2.2.2, q.2.2.2 = i ∧ q.2.2.1.length = len i) (h : decode (zM Z j).2.1 pc = .ok (.invokevirtual idx, 3)) : qc_slen Z j pc (pc + 3) len := by
  intro p l e R s m args below meth c H locs cells slots la rest Q hB A hx hS hA hf hlo hrest hsz hc1 hc2 i hi kk
  rw [hX] at hx
  obtain ⟨q, q1, q2, q3⟩ := hq i hi
  obtain ⟨-, -, -, hZ, f⟩ := hx
  obtain ⟨-, hO, hF, b, g, hV, hT⟩ := f q q1
  rw [q2] at hO hF hV
  rw [q3] at hT
  have hw : ∀ w ∈ qw_G, w.before args s = true := fun w h => hB.2.2.2.2.1 w (hin w h)
  obtain ⟨cell, o1, o2, o3, -⟩ := hO.kept hS.2.1
  have run := vx_runV (cells := cells) (slots := slots) (locs := locs) (e := e) (R := R) (below := below) (meth := meth) (l := l) (H := H) (C := RJ0) (index := idx) (n := 0) (b := (zE Z).2.2.1 i) (As := []) (rest := rest) (g := F0 m pc la (Value.ref ((zE Z).2.2.1 i) :: rest)) (cc := (zM Z j).2.1) (nL := (zM Z j).2.2.1) (own := (zM Z j).2.2.2.2.2)
    ⟨hB.1, hB.2.1, hB.2.2.1, hB.2.2.2.2.2.1, hB.2.2.2.2.1⟩ (qy_length hB.2.2.2.2.2.2.2.2 ((zE Z).2.2.1 i) (len i)) ⟨callB_of 0 hB.2.2.2.2.1 (qw_goodN hin qy_11) rfl rfl rfl (hw _ qy_7) (hw _ w1) (by decide +kernel) ⟨by show 4 + 1 ≤ R.frames; omega, by show 8 + (1 + 11) + 60 ≤ R.locals; omega⟩, hw _ qy_9, hw _ qy_10⟩
    ⟨qy_L_blind _ _, ⟨cell, o1, o2, o3⟩, fun U hU hW => ⟨rfl, A, by rw [hU]; exact (hZ.kept hS.2.1).moved hW.alike, by rw [hU]; exact (hO.kept hS.2.1).moved hW.alike, by rw [hU]; exact (hF.kept hS.2.1).moved hW.alike, b, g, by rw [hU]; exact (hV.kept hS.2.1).moved hW.alike, by rw [hU]; exact (hT.kept hS.2.1).moved hW.alike⟩⟩ rfl rfl (hsz.trans hB.2.2.1) rfl (by show 2 * 0 + (rest.map fun v => v.category).sum ≤ 8; have : (rest.map fun v => v.category).sum ≤ 8 := hrest; omega) h ⟨hc1, hc2⟩
  intro T hT X
  rcases run T hT X with ⟨v, st₀, t, T2, L2, h0, X2, hL, e1, e3, hq, st⟩ | ⟨q9, st₀, t, T2, L2, E9, ce, h0, X2, hL, e1, e3, hq, hce, hcv, hcl, st⟩
  · have hL0 : L2 = [] := by
      cases L2 with
      | nil => rfl
      | cons z _ => exact absurd (hL z List.mem_cons_self) id
    subst hL0
    obtain ⟨hq1, hq2⟩ := hq
    cases hq1
    have hT2 : T2.heap = H := by rw [e1, hq2, h0]
    rw [List.append_nil] at X2
    obtain ⟨t2, a1, b1⟩ := kk T2 hT2 X2
    exact ⟨t2, st t2 a1, b1⟩
  · exact absurd hq id
/-- what is caught, and put away -/
theorem qk_cat {Z : qe_Z} {O : qw_O} {L j pc i pc2 lo : Nat} {name : String} (hX : zX Z = qw_X O (zE Z).2.2.1 L (zE Z).2.2.2) (hin : ∀ w ∈ qw_G, w ∈ (zM Z j).2.2.2.2.1) (pre : List ExceptionTableEntry) (x : ExceptionTableEntry) (suf : List ExceptionTableEntry)
    (hT : ∀ c : Code, zT Z j c → c.exceptionTable.toList = pre ++ x :: suf) (hpass : ∀ z ∈ pre, covers z pc = false ∨ (z.catchType ≠ 0 ∧ ∃ nm : String, Cond.classLink (zM Z j).2.2.2.2.2 z.catchType nm ∈ qw_G ∧ (zn Z i, nm) ∈ O.2.2.2.1))
    (hx : covers x pc = true) (h0 : x.catchType ≠ 0) (hl : Cond.classLink (zM Z j).2.2.2.2.2 x.catchType name ∈ qw_G) (hcast : (zn Z i, name) ∈ O.2.1) (hs : qc_s1 (zM Z j) x.handlerPc pc2 lo 2) : qc_cat Z j pc i pc2 lo := by
  intro p l e R s m args below meth c H locs cells slots la rest A QC XC hB hz q ce nL lv h1 h2 h3 hxx h4 h5 kk
  rw [hX] at hxx
  obtain ⟨-, ⟨b1, b2, b3, b4⟩, -, -, -⟩ := hxx
  have hw : ∀ w ∈ qw_G, w.before args s = true := fun w h => hB.2.2.2.2.1 w (hin w h)
  exact vx_catch hB.2.2.2.2.2.1 pre x suf (hT c hz) (fun z hz2 => by
    rcases hpass z hz2 with h | ⟨g1, nm, g2, g3⟩
    · exact Or.inl h
    · exact Or.inr ⟨g1, nm, hw _ g2, b4 _ g3⟩) hx h0 (hw _ hl) (va_Nw.use rfl (b2 _ hcast)) h1 h2 h3 (hs hB (Value.ref q) nL lv ⟨q, rfl⟩ h4 h5 kk)
end QES
