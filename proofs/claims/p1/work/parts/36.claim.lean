/-! THE CLAIM OUT OF ONE WALK OF THE LAW'S BODY. Your part is whole_start (and what it stands on); all else here is the same for every law, but numbers. -/
def R_law : String := "TextSwitchCompilerLaw"
def lw_P (b : Addr) (xs : List Int32) (args : Array Value) (s : State) : Prop := args = #[.ref b] ∧ s.IntsAt b xs ∧ xs.length ≤ 3 ∧ (Jvm.Cond.and given_1 narrow_1).before args s = true
/-- what a walk over the start with the record d0 says of its end, said of the start itself -/
theorem lw_closed {s t : State} {o : Outcome} {d0 : Drawn} {L : List Loc} {k n : Nat} (hd0 : s.drawn.sameBut d0 lw_cs) (hv : ∃ v, o = .returned v) (hW : (s.setDrawn d0).WarmedH t.vm) (hs : (s.setDrawn d0).sameButNew ({ t with vm := s.vm } : State) L k n) : State.butDraws s t lw_cs (fun t1 => Framed s o t1 L k n) := by
  have h2 : t.drawn = d0 := congrArg State.drawn hs.1
  refine ⟨⟨hv, hW, State.sameButNew.setDrawn hs s.drawn⟩, ?_, by decide⟩
  rw [h2]
  exact hd0
def lw_Q (_ : Array Value) (s : State) (o : Outcome) (t : State) : Prop := o = .returned (some (.int 1)) ∧ State.butDraws s t lw_cs (fun t1 => Framed s o t1 [] 600006 7302000)
def lw_Z (below : List Frame) (a : Array Value) (s : State) : State → Prop := fun t => ∃ o, t.status = .running ∧ Ended t below o ∧ lw_Q a s o t
/-- the law's own end, with 1 on the stack, nothing written that was there before, its room as the claim has it; d0: the record of draws at this point (at the entry s.drawn: begin with 'refine W.base ?_' and 'have hd0 := Drawn.sameBut.refl s.drawn lw_cs') -/
theorem lw_ret {p : Program} {l : Launch} {e : Env} {s : State} {m : MethodId} {below : List Frame} {meth : Method} {c : Code} {b : Nat} {d0 : Drawn} (hd0 : s.drawn.sameBut d0 lw_cs) (hx : p.tables.exec = Jvm.exec) (hb : c.code = code) (hr : meth.sig.returnType = ret) (hlocks : meth.locks = false) {pc : Nat} {H : Heap} {ls : Array Slot} (hdg : decode code pc = .ok (.ireturn, 1)) : W p l e room_1 (s.setDrawn d0) m #[Value.ref b] below meth c H [] 600006 7302000 (lw_Z below #[Value.ref b] s) (F0 m pc ls [.int 1]) := by
  intro T hT X
  obtain ⟨fs, hret, hrun, hended, hW, hframe⟩ := X.leave (v := some (.int 1)) (hlocks := hlocks) (fun h => by rw [hr] at h; cases h)
  have hmeth' : T.vm.method? m = some meth := X.method'
  refine ⟨T.setFrames fs, ?_, .returned (some (.int 1)), hrun, hended, rfl, lw_closed hd0 ⟨_, rfl⟩ hW hframe⟩
  jvm_step X.here [X.here.top, hx, hb, hdg, hmeth', hr, ret, narrow_b1]
  (try refine ⟨rfl, ?_⟩); (try refine ⟨rfl, ?_⟩)
  first | (intro acts; rw [hret _ acts rfl rfl rfl]) | rw [hret _ _ rfl rfl rfl]
  exact Steps.refl _
/-- what holds at the law's entry: the machine, the code, the tables' words (any of lw_tbl by 'hts w (by decide +kernel)'), the script of L ints xs at the cell b, what the Statement gives of the start (any of its parts by flat_of_before) -/
def lw_At (p : Program) (s : State) (m : MethodId) (meth : Method) (c : Code) (b L : Nat) (xs : Nat → Int32) : Prop :=
  p.tables.exec = Jvm.exec ∧ c.code = code ∧ meth.sig.returnType = ret ∧ c.maxLocals = 8 ∧ s.vm.findClass R_law = some m.cls ∧ (∀ w ∈ lw_tbl, w.before #[Value.ref b] s = true) ∧ va_X b L xs s s.heap ∧ b < s.heap.size ∧ meth.locks = false ∧ (Jvm.Cond.and given_1 narrow_1).before #[Value.ref b] s = true ∧ ∀ x ∈ c.exceptionTable.toList, False
-- ===== YOUR PART BEGINS =====
section QZW
theorem qg_some {r : Option (List (qe_O 7))} (h : qg_ok r = true) : ∃ outs, r = some outs ∧ ∀ o ∈ outs, (qo_k o = 1 ∧ qo_v o = 8) ∧ (qo_ce o ≤ 600006 ∧ qo_sl o ≤ 7302000) := by
  cases r with
  | none => cases h
  | some l =>
    refine ⟨l, rfl, fun o ho => ?_⟩
    have h1 := List.all_eq_true.mp (show l.all qg_o = true from h) o ho
    unfold qg_o at h1
    rw [Bool.and_eq_true, Bool.and_eq_true, Bool.and_eq_true] at h1
    exact ⟨⟨Nat.eq_of_beq_eq_true h1.1.1, Nat.eq_of_beq_eq_true h1.1.2⟩, Nat.le_of_ble_eq_true h1.2.1, Nat.le_of_ble_eq_true h1.2.2⟩
def qt_good (xs : Nat → Int32) (L : Nat) : Prop := ∃ (cx : qe_Cx) (outs : List (qe_O 7)), qe_cok (qs_rho xs) cx ∧ qt_run L cx = some outs ∧ ∀ o ∈ outs, (qo_k o = 1 ∧ qo_v o = 8) ∧ (qo_ce o ≤ 600006 ∧ qo_sl o ≤ 7302000)
theorem qt_mk {xs : Nat → Int32} {L : Nat} {cx : qe_Cx} (hc : qe_cok (qs_rho xs) cx) (h : qg_ok (qt_run L cx) = true) : qt_good xs L := by
  obtain ⟨outs, h1, h2⟩ := qg_some h
  exact ⟨cx, outs, hc, h1, h2⟩
theorem qt_op (xs : Nat → Int32) : ∃ k : Nat, k < 32 ∧ qe_so (qs_rho xs 100) = 2147483648 + k := by
  have e0 : xs 0 = Int32.ofNat (xs 0).toBitVec.toNat := by
    apply Int32.toBitVec_inj.1
    rw [qe_bv, BitVec.ofNat_toNat, BitVec.setWidth_eq]
  have e1 : qs_rho xs 100 = Int32.ofNat ((xs 0).toBitVec.toNat % 32) := by
    show xs 0 &&& Int32.ofNat 31 = _
    rw [e0, qe_and, ← e0]
    rw [show (31 : Nat) = 2 ^ 5 - 1 from rfl, Nat.and_two_pow_sub_one_eq_mod]
  have hk : (xs 0).toBitVec.toNat % 32 < 32 := Nat.mod_lt _ (by decide)
  refine ⟨(xs 0).toBitVec.toNat % 32, hk, ?_⟩
  rw [e1, qe_so_of]
  show ((xs 0).toBitVec.toNat % 32 + 2147483648) % 4294967296 = _
  omega
theorem qt_c1 {xs : Nat → Int32} {k : Nat} (h : qe_so (qs_rho xs 100) = 2147483648 + k) : qe_cok (qs_rho xs) [(100, 2147483648 + k, 2147483648 + k)] := qe_cok_cons (qe_cok_nil _) (Nat.le_of_eq h.symm) (Nat.le_of_eq h)
theorem qt_c2 {xs : Nat → Int32} {k lo hi : Nat} (h : qe_so (qs_rho xs 100) = 2147483648 + k) (h1 : lo ≤ qe_so (qs_rho xs 1)) (h2 : qe_so (qs_rho xs 1) ≤ hi) : qe_cok (qs_rho xs) [(1, lo, hi), (100, 2147483648 + k, 2147483648 + k)] := qe_cok_cons (qt_c1 h) h1 h2
theorem qt_split {xs : Nat → Int32} {k : Nat} (h : qe_so (qs_rho xs 100) = 2147483648 + k)
    (r0 : qg_ok (qt_run 3 [(1, 0, 2147483647), (100, 2147483648 + k, 2147483648 + k)]) = true) (r1 : qg_ok (qt_run 3 [(1, 2147483648, 2147483648), (100, 2147483648 + k, 2147483648 + k)]) = true) (r2 : qg_ok (qt_run 3 [(1, 2147483649, 2147483649), (100, 2147483648 + k, 2147483648 + k)]) = true)
    (r3 : qg_ok (qt_run 3 [(1, 2147483650, 2147483650), (100, 2147483648 + k, 2147483648 + k)]) = true) (r4 : qg_ok (qt_run 3 [(1, 2147483651, 2147483651), (100, 2147483648 + k, 2147483648 + k)]) = true) (r5 : qg_ok (qt_run 3 [(1, 2147483652, 2147483652), (100, 2147483648 + k, 2147483648 + k)]) = true)
    (r6 : qg_ok (qt_run 3 [(1, 2147483653, 4294967295), (100, 2147483648 + k, 2147483648 + k)]) = true) : qt_good xs 3 := by
  have hlt := qe_so_lt (qs_rho xs 1)
  rcases (show qe_so (qs_rho xs 1) ≤ 2147483647 ∨ qe_so (qs_rho xs 1) = 2147483648 ∨ qe_so (qs_rho xs 1) = 2147483649 ∨ qe_so (qs_rho xs 1) = 2147483650 ∨ qe_so (qs_rho xs 1) = 2147483651 ∨ qe_so (qs_rho xs 1) = 2147483652 ∨ 2147483653 ≤ qe_so (qs_rho xs 1) by omega) with q | q | q | q | q | q | q
  · exact qt_mk (qt_c2 h (Nat.zero_le _) q) r0
  · exact qt_mk (qt_c2 h (Nat.le_of_eq q.symm) (Nat.le_of_eq q)) r1
  · exact qt_mk (qt_c2 h (Nat.le_of_eq q.symm) (Nat.le_of_eq q)) r2
  · exact qt_mk (qt_c2 h (Nat.le_of_eq q.symm) (Nat.le_of_eq q)) r3
  · exact qt_mk (qt_c2 h (Nat.le_of_eq q.symm) (Nat.le_of_eq q)) r4
  · exact qt_mk (qt_c2 h (Nat.le_of_eq q.symm) (Nat.le_of_eq q)) r5
  · exact qt_mk (qt_c2 h q (by omega)) r6
theorem qt_any (xs : Nat → Int32) {L : Nat} (hL : L ≤ 3) : qt_good xs L := by
  rcases (show L = 0 ∨ L = 1 ∨ L = 2 ∨ L = 3 by omega) with rfl | rfl | rfl | rfl
  · exact qt_mk (qe_cok_nil _) qt_l0
  · exact qt_mk (qe_cok_nil _) qt_l1
  · exact qt_mk (qe_cok_nil _) qt_l2
  · obtain ⟨k, hk, h⟩ := qt_op xs
    match k, hk, h with
    | 0, _, h => exact qt_mk (qt_c1 h) qt_0
    | 1, _, h => exact qt_mk (qt_c1 h) qt_1
    | 2, _, h => exact qt_mk (qt_c1 h) qt_2
    | 3, _, h => exact qt_mk (qt_c1 h) qt_3
    | 4, _, h => exact qt_mk (qt_c1 h) qt_4
    | 5, _, h => exact qt_mk (qt_c1 h) qt_5
    | 6, _, h => exact qt_mk (qt_c1 h) qt_6
    | 7, _, h => exact qt_mk (qt_c1 h) qt_7
    | 8, _, h => exact qt_mk (qt_c1 h) qt_8
    | 9, _, h => exact qt_mk (qt_c1 h) qt_9
    | 10, _, h => exact qt_mk (qt_c1 h) qt_10
    | 11, _, h => exact qt_mk (qt_c1 h) qt_11
    | 12, _, h => exact qt_mk (qt_c1 h) qt_12
    | 13, _, h => exact qt_split h qt_13_0 qt_13_1 qt_13_2 qt_13_3 qt_13_4 qt_13_5 qt_13_6
    | 14, _, h => exact qt_split h qt_14_0 qt_14_1 qt_14_2 qt_14_3 qt_14_4 qt_14_5 qt_14_6
    | 15, _, h => exact qt_split h qt_15_0 qt_15_1 qt_15_2 qt_15_3 qt_15_4 qt_15_5 qt_15_6
    | 16, _, h => exact qt_split h qt_16_0 qt_16_1 qt_16_2 qt_16_3 qt_16_4 qt_16_5 qt_16_6
    | 17, _, h => exact qt_split h qt_17_0 qt_17_1 qt_17_2 qt_17_3 qt_17_4 qt_17_5 qt_17_6
    | 18, _, h => exact qt_split h qt_18_0 qt_18_1 qt_18_2 qt_18_3 qt_18_4 qt_18_5 qt_18_6
    | 19, _, h => exact qt_mk (qt_c1 h) qt_19
    | 20, _, h => exact qt_mk (qt_c1 h) qt_20
    | 21, _, h => exact qt_mk (qt_c1 h) qt_21
    | 22, _, h => exact qt_mk (qt_c1 h) qt_22
    | 23, _, h => exact qt_split h qt_23_0 qt_23_1 qt_23_2 qt_23_3 qt_23_4 qt_23_5 qt_23_6
    | 24, _, h => exact qt_mk (qt_c1 h) qt_24
    | 25, _, h => exact qt_mk (qt_c1 h) qt_25
    | 26, _, h => exact qt_mk (qt_c1 h) qt_26
    | 27, _, h => exact qt_mk (qt_c1 h) qt_27
    | 28, _, h => exact qt_mk (qt_c1 h) qt_28
    | 29, _, h => exact qt_mk (qt_c1 h) qt_29
    | 30, _, h => exact qt_mk (qt_c1 h) qt_30
    | 31, _, h => exact qt_mk (qt_c1 h) qt_31
    | k + 32, hk, _ => exact absurd hk (by omega)
theorem qw_lr (s : State) : s.setDrawn s.drawn = s := rfl
end QZW
/-- YOUR PART: from the entry, for every script of at most 3 ints, the law comes to its end with true ('hflags': the launch's flags, for a law that throws: no stack traces) -/
theorem whole_start {p : Program} {e : Env} {s : State} {m : MethodId} {below : List Frame} {meth : Method} {c : Code} (l : Launch) (hflags : l.flags = flags0) {b L : Nat} {xs : Nat → Int32} (hL : L ≤ 3) (C0 : lw_At p s m meth c b L xs) : W p l e room_1 s m #[Value.ref b] below meth c s.heap [] 0 0 (lw_Z below #[Value.ref b] s) (entryFrame m ([Value.ref b] : List Value).toArray 8) := by
  obtain ⟨hx, hb, hr, hml, hown, hts, hX, hbl, hlocks, hgv, htab⟩ := id C0
  have hst : l.stackTraces = false := by
    show (!l.flags.contains noTraceFlag) = false
    rw [hflags]
    decide +kernel
  obtain ⟨E, hE1, hE2, hK⟩ := qs_K hts (qs_ext b s) (qs_rho xs)
  obtain ⟨cx, outs, hcx, hrun, hall⟩ := qt_any xs hL
  have hd : qe_dok E.2.2.2 qt_df := by rw [hE2]; exact qs_dok xs
  have hXX : zX (qZ E L) (fun q : Nat => s.heap.size ≤ q) s s.heap := by
    rw [qZ_X]
    show qw_X qw_Os E.2.2.1 L E.2.2.2 _ s s.heap
    rw [hE1, hE2]
    exact qs_X hL hts hX hbl hgv
  have hg := tq_main (dp := 7) (L := L) (E := E) hd 1000000 30 249 0 (qe_set qe_ls0 0 6) [] (0, qe_nil 7, cx, 0, 0) outs hrun
  rw [tq_0] at hg
  have hG : ∀ w ∈ qw_G, w.before #[Value.ref b] s = true := fun w hw => hts w (List.mem_filter.mp hw).1
  have hbd : qe_bd (zM (qZ E L) 249) p l s m #[Value.ref b] meth c := by
    rw [hM_L_law]
    refine ⟨hx, hb, hml, hr, fun w hw => ?_, hown, hlocks, fun h => absurd h (by decide), hst⟩
    rcases List.mem_cons.mp hw with q | q
    · rw [q]; exact hts _ qs_wl
    · exact hG w q
  have hT : zT (qZ E L) 249 c := by
    show c.exceptionTable.toList = tableOf (qw_hh 249)
    have h0 : c.exceptionTable.toList = [] := List.eq_nil_iff_forall_not_mem.mpr fun x hx => htab x hx
    rw [h0]
    rfl
  have hl := lv_entry ([.ref b]) (n := 8) (Nat.le_of_ble_eq_true rfl)
  rw [lg_entry_eq]
  generalize (lg_sl ([.ref b]) ++ List.replicate (8 - (lg_sl ([.ref b])).length) Slot.unset).toArray = ls at hl ⊢
  have hl : lv_has ls 8 [(0, .ref b)] := hl
  have hlh : qe_lh (zE (qZ E L)) (fun _ => 0) ls (zM (qZ E L) 249).2.2.1 (qe_set qe_ls0 0 6) := by
    rw [hM_L_law]
    refine ⟨hl.1, hl.2.1, fun i hi h7 => ?_⟩
    rw [qe_get_set _ _ _ _ (by decide)] at h7 ⊢
    by_cases hi0 : i = 0
    · rw [if_pos hi0]
      subst hi0
      have h9 := hl.2.2 (0, .ref b) List.mem_cons_self
      have e9 : qe_v (zE (qZ E L)) (fun _ => 0) 6 = .ref b := by
        show Value.ref (E.2.2.1 0) = .ref b
        rw [hE1]
        rfl
      rw [e9]
      exact h9
    · rw [if_neg hi0] at h7
      exact absurd (qe_ls0_7 i (Nat.lt_of_lt_of_le (show i < 8 from hi) (by decide))) h7
  have w := hg p l e room_1 s m #[Value.ref b] below meth c (fun q : Nat => s.heap.size ≤ q) s.heap [] ls (fun _ => 0) (fun _ => 0) 0 (fun _ _ o _ => o = .returned (some (.int 1))) (fun _ _ _ => False)
    ⟨hbd, ⟨Nat.le_of_ble_eq_true rfl, Nat.le_of_ble_eq_true rfl⟩, hK, hXX, fun q h => h, hT⟩
    ⟨(show va_P E.1 vwCl [] s.heap from fun k q h => by simp at h), (show va_D (fun q : Nat => s.heap.size ≤ q) [] from ⟨fun i j p q h => by simp at h, fun k q h => by simp at h⟩), va_S.rf, hlh, ⟨Nat.zero_le _, fun k h => absurd h (Nat.not_lt_zero k)⟩, fun i => ?_, fun v hv => (by cases hv), ?_, ⟨Nat.zero_le _, Nat.zero_le _⟩, Nat.le_refl _, fun _ _ => rfl⟩
    (fun o ho => ⟨⟨(hall o ho).2.1, (hall o ho).2.2⟩, fun ad2 H2 locs2 _ _ _ _ _ _ => ⟨fun h => ?_, fun _ _ t _ _ => ?_, fun i h => ?_⟩⟩)
  · intro T hT2 X
    obtain ⟨t, a1, oc, b1, b2, b3⟩ := w T hT2 X
    refine ⟨t, a1, oc, b1, b2, ?_⟩
    rcases b3 with ⟨c1, L2, c2, c3⟩ | ⟨q, -, E9, ce, L2, c1, -⟩
    · subst c1
      refine ⟨rfl, lw_closed (d0 := s.drawn) (Drawn.sameBut.refl s.drawn lw_cs) ⟨_, rfl⟩ c2.2.1 ?_⟩
      exact State.sameButNew.drop_fresh (L := []) (J := L2) c2.2.2 c3
    · exact absurd c1 id
  · rw [qe_get_set _ _ _ _ (by decide)]
    by_cases hi0 : i = 0
    · rw [if_pos hi0]
      intro h2 h3
      exact absurd h3 (by decide)
    · rw [if_neg hi0]
      exact qe_ls0_rb _ _
  · show qe_cok E.2.2.2 cx
    rw [hE2]
    exact hcx
  · rw [(hall o ho).1.1] at h
    cases h
  · show Outcome.returned (some (qe_v (zE (qZ E L)) ad2 (qo_v o))) = _
    rw [(hall o ho).1.2]
    rfl
  · rw [(hall o ho).1.1] at h
    omega
-- ===== YOUR PART ENDS =====
set_option maxHeartbeats 4000000 in
theorem lw_walk (l : Launch) (hflags : l.flags = flags0) (b : Addr) (xs : List Int32) : MetFree l x (headSpec (Jvm.Cond.code x code maxLocals ret :: tables_1) room_1) (lw_P b xs) (fun _ _ _ _ _ => True) lw_Q := by
  refine MetFree.of_bodyS (code := code) (maxLocals := maxLocals) (ret := ret) (by decide) ?_ ?_
  · intro args s m h hn
    obtain ⟨meth, c, h1, h2, h3, h4, h5, h6, -, -⟩ := Cond.code_spec hn (atoms_spec (ws := Jvm.Cond.code x code maxLocals ret :: tables_1) h _ List.mem_cons_self)
    exact ⟨meth, c, h1, h2, h3, h4, h5, h6⟩
  · intro p e s m args below meth c s₁ B hml0 hP _
    obtain ⟨rfl, hx, hbd, hgv⟩ := hP
    obtain ⟨scr, harrAt, hlist, hof, hsmall⟩ := hx
    obtain ⟨hcb, hkn, -, -⟩ := State.arrayAt?_spec harrAt
    have hown : s.vm.findClass R_law = some m.cls := findClass_of_methodNamed B.named
    have hts0 : ∀ c ∈ (Jvm.Cond.code x code maxLocals ret :: tables_1), c.before #[Value.ref b] s = true := atoms_spec (ws := Jvm.Cond.code x code maxLocals ret :: tables_1) B.pre
    have hts : ∀ w ∈ lw_tbl, w.before #[Value.ref b] s = true := k2_hts_sels lw_privs (fun w hw => hts0 w (List.mem_cons_of_mem _ hw)) lw_privs_ok
    have hml : c.maxLocals = 8 := B.maxLocals_eq (hts0 _ List.mem_cons_self)
    have X₀ : Stand p l e room_1 s m #[Value.ref b] below meth c s₁ [] 0 0 := Stand.of_body B
    have hh0 : s₁.heap = s.heap := by rw [B.state]; rfl
    have hsz : scr.slots.size = xs.length := by rw [← Array.length_toList, hlist, List.length_map]
    have hval : ∀ j : Nat, j < xs.length → scr.slots[j]? = some (.int (xs.getD j 0)) := fun j hj => by
      rw [← Array.getElem?_toList, hlist]
      simp [hj]
    have hbl : b < s.heap.size := (Array.getElem?_eq_some_iff.mp hcb).1
    have hX : va_X b xs.length (fun j => xs.getD j 0) s s.heap := ⟨scr, hcb, hof, hkn, hsz, hval⟩
    have htab : ∀ x ∈ c.exceptionTable.toList, False := by
      obtain ⟨meth9, c9, h1, h2, -, -, -, -, h7, -⟩ := Cond.code_spec B.named (hts0 _ List.mem_cons_self)
      cases Option.some.inj (h1.symm.trans B.method)
      cases Option.some.inj (h2.symm.trans (Stand.of_body B).code)
      intro x hx
      rw [Array.isEmpty_iff.mp h7] at hx
      cases hx
    have K : W p l e room_1 s m #[Value.ref b] below meth c s₁.heap [] 0 0 (lw_Z below #[Value.ref b] s) (entryFrame m ([Value.ref b] : List Value).toArray 8) := by
      rw [hh0]
      exact whole_start l hflags hbd ⟨B.exec, B.bytes, B.returns, hml, hown, hts, hX, hbl, B.notSynchronized, hgv, htab⟩
    obtain ⟨t, a1, o, b1, b2, b3⟩ := K s₁ rfl X₀
    exact ⟨t, o, a1, b1, b2, b3⟩
theorem lw_pre_spec {args : Array Value} {s : State} (h : (Jvm.Cond.and given_1 narrow_1).before args s = true) (hr : rest_1_c.before args s = true) : ∃ (b : Addr) (xs : List Int32), lw_P b xs args s := by
  have hs := flat_of_before _ h
  have hq := flat_of_before _ hr
  have hc : (Cond.count 1).before args s = true := hs _ (by decide +kernel)
  have harr : (Cond.arrayOf (.arg 0) .int).before args s = true := hs _ (by decide +kernel)
  have hle : (Cond.le (.length (.arg 0)) (.int 3)).before args s = true := hs _ (by decide +kernel)
  have hlen : (Cond.isInt (.length (.arg 0))).before args s = true := hq _ (by decide +kernel)
  have hall : (Cond.all (.arg 0) (.isInt (.elem (.arg 0) (.index 0)))).before args s = true := hq _ (by decide +kernel)
  obtain ⟨b, xs, hb, hx⟩ := State.ints_of_pre rfl harr hlen hall
  have hsm : xs.length < 2 ^ 31 := hx.choose_spec.2.2.2
  have hev : (Term.length (.arg 0)).eval args s none [] s = some (.int xs.length.toInt32) := hx.length_eval hb
  have hv := Cond.le_ints hev (show (Term.int 3).eval args s none [] s = some (.int 3) from rfl)
  have hd : xs.length.toInt32 ≤ 3 := by
    simpa [Cond.before, Cond.holds, hv] using hle
  have hN : xs.length ≤ 3 := (Int32.ofNat_le_ofNat hsm (by decide)).mp (show Int32.ofNat xs.length ≤ Int32.ofNat 3 from hd)
  exact ⟨b, xs, Cond.one_arg hc (show args[0]? = some (.ref b) from hb), hx, hN, h⟩
theorem lw_comes (l : Launch) (hflags : l.flags = flags0) : Comes l x (Jvm.Cond.code x code maxLocals ret :: tables_1) room_1 (fun tb e args s => Calls_1 tb e args s ∧ rest_1 tb e args s ∧ Pre_1 tb e args s)
    (fun _ _ args s o t => lw_Q args s o t) := by
  intro p e ha hc hk s m args below hf hfit hheap happ hpre
  obtain ⟨b, xs, hP⟩ := lw_pre_spec hpre.2.2 hpre.2.1
  obtain ⟨k, o, h1, h2, h3, hQ⟩ := lw_walk l hflags b xs p e ha hc hk s m args below hf ((Spec.applies_iff_loose hf).mp happ).1 hP trivial
  exact ⟨k, o, h1, h2, h3, hQ⟩
theorem lw_frame {s t : State} {o : Outcome} {args : Array Value} (h : State.butDraws s t lw_cs (fun t1 => Framed s o t1 [] 600006 7302000)) :
    State.butDraws s t [Jvm.Choice.named "NaN.bits"] (fun t1 => Framed s o t1 (fieldLocs frame_1_writes args s ++ arrayLocs frame_1_arrays args s ++ staticLocs frame_1_statics s) 600006 7302000) := h
theorem lw_limb (L : Cond) (hL : ∀ (args : Array Value) (s t : State), L.after args s (.returned (some (.int 1))) t = true) :
    ArmFor flags0 classFile x code maxLocals ret World_1 tables_1 room_1 Calls_1 rest_1 Pre_1
      (fun tb e a s o t => postC L tb e a s o t ∧ State.butDraws s t [Jvm.Choice.named "NaN.bits"] (fun t1 => Framed s o t1 (fieldLocs frame_1_writes a s ++ arrayLocs frame_1_arrays a s ++ staticLocs frame_1_statics s) 600006 7302000)) := by
  intro l hflags _ _ p e ha hc hk s m args below hf hfit hheap happ hpre
  obtain ⟨k, o, h1, h2, h3, rfl, hF⟩ := lw_comes l hflags p e ha hc hk s m args below hf hfit hheap happ hpre
  exact ⟨k, _, h1, h2, h3, hL args s _, lw_frame hF⟩
theorem i_vc : Claimed_1_1 ∧ Claimed_1_2 := ⟨lw_limb limb_1_1 (fun args s t => by simp [limb_1_1, Cond.after, Cond.holds, Cond.value]), lw_limb limb_1_2 (fun args s t => Cond.after_iff.mpr (by
  first | (rw [show limb_1_2 = Cond.eq .result (.int 1) from rfl, Cond.eq_ints (x := 1) (y := 1) rfl rfl]; simp; done) | (simp [limb_1_2, Cond.value, Term.eval]; done)))⟩
