/-! THE LAW'S CONTRACT ON THE SCRIPT OF 500 CALLS -/
section QMT
def zq_P (b : Nat) (args : Array Value) (s : State) : Prop := args = #[Value.ref b] ∧ va_X b 1500 zq_xs s s.heap ∧ b < s.heap.size ∧ (Jvm.Cond.and given_1 narrow_1).before args s = true
set_option maxHeartbeats 4000000 in
theorem zq_met (l : Launch) (hflags : l.flags = flags0) (b : Nat) : Met l x (Jvm.Cond.code x code maxLocals ret :: tables_1) zq_R (zq_P b) zq_Q 400000 7400000 (fun _ => True) := by
  refine Met.ofW (cc := code) (maxL := maxLocals) (ret := ret) (by decide) rfl ?_
  intro p e s m args below meth c s₁ B hml hP
  obtain ⟨rfl, hX, hbl, hgv⟩ := hP
  have hst : l.stackTraces = false := by
    show (!l.flags.contains noTraceFlag) = false
    rw [hflags]
    decide +kernel
  have hown : s.vm.findClass RL = some m.cls := findClass_of_methodNamed B.named
  have hts0 : ∀ c ∈ (Jvm.Cond.code x code maxLocals ret :: tables_1), c.before #[Value.ref b] s = true := atoms_spec (ws := Jvm.Cond.code x code maxLocals ret :: tables_1) B.pre
  have hts : ∀ w ∈ lw_tbl, w.before #[Value.ref b] s = true := k2_hts_sels lw_privs (fun w hw => hts0 w (List.mem_cons_of_mem _ hw)) lw_privs_ok
  obtain ⟨E, hE1, hE2, hK⟩ := qs_K hts (qs_ext b s) zq_xs
  have hXX : zX (qZ E 1500) (fun q : Nat => s.heap.size ≤ q) s s.heap := by
    rw [qZ_X]
    show qw_X qw_Os E.2.2.1 1500 E.2.2.2 _ s s.heap
    rw [hE1, hE2]
    exact qs_X hts hX hbl hgv
  have hG : ∀ w ∈ qw_G, w.before #[Value.ref b] s = true := fun w hw => hts w (List.mem_filter.mp hw).1
  have hbd : qe_bd qB_L_law p l s m #[Value.ref b] meth c := by
    refine ⟨B.exec, B.bytes, hml, B.returns, fun w hw => ?_, hown, B.notSynchronized, fun h => absurd h (by decide), hst⟩
    rcases List.mem_cons.mp hw with q | q
    · rw [q]; exact hts _ qs_wl
    · exact hG w q
  have C0 : lw_cx E p l e zq_R s m #[Value.ref b] below meth c (fun q : Nat => s.heap.size ≤ q) := ⟨hbd, hK, hXX, fun q h => h, by decide, by decide⟩
  have hl := lv_entry ([.ref b]) (n := 8) (Nat.le_of_ble_eq_true rfl)
  show W p l e zq_R s m #[Value.ref b] below meth c s.heap [] 0 0 (MQ below zq_Q #[Value.ref b] s 400000 7400000 (fun _ => True)) (entryFrame m ([Value.ref b] : List Value).toArray 8)
  rw [lg_entry_eq]
  generalize (lg_sl ([.ref b]) ++ List.replicate (8 - (lg_sl ([.ref b])).length) Slot.unset).toArray = ls at hl ⊢
  have hl : lv_has ls 8 [(0, .ref b)] := hl
  have hb0 : E.2.2.1 0 = b := by rw [hE1]; rfl
  rw [← hb0] at hl
  have K := zq_run C0 (fun q h => h) hE2 hl
  intro T hT X
  obtain ⟨t, a1, o, b1, b2, b3, L, b4, b5⟩ := K T hT X
  exact ⟨t, a1, o, b1, b2, b3, L, b4, fun _ _ => trivial⟩
/-- an invocation ends once -/
theorem lz_we {s : State} {below : List Frame} {o : Outcome} (h1 : Within s below) (h2 : Ended s below o) : False := by
  obtain ⟨above, e1, n1, n2⟩ := h1
  have hlen : 0 < above.length := List.length_pos_iff.mpr n1
  have key : ∀ fs : List Frame, s.frames = fs → fs.length = below.length → False := fun fs e hl => by
    rw [e1] at e
    rw [← e, List.length_append] at hl
    omega
  cases o with
  | threw a =>
    have e2 : s.frames = .throwing a :: below := h2
    rw [e1] at e2
    have e3 : above ++ below = [Frame.throwing a] ++ below := e2
    exact n2 a (List.append_cancel_right e3)
  | returned v =>
    cases below with
    | nil =>
      have e2 : v = none ∧ s.frames = [] := h2
      exact key _ e2.2 rfl
    | cons f r =>
      cases f with
      | java g =>
        have e2 : ∃ c i len, s.code? g.method = some c ∧ decode c.code g.pc = .ok (i, len) ∧ s.frames = .java { g with pc := g.pc + len, stack := v.toList ++ g.stack } :: r := h2
        obtain ⟨c, i, len, -, -, e3⟩ := e2
        exact key _ e3 rfl
      | native g =>
        have e2 : s.frames = .native { g with awaiting := false, answer := some (.returned v) } :: r := h2
        exact key _ e2 rfl
      | proc g =>
        have e2 : s.frames = .proc { g with awaiting := false, answer := some (.returned v) } :: r := h2
        exact key _ e2 rfl
      | _ =>
        have e2 : v = none ∧ s.frames = _ := h2
        exact key _ e2.2 rfl
theorem lz_once {tb : Tables} {e : Env} {s : State} {below : List Frame} {n1 n2 : Nat} {o1 o2 : Outcome} (w1 : ∀ k, k < n1 → Within (stepsAlone tb e k s) below) (e1 : Ended (stepsAlone tb e n1 s) below o1) (w2 : ∀ k, k < n2 → Within (stepsAlone tb e k s) below) (e2 : Ended (stepsAlone tb e n2 s) below o2) : n1 = n2 := by
  rcases Nat.lt_trichotomy n1 n2 with h | h | h
  · exact (lz_we (w2 n1 h) e1).elim
  · exact h
  · exact (lz_we (w1 n2 h) e2).elim
end QMT
