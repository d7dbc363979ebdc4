/-! ENGINE, part 14: the rows of calls; made by wip/engine/gen18.py -/
section QEI
theorem qw_good {k w : Cond} (h : w ∈ qw_G) : GoodIn (k :: qw_G) (w :: qw_G) := by
  intro x hx
  have hx2 : x ∈ qw_G := by
    rcases List.mem_cons.mp hx with e | e
    · rw [e]; exact h
    · exact e
  exact ⟨List.mem_cons_of_mem _ hx2, good_of_word (List.mem_filter.mp hx2).2⟩
theorem qw_goodN {Ts : List Cond} {w : Cond} (hin : ∀ x ∈ qw_G, x ∈ Ts) (h : w ∈ qw_G) : GoodIn Ts (w :: qw_G) := by
  intro x hx
  have hx2 : x ∈ qw_G := by
    rcases List.mem_cons.mp hx with e | e
    · rw [e]; exact h
    · exact e
  exact ⟨hin _ hx2, good_of_word (List.mem_filter.mp hx2).2⟩
def qw_d (y : MethodName) (n : Nat) : Prop := y.cls ≠ "java/lang/invoke/MethodHandle" ∧ y.cls ≠ "java/lang/invoke/VarHandle" ∧ (parseMethodDescriptor y.desc).map (fun d => d.parameters.length) = some n
theorem qk_invV {Z : qe_Z} {j pc idx jj n rc maxL : Nat} {y : MethodName} {bytes : ByteArray} {ret : Option FieldType} (hin : ∀ w ∈ qw_G, w ∈ (zM Z j).2.2.2.2.1) (hjj : zM Z jj = (y, bytes, maxL, ret, Cond.code y bytes maxL ret :: qw_G, y.cls)) (h : decode (zM Z j).2.1 pc = .ok (.invokevirtual idx, 3)) (w1 : Cond.methodLink (zM Z j).2.2.2.2.2 idx y ∈ qw_G) (w2 : Cond.instanceMethod y ∈ qw_G) (w3 : Cond.selects y.cls y y ∈ qw_G) (w4 : Cond.initialized y.cls ∈ qw_G) (w5 : Cond.code y bytes maxL ret ∈ qw_G) (hd : qw_d y n) (hrc : rc ≠ 0) (hq : ∃ T N, (zc Z)[rc - 1]? = some (y.cls, T, N)) : qc_inv Z j pc (pc + 3) jj (n + 1) rc := by
  intro p l e R s m args below meth c H locs cells slots la rest As rm Pc Qc XC mc ms free A hB hX hM hrm1 hrm2 hfr hlo hbl hrcv hPc hlen hsz hrest hcs
  rw [hjj] at hM hlo
  refine ⟨rfl, ?_⟩
  have hT : ∀ w ∈ qw_G, w.before args s = true := fun w hw => hB.2.2.2.2.1 w (hin w hw)
  have S : CallFix p m c (zM Z j).2.1 (zM Z j).2.2.1 s args (zM Z j).2.2.2.2.1 (zM Z j).2.2.2.2.2 := ⟨hB.1, hB.2.1, hB.2.2.1, hB.2.2.2.2.2.1, hB.2.2.2.2.1⟩
  have hG := qw_goodN hin w5
  rcases hrcv with h0 | ⟨a, As2, q, eAs, hq2, cell, hcell, hst, hcl⟩
  · exact absurd h0 hrc
  · obtain ⟨Tq, Nq, hq3⟩ := hq
    have eq : q.1 = y.cls := by have := Option.some.inj (hq2.symm.trans hq3); rw [this]
    rw [eq] at hcl
    subst eAs
    have hlen2 : As2.length = n := by have : As2.length + 1 = n + 1 := hlen; omega
    exact vx_runV S hM ⟨callB_of n hB.2.2.2.2.1 hG rfl hrm1 hrm2 (hT _ w4) (hT _ w1) hd ⟨hfr, hlo⟩, hT _ w2, hT _ w3⟩ ⟨hbl, ⟨cell, hcell, hst, hcl⟩, hPc⟩ (g := F0 m pc la ((Value.ref a :: As2).reverse ++ rest)) rfl hlen2 (hsz.trans hB.2.2.1) (by show (Value.ref a :: As2).reverse ++ rest = As2.reverse ++ Value.ref a :: rest; rw [List.reverse_cons, List.append_assoc]; rfl) (by show 2 * 0 + (rest.map fun v => v.category).sum ≤ 8; have : (rest.map fun v => v.category).sum ≤ 8 := hrest; omega) h hcs
theorem qk_invS {Z : qe_Z} {j pc idx jj n rc maxL : Nat} {y : MethodName} {bytes : ByteArray} {ret : Option FieldType} (hin : ∀ w ∈ qw_G, w ∈ (zM Z j).2.2.2.2.1) (hjj : zM Z jj = (y, bytes, maxL, ret, Cond.code y bytes maxL ret :: qw_G, y.cls)) (h : decode (zM Z j).2.1 pc = .ok (.invokestatic idx, 3)) (w1 : Cond.methodLink (zM Z j).2.2.2.2.2 idx y ∈ qw_G) (w2 : Cond.static y ∈ qw_G) (w4 : Cond.initialized y.cls ∈ qw_G) (w5 : Cond.code y bytes maxL ret ∈ qw_G) (hd : qw_d y n) : qc_inv Z j pc (pc + 3) jj n 0 := by
  intro p l e R s m args below meth c H locs cells slots la rest As rm Pc Qc XC mc ms free A hB hX hM hrm1 hrm2 hfr hlo hbl hrcv hPc hlen hsz hrest hcs
  rw [hjj] at hM hlo
  refine ⟨rfl, ?_⟩
  have hT : ∀ w ∈ qw_G, w.before args s = true := fun w hw => hB.2.2.2.2.1 w (hin w hw)
  have S : CallFix p m c (zM Z j).2.1 (zM Z j).2.2.1 s args (zM Z j).2.2.2.2.1 (zM Z j).2.2.2.2.2 := ⟨hB.1, hB.2.1, hB.2.2.1, hB.2.2.2.2.2.1, hB.2.2.2.2.1⟩
  have hG := qw_goodN hin w5
  exact vx_runS S hM ⟨callB_of n hB.2.2.2.2.1 hG rfl hrm1 hrm2 (hT _ w4) (hT _ w1) hd ⟨hfr, hlo⟩, hT _ w2⟩ ⟨hbl, hPc⟩ (g := F0 m pc la (As.reverse ++ rest)) rfl hlen (hsz.trans hB.2.2.1) rfl (by show 2 * 0 + (rest.map fun v => v.category).sum ≤ 8; have : (rest.map fun v => v.category).sum ≤ 8 := hrest; omega) h hcs
theorem qk_invI {Z : qe_Z} {j pc idx jj n rc maxL : Nat} {y : MethodName} {bytes : ByteArray} (hin : ∀ w ∈ qw_G, w ∈ (zM Z j).2.2.2.2.1) (hjj : zM Z jj = (y, bytes, maxL, none, Cond.code y bytes maxL none :: qw_G, y.cls)) (h : decode (zM Z j).2.1 pc = .ok (.invokespecial idx, 3)) (w1 : Cond.methodLink (zM Z j).2.2.2.2.2 idx y ∈ qw_G) (w2 : Cond.instanceMethod y ∈ qw_G) (w3 : y.name = "<init>") (w4 : Cond.initialized y.cls ∈ qw_G) (w5 : Cond.code y bytes maxL none ∈ qw_G) (hd : qw_d y n) (hrc : rc ≠ 0) (hq : ∃ T N, (zc Z)[rc - 1]? = some (y.cls, T, N)) : qc_inv Z j pc (pc + 3) jj (n + 1) rc := by
  intro p l e R s m args below meth c H locs cells slots la rest As rm Pc Qc XC mc ms free A hB hX hM hrm1 hrm2 hfr hlo hbl hrcv hPc hlen hsz hrest hcs
  rw [hjj] at hM hlo
  refine ⟨rfl, ?_⟩
  have hT : ∀ w ∈ qw_G, w.before args s = true := fun w hw => hB.2.2.2.2.1 w (hin w hw)
  have S : CallFix p m c (zM Z j).2.1 (zM Z j).2.2.1 s args (zM Z j).2.2.2.2.1 (zM Z j).2.2.2.2.2 := ⟨hB.1, hB.2.1, hB.2.2.1, hB.2.2.2.2.2.1, hB.2.2.2.2.1⟩
  have hG := qw_goodN hin w5
  rcases hrcv with h0 | ⟨a, As2, q, eAs, hq2, cell, hcell, hst, hcl⟩
  · exact absurd h0 hrc
  · obtain ⟨Tq, Nq, hq3⟩ := hq
    have eq : q.1 = y.cls := by have := Option.some.inj (hq2.symm.trans hq3); rw [this]
    rw [eq] at hcl
    subst eAs
    have hlen2 : As2.length = n := by have : As2.length + 1 = n + 1 := hlen; omega
    exact vx_runI S hM ⟨callB_of n hB.2.2.2.2.1 hG rfl hrm1 hrm2 (hT _ w4) (hT _ w1) hd ⟨hfr, hlo⟩, w3, hT _ w2⟩ ⟨hbl, hPc⟩ (g := F0 m pc la ((Value.ref a :: As2).reverse ++ rest)) rfl hlen2 (hsz.trans hB.2.2.1) (by show (Value.ref a :: As2).reverse ++ rest = As2.reverse ++ Value.ref a :: rest; rw [List.reverse_cons, List.append_assoc]; rfl) (by show 2 * 0 + (rest.map fun v => v.category).sum ≤ 8; have : (rest.map fun v => v.category).sum ≤ 8 := hrest; omega) h hcs
theorem qk_invSX {Z : qe_Z} {j pc idx jj n rc maxL : Nat} {y : MethodName} {bytes : ByteArray} {ret : Option FieldType} {hh : List (Nat × Nat × Nat × Nat)} (hin : ∀ w ∈ qw_G, w ∈ (zM Z j).2.2.2.2.1) (hjj : zM Z jj = (y, bytes, maxL, ret, Cond.codeWith y bytes maxL ret hh :: qw_G, y.cls)) (h : decode (zM Z j).2.1 pc = .ok (.invokestatic idx, 3)) (w1 : Cond.methodLink (zM Z j).2.2.2.2.2 idx y ∈ qw_G) (w2 : Cond.static y ∈ qw_G) (w4 : Cond.initialized y.cls ∈ qw_G) (w5 : Cond.codeWith y bytes maxL ret hh ∈ qw_G) (hd : qw_d y n) : qc_inv Z j pc (pc + 3) jj n 0 := by
  intro p l e R s m args below meth c H locs cells slots la rest As rm Pc Qc XC mc ms free A hB hX hM hrm1 hrm2 hfr hlo hbl hrcv hPc hlen hsz hrest hcs
  rw [hjj] at hM hlo
  refine ⟨rfl, ?_⟩
  have hT : ∀ w ∈ qw_G, w.before args s = true := fun w hw => hB.2.2.2.2.1 w (hin w hw)
  have S : CallFix p m c (zM Z j).2.1 (zM Z j).2.2.1 s args (zM Z j).2.2.2.2.1 (zM Z j).2.2.2.2.2 := ⟨hB.1, hB.2.1, hB.2.2.1, hB.2.2.2.2.2.1, hB.2.2.2.2.1⟩
  have hG := qw_goodN hin w5
  exact vx_runSX S hM ⟨⟨hrm1, hrm2, hfr, hlo, pay_in hB.2.2.2.2.1 hG, List.mem_cons_self⟩, hT _ w5, hT _ w4, ⟨hd.1, hd.2.1⟩, fun sig hs => (Option.some.inj ((by rw [← hd.2.2, hs]; rfl : some sig.parameters.length = some n))).symm, hT _ w1, hT _ w2⟩ ⟨hbl, hPc⟩ (g := F0 m pc la (As.reverse ++ rest)) rfl hlen (hsz.trans hB.2.2.1) rfl (by show 2 * 0 + (rest.map fun v => v.category).sum ≤ 8; have : (rest.map fun v => v.category).sum ≤ 8 := hrest; omega) h hcs
theorem qk_invSN {Z : qe_Z} {j pc idx jj n rc maxL : Nat} {y : MethodName} {bytes : ByteArray} {ret : Option FieldType} {host : String} (hin : ∀ w ∈ qw_G, w ∈ (zM Z j).2.2.2.2.1) (hjj : zM Z jj = (y, bytes, maxL, ret, Cond.code y bytes maxL ret :: qw_G, y.cls)) (h : decode (zM Z j).2.1 pc = .ok (.invokestatic idx, 3)) (w1 : ∀ (A : Nat → Prop) (s : State) (H : Heap), zX Z A s H → va_Nw (.methodLinkNest (zM Z j).2.2.2.2.2 idx y host) s) (w2 : Cond.static y ∈ qw_G) (w4 : Cond.initialized y.cls ∈ qw_G) (w5 : Cond.code y bytes maxL ret ∈ qw_G) (hd : qw_d y n) : qc_inv Z j pc (pc + 3) jj n 0 := by
  intro p l e R s m args below meth c H locs cells slots la rest As rm Pc Qc XC mc ms free A hB hX hM hrm1 hrm2 hfr hlo hbl hrcv hPc hlen hsz hrest hcs
  rw [hjj] at hM hlo
  refine ⟨rfl, ?_⟩
  have hT : ∀ w ∈ qw_G, w.before args s = true := fun w hw => hB.2.2.2.2.1 w (hin w hw)
  have S : CallFix p m c (zM Z j).2.1 (zM Z j).2.2.1 s args (zM Z j).2.2.2.2.1 (zM Z j).2.2.2.2.2 := ⟨hB.1, hB.2.1, hB.2.2.1, hB.2.2.2.2.2.1, hB.2.2.2.2.1⟩
  have hG := qw_goodN hin w5
  exact vx_runSN S hM ⟨va_cnB n hB.2.2.2.2.1 hG rfl hrm1 hrm2 (w1 A s s.heap hX) (hT _ w4) hd ⟨hfr, hlo⟩, hT _ w2, trivial⟩ ⟨hbl, hPc⟩ (g := F0 m pc la (As.reverse ++ rest)) rfl hlen (hsz.trans hB.2.2.1) rfl (by show 2 * 0 + (rest.map fun v => v.category).sum ≤ 8; have : (rest.map fun v => v.category).sum ≤ 8 := hrest; omega) h hcs
theorem qk_invIN {Z : qe_Z} {j pc idx jj n rc maxL : Nat} {y : MethodName} {bytes : ByteArray} {host : String} (hin : ∀ w ∈ qw_G, w ∈ (zM Z j).2.2.2.2.1) (hjj : zM Z jj = (y, bytes, maxL, none, Cond.code y bytes maxL none :: qw_G, y.cls)) (h : decode (zM Z j).2.1 pc = .ok (.invokespecial idx, 3)) (w1 : ∀ (A : Nat → Prop) (s : State) (H : Heap), zX Z A s H → va_Nw (.methodLinkNest (zM Z j).2.2.2.2.2 idx y host) s) (w2 : Cond.instanceMethod y ∈ qw_G) (w3 : y.name = "<init>") (w4 : Cond.initialized y.cls ∈ qw_G) (w5 : Cond.code y bytes maxL none ∈ qw_G) (hd : qw_d y n) (hrc : rc ≠ 0) (hq : ∃ T N, (zc Z)[rc - 1]? = some (y.cls, T, N)) : qc_inv Z j pc (pc + 3) jj (n + 1) rc := by
  intro p l e R s m args below meth c H locs cells slots la rest As rm Pc Qc XC mc ms free A hB hX hM hrm1 hrm2 hfr hlo hbl hrcv hPc hlen hsz hrest hcs
  rw [hjj] at hM hlo
  refine ⟨rfl, ?_⟩
  have hT : ∀ w ∈ qw_G, w.before args s = true := fun w hw => hB.2.2.2.2.1 w (hin w hw)
  have S : CallFix p m c (zM Z j).2.1 (zM Z j).2.2.1 s args (zM Z j).2.2.2.2.1 (zM Z j).2.2.2.2.2 := ⟨hB.1, hB.2.1, hB.2.2.1, hB.2.2.2.2.2.1, hB.2.2.2.2.1⟩
  have hG := qw_goodN hin w5
  rcases hrcv with h0 | ⟨a, As2, q, eAs, hq2, cell, hcell, hst, hcl⟩
  · exact absurd h0 hrc
  · obtain ⟨Tq, Nq, hq3⟩ := hq
    have eq : q.1 = y.cls := by have := Option.some.inj (hq2.symm.trans hq3); rw [this]
    rw [eq] at hcl
    subst eAs
    have hlen2 : As2.length = n := by have : As2.length + 1 = n + 1 := hlen; omega
    exact vx_runIN S hM ⟨va_cnB n hB.2.2.2.2.1 hG rfl hrm1 hrm2 (w1 A s s.heap hX) (hT _ w4) hd ⟨hfr, hlo⟩, w3, hT _ w2⟩ ⟨hbl, hPc⟩ (g := F0 m pc la ((Value.ref a :: As2).reverse ++ rest)) rfl hlen2 (hsz.trans hB.2.2.1) (by show (Value.ref a :: As2).reverse ++ rest = As2.reverse ++ Value.ref a :: rest; rw [List.reverse_cons, List.append_assoc]; rfl) (by show 2 * 0 + (rest.map fun v => v.category).sum ≤ 8; have : (rest.map fun v => v.category).sum ≤ 8 := hrest; omega) h hcs
theorem qk_invVN {Z : qe_Z} {j pc idx jj n rc maxL : Nat} {y : MethodName} {bytes : ByteArray} {ret : Option FieldType} {host : String} (hin : ∀ w ∈ qw_G, w ∈ (zM Z j).2.2.2.2.1) (hjj : zM Z jj = (y, bytes, maxL, ret, Cond.code y bytes maxL ret :: qw_G, y.cls)) (h : decode (zM Z j).2.1 pc = .ok (.invokevirtual idx, 3)) (w1 : ∀ (A : Nat → Prop) (s : State) (H : Heap), zX Z A s H → va_Nw (.methodLinkNest (zM Z j).2.2.2.2.2 idx y host) s) (w2 : Cond.instanceMethod y ∈ qw_G) (w3 : Cond.selects y.cls y y ∈ qw_G) (w4 : Cond.initialized y.cls ∈ qw_G) (w5 : Cond.code y bytes maxL ret ∈ qw_G) (hd : qw_d y n) (hrc : rc ≠ 0) (hq : ∃ T N, (zc Z)[rc - 1]? = some (y.cls, T, N)) : qc_inv Z j pc (pc + 3) jj (n + 1) rc := by
  intro p l e R s m args below meth c H locs cells slots la rest As rm Pc Qc XC mc ms free A hB hX hM hrm1 hrm2 hfr hlo hbl hrcv hPc hlen hsz hrest hcs
  rw [hjj] at hM hlo
  refine ⟨rfl, ?_⟩
  have hT : ∀ w ∈ qw_G, w.before args s = true := fun w hw => hB.2.2.2.2.1 w (hin w hw)
  have S : CallFix p m c (zM Z j).2.1 (zM Z j).2.2.1 s args (zM Z j).2.2.2.2.1 (zM Z j).2.2.2.2.2 := ⟨hB.1, hB.2.1, hB.2.2.1, hB.2.2.2.2.2.1, hB.2.2.2.2.1⟩
  have hG := qw_goodN hin w5
  rcases hrcv with h0 | ⟨a, As2, q, eAs, hq2, cell, hcell, hst, hcl⟩
  · exact absurd h0 hrc
  · obtain ⟨Tq, Nq, hq3⟩ := hq
    have eq : q.1 = y.cls := by have := Option.some.inj (hq2.symm.trans hq3); rw [this]
    rw [eq] at hcl
    subst eAs
    have hlen2 : As2.length = n := by have : As2.length + 1 = n + 1 := hlen; omega
    exact vx_runVN S hM ⟨va_cnB n hB.2.2.2.2.1 hG rfl hrm1 hrm2 (w1 A s s.heap hX) (hT _ w4) hd ⟨hfr, hlo⟩, hT _ w2, hT _ w3⟩ ⟨hbl, ⟨cell, hcell, hst, hcl⟩, hPc⟩ (g := F0 m pc la ((Value.ref a :: As2).reverse ++ rest)) rfl hlen2 (hsz.trans hB.2.2.1) (by show (Value.ref a :: As2).reverse ++ rest = As2.reverse ++ Value.ref a :: rest; rw [List.reverse_cons, List.append_assoc]; rfl) (by show 2 * 0 + (rest.map fun v => v.category).sum ≤ 8; have : (rest.map fun v => v.category).sum ≤ 8 := hrest; omega) h hcs
end QEI
