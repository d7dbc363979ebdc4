/-! THE START, the rest 2: made by wip/engine/gen35.py -/
theorem qs_X {s : State} {b L : Nat} {xs : Nat → Int32} (hts : ∀ w ∈ lw_tbl, w.before #[Value.ref b] s = true) (hX : va_X b L xs s s.heap) (hbl : b < s.heap.size) (hgv : (Jvm.Cond.and given_1 narrow_1).before #[Value.ref b] s = true) : qw_X qw_Os (qs_ext b s) L xs (fun q => s.heap.size ≤ q) s s.heap := by
  have hA : ∀ a : Nat, a < s.heap.size → ¬ (fun q : Nat => s.heap.size ≤ q) a := fun a h => Nat.not_le.mpr h
  have hF := qs_Fb hgv
  refine ⟨⟨vx_Zqof (hts _ qs_w0) (hts _ qs_w1) (hF _ qs_f0) hA, vx_Zqof (hts _ qs_w2) (hts _ qs_w1) (hF _ qs_f1) hA⟩, ⟨fun q hq => va_Nw.of rfl (hts _ (qs_nest q hq)), fun q hq => va_Nw.of rfl (hts _ (qs_casts q hq)), fun y hy => va_Nw.of rfl (hts _ (qs_decls y hy)), fun q hq => va_Nc.of (hF _ (qs_ncs q hq))⟩, ⟨?_, hbl, hA b hbl⟩, va_Zof (hts _ qs_w3) (hts _ qs_w4) (va_eqi (hF _ qs_f2)) hA, fun q hq => ?_⟩
  · obtain ⟨scr, h1, h2, h3, h4, h5⟩ := hX
    exact ⟨scr, h1, h2, h3, h4, h5⟩
  · obtain ⟨i, N, h1, h2, ⟨r1, r2, r3, r4⟩, ⟨h4, h5⟩, h6⟩ := qs_strs q hq
    obtain ⟨a, e, h7⟩ := qs_str (hF _ r1) (hF _ r2) (hF _ r3) (hF _ r4) h4 h5 (hts _ h6) hA
    rw [h2, qs_ext_at h1 e]
    exact h7
theorem qs_arr {s : State} {args : Array Value} {ty : FieldType} (hno : ∀ C, ty ≠ .object C) (h : (Cond.arrayClass ty).before args s = true) : ∃ cA : ClassId, ArrOfT s cA ty ∧ s.vm.findClass ("[" ++ ty.toString) = some cA := by
  obtain ⟨c, k, comp, h1, h2, h3⟩ := Cond.arrayClass_spec (show (Cond.arrayClass ty).holds args s none s [] = true from h)
  exact ⟨c, fun n z => ⟨fun k h => (by cases h), k, h2, comp, h3⟩, h1⟩
theorem qs_cls {s : State} (cl : List vw_C) (h : ∀ q ∈ cl, ∃ (cC : ClassId) (iS : Nat → Nat), u_Kn s q.1 q.2.1 q.2.2 cC iS) : ∃ (dC : Nat → ClassId) (dI : Nat → Nat → Nat), ∀ (k : Nat) (q : vw_C), cl[k]? = some q → u_Kn s q.1 q.2.1 q.2.2 (dC k) (dI k) := by
  have h' : ∀ k : Nat, ∃ p : ClassId × (Nat → Nat), ∀ q : vw_C, cl[k]? = some q → u_Kn s q.1 q.2.1 q.2.2 p.1 p.2 := fun k => by
    cases hk : cl[k]? with
    | none => exact ⟨(0, fun _ => 0), fun q hq => (by cases hq)⟩
    | some q =>
      obtain ⟨cC, iS, hq⟩ := h q (List.mem_of_getElem? hk)
      exact ⟨(cC, iS), fun q2 e => (by cases e; exact hq)⟩
  exact ⟨fun k => (Classical.choose (h' k)).1, fun k => (Classical.choose (h' k)).2, fun k q hq => Classical.choose_spec (h' k) q hq⟩
