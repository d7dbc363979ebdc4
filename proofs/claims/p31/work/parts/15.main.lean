/-! ENGINE, part 13: a method's contract out of its run; the engine is right -/
section QEMM
variable {dp : Nat}
theorem qe_lcl_args {E : qe_E} {ad : Nat → Nat} : ∀ (as : List Nat) (i0 ls : Nat), (∀ v ∈ as, v < 4722366482869645213696) → ∀ i, (qe_get (qe_lcl as i0 ls) i = qe_get ls i) ∨ ((∃ v ∈ as, qe_get (qe_lcl as i0 ls) i = v) ∧ (i, qe_v E ad (qe_get (qe_lcl as i0 ls) i)) ∈ lv_args i0 (as.map (qe_v E ad)))
  | [], i0, ls, _, i => Or.inl rfl
  | v :: as, i0, ls, hl, i => by
    have hv := hl v List.mem_cons_self
    have hu : qe_lcl (v :: as) i0 ls = qe_lcl as (cond (qe_is 1 v) (i0 + 2) (i0 + 1)) (qe_set ls i0 v) := rfl
    have hargs : lv_args i0 ((v :: as).map (qe_v E ad)) = (i0, qe_v E ad v) :: lv_args (cond (qe_is 1 v) (i0 + 2) (i0 + 1)) (as.map (qe_v E ad)) := by
      rw [List.map_cons]
      show (i0, qe_v E ad v) :: lv_args (if (qe_v E ad v).category = 2 then i0 + 2 else i0 + 1) _ = _
      cases h : qe_is 1 v
      · rw [if_neg (qe_cat h)]; rfl
      · have e : qe_v E ad v = .long (qe_lng E.2.2.2 v) := qe_val_lng h
        rw [e]; rfl
    rw [hu, hargs]
    rcases qe_lcl_args (E := E) (ad := ad) as (cond (qe_is 1 v) (i0 + 2) (i0 + 1)) (qe_set ls i0 v) (fun w hw => hl w (List.mem_cons_of_mem _ hw)) i with h | ⟨⟨w, h1, h2⟩, h3⟩
    · rw [h, qe_get_set _ _ _ _ hv]
      by_cases hi : i = i0
      · rw [if_pos hi]
        right
        exact ⟨⟨v, List.mem_cons_self, rfl⟩, by rw [hi]; exact List.mem_cons_self⟩
      · rw [if_neg hi]; exact Or.inl rfl
    · exact Or.inr ⟨⟨w, List.mem_cons_of_mem _ h1, h2⟩, List.mem_cons_of_mem _ h3⟩
theorem qe_ls0_7 : ∀ i, i < 24 → qe_get qe_ls0 i = 7 := by decide +kernel
theorem qe_ls0_big {i : Nat} (h : 24 ≤ i) : qe_get qe_ls0 i = 0 := qe_get_big (N := 24) (by decide +kernel) h
theorem qe_ls0_rb (n i : Nat) : qe_rb n (qe_get qe_ls0 i) := by
  rcases Nat.lt_or_ge i 24 with h | h
  · rw [qe_ls0_7 i h]; exact qe_rb_7
  · rw [qe_ls0_big h]; exact qe_rb_int rfl
theorem qx_body {Z : qe_Z} {d j : Nat} {as : List Nat} {n : Nat} {t : qe_T dp} {cx : qe_Cx} {outs : List (qe_O dp)} (hmb : qx_mb Z j) (hg : qx_goal Z d j 0 (qe_lcl as 0 qe_ls0) [] ((n, t, cx, 0, 0) : qe_G dp) outs) {l : Launch} {ad : Nat → Nat} {sz : Nat} (hl : l.stackTraces = false) (hwi : qe_wi dp n t) (has : ∀ v ∈ as, qe_rb n v ∧ v < 4722366482869645213696 ∧ v ≠ 7) (hcok : qe_cok (zE Z).2.2.2 cx) (hlen : (lg_sl (as.map (qe_v (zE Z) ad))).length ≤ (zM Z j).2.2.1)
    {p : Program} {e : Env} {s s₁ : State} {m : MethodId} {args : Array Value} {below : List Frame} {meth : Method} {c : Code}
    (B : BodyLoose p l (zM Z j).1 (headSpec (zM Z j).2.2.2.2.1 (qx_rm d (qe_mxc outs) (qe_mxs outs))) (zM Z j).2.1 (zM Z j).2.2.1 (zM Z j).2.2.2.1 e s m args below meth c s₁) (hml : c.maxLocals = (zM Z j).2.2.1) (hT : zT Z j c) (hP : va_Pc (as.map (qe_v (zE Z) ad)) (qx_P Z ad n t sz) args s) :
    W p l e (headSpec (zM Z j).2.2.2.2.1 (qx_rm d (qe_mxc outs) (qe_mxs outs))).room s m args below meth c s.heap [] 0 0 (vx_MQ below (qx_Q Z ad n t sz outs) (qx_X Z ad n t sz outs) args s (qe_mxc outs) (qe_mxs outs) (va_A (qe_ws dp (zE Z) ad n t) sz)) (entryFrame m args (zM Z j).2.2.1) := by
  obtain ⟨hargs, hsz, hP1, hK, hD, hX⟩ := hP
  subst hargs
  subst hsz
  have hst : qx_st Z d j p l s m (as.map (qe_v (zE Z) ad)).toArray meth c (qx_rm d (qe_mxc outs) (qe_mxs outs)) (va_A (qe_ws dp (zE Z) ad n t) s.heap.size) :=
    ⟨⟨B.exec, B.bytes, hml, B.returns, atoms_spec (ws := (zM Z j).2.2.2.2.1) B.pre, by rw [← hmb.2.2.1]; exact findClass_of_methodNamed B.named, B.notSynchronized, fun h => (name_of_methodNamed B.named B.method).1.trans h, hl⟩, ⟨Nat.le_refl _, Nat.le_refl _⟩, hK, hX, fun q hq => Or.inr hq, hT⟩
  have hlv := lv_entry (as.map (qe_v (zE Z) ad)) (n := (zM Z j).2.2.1) hlen
  rw [lg_entry_eq]
  have hlh : qe_lh (zE Z) ad ((lg_sl (as.map (qe_v (zE Z) ad)) ++ List.replicate ((zM Z j).2.2.1 - (lg_sl (as.map (qe_v (zE Z) ad))).length) Slot.unset).toArray) (zM Z j).2.2.1 (qe_lcl as 0 qe_ls0) := by
    refine ⟨hlv.1, hlv.2.1, fun i hi h7 => ?_⟩
    rcases qe_lcl_args (E := zE Z) (ad := ad) as 0 qe_ls0 (fun v hv => (has v hv).2.1) i with q | ⟨-, q⟩
    · rw [q, qe_ls0_7 i (Nat.lt_of_lt_of_le hi hmb.2.1)] at h7; exact absurd rfl h7
    · exact hlv.2.2 _ q
  have hrb : ∀ i, qe_rb n (qe_get (qe_lcl as 0 qe_ls0) i) := fun i => by
    rcases qe_lcl_args (E := zE Z) (ad := ad) as 0 qe_ls0 (fun v hv => (has v hv).2.1) i with q | ⟨⟨v, q1, q2⟩, -⟩
    · rw [q]; exact qe_ls0_rb n i
    · rw [q2]; exact (has v q1).1
  refine hg p l e _ s m _ below meth c (va_A (qe_ws dp (zE Z) ad n t) s.heap.size) s.heap [] _ ad ad n (qx_Q Z ad n t s.heap.size outs) (qx_X Z ad n t s.heap.size outs) hst ⟨hP1, hD.self, va_S.rf, hlh, hwi, hrb, fun v hv => (by cases hv), hcok, ⟨Nat.zero_le _, Nat.zero_le _⟩, Nat.le_refl _, fun _ _ => rfl⟩ ?_
  intro o ho
  refine ⟨⟨qe_mxc_ok o ho, qe_mxs_ok o ho⟩, fun ad2 H2 locs2 x1 x2 x3 x4 x5 x6 => ⟨fun hk t9 h9 hW => ?_, fun hk hrv t9 h9 hW => ?_, fun i hk t9 h9 hal => ?_⟩⟩
  · exact ⟨⟨o, ho, ad2, x1, x6, x5, by rw [h9]; exact x2, x3, Or.inl ⟨hk, rfl⟩⟩, x4.F h9⟩
  · exact ⟨⟨o, ho, ad2, x1, x6, x5, by rw [h9]; exact x2, x3, Or.inr ⟨hk, hrv, rfl⟩⟩, x4.F h9⟩
  · exact ⟨⟨o, ho, i, hk, rfl, ad2, x1, x6, x5, by rw [h9]; exact x2, x3⟩, x4.F h9⟩
theorem qx_entry {Z : qe_Z} {d j : Nat} {as : List Nat} {n : Nat} {t : qe_T dp} {cx : qe_Cx} {outs : List (qe_O dp)} (hmb : qx_mb Z j) (hg : qx_goal Z d j 0 (qe_lcl as 0 qe_ls0) [] ((n, t, cx, 0, 0) : qe_G dp) outs) : qx_con Z d j as n t cx outs := by
  intro l ad sz hl hwi has hcok hlen
  rcases hmb.2.2.2 with ⟨ws, hws, hT⟩ | ⟨ws, hh, hws, hT⟩
  · refine vx_ofW (cc := (zM Z j).2.1) (maxL := (zM Z j).2.2.1) (ret := (zM Z j).2.2.2.1) hmb.1 hws ?_
    intro p e s m args below meth c s₁ B hml htab hP
    exact qx_body hmb hg hl hwi has hcok hlen B hml (hT c htab) hP
  · refine vx_ofWH (cc := (zM Z j).2.1) (maxL := (zM Z j).2.2.1) (ret := (zM Z j).2.2.2.1) (hh := hh) hmb.1 hws ?_
    intro p e s m args below meth c s₁ B hml hP
    have htab : c.exceptionTable.toList = tableOf hh := vx_table (x := (zM Z j).1) B (atoms_spec (ws := (zM Z j).2.2.2.2.1) B.pre (Cond.codeWith (zM Z j).1 (zM Z j).2.1 (zM Z j).2.2.1 (zM Z j).2.2.2.1 hh) (by rw [hws]; exact List.mem_cons_self))
    exact qx_body hmb hg hl hwi has hcok hlen B hml (hT c htab) hP
/-- THE ENGINE IS RIGHT: where its blocks are -/
theorem qx_main {Z : qe_Z} {P : qe_P dp} (hP : ∀ j b, qx_sn Z j (zp Z j b) (Prod.fst (P j b))) (h0 : ∀ j, zp Z j 0 = 0) : ∀ (fuel d j : Nat), qx_k Z d j (qe_run P fuel d j)
  | 0, d, j => fun b ls st g outs h => by cases h
  | fuel + 1, d, j => fun b ls st g outs h => by
    have ih := qx_main hP h0 fuel
    refine hP j b (qe_run P fuel d j) (fun jj b2 ls2 st2 g2 => cond (Nat.beq d 0) none (qe_run P fuel (Nat.sub d 1) jj b2 ls2 st2 g2)) d (ih d j) ?_ ls st g outs h
    intro jj as n t cx o1 hmb h1
    cases hd : Nat.beq d 0
    · rw [hd] at h1
      have hd0 : d ≠ 0 := fun q => by rw [q] at hd; cases hd
      refine ⟨d - 1, by omega, qx_entry hmb ?_⟩
      have := ih (d - 1) jj 0 (qe_lcl as 0 qe_ls0) [] (n, t, cx, 0, 0) o1 h1
      rw [h0 jj] at this
      exact this
    · rw [hd] at h1; cases h1
end QEMM
