/-! THE RUN, 2c: what that call is -/
section QLM
theorem wm_ok (h : wm_ck = true) {E : qe_E} (jj ls : Nat) (g : qe_G 10) (outs : List (qe_O 10)) (hF : wm_F jj ls g = some outs) : qx_goal (qZ E 1500) 29 jj 0 ls [] g outs := by
  unfold wm_F at hF
  obtain ⟨h1, h2⟩ := qe_if_ok hF
  simp only [Bool.and_eq_true] at h1
  obtain ⟨⟨c1, c2⟩, ⟨c3, c4, c5⟩, c6, c7⟩ := h1
  obtain rfl := Option.some.inj h2
  obtain ⟨g1, g2, g3, g4, g5⟩ := g
  have e1 : g1 = 449 := Nat.eq_of_beq_eq_true c3
  have e2 : g2 = wt_X := qe_teq_ok 10 _ _ c7
  have e3 : g3 = [] := List.isEmpty_iff.mp c6
  have e4 : g4 = 0 := Nat.eq_of_beq_eq_true c4
  have e5 : g5 = 0 := Nat.eq_of_beq_eq_true c5
  rw [e1, e2, e3, e4, e5, Nat.eq_of_beq_eq_true c1, Nat.eq_of_beq_eq_true c2]
  have hd : qe_dok E.2.2.2 [] := fun q hq => absurd hq List.not_mem_nil
  have := tq_main (E := E) (L := 1500) hd 1000000 29 95 0 (qe_lcl [418, 3586, 32, 0] 0 qe_ls0) [] _ _ (wm_run h)
  rw [tq_0] at this
  exact this
theorem lw_conM (h : wm_ck = true) {E : qe_E} {jj n : Nat} {as : List Nat} {t : qe_T 10} {outs : List (qe_O 10)} (hmb : qx_mb (qZ E 1500) jj) (f : qe_runM (qd_P [] 1500) wm_F 29 1000000 30 jj 0 (qe_lcl as 0 qe_ls0) [] (n, t, [], 0, 0) = some outs) : qx_con (qZ E 1500) 30 jj as n t [] outs := by
  have hd : qe_dok E.2.2.2 [] := fun q hq => absurd hq List.not_mem_nil
  have h2 := qx_mainM (tq_P hd) (tq_0 E 1500) (wm_ok h (E := E)) 1000000 30 jj 0 _ [] _ outs f
  rw [tq_0] at h2
  exact qx_entry hmb h2
end QLM
