/-! THE RUN, 2c: what that call is -/
section QLM
noncomputable def wm_o : qe_O 10 := ([], 0, 0, 824, wt_Y, 375, 7500)
noncomputable def wm_F (jj ls : Nat) (g : qe_G 10) : Option (List (qe_O 10)) := cond ((Nat.beq jj 95 && Nat.beq ls (qe_lcl [418, 3586, 32, 0] 0 qe_ls0)) && ((Nat.beq (qg_n g) 449 && (Nat.beq (qg_ce g) 0 && Nat.beq (qg_sl g) 0)) && (List.isEmpty (qg_cx g) && qe_teq 10 (qg_t g) wt_X))) (some [wm_o]) none
noncomputable def wm_chk (x : Option (List (qe_O 10))) : Bool := Option.rec (motive := fun _ => Bool) false (fun l => List.rec (motive := fun _ => Bool) false (fun o os _ => List.rec (motive := fun _ => Bool) ((List.isEmpty (qo_cx o) && ck_o 0 0 824 375 7500 wt_Y o)) (fun _ _ _ => false) os) l) x
noncomputable def wm_ck : Bool := wm_chk (qe_run (qd_P [] 1500) 1000000 29 95 0 (qe_lcl [418, 3586, 32, 0] 0 qe_ls0) [] (449, wt_X, [], 0, 0))
theorem wm_run (h : wm_ck = true) : qe_run (qd_P [] 1500) 1000000 29 95 0 (qe_lcl [418, 3586, 32, 0] 0 qe_ls0) [] (449, wt_X, [], 0, 0) = some [wm_o] := by
  have h : wm_chk (qe_run (qd_P [] 1500) 1000000 29 95 0 (qe_lcl [418, 3586, 32, 0] 0 qe_ls0) [] (449, wt_X, [], 0, 0)) = true := h
  cases hr : qe_run (qd_P [] 1500) 1000000 29 95 0 (qe_lcl [418, 3586, 32, 0] 0 qe_ls0) [] (449, wt_X, [], 0, 0) with
  | none => rw [hr] at h; exact absurd (show false = true from h) Bool.false_ne_true
  | some l =>
    rw [hr] at h
    cases l with
    | nil => exact absurd (show false = true from h) Bool.false_ne_true
    | cons o os =>
      cases os with
      | cons b os => exact absurd (show false = true from h) Bool.false_ne_true
      | nil =>
        have h' : (List.isEmpty (qo_cx o) && ck_o 0 0 824 375 7500 wt_Y o) = true := h
        rw [Bool.and_eq_true] at h'
        obtain ⟨a1, a2, a3, a4, a5, a6⟩ := ck_o_ok h'.2
        have a0 : qo_cx o = [] := List.isEmpty_iff.mp h'.1
        obtain ⟨o1, o2, o3, o4, o5, o6, o7⟩ := o
        have b0 : o1 = [] := a0
        have b1 : o2 = 0 := a1
        have b2 : o3 = 0 := a2
        have b3 : o4 = 824 := a3
        have b4 : o6 = 375 := a4
        have b5 : o7 = 7500 := a5
        have b6 : o5 = wt_Y := a6
        rw [b0, b1, b2, b3, b4, b5, b6]
        rfl
end QLM
