/-! THE RUN, 2: the calls by the kernel; made by wip/engine/gen43.py -/
section QLE
/-- one call's end: kind, value, cells' number, the world, nothing made -/
noncomputable def ck_o (k v n ce sl : Nat) (t : qe_T 10) (o : qe_O 10) : Bool := (Nat.beq (qo_k o) k && (Nat.beq (qo_v o) v && Nat.beq (qo_n o) n)) && ((Nat.beq (qo_ce o) ce && Nat.beq (qo_sl o) sl) && qe_teq 10 (qo_t o) t)
noncomputable def ck_run (jj : Nat) (as : List Nat) (n : Nat) (t : qe_T 10) (f : qe_O 10 → Bool) : Bool := Option.rec (motive := fun _ => Bool) false (fun l => List.rec (motive := fun _ => Bool) false (fun o os _ => List.rec (motive := fun _ => Bool) (f o) (fun _ _ _ => false) os) l) (qe_run (qd_P [] 1500) 1000000 30 jj 0 (qe_lcl as 0 qe_ls0) [] (n, t, [], 0, 0))
theorem ck_run_ok {jj n : Nat} {as : List Nat} {t : qe_T 10} {f : qe_O 10 → Bool} (h : ck_run jj as n t f = true) : ∃ o, qe_run (qd_P [] 1500) 1000000 30 jj 0 (qe_lcl as 0 qe_ls0) [] (n, t, [], 0, 0) = some [o] ∧ f o = true := by
  unfold ck_run at h
  cases hr : qe_run (qd_P [] 1500) 1000000 30 jj 0 (qe_lcl as 0 qe_ls0) [] (n, t, [], 0, 0) with
  | none => rw [hr] at h; cases h
  | some l =>
    rw [hr] at h
    cases l with
    | nil => cases h
    | cons o os =>
      cases os with
      | nil => exact ⟨o, rfl, h⟩
      | cons b os => cases h
theorem ck_o_ok {k v n ce sl : Nat} {t : qe_T 10} {o : qe_O 10} (h : ck_o k v n ce sl t o = true) : qo_k o = k ∧ qo_v o = v ∧ qo_n o = n ∧ qo_ce o = ce ∧ qo_sl o = sl ∧ qo_t o = t := by
  unfold ck_o at h
  simp only [Bool.and_eq_true] at h
  obtain ⟨⟨h1, h2, h3⟩, ⟨h4, h5⟩, h6⟩ := h
  exact ⟨Nat.eq_of_beq_eq_true h1, Nat.eq_of_beq_eq_true h2, Nat.eq_of_beq_eq_true h3, Nat.eq_of_beq_eq_true h4, Nat.eq_of_beq_eq_true h5, qe_teq_ok 10 _ _ h6⟩
noncomputable def ck_go : Bool := Option.rec (motive := fun _ => Bool) false (fun r => Nat.beq r.1 70 && qe_teq 10 r.2 wt_S) (sf_go wl_calls 70 wt_Z)
def ck_3 (o : qe_O 10) (f : qe_O 10 → Bool) : Bool := f o
theorem ck_3_ok {o : qe_O 10} {f : qe_O 10 → Bool} (h : ck_3 o f = true) : ∃ o3, some o = some o3 ∧ f o3 = true := ⟨o, rfl, h⟩
/-- the reference's trees: what it leaves -/
noncomputable def ck_tail (t : qe_T 10) : Bool := ck_run 96 [418, qe_I 0] 70 t fun o2 => ((Nat.beq (qo_k o2) 1 && Nat.beq (qo_v o2) 16) && ((Nat.beq (qo_n o2) 828 && Nat.beq (qe_rd 10 (qo_t o2) 52).1 12) && (Nat.beq (qo_ce o2) 758 && Nat.beq (qo_sl o2) 15160))) && ck_3 (qo_3 o2) fun o3 => ((Nat.beq (qo_k o3) 1 && Nat.beq (qo_v o3) 0) && (Nat.beq (qo_n o3) 828 && (Nat.beq (qo_ce o3) 0 && Nat.beq (qo_sl o3) 0))) && (((Nat.beq (qe_rd 10 (qo_t o3) 69).1 102 && Nat.beq (qe_rd 10 (qo_t o3) 69).2.1 1) && Nat.beq (qe_get (qe_rd 10 (qo_t o3) 69).2.2 0) (qe_i2l 16)) && (ck_rd 70 (qo_t o3) wt_P && ck_left 70 758 20 (qo_t o3)))
theorem wr_go : ck_go = true := by decide +kernel
theorem wr_I : ck_run 0 [2] 1 (qe_wr 10 (qe_nil 10) 0 (11, 13, qn_11)) (ck_o 0 0 52 51 2955 wt_I) = true := by decide +kernel
theorem wr_J : ck_run 47 [418] 53 (qe_wr 10 wt_I 52 (12, 36, qn_12)) (ck_o 0 0 69 16 3314 wt_J) = true := by decide +kernel
theorem wr_Z : qe_teq 10 (qe_wr 10 wt_J 69 (102, 1, 0)) wt_Z = true := by decide +kernel
theorem wr_P : ck_run 242 [2, qe_I 0, 554] 70 wt_P (ck_o 1 0 70 0 0 wt_P) = true := by decide +kernel
theorem wr_A : ck_run 242 [2, qe_I 0, 554] 70 wt_S (ck_o 1 0 70 0 0 wt_A) = true := by decide +kernel
theorem wr_k : Nat.beq (qe_rd 10 wt_A 52).1 12 = true ∧ Nat.beq (qe_rd 10 wt_P 52).1 12 = true := by decide +kernel
end QLE
