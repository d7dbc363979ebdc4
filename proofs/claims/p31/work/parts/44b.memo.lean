/-! THE RUN, 2b: a runner that knows one call's end beforehand; made by wip/engine/gen43.py -/
section QLM
section QLM1
variable {dp : Nat}
noncomputable def qe_stepM (P : qe_P dp) (F : Nat → Nat → qe_G dp → Option (List (qe_O dp))) (dM : Nat) (r : qe_F dp) : qe_F dp := fun d j b ls st g => Prod.fst (P j b) (r d j) (fun jj b2 ls2 st2 g2 => Option.rec (motive := fun _ => qe_R1 dp) (cond (Nat.beq d 0) none (r (Nat.sub d 1) jj b2 ls2 st2 g2)) (fun o => some o) (cond (Nat.blt dM d) (F jj ls2 g2) none)) ls st g
noncomputable def qe_runM (P : qe_P dp) (F : Nat → Nat → qe_G dp → Option (List (qe_O dp))) (dM fuel : Nat) : qe_F dp := Nat.rec (motive := fun _ => qe_F dp) (fun _ _ _ _ _ _ => none) (fun _ ih => qe_stepM P F dM ih) fuel
theorem qx_mainM {Z : qe_Z} {P : qe_P dp} {F : Nat → Nat → qe_G dp → Option (List (qe_O dp))} {dM : Nat} (hP : ∀ j b, qx_sn Z j (zp Z j b) (Prod.fst (P j b))) (h0 : ∀ j, zp Z j 0 = 0) (hF : ∀ (jj ls : Nat) (g : qe_G dp) (outs : List (qe_O dp)), F jj ls g = some outs → qx_goal Z dM jj 0 ls [] g outs) : ∀ (fuel d j : Nat), qx_k Z d j (qe_runM P F dM fuel d j)
  | 0, d, j => fun b ls st g outs h => by cases h
  | fuel + 1, d, j => fun b ls st g outs h => by
    have ih := qx_mainM hP h0 hF fuel
    refine hP j b (qe_runM P F dM fuel d j) (fun jj b2 ls2 st2 g2 => Option.rec (motive := fun _ => qe_R1 dp) (cond (Nat.beq d 0) none (qe_runM P F dM fuel (Nat.sub d 1) jj b2 ls2 st2 g2)) (fun o => some o) (cond (Nat.blt dM d) (F jj ls2 g2) none)) d (ih d j) ?_ ls st g outs h
    intro jj as n t cx o1 hmb h1
    cases hq : cond (Nat.blt dM d) (F jj (qe_lcl as 0 qe_ls0) (n, t, cx, 0, 0)) none with
    | none =>
      have h1' : cond (Nat.beq d 0) none (qe_runM P F dM fuel (Nat.sub d 1) jj 0 (qe_lcl as 0 qe_ls0) [] (n, t, cx, 0, 0)) = some o1 := by
        have h2 := h1
        simp only [hq] at h2
        exact h2
      cases hd : Nat.beq d 0
      · rw [hd] at h1'
        have hd0 : d ≠ 0 := fun q => by rw [q] at hd; cases hd
        refine ⟨d - 1, by omega, qx_entry hmb ?_⟩
        have := ih (d - 1) jj 0 (qe_lcl as 0 qe_ls0) [] (n, t, cx, 0, 0) o1 h1'
        rw [h0 jj] at this
        exact this
      · rw [hd] at h1'; cases h1'
    | some o =>
      have h1' : some o = some o1 := by
        have h2 := h1
        simp only [hq] at h2
        exact h2
      cases h1'
      obtain ⟨h3, h4⟩ := qe_if_ok hq
      exact ⟨dM, Nat.le_of_ble_eq_true h3, qx_entry hmb (hF _ _ _ _ h4)⟩
end QLM1
end QLM
