/-! THE LAW ON THE SCRIPT; made by wip/engine/gen48.py -/
section QLC
theorem sf_call_mk {jj n : Nat} {as : List Nat} {t : qe_T 10} {o : qe_O 10} (f : qe_run (qd_P [] 1500) 1000000 30 jj 0 (qe_lcl as 0 qe_ls0) [] (n, t, [], 0, 0) = some [o]) (k : qo_k o = 1) : sf_call jj as n t = some o := by
  unfold sf_call
  rw [f]
  show cond (Nat.beq (qo_k o) 1) (some o) none = some o
  rw [k]
  rfl
theorem wr_stepM {t tA : qe_T 10} (hA : ck_run 242 [2, qe_I 0, 554] 70 t (ck_o 1 0 70 0 0 tA) = true) (hk : Nat.beq (qe_rd 10 tA 52).1 12 = true) (hT : ck_tailM tA = true) : ∃ r, (∀ E : qe_E, lw_T E 0 70 t r) ∧ qo_n r.2.2 = 70 + 758 ∧ sf_ce r = 758 ∧ sf_sl r = 15160 ∧ (∀ k, k < 70 → qe_rd 10 (qo_t r.2.2) k = qe_rd 10 wt_P k) ∧ (∀ k, 70 ≤ k → k < 70 + 758 → (qe_rd 10 (qo_t r.2.2) k).1 = 101 ∧ (qe_rd 10 (qo_t r.2.2) k).2.1 = 20) := by
  obtain ⟨o1, f1, g1⟩ := ck_run_ok hA
  obtain ⟨k1, v1, n1, c1, s1, t1⟩ := ck_o_ok g1
  unfold ck_tailM at hT
  obtain ⟨o2, f2, g2⟩ := ck_runM_ok hT
  rw [Bool.and_eq_true] at g2
  obtain ⟨g2, h3⟩ := g2
  simp only [Bool.and_eq_true] at g2
  obtain ⟨⟨k2, v2⟩, ⟨n2, r2⟩, c2, s2⟩ := g2
  obtain ⟨o3, f3, g3⟩ := ck_3_ok h3
  simp only [Bool.and_eq_true] at g3
  obtain ⟨⟨⟨k3, v3⟩, n3, c3, s3⟩, ⟨⟨r3, r4⟩, r5⟩, r6, r7⟩ := g3
  have K2 := Nat.eq_of_beq_eq_true k2
  have V2 := Nat.eq_of_beq_eq_true v2
  have N2 := Nat.eq_of_beq_eq_true n2
  have K3 := Nat.eq_of_beq_eq_true k3
  have V3 := Nat.eq_of_beq_eq_true v3
  have N3 := Nat.eq_of_beq_eq_true n3
  have hok : sf_ok o1 o2 o3 = true := by
    unfold sf_ok
    rw [v1, n1, t1, hk, V2, N2, r2, V3, N3, r3, r4, r5]
    rfl
  refine ⟨(o1, (o2, o3)), ?_, N3, ?_, ?_, fun k h9 => ck_c_ok (ck_n_ok r6 k h9), fun k h8 h9 => ?_⟩
  · intro E
    refine ⟨sf_call_mk f1 k1, ?_, K2, f3, hok⟩
    show qx_con (qZ E 1500) 30 96 [418, qe_I 0] (qo_n o1) (qo_t o1) [] [o2]
    rw [n1, t1]
    exact lw_conM wr_M (qmb_X10_trees E 1500) f2
  · show qo_ce o1 + (qo_ce o2 + qo_ce o3) = 758
    rw [c1, Nat.eq_of_beq_eq_true c2, Nat.eq_of_beq_eq_true c3]
  · show qo_sl o1 + (qo_sl o2 + qo_sl o3) = 15160
    rw [s1, Nat.eq_of_beq_eq_true s2, Nat.eq_of_beq_eq_true s3]
  · have h7 := ck_n_ok r7 (k - 70) (by omega)
    rw [Bool.and_eq_true] at h7
    have e7 : Nat.add 70 (k - 70) = k := by show 70 + (k - 70) = k; omega
    rw [e7] at h7
    exact ⟨Nat.eq_of_beq_eq_true h7.1, Nat.eq_of_beq_eq_true h7.2⟩
def zq_s (i : Nat) : Nat := cond (Nat.blt i 72) (cond (Nat.beq (i % 3) 0) ((wl_calls[i / 3]?).getD (0, 0)).1 (cond (Nat.beq (i % 3) 1) ((wl_calls[i / 3]?).getD (0, 0)).2 0)) (cond (Nat.beq (i % 3) 0) 20 0)
def zq_xs (i : Nat) : Int32 := Int32.ofNat (zq_s i)
theorem zq_c0 : ∀ k, k < 24 → (((wl_calls[k]?).getD (0, 0)).1 = 0 ∨ ((wl_calls[k]?).getD (0, 0)).1 = 2) ∧ ((wl_calls[k]?).getD (0, 0)).2 < 4294967296 ∧ zq_s (0 + 3 * k) = ((wl_calls[k]?).getD (0, 0)).1 ∧ zq_s (0 + 3 * k + 1) = ((wl_calls[k]?).getD (0, 0)).2 := by decide +kernel
theorem zq_c1 (k : Nat) (q : Nat × Nat) (h : wl_calls[k]? = some q) : (q.1 = 0 ∨ q.1 = 2) ∧ q.2 < 4294967296 ∧ zq_xs (0 + 3 * k) = Int32.ofNat q.1 ∧ zq_xs (0 + 3 * k + 1) = Int32.ofNat q.2 := by
  have hk : k < 24 := (List.getElem?_eq_some_iff.mp h).1
  have := zq_c0 k hk
  rw [h] at this
  exact ⟨this.1, this.2.1, congrArg Int32.ofNat this.2.2.1, congrArg Int32.ofNat this.2.2.2⟩
theorem zq_c2 (k : Nat) : zq_xs (72 + 3 * k) = Int32.ofNat 20 ∧ zq_xs (72 + 3 * k + 1) = Int32.ofNat 0 := by
  have h1 : Nat.blt (72 + 3 * k) 72 = false := by
    cases hq : Nat.blt (72 + 3 * k) 72
    · rfl
    · have := Nat.le_of_ble_eq_true hq; omega
  have h2 : Nat.blt (72 + 3 * k + 1) 72 = false := by
    cases hq : Nat.blt (72 + 3 * k + 1) 72
    · rfl
    · have := Nat.le_of_ble_eq_true hq; omega
  refine ⟨congrArg Int32.ofNat ?_, congrArg Int32.ofNat ?_⟩
  · unfold zq_s
    rw [h1, show (72 + 3 * k) % 3 = 0 by omega]; rfl
  · unfold zq_s
    rw [h2, show (72 + 3 * k + 1) % 3 = 1 by omega]; rfl
def zq_R : Room := { frames := 2048, cells := 400000, slots := 7400000, locals := 94400 }
def zq_Q (_ : Array Value) (s : State) (o : Outcome) (t : State) : Prop := o = .returned (some (.int 1)) ∧ 7216160 ≤ ((t.heap.toList.drop s.heap.size).map (fun cell => cell.slots.size)).sum
theorem zq_run {E : qe_E} {p : Program} {l : Launch} {e : Env} {s : State} {m : MethodId} {args : Array Value} {below : List Frame} {meth : Method} {c : Code} {A : Nat → Prop} (C0 : lw_cx E p l e zq_R s m args below meth c A) (hA : ∀ q, A q → s.heap.size ≤ q) (hx : E.2.2.2 = zq_xs) {la : Array Slot} (hl : lv_has la 8 [(0, .ref (E.2.2.1 0))]) : W p l e zq_R s m args below meth c s.heap [] 0 0 (MQ below zq_Q args s 400000 7400000 A) (F0 m 0 la []) := by
  refine lw_entry C0 (by decide) (by decide) hl ?_
  obtain ⟨rA, a1, a2, a3, a4, a5, a6⟩ := wr_stepM wr_A wr_k.1 wr_tA
  obtain ⟨rP, b1, b2, b3, b4, b5, b6⟩ := wr_stepM wr_P wr_k.2 wr_tP
  have hgo : sf_go wl_calls 70 wt_Z = some (70, wt_S) := by
    have h := wr_go
    unfold ck_go at h
    cases hr : sf_go wl_calls 70 wt_Z with
    | none => rw [hr] at h; cases h
    | some r =>
      rw [hr] at h
      have h' : (Nat.beq r.1 70 && qe_teq 10 r.2 wt_S) = true := h
      rw [Bool.and_eq_true] at h'
      obtain ⟨r1, r2⟩ := r
      rw [show r1 = 70 from Nat.eq_of_beq_eq_true h'.1, show r2 = wt_S from qe_teq_ok 10 _ _ h'.2]
  refine lw_go C0 (by decide) (by decide) wl_calls 0 70 wt_Z 70 wt_S (fun k q h => by rw [hx]; exact zq_c1 k q h) (by decide) (by decide) hgo ?_
  have hs0 := zq_c2 0
  refine lw_atM C0 (by decide) (by decide) (a := 0) (by rw [hx]; exact hs0.1) (by rw [hx]; exact hs0.2) (by decide) (a1 E) (by rw [a3]; decide) (by rw [a4]; decide) ?_
  rw [a2, a3, a4]
  refine lw_forget a5 wt_P_wi a6 ?_
  refine lw_loopM C0 wt_P_wi (b1 E) b2 b5 b6 b3 b4 475 75 (70 + 758) (6319 + 15160) (0 + 758 * 20) (by decide) (fun k _ => ?_) (by decide) (by decide) ?_
  · have h9 := zq_c2 (k + 1)
    rw [hx, show 75 + 3 * k = 72 + 3 * (k + 1) by omega]
    exact h9
  · refine lw_end (Q := fun _ => True) C0 hA (by decide) (by decide) (fun H gs hg hP hD u hu hW => ⟨rfl, ?_⟩)
    rw [hu]
    exact Nat.le_trans hg (lz_total hA hP hD)
end QLC
