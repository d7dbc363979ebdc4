/-! ENGINE, part 13c: Math.floorMod of two known ints, the second above 0 -/
section FME
variable {dp : Nat}
def qe_fm (a b : Nat) : Nat := cond (Nat.ble 2147483648 (qe_of (qe_op 15 a b))) (qe_op 11 a (qe_op 12 (qe_quo a b) b)) (cond (Nat.beq (qe_m (qe_op 11 a (qe_op 12 (qe_quo a b) b))) 0) (qe_op 11 a (qe_op 12 (qe_quo a b) b)) (qe_op 10 (qe_op 11 a (qe_op 12 (qe_quo a b) b)) b))
theorem qe_ge0 (a : Nat) : (0 ≤ Int32.ofNat a) ↔ Nat.ble 2147483648 (qe_of a) = true := by
  have h1 := qe_so_eq (Int32.ofNat a)
  rw [qe_so_of] at h1
  rw [Int32.le_iff_toInt_le, show (0 : Int32).toInt = 0 from rfl]
  constructor
  · intro h; exact Nat.ble_eq_true_of_le (by omega)
  · intro h; have := Nat.le_of_ble_eq_true h; omega
theorem qe_eq0 (a : Nat) : (Int32.ofNat a = 0) ↔ Nat.beq (qe_m a) 0 = true := by
  have h1 : qe_of a = (a + 2147483648) % 4294967296 := rfl
  have h2 : qe_m a = a % 4294967296 := rfl
  have h3 : qe_so (0 : Int32) = 2147483648 := rfl
  constructor
  · intro h
    have q := qe_so_inj.mp h
    rw [qe_so_of, h3, h1] at q
    rw [show qe_m a = 0 by rw [h2]; omega]; rfl
  · intro h
    have q := Nat.eq_of_beq_eq_true h
    refine qe_so_inj.mpr ?_
    rw [qe_so_of, h3, h1]
    rw [h2] at q
    omega
theorem qe_fm_ok {a b : Nat} (h0 : 0 < b) (hb : b < 2147483648) : fm_v (Int32.ofNat a) (Int32.ofNat b) = Int32.ofNat (qe_fm a b) := by
  have e1 : Int32.ofNat a - Int32.ofNat a / Int32.ofNat b * Int32.ofNat b = Int32.ofNat (qe_op 11 a (qe_op 12 (qe_quo a b) b)) := by
    rw [qe_quo_ok h0 hb, ← qe_sem_op, ← qe_sem_op]; rfl
  have e2 : Int32.ofNat a ^^^ Int32.ofNat b = Int32.ofNat (qe_op 15 a b) := by rw [← qe_sem_op]; rfl
  unfold fm_v
  rw [e1, e2]
  unfold qe_fm
  generalize qe_op 11 a (qe_op 12 (qe_quo a b) b) = m
  generalize qe_op 15 a b = x
  by_cases h1 : 0 ≤ Int32.ofNat x
  · rw [if_pos h1, (qe_ge0 x).mp h1]; rfl
  · rw [if_neg h1, show Nat.ble 2147483648 (qe_of x) = false by
      cases hq : Nat.ble 2147483648 (qe_of x)
      · rfl
      · exact absurd ((qe_ge0 x).mpr hq) h1]
    by_cases h2 : Int32.ofNat m = 0
    · rw [if_pos h2, (qe_eq0 m).mp h2]; rfl
    · rw [if_neg h2, show Nat.beq (qe_m m) 0 = false by
        cases hq : Nat.beq (qe_m m) 0
        · rfl
        · exact absurd ((qe_eq0 m).mpr hq) h2]
      show Int32.ofNat m + Int32.ofNat b = Int32.ofNat (qe_op 10 m b)
      rw [← qe_sem_op]; rfl
def qc_fm (Z : qe_Z) (j : Nat) (pc nx : Nat) : Prop := ∀ {p : Program} {l : Launch} {e : Env} {R : Room} {s : State} {m : MethodId} {args : Array Value} {below : List Frame} {meth : Method} {c : Code} {H : Heap} {locs : List Loc} {cells slots : Nat} {la : Array Slot} {rest : List Value} {Q : State → Prop}, qe_bd (zM Z j) p l s m args meth c → 1 ≤ R.frames → qx_cat rest + 14 ≤ R.locals → la.size = c.maxLocals → cells ≤ R.cells → slots ≤ R.slots → ∀ x y : Int32, ¬ y = 0 → W p l e R s m args below meth c H locs cells slots Q (F0 m nx la (.int (fm_v x y) :: rest)) → W p l e R s m args below meth c H locs cells slots Q (F0 m pc la (.int y :: .int x :: rest))
theorem qk_fm {Z : qe_Z} {j pc idx : Nat} (h : decode (zM Z j).2.1 pc = .ok (.invokestatic idx, 3)) (w1 : Cond.methodLink (zM Z j).2.2.2.2.2 idx fm_x ∈ (zM Z j).2.2.2.2.1) (w2 : Cond.static fm_x ∈ (zM Z j).2.2.2.2.1) (w3 : Cond.initialized "java/lang/Math" ∈ (zM Z j).2.2.2.2.1) (w4 : Cond.code fm_x fm_code 3 (some .int) ∈ (zM Z j).2.2.2.2.1) : qc_fm Z j pc (pc + 3) := by
  intro p l e R s m args below meth c H locs cells slots la rest Q hB hf hl hs hc1 hc2 x y hy kk
  intro T hT X
  have hsum : (rest.map fun v => v.category).sum + 14 ≤ R.locals := hl
  obtain ⟨vm', X', st⟩ := fm_callV X hB.1 hB.2.2.2.2.2.1 (hB.2.2.2.2.1 _ w1) (hB.2.2.2.2.1 _ w2) (hB.2.2.2.2.1 _ w3) (hB.2.2.2.2.1 _ w4) (g := F0 m pc la (.int y :: .int x :: rest)) rfl hs (a := x) (b := y) hy (rest := rest) rfl (by rw [hB.2.1]; exact h) hf (by show 2 * 0 + _ + 14 ≤ _; omega) hc1 hc2
  obtain ⟨t, a1, b1⟩ := kk (T.setVm vm') hT X'
  exact ⟨t, st t a1, b1⟩
noncomputable def ql_fm (nt : qe_N dp) (k : qe_K dp) (c : qe_C1 dp) (ls : Nat) (st : List Nat) (g : qe_G dp) : qe_R1 dp := qe_hd st fun y r1 => qe_hd r1 fun x r => cond (((qe_is 0 x && qe_is 0 y) && Nat.ble (qe_cs r) 8) && (!(qe_sym x || qe_sym y) && (Nat.blt (Nat.div y 8) 2147483648 && Nat.blt 0 (Nat.div y 8)))) (nt k c ls (qe_I (qe_fm (Nat.div x 8) (Nat.div y 8)) :: r) g) none
theorem sn_fm {Z : qe_Z} {j pc nx : Nat} {nt : qe_N dp} (hc : qc_fm Z j pc nx) (hn : qx_sn Z j nx nt) : qx_sn Z j pc (ql_fm nt) := by
  intro k c d hk hcc ls st g outs h
  obtain ⟨y, r1, e1, h1⟩ := qe_hd_ok h
  obtain ⟨x, r, e2, h1b⟩ := qe_hd_ok h1
  subst e2; subst e1
  obtain ⟨hi, h2⟩ := qe_if_ok h1b
  simp only [Bool.and_eq_true, Bool.not_eq_true', Bool.or_eq_false_iff] at hi
  obtain ⟨⟨⟨i1, i2⟩, i9⟩, ⟨i3, i4⟩, i6, i7⟩ := hi
  have k2 : y / 8 < 2147483648 := Nat.le_of_ble_eq_true i6
  have k3 : 0 < y / 8 := Nat.le_of_ble_eq_true i7
  have hg := hn k c d hk hcc ls _ g outs h2
  intro p l e R s0 m args below meth c0 A H locs la ad ad0 n0 QC XC hst hdy hfin
  obtain ⟨s1, s2, s3⟩ := qx_sz hst hdy
  have d7 := hdy.2.2.2.2.2.2.1
  have d9 := hdy.2.2.2.2.2.2.2.2.1
  have z1 : qe_int (zE Z).2.2.2 x = Int32.ofNat (x / 8) := by unfold qe_int; rw [i3]; rfl
  have z2 : qe_int (zE Z).2.2.2 y = Int32.ofNat (y / 8) := by unfold qe_int; rw [i4]; rfl
  have e1 : qe_v (zE Z) ad y = .int (Int32.ofNat (y / 8)) := by rw [← z2]; exact qe_val_int i2
  have e2 : qe_v (zE Z) ad x = .int (Int32.ofNat (x / 8)) := by rw [← z1]; exact qe_val_int i1
  have hne : ¬ Int32.ofNat (y / 8) = 0 := by
    intro q
    have q1 := Nat.eq_of_beq_eq_true ((qe_eq0 _).mp q)
    have q2 : qe_m (y / 8) = y / 8 % 4294967296 := rfl
    omega
  have hcs := qe_cs_le (E := zE Z) (ad := ad) i9
  rw [List.map_cons, List.map_cons, e1, e2]
  refine hc hst.1 (by omega) (by omega) s1 d9.1 d9.2 _ _ hne ?_
  rw [qe_fm_ok k3 k2]
  have := hg p l e R s0 m args below meth c0 A H locs la ad ad0 n0 QC XC hst (qx_dy_st hdy fun v hv => by
    rcases List.mem_cons.mp hv with q | q
    · rw [q]; exact qe_rb_int (qe_I_is _)
    · exact d7 v (List.mem_cons_of_mem _ (List.mem_cons_of_mem _ q))) hfin
  rw [List.map_cons, qe_vI] at this
  exact this
end FME
