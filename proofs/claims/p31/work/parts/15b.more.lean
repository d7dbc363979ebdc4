/-! ENGINE, part 13b: remainder of ints, and / or / shift of longs, all known -/
section QEM2
variable {dp : Nat}
def qe_quo (a b : Nat) : Nat := cond (Nat.blt (qe_m a) 2147483648) (Nat.div (qe_m a) b) (Nat.sub 4294967296 (Nat.div (Nat.sub 4294967296 (qe_m a)) b))
theorem qe_toInt (a : Nat) : (Int32.ofNat a).toInt = if qe_m a < 2147483648 then (qe_m a : Int) else (qe_m a : Int) - 4294967296 := by
  show (BitVec.ofNat 32 a).toInt = _
  rw [BitVec.toInt_eq_toNat_cond, BitVec.toNat_ofNat]
  show (if 2 * (a % 2 ^ 32) < 2 ^ 32 then ((a % 2 ^ 32 : Nat) : Int) else ((a % 2 ^ 32 : Nat) : Int) - (2 ^ 32 : Nat)) = if a % 4294967296 < 2147483648 then ((a % 4294967296 : Nat) : Int) else ((a % 4294967296 : Nat) : Int) - 4294967296
  by_cases h : a % 4294967296 < 2147483648
  · rw [if_pos h, if_pos (by omega)]
  · rw [if_neg h, if_neg (by omega)]
    rfl
theorem qe_quo_ok {a b : Nat} (h0 : 0 < b) (hb : b < 2147483648) : Int32.ofNat a / Int32.ofNat b = Int32.ofNat (qe_quo a b) := by
  have hm : qe_m a < 4294967296 := qe_m_lt a
  have hmb : qe_m b = b := Nat.mod_eq_of_lt (by omega)
  apply Int32.toInt_inj.1
  rw [Int32.toInt_div, qe_toInt a, qe_toInt b, qe_toInt (qe_quo a b), hmb, if_pos hb]
  by_cases h : qe_m a < 2147483648
  · have e1 : qe_quo a b = qe_m a / b := by
      unfold qe_quo
      rw [show Nat.blt (qe_m a) 2147483648 = true from Nat.ble_eq_true_of_le h]; rfl
    have e2 : qe_m a / b ≤ qe_m a := Nat.div_le_self _ _
    have e3 : qe_m (qe_m a / b) = qe_m a / b := Nat.mod_eq_of_lt (by omega)
    rw [if_pos h, e1, e3, if_pos (by omega), Int.natCast_tdiv_eq_ediv, ← Int.natCast_ediv]
    exact Int.bmod_eq_of_le (by omega) (by omega)
  · have e0 : Nat.blt (qe_m a) 2147483648 = false := by
      cases hq : Nat.blt (qe_m a) 2147483648
      · rfl
      · exact absurd (Nat.le_of_ble_eq_true hq) h
    have e1 : qe_quo a b = 4294967296 - (4294967296 - qe_m a) / b := by
      unfold qe_quo
      rw [e0]; rfl
    have e2 : (4294967296 - qe_m a) / b ≤ 4294967296 - qe_m a := Nat.div_le_self _ _
    rw [if_neg h]
    have e4 : ((qe_m a : Int) - 4294967296).tdiv (b : Int) = -(((4294967296 - qe_m a) / b : Nat) : Int) := by
      rw [show (qe_m a : Int) - 4294967296 = -((4294967296 - qe_m a : Nat) : Int) by omega, Int.neg_tdiv, Int.natCast_tdiv_eq_ediv, ← Int.natCast_ediv]
    rw [e4, e1]
    generalize (4294967296 - qe_m a) / b = q at e2 ⊢
    have e5 : (-(q : Int)).bmod (2 ^ 32) = -(q : Int) := Int.bmod_eq_of_le (by omega) (by omega)
    rw [e5]
    have e6 : qe_m (4294967296 - q) = (4294967296 - q) % 4294967296 := rfl
    by_cases hq : q = 0
    · subst hq
      rw [e6, if_pos (by omega)]; omega
    · rw [e6, if_neg (by omega)]; omega
noncomputable def ql_rem (nt : qe_N dp) (k : qe_K dp) (c : qe_C1 dp) (ls : Nat) (st : List Nat) (g : qe_G dp) : qe_R1 dp := qe_hd st fun y r1 => qe_hd r1 fun x r => cond ((qe_is 0 x && qe_is 0 y) && (!(qe_sym x || qe_sym y) && (Nat.blt (Nat.div y 8) 2147483648 && Nat.blt 0 (Nat.div y 8)))) (nt k c ls (qe_I (qe_op 11 (Nat.div x 8) (qe_op 12 (qe_quo (Nat.div x 8) (Nat.div y 8)) (Nat.div y 8))) :: r) g) none
theorem sn_rem {Z : qe_Z} {j pc nx : Nat} {nt : qe_N dp} (hc : ∀ x y : Int32, ¬ y = 0 → qc_st (zM Z j) pc nx [.int y, .int x] [.int (x - x / y * y)]) (hn : qx_sn Z j nx nt) : qx_sn Z j pc (ql_rem nt) := by
  intro k c d hk hcc ls st g outs h
  obtain ⟨y, r1, e1, h1⟩ := qe_hd_ok h
  obtain ⟨x, r, e2, h1b⟩ := qe_hd_ok h1
  subst e2; subst e1
  obtain ⟨hi, h2⟩ := qe_if_ok h1b
  simp only [Bool.and_eq_true, Bool.not_eq_true', Bool.or_eq_false_iff] at hi
  obtain ⟨⟨i1, i2⟩, ⟨i3, i4⟩, i6, i7⟩ := hi
  have k2 : y / 8 < 2147483648 := Nat.le_of_ble_eq_true i6
  have k3 : 0 < y / 8 := Nat.le_of_ble_eq_true i7
  have z1 : qe_int (zE Z).2.2.2 x = Int32.ofNat (x / 8) := by unfold qe_int; rw [i3]; rfl
  have z2 : qe_int (zE Z).2.2.2 y = Int32.ofNat (y / 8) := by unfold qe_int; rw [i4]; rfl
  refine qx_stk (old := [y, x]) (new := [qe_I (qe_op 11 (x / 8) (qe_op 12 (qe_quo (x / 8) (y / 8)) (y / 8)))]) (fun ad => ?_) (fun n _ v hv => ?_) (hn k c d hk hcc ls _ g outs h2)
  · have e1 : qe_v (zE Z) ad y = .int (Int32.ofNat (y / 8)) := by rw [← z2]; exact qe_val_int i2
    have e2 : qe_v (zE Z) ad x = .int (Int32.ofNat (x / 8)) := by rw [← z1]; exact qe_val_int i1
    have e3 : qe_v (zE Z) ad (qe_I (qe_op 11 (x / 8) (qe_op 12 (qe_quo (x / 8) (y / 8)) (y / 8)))) = .int (Int32.ofNat (qe_op 11 (x / 8) (qe_op 12 (qe_quo (x / 8) (y / 8)) (y / 8)))) := by rw [← qe_I_int (zE Z).2.2.2]; exact qe_val_int (qe_I_is _)
    have hne : ¬ Int32.ofNat (y / 8) = 0 := by
      intro q
      have q1 := qe_so_inj.mp q
      have q2 := qe_so_of (y / 8)
      have q3 : qe_of (y / 8) = (y / 8 + 2147483648) % 4294967296 := rfl
      have q4 : qe_so 0 = 2147483648 := rfl
      omega
    show qc_st (zM Z j) pc nx [qe_v (zE Z) ad y, qe_v (zE Z) ad x] [qe_v (zE Z) ad (qe_I _)]
    have e9 : Int32.ofNat (x / 8) - Int32.ofNat (x / 8) / Int32.ofNat (y / 8) * Int32.ofNat (y / 8) = Int32.ofNat (qe_op 11 (x / 8) (qe_op 12 (qe_quo (x / 8) (y / 8)) (y / 8))) := by
      rw [qe_quo_ok k3 k2, ← qe_sem_op, ← qe_sem_op]
      rfl
    rw [e1, e2, e3, ← e9]
    exact @hc (Int32.ofNat (x / 8)) (Int32.ofNat (y / 8)) hne
  · rw [List.mem_singleton.mp hv]; exact qe_rb_int (qe_I_is _)
theorem qe_andL (a b : Nat) : Int64.ofNat a &&& Int64.ofNat b = Int64.ofNat (a &&& b) := by
  apply Int64.toBitVec_inj.1
  show BitVec.ofNat 64 a &&& BitVec.ofNat 64 b = BitVec.ofNat 64 (a &&& b)
  apply BitVec.eq_of_getLsbD_eq
  intro i hi
  simp [hi]
theorem qe_orL (a b : Nat) : Int64.ofNat a ||| Int64.ofNat b = Int64.ofNat (a ||| b) := by
  apply Int64.toBitVec_inj.1
  show BitVec.ofNat 64 a ||| BitVec.ofNat 64 b = BitVec.ofNat 64 (a ||| b)
  apply BitVec.eq_of_getLsbD_eq
  intro i hi
  simp [hi]
theorem qe_smL (n : Nat) (hn : n < 64) : (((Int32.ofNat n).toInt64 &&& 63).toBitVec.smod 64).toNat = n :=
  (by decide +kernel : ∀ n, n < 64 → (((Int32.ofNat n).toInt64 &&& 63).toBitVec.smod 64).toNat = n) n hn
theorem qe_shlL (a n : Nat) (hn : n < 64) : Int64.ofNat a <<< ((Int32.ofNat n).toInt64 &&& 63) = Int64.ofNat (a <<< n) := by
  apply Int64.toBitVec_inj.1
  rw [Int64.toBitVec_shiftLeft]
  show (BitVec.ofNat 64 a) <<< ((((Int32.ofNat n).toInt64 &&& 63).toBitVec.smod 64).toNat) = BitVec.ofNat 64 (a <<< n)
  rw [qe_smL n hn]
  apply BitVec.eq_of_toNat_eq
  rw [BitVec.toNat_shiftLeft, BitVec.toNat_ofNat, BitVec.toNat_ofNat, Nat.shiftLeft_eq, Nat.shiftLeft_eq, Nat.mod_mul_mod]
theorem qe_lngv {rho : Nat → Int32} {x : Nat} (h : qe_sym x = false) : qe_lng rho x = Int64.ofNat (x / 8) := by unfold qe_lng; rw [h]; rfl
def qe_lop (o a b : Nat) : Nat := cond (Nat.beq o 0) (Nat.land a b) (Nat.lor a b)
def qe_lsm (o : Nat) (x y : Int64) : Int64 := cond (Nat.beq o 0) (x &&& y) (x ||| y)
theorem qe_lsm_op (o a b : Nat) : qe_lsm o (Int64.ofNat a) (Int64.ofNat b) = Int64.ofNat (qe_lop o a b) := by
  unfold qe_lsm qe_lop
  cases Nat.beq o 0
  · exact qe_orL a b
  · exact qe_andL a b
noncomputable def ql_lb (o : Nat) (nt : qe_N dp) (k : qe_K dp) (c : qe_C1 dp) (ls : Nat) (st : List Nat) (g : qe_G dp) : qe_R1 dp := qe_hd st fun y r1 => qe_hd r1 fun x r => cond ((qe_is 1 x && qe_is 1 y) && !(qe_sym x || qe_sym y)) (nt k c ls (qe_L (qe_lop o (Nat.div x 8) (Nat.div y 8)) :: r) g) none
theorem sn_lb {Z : qe_Z} {j pc nx o : Nat} {nt : qe_N dp} (hc : ∀ x y : Int64, qc_st (zM Z j) pc nx [.long y, .long x] [.long (qe_lsm o x y)]) (hn : qx_sn Z j nx nt) : qx_sn Z j pc (ql_lb o nt) := by
  intro k c d hk hcc ls st g outs h
  obtain ⟨y, r1, e1, h1⟩ := qe_hd_ok h
  obtain ⟨x, r, e2, h1b⟩ := qe_hd_ok h1
  subst e2; subst e1
  obtain ⟨hi, h2⟩ := qe_if_ok h1b
  simp only [Bool.and_eq_true, Bool.not_eq_true', Bool.or_eq_false_iff] at hi
  obtain ⟨⟨i1, i2⟩, i3, i4⟩ := hi
  refine qx_stk (old := [y, x]) (new := [qe_L (qe_lop o (x / 8) (y / 8))]) (fun ad => ?_) (fun n _ v hv => ?_) (hn k c d hk hcc ls _ g outs h2)
  · have e1 : qe_v (zE Z) ad y = .long (Int64.ofNat (y / 8)) := by rw [← qe_lngv (rho := (zE Z).2.2.2) i4]; exact qe_val_lng i2
    have e2 : qe_v (zE Z) ad x = .long (Int64.ofNat (x / 8)) := by rw [← qe_lngv (rho := (zE Z).2.2.2) i3]; exact qe_val_lng i1
    have e3 : qe_v (zE Z) ad (qe_L (qe_lop o (x / 8) (y / 8))) = .long (Int64.ofNat (qe_lop o (x / 8) (y / 8))) := by rw [← qe_L_lng (zE Z).2.2.2]; exact qe_val_lng (qe_L_is _)
    show qc_st (zM Z j) pc nx [qe_v (zE Z) ad y, qe_v (zE Z) ad x] [qe_v (zE Z) ad (qe_L _)]
    rw [e1, e2, e3, ← qe_lsm_op]
    exact @hc (Int64.ofNat (x / 8)) (Int64.ofNat (y / 8))
  · rw [List.mem_singleton.mp hv]; exact qe_rb_lng (qe_L_is _)
noncomputable def ql_lshl (nt : qe_N dp) (k : qe_K dp) (c : qe_C1 dp) (ls : Nat) (st : List Nat) (g : qe_G dp) : qe_R1 dp := qe_hd st fun y r1 => qe_hd r1 fun x r => cond ((qe_is 1 x && qe_is 0 y) && (!(qe_sym x || qe_sym y) && Nat.blt (Nat.div y 8) 64)) (nt k c ls (qe_L (Nat.mod (Nat.shiftLeft (Nat.div x 8) (Nat.div y 8)) 18446744073709551616) :: r) g) none
theorem qe_ofL64 (a : Nat) : Int64.ofNat (a % 18446744073709551616) = Int64.ofNat a := by
  apply Int64.toBitVec_inj.1
  show BitVec.ofNat 64 (a % 18446744073709551616) = BitVec.ofNat 64 a
  apply BitVec.eq_of_toNat_eq
  rw [BitVec.toNat_ofNat, BitVec.toNat_ofNat]
  show a % 2 ^ 64 % 2 ^ 64 = a % 2 ^ 64
  rw [Nat.mod_mod]
theorem sn_lshl {Z : qe_Z} {j pc nx : Nat} {nt : qe_N dp} (hc : ∀ (x : Int64) (y : Int32), qc_st (zM Z j) pc nx [.int y, .long x] [.long (x <<< (y.toInt64 &&& 63))]) (hn : qx_sn Z j nx nt) : qx_sn Z j pc (ql_lshl nt) := by
  intro k c d hk hcc ls st g outs h
  obtain ⟨y, r1, e1, h1⟩ := qe_hd_ok h
  obtain ⟨x, r, e2, h1b⟩ := qe_hd_ok h1
  subst e2; subst e1
  obtain ⟨hi, h2⟩ := qe_if_ok h1b
  simp only [Bool.and_eq_true, Bool.not_eq_true', Bool.or_eq_false_iff] at hi
  obtain ⟨⟨i1, i2⟩, ⟨i3, i4⟩, i5⟩ := hi
  have k1 : y / 8 < 64 := Nat.le_of_ble_eq_true i5
  have z2 : qe_int (zE Z).2.2.2 y = Int32.ofNat (y / 8) := by unfold qe_int; rw [i4]; rfl
  refine qx_stk (old := [y, x]) (new := [qe_L (Nat.mod (Nat.shiftLeft (x / 8) (y / 8)) 18446744073709551616)]) (fun ad => ?_) (fun n _ v hv => ?_) (hn k c d hk hcc ls _ g outs h2)
  · have e1 : qe_v (zE Z) ad y = .int (Int32.ofNat (y / 8)) := by rw [← z2]; exact qe_val_int i2
    have e2 : qe_v (zE Z) ad x = .long (Int64.ofNat (x / 8)) := by rw [← qe_lngv (rho := (zE Z).2.2.2) i3]; exact qe_val_lng i1
    have e3 : qe_v (zE Z) ad (qe_L (Nat.mod (Nat.shiftLeft (x / 8) (y / 8)) 18446744073709551616)) = .long (Int64.ofNat ((x / 8) <<< (y / 8))) := by
      rw [← qe_ofL64, ← qe_L_lng (zE Z).2.2.2]; exact qe_val_lng (qe_L_is _)
    show qc_st (zM Z j) pc nx [qe_v (zE Z) ad y, qe_v (zE Z) ad x] [qe_v (zE Z) ad (qe_L _)]
    rw [e1, e2, e3, ← qe_shlL _ _ k1]
    exact @hc (Int64.ofNat (x / 8)) (Int32.ofNat (y / 8))
  · rw [List.mem_singleton.mp hv]; exact qe_rb_lng (qe_L_is _)
theorem qk_land {B : qe_B} {pc : Nat} (h : decode B.2.1 pc = .ok (.land, 1)) : ∀ x y : Int64, qc_st B pc (pc + 1) [.long y, .long x] [.long (qe_lsm 0 x y)] := fun x y {p l e R s m args below meth c H locs cells slots Q la rest} hB k => lv_land hB.1 hB.2.1 h k
theorem qk_lor {B : qe_B} {pc : Nat} (h : decode B.2.1 pc = .ok (.lor, 1)) : ∀ x y : Int64, qc_st B pc (pc + 1) [.long y, .long x] [.long (qe_lsm 1 x y)] := fun x y {p l e R s m args below meth c H locs cells slots Q la rest} hB k => lv_lor hB.1 hB.2.1 h k
theorem qk_lshl {B : qe_B} {pc : Nat} (h : decode B.2.1 pc = .ok (.lshl, 1)) : ∀ (x : Int64) (y : Int32), qc_st B pc (pc + 1) [.int y, .long x] [.long (x <<< (y.toInt64 &&& 63))] := fun x y {p l e R s m args below meth c H locs cells slots Q la rest} hB k => lv_lshl hB.1 hB.2.1 h rfl k
end QEM2
