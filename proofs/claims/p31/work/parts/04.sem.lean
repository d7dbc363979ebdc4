/-! ENGINE, part 2: what a number stands for, and counting with it. v % 4: 0 int, 1 long, 2 reference, 3 null (or no value at all); v / 4 % 2 = 1: a name whose number rho (or ext) tells; v / 8: the number or the name -/
section QEV
def qe_sym (v : Nat) : Bool := Nat.beq (Nat.mod (Nat.div v 4) 2) 1
def qe_int (rho : Nat → Int32) (v : Nat) : Int32 := cond (qe_sym v) (rho (Nat.div v 8)) (Int32.ofNat (Nat.div v 8))
def qe_lng (rho : Nat → Int32) (v : Nat) : Int64 := cond (qe_sym v) (rho (Nat.div v 8)).toInt64 (Int64.ofNat (Nat.div v 8))
def qe_adr (ad ext : Nat → Nat) (v : Nat) : Nat := cond (qe_sym v) (ext (Nat.div v 8)) (ad (Nat.div v 8))
def qe_is (k v : Nat) : Bool := Nat.beq (Nat.mod v 4) k
def qe_val (ad ext : Nat → Nat) (rho : Nat → Int32) (v : Nat) : Value := cond (qe_is 0 v) (.int (qe_int rho v)) (cond (qe_is 1 v) (.long (qe_lng rho v)) (cond (qe_is 2 v) (.ref (qe_adr ad ext v)) .null))
theorem qe_val_int {ad ext : Nat → Nat} {rho : Nat → Int32} {v : Nat} (h : qe_is 0 v = true) : qe_val ad ext rho v = .int (qe_int rho v) := by unfold qe_val; rw [h]; rfl
theorem qe_is_eq {k v : Nat} (h : qe_is k v = true) : v % 4 = k := Nat.eq_of_beq_eq_true h
theorem qe_val_lng {ad ext : Nat → Nat} {rho : Nat → Int32} {v : Nat} (h : qe_is 1 v = true) : qe_val ad ext rho v = .long (qe_lng rho v) := by
  have h0 : qe_is 0 v = false := by
    have := qe_is_eq h
    show Nat.beq (v % 4) 0 = false
    rw [this]; rfl
  unfold qe_val; rw [h0, h]; rfl
theorem qe_val_ref {ad ext : Nat → Nat} {rho : Nat → Int32} {v : Nat} (h : qe_is 2 v = true) : qe_val ad ext rho v = .ref (qe_adr ad ext v) := by
  have e := qe_is_eq h
  have h0 : qe_is 0 v = false := by
    show Nat.beq (v % 4) 0 = false
    rw [e]; rfl
  have h1 : qe_is 1 v = false := by
    show Nat.beq (v % 4) 1 = false
    rw [e]; rfl
  unfold qe_val; rw [h0, h1, h]; rfl
theorem qe_val_null {ad ext : Nat → Nat} {rho : Nat → Int32} : qe_val ad ext rho 3 = .null := rfl
/-- a number as an int, a long, a place of the world -/
def qe_I (n : Nat) : Nat := Nat.mul 8 n
def qe_L (n : Nat) : Nat := Nat.add (Nat.mul 8 n) 1
def qe_R (n : Nat) : Nat := Nat.add (Nat.mul 8 n) 2
theorem qe_I_is (n : Nat) : qe_is 0 (qe_I n) = true := by
  show Nat.beq (8 * n % 4) 0 = true
  rw [show 8 * n % 4 = 0 by omega]; rfl
theorem qe_I_int (rho : Nat → Int32) (n : Nat) : qe_int rho (qe_I n) = Int32.ofNat n := by
  unfold qe_int
  have h : qe_sym (qe_I n) = false := by
    show Nat.beq (8 * n / 4 % 2) 1 = false
    rw [show 8 * n / 4 % 2 = 0 by omega]; rfl
  rw [h]
  show Int32.ofNat (8 * n / 8) = _
  rw [show 8 * n / 8 = n by omega]
theorem qe_L_is (n : Nat) : qe_is 1 (qe_L n) = true := by
  show Nat.beq ((8 * n + 1) % 4) 1 = true
  rw [show (8 * n + 1) % 4 = 1 by omega]; rfl
theorem qe_L_lng (rho : Nat → Int32) (n : Nat) : qe_lng rho (qe_L n) = Int64.ofNat n := by
  unfold qe_lng
  have h : qe_sym (qe_L n) = false := by
    show Nat.beq ((8 * n + 1) / 4 % 2) 1 = false
    rw [show (8 * n + 1) / 4 % 2 = 0 by omega]; rfl
  rw [h]
  show Int64.ofNat ((8 * n + 1) / 8) = _
  rw [show (8 * n + 1) / 8 = n by omega]
theorem qe_R_is (n : Nat) : qe_is 2 (qe_R n) = true := by
  show Nat.beq ((8 * n + 2) % 4) 2 = true
  rw [show (8 * n + 2) % 4 = 2 by omega]; rfl
theorem qe_R_adr (ad ext : Nat → Nat) (n : Nat) : qe_adr ad ext (qe_R n) = ad n := by
  unfold qe_adr
  have h : qe_sym (qe_R n) = false := by
    show Nat.beq ((8 * n + 2) / 4 % 2) 1 = false
    rw [show (8 * n + 2) / 4 % 2 = 0 by omega]; rfl
  rw [h]
  show ad ((8 * n + 2) / 8) = _
  rw [show (8 * n + 2) / 8 = n by omega]
/-! the operations on two ints, by their numbers -/
def qe_sem (k : Nat) (x y : Int32) : Int32 :=
  cond (Nat.beq k 10) (x + y) (cond (Nat.beq k 11) (x - y) (cond (Nat.beq k 12) (x * y) (cond (Nat.beq k 13) (x &&& y) (cond (Nat.beq k 14) (x ||| y) (cond (Nat.beq k 15) (x ^^^ y)
    (cond (Nat.beq k 16) (x <<< (y &&& 31)) (cond (Nat.beq k 17) (x >>> (y &&& 31)) ((x.toUInt32 >>> (y.toUInt32 &&& Int32.toUInt32 31)).toInt32))))))))
def qe_m (a : Nat) : Nat := Nat.mod a 4294967296
def qe_op (k a b : Nat) : Nat :=
  cond (Nat.beq k 10) (qe_m (Nat.add a b)) (cond (Nat.beq k 11) (qe_m (Nat.add a (Nat.sub 4294967296 (qe_m b)))) (cond (Nat.beq k 12) (qe_m (Nat.mul a b)) (cond (Nat.beq k 13) (Nat.land (qe_m a) (qe_m b)) (cond (Nat.beq k 14) (Nat.lor (qe_m a) (qe_m b)) (cond (Nat.beq k 15) (Nat.xor (qe_m a) (qe_m b))
    (cond (Nat.beq k 16) (qe_m (Nat.shiftLeft a (Nat.mod b 32))) (cond (Nat.beq k 17) (cond (Nat.blt (qe_m a) 2147483648) (Nat.shiftRight (qe_m a) (Nat.mod b 32)) (Nat.sub 4294967295 (Nat.shiftRight (Nat.sub 4294967295 (qe_m a)) (Nat.mod b 32)))) (Nat.shiftRight (qe_m a) (Nat.mod b 32)))))))))
theorem qe_bv (a : Nat) : (Int32.ofNat a).toBitVec = BitVec.ofNat 32 a := rfl
theorem qe_ofm (a : Nat) : Int32.ofNat (qe_m a) = Int32.ofNat a := by
  apply Int32.toBitVec_inj.1
  rw [qe_bv, qe_bv]
  apply BitVec.eq_of_toNat_eq
  rw [BitVec.toNat_ofNat, BitVec.toNat_ofNat]
  show a % 2 ^ 32 % 2 ^ 32 = a % 2 ^ 32
  rw [Nat.mod_mod]
theorem qe_m_lt (a : Nat) : qe_m a < 4294967296 := Nat.mod_lt _ (by decide)
theorem qe_sm (n : Nat) (hn : n < 32) : ((Int32.ofNat n &&& 31).toBitVec.smod 32).toNat = n :=
  (by decide +kernel : ∀ n, n < 32 → ((Int32.ofNat n &&& 31).toBitVec.smod 32).toNat = n) n hn
theorem qe_um (n : Nat) (hn : n < 32) : (((Int32.ofNat n).toUInt32 &&& Int32.toUInt32 31).toBitVec % 32).toNat = n :=
  (by decide +kernel : ∀ n, n < 32 → (((Int32.ofNat n).toUInt32 &&& Int32.toUInt32 31).toBitVec % 32).toNat = n) n hn
theorem qe_and (a b : Nat) : Int32.ofNat a &&& Int32.ofNat b = Int32.ofNat (a &&& b) := by
  apply Int32.toBitVec_inj.1
  show BitVec.ofNat 32 a &&& BitVec.ofNat 32 b = BitVec.ofNat 32 (a &&& b)
  apply BitVec.eq_of_getLsbD_eq
  intro i hi
  simp [hi]
theorem qe_or (a b : Nat) : Int32.ofNat a ||| Int32.ofNat b = Int32.ofNat (a ||| b) := by
  apply Int32.toBitVec_inj.1
  show BitVec.ofNat 32 a ||| BitVec.ofNat 32 b = BitVec.ofNat 32 (a ||| b)
  apply BitVec.eq_of_getLsbD_eq
  intro i hi
  simp [hi]
theorem qe_xor (a b : Nat) : Int32.ofNat a ^^^ Int32.ofNat b = Int32.ofNat (a ^^^ b) := by
  apply Int32.toBitVec_inj.1
  show BitVec.ofNat 32 a ^^^ BitVec.ofNat 32 b = BitVec.ofNat 32 (a ^^^ b)
  apply BitVec.eq_of_getLsbD_eq
  intro i hi
  simp [hi]
theorem qe_and31 (b : Nat) : Int32.ofNat b &&& 31 = Int32.ofNat (b % 32) &&& 31 := by
  show Int32.ofNat b &&& Int32.ofNat 31 = Int32.ofNat (b % 32) &&& Int32.ofNat 31
  rw [qe_and, qe_and]
  congr 1
  rw [Nat.and_two_pow_sub_one_eq_mod b 5, Nat.and_two_pow_sub_one_eq_mod (b % 32) 5]
  omega
theorem qe_and31u (b : Nat) : (Int32.ofNat b).toUInt32 &&& Int32.toUInt32 31 = (Int32.ofNat (b % 32)).toUInt32 &&& Int32.toUInt32 31 := by
  have h := congrArg Int32.toUInt32 (qe_and31 b)
  exact h
theorem qe_sub (a b : Nat) : Int32.ofNat a - Int32.ofNat b = Int32.ofNat (a + (4294967296 - b % 4294967296)) := by
  apply Int32.toBitVec_inj.1
  show BitVec.ofNat 32 a - BitVec.ofNat 32 b = BitVec.ofNat 32 _
  apply BitVec.eq_of_toNat_eq
  rw [BitVec.toNat_sub, BitVec.toNat_ofNat, BitVec.toNat_ofNat, BitVec.toNat_ofNat]
  omega
theorem qe_shl (a n : Nat) (hn : n < 32) : Int32.ofNat a <<< (Int32.ofNat n &&& 31) = Int32.ofNat (a <<< n) := by
  apply Int32.toBitVec_inj.1
  rw [Int32.toBitVec_shiftLeft]
  show (BitVec.ofNat 32 a) <<< ((Int32.ofNat n &&& 31).toBitVec.smod 32).toNat = BitVec.ofNat 32 (a <<< n)
  rw [qe_sm n hn]
  apply BitVec.eq_of_toNat_eq
  rw [BitVec.toNat_shiftLeft, BitVec.toNat_ofNat, BitVec.toNat_ofNat, Nat.shiftLeft_eq, Nat.shiftLeft_eq, Nat.mod_mul_mod]
theorem qe_ushr (a n : Nat) (hn : n < 32) : ((Int32.ofNat a).toUInt32 >>> ((Int32.ofNat n).toUInt32 &&& Int32.toUInt32 31)).toInt32 = Int32.ofNat (qe_m a >>> n) := by
  apply Int32.toBitVec_inj.1
  show ((Int32.ofNat a).toUInt32 >>> ((Int32.ofNat n).toUInt32 &&& Int32.toUInt32 31)).toBitVec = BitVec.ofNat 32 (qe_m a >>> n)
  rw [UInt32.toBitVec_shiftRight]
  show (BitVec.ofNat 32 a) >>> (((Int32.ofNat n).toUInt32 &&& Int32.toUInt32 31).toBitVec % 32).toNat = _
  rw [qe_um n hn]
  apply BitVec.eq_of_toNat_eq
  rw [BitVec.toNat_ushiftRight, BitVec.toNat_ofNat, BitVec.toNat_ofNat]
  show (a % 2 ^ 32) >>> n = ((a % 2 ^ 32) >>> n) % 2 ^ 32
  rw [Nat.mod_eq_of_lt (Nat.lt_of_le_of_lt (Nat.shiftRight_le _ _) (Nat.mod_lt _ (by decide)))]
theorem qe_sshr (a n : Nat) (hn : n < 32) : Int32.ofNat a >>> (Int32.ofNat n &&& 31) = Int32.ofNat (cond (Nat.blt (qe_m a) 2147483648) (Nat.shiftRight (qe_m a) n) (Nat.sub 4294967295 (Nat.shiftRight (Nat.sub 4294967295 (qe_m a)) n))) := by
  apply Int32.toBitVec_inj.1
  rw [Int32.toBitVec_shiftRight]
  show (BitVec.ofNat 32 a).sshiftRight ((Int32.ofNat n &&& 31).toBitVec.smod 32).toNat = BitVec.ofNat 32 _
  rw [qe_sm n hn]
  apply BitVec.eq_of_toNat_eq
  rw [BitVec.toNat_sshiftRight, BitVec.msb_eq_decide, BitVec.toNat_ofNat, BitVec.toNat_ofNat]
  show (if decide (2 ^ 31 ≤ a % 2 ^ 32) = true then 2 ^ 32 - 1 - ((2 ^ 32 - 1 - a % 2 ^ 32) >>> n) else (a % 2 ^ 32) >>> n) = _
  have hlt : a % 2 ^ 32 < 2 ^ 32 := Nat.mod_lt _ (by decide)
  by_cases h : a % 2 ^ 32 < 2 ^ 31
  · have h1 : Nat.blt (qe_m a) 2147483648 = true := Nat.ble_eq_true_of_le h
    rw [h1, if_neg (by simp; omega)]
    show _ = ((a % 2 ^ 32) >>> n) % 2 ^ 32
    rw [Nat.mod_eq_of_lt (Nat.lt_of_le_of_lt (Nat.shiftRight_le _ _) hlt)]
  · have h1 : Nat.blt (qe_m a) 2147483648 = false := by
      cases hq : Nat.blt (qe_m a) 2147483648
      · rfl
      · exact absurd (Nat.le_of_ble_eq_true hq) h
    rw [h1, if_pos (by simp; omega)]
    have h3 : 4294967295 - ((4294967295 - a % 2 ^ 32) >>> n) < 2 ^ 32 := Nat.lt_of_le_of_lt (Nat.sub_le _ _) (by decide)
    exact (Nat.mod_eq_of_lt h3).symm
theorem qe_sem_op (k a b : Nat) : qe_sem k (Int32.ofNat a) (Int32.ofNat b) = Int32.ofNat (qe_op k a b) := by
  have hb : b % 32 < 32 := Nat.mod_lt _ (by decide)
  unfold qe_sem qe_op
  cases Nat.beq k 10
  · cases Nat.beq k 11
    · cases Nat.beq k 12
      · cases Nat.beq k 13
        · cases Nat.beq k 14
          · cases Nat.beq k 15
            · cases Nat.beq k 16
              · cases Nat.beq k 17
                · show ((Int32.ofNat a).toUInt32 >>> ((Int32.ofNat b).toUInt32 &&& Int32.toUInt32 31)).toInt32 = Int32.ofNat (qe_m a >>> (b % 32))
                  rw [qe_and31u, qe_ushr a (b % 32) hb]
                · show Int32.ofNat a >>> (Int32.ofNat b &&& 31) = _
                  rw [qe_and31, qe_sshr a (b % 32) hb]
                  rfl
              · show Int32.ofNat a <<< (Int32.ofNat b &&& 31) = Int32.ofNat (qe_m (a <<< (b % 32)))
                rw [qe_ofm, qe_and31, qe_shl a (b % 32) hb]
            · show Int32.ofNat a ^^^ Int32.ofNat b = Int32.ofNat (qe_m a ^^^ qe_m b)
              rw [← qe_xor, qe_ofm, qe_ofm]
          · show Int32.ofNat a ||| Int32.ofNat b = Int32.ofNat (qe_m a ||| qe_m b)
            rw [← qe_or, qe_ofm, qe_ofm]
        · show Int32.ofNat a &&& Int32.ofNat b = Int32.ofNat (qe_m a &&& qe_m b)
          rw [← qe_and, qe_ofm, qe_ofm]
      · show Int32.ofNat a * Int32.ofNat b = Int32.ofNat (qe_m (a * b))
        rw [qe_ofm, Int32.ofNat_mul]
    · show Int32.ofNat a - Int32.ofNat b = Int32.ofNat (qe_m (a + (4294967296 - b % 4294967296)))
      rw [qe_ofm, qe_sub]
  · show Int32.ofNat a + Int32.ofNat b = Int32.ofNat (qe_m (a + b))
    rw [qe_ofm, Int32.ofNat_add]
/-- the names' own rows: operation, its two operands, the name that stands for the answer -/
abbrev qe_Df : Type := List (Nat × Nat × Nat × Nat)
def qe_dok (rho : Nat → Int32) (df : qe_Df) : Prop := ∀ q ∈ df, rho q.2.2.2 = qe_sem q.1 (qe_int rho q.2.1) (qe_int rho q.2.2.1)
def qe_find (k x y : Nat) : qe_Df → Option Nat
  | [] => none
  | q :: l => cond (Nat.beq q.1 k && (Nat.beq q.2.1 x && Nat.beq q.2.2.1 y)) (some (Nat.add (Nat.mul 8 q.2.2.2) 4)) (qe_find k x y l)
theorem qe_find_ok {rho : Nat → Int32} {k x y z : Nat} : ∀ {df : qe_Df}, qe_dok rho df → qe_find k x y df = some z → qe_is 0 z = true ∧ qe_int rho z = qe_sem k (qe_int rho x) (qe_int rho y)
  | [], _, h => by cases h
  | q :: l, hd, h => by
    unfold qe_find at h
    cases hc : (Nat.beq q.1 k && (Nat.beq q.2.1 x && Nat.beq q.2.2.1 y))
    · rw [hc] at h
      exact qe_find_ok (fun r hr => hd r (List.mem_cons_of_mem _ hr)) h
    · rw [hc] at h
      simp only [Bool.and_eq_true] at hc
      obtain ⟨h1, h2, h3⟩ := hc
      have e1 := Nat.eq_of_beq_eq_true h1
      have e2 := Nat.eq_of_beq_eq_true h2
      have e3 := Nat.eq_of_beq_eq_true h3
      have hz : 8 * q.2.2.2 + 4 = z := Option.some.inj h
      have hq := hd q List.mem_cons_self
      rw [e1, e2, e3] at hq
      subst hz
      refine ⟨?_, ?_⟩
      · show Nat.beq ((8 * q.2.2.2 + 4) % 4) 0 = true
        rw [show (8 * q.2.2.2 + 4) % 4 = 0 by omega]; rfl
      · rw [← hq]
        unfold qe_int
        have hs : qe_sym (8 * q.2.2.2 + 4) = true := by
          show Nat.beq ((8 * q.2.2.2 + 4) / 4 % 2) 1 = true
          rw [show (8 * q.2.2.2 + 4) / 4 % 2 = 1 by omega]; rfl
        rw [hs]
        show rho ((8 * q.2.2.2 + 4) / 8) = _
        rw [show (8 * q.2.2.2 + 4) / 8 = q.2.2.2 by omega]
/-- an operation on two values, both ints -/
def qe_bin (df : qe_Df) (k x y : Nat) : Option Nat := cond (qe_is 0 x && qe_is 0 y) (cond (qe_sym x || qe_sym y) (qe_find k x y df) (some (qe_I (qe_op k (Nat.div x 8) (Nat.div y 8))))) none
theorem qe_bin_ok {rho : Nat → Int32} {df : qe_Df} {k x y z : Nat} (hd : qe_dok rho df) (h : qe_bin df k x y = some z) : qe_is 0 x = true ∧ qe_is 0 y = true ∧ qe_is 0 z = true ∧ qe_int rho z = qe_sem k (qe_int rho x) (qe_int rho y) := by
  unfold qe_bin at h
  cases h1 : qe_is 0 x
  · rw [h1] at h; cases h
  · cases h2 : qe_is 0 y
    · rw [h1, h2] at h; cases h
    · rw [h1, h2] at h
      refine ⟨rfl, rfl, ?_⟩
      cases h3 : qe_sym x
      · cases h4 : qe_sym y
        · rw [h3, h4] at h
          have hz : qe_I (qe_op k (Nat.div x 8) (Nat.div y 8)) = z := Option.some.inj h
          subst hz
          refine ⟨qe_I_is _, ?_⟩
          rw [qe_I_int, ← qe_sem_op]
          unfold qe_int
          rw [h3, h4]
          rfl
        · rw [h3, h4] at h
          exact qe_find_ok hd h
      · rw [h3] at h
        exact qe_find_ok hd h
end QEV
