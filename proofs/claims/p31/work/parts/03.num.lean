/-! ENGINE, part 1: values, rows of values and worlds as numbers that the kernel counts with -/
section QEN
/-- the i-th place of 72 bits -/
def qe_get (d i : Nat) : Nat := Nat.mod (Nat.shiftRight d (Nat.mul 72 i)) 4722366482869645213696
def qe_set (d i v : Nat) : Nat := Nat.xor d (Nat.shiftLeft (Nat.xor (qe_get d i) v) (Nat.mul 72 i))
theorem qe_get_bit (d i k : Nat) : (qe_get d i).testBit k = (decide (k < 72) && d.testBit (72 * i + k)) := by
  show ((d >>> (72 * i)) % 2 ^ 72).testBit k = _
  rw [Nat.testBit_mod_two_pow, Nat.testBit_shiftRight]
theorem qe_get_lt (d i : Nat) : qe_get d i < 4722366482869645213696 := Nat.mod_lt _ (by decide)
theorem qe_small_bit {v k : Nat} (h : v < 4722366482869645213696) (hk : 72 ≤ k) : v.testBit k = false :=
  Nat.testBit_lt_two_pow (Nat.lt_of_lt_of_le (show v < 2 ^ 72 from h) (Nat.pow_le_pow_right (by decide) hk))
theorem qe_get_set (d i v j : Nat) (h : v < 4722366482869645213696) : qe_get (qe_set d i v) j = if j = i then v else qe_get d j := by
  refine Nat.eq_of_testBit_eq fun k => ?_
  rw [qe_get_bit]
  show (decide (k < 72) && (d ^^^ ((qe_get d i ^^^ v) <<< (72 * i))).testBit (72 * j + k)) = _
  rw [Nat.testBit_xor, Nat.testBit_shiftLeft, Nat.testBit_xor, qe_get_bit]
  by_cases hk : k < 72
  · by_cases hj : j = i
    · subst hj
      rw [if_pos rfl, show 72 * j + k - 72 * j = k by omega]
      simp [hk]
    · rw [if_neg hj, qe_get_bit]
      by_cases hlt : 72 * j + k < 72 * i
      · have : ¬ (72 * j + k ≥ 72 * i) := by omega
        simp [this]
      · have h2 : 72 ≤ 72 * j + k - 72 * i := by omega
        have h3 : ¬ (72 * j + k - 72 * i < 72) := by omega
        simp [qe_small_bit h h2, h3]
  · have hk2 : 72 ≤ k := by omega
    by_cases hj : j = i
    · rw [if_pos hj, qe_small_bit h hk2]; simp [hk]
    · rw [if_neg hj, qe_get_bit]; simp [hk]
theorem qe_get_zero (i : Nat) : qe_get 0 i = 0 := by
  show (0 >>> (72 * i)) % 2 ^ 72 = 0
  simp
/-- the cells of a world: a tree of 2 ^ d places; a cell: kind, length, places -/
def qe_T (d : Nat) : Type := Nat.rec (motive := fun _ => Type) (Nat × Nat × Nat) (fun _ t => t × t) d
def qe_b (i d : Nat) : Bool := Nat.beq (Nat.land (Nat.shiftRight i d) 1) 1
noncomputable def qe_rd (d : Nat) : qe_T d → Nat → Nat × Nat × Nat := Nat.rec (motive := fun d => qe_T d → Nat → Nat × Nat × Nat) (fun t _ => t) (fun d ih t i => cond (qe_b i d) (ih (Prod.snd t) i) (ih (Prod.fst t) i)) d
noncomputable def qe_wr (d : Nat) : qe_T d → Nat → Nat × Nat × Nat → qe_T d := Nat.rec (motive := fun d => qe_T d → Nat → Nat × Nat × Nat → qe_T d) (fun _ _ c => c) (fun d ih t i c => cond (qe_b i d) (Prod.fst t, ih (Prod.snd t) i c) (ih (Prod.fst t) i c, Prod.snd t)) d
noncomputable def qe_nil (d : Nat) : qe_T d := Nat.rec (motive := fun d => qe_T d) ((0, 0, 0) : Nat × Nat × Nat) (fun _ t => (t, t)) d
theorem qe_b_eq (i d : Nat) : qe_b i d = i.testBit d := by
  show Nat.beq ((i >>> d) &&& 1) 1 = _
  rw [Nat.testBit, Nat.and_comm]
  rcases Nat.mod_two_eq_zero_or_one (i >>> d) with h | h
  · rw [show (1 &&& i >>> d) = 0 by rw [Nat.and_comm, Nat.and_one_is_mod, h]]; rfl
  · rw [show (1 &&& i >>> d) = 1 by rw [Nat.and_comm, Nat.and_one_is_mod, h]]; rfl
theorem qe_mod_bit (i j d : Nat) : i % 2 ^ (d + 1) = j % 2 ^ (d + 1) ↔ (i.testBit d = j.testBit d ∧ i % 2 ^ d = j % 2 ^ d) := by
  constructor
  · intro h
    have hb : ∀ k, (i % 2 ^ (d + 1)).testBit k = (j % 2 ^ (d + 1)).testBit k := fun k => by rw [h]
    simp only [Nat.testBit_mod_two_pow] at hb
    refine ⟨by simpa using hb d, Nat.eq_of_testBit_eq fun k => ?_⟩
    rw [Nat.testBit_mod_two_pow, Nat.testBit_mod_two_pow]
    by_cases hk : k < d
    · have := hb k
      simp [show k < d + 1 by omega] at this
      simp [hk, this]
    · simp [hk]
  · rintro ⟨h1, h2⟩
    have hb : ∀ k, (i % 2 ^ d).testBit k = (j % 2 ^ d).testBit k := fun k => by rw [h2]
    simp only [Nat.testBit_mod_two_pow] at hb
    refine Nat.eq_of_testBit_eq fun k => ?_
    rw [Nat.testBit_mod_two_pow, Nat.testBit_mod_two_pow]
    by_cases hk : k < d
    · have := hb k
      simp [hk] at this
      simp [this]
    · by_cases hkd : k = d
      · subst hkd; simp [h1]
      · simp [show ¬ k < d + 1 by omega]
theorem qe_rd_wr : ∀ (d : Nat) (t : qe_T d) (i : Nat) (c : Nat × Nat × Nat) (j : Nat), qe_rd d (qe_wr d t i c) j = if j % 2 ^ d = i % 2 ^ d then c else qe_rd d t j
  | 0, t, i, c, j => by
    rw [if_pos (by simp [Nat.mod_one])]
    rfl
  | d + 1, t, i, c, j => by
    show cond (qe_b j d) (qe_rd d (Prod.snd (cond (qe_b i d) (Prod.fst t, qe_wr d (Prod.snd t) i c) (qe_wr d (Prod.fst t) i c, Prod.snd t))) j) (qe_rd d (Prod.fst (cond (qe_b i d) (Prod.fst t, qe_wr d (Prod.snd t) i c) (qe_wr d (Prod.fst t) i c, Prod.snd t))) j) = if _ then c else cond (qe_b j d) (qe_rd d (Prod.snd t) j) (qe_rd d (Prod.fst t) j)
    have e := qe_mod_bit j i d
    rw [← qe_b_eq, ← qe_b_eq] at e
    cases hj : qe_b j d <;> cases hi : qe_b i d <;> simp only [cond_true, cond_false, qe_rd_wr d, e, hi, hj] <;> simp
theorem qe_mod_ne {i j d : Nat} (hi : i < 2 ^ d) (hj : j < 2 ^ d) : (j % 2 ^ d = i % 2 ^ d) ↔ j = i := by
  rw [Nat.mod_eq_of_lt hi, Nat.mod_eq_of_lt hj]
end QEN
