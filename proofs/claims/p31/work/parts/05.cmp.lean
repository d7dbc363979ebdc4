/-! ENGINE, part 3: comparing; what is known of a name's int lies in a list of rows (name, least, greatest), counted from -2147483648 -/
section QEC
abbrev qe_Cx : Type := List (Nat × Nat × Nat)
def qe_so (x : Int32) : Nat := (x.toInt + 2147483648).toNat
theorem qe_so_eq (x : Int32) : (qe_so x : Int) = x.toInt + 2147483648 := by
  have h1 := Int32.le_toInt x
  unfold qe_so
  omega
theorem qe_so_lt (x : Int32) : qe_so x < 4294967296 := by
  have h1 := qe_so_eq x
  have h2 := Int32.toInt_lt x
  omega
theorem qe_so_ilt {x y : Int32} : x < y ↔ qe_so x < qe_so y := by
  have h1 := qe_so_eq x
  have h2 := qe_so_eq y
  rw [Int32.lt_iff_toInt_lt]
  omega
theorem qe_so_inj {x y : Int32} : x = y ↔ qe_so x = qe_so y := by
  have h1 := qe_so_eq x
  have h2 := qe_so_eq y
  rw [← Int32.toInt_inj]
  omega
def qe_of (a : Nat) : Nat := Nat.mod (Nat.add a 2147483648) 4294967296
theorem qe_so_of (a : Nat) : qe_so (Int32.ofNat a) = qe_of a := by
  have h1 := qe_so_eq (Int32.ofNat a)
  have h2 : (Int32.ofNat a).toInt = if 2 * (a % 4294967296) < 4294967296 then ((a % 4294967296 : Nat) : Int) else ((a % 4294967296 : Nat) : Int) - 4294967296 := by
    show (BitVec.ofNat 32 a).toInt = _
    rw [BitVec.toInt_eq_toNat_cond, BitVec.toNat_ofNat]
    rfl
  show qe_so (Int32.ofNat a) = (a + 2147483648) % 4294967296
  rw [h2] at h1
  split at h1 <;> omega
/-- what is known of a name -/
def qe_rng (i : Nat) : qe_Cx → Nat × Nat
  | [] => (0, 4294967295)
  | q :: l => cond (Nat.beq q.1 i) q.2 (qe_rng i l)
def qe_cok (rho : Nat → Int32) (cx : qe_Cx) : Prop := ∀ i, (qe_rng i cx).1 ≤ qe_so (rho i) ∧ qe_so (rho i) ≤ (qe_rng i cx).2
theorem qe_cok_nil (rho : Nat → Int32) : qe_cok rho [] := fun i => ⟨Nat.zero_le _, by have := qe_so_lt (rho i); show qe_so (rho i) ≤ 4294967295; omega⟩
theorem qe_cok_cons {rho : Nat → Int32} {cx : qe_Cx} {i lo hi : Nat} (h : qe_cok rho cx) (h1 : lo ≤ qe_so (rho i)) (h2 : qe_so (rho i) ≤ hi) : qe_cok rho ((i, lo, hi) :: cx) := by
  intro j
  unfold qe_rng
  cases hb : Nat.beq i j
  · exact h j
  · have e := Nat.eq_of_beq_eq_true hb
    subst e
    exact ⟨h1, h2⟩
def qe_c3 (a b : Nat) : Nat := cond (Nat.blt a b) 0 (cond (Nat.beq a b) 1 2)
theorem qe_c3_lt {a b : Nat} (h : a < b) : qe_c3 a b = 0 := by
  unfold qe_c3
  rw [show Nat.blt a b = true from Nat.ble_eq_true_of_le h]; rfl
theorem qe_c3_eq {a b : Nat} (h : a = b) : qe_c3 a b = 1 := by
  subst h
  unfold qe_c3
  have h1 : Nat.blt a a = false := by
    cases hq : Nat.blt a a
    · rfl
    · exact absurd (Nat.le_of_ble_eq_true hq) (Nat.lt_irrefl a)
  rw [h1, show Nat.beq a a = true from Nat.beq_refl a]; rfl
theorem qe_c3_gt {a b : Nat} (h : b < a) : qe_c3 a b = 2 := by
  unfold qe_c3
  have h1 : Nat.blt a b = false := by
    cases hq : Nat.blt a b
    · rfl
    · have := Nat.le_of_ble_eq_true hq; omega
  have h2 : Nat.beq a b = false := by
    cases hq : Nat.beq a b
    · rfl
    · have := Nat.eq_of_beq_eq_true hq; omega
  rw [h1, h2]; rfl
/-- a name i, known to lie between lo and hi, against c: which of less 0, equal 1, greater 2 may come, and what is known then -/
def qe_fork (cx : qe_Cx) (i lo hi c : Nat) (l e g : Nat) : List (qe_Cx × Nat) :=
  cond (Nat.blt lo c) [((i, lo, cond (Nat.blt hi c) hi (Nat.sub c 1)) :: cx, l)] [] ++ (cond (Nat.ble lo c && Nat.ble c hi) [((i, c, c) :: cx, e)] [] ++ cond (Nat.blt c hi) [((i, cond (Nat.blt c lo) lo (Nat.add c 1), hi) :: cx, g)] [])
theorem qe_fork_ok {rho : Nat → Int32} {cx : qe_Cx} {i c : Nat} (l e g : Nat) (h : qe_cok rho cx) : ∃ q ∈ qe_fork cx i (qe_rng i cx).1 (qe_rng i cx).2 c l e g, qe_cok rho q.1 ∧ q.2 = (if qe_so (rho i) < c then l else if qe_so (rho i) = c then e else g) := by
  obtain ⟨h1, h2⟩ := h i
  unfold qe_fork
  rcases Nat.lt_trichotomy (qe_so (rho i)) c with hc | hc | hc
  · have a1 : Nat.blt (qe_rng i cx).1 c = true := Nat.ble_eq_true_of_le (show (qe_rng i cx).1 + 1 ≤ c by omega)
    rw [a1]
    refine ⟨_, List.mem_append_left _ List.mem_cons_self, qe_cok_cons h h1 ?_, by rw [if_pos hc]⟩
    cases hq : Nat.blt (qe_rng i cx).2 c
    · show qe_so (rho i) ≤ c - 1; omega
    · exact h2
  · have a1 : (Nat.ble (qe_rng i cx).1 c && Nat.ble c (qe_rng i cx).2) = true := by
      rw [Bool.and_eq_true]
      exact ⟨Nat.ble_eq_true_of_le (by omega), Nat.ble_eq_true_of_le (by omega)⟩
    rw [a1]
    refine ⟨_, List.mem_append_right _ (List.mem_append_left _ List.mem_cons_self), qe_cok_cons h (by omega) (by omega), by rw [if_neg (by omega), if_pos hc]⟩
  · have a1 : Nat.blt c (qe_rng i cx).2 = true := Nat.ble_eq_true_of_le (show c + 1 ≤ (qe_rng i cx).2 by omega)
    rw [a1]
    refine ⟨_, List.mem_append_right _ (List.mem_append_right _ List.mem_cons_self), qe_cok_cons h ?_ h2, by rw [if_neg (by omega), if_neg (by omega)]⟩
    cases hq : Nat.blt c (qe_rng i cx).1
    · show c + 1 ≤ qe_so (rho i); omega
    · exact h1
/-- two ints: sx, px: is the first one a name, its name or its counted number -/
def qe_cmp (cx : qe_Cx) (x y : Nat) (fo : Nat → Option Nat) : Option (List (qe_Cx × Nat)) :=
  cond (qe_sym x) (cond (qe_sym y) (cond (Nat.beq x y) (some [(cx, 1)]) none) (Option.bind (fo (Nat.div y 8)) fun c => some (qe_fork cx (Nat.div x 8) (qe_rng (Nat.div x 8) cx).1 (qe_rng (Nat.div x 8) cx).2 c 0 1 2)))
    (cond (qe_sym y) (Option.bind (fo (Nat.div x 8)) fun c => some (qe_fork cx (Nat.div y 8) (qe_rng (Nat.div y 8) cx).1 (qe_rng (Nat.div y 8) cx).2 c 2 1 0)) (Option.bind (fo (Nat.div x 8)) fun a => Option.bind (fo (Nat.div y 8)) fun b => some [(cx, qe_c3 a b)]))
theorem qe_cmp_ok {rho : Nat → Int32} {cx : qe_Cx} {x y : Nat} {fo : Nat → Option Nat} {val : Nat → Nat} {L : List (qe_Cx × Nat)} (hs : ∀ v, qe_sym v = true → val v = qe_so (rho (v / 8))) (hf : ∀ v c, qe_sym v = false → fo (v / 8) = some c → val v = c) (hv : x = y → val x = val y)
    (hc : qe_cok rho cx) (h : qe_cmp cx x y fo = some L) : ∃ q ∈ L, qe_cok rho q.1 ∧ q.2 = qe_c3 (val x) (val y) := by
  unfold qe_cmp at h
  cases hx : qe_sym x
  · rw [hx] at h
    cases hy : qe_sym y
    · rw [hy] at h
      simp only [cond_false] at h
      cases h1 : fo (Nat.div x 8) with
      | none => rw [h1] at h; cases h
      | some a =>
        rw [h1] at h
        cases h2 : fo (Nat.div y 8) with
        | none => rw [h2] at h; cases h
        | some b =>
          rw [h2] at h
          cases h
          exact ⟨_, List.mem_cons_self, hc, by rw [hf x a hx h1, hf y b hy h2]⟩
    · rw [hy] at h
      simp only [cond_false, cond_true] at h
      cases h1 : fo (Nat.div x 8) with
      | none => rw [h1] at h; cases h
      | some a =>
        rw [h1] at h
        cases h
        obtain ⟨q, q1, q2, q3⟩ := qe_fork_ok (i := y / 8) (c := a) 2 1 0 hc
        refine ⟨q, q1, q2, ?_⟩
        rw [q3, hf x a hx h1, hs y hy]
        by_cases z1 : qe_so (rho (y / 8)) < a
        · rw [if_pos z1, qe_c3_gt z1]
        · by_cases z2 : qe_so (rho (y / 8)) = a
          · rw [if_neg z1, if_pos z2, qe_c3_eq z2.symm]
          · rw [if_neg z1, if_neg z2, qe_c3_lt (by omega)]
  · rw [hx] at h
    cases hy : qe_sym y
    · rw [hy] at h
      simp only [cond_false, cond_true] at h
      cases h1 : fo (Nat.div y 8) with
      | none => rw [h1] at h; cases h
      | some a =>
        rw [h1] at h
        cases h
        obtain ⟨q, q1, q2, q3⟩ := qe_fork_ok (i := x / 8) (c := a) 0 1 2 hc
        refine ⟨q, q1, q2, ?_⟩
        rw [q3, hf y a hy h1, hs x hx]
        by_cases z1 : qe_so (rho (x / 8)) < a
        · rw [if_pos z1, qe_c3_lt z1]
        · by_cases z2 : qe_so (rho (x / 8)) = a
          · rw [if_neg z1, if_pos z2, qe_c3_eq z2]
          · rw [if_neg z1, if_neg z2, qe_c3_gt (by omega)]
    · rw [hy] at h
      simp only [cond_true] at h
      cases hb : Nat.beq x y
      · rw [hb] at h; cases h
      · rw [hb] at h
        cases h
        have e := Nat.eq_of_beq_eq_true hb
        exact ⟨_, List.mem_cons_self, hc, (qe_c3_eq (hv e)).symm⟩
/-- ints -/
def qe_foI (a : Nat) : Option Nat := some (qe_of a)
theorem qe_cmpI_ok {rho : Nat → Int32} {cx : qe_Cx} {x y : Nat} {L : List (qe_Cx × Nat)} (hc : qe_cok rho cx) (h : qe_cmp cx x y qe_foI = some L) : ∃ q ∈ L, qe_cok rho q.1 ∧ q.2 = qe_c3 (qe_so (qe_int rho x)) (qe_so (qe_int rho y)) := by
  refine qe_cmp_ok (val := fun v => qe_so (qe_int rho v)) (fun v hv => ?_) (fun v c hv hcv => ?_) (fun e => by rw [e]) hc h
  · show qe_so (qe_int rho v) = _
    unfold qe_int
    rw [hv]; rfl
  · show qe_so (qe_int rho v) = _
    unfold qe_int
    rw [hv]
    show qe_so (Int32.ofNat (v / 8)) = c
    rw [qe_so_of]
    exact Option.some.inj hcv
/-- longs: counted as the ints that they are, where they are -/
def qe_lo (x : Int64) : Nat := (x.toInt + 9223372036854775808).toNat
theorem qe_lo_eq (x : Int64) : (qe_lo x : Int) = x.toInt + 9223372036854775808 := by
  have h1 := Int64.le_toInt x
  unfold qe_lo
  omega
def qe_ofL (a : Nat) : Nat := Nat.mod (Nat.add a 9223372036854775808) 18446744073709551616
theorem qe_lo_of (a : Nat) : qe_lo (Int64.ofNat a) = qe_ofL a := by
  have h1 := qe_lo_eq (Int64.ofNat a)
  have h2 : (Int64.ofNat a).toInt = if 2 * (a % 18446744073709551616) < 18446744073709551616 then ((a % 18446744073709551616 : Nat) : Int) else ((a % 18446744073709551616 : Nat) : Int) - 18446744073709551616 := by
    show (BitVec.ofNat 64 a).toInt = _
    rw [BitVec.toInt_eq_toNat_cond, BitVec.toNat_ofNat]
    rfl
  show qe_lo (Int64.ofNat a) = (a + 9223372036854775808) % 18446744073709551616
  rw [h2] at h1
  split at h1 <;> omega
theorem qe_lo_int (x : Int32) : qe_lo x.toInt64 = qe_so x + 9223372034707292160 := by
  have h1 := qe_lo_eq x.toInt64
  have h2 := qe_so_eq x
  rw [Int32.toInt_toInt64] at h1
  omega
def qe_foL (a : Nat) : Option Nat := cond (Nat.ble 9223372034707292160 (qe_ofL a)) (some (Nat.sub (qe_ofL a) 9223372034707292160)) none
theorem qe_cmpL_ok {rho : Nat → Int32} {cx : qe_Cx} {x y : Nat} {L : List (qe_Cx × Nat)} (hc : qe_cok rho cx) (h : qe_cmp cx x y qe_foL = some L) : ∃ q ∈ L, qe_cok rho q.1 ∧ q.2 = qe_c3 (qe_lo (qe_lng rho x) - 9223372034707292160) (qe_lo (qe_lng rho y) - 9223372034707292160) := by
  refine qe_cmp_ok (val := fun v => qe_lo (qe_lng rho v) - 9223372034707292160) (fun v hv => ?_) (fun v c hv hcv => ?_) (fun e => by rw [e]) hc h
  · show qe_lo (qe_lng rho v) - _ = _
    unfold qe_lng
    rw [hv]
    show qe_lo (rho (v / 8)).toInt64 - _ = _
    rw [qe_lo_int]
    omega
  · show qe_lo (qe_lng rho v) - _ = _
    unfold qe_lng
    rw [hv]
    show qe_lo (Int64.ofNat (v / 8)) - _ = c
    rw [qe_lo_of]
    unfold qe_foL at hcv
    cases hb : Nat.ble 9223372034707292160 (qe_ofL (v / 8))
    · rw [hb] at hcv; cases hcv
    · rw [hb] at hcv; exact Option.some.inj hcv
/-- where two longs could be compared, both are ints -/
theorem qe_foL_ge {rho : Nat → Int32} {v c : Nat} (hv : qe_sym v = false) (hcv : qe_foL (v / 8) = some c) : 9223372034707292160 ≤ qe_lo (qe_lng rho v) := by
  unfold qe_lng
  rw [hv]
  show _ ≤ qe_lo (Int64.ofNat (v / 8))
  rw [qe_lo_of]
  unfold qe_foL at hcv
  cases hb : Nat.ble 9223372034707292160 (qe_ofL (v / 8))
  · rw [hb] at hcv; cases hcv
  · exact Nat.le_of_ble_eq_true hb
theorem qe_symL_ge {rho : Nat → Int32} {v : Nat} (hv : qe_sym v = true) : 9223372034707292160 ≤ qe_lo (qe_lng rho v) := by
  unfold qe_lng
  rw [hv]
  show _ ≤ qe_lo (rho (v / 8)).toInt64
  rw [qe_lo_int]
  omega
theorem qe_cmp_fo {cx : qe_Cx} {x y : Nat} {fo : Nat → Option Nat} {L : List (qe_Cx × Nat)} (h : qe_cmp cx x y fo = some L) : (qe_sym x = true ∨ ∃ c, fo (x / 8) = some c) ∧ (qe_sym y = true ∨ ∃ c, fo (y / 8) = some c) := by
  unfold qe_cmp at h
  cases hx : qe_sym x
  · rw [hx] at h
    cases hy : qe_sym y
    · rw [hy] at h
      simp only [cond_false] at h
      cases h1 : fo (Nat.div x 8) with
      | none => rw [h1] at h; cases h
      | some a =>
        rw [h1] at h
        cases h2 : fo (Nat.div y 8) with
        | none => rw [h2] at h; cases h
        | some b => exact ⟨Or.inr ⟨a, rfl⟩, Or.inr ⟨b, rfl⟩⟩
    · rw [hy] at h
      simp only [cond_false, cond_true] at h
      cases h1 : fo (Nat.div x 8) with
      | none => rw [h1] at h; cases h
      | some a => exact ⟨Or.inr ⟨a, rfl⟩, Or.inl rfl⟩
  · cases hy : qe_sym y
    · rw [hx, hy] at h
      simp only [cond_false, cond_true] at h
      cases h1 : fo (Nat.div y 8) with
      | none => rw [h1] at h; cases h
      | some a => exact ⟨Or.inl rfl, Or.inr ⟨a, rfl⟩⟩
    · exact ⟨Or.inl rfl, Or.inl rfl⟩
theorem qe_cmpL_ge {rho : Nat → Int32} {cx : qe_Cx} {x y : Nat} {L : List (qe_Cx × Nat)} (h : qe_cmp cx x y qe_foL = some L) : 9223372034707292160 ≤ qe_lo (qe_lng rho x) ∧ 9223372034707292160 ≤ qe_lo (qe_lng rho y) := by
  obtain ⟨h1, h2⟩ := qe_cmp_fo h
  refine ⟨?_, ?_⟩
  · cases hx : qe_sym x
    · rcases h1 with h1 | ⟨c, h1⟩
      · rw [hx] at h1; cases h1
      · exact qe_foL_ge hx h1
    · exact qe_symL_ge hx
  · cases hx : qe_sym y
    · rcases h2 with h1 | ⟨c, h1⟩
      · rw [hx] at h1; cases h1
      · exact qe_foL_ge hx h1
    · exact qe_symL_ge hx
def qe_cmpr (r : Nat) : Nat := cond (Nat.beq r 0) 34359738360 (cond (Nat.beq r 1) 0 8)
theorem qe_lcmp {rho : Nat → Int32} {cx : qe_Cx} {x y : Nat} {L : List (qe_Cx × Nat)} (hc : qe_cok rho cx) (h : qe_cmp cx x y qe_foL = some L) : ∃ q ∈ L, qe_cok rho q.1 ∧ lg_cmp (qe_lng rho x) (qe_lng rho y) = qe_int rho (qe_cmpr q.2) ∧ qe_is 0 (qe_cmpr q.2) = true := by
  obtain ⟨q, h1, h2, h3⟩ := qe_cmpL_ok hc h
  obtain ⟨g1, g2⟩ := qe_cmpL_ge (rho := rho) h
  have e1 := qe_lo_eq (qe_lng rho x)
  have e2 := qe_lo_eq (qe_lng rho y)
  refine ⟨q, h1, h2, ?_⟩
  rw [h3]
  unfold lg_cmp
  by_cases c1 : qe_lng rho x > qe_lng rho y
  · rw [if_pos c1]
    have c2 := Int64.lt_iff_toInt_lt.mp c1
    rw [qe_c3_gt (by omega)]
    exact ⟨rfl, rfl⟩
  · rw [if_neg c1]
    by_cases c2 : qe_lng rho x = qe_lng rho y
    · rw [if_pos c2, c2, qe_c3_eq rfl]
      exact ⟨rfl, rfl⟩
    · rw [if_neg c2]
      have c3 : ¬ (qe_lng rho y).toInt < (qe_lng rho x).toInt := fun q => c1 (Int64.lt_iff_toInt_lt.mpr q)
      have c4 : ¬ (qe_lng rho x).toInt = (qe_lng rho y).toInt := fun q => c2 (Int64.toInt_inj.mp q)
      rw [qe_c3_lt (by omega)]
      exact ⟨(by decide : (-1 : Int32) = Int32.ofNat 4294967295), rfl⟩
end QEC
