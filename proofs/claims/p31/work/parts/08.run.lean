/-! ENGINE, part 6: the engine: what a method does with a world, all roads at once; made by hand -/
section QER
/-- an end: what is known, kind (0 returned, 1 returned a value, k + 2 thrown of sort k), value, world, cells and slots made -/
abbrev qe_O (dp : Nat) : Type := qe_Cx × Nat × Nat × Nat × qe_T dp × Nat × Nat
abbrev qe_R1 (dp : Nat) : Type := Option (List (qe_O dp))
/-- a world on the way: its cells' number, the cells, what is known, cells and slots made -/
abbrev qe_G (dp : Nat) : Type := Nat × qe_T dp × qe_Cx × Nat × Nat
/-- from a block of this method on: block, locals, stack, world -/
abbrev qe_K (dp : Nat) : Type := Nat → Nat → List Nat → qe_G dp → qe_R1 dp
/-- .. of any method -/
abbrev qe_C1 (dp : Nat) : Type := Nat → qe_K dp
/-- .. so deep -/
abbrev qe_F (dp : Nat) : Type := Nat → qe_C1 dp
/-- from an instruction on -/
abbrev qe_N (dp : Nat) : Type := qe_K dp → qe_C1 dp → Nat → List Nat → qe_G dp → qe_R1 dp
variable {dp : Nat}
def qo_cx (o : qe_O dp) : qe_Cx := o.1
def qo_k (o : qe_O dp) : Nat := o.2.1
def qo_v (o : qe_O dp) : Nat := o.2.2.1
def qo_n (o : qe_O dp) : Nat := o.2.2.2.1
def qo_t (o : qe_O dp) : qe_T dp := o.2.2.2.2.1
def qo_ce (o : qe_O dp) : Nat := o.2.2.2.2.2.1
def qo_sl (o : qe_O dp) : Nat := o.2.2.2.2.2.2
def qg_n (g : qe_G dp) : Nat := g.1
def qg_t (g : qe_G dp) : qe_T dp := g.2.1
def qg_cx (g : qe_G dp) : qe_Cx := g.2.2.1
def qg_ce (g : qe_G dp) : Nat := g.2.2.2.1
def qg_sl (g : qe_G dp) : Nat := g.2.2.2.2
/-- the same world, more known; another tree -/
def qg_wc (g : qe_G dp) (cx : qe_Cx) : qe_G dp := (g.1, g.2.1, cx, g.2.2.2.1, g.2.2.2.2)
def qg_wt (g : qe_G dp) (t : qe_T dp) : qe_G dp := (g.1, t, g.2.2.1, g.2.2.2.1, g.2.2.2.2)
def qe_lim : Nat := 4722366482869645213696
noncomputable def qe_ge (ce sl : Nat) (r : qe_R1 dp) : qe_R1 dp := Option.bind r fun l => List.rec (motive := fun _ => qe_R1 dp) none (fun o os _ => cond (Nat.ble ce (qo_ce o) && Nat.ble sl (qo_sl o)) (some (o :: os)) none) l
theorem qe_ge_ok {ce sl : Nat} {r : qe_R1 dp} {outs : List (qe_O dp)} (h : qe_ge ce sl r = some outs) : r = some outs ∧ ∃ o ∈ outs, ce ≤ qo_ce o ∧ sl ≤ qo_sl o := by
  unfold qe_ge at h
  cases r with
  | none => cases h
  | some l =>
    cases l with
    | nil => cases h
    | cons o os =>
      cases hc : (Nat.ble ce (qo_ce o) && Nat.ble sl (qo_sl o))
      · simp only [Option.bind, hc, cond_false] at h; cases h
      · simp only [Option.bind, hc, cond_true] at h
        rw [Bool.and_eq_true] at hc
        have e : o :: os = outs := Option.some.inj h
        exact ⟨by rw [e], o, by rw [← e]; exact List.mem_cons_self, Nat.le_of_ble_eq_true hc.1, Nat.le_of_ble_eq_true hc.2⟩
noncomputable def qe_each {α : Type} (l : List α) (f : α → qe_R1 dp) : qe_R1 dp := List.rec (motive := fun _ => qe_R1 dp) (some []) (fun a _ ih => Option.bind (f a) fun x => Option.bind ih fun y => some (x ++ y)) l
theorem qe_each_ok {α : Type} {f : α → qe_R1 dp} : ∀ {l : List α} {outs : List (qe_O dp)}, qe_each l f = some outs → ∀ a ∈ l, ∃ oa, f a = some oa ∧ ∀ o ∈ oa, o ∈ outs
  | [], _, _, a, ha => by cases ha
  | b :: l, outs, h, a, ha => by
    change (Option.bind (f b) fun x => Option.bind (qe_each l f) fun y => some (x ++ y)) = some outs at h
    cases hb : f b with
    | none => rw [hb] at h; cases h
    | some x =>
      rw [hb] at h
      change (Option.bind (qe_each l f) fun y => some (x ++ y)) = some outs at h
      cases hl : qe_each l f with
      | none => rw [hl] at h; cases h
      | some y =>
        rw [hl] at h
        have e : x ++ y = outs := Option.some.inj h
        rcases List.mem_cons.mp ha with rfl | ha
        · exact ⟨x, hb, fun o ho => by rw [← e]; exact List.mem_append_left _ ho⟩
        · obtain ⟨oa, h1, h2⟩ := qe_each_ok hl a ha
          exact ⟨oa, h1, fun o ho => by rw [← e]; exact List.mem_append_right _ (h2 o ho)⟩
/-- an int read off a list -/
noncomputable def qe_hd {α : Type} (l : List Nat) (f : Nat → List Nat → Option α) : Option α := List.rec (motive := fun _ => Option α) none (fun v r _ => f v r) l
noncomputable def qe_e0 {α : Type} (l : List Nat) (x : Option α) : Option α := List.rec (motive := fun _ => Option α) x (fun _ _ _ => none) l
theorem qe_hd_ok {α : Type} {l : List Nat} {f : Nat → List Nat → Option α} {x : α} (h : qe_hd l f = some x) : ∃ v r, l = v :: r ∧ f v r = some x := by
  cases l with
  | nil => cases h
  | cons v r => exact ⟨v, r, rfl, h⟩
theorem qe_e0_ok {α : Type} {l : List Nat} {y : Option α} {x : α} (h : qe_e0 l y = some x) : l = [] ∧ y = some x := by
  cases l with
  | nil => exact ⟨rfl, h⟩
  | cons v r => cases h
theorem qe_if_ok {α : Type} {b : Bool} {y : Option α} {x : α} (h : cond b y none = some x) : b = true ∧ y = some x := by
  cases b
  · cases h
  · exact ⟨rfl, h⟩
theorem qe_bind_ok {α β : Type} {y : Option α} {f : α → Option β} {x : β} (h : Option.bind y f = some x) : ∃ z, y = some z ∧ f z = some x := by
  cases y with
  | none => cases h
  | some z => exact ⟨z, rfl, h⟩
/-- the place before is no long -/
def qe_pl (ls a : Nat) : Bool := Nat.beq a 0 || !(qe_is 1 (qe_get ls (Nat.sub a 1)))
theorem qe_pl_ok {ls a : Nat} (h : qe_pl ls a = true) : a = 0 ∨ qe_is 1 (qe_get ls (a - 1)) = false := by
  unfold qe_pl at h
  rw [Bool.or_eq_true] at h
  rcases h with h | h
  · exact Or.inl (Nat.eq_of_beq_eq_true h)
  · exact Or.inr (by simpa using h)
/-- places on the stack -/
noncomputable def qe_cs (l : List Nat) : Nat := List.rec (motive := fun _ => Nat) 0 (fun v _ ih => Nat.add ih (cond (qe_is 1 v) 2 1)) l
/-- a value fits a type: 1 int, 2 boolean, 3 long, 4 reference -/
def qe_fit (ty v : Nat) : Bool := cond (Nat.beq ty 1) (qe_is 0 v) (cond (Nat.beq ty 2) (Nat.beq v 0 || Nat.beq v 8) (cond (Nat.beq ty 3) (qe_is 1 v) (cond (Nat.beq ty 4) (qe_is 2 v || Nat.beq v 3) false)))
def qe_sx (p : Nat) : Nat := cond (Nat.blt (qe_m p) 2147483648) (qe_m p) (Nat.add (qe_m p) 18446744069414584320)
def qe_i2l (x : Nat) : Nat := cond (qe_sym x) (Nat.add x 1) (qe_L (qe_sx (Nat.div x 8)))
/-- the index that an int is, where one is known -/
def qe_cnc (cx : qe_Cx) (v : Nat) : Option Nat := cond (qe_is 0 v) (cond (qe_sym v) (cond (Nat.beq (qe_rng (Nat.div v 8) cx).1 (qe_rng (Nat.div v 8) cx).2 && Nat.ble 2147483648 (qe_rng (Nat.div v 8) cx).1) (some (Nat.sub (qe_rng (Nat.div v 8) cx).1 2147483648)) none) (cond (Nat.blt (Nat.div v 8) 2147483648) (some (Nat.div v 8)) none)) none
def qe_wrf (r : Nat) : Bool := qe_is 2 r && !(qe_sym r)
noncomputable def qe_cl (g : qe_G dp) (r : Nat) : qe_C := qe_rd dp (qg_t g) (Nat.div r 8)
noncomputable def qe_up (g : qe_G dp) (r i v : Nat) : qe_G dp := qg_wt g (qe_wr dp (qg_t g) (Nat.div r 8) ((qe_cl g r).1, (qe_cl g r).2.1, qe_set (qe_cl g r).2.2 i v))
/-- one cell more, of N places -/
noncomputable def qe_mk (g : qe_G dp) (x : qe_C) (N : Nat) : qe_G dp := (Nat.add (qg_n g) 1, qe_wr dp (qg_t g) (qg_n g) x, qg_cx g, Nat.add (qg_ce g) 1, Nat.add (qg_sl g) N)
/-- two ints are compared and the run goes on: at once where both are known -/
noncomputable def qe_go2 (g : qe_G dp) (x y : Nat) (f : Nat → qe_G dp → qe_R1 dp) : qe_R1 dp := cond (qe_sym x || qe_sym y) (Option.bind (qe_cmp (qg_cx g) x y qe_foI) fun L => qe_each L fun q => f q.2 (qg_wc g q.1)) (f (qe_c3 (qe_of (Nat.div x 8)) (qe_of (Nat.div y 8))) g)
def qe_kL (x : Nat) : Nat := Nat.sub (qe_ofL (Nat.div x 8)) 9223372034707292160
def qe_okL (x : Nat) : Bool := Nat.ble 9223372034707292160 (qe_ofL (Nat.div x 8))
noncomputable def qe_go2L (g : qe_G dp) (x y : Nat) (f : Nat → qe_G dp → qe_R1 dp) : qe_R1 dp := cond (qe_sym x || qe_sym y) (Option.bind (qe_cmp (qg_cx g) x y qe_foL) fun L => qe_each L fun q => f q.2 (qg_wc g q.1)) (f (qe_c3 (qe_ofL (Nat.div x 8)) (qe_ofL (Nat.div y 8))) g)
noncomputable def ql_push (a : Nat) (nt : qe_N dp) (k : qe_K dp) (c : qe_C1 dp) (ls : Nat) (st : List Nat) (g : qe_G dp) : qe_R1 dp := nt k c ls (a :: st) g
noncomputable def ql_ld (s a : Nat) (nt : qe_N dp) (k : qe_K dp) (c : qe_C1 dp) (ls : Nat) (st : List Nat) (g : qe_G dp) : qe_R1 dp := cond (qe_is s (qe_get ls a)) (nt k c ls (qe_get ls a :: st) g) none
noncomputable def ql_st1 (s a : Nat) (nt : qe_N dp) (k : qe_K dp) (c : qe_C1 dp) (ls : Nat) (st : List Nat) (g : qe_G dp) : qe_R1 dp := qe_hd st fun v r => cond (qe_is s v && (qe_pl ls a && Nat.blt v qe_lim)) (nt k c (qe_set ls a v) r g) none
noncomputable def ql_st2 (a : Nat) (nt : qe_N dp) (k : qe_K dp) (c : qe_C1 dp) (ls : Nat) (st : List Nat) (g : qe_G dp) : qe_R1 dp := qe_hd st fun v r => cond (qe_is 1 v && (qe_pl ls a && Nat.blt v qe_lim)) (nt k c (qe_set (qe_set ls a v) (Nat.add a 1) 7) r g) none
noncomputable def ql_inc (df : qe_Df) (a i : Nat) (nt : qe_N dp) (k : qe_K dp) (c : qe_C1 dp) (ls : Nat) (st : List Nat) (g : qe_G dp) : qe_R1 dp := Option.bind (qe_bin df 10 (qe_get ls a) (qe_I i)) fun z => cond (qe_pl ls a && Nat.blt z qe_lim) (nt k c (qe_set ls a z) st g) none
noncomputable def ql_bin (df : qe_Df) (o : Nat) (nt : qe_N dp) (k : qe_K dp) (c : qe_C1 dp) (ls : Nat) (st : List Nat) (g : qe_G dp) : qe_R1 dp := qe_hd st fun y r1 => qe_hd r1 fun x r => Option.bind (qe_bin df o x y) fun z => nt k c ls (z :: r) g
noncomputable def ql_neg (df : qe_Df) (nt : qe_N dp) (k : qe_K dp) (c : qe_C1 dp) (ls : Nat) (st : List Nat) (g : qe_G dp) : qe_R1 dp := qe_hd st fun x r => Option.bind (qe_bin df 11 0 x) fun z => nt k c ls (z :: r) g
noncomputable def ql_div (nt : qe_N dp) (k : qe_K dp) (c : qe_C1 dp) (ls : Nat) (st : List Nat) (g : qe_G dp) : qe_R1 dp := qe_hd st fun y r1 => qe_hd r1 fun x r => cond ((qe_is 0 x && qe_is 0 y) && (!(qe_sym x || qe_sym y) && (Nat.blt (Nat.div x 8) 2147483648 && (Nat.blt (Nat.div y 8) 2147483648 && Nat.blt 0 (Nat.div y 8))))) (nt k c ls (qe_I (Nat.div (Nat.div x 8) (Nat.div y 8)) :: r) g) none
noncomputable def ql_i2l (nt : qe_N dp) (k : qe_K dp) (c : qe_C1 dp) (ls : Nat) (st : List Nat) (g : qe_G dp) : qe_R1 dp := qe_hd st fun x r => cond (qe_is 0 x) (nt k c ls (qe_i2l x :: r) g) none
noncomputable def ql_lcmp (nt : qe_N dp) (k : qe_K dp) (c : qe_C1 dp) (ls : Nat) (st : List Nat) (g : qe_G dp) : qe_R1 dp := qe_hd st fun y r1 => qe_hd r1 fun x r => cond (qe_is 1 x && qe_is 1 y) (qe_go2L g x y fun q g2 => nt k c ls (qe_cmpr q :: r) g2) none
noncomputable def ql_dup (nt : qe_N dp) (k : qe_K dp) (c : qe_C1 dp) (ls : Nat) (st : List Nat) (g : qe_G dp) : qe_R1 dp := qe_hd st fun v r => cond (!(qe_is 1 v)) (nt k c ls (v :: v :: r) g) none
noncomputable def ql_pop (nt : qe_N dp) (k : qe_K dp) (c : qe_C1 dp) (ls : Nat) (st : List Nat) (g : qe_G dp) : qe_R1 dp := qe_hd st fun v r => cond (!(qe_is 1 v)) (nt k c ls r g) none
noncomputable def ql_dup2 (nt : qe_N dp) (k : qe_K dp) (c : qe_C1 dp) (ls : Nat) (st : List Nat) (g : qe_G dp) : qe_R1 dp := qe_hd st fun v r1 => qe_hd r1 fun w r => cond (!(qe_is 1 v) && !(qe_is 1 w)) (nt k c ls (v :: w :: v :: w :: r) g) none
noncomputable def ql_jmp (b : Nat) (k : qe_K dp) (c : qe_C1 dp) (ls : Nat) (st : List Nat) (g : qe_G dp) : qe_R1 dp := k b ls st g
noncomputable def ql_if (o b : Nat) (nt : qe_N dp) (k : qe_K dp) (c : qe_C1 dp) (ls : Nat) (st : List Nat) (g : qe_G dp) : qe_R1 dp := qe_hd st fun x r => cond (qe_is 0 x) (qe_go2 g x 0 fun q g2 => cond (qe_br o q) (k b ls r g2) (nt k c ls r g2)) none
noncomputable def ql_ic (o b : Nat) (nt : qe_N dp) (k : qe_K dp) (c : qe_C1 dp) (ls : Nat) (st : List Nat) (g : qe_G dp) : qe_R1 dp := qe_hd st fun y r1 => qe_hd r1 fun x r => cond (qe_is 0 x && qe_is 0 y) (qe_go2 g x y fun q g2 => cond (qe_br o q) (k b ls r g2) (nt k c ls r g2)) none
noncomputable def qe_swr (k : qe_K dp) (df x ls : Nat) (r : List Nat) (tg : List Nat) : Nat → qe_G dp → qe_R1 dp := List.rec (motive := fun _ => Nat → qe_G dp → qe_R1 dp) (fun _ g => k df ls r g) (fun b _ ih i g => qe_go2 g x (qe_I i) fun q g2 => cond (Nat.beq q 0) (k df ls r g2) (cond (Nat.beq q 1) (k b ls r g2) (ih (Nat.add i 1) g2))) tg
noncomputable def ql_sw (lo df : Nat) (tg : List Nat) (k : qe_K dp) (c : qe_C1 dp) (ls : Nat) (st : List Nat) (g : qe_G dp) : qe_R1 dp := qe_hd st fun x r => cond (qe_is 0 x) (qe_swr k df x ls r tg lo g) none
noncomputable def ql_get (ci fk : Nat) (nt : qe_N dp) (k : qe_K dp) (c : qe_C1 dp) (ls : Nat) (st : List Nat) (g : qe_G dp) : qe_R1 dp := qe_hd st fun r rest => cond (qe_wrf r && (Nat.beq (qe_cl g r).1 ci && Nat.blt fk (qe_cl g r).2.1)) (nt k c ls (qe_get (qe_cl g r).2.2 fk :: rest) g) none
noncomputable def ql_put (ci fk ty : Nat) (nt : qe_N dp) (k : qe_K dp) (c : qe_C1 dp) (ls : Nat) (st : List Nat) (g : qe_G dp) : qe_R1 dp := qe_hd st fun v r1 => qe_hd r1 fun r rest => cond ((qe_wrf r && (Nat.beq (qe_cl g r).1 ci && Nat.blt fk (qe_cl g r).2.1)) && (qe_fit ty v && Nat.blt v qe_lim)) (nt k c ls rest (qe_up g r fk v)) none
noncomputable def ql_new (ci N nd : Nat) (nt : qe_N dp) (k : qe_K dp) (c : qe_C1 dp) (ls : Nat) (st : List Nat) (g : qe_G dp) : qe_R1 dp := cond (Nat.blt (qg_n g) (Nat.pow 2 dp)) (qe_ge (Nat.add (qg_ce g) 1) (Nat.add (qg_sl g) N) (nt k c ls (qe_R (qg_n g) :: st) (qe_mk g (ci, N, nd) N))) none
noncomputable def ql_newa (kd : Nat) (nt : qe_N dp) (k : qe_K dp) (c : qe_C1 dp) (ls : Nat) (st : List Nat) (g : qe_G dp) : qe_R1 dp := qe_hd st fun v rest => cond ((qe_is 0 v && !(qe_sym v)) && (Nat.blt (Nat.div v 8) 65536 && Nat.blt (qg_n g) (Nat.pow 2 dp))) (qe_ge (Nat.add (qg_ce g) 1) (Nat.add (qg_sl g) (Nat.div v 8)) (nt k c ls (qe_R (qg_n g) :: rest) (qe_mk g (kd, Nat.div v 8, 0) (Nat.div v 8)))) none
def qe_arr (kd : Nat) : Bool := Nat.ble 100 kd && Nat.ble kd 102
noncomputable def ql_alen (nt : qe_N dp) (k : qe_K dp) (c : qe_C1 dp) (ls : Nat) (st : List Nat) (g : qe_G dp) : qe_R1 dp := qe_hd st fun r rest => cond (qe_wrf r && qe_arr (qe_cl g r).1) (nt k c ls (qe_I (qe_cl g r).2.1 :: rest) g) none
noncomputable def ql_ald (kd : Nat) (nt : qe_N dp) (k : qe_K dp) (c : qe_C1 dp) (ls : Nat) (st : List Nat) (g : qe_G dp) : qe_R1 dp := qe_hd st fun i r1 => qe_hd r1 fun r rest => Option.bind (qe_cnc (qg_cx g) i) fun ii => cond ((qe_wrf r && Nat.beq (qe_cl g r).1 kd) && (Nat.blt ii (qe_cl g r).2.1 && (Nat.blt ii 65536 && qe_is 0 (qe_get (qe_cl g r).2.2 ii)))) (nt k c ls (qe_get (qe_cl g r).2.2 ii :: rest) g) none
/-- a long of a row; a place never written is 0 -/
def qe_lz (v : Nat) : Nat := cond (qe_is 1 v) v (cond (Nat.beq v 0) 1 7)
noncomputable def ql_lald (nt : qe_N dp) (k : qe_K dp) (c : qe_C1 dp) (ls : Nat) (st : List Nat) (g : qe_G dp) : qe_R1 dp := qe_hd st fun i r1 => qe_hd r1 fun r rest => Option.bind (qe_cnc (qg_cx g) i) fun ii => cond ((qe_wrf r && Nat.beq (qe_cl g r).1 102) && (Nat.blt ii (qe_cl g r).2.1 && (Nat.blt ii 65536 && qe_is 1 (qe_lz (qe_get (qe_cl g r).2.2 ii))))) (nt k c ls (qe_lz (qe_get (qe_cl g r).2.2 ii) :: rest) g) none
noncomputable def ql_ast (kd ty : Nat) (nt : qe_N dp) (k : qe_K dp) (c : qe_C1 dp) (ls : Nat) (st : List Nat) (g : qe_G dp) : qe_R1 dp := qe_hd st fun v r0 => qe_hd r0 fun i r1 => qe_hd r1 fun r rest => Option.bind (qe_cnc (qg_cx g) i) fun ii => cond ((qe_wrf r && Nat.beq (qe_cl g r).1 kd) && ((Nat.blt ii (qe_cl g r).2.1 && Nat.blt ii 65536) && (qe_fit ty v && Nat.blt v qe_lim))) (nt k c ls rest (qe_up g r ii v)) none
/-- the arguments out of the stack, the first one first -/
noncomputable def qe_tk (m : Nat) : List Nat → List Nat → (List Nat → List Nat → qe_R1 dp) → qe_R1 dp := Nat.rec (motive := fun _ => List Nat → List Nat → (List Nat → List Nat → qe_R1 dp) → qe_R1 dp) (fun acc st f => f acc st) (fun _ ih acc st f => qe_hd st fun v r => ih (v :: acc) r f) m
/-- a method's first locals: 24 places -/
def qe_ls0 : Nat := 0x7000000000000000007000000000000000007000000000000000007000000000000000007000000000000000007000000000000000007000000000000000007000000000000000007000000000000000007000000000000000007000000000000000007000000000000000007000000000000000007000000000000000007000000000000000007000000000000000007000000000000000007000000000000000007000000000000000007000000000000000007000000000000000007000000000000000007000000000000000007
noncomputable def qe_lcl (as : List Nat) : Nat → Nat → Nat := List.rec (motive := fun _ => Nat → Nat → Nat) (fun _ ls => ls) (fun v _ ih i ls => ih (cond (qe_is 1 v) (Nat.add i 2) (Nat.add i 1)) (qe_set ls i v)) as
noncomputable def qe_mxc (l : List (qe_O dp)) : Nat := List.rec (motive := fun _ => Nat) 0 (fun o _ ih => cond (Nat.ble ih (qo_ce o)) (qo_ce o) ih) l
noncomputable def qe_mxs (l : List (qe_O dp)) : Nat := List.rec (motive := fun _ => Nat) 0 (fun o _ ih => cond (Nat.ble ih (qo_sl o)) (qo_sl o) ih) l
theorem qe_mxc_ok : ∀ {l : List (qe_O dp)}, ∀ o ∈ l, qo_ce o ≤ qe_mxc l
  | [], o, h => by cases h
  | a :: l, o, h => by
    change qo_ce o ≤ cond (Nat.ble (qe_mxc l) (qo_ce a)) (qo_ce a) (qe_mxc l)
    rcases List.mem_cons.mp h with rfl | h
    · cases hb : Nat.ble (qe_mxc l) (qo_ce o)
      · show qo_ce o ≤ qe_mxc l
        rcases Nat.lt_or_ge (qe_mxc l) (qo_ce o) with q | q
        · rw [Nat.ble_eq_true_of_le (Nat.le_of_lt q)] at hb; cases hb
        · exact q
      · exact Nat.le_refl _
    · have := qe_mxc_ok o h
      cases hb : Nat.ble (qe_mxc l) (qo_ce a)
      · exact this
      · exact Nat.le_trans this (Nat.le_of_ble_eq_true hb)
theorem qe_mxs_ok : ∀ {l : List (qe_O dp)}, ∀ o ∈ l, qo_sl o ≤ qe_mxs l
  | [], o, h => by cases h
  | a :: l, o, h => by
    change qo_sl o ≤ cond (Nat.ble (qe_mxs l) (qo_sl a)) (qo_sl a) (qe_mxs l)
    rcases List.mem_cons.mp h with rfl | h
    · cases hb : Nat.ble (qe_mxs l) (qo_sl o)
      · show qo_sl o ≤ qe_mxs l
        rcases Nat.lt_or_ge (qe_mxs l) (qo_sl o) with q | q
        · rw [Nat.ble_eq_true_of_le (Nat.le_of_lt q)] at hb; cases hb
        · exact q
      · exact Nat.le_refl _
    · have := qe_mxs_ok o h
      cases hb : Nat.ble (qe_mxs l) (qo_sl a)
      · exact this
      · exact Nat.le_trans this (Nat.le_of_ble_eq_true hb)
/-- the receiver: rc = 0: none; else an object of kind rc - 1, the first argument -/
noncomputable def qe_rcv (rc : Nat) (as : List Nat) (g : qe_G dp) : Bool := cond (Nat.beq rc 0) true (List.rec (motive := fun _ => Bool) false (fun v _ _ => qe_wrf v && Nat.beq (qe_cl g v).1 (Nat.sub rc 1)) as)
/-- handlers: what is thrown, block behind the store, its place -/
noncomputable def qe_hn (e : Nat) (l : List (Nat × Nat × Nat)) {α : Type} (z : α) (f : Nat → Nat → α) : α := List.rec (motive := fun _ => α) z (fun q _ ih => cond (Nat.beq q.1 e) (f q.2.1 q.2.2) ih) l
/-- behind a call -/
noncomputable def qe_aft (th : Bool) (hn : List (Nat × Nat × Nat)) (nt : qe_N dp) (k : qe_K dp) (c : qe_C1 dp) (ls : Nat) (rest : List Nat) (ce sl : Nat) (o : qe_O dp) : qe_R1 dp :=
  cond (Nat.beq (qo_k o) 0) (nt k c ls rest (qo_n o, qo_t o, qo_cx o, ce, sl)) (cond (Nat.beq (qo_k o) 1) (nt k c ls (qo_v o :: rest) (qo_n o, qo_t o, qo_cx o, ce, sl))
    (qe_hn (Nat.sub (qo_k o) 2) hn (cond th (some [(qo_cx o, qo_k o, 0, qo_n o, qo_t o, ce, sl)]) none) fun b i => cond (qe_pl ls i) (k b (qe_set ls i 7) [] (qo_n o, qo_t o, qo_cx o, ce, sl)) none))
/-- one way back: at once -/
noncomputable def qe_one (l : List (qe_O dp)) (f : qe_O dp → qe_R1 dp) : qe_R1 dp := List.rec (motive := fun _ => qe_R1 dp) none (fun o os _ => List.rec (motive := fun _ => qe_R1 dp) (f o) (fun _ _ _ => qe_each l f) os) l
noncomputable def ql_inv (jj na rc mx : Nat) (th : Bool) (hn : List (Nat × Nat × Nat)) (nt : qe_N dp) (k : qe_K dp) (c : qe_C1 dp) (ls : Nat) (st : List Nat) (g : qe_G dp) : qe_R1 dp :=
  qe_tk na [] st fun as rest => cond ((qe_rcv rc as g && Nat.ble (qe_cs as) mx) && (Nat.ble (qe_cs rest) 8 && List.all as (fun v => Nat.blt v qe_lim && !(Nat.beq v 7)))) (Option.bind (c jj 0 (qe_lcl as 0 qe_ls0) [] (qg_n g, qg_t g, qg_cx g, 0, 0)) fun outs =>
    cond (Nat.beq (qe_mxc outs) 0 && Nat.beq (qe_mxs outs) 0) (qe_one outs fun o => qe_aft th hn nt k c ls rest (qg_ce g) (qg_sl g) o) (qe_ge (Nat.add (qg_ce g) (qe_mxc outs)) (Nat.add (qg_sl g) (qe_mxs outs)) (qe_one outs fun o => qe_aft th hn nt k c ls rest (Nat.add (qg_ce g) (qe_mxc outs)) (Nat.add (qg_sl g) (qe_mxs outs)) o))) none
noncomputable def ql_ret (rt : Nat) (k : qe_K dp) (c : qe_C1 dp) (ls : Nat) (st : List Nat) (g : qe_G dp) : qe_R1 dp := qe_hd st fun v r => qe_e0 r (cond (qe_fit rt v) (some [(qg_cx g, 1, v, qg_n g, qg_t g, qg_ce g, qg_sl g)]) none)
noncomputable def ql_ret0 (k : qe_K dp) (c : qe_C1 dp) (ls : Nat) (st : List Nat) (g : qe_G dp) : qe_R1 dp := qe_e0 st (some [(qg_cx g, 0, 0, qg_n g, qg_t g, qg_ce g, qg_sl g)])
noncomputable def ql_thr (a : Nat) (k : qe_K dp) (c : qe_C1 dp) (ls : Nat) (st : List Nat) (g : qe_G dp) : qe_R1 dp := cond (Nat.ble (qe_cs st) 8) (some [(qg_cx g, Nat.add a 2, 0, qg_n g, qg_t g, Nat.add (qg_ce g) 1, Nat.add (qg_sl g) 6)]) none
noncomputable def ql_mm (w : Nat) (nt : qe_N dp) (k : qe_K dp) (c : qe_C1 dp) (ls : Nat) (st : List Nat) (g : qe_G dp) : qe_R1 dp := qe_hd st fun y r1 => qe_hd r1 fun x r => cond ((qe_is 0 x && qe_is 0 y) && Nat.ble (qe_cs r) 8) (qe_go2 g x y fun q g2 => nt k c ls (cond (Nat.beq q w) y x :: r) g2) none
noncomputable def ql_obj (nt : qe_N dp) (k : qe_K dp) (c : qe_C1 dp) (ls : Nat) (st : List Nat) (g : qe_G dp) : qe_R1 dp := qe_hd st fun r rest => cond (qe_is 2 r && Nat.ble (qe_cs rest) 8) (nt k c ls rest g) none
noncomputable def ql_slen (f : Nat → Nat) (nt : qe_N dp) (k : qe_K dp) (c : qe_C1 dp) (ls : Nat) (st : List Nat) (g : qe_G dp) : qe_R1 dp := qe_hd st fun r rest => cond ((Nat.beq (Nat.mod r 8) 6 && Nat.blt 0 (f (Nat.div r 8))) && Nat.ble (qe_cs rest) 8) (nt k c ls (qe_I (f (Nat.div r 8)) :: rest) g) none
noncomputable def ql_xlen (L : Nat) (nt : qe_N dp) (k : qe_K dp) (c : qe_C1 dp) (ls : Nat) (st : List Nat) (g : qe_G dp) : qe_R1 dp := qe_hd st fun r rest => cond (Nat.beq r 6) (nt k c ls (qe_I L :: rest) g) none
noncomputable def ql_xld (L : Nat) (nt : qe_N dp) (k : qe_K dp) (c : qe_C1 dp) (ls : Nat) (st : List Nat) (g : qe_G dp) : qe_R1 dp := qe_hd st fun i r1 => qe_hd r1 fun r rest => cond (Nat.beq r 6 && ((qe_is 0 i && !(qe_sym i)) && (Nat.blt (Nat.div i 8) L && Nat.blt (Nat.div i 8) 65536))) (nt k c ls (Nat.add (Nat.mul 8 (Nat.div i 8)) 4 :: rest) g) none
/-- copying between int rows, from the first place of both on -/
def qe_cpy (m s d : Nat) : Nat := Nat.add (Nat.shiftLeft (Nat.shiftRight d (Nat.mul 72 m)) (Nat.mul 72 m)) (Nat.mod s (Nat.pow 2 (Nat.mul 72 m)))
noncomputable def ql_cpy (nt : qe_N dp) (k : qe_K dp) (c : qe_C1 dp) (ls : Nat) (st : List Nat) (g : qe_G dp) : qe_R1 dp := qe_hd st fun m r4 => qe_hd r4 fun z1 r3 => qe_hd r3 fun b r2 => qe_hd r2 fun z0 r1 => qe_hd r1 fun a rest =>
  cond ((Nat.beq z0 0 && Nat.beq z1 0) && ((qe_wrf a && qe_wrf b) && ((Nat.beq (qe_cl g a).1 100 && Nat.beq (qe_cl g b).1 100) && ((qe_is 0 m && !(qe_sym m)) && ((Nat.ble (Nat.div m 8) (qe_cl g a).2.1 && Nat.ble (Nat.div m 8) (qe_cl g b).2.1) && (Nat.blt (Nat.div m 8) 65536 && (!(Nat.beq (Nat.div a 8) (Nat.div b 8)) && Nat.ble (qe_cs rest) 8)))))))
    (nt k c ls rest (qg_wt g (qe_wr dp (qg_t g) (Nat.div b 8) ((qe_cl g b).1, (qe_cl g b).2.1, qe_cpy (Nat.div m 8) (qe_cl g a).2.2 (qe_cl g b).2.2)))) none
/-- nothing is known here -/
def ql_no (k : qe_K dp) (c : qe_C1 dp) (ls : Nat) (st : List Nat) (g : qe_G dp) : qe_R1 dp := none
/-- a program: its blocks by method and number -/
abbrev qe_P (dp : Nat) : Type := Nat → Nat → qe_N dp × Unit
noncomputable def qe_step (P : qe_P dp) (r : qe_F dp) : qe_F dp := fun d j b ls st g => Prod.fst (P j b) (r d j) (fun jj b2 ls2 st2 g2 => cond (Nat.beq d 0) none (r (Nat.sub d 1) jj b2 ls2 st2 g2)) ls st g
noncomputable def qe_run (P : qe_P dp) (fuel : Nat) : qe_F dp := Nat.rec (motive := fun _ => qe_F dp) (fun _ _ _ _ _ _ => none) (fun _ ih => qe_step P ih) fuel
end QER
