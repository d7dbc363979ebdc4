/-! THE LAW, BY HAND, 3: turns by calculation; made by wip/engine/gen42.py -/
section QLS
noncomputable def sf_call (jj : Nat) (as : List Nat) (n : Nat) (t : qe_T 10) : Option (qe_O 10) := Option.bind (qe_run (qd_P [] 1500) 1000000 30 jj 0 (qe_lcl as 0 qe_ls0) [] (n, t, [], 0, 0)) fun l => List.rec (motive := fun _ => Option (qe_O 10)) none (fun o os _ => List.rec (motive := fun _ => Option (qe_O 10)) (cond (Nat.beq (qo_k o) 1) (some o) none) (fun _ _ _ => none) os) l
theorem sf_call_ok {jj n : Nat} {as : List Nat} {t : qe_T 10} {o : qe_O 10} (h : sf_call jj as n t = some o) : qe_run (qd_P [] 1500) 1000000 30 jj 0 (qe_lcl as 0 qe_ls0) [] (n, t, [], 0, 0) = some [o] ∧ qo_k o = 1 := by
  unfold sf_call at h
  obtain ⟨l, h1, h2⟩ := qe_bind_ok h
  cases l with
  | nil => cases h2
  | cons a l =>
    cases l with
    | nil =>
      obtain ⟨h3, h4⟩ := qe_if_ok (show cond (Nat.beq (qo_k a) 1) (some a) none = some o from h2)
      have e := Option.some.inj h4
      subst e
      exact ⟨h1, Nat.eq_of_beq_eq_true h3⟩
    | cons b l => cases h2
noncomputable def sf_ok (o1 o2 o3 : qe_O 10) : Bool := ((Nat.beq (qo_v o1) 0 && (Nat.ble 70 (qo_n o1) && Nat.beq (qe_rd 10 (qo_t o1) 52).1 12)) && ((qe_is 0 (qo_v o2) && Nat.ble 70 (qo_n o2)) && Nat.beq (qe_rd 10 (qo_t o2) 52).1 12)) && ((Nat.beq (qo_v o3) 0 && Nat.ble 70 (qo_n o3)) && ((Nat.beq (qe_rd 10 (qo_t o3) 69).1 102 && Nat.beq (qe_rd 10 (qo_t o3) 69).2.1 1) && Nat.beq (qe_get (qe_rd 10 (qo_t o3) 69).2.2 0) (qe_i2l (qo_v o2))))
noncomputable def sf_step (jL jM a n : Nat) (t : qe_T 10) : Option (qe_O 10 × (qe_O 10 × qe_O 10)) := Option.bind (sf_call jL [2, qe_I a, 554] n t) fun o1 => Option.bind (sf_call jM [418, qe_I a] (qo_n o1) (qo_t o1)) fun o2 => Option.bind (some (qo_3 o2)) fun o3 => cond (sf_ok o1 o2 o3) (some (o1, (o2, o3))) none
def sf_ce (r : qe_O 10 × (qe_O 10 × qe_O 10)) : Nat := Nat.add (qo_ce r.1) (Nat.add (qo_ce r.2.1) (qo_ce r.2.2))
def sf_sl (r : qe_O 10 × (qe_O 10 × qe_O 10)) : Nat := Nat.add (qo_sl r.1) (Nat.add (qo_sl r.2.1) (qo_sl r.2.2))
theorem sf_step_ok {jL jM a n : Nat} {t : qe_T 10} {r : qe_O 10 × (qe_O 10 × qe_O 10)} (h : sf_step jL jM a n t = some r) : sf_call jL [2, qe_I a, 554] n t = some r.1 ∧ sf_call jM [418, qe_I a] (qo_n r.1) (qo_t r.1) = some r.2.1 ∧ some (qo_3 r.2.1) = some r.2.2 ∧ sf_ok r.1 r.2.1 r.2.2 = true := by
  unfold sf_step at h
  obtain ⟨p1, h1, h⟩ := qe_bind_ok h
  obtain ⟨p2, h2, h⟩ := qe_bind_ok h
  obtain ⟨p3, h3, h⟩ := qe_bind_ok h
  obtain ⟨hok, h⟩ := qe_if_ok h
  have e := Option.some.inj h
  subst e
  exact ⟨h1, h2, h3, hok⟩
def lw_cx (E : qe_E) (p : Program) (l : Launch) (e : Env) (R : Room) (s : State) (m : MethodId) (args : Array Value) (below : List Frame) (meth : Method) (c : Code) (A : Nat → Prop) : Prop :=
  qe_bd qB_L_law p l s m args meth c ∧ va_K E.1 vwCl (qe_tys E) s ∧ zX (qZ E 1500) A s s.heap ∧ (∀ q, s.heap.size ≤ q → A q) ∧ 51 ≤ R.frames ∧ 2100 ≤ R.locals
def lw_at (E : qe_E) (p : Program) (l : Launch) (e : Env) (R : Room) (s : State) (m : MethodId) (args : Array Value) (below : List Frame) (meth : Method) (c : Code) (A : Nat → Prop) (Q : State → Prop) (i n : Nat) (t : qe_T 10) (cells slots γ : Nat) : Prop :=
  ∀ (H : Heap) (locs : List Loc) (la : Array Slot) (ad : Nat → Nat) (gs : va_W), γ ≤ lz_sum gs → va_P E.1 vwCl (qe_ws 10 E ad n t ++ gs) H → va_D A (qe_ws 10 E ad n t ++ gs) → va_S A s.heap H locs → qe_wi 10 n t → lv_has la 8 [(0, .ref (E.2.2.1 0)), (1, .ref (ad 0)), (2, .ref (ad 52)), (3, .ref (ad 69)), (4, .int (Int32.ofNat i))] → W p l e R s m args below meth c H locs cells slots Q (F0 m 23 la [])

theorem lw_at_append {E : qe_E} {p : Program} {l : Launch} {e : Env} {R : Room} {s : State} {m : MethodId} {args : Array Value} {below : List Frame} {meth : Method} {c : Code} {A : Nat → Prop} {Q : State → Prop} (C0 : lw_cx E p l e R s m args below meth c A) {i a n cells slots γ : Nat} {t : qe_T 10} {r : qe_O 10 × (qe_O 10 × qe_O 10)} (hn : 70 ≤ n) (hi : i + 3 ≤ 1500) (hs0 : E.2.2.2 i = Int32.ofNat 0) (hs1 : E.2.2.2 (i + 1) = Int32.ofNat a) (ha : a < 4294967296) (h : sf_step 225 53 a n t = some r) (h1 : cells + sf_ce r ≤ R.cells) (h2 : slots + sf_sl r ≤ R.slots)
    (k : lw_at E p l e R s m args below meth c A Q (i + 3) (qo_n r.2.2) (qo_t r.2.2) (cells + sf_ce r) (slots + sf_sl r) γ) : lw_at E p l e R s m args below meth c A Q i n t cells slots γ := by
  intro H locs la ad gs hg hP hD hS hwi hl
  obtain ⟨c1, c2, c3, c4, c5, c6⟩ := C0
  obtain ⟨g1, g2, g3, hok⟩ := sf_step_ok h
  obtain ⟨f1, k1⟩ := sf_call_ok g1
  obtain ⟨f2, k2⟩ := sf_call_ok g2
  have g3 : some (qo_3 r.2.1) = some r.2.2 := g3
  have f3 := Option.some.inj g3
  have k3 : qo_k r.2.2 = 1 := by rw [← f3]; rfl
  unfold sf_ok at hok
  simp only [Bool.and_eq_true] at hok
  obtain ⟨⟨⟨v1, n1, r1⟩, ⟨v2, n2⟩, r2⟩, ⟨v3, n3⟩, ⟨r3, r4⟩, r5⟩ := hok
  exact lw_it_append (E := E) (L := 1500) (df := []) (dp := 10) (fun q hq => absurd hq List.not_mem_nil) c1 c2 c3 c4 c5 c6 hP hD hS hwi hn hl hi (by decide) hs0 hs1 ha f1 k1 (Nat.eq_of_beq_eq_true v1) (Nat.le_of_ble_eq_true n1) (Nat.eq_of_beq_eq_true r1) f2 k2 v2 (Nat.le_of_ble_eq_true n2) (Nat.eq_of_beq_eq_true r2) f3 k3 (Nat.eq_of_beq_eq_true v3) (Nat.le_of_ble_eq_true n3) (Nat.eq_of_beq_eq_true r3) (Nat.eq_of_beq_eq_true r4) (by rw [Nat.eq_of_beq_eq_true r5]; exact (qe_i2l_ok v2).2) h1 h2 (fun ad2 H2 locs2 la2 p2 d2 s2 w2 l2 => k H2 locs2 la2 ad2 gs hg p2 d2 s2 w2 l2)
theorem lw_at_add {E : qe_E} {p : Program} {l : Launch} {e : Env} {R : Room} {s : State} {m : MethodId} {args : Array Value} {below : List Frame} {meth : Method} {c : Code} {A : Nat → Prop} {Q : State → Prop} (C0 : lw_cx E p l e R s m args below meth c A) {i a n cells slots γ : Nat} {t : qe_T 10} {r : qe_O 10 × (qe_O 10 × qe_O 10)} (hn : 70 ≤ n) (hi : i + 3 ≤ 1500) (hs0 : E.2.2.2 i = Int32.ofNat 2) (hs1 : E.2.2.2 (i + 1) = Int32.ofNat a) (ha : a < 4294967296) (h : sf_step 226 58 a n t = some r) (h1 : cells + sf_ce r ≤ R.cells) (h2 : slots + sf_sl r ≤ R.slots)
    (k : lw_at E p l e R s m args below meth c A Q (i + 3) (qo_n r.2.2) (qo_t r.2.2) (cells + sf_ce r) (slots + sf_sl r) γ) : lw_at E p l e R s m args below meth c A Q i n t cells slots γ := by
  intro H locs la ad gs hg hP hD hS hwi hl
  obtain ⟨c1, c2, c3, c4, c5, c6⟩ := C0
  obtain ⟨g1, g2, g3, hok⟩ := sf_step_ok h
  obtain ⟨f1, k1⟩ := sf_call_ok g1
  obtain ⟨f2, k2⟩ := sf_call_ok g2
  have g3 : some (qo_3 r.2.1) = some r.2.2 := g3
  have f3 := Option.some.inj g3
  have k3 : qo_k r.2.2 = 1 := by rw [← f3]; rfl
  unfold sf_ok at hok
  simp only [Bool.and_eq_true] at hok
  obtain ⟨⟨⟨v1, n1, r1⟩, ⟨v2, n2⟩, r2⟩, ⟨v3, n3⟩, ⟨r3, r4⟩, r5⟩ := hok
  exact lw_it_add (E := E) (L := 1500) (df := []) (dp := 10) (fun q hq => absurd hq List.not_mem_nil) c1 c2 c3 c4 c5 c6 hP hD hS hwi hn hl hi (by decide) hs0 hs1 ha f1 k1 (Nat.eq_of_beq_eq_true v1) (Nat.le_of_ble_eq_true n1) (Nat.eq_of_beq_eq_true r1) f2 k2 v2 (Nat.le_of_ble_eq_true n2) (Nat.eq_of_beq_eq_true r2) f3 k3 (Nat.eq_of_beq_eq_true v3) (Nat.le_of_ble_eq_true n3) (Nat.eq_of_beq_eq_true r3) (Nat.eq_of_beq_eq_true r4) (by rw [Nat.eq_of_beq_eq_true r5]; exact (qe_i2l_ok v2).2) h1 h2 (fun ad2 H2 locs2 la2 p2 d2 s2 w2 l2 => k H2 locs2 la2 ad2 gs hg p2 d2 s2 w2 l2)
theorem lw_at_trees {E : qe_E} {p : Program} {l : Launch} {e : Env} {R : Room} {s : State} {m : MethodId} {args : Array Value} {below : List Frame} {meth : Method} {c : Code} {A : Nat → Prop} {Q : State → Prop} (C0 : lw_cx E p l e R s m args below meth c A) {i a n cells slots γ : Nat} {t : qe_T 10} {r : qe_O 10 × (qe_O 10 × qe_O 10)} (hn : 70 ≤ n) (hi : i + 3 ≤ 1500) (hs0 : E.2.2.2 i = Int32.ofNat 20) (hs1 : E.2.2.2 (i + 1) = Int32.ofNat a) (ha : a < 4294967296) (h : sf_step 242 96 a n t = some r) (h1 : cells + sf_ce r ≤ R.cells) (h2 : slots + sf_sl r ≤ R.slots)
    (k : lw_at E p l e R s m args below meth c A Q (i + 3) (qo_n r.2.2) (qo_t r.2.2) (cells + sf_ce r) (slots + sf_sl r) γ) : lw_at E p l e R s m args below meth c A Q i n t cells slots γ := by
  intro H locs la ad gs hg hP hD hS hwi hl
  obtain ⟨c1, c2, c3, c4, c5, c6⟩ := C0
  obtain ⟨g1, g2, g3, hok⟩ := sf_step_ok h
  obtain ⟨f1, k1⟩ := sf_call_ok g1
  obtain ⟨f2, k2⟩ := sf_call_ok g2
  have g3 : some (qo_3 r.2.1) = some r.2.2 := g3
  have f3 := Option.some.inj g3
  have k3 : qo_k r.2.2 = 1 := by rw [← f3]; rfl
  unfold sf_ok at hok
  simp only [Bool.and_eq_true] at hok
  obtain ⟨⟨⟨v1, n1, r1⟩, ⟨v2, n2⟩, r2⟩, ⟨v3, n3⟩, ⟨r3, r4⟩, r5⟩ := hok
  exact lw_it_trees (E := E) (L := 1500) (df := []) (dp := 10) (fun q hq => absurd hq List.not_mem_nil) c1 c2 c3 c4 c5 c6 hP hD hS hwi hn hl hi (by decide) hs0 hs1 ha f1 k1 (Nat.eq_of_beq_eq_true v1) (Nat.le_of_ble_eq_true n1) (Nat.eq_of_beq_eq_true r1) f2 k2 v2 (Nat.le_of_ble_eq_true n2) (Nat.eq_of_beq_eq_true r2) f3 k3 (Nat.eq_of_beq_eq_true v3) (Nat.le_of_ble_eq_true n3) (Nat.eq_of_beq_eq_true r3) (Nat.eq_of_beq_eq_true r4) (by rw [Nat.eq_of_beq_eq_true r5]; exact (qe_i2l_ok v2).2) h1 h2 (fun ad2 H2 locs2 la2 p2 d2 s2 w2 l2 => k H2 locs2 la2 ad2 gs hg p2 d2 s2 w2 l2)
theorem sf_n3 {jL jM a n : Nat} {t : qe_T 10} {r : qe_O 10 × (qe_O 10 × qe_O 10)} (h : sf_step jL jM a n t = some r) : 70 ≤ qo_n r.2.2 := by
  obtain ⟨-, -, -, hok⟩ := sf_step_ok h
  unfold sf_ok at hok
  simp only [Bool.and_eq_true] at hok
  exact Nat.le_of_ble_eq_true hok.2.1.2
noncomputable def sf_go (cs : List (Nat × Nat)) : Nat → qe_T 10 → Option (Nat × qe_T 10) := List.rec (motive := fun _ => Nat → qe_T 10 → Option (Nat × qe_T 10)) (fun n t => some (n, t)) (fun q _ ih n t => Option.bind (sf_step (cond (Nat.beq q.1 0) 225 226) (cond (Nat.beq q.1 0) 53 58) q.2 n t) fun r => cond (Nat.beq (sf_ce r) 0 && Nat.beq (sf_sl r) 0) (ih (qo_n r.2.2) (qo_t r.2.2)) none) cs
theorem lw_go {E : qe_E} {p : Program} {l : Launch} {e : Env} {R : Room} {s : State} {m : MethodId} {args : Array Value} {below : List Frame} {meth : Method} {c : Code} {A : Nat → Prop} {Q : State → Prop} (C0 : lw_cx E p l e R s m args below meth c A) {cells slots γ : Nat} (hc : cells ≤ R.cells) (hsl : slots ≤ R.slots) : ∀ (cs : List (Nat × Nat)) (i n : Nat) (t : qe_T 10) (n2 : Nat) (t2 : qe_T 10), (∀ (k : Nat) (q : Nat × Nat), cs[k]? = some q → (q.1 = 0 ∨ q.1 = 2) ∧ q.2 < 4294967296 ∧ E.2.2.2 (i + 3 * k) = Int32.ofNat q.1 ∧ E.2.2.2 (i + 3 * k + 1) = Int32.ofNat q.2) → i + 3 * cs.length ≤ 1500 → 70 ≤ n → sf_go cs n t = some (n2, t2) → lw_at E p l e R s m args below meth c A Q (i + 3 * cs.length) n2 t2 cells slots γ → lw_at E p l e R s m args below meth c A Q i n t cells slots γ
  | [], i, n, t, n2, t2, _, _, _, h, k => by
    have e := Option.some.inj (show some (n, t) = some (n2, t2) from h)
    cases e
    exact k
  | q :: cs, i, n, t, n2, t2, hq, hi, hn, h, k => by
    have hi' : i + 3 * (cs.length + 1) ≤ 1500 := hi
    obtain ⟨r, h1, h2⟩ := qe_bind_ok (show Option.bind (sf_step (cond (Nat.beq q.1 0) 225 226) (cond (Nat.beq q.1 0) 53 58) q.2 n t) (fun r => cond (Nat.beq (sf_ce r) 0 && Nat.beq (sf_sl r) 0) (sf_go cs (qo_n r.2.2) (qo_t r.2.2)) none) = some (n2, t2) from h)
    obtain ⟨h3, h4⟩ := qe_if_ok h2
    rw [Bool.and_eq_true] at h3
    have e1 := Nat.eq_of_beq_eq_true h3.1
    have e2 := Nat.eq_of_beq_eq_true h3.2
    obtain ⟨q1, q2, q3, q4⟩ := hq 0 q rfl
    have k2 : lw_at E p l e R s m args below meth c A Q (i + 3) (qo_n r.2.2) (qo_t r.2.2) cells slots γ := lw_go C0 hc hsl cs (i + 3) _ _ n2 t2 (fun k9 q9 h9 => by
      obtain ⟨a1, a2, a3, a4⟩ := hq (k9 + 1) q9 h9
      refine ⟨a1, a2, ?_, ?_⟩
      · rw [show i + 3 + 3 * k9 = i + 3 * (k9 + 1) by omega]; exact a3
      · rw [show i + 3 + 3 * k9 + 1 = i + 3 * (k9 + 1) + 1 by omega]; exact a4) (by omega) (sf_n3 h1) h4 (by rw [show i + 3 + 3 * cs.length = i + 3 * (cs.length + 1) by omega]; exact k)
    rcases q1 with q1 | q1
    · rw [q1] at h1 q3
      exact lw_at_append C0 hn (by omega) q3 q4 q2 h1 (by rw [e1]; exact hc) (by rw [e2]; exact hsl) (by rw [e1, e2]; exact k2)
    · rw [q1] at h1 q3
      exact lw_at_add C0 hn (by omega) q3 q4 q2 h1 (by rw [e1]; exact hc) (by rw [e2]; exact hsl) (by rw [e1, e2]; exact k2)
theorem lw_forget {E : qe_E} {p : Program} {l : Launch} {e : Env} {R : Room} {s : State} {m : MethodId} {args : Array Value} {below : List Frame} {meth : Method} {c : Code} {A : Nat → Prop} {Q : State → Prop} {i N z cells slots γ : Nat} {t t0 : qe_T 10} (h0 : ∀ k, k < 70 → qe_rd 10 t k = qe_rd 10 t0 k) (hw : qe_wi 10 70 t0) (hl : ∀ k, 70 ≤ k → k < 70 + N → (qe_rd 10 t k).1 = 101 ∧ (qe_rd 10 t k).2.1 = z) (k : lw_at E p l e R s m args below meth c A Q i 70 t0 cells slots (γ + N * z)) : lw_at E p l e R s m args below meth c A Q i (70 + N) t cells slots γ := by
  intro H locs la ad gs hg hP hD hS hwi hla
  rw [lz_forget (show 70 ≤ 70 + N by omega) h0 gs] at hP hD
  refine k H locs la ad _ ?_ hP hD hS hw hla
  rw [lz_sum_app, show 70 + N - 70 = N by omega, lz_left hl]
  omega
theorem lw_loop {E : qe_E} {p : Program} {l : Launch} {e : Env} {R : Room} {s : State} {m : MethodId} {args : Array Value} {below : List Frame} {meth : Method} {c : Code} {A : Nat → Prop} {Q : State → Prop} (C0 : lw_cx E p l e R s m args below meth c A) {tP : qe_T 10} {r : qe_O 10 × (qe_O 10 × qe_O 10)} {N z ce sl : Nat} (hw : qe_wi 10 70 tP) (h : sf_step 242 96 0 70 tP = some r) (hnr : qo_n r.2.2 = 70 + N) (h0 : ∀ k, k < 70 → qe_rd 10 (qo_t r.2.2) k = qe_rd 10 tP k) (hl : ∀ k, 70 ≤ k → k < 70 + N → (qe_rd 10 (qo_t r.2.2) k).1 = 101 ∧ (qe_rd 10 (qo_t r.2.2) k).2.1 = z) (hce : sf_ce r = ce) (hsl : sf_sl r = sl) :
    ∀ (M i cells slots γ : Nat), i + 3 * M ≤ 1500 → (∀ k, k < M → E.2.2.2 (i + 3 * k) = Int32.ofNat 20 ∧ E.2.2.2 (i + 3 * k + 1) = Int32.ofNat 0) → cells + ce * M ≤ R.cells → slots + sl * M ≤ R.slots → lw_at E p l e R s m args below meth c A Q (i + 3 * M) 70 tP (cells + ce * M) (slots + sl * M) (γ + N * z * M) → lw_at E p l e R s m args below meth c A Q i 70 tP cells slots γ
  | 0, i, cells, slots, γ, _, _, _, _, k => k
  | M + 1, i, cells, slots, γ, hi, hs, h1, h2, k => by
    obtain ⟨q1, q2⟩ := hs 0 (by omega)
    have e1 : ce * (M + 1) = ce + ce * M := by rw [Nat.mul_add, Nat.mul_one, Nat.add_comm]
    have e2 : sl * (M + 1) = sl + sl * M := by rw [Nat.mul_add, Nat.mul_one, Nat.add_comm]
    have e3 : N * z * (M + 1) = N * z + N * z * M := by rw [Nat.mul_add, Nat.mul_one, Nat.add_comm]
    have k2 := lw_loop C0 hw h hnr h0 hl hce hsl M (i + 3) (cells + ce) (slots + sl) (γ + N * z) (by omega) (fun k9 h9 => by
      obtain ⟨a1, a2⟩ := hs (k9 + 1) (by omega)
      refine ⟨?_, ?_⟩
      · rw [show i + 3 + 3 * k9 = i + 3 * (k9 + 1) by omega]; exact a1
      · rw [show i + 3 + 3 * k9 + 1 = i + 3 * (k9 + 1) + 1 by omega]; exact a2) (by omega) (by omega) (by
      rw [show i + 3 + 3 * M = i + 3 * (M + 1) by omega, show cells + ce + ce * M = cells + ce * (M + 1) by omega, show slots + sl + sl * M = slots + sl * (M + 1) by omega, show γ + N * z + N * z * M = γ + N * z * (M + 1) by omega]; exact k)
    refine lw_at_trees C0 (by decide) (by omega) q1 q2 (by decide) h (by rw [hce]; omega) (by rw [hsl]; omega) ?_
    rw [hce, hsl, hnr]
    exact lw_forget h0 hw hl k2
theorem lw_end {E : qe_E} {p : Program} {l : Launch} {e : Env} {R : Room} {s : State} {m : MethodId} {args : Array Value} {below : List Frame} {meth : Method} {c : Code} {A : Nat → Prop} {Q : State → Prop} (C0 : lw_cx E p l e R s m args below meth c A) {Qc : Array Value → State → Outcome → State → Prop} {n cells slots γ mc ms : Nat} {t : qe_T 10} (hA : ∀ q, A q → s.heap.size ≤ q) (h1 : cells ≤ mc) (h2 : slots ≤ ms) (hq : ∀ (H : Heap) (gs : va_W), γ ≤ lz_sum gs → va_P E.1 vwCl gs H → va_D A gs → ∀ u : State, u.heap = H → s.WarmedH u.vm → Qc args s (.returned (some (.int 1))) u) : lw_at E p l e R s m args below meth c A (MQ below Qc args s mc ms A) 1500 n t cells slots γ := by
  intro H locs la ad gs hg hP hD hS hwi hl
  obtain ⟨hB, c2, hX, c4, c5, c6⟩ := C0
  have hBz : qe_bd (zM (qZ E 1500) 249) p l s m args meth c := hB
  refine @qk_iload qB_L_law 23 4 eL_law_23 p l e R s m args below meth c H locs cells slots _ la [] hB _ (lv_at hl 4 rfl) ⟨_, rfl⟩ ?_
  refine @qk_aload_n qB_L_law 25 0 0 eL_law_25 rfl p l e R s m args below meth c H locs cells slots _ la _ hB _ (lv_at hl 0 rfl) ⟨_, rfl⟩ ?_
  refine @qk_xlen (qZ E 1500) qw_Os 1500 249 26 (qZ_X E 1500) eL_law_26 p l e R s m args below meth c H locs cells slots la _ _ hBz A hX hS ?_
  refine @qk_iconst qB_L_law 27 3 (Int32.ofNat 3) eL_law_27 (by decide) p l e R s m args below meth c H locs cells slots _ la _ hB ?_
  refine @qk_isub qB_L_law 28 eL_law_28 _ _ p l e R s m args below meth c H locs cells slots _ la _ hB ?_
  refine @qk_ic_gt qB_L_law 29 1004 _ eL_law_29 (by decide) p l e R s m args below meth c H locs cells slots _ la _ hB _ _ ?_
  rw [lw_le (i := 1500) (L := 1500) (by decide) (by decide) (by decide)]
  refine @qk_iconst qB_L_law 1004 1 (Int32.ofNat 1) eL_law_1004 (by decide) p l e R s m args below meth c H locs cells slots _ la _ hB ?_
  refine W.widen h1 h2 ?_
  exact W.zret hB.1 hB.2.1 hB.2.2.2.1 (by decide) (fun u h3 h4 => hq H gs hg (lz_P_r hP) (lz_D_r hD) u h3 h4) hS.2.2 eL_law_1005 hB.2.2.2.2.2.2.1
/-- what lies apart weighs no more than all that is new -/
theorem lz_dist (f : Nat → Nat) (s0 : Nat) : ∀ (N : Nat) (l : List Nat), l.Pairwise (· ≠ ·) → (∀ a ∈ l, s0 ≤ a ∧ a < s0 + N) → (l.map f).sum ≤ ((List.range' s0 N).map f).sum
  | 0, l, _, hb => by
    cases l with
    | nil => exact Nat.le_refl _
    | cons a l => have := hb a List.mem_cons_self; omega
  | N + 1, l, hd, hb => by
    rw [List.range'_concat, List.map_append, List.sum_append]
    show _ ≤ _ + ([f (s0 + 1 * N)]).sum
    rw [Nat.one_mul]
    by_cases hm : s0 + N ∈ l
    · obtain ⟨l1, l2, rfl⟩ := List.append_of_mem hm
      rw [List.pairwise_append] at hd
      obtain ⟨d1, d2, d3⟩ := hd
      rw [List.pairwise_cons] at d2
      have hd' : (l1 ++ l2).Pairwise (· ≠ ·) := List.pairwise_append.mpr ⟨d1, d2.2, fun a ha b hb2 => d3 a ha b (List.mem_cons_of_mem _ hb2)⟩
      have ih := lz_dist f s0 N (l1 ++ l2) hd' (fun a ha => by
        rcases List.mem_append.mp ha with q | q
        · have h1 := hb a (List.mem_append_left _ q)
          have h2 := d3 a q (s0 + N) List.mem_cons_self
          omega
        · have h1 := hb a (List.mem_append_right _ (List.mem_cons_of_mem _ q))
          have h2 := d2.1 a q
          omega)
      rw [List.map_append, List.sum_append] at ih
      rw [List.map_append, List.sum_append, List.map_cons, List.sum_cons]
      simp only [List.sum_cons, List.sum_nil]
      omega
    · have ih := lz_dist f s0 N l hd (fun a ha => by
        have h1 := hb a ha
        have h2 : a ≠ s0 + N := fun q => hm (q ▸ ha)
        omega)
      omega
theorem lz_sizeof {D : va_G} {cl : List vw_C} {q : Nat × va_E} {H : Heap} (h : va_at D cl q H) : lz_size q.2 ≤ ((H[q.1]?).map (fun cell => cell.slots.size)).getD 0 := by
  obtain ⟨a, x⟩ := q
  cases x with
  | inr o => exact Nat.zero_le _
  | inl x =>
    have h1 : H[a]? = some (vp_cell x.1 x.2) := h
    show x.2.1 ≤ ((H[a]?).map (fun cell => cell.slots.size)).getD 0
    rw [h1]
    show x.2.1 ≤ (vp_cell x.1 x.2).slots.size
    obtain ⟨cA, N, f⟩ := x
    rcases f with f | f | f | f | f <;> exact Nat.le_of_eq (arrV_size _ _ _).symm
theorem lz_total {D : va_G} {cl : List vw_C} {gs : va_W} {H : Heap} {A : Nat → Prop} {s0 : Nat} (hA : ∀ q, A q → s0 ≤ q) (hP : va_P D cl gs H) (hD : va_D A gs) : lz_sum gs ≤ ((H.toList.drop s0).map (fun cell => cell.slots.size)).sum := by
  have h1 : lz_sum gs ≤ ((gs.map (fun q => q.1)).map (fun a => ((H[a]?).map (fun cell => cell.slots.size)).getD 0)).sum := by
    unfold lz_sum
    rw [List.map_map]
    clear hD
    induction gs with
    | nil => exact Nat.le_refl _
    | cons q gs ih =>
      have h2 := lz_sizeof (hP 0 q rfl)
      have h3 := ih (fun k q2 hk => hP (k + 1) q2 hk)
      rw [List.map_cons, List.map_cons, List.sum_cons, List.sum_cons]
      exact Nat.add_le_add h2 h3
  have h2 : (gs.map (fun q => q.1)).Pairwise (· ≠ ·) := by
    rw [List.pairwise_iff_getElem]
    intro i j hi hj hij e
    rw [List.length_map] at hi hj
    rw [List.getElem_map, List.getElem_map] at e
    have := hD.1 i j _ _ (List.getElem?_eq_getElem hi) (List.getElem?_eq_getElem hj) e
    omega
  by_cases hz : s0 ≤ H.size
  · have h3 := lz_dist (fun a => ((H[a]?).map (fun cell => cell.slots.size)).getD 0) s0 (H.size - s0) _ h2 (fun a ha => by
      obtain ⟨q, q1, rfl⟩ := List.mem_map.mp ha
      obtain ⟨k, q2⟩ := List.getElem?_of_mem q1
      have h4 := (hP k q q2).lt
      have h5 := hA _ (hD.2 k q q2)
      omega)
    refine Nat.le_trans h1 (Nat.le_trans h3 (Nat.le_of_eq ?_))
    congr 1
    refine List.ext_getElem? fun k => ?_
    have e1 : H.toList[s0 + k]? = H[s0 + k]? := Array.getElem?_toList
    rw [List.getElem?_map, List.getElem?_map, List.getElem?_drop, e1]
    by_cases hk : k < H.size - s0
    · rw [List.getElem?_range' hk]
      simp only [Option.map_some, Nat.one_mul]
      rw [Array.getElem?_eq_getElem (show s0 + k < H.size by omega)]
      rfl
    · rw [List.getElem?_eq_none (show (List.range' s0 (H.size - s0)).length ≤ k by rw [List.length_range']; omega), Array.getElem?_eq_none (show H.size ≤ s0 + k by omega)]
      rfl
  · cases gs with
    | nil => exact Nat.zero_le _
    | cons q gs =>
      have h4 := (hP 0 q rfl).lt
      have h5 := hA _ (hD.2 0 q rfl)
      omega
end QLS
