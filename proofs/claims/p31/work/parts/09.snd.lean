/-! ENGINE, part 7: what it means that the engine is right -/
section QEX
variable {dp : Nat}
/-- the statics of a walk: the classes, the reading of values, what holds outside the world, the methods, the thrown classes' names, where blocks begin, what is known of a method's table -/
abbrev qe_Z : Type := List vw_C × qe_E × ((Nat → Prop) → State → Heap → Prop) × (Nat → qe_B) × (Nat → String) × (Nat → Nat → Nat) × (Nat → Code → Prop)
abbrev zc (Z : qe_Z) : List vw_C := Z.1
abbrev zE (Z : qe_Z) : qe_E := Z.2.1
abbrev zX (Z : qe_Z) : (Nat → Prop) → State → Heap → Prop := Z.2.2.1
abbrev zM (Z : qe_Z) : Nat → qe_B := Z.2.2.2.1
abbrev zn (Z : qe_Z) : Nat → String := Z.2.2.2.2.1
abbrev zp (Z : qe_Z) : Nat → Nat → Nat := Z.2.2.2.2.2.1
abbrev zT (Z : qe_Z) : Nat → Code → Prop := Z.2.2.2.2.2.2
def qx_st (Z : qe_Z) (d j : Nat) (p : Program) (l : Launch) (s : State) (m : MethodId) (args : Array Value) (meth : Method) (c : Code) (R : Room) (A : Nat → Prop) : Prop :=
  qe_bd (zM Z j) p l s m args meth c ∧ (d + 20 ≤ R.frames ∧ 60 * d + 200 ≤ R.locals) ∧ va_K (zE Z).1 (zc Z) (qe_tys (zE Z)) s ∧ zX Z A s s.heap ∧ (∀ q, s.heap.size ≤ q → A q) ∧ zT Z j c
def qx_ex (ad0 ad : Nat → Nat) (n0 n : Nat) : Prop := n0 ≤ n ∧ ∀ k, k < n0 → ad k = ad0 k
def qx_dy (Z : qe_Z) (j ls : Nat) (st : List Nat) (g : qe_G dp) (s : State) (R : Room) (A : Nat → Prop) (H : Heap) (locs : List Loc) (la : Array Slot) (ad ad0 : Nat → Nat) (n0 : Nat) : Prop :=
  va_P (zE Z).1 (zc Z) (qe_ws dp (zE Z) ad (qg_n g) (qg_t g)) H ∧ va_D A (qe_ws dp (zE Z) ad (qg_n g) (qg_t g)) ∧ va_S A s.heap H locs ∧ qe_lh (zE Z) ad la (zM Z j).2.2.1 ls ∧ qe_wi dp (qg_n g) (qg_t g) ∧ (∀ i, qe_rb (qg_n g) (qe_get ls i)) ∧ (∀ v ∈ st, qe_rb (qg_n g) v) ∧ qe_cok (zE Z).2.2.2 (qg_cx g) ∧ (qg_ce g ≤ R.cells ∧ qg_sl g ≤ R.slots) ∧ qx_ex ad0 ad n0 (qg_n g)
def qx_fin (Z : qe_Z) (outs : List (qe_O dp)) (s : State) (args : Array Value) (R : Room) (A : Nat → Prop) (ad0 : Nat → Nat) (n0 : Nat) (QC : Array Value → State → Outcome → State → Prop) (XC : String → State → State → Prop) : Prop :=
  ∀ o ∈ outs, (qo_ce o ≤ R.cells ∧ qo_sl o ≤ R.slots) ∧ ∀ (ad2 : Nat → Nat) (H2 : Heap) (locs2 : List Loc), qx_ex ad0 ad2 n0 (qo_n o) → va_P (zE Z).1 (zc Z) (qe_ws dp (zE Z) ad2 (qo_n o) (qo_t o)) H2 → va_D A (qe_ws dp (zE Z) ad2 (qo_n o) (qo_t o)) → va_S A s.heap H2 locs2 → qe_wi dp (qo_n o) (qo_t o) → qe_cok (zE Z).2.2.2 (qo_cx o) →
    (qo_k o = 0 → ∀ t : State, t.heap = H2 → s.WarmedH t.vm → QC args s (.returned none) t) ∧ (qo_k o = 1 → qe_rb (qo_n o) (qo_v o) → ∀ t : State, t.heap = H2 → s.WarmedH t.vm → QC args s (.returned (some (qe_v (zE Z) ad2 (qo_v o)))) t) ∧ (∀ i, qo_k o = i + 2 → ∀ t : State, t.heap = H2 → s.vm.Alike t.vm → XC (zn Z i) s t)
def qx_goal (Z : qe_Z) (d j pc ls : Nat) (st : List Nat) (g : qe_G dp) (outs : List (qe_O dp)) : Prop :=
  ∀ (p : Program) (l : Launch) (e : Env) (R : Room) (s : State) (m : MethodId) (args : Array Value) (below : List Frame) (meth : Method) (c : Code) (A : Nat → Prop) (H : Heap) (locs : List Loc) (la : Array Slot) (ad ad0 : Nat → Nat) (n0 : Nat) (QC : Array Value → State → Outcome → State → Prop) (XC : String → State → State → Prop),
    qx_st Z d j p l s m args meth c R A → qx_dy Z j ls st g s R A H locs la ad ad0 n0 → qx_fin Z outs s args R A ad0 n0 QC XC →
    W p l e R s m args below meth c H locs (qg_ce g) (qg_sl g) (vx_MQ below QC XC args s R.cells R.slots A) (F0 m pc la (st.map (qe_v (zE Z) ad)))
def qx_k (Z : qe_Z) (d j : Nat) (k : qe_K dp) : Prop := ∀ (b ls : Nat) (st : List Nat) (g : qe_G dp) (outs : List (qe_O dp)), k b ls st g = some outs → qx_goal Z d j (zp Z j b) ls st g outs
def qx_Q (Z : qe_Z) (ad : Nat → Nat) (n : Nat) (t : qe_T dp) (sz : Nat) (outs : List (qe_O dp)) : Array Value → State → Outcome → State → Prop := fun _ st oc u =>
  (∃ o ∈ outs, ∃ ad2 : Nat → Nat, qx_ex ad ad2 n (qo_n o) ∧ qe_cok (zE Z).2.2.2 (qo_cx o) ∧ qe_wi dp (qo_n o) (qo_t o) ∧ va_P (zE Z).1 (zc Z) (qe_ws dp (zE Z) ad2 (qo_n o) (qo_t o)) u.heap ∧ va_D (va_A (qe_ws dp (zE Z) ad n t) sz) (qe_ws dp (zE Z) ad2 (qo_n o) (qo_t o)) ∧
    ((qo_k o = 0 ∧ oc = .returned none) ∨ (qo_k o = 1 ∧ qe_rb (qo_n o) (qo_v o) ∧ oc = .returned (some (qe_v (zE Z) ad2 (qo_v o)))))) ∧ va_F (va_A (qe_ws dp (zE Z) ad n t) sz) st u
def qx_X (Z : qe_Z) (ad : Nat → Nat) (n : Nat) (t : qe_T dp) (sz : Nat) (outs : List (qe_O dp)) : String → State → State → Prop := fun E st u =>
  (∃ o ∈ outs, ∃ i : Nat, qo_k o = i + 2 ∧ E = zn Z i ∧ ∃ ad2 : Nat → Nat, qx_ex ad ad2 n (qo_n o) ∧ qe_cok (zE Z).2.2.2 (qo_cx o) ∧ qe_wi dp (qo_n o) (qo_t o) ∧ va_P (zE Z).1 (zc Z) (qe_ws dp (zE Z) ad2 (qo_n o) (qo_t o)) u.heap ∧ va_D (va_A (qe_ws dp (zE Z) ad n t) sz) (qe_ws dp (zE Z) ad2 (qo_n o) (qo_t o))) ∧ va_F (va_A (qe_ws dp (zE Z) ad n t) sz) st u
def qx_rm (d mc ms : Nat) : Room := { frames := d + 20, cells := mc, slots := ms, locals := 60 * d + 200 }
def qx_P (Z : qe_Z) (ad : Nat → Nat) (n : Nat) (t : qe_T dp) (sz : Nat) (U : State) : Prop :=
  U.heap.size = sz ∧ va_P (zE Z).1 (zc Z) (qe_ws dp (zE Z) ad n t) U.heap ∧ va_K (zE Z).1 (zc Z) (qe_tys (zE Z)) U ∧ va_D (fun _ => True) (qe_ws dp (zE Z) ad n t) ∧ zX Z (va_A (qe_ws dp (zE Z) ad n t) sz) U U.heap
def qx_con (Z : qe_Z) (d j : Nat) (as : List Nat) (n : Nat) (t : qe_T dp) (cx : qe_Cx) (outs : List (qe_O dp)) : Prop :=
  ∀ (l : Launch) (ad : Nat → Nat) (sz : Nat), l.stackTraces = false → qe_wi dp n t → (∀ v ∈ as, qe_rb n v ∧ v < 4722366482869645213696 ∧ v ≠ 7) → qe_cok (zE Z).2.2.2 cx → (lg_sl (as.map (qe_v (zE Z) ad))).length ≤ (zM Z j).2.2.1 →
    vx_Met l (zM Z j).1 (zM Z j).2.2.2.2.1 (qx_rm d (qe_mxc outs) (qe_mxs outs)) (va_Pc (as.map (qe_v (zE Z) ad)) (qx_P Z ad n t sz)) (qx_Q Z ad n t sz outs) (qx_X Z ad n t sz outs) (qe_mxc outs) (qe_mxs outs) (va_A (qe_ws dp (zE Z) ad n t) sz)
/-- what the tables say of method j -/
def qx_mb (Z : qe_Z) (j : Nat) : Prop := plainName (zM Z j).1.cls = true ∧ (zM Z j).2.2.1 ≤ 24 ∧ (zM Z j).1.cls = (zM Z j).2.2.2.2.2 ∧
  ((∃ ws, (zM Z j).2.2.2.2.1 = Cond.code (zM Z j).1 (zM Z j).2.1 (zM Z j).2.2.1 (zM Z j).2.2.2.1 :: ws ∧ ∀ c : Code, (∀ x ∈ c.exceptionTable.toList, False) → zT Z j c) ∨
   (∃ ws hh, (zM Z j).2.2.2.2.1 = Cond.codeWith (zM Z j).1 (zM Z j).2.1 (zM Z j).2.2.1 (zM Z j).2.2.2.1 hh :: ws ∧ ∀ c : Code, c.exceptionTable.toList = tableOf hh → zT Z j c))
def qx_c (Z : qe_Z) (d : Nat) (c : qe_C1 dp) : Prop := ∀ (j : Nat) (as : List Nat) (n : Nat) (t : qe_T dp) (cx : qe_Cx) (outs : List (qe_O dp)), qx_mb Z j → c j 0 (qe_lcl as 0 qe_ls0) [] (n, t, cx, 0, 0) = some outs → ∃ d2, d2 < d ∧ qx_con Z d2 j as n t cx outs
/-- an instruction and what follows it, at pc of method j -/
def qx_sn (Z : qe_Z) (j pc : Nat) (nt : qe_N dp) : Prop := ∀ (k : qe_K dp) (c : qe_C1 dp) (d : Nat), qx_k Z d j k → qx_c Z d c → ∀ (ls : Nat) (st : List Nat) (g : qe_G dp) (outs : List (qe_O dp)), nt k c ls st g = some outs → qx_goal Z d j pc ls st g outs
theorem qx_fin_sub {Z : qe_Z} {o1 o2 : List (qe_O dp)} {s : State} {args : Array Value} {R : Room} {A : Nat → Prop} {ad0 : Nat → Nat} {n0 : Nat} {QC : Array Value → State → Outcome → State → Prop} {XC : String → State → State → Prop} (h : qx_fin Z o2 s args R A ad0 n0 QC XC) (hs : ∀ o ∈ o1, o ∈ o2) : qx_fin Z o1 s args R A ad0 n0 QC XC := fun o ho => h o (hs o ho)
/-- only the stack changes -/
theorem qx_stk {Z : qe_Z} {d j pc nx ls : Nat} {old new r : List Nat} {g : qe_G dp} {outs : List (qe_O dp)} (hc : ∀ ad, qc_st (zM Z j) pc nx (old.map (qe_v (zE Z) ad)) (new.map (qe_v (zE Z) ad))) (hr : ∀ n, (∀ v ∈ old, qe_rb n v) → ∀ v ∈ new, qe_rb n v) (hg : qx_goal Z d j nx ls (new ++ r) g outs) : qx_goal Z d j pc ls (old ++ r) g outs := by
  intro p l e R s m args below meth c A H locs la ad ad0 n0 QC XC hst hdy hfin
  rw [List.map_append]
  refine hc ad hst.1 ?_
  obtain ⟨h1, h2, h3, h4, h5, h6, h7, h8, h9, h10⟩ := hdy
  have := hg p l e R s m args below meth c A H locs la ad ad0 n0 QC XC hst ⟨h1, h2, h3, h4, h5, h6, fun v hv => ?_, h8, h9, h10⟩ hfin
  · rw [List.map_append] at this
    exact this
  · rcases List.mem_append.mp hv with hv | hv
    · exact hr _ (fun w hw => h7 w (List.mem_append_left _ hw)) v hv
    · exact h7 v (List.mem_append_right _ hv)
theorem sn_push {Z : qe_Z} {j pc nx a : Nat} {nt : qe_N dp} (hc : ∀ ad, qc_st (zM Z j) pc nx [] [qe_v (zE Z) ad a]) (hr : qe_is 2 a = false) (hn : qx_sn Z j nx nt) : qx_sn Z j pc (ql_push a nt) := by
  intro k c d hk hcc ls st g outs h
  exact qx_stk (old := []) (new := [a]) hc (fun n _ v hv => by
    rw [List.mem_singleton.mp hv]
    intro h2
    rw [hr] at h2; cases h2) (hn k c d hk hcc ls (a :: st) g outs h)
theorem sn_bin {Z : qe_Z} {j pc nx o : Nat} {df : qe_Df} {nt : qe_N dp} (hd : qe_dok (zE Z).2.2.2 df) (hc : ∀ x y : Int32, qc_st (zM Z j) pc nx [.int y, .int x] [.int (qe_sem o x y)]) (hn : qx_sn Z j nx nt) : qx_sn Z j pc (ql_bin df o nt) := by
  intro k c d hk hcc ls st g outs h
  obtain ⟨y, r1, e1, h1⟩ := qe_hd_ok h
  obtain ⟨x, r, e2, h2⟩ := qe_hd_ok h1
  obtain ⟨z, hz, h3⟩ := qe_bind_ok h2
  subst e2; subst e1; replace h := h3
  obtain ⟨z1, z2, z3, z4⟩ := qe_bin_ok hd hz
  refine qx_stk (old := [y, x]) (new := [z]) (fun ad => ?_) (fun n _ v hv => ?_) (hn k c d hk hcc ls (z :: r) g outs h)
  · have e1 : qe_v (zE Z) ad y = .int (qe_int (zE Z).2.2.2 y) := qe_val_int z2
    have e2 : qe_v (zE Z) ad x = .int (qe_int (zE Z).2.2.2 x) := qe_val_int z1
    have e3 : qe_v (zE Z) ad z = .int (qe_int (zE Z).2.2.2 z) := qe_val_int z3
    show qc_st (zM Z j) pc nx [qe_v (zE Z) ad y, qe_v (zE Z) ad x] [qe_v (zE Z) ad z]
    rw [e1, e2, e3, z4]
    exact hc _ _
  · rw [List.mem_singleton.mp hv]; exact qe_rb_int z3
theorem sn_neg {Z : qe_Z} {j pc nx : Nat} {df : qe_Df} {nt : qe_N dp} (hd : qe_dok (zE Z).2.2.2 df) (hc : ∀ x : Int32, qc_st (zM Z j) pc nx [.int x] [.int (-x)]) (hn : qx_sn Z j nx nt) : qx_sn Z j pc (ql_neg df nt) := by
  intro k c d hk hcc ls st g outs h
  obtain ⟨x, r, e1, h1⟩ := qe_hd_ok h
  obtain ⟨z, hz, h3⟩ := qe_bind_ok h1
  subst e1; replace h := h3
  obtain ⟨z1, z2, z3, z4⟩ := qe_bin_ok hd hz
  refine qx_stk (old := [x]) (new := [z]) (fun ad => ?_) (fun n _ v hv => ?_) (hn k c d hk hcc ls (z :: r) g outs h)
  · have e2 : qe_v (zE Z) ad x = .int (qe_int (zE Z).2.2.2 x) := qe_val_int z2
    have e3 : qe_v (zE Z) ad z = .int (qe_int (zE Z).2.2.2 z) := qe_val_int z3
    have e4 : qe_sem 11 (qe_int (zE Z).2.2.2 0) (qe_int (zE Z).2.2.2 x) = - (qe_int (zE Z).2.2.2 x) := by
      show (0 : Int32) - _ = _
      rw [Int32.zero_sub]
    show qc_st (zM Z j) pc nx [qe_v (zE Z) ad x] [qe_v (zE Z) ad z]
    rw [e2, e3, z4, e4]
    exact hc _
  · rw [List.mem_singleton.mp hv]; exact qe_rb_int z3
theorem qe_sx_ok (a : Nat) : (Int64.ofNat (qe_sx a)).toInt = (Int32.ofNat a).toInt := by
  have e1 : ((qe_of a : Nat) : Int) = (Int32.ofNat a).toInt + 2147483648 := by rw [← qe_so_of]; exact qe_so_eq _
  have e2 : ((qe_ofL (qe_sx a) : Nat) : Int) = (Int64.ofNat (qe_sx a)).toInt + 9223372036854775808 := by rw [← qe_lo_of]; exact qe_lo_eq _
  have h1 : qe_of a = (qe_m a + 2147483648) % 4294967296 := by
    show (a + 2147483648) % 4294967296 = (a % 4294967296 + 2147483648) % 4294967296
    omega
  have h2 := qe_m_lt a
  have h3 : qe_ofL (qe_sx a) = (qe_sx a + 9223372036854775808) % 18446744073709551616 := rfl
  unfold qe_sx at h3 e2 ⊢
  generalize qe_m a = m at *
  by_cases hq : m < 2147483648
  · have hb : Nat.blt m 2147483648 = true := Nat.ble_eq_true_of_le hq
    rw [hb] at h3 e2 ⊢
    simp only [cond_true] at h3 e2 ⊢
    omega
  · have hb : Nat.blt m 2147483648 = false := by
      cases hb : Nat.blt m 2147483648
      · rfl
      · exact absurd (Nat.le_of_ble_eq_true hb) hq
    rw [hb] at h3 e2 ⊢
    simp only [cond_false, Nat.add_eq] at h3 e2 ⊢
    omega
theorem qe_i2l_ok {rho : Nat → Int32} {x : Nat} (h : qe_is 0 x = true) : qe_is 1 (qe_i2l x) = true ∧ qe_lng rho (qe_i2l x) = (qe_int rho x).toInt64 := by
  have hm := qe_is_eq h
  unfold qe_i2l
  cases hs : qe_sym x
  · refine ⟨qe_L_is _, ?_⟩
    show qe_lng rho (qe_L (qe_sx (x / 8))) = _
    rw [qe_L_lng]
    unfold qe_int
    rw [hs]
    show Int64.ofNat (qe_sx (x / 8)) = (Int32.ofNat (x / 8)).toInt64
    apply Int64.toInt_inj.mp
    rw [Int32.toInt_toInt64, qe_sx_ok]
  · have hx : x % 8 = 4 := by
      have := Nat.eq_of_beq_eq_true hs
      have h2 : x / 4 % 2 = 1 := this
      omega
    refine ⟨?_, ?_⟩
    · show Nat.beq ((x + 1) % 4) 1 = true
      rw [show (x + 1) % 4 = 1 by omega]; rfl
    · show qe_lng rho (x + 1) = _
      unfold qe_lng qe_int
      have hs2 : qe_sym (x + 1) = true := by
        show Nat.beq ((x + 1) / 4 % 2) 1 = true
        rw [show (x + 1) / 4 % 2 = 1 by omega]; rfl
      rw [hs, hs2]
      show (rho ((x + 1) / 8)).toInt64 = (rho (x / 8)).toInt64
      rw [show (x + 1) / 8 = x / 8 by omega]
theorem sn_i2l {Z : qe_Z} {j pc nx : Nat} {nt : qe_N dp} (hc : ∀ x : Int32, qc_st (zM Z j) pc nx [.int x] [.long x.toInt64]) (hn : qx_sn Z j nx nt) : qx_sn Z j pc (ql_i2l nt) := by
  intro k c d hk hcc ls st g outs h
  obtain ⟨x, r, e1, h1⟩ := qe_hd_ok h
  obtain ⟨hx, h3⟩ := qe_if_ok h1
  subst e1; replace h := h3
  refine qx_stk (old := [x]) (new := [qe_i2l x]) (fun ad => ?_) (fun n _ v hv => ?_) (hn k c d hk hcc ls (qe_i2l x :: r) g outs h)
  · obtain ⟨e0, e1⟩ := qe_i2l_ok (rho := (zE Z).2.2.2) hx
    have e2 : qe_v (zE Z) ad x = .int (qe_int (zE Z).2.2.2 x) := qe_val_int hx
    have e3 : qe_v (zE Z) ad (qe_i2l x) = .long (qe_lng (zE Z).2.2.2 (qe_i2l x)) := qe_val_lng e0
    show qc_st (zM Z j) pc nx [qe_v (zE Z) ad x] [qe_v (zE Z) ad (qe_i2l x)]
    rw [e2, e3, e1]
    exact hc _
  · rw [List.mem_singleton.mp hv]; exact qe_rb_lng (qe_i2l_ok (rho := (zE Z).2.2.2) hx).1
theorem qe_cat1 {E : qe_E} {ad : Nat → Nat} {v : Nat} (h : (!(qe_is 1 v)) = true) : (qe_v E ad v).category = 1 := by
  have h1 : qe_is 1 v = false := by simpa using h
  have := qe_cat (E := E) (ad := ad) h1
  rcases lv_cat (qe_v E ad v) with q | q
  · exact q
  · exact absurd q this
theorem sn_dup {Z : qe_Z} {j pc nx : Nat} {nt : qe_N dp} (hc : ∀ v : Value, v.category = 1 → qc_st (zM Z j) pc nx [v] [v, v]) (hn : qx_sn Z j nx nt) : qx_sn Z j pc (ql_dup nt) := by
  intro k c d hk hcc ls st g outs h
  obtain ⟨x, r, e1, h1⟩ := qe_hd_ok h
  obtain ⟨hx, h3⟩ := qe_if_ok h1
  subst e1; replace h := h3
  refine qx_stk (old := [x]) (new := [x, x]) (fun ad => hc _ (qe_cat1 hx)) (fun n h0 v hv => h0 v ?_) (hn k c d hk hcc ls (x :: x :: r) g outs h)
  rcases List.mem_cons.mp hv with q | q
  · rw [q]; exact List.mem_cons_self
  · exact q
theorem sn_pop {Z : qe_Z} {j pc nx : Nat} {nt : qe_N dp} (hc : ∀ v : Value, v.category = 1 → qc_st (zM Z j) pc nx [v] []) (hn : qx_sn Z j nx nt) : qx_sn Z j pc (ql_pop nt) := by
  intro k c d hk hcc ls st g outs h
  obtain ⟨x, r, e1, h1⟩ := qe_hd_ok h
  obtain ⟨hx, h3⟩ := qe_if_ok h1
  subst e1; replace h := h3
  exact qx_stk (old := [x]) (new := []) (fun ad => hc _ (qe_cat1 hx)) (fun n h0 v hv => by cases hv) (hn k c d hk hcc ls r g outs h)
theorem sn_dup2 {Z : qe_Z} {j pc nx : Nat} {nt : qe_N dp} (hc : ∀ v w : Value, v.category = 1 → w.category = 1 → qc_st (zM Z j) pc nx [v, w] [v, w, v, w]) (hn : qx_sn Z j nx nt) : qx_sn Z j pc (ql_dup2 nt) := by
  intro k c d hk hcc ls st g outs h
  obtain ⟨x, r1, e1, h1⟩ := qe_hd_ok h
  obtain ⟨y, r, e2, h2⟩ := qe_hd_ok h1
  obtain ⟨hx, h3⟩ := qe_if_ok h2
  subst e2; subst e1; replace h := h3
  rw [Bool.and_eq_true] at hx
  refine qx_stk (old := [x, y]) (new := [x, y, x, y]) (fun ad => hc _ _ (qe_cat1 hx.1) (qe_cat1 hx.2)) (fun n h0 v hv => h0 v ?_) (hn k c d hk hcc ls (x :: y :: x :: y :: r) g outs h)
  simp only [List.mem_cons, List.not_mem_nil, or_false] at hv ⊢
  rcases hv with q | q | q | q
  · exact Or.inl q
  · exact Or.inr q
  · exact Or.inl q
  · exact Or.inr q
theorem sn_jmp {Z : qe_Z} {j pc b : Nat} (hc : qc_st (zM Z j) pc (zp Z j b) [] []) : qx_sn Z j pc (ql_jmp b : qe_N dp) := by
  intro k c d hk hcc ls st g outs h
  exact qx_stk (old := []) (new := []) (fun _ => hc) (fun n _ v hv => by cases hv) (hk b ls st g outs h)
/-- a block falls into the next -/
theorem sn_fall {Z : qe_Z} {j pc b : Nat} (hb : zp Z j b = pc) : qx_sn Z j pc (ql_jmp b : qe_N dp) := by
  intro k c d hk hcc ls st g outs h
  rw [← hb]
  exact hk b ls st g outs h
theorem sn_no {Z : qe_Z} {j pc : Nat} : qx_sn Z j pc (ql_no : qe_N dp) := by
  intro k c d hk hcc ls st g outs h
  cases h
end QEX
