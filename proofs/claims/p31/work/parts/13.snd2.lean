/-! ENGINE, part 11: the same, for stores into arrays, what lies outside, ends -/
section QEQ
variable {dp : Nat}
theorem qe_cs_cat {E : qe_E} {ad : Nat → Nat} : ∀ (l : List Nat), qx_cat (l.map (qe_v E ad)) ≤ qe_cs l
  | [] => Nat.le_refl _
  | v :: l => by
    have ih := qe_cs_cat (E := E) (ad := ad) l
    change (qe_v E ad v).category + qx_cat (l.map (qe_v E ad)) ≤ qe_cs l + (cond (qe_is 1 v) 2 1)
    cases h : qe_is 1 v
    · have := qe_cat1 (E := E) (ad := ad) (v := v) (by rw [h]; rfl)
      rw [this]
      show _ ≤ qe_cs l + 1
      omega
    · have e : qe_v E ad v = .long (qe_lng E.2.2.2 v) := qe_val_lng h
      rw [e]
      show 2 + _ ≤ qe_cs l + 2
      omega
theorem qe_cs_le {E : qe_E} {ad : Nat → Nat} {l : List Nat} (h : Nat.ble (qe_cs l) 8 = true) : qx_cat (l.map (qe_v E ad)) ≤ 8 := Nat.le_trans (qe_cs_cat l) (Nat.le_of_ble_eq_true h)
theorem qe_upL_lng {rho : Nat → Int32} {d i v : Nat} (hv : v < 4722366482869645213696) : vp_updL (fun j => qe_lng rho (qe_get d j)) i (qe_lng rho v) = fun j => qe_lng rho (qe_get (qe_set d i v) j) := by
  funext j
  unfold vp_updL
  rw [qe_get_set _ _ _ _ hv]
  by_cases hj : j = i
  · rw [if_pos hj, if_pos hj]
  · rw [if_neg hj, if_neg hj]
/-- what is common to the stores into arrays -/
theorem qx_ast {Z : qe_Z} {j kd ty ls : Nat} {nt : qe_N dp} {k : qe_K dp} {c : qe_C1 dp} {st : List Nat} {g : qe_G dp} {outs : List (qe_O dp)} (h : ql_ast kd ty nt k c ls st g = some outs) : ∃ v i r rest ii, st = v :: i :: r :: rest ∧ qe_cnc (qg_cx g) i = some ii ∧ qe_wrf r = true ∧ (qe_cl g r).1 = kd ∧ ii < (qe_cl g r).2.1 ∧ ii < 65536 ∧ qe_fit ty v = true ∧ v < 4722366482869645213696 ∧ nt k c ls rest (qe_up g r ii v) = some outs := by
  obtain ⟨v, r0, e1, h1⟩ := qe_hd_ok h
  obtain ⟨i, r1, e2, h2⟩ := qe_hd_ok h1
  obtain ⟨r, rest, e3, h3⟩ := qe_hd_ok h2
  obtain ⟨ii, h4, h5⟩ := qe_bind_ok h3
  obtain ⟨h6, h7⟩ := qe_if_ok h5
  simp only [Bool.and_eq_true] at h6
  obtain ⟨⟨i1, i2⟩, ⟨i3, i4⟩, i5, i6⟩ := h6
  subst e3; subst e2; subst e1
  exact ⟨v, i, r, rest, ii, rfl, h4, i1, Nat.eq_of_beq_eq_true i2, Nat.le_of_ble_eq_true i3, Nat.le_of_ble_eq_true i4, i5, qe_lim_lt i6, h7⟩
theorem qx_dy_up {Z : qe_Z} {j ls : Nat} {st rest : List Nat} {g : qe_G dp} {s : State} {R : Room} {A : Nat → Prop} {H H1 : Heap} {locs locs1 : List Loc} {la : Array Slot} {ad ad0 : Nat → Nat} {n0 r ii v : Nat} (hdy : qx_dy Z j ls st g s R A H locs la ad ad0 n0) (hr : r / 8 < qg_n g) (hv : qe_rb (qg_n g) v) (hl : v < 4722366482869645213696) (hs : ∀ w ∈ rest, qe_rb (qg_n g) w)
    (p1 : va_P (zE Z).1 (zc Z) ((qe_ws dp (zE Z) ad (qg_n g) (qg_t g)).set (r / 8) (ad (r / 8), qe_ent (zE Z) ad ((qe_cl g r).1, (qe_cl g r).2.1, qe_set (qe_cl g r).2.2 ii v))) H1) (p2 : va_D A ((qe_ws dp (zE Z) ad (qg_n g) (qg_t g)).set (r / 8) (ad (r / 8), qe_ent (zE Z) ad ((qe_cl g r).1, (qe_cl g r).2.1, qe_set (qe_cl g r).2.2 ii v)))) (p3 : va_S A s.heap H1 locs1) :
    qx_dy Z j ls rest (qe_up g r ii v) s R A H1 locs1 la ad ad0 n0 := by
  obtain ⟨d1, d2, d3, d4, d5, d6, d7, d8, d9, d10⟩ := hdy
  rw [qe_ws_set hr d5.1] at p1 p2
  exact ⟨p1, p2, p3, d4, qe_wi_set d5 hr hv hl, d6, hs, d8, d9, d10⟩
theorem sn_iast {Z : qe_Z} {j pc nx : Nat} {nt : qe_N dp} (hc : qc_iast (zc Z) (zM Z j) pc nx) (hn : qx_sn Z j nx nt) : qx_sn Z j pc (ql_ast 100 1 nt) := by
  intro k c d hk hcc ls st g outs h
  obtain ⟨v, i, r, rest, ii, e1, hii, i1, k1, k2, k3, k4, hl, h2⟩ := qx_ast (Z := Z) (j := j) h
  subst e1
  have hg := hn k c d hk hcc ls _ _ outs h2
  intro p l e R s0 m args below meth c0 A H locs la ad ad0 n0 QC XC hst hdy hfin
  have hdy0 := hdy
  obtain ⟨d1, d2, d3, d4, d5, d6, d7, d8, d9, d10⟩ := hdy
  have d7' : ∀ w ∈ rest, qe_rb (qg_n g) w := fun w hw => d7 w (List.mem_cons_of_mem _ (List.mem_cons_of_mem _ (List.mem_cons_of_mem _ hw)))
  have hlt := qe_wrf_lt i1 (d7 r (List.mem_cons_of_mem _ (List.mem_cons_of_mem _ List.mem_cons_self)))
  have he := qe_ws_get (dp := dp) (E := zE Z) (ad := ad) (t := qg_t g) hlt
  have hc2 : qe_rd dp (qg_t g) (r / 8) = (100, (qe_cl g r).2.1, (qe_cl g r).2.2) := by rw [← k1]; rfl
  rw [hc2, qe_ent_int] at he
  obtain ⟨j1, j2⟩ := qe_cnc_ok d8 hii
  have ei : qe_v (zE Z) ad i = .int (Int32.ofNat ii) := by rw [← j2]; exact qe_val_int j1
  have ev : qe_v (zE Z) ad v = .int (qe_int (zE Z).2.2.2 v) := qe_val_int (show qe_is 0 v = true from k4)
  rw [List.map_cons, List.map_cons, List.map_cons, qe_wrf_val i1, ei, ev]
  refine hc hst.1 hst.2.2.1 d1 d2 d3 _ 0 _ _ _ _ _ _ he rfl (qe_vin k3 k2) (fun H1 locs1 p1 p2 p3 => ?_)
  rw [(qe_clamp k3).1, qe_up_int hl, ← qe_ent_int (ad := ad), ← k1] at p1 p2
  exact hg p l e R s0 m args below meth c0 A H1 locs1 la ad ad0 n0 QC XC hst (qx_dy_up hdy0 hlt (d7 v List.mem_cons_self) hl d7' p1 p2 p3) hfin
theorem sn_zast {Z : qe_Z} {j pc nx : Nat} {nt : qe_N dp} (hc : qc_zast (zc Z) (zM Z j) pc nx) (hn : qx_sn Z j nx nt) : qx_sn Z j pc (ql_ast 101 2 nt) := by
  intro k c d hk hcc ls st g outs h
  obtain ⟨v, i, r, rest, ii, e1, hii, i1, k1, k2, k3, k4, hl, h2⟩ := qx_ast (Z := Z) (j := j) h
  subst e1
  have hg := hn k c d hk hcc ls _ _ outs h2
  intro p l e R s0 m args below meth c0 A H locs la ad ad0 n0 QC XC hst hdy hfin
  have hdy0 := hdy
  obtain ⟨d1, d2, d3, d4, d5, d6, d7, d8, d9, d10⟩ := hdy
  have d7' : ∀ w ∈ rest, qe_rb (qg_n g) w := fun w hw => d7 w (List.mem_cons_of_mem _ (List.mem_cons_of_mem _ (List.mem_cons_of_mem _ hw)))
  have hlt := qe_wrf_lt i1 (d7 r (List.mem_cons_of_mem _ (List.mem_cons_of_mem _ List.mem_cons_self)))
  have he := qe_ws_get (dp := dp) (E := zE Z) (ad := ad) (t := qg_t g) hlt
  have hc2 : qe_rd dp (qg_t g) (r / 8) = (101, (qe_cl g r).2.1, (qe_cl g r).2.2) := by rw [← k1]; rfl
  rw [hc2, qe_ent_bool] at he
  obtain ⟨j1, j2⟩ := qe_cnc_ok d8 hii
  have ei : qe_v (zE Z) ad i = .int (Int32.ofNat ii) := by rw [← j2]; exact qe_val_int j1
  have hv01 : qe_is 0 v = true ∧ vp_nar .boolean (qe_int (zE Z).2.2.2 v) = qe_int (zE Z).2.2.2 v := by
    have h2 : (Nat.beq v 0 || Nat.beq v 8) = true := k4
    rw [Bool.or_eq_true] at h2
    rcases h2 with q | q
    · rw [Nat.eq_of_beq_eq_true q, show qe_int (zE Z).2.2.2 0 = 0 from rfl]
      exact ⟨rfl, by first | rfl | decide +kernel⟩
    · rw [Nat.eq_of_beq_eq_true q, show qe_int (zE Z).2.2.2 8 = 1 from rfl]
      exact ⟨rfl, by first | rfl | decide +kernel⟩
  have ev : qe_v (zE Z) ad v = .int (qe_int (zE Z).2.2.2 v) := qe_val_int hv01.1
  rw [List.map_cons, List.map_cons, List.map_cons, qe_wrf_val i1, ei, ev]
  refine hc hst.1 hst.2.2.1 d1 d2 d3 _ 1 _ _ _ _ _ _ he rfl (qe_vin k3 k2) hv01.2 (fun H1 locs1 p1 p2 p3 => ?_)
  rw [(qe_clamp k3).1, qe_up_int hl, ← qe_ent_bool (ad := ad), ← k1] at p1 p2
  exact hg p l e R s0 m args below meth c0 A H1 locs1 la ad ad0 n0 QC XC hst (qx_dy_up hdy0 hlt (d7 v List.mem_cons_self) hl d7' p1 p2 p3) hfin
theorem sn_last {Z : qe_Z} {j pc nx : Nat} {nt : qe_N dp} (hc : qc_last (zc Z) (zM Z j) pc nx) (hn : qx_sn Z j nx nt) : qx_sn Z j pc (ql_ast 102 3 nt) := by
  intro k c d hk hcc ls st g outs h
  obtain ⟨v, i, r, rest, ii, e1, hii, i1, k1, k2, k3, k4, hl, h2⟩ := qx_ast (Z := Z) (j := j) h
  subst e1
  have hg := hn k c d hk hcc ls _ _ outs h2
  intro p l e R s0 m args below meth c0 A H locs la ad ad0 n0 QC XC hst hdy hfin
  have hdy0 := hdy
  obtain ⟨d1, d2, d3, d4, d5, d6, d7, d8, d9, d10⟩ := hdy
  have d7' : ∀ w ∈ rest, qe_rb (qg_n g) w := fun w hw => d7 w (List.mem_cons_of_mem _ (List.mem_cons_of_mem _ (List.mem_cons_of_mem _ hw)))
  have hlt := qe_wrf_lt i1 (d7 r (List.mem_cons_of_mem _ (List.mem_cons_of_mem _ List.mem_cons_self)))
  have he := qe_ws_get (dp := dp) (E := zE Z) (ad := ad) (t := qg_t g) hlt
  have hc2 : qe_rd dp (qg_t g) (r / 8) = (102, (qe_cl g r).2.1, (qe_cl g r).2.2) := by rw [← k1]; rfl
  rw [hc2, qe_ent_long] at he
  obtain ⟨j1, j2⟩ := qe_cnc_ok d8 hii
  have ei : qe_v (zE Z) ad i = .int (Int32.ofNat ii) := by rw [← j2]; exact qe_val_int j1
  have ev : qe_v (zE Z) ad v = .long (qe_lng (zE Z).2.2.2 v) := qe_val_lng (show qe_is 1 v = true from k4)
  rw [List.map_cons, List.map_cons, List.map_cons, qe_wrf_val i1, ei, ev]
  refine hc hst.1 hst.2.2.1 d1 d2 d3 _ 2 _ _ _ _ _ _ he rfl (qe_vin k3 k2) (fun H1 locs1 p1 p2 p3 => ?_)
  rw [(qe_clamp k3).1, qe_upL_lng hl, ← qe_ent_long (ad := ad), ← k1] at p1 p2
  exact hg p l e R s0 m args below meth c0 A H1 locs1 la ad ad0 n0 QC XC hst (qx_dy_up hdy0 hlt (d7 v List.mem_cons_self) hl d7' p1 p2 p3) hfin
/-- the room at hand, and the locals' size -/
theorem qx_sz {Z : qe_Z} {d j ls : Nat} {st : List Nat} {g : qe_G dp} {p : Program} {l : Launch} {s : State} {m : MethodId} {args : Array Value} {meth : Method} {c : Code} {R : Room} {A : Nat → Prop} {H : Heap} {locs : List Loc} {la : Array Slot} {ad ad0 : Nat → Nat} {n0 : Nat} (hst : qx_st Z d j p l s m args meth c R A) (hdy : qx_dy Z j ls st g s R A H locs la ad ad0 n0) : la.size = c.maxLocals ∧ 20 ≤ R.frames ∧ 200 ≤ R.locals :=
  ⟨hdy.2.2.2.1.1.trans hst.1.2.2.1.symm, by have := hst.2.1.1; omega, by have := hst.2.1.2; omega⟩
theorem qx_dy_st {Z : qe_Z} {j ls : Nat} {st st2 : List Nat} {g : qe_G dp} {s : State} {R : Room} {A : Nat → Prop} {H : Heap} {locs : List Loc} {la : Array Slot} {ad ad0 : Nat → Nat} {n0 : Nat} (h : qx_dy Z j ls st g s R A H locs la ad ad0 n0) (hs : ∀ v ∈ st2, qe_rb (qg_n g) v) : qx_dy Z j ls st2 g s R A H locs la ad ad0 n0 := by
  obtain ⟨d1, d2, d3, d4, d5, d6, d7, d8, d9, d10⟩ := h
  exact ⟨d1, d2, d3, d4, d5, d6, hs, d8, d9, d10⟩
theorem sn_obj {Z : qe_Z} {j pc nx : Nat} {nt : qe_N dp} (hc : qc_obj Z j pc nx) (hn : qx_sn Z j nx nt) : qx_sn Z j pc (ql_obj nt) := by
  intro k c d hk hcc ls st g outs h
  obtain ⟨r, rest, e1, h1⟩ := qe_hd_ok h
  subst e1
  obtain ⟨hi, h2⟩ := qe_if_ok h1
  rw [Bool.and_eq_true] at hi
  have hg := hn k c d hk hcc ls _ g outs h2
  intro p l e R s0 m args below meth c0 A H locs la ad ad0 n0 QC XC hst hdy hfin
  obtain ⟨s1, s2, s3⟩ := qx_sz hst hdy
  have d7 := hdy.2.2.2.2.2.2.1
  have er : qe_v (zE Z) ad r = .ref (qe_adr ad (zE Z).2.2.1 r) := qe_val_ref hi.1
  have hcs := qe_cs_le (E := zE Z) (ad := ad) hi.2
  rw [List.map_cons, er]
  exact hc hst.1 (by omega) (by omega) s1 _ (hg p l e R s0 m args below meth c0 A H locs la ad ad0 n0 QC XC hst (qx_dy_st hdy fun v hv => d7 v (List.mem_cons_of_mem _ hv)) hfin)
theorem sn_mm {Z : qe_Z} {j pc nx w : Nat} {nt : qe_N dp} (hc : qc_mm Z j pc nx w) (hn : qx_sn Z j nx nt) : qx_sn Z j pc (ql_mm w nt) := by
  intro k c d hk hcc ls st g outs h
  obtain ⟨y, r1, e1, h1⟩ := qe_hd_ok h
  obtain ⟨x, r, e2, h1b⟩ := qe_hd_ok h1
  subst e2; subst e1
  obtain ⟨hi, h2⟩ := qe_if_ok h1b
  simp only [Bool.and_eq_true] at hi
  obtain ⟨⟨i1, i2⟩, i3⟩ := hi
  intro p l e R s0 m args below meth c0 A H locs la ad ad0 n0 QC XC hst hdy hfin
  obtain ⟨s1, s2, s3⟩ := qx_sz hst hdy
  have d7 := hdy.2.2.2.2.2.2.1
  have d9 := hdy.2.2.2.2.2.2.2.2.1
  obtain ⟨cx2, oa, f1, f2, f3⟩ := qe_go2_ok hdy.2.2.2.2.2.2.2.1 h2
  have e2 : qe_v (zE Z) ad x = .int (qe_int (zE Z).2.2.2 x) := qe_val_int i1
  have e3 : qe_v (zE Z) ad y = .int (qe_int (zE Z).2.2.2 y) := qe_val_int i2
  have hcs := qe_cs_le (E := zE Z) (ad := ad) i3
  rw [List.map_cons, List.map_cons, e2, e3]
  refine hc hst.1 (by omega) (by omega) s1 d9.1 d9.2 _ _ ?_
  cases hq : Nat.beq (qe_c3 (qe_so (qe_int (zE Z).2.2.2 x)) (qe_so (qe_int (zE Z).2.2.2 y))) w
  · rw [hq] at f1
    have := hn k c d hk hcc ls (x :: r) _ oa f1 p l e R s0 m args below meth c0 A H locs la ad ad0 n0 QC XC hst (qx_dy_wc hdy f3 (fun v hv => by
      rcases List.mem_cons.mp hv with q | q
      · rw [q]; exact qe_rb_int i1
      · exact d7 v (List.mem_cons_of_mem _ (List.mem_cons_of_mem _ q)))) (qx_fin_sub hfin f2)
    rw [List.map_cons, e2] at this
    exact this
  · rw [hq] at f1
    have := hn k c d hk hcc ls (y :: r) _ oa f1 p l e R s0 m args below meth c0 A H locs la ad ad0 n0 QC XC hst (qx_dy_wc hdy f3 (fun v hv => by
      rcases List.mem_cons.mp hv with q | q
      · rw [q]; exact qe_rb_int i2
      · exact d7 v (List.mem_cons_of_mem _ (List.mem_cons_of_mem _ q)))) (qx_fin_sub hfin f2)
    rw [List.map_cons, e3] at this
    exact this
theorem qe_x6 {E : qe_E} {ad : Nat → Nat} {r : Nat} (h : r % 8 = 6) : qe_v E ad r = .ref (E.2.2.1 (r / 8)) := by
  have h2 : qe_is 2 r = true := by
    show Nat.beq (r % 4) 2 = true
    rw [show r % 4 = 2 by omega]; rfl
  have h3 : qe_sym r = true := by
    show Nat.beq (r / 4 % 2) 1 = true
    rw [show r / 4 % 2 = 1 by omega]; rfl
  have e := qe_val_ref (ad := ad) (ext := E.2.2.1) (rho := E.2.2.2) h2
  unfold qe_adr at e
  rw [h3] at e
  exact e
theorem qe_rb_x6 {n r : Nat} (h : r % 8 = 6) : qe_rb n r := fun _ h2 => by
  have h3 : qe_sym r = true := by
    show Nat.beq (r / 4 % 2) 1 = true
    rw [show r / 4 % 2 = 1 by omega]; rfl
  rw [h3] at h2; cases h2
theorem qe_vI {E : qe_E} {ad : Nat → Nat} {n : Nat} : qe_v E ad (qe_I n) = .int (Int32.ofNat n) := by rw [← qe_I_int E.2.2.2]; exact qe_val_int (qe_I_is _)
theorem sn_pstr {Z : qe_Z} {j pc nx i : Nat} {nt : qe_N dp} (hc : qc_pstr Z j pc nx i) (hn : qx_sn Z j nx nt) : qx_sn Z j pc (ql_push (8 * i + 6) nt) := by
  intro k c d hk hcc ls st g outs h
  have hg := hn k c d hk hcc ls _ g outs h
  intro p l e R s0 m args below meth c0 A H locs la ad ad0 n0 QC XC hst hdy hfin
  have d7 := hdy.2.2.2.2.2.2.1
  refine hc hst.1 A hst.2.2.2.1 ?_
  have := hg p l e R s0 m args below meth c0 A H locs la ad ad0 n0 QC XC hst (qx_dy_st hdy fun v hv => by
    rcases List.mem_cons.mp hv with q | q
    · rw [q]; exact qe_rb_x6 (by omega)
    · exact d7 v q) hfin
  rw [List.map_cons, qe_x6 (by omega), show (8 * i + 6) / 8 = i by omega] at this
  exact this
theorem sn_slen {Z : qe_Z} {j pc nx : Nat} {f : Nat → Nat} {nt : qe_N dp} (hc : qc_slen Z j pc nx f) (hn : qx_sn Z j nx nt) : qx_sn Z j pc (ql_slen f nt) := by
  intro k c d hk hcc ls st g outs h
  obtain ⟨r, rest, e1, h1⟩ := qe_hd_ok h
  subst e1
  obtain ⟨hi, h2⟩ := qe_if_ok h1
  simp only [Bool.and_eq_true] at hi
  obtain ⟨⟨i1, i2⟩, i3⟩ := hi
  have hg := hn k c d hk hcc ls _ g outs h2
  intro p l e R s0 m args below meth c0 A H locs la ad ad0 n0 QC XC hst hdy hfin
  obtain ⟨s1, s2, s3⟩ := qx_sz hst hdy
  have d7 := hdy.2.2.2.2.2.2.1
  have d9 := hdy.2.2.2.2.2.2.2.2.1
  have h6 : r % 8 = 6 := Nat.eq_of_beq_eq_true i1
  rw [List.map_cons, qe_x6 h6]
  refine hc hst.1 A hst.2.2.2.1 hdy.2.2.1 hst.2.2.2.2.1 s2 s3 (qe_cs_le i3) s1 d9.1 d9.2 _ (Nat.le_of_ble_eq_true i2) ?_
  have := hg p l e R s0 m args below meth c0 A H locs la ad ad0 n0 QC XC hst (qx_dy_st hdy fun v hv => by
    rcases List.mem_cons.mp hv with q | q
    · rw [q]; exact qe_rb_int (qe_I_is _)
    · exact d7 v (List.mem_cons_of_mem _ q)) hfin
  rw [List.map_cons, qe_vI] at this
  exact this
theorem sn_xlen {Z : qe_Z} {j pc nx L : Nat} {nt : qe_N dp} (hc : qc_xlen Z j pc nx L) (hn : qx_sn Z j nx nt) : qx_sn Z j pc (ql_xlen L nt) := by
  intro k c d hk hcc ls st g outs h
  obtain ⟨r, rest, e1, h1⟩ := qe_hd_ok h
  subst e1
  obtain ⟨hi, h2⟩ := qe_if_ok h1
  have h6 : r = 6 := Nat.eq_of_beq_eq_true hi
  subst h6
  have hg := hn k c d hk hcc ls _ g outs h2
  intro p l e R s0 m args below meth c0 A H locs la ad ad0 n0 QC XC hst hdy hfin
  have d7 := hdy.2.2.2.2.2.2.1
  rw [List.map_cons, qe_x6 (by omega)]
  refine hc hst.1 A hst.2.2.2.1 hdy.2.2.1 ?_
  have := hg p l e R s0 m args below meth c0 A H locs la ad ad0 n0 QC XC hst (qx_dy_st hdy fun v hv => by
    rcases List.mem_cons.mp hv with q | q
    · rw [q]; exact qe_rb_int (qe_I_is _)
    · exact d7 v (List.mem_cons_of_mem _ q)) hfin
  rw [List.map_cons, qe_vI] at this
  exact this
theorem sn_xld {Z : qe_Z} {j pc nx L : Nat} {nt : qe_N dp} (hc : qc_xld Z j pc nx L) (hn : qx_sn Z j nx nt) : qx_sn Z j pc (ql_xld L nt) := by
  intro k c d hk hcc ls st g outs h
  obtain ⟨i, r1, e1, h1⟩ := qe_hd_ok h
  obtain ⟨r, rest, e2, h1b⟩ := qe_hd_ok h1
  subst e2; subst e1
  obtain ⟨hi, h2⟩ := qe_if_ok h1b
  simp only [Bool.and_eq_true, Bool.not_eq_true'] at hi
  obtain ⟨i1, ⟨i2, i3⟩, i4, i5⟩ := hi
  have h6 : r = 6 := Nat.eq_of_beq_eq_true i1
  subst h6
  have k1 : i / 8 < L := Nat.le_of_ble_eq_true i4
  have k2 : i / 8 < 65536 := Nat.le_of_ble_eq_true i5
  have hg := hn k c d hk hcc ls _ g outs h2
  intro p l e R s0 m args below meth c0 A H locs la ad ad0 n0 QC XC hst hdy hfin
  have d7 := hdy.2.2.2.2.2.2.1
  have ei : qe_v (zE Z) ad i = .int (Int32.ofNat (i / 8)) := by rw [← qe_conc (rho := (zE Z).2.2.2) i3]; exact qe_val_int i2
  have s0' : qe_is 0 (8 * (i / 8) + 4) = true := by
    show Nat.beq ((8 * (i / 8) + 4) % 4) 0 = true
    rw [show (8 * (i / 8) + 4) % 4 = 0 by omega]; rfl
  have ev : qe_v (zE Z) ad (8 * (i / 8) + 4) = .int ((zE Z).2.2.2 (i / 8)) := by
    have e1 : qe_v (zE Z) ad (8 * (i / 8) + 4) = .int (qe_int (zE Z).2.2.2 (8 * (i / 8) + 4)) := qe_val_int s0'
    rw [e1]
    unfold qe_int
    have hs : qe_sym (8 * (i / 8) + 4) = true := by
      show Nat.beq ((8 * (i / 8) + 4) / 4 % 2) 1 = true
      rw [show (8 * (i / 8) + 4) / 4 % 2 = 1 by omega]; rfl
    rw [hs]
    show Value.int ((zE Z).2.2.2 ((8 * (i / 8) + 4) / 8)) = _
    rw [show (8 * (i / 8) + 4) / 8 = i / 8 by omega]
  rw [List.map_cons, List.map_cons, qe_x6 (show 6 % 8 = 6 by omega), ei]
  refine hc hst.1 A hst.2.2.2.1 hdy.2.2.1 _ k1 k2 ?_
  have := hg p l e R s0 m args below meth c0 A H locs la ad ad0 n0 QC XC hst (qx_dy_st hdy fun v hv => by
    rcases List.mem_cons.mp hv with q | q
    · rw [q]; exact qe_rb_int s0'
    · exact d7 v (List.mem_cons_of_mem _ (List.mem_cons_of_mem _ q))) hfin
  rw [List.map_cons, show Nat.add (Nat.mul 8 (Nat.div i 8)) 4 = 8 * (i / 8) + 4 from rfl, ev] at this
  exact this
theorem qe_cpy_get {i a b k : Nat} : qe_get (qe_cpy i a b) k = if k < i then qe_get a k else qe_get b k := by
  have hc : qe_cpy i a b = (b >>> (72 * i)) <<< (72 * i) + a % 2 ^ (72 * i) := rfl
  have ha : a % 2 ^ (72 * i) < 2 ^ (72 * i) := Nat.mod_lt _ (Nat.pow_pos (by decide))
  have ho : qe_cpy i a b = ((b >>> (72 * i)) <<< (72 * i)) ||| (a % 2 ^ (72 * i)) := by
    rw [hc, Nat.shiftLeft_add_eq_or_of_lt ha]
  refine Nat.eq_of_testBit_eq fun z => ?_
  rw [qe_get_bit, ho, Nat.testBit_or, Nat.testBit_shiftLeft, Nat.testBit_shiftRight, Nat.testBit_mod_two_pow]
  by_cases hz : z < 72
  · by_cases hk : k < i
    · rw [if_pos hk, qe_get_bit]
      have h1 : ¬ (72 * k + z ≥ 72 * i) := by omega
      have h2 : 72 * k + z < 72 * i := by omega
      simp [hz, h1, h2]
    · rw [if_neg hk, qe_get_bit]
      have h1 : 72 * k + z ≥ 72 * i := by omega
      have h2 : ¬ 72 * k + z < 72 * i := by omega
      have h3 : 72 * i + (72 * k + z - 72 * i) = 72 * k + z := by omega
      simp [hz, h1, h2, h3]
  · by_cases hk : k < i
    · rw [if_pos hk, qe_get_bit]; simp [hz]
    · rw [if_neg hk, qe_get_bit]; simp [hz]
theorem sn_cpy {Z : qe_Z} {j pc nx : Nat} {nt : qe_N dp} (hc : qc_cpy Z j pc nx) (hn : qx_sn Z j nx nt) : qx_sn Z j pc (ql_cpy nt) := by
  intro k c d hk hcc ls st g outs h
  obtain ⟨i, r4, e1, h1⟩ := qe_hd_ok h
  obtain ⟨z1, r3, e2, h2⟩ := qe_hd_ok h1
  obtain ⟨b, r2, e3, h3⟩ := qe_hd_ok h2
  obtain ⟨z0, r1, e4, h4⟩ := qe_hd_ok h3
  obtain ⟨a, rest, e5, h5⟩ := qe_hd_ok h4
  obtain ⟨h6, h7⟩ := qe_if_ok h5
  simp only [Bool.and_eq_true, Bool.not_eq_true'] at h6
  obtain ⟨⟨i1, i2⟩, ⟨i3, i4⟩, ⟨i5, i6⟩, ⟨i7, i8⟩, ⟨i9, i10⟩, i11, i12, i13⟩ := h6
  subst e5; subst e4; subst e3; subst e2; subst e1
  have q0 : z0 = 0 := Nat.eq_of_beq_eq_true i1
  have q1 : z1 = 0 := Nat.eq_of_beq_eq_true i2
  subst q0; subst q1
  have ka : (qe_cl g a).1 = 100 := Nat.eq_of_beq_eq_true i5
  have kb : (qe_cl g b).1 = 100 := Nat.eq_of_beq_eq_true i6
  have l1 : i / 8 ≤ (qe_cl g a).2.1 := Nat.le_of_ble_eq_true i9
  have l2 : i / 8 ≤ (qe_cl g b).2.1 := Nat.le_of_ble_eq_true i10
  have l3 : i / 8 < 65536 := Nat.le_of_ble_eq_true i11
  have hg := hn k c d hk hcc ls _ _ outs h7
  intro p l e R s0 m args below meth c0 A H locs la ad ad0 n0 QC XC hst hdy hfin
  obtain ⟨s1, s2, s3⟩ := qx_sz hst hdy
  obtain ⟨d1, d2, d3, d4, d5, d6, d7, d8, d9, d10⟩ := hdy
  have hla := qe_wrf_lt i3 (d7 a (by simp))
  have hlb := qe_wrf_lt i4 (d7 b (by simp))
  have hea := qe_ws_get (dp := dp) (E := zE Z) (ad := ad) (t := qg_t g) hla
  have heb := qe_ws_get (dp := dp) (E := zE Z) (ad := ad) (t := qg_t g) hlb
  have ha2 : qe_rd dp (qg_t g) (a / 8) = (100, (qe_cl g a).2.1, (qe_cl g a).2.2) := by rw [← ka]; rfl
  have hb2 : qe_rd dp (qg_t g) (b / 8) = (100, (qe_cl g b).2.1, (qe_cl g b).2.2) := by rw [← kb]; rfl
  rw [ha2, qe_ent_int] at hea
  rw [hb2, qe_ent_int] at heb
  have ei : qe_v (zE Z) ad i = .int (Int32.ofNat (i / 8)) := by rw [← qe_conc (rho := (zE Z).2.2.2) i8]; exact qe_val_int i7
  have e0 : qe_v (zE Z) ad 0 = .int 0 := rfl
  simp only [List.map_cons]
  rw [ei, e0, qe_wrf_val i3, qe_wrf_val i4]
  refine hc hst.1 hst.2.2.1 d1 d2 d3 s2 s3 (qe_cs_le i13) s1 _ _ 0 _ _ _ _ _ _ _ _ hea heb rfl l1 l2 l3 (fun H1 locs1 p1 p2 p3 => ?_)
  have hf : (fun x => if x < i / 8 then qe_int (zE Z).2.2.2 (qe_get (qe_cl g a).2.2 x) else qe_int (zE Z).2.2.2 (qe_get (qe_cl g b).2.2 x)) = fun x => qe_int (zE Z).2.2.2 (qe_get (qe_cpy (i / 8) (qe_cl g a).2.2 (qe_cl g b).2.2) x) := by
    funext x
    rw [qe_cpy_get]
    by_cases hx : x < i / 8
    · rw [if_pos hx, if_pos hx]
    · rw [if_neg hx, if_neg hx]
  rw [hf, ← qe_ent_int (ad := ad), qe_ws_set hlb d5.1] at p1 p2
  have hwi : qe_wi dp (qg_n g) (qe_wr dp (qg_t g) (b / 8) (100, (qe_cl g b).2.1, qe_cpy (i / 8) (qe_cl g a).2.2 (qe_cl g b).2.2)) := by
    refine ⟨d5.1, fun z hz w => ?_⟩
    rw [qe_rd_wr]
    by_cases hzb : z = b / 8
    · subst hzb
      rw [if_pos rfl]
      show qe_rb (qg_n g) (qe_get (qe_cpy (i / 8) (qe_cl g a).2.2 (qe_cl g b).2.2) w)
      rw [qe_cpy_get]
      by_cases hw : w < i / 8
      · rw [if_pos hw]; exact d5.2 _ hla w
      · rw [if_neg hw]; exact d5.2 _ hlb w
    · rw [if_neg (fun q => hzb ((qe_mod_ne (Nat.lt_of_lt_of_le hlb d5.1) (Nat.lt_of_lt_of_le hz d5.1)).mp q))]
      exact d5.2 z hz w
  rw [kb] at hg
  exact hg p l e R s0 m args below meth c0 A H1 locs1 la ad ad0 n0 QC XC hst ⟨p1, p2, p3, d4, hwi, d6, fun w hw => d7 w (by simp [hw]), d8, d9, d10⟩ hfin
theorem qe_fit_rv {E : qe_E} {ad : Nat → Nat} {rt v : Nat} (h : qe_fit rt v = true) : qx_rv rt (qe_v E ad v) := by
  unfold qe_fit at h
  cases h1 : Nat.beq rt 1
  · rw [h1] at h
    cases h2 : Nat.beq rt 2
    · rw [h2] at h
      cases h3 : Nat.beq rt 3
      · rw [h3] at h
        cases h4 : Nat.beq rt 4
        · rw [h4] at h; cases h
        · rw [h4] at h
          refine Or.inr (Or.inr (Or.inr ⟨Nat.eq_of_beq_eq_true h4, ?_⟩))
          have h5 : (qe_is 2 v || Nat.beq v 3) = true := h
          rw [Bool.or_eq_true] at h5
          rcases h5 with q | q
          · exact Or.inr ⟨_, qe_val_ref q⟩
          · rw [Nat.eq_of_beq_eq_true q]; exact Or.inl rfl
      · rw [h3] at h
        exact Or.inr (Or.inr (Or.inl ⟨Nat.eq_of_beq_eq_true h3, _, qe_val_lng h⟩))
    · rw [h2] at h
      refine Or.inr (Or.inl ⟨Nat.eq_of_beq_eq_true h2, ?_⟩)
      have h5 : (Nat.beq v 0 || Nat.beq v 8) = true := h
      rw [Bool.or_eq_true] at h5
      rcases h5 with q | q
      · rw [Nat.eq_of_beq_eq_true q]; exact ⟨0, rfl, by first | rfl | decide +kernel | simp [narrow]⟩
      · rw [Nat.eq_of_beq_eq_true q]; exact ⟨1, rfl, by first | rfl | decide +kernel | simp [narrow]⟩
  · rw [h1] at h
    exact Or.inl ⟨Nat.eq_of_beq_eq_true h1, _, qe_val_int h⟩
theorem sn_ret {Z : qe_Z} {j pc rt : Nat} (hc : qc_ret Z j pc rt) : qx_sn Z j pc (ql_ret rt : qe_N dp) := by
  intro k c d hk hcc ls st g outs h
  obtain ⟨v, r, e1, h1⟩ := qe_hd_ok h
  obtain ⟨e2, h2⟩ := qe_e0_ok h1
  obtain ⟨hi, h3⟩ := qe_if_ok h2
  subst e2; subst e1
  have e3 := Option.some.inj h3
  subst e3
  intro p l e R s0 m args below meth c0 A H locs la ad ad0 n0 QC XC hst hdy hfin
  obtain ⟨d1, d2, d3, d4, d5, d6, d7, d8, d9, d10⟩ := hdy
  have hf := ((hfin _ List.mem_cons_self).2 ad H locs d10 d1 d2 d3 d5 d8).2.1 rfl (d7 v List.mem_cons_self)
  exact hc (rest := []) hst.1 _ (qe_fit_rv hi) hf d3.2.2 d9.1 d9.2
theorem sn_ret0 {Z : qe_Z} {j pc : Nat} (hc : qc_ret0 Z j pc) : qx_sn Z j pc (ql_ret0 : qe_N dp) := by
  intro k c d hk hcc ls st g outs h
  obtain ⟨e2, h2⟩ := qe_e0_ok h
  subst e2
  have e3 := Option.some.inj h2
  subst e3
  intro p l e R s0 m args below meth c0 A H locs la ad ad0 n0 QC XC hst hdy hfin
  obtain ⟨d1, d2, d3, d4, d5, d6, d7, d8, d9, d10⟩ := hdy
  have hf := ((hfin _ List.mem_cons_self).2 ad H locs d10 d1 d2 d3 d5 d8).1 rfl
  exact hc (rest := []) hst.1 hf d3.2.2 d9.1 d9.2
theorem sn_thr {Z : qe_Z} {j pc i : Nat} (hc : qc_thr Z j pc i) : qx_sn Z j pc (ql_thr i : qe_N dp) := by
  intro k c d hk hcc ls st g outs h
  obtain ⟨hi, h2⟩ := qe_if_ok h
  have e3 := Option.some.inj h2
  subst e3
  intro p l e R s0 m args below meth c0 A H locs la ad ad0 n0 QC XC hst hdy hfin
  obtain ⟨s1, s2, s3⟩ := qx_sz hst hdy
  obtain ⟨d1, d2, d3, d4, d5, d6, d7, d8, d9, d10⟩ := hdy
  obtain ⟨hro, hf⟩ := hfin _ List.mem_cons_self
  refine hc hst.1 hst.2.2.2.1 d3 hst.2.2.2.2.1 hst.2.2.2.2.2 s1 s2 s3 hro.1 hro.2 (qe_cs_le hi) (fun t hal hsz hq => ?_)
  have d3' : va_S A s0.heap t.heap locs := ⟨Nat.le_trans d3.1 hsz, fun q h1 h2 => (hq q (Nat.lt_of_lt_of_le h1 d3.1)).trans (d3.2.1 q h1 h2), d3.2.2⟩
  exact (hf ad t.heap locs d10 (d1.kept fun k q hk => hq q.1 ((d1 k q hk).lt)) d2 d3' d5 d8).2.2 i rfl t rfl hal
end QEQ
