/-! ENGINE, part 9: objects and arrays -/
section QEO
variable {dp : Nat}
theorem qe_wrf_ok {r : Nat} (h : qe_wrf r = true) : qe_is 2 r = true ∧ qe_sym r = false := by
  unfold qe_wrf at h
  rw [Bool.and_eq_true] at h
  exact ⟨h.1, by simpa using h.2⟩
theorem qe_wrf_val {E : qe_E} {ad : Nat → Nat} {r : Nat} (h : qe_wrf r = true) : qe_v E ad r = .ref (ad (r / 8)) := by
  obtain ⟨h1, h2⟩ := qe_wrf_ok h
  have e := qe_val_ref (ad := ad) (ext := E.2.2.1) (rho := E.2.2.2) h1
  unfold qe_adr at e
  rw [h2] at e
  exact e
theorem qe_wrf_lt {n r : Nat} (h : qe_wrf r = true) (hr : qe_rb n r) : r / 8 < n := hr (qe_wrf_ok h).1 (qe_wrf_ok h).2
theorem sn_get {Z : qe_Z} {j pc nx ci fk : Nat} {nt : qe_N dp} (hc : qc_get (zc Z) (zM Z j) pc nx ci fk) (hci : ci < 100) (hn : qx_sn Z j nx nt) : qx_sn Z j pc (ql_get ci fk nt) := by
  intro k c d hk hcc ls st g outs h
  obtain ⟨r, rest, e1, h1⟩ := qe_hd_ok h
  subst e1
  obtain ⟨hi, h2⟩ := qe_if_ok h1
  rw [Bool.and_eq_true, Bool.and_eq_true] at hi
  obtain ⟨i1, i2, i3⟩ := hi
  have hg := hn k c d hk hcc ls _ g outs h2
  intro p l e R s0 m args below meth c0 A H locs la ad ad0 n0 QC XC hst hdy hfin
  obtain ⟨d1, d2, d3, d4, d5, d6, d7, d8, d9, d10⟩ := hdy
  have hlt := qe_wrf_lt i1 (d7 r List.mem_cons_self)
  have k1 : (qe_cl g r).1 = ci := Nat.eq_of_beq_eq_true i2
  have k2 : fk < (qe_cl g r).2.1 := Nat.le_of_ble_eq_true i3
  have he := qe_ws_get (dp := dp) (E := zE Z) (ad := ad) (t := qg_t g) hlt
  rw [qe_ent_obj (show Nat.blt (qe_rd dp (qg_t g) (r / 8)).1 100 = true from Nat.ble_eq_true_of_le (by
    have : (qe_rd dp (qg_t g) (r / 8)).1 = ci := k1
    omega)), show (qe_rd dp (qg_t g) (r / 8)).1 = ci from k1] at he
  rw [List.map_cons, qe_wrf_val i1]
  refine hc (A := A) (H0 := H) hst.1 hst.2.2.1 d1 _ _ _ _ he (qe_fs_get k2) ?_
  exact hg p l e R s0 m args below meth c0 A H locs la ad ad0 n0 QC XC hst ⟨d1, d2, d3, d4, d5, d6, fun v hv => by
    rcases List.mem_cons.mp hv with q | q
    · rw [q]; exact d5.2 _ hlt _
    · exact d7 v (List.mem_cons_of_mem _ q), d8, d9, d10⟩ hfin
/-- the type that a code of a value's fit stands for -/
def qx_ty (tc : Nat) (ty : FieldType) : Prop := (tc = 1 ∧ ty = .int) ∨ (tc = 2 ∧ ty = .boolean) ∨ (tc = 3 ∧ ty = .long) ∨ (tc = 4 ∧ ((∃ n, ty = .object n) ∨ ∃ t, ty = .array t))
theorem qe_fit_ok {E : qe_E} {ad : Nat → Nat} {tc v : Nat} {ty : FieldType} (ht : qx_ty tc ty) (h : qe_fit tc v = true) : narrow ty (qe_v E ad v) = qe_v E ad v ∧ fits ty (qe_v E ad v) = true := by
  rcases ht with ⟨rfl, rfl⟩ | ⟨rfl, rfl⟩ | ⟨rfl, rfl⟩ | ⟨rfl, ht⟩
  · have e : qe_v E ad v = .int (qe_int E.2.2.2 v) := qe_val_int (show qe_is 0 v = true from h)
    rw [e]; exact ⟨rfl, rfl⟩
  · have h2 : (Nat.beq v 0 || Nat.beq v 8) = true := h
    rw [Bool.or_eq_true] at h2
    rcases h2 with q | q
    · rw [Nat.eq_of_beq_eq_true q, show qe_v E ad 0 = .int 0 from rfl]
      exact ⟨by first | rfl | decide +kernel | simp [narrow], by first | rfl | decide +kernel | simp [fits]⟩
    · rw [Nat.eq_of_beq_eq_true q, show qe_v E ad 8 = .int 1 from rfl]
      exact ⟨by first | rfl | decide +kernel | simp [narrow], by first | rfl | decide +kernel | simp [fits]⟩
  · have e : qe_v E ad v = .long (qe_lng E.2.2.2 v) := qe_val_lng (show qe_is 1 v = true from h)
    rw [e]; exact ⟨rfl, rfl⟩
  · have h2 : (qe_is 2 v || Nat.beq v 3) = true := h
    rw [Bool.or_eq_true] at h2
    rcases h2 with q | q
    · have e : qe_v E ad v = .ref (qe_adr ad E.2.2.1 v) := qe_val_ref q
      rw [e]
      rcases ht with ⟨n, rfl⟩ | ⟨t, rfl⟩ <;> exact ⟨rfl, rfl⟩
    · rw [Nat.eq_of_beq_eq_true q]
      have e : qe_v E ad 3 = .null := rfl
      rw [e]
      rcases ht with ⟨n, rfl⟩ | ⟨t, rfl⟩ <;> exact ⟨rfl, rfl⟩
theorem sn_put {Z : qe_Z} {j pc nx ci fk tc : Nat} {ty : FieldType} {nt : qe_N dp} (hc : qc_put (zc Z) (zM Z j) pc nx ci fk ty) (hci : ci < 100) (ht : qx_ty tc ty) (hn : qx_sn Z j nx nt) : qx_sn Z j pc (ql_put ci fk tc nt) := by
  intro k c d hk hcc ls st g outs h
  obtain ⟨v, r1, e1, h1⟩ := qe_hd_ok h
  obtain ⟨r, rest, e2, h1b⟩ := qe_hd_ok h1
  subst e2; subst e1
  obtain ⟨hi, h2⟩ := qe_if_ok h1b
  simp only [Bool.and_eq_true] at hi
  obtain ⟨⟨i1, i2, i3⟩, i4, i5⟩ := hi
  have hl := qe_lim_lt i5
  have hg := hn k c d hk hcc ls _ _ outs h2
  intro p l e R s0 m args below meth c0 A H locs la ad ad0 n0 QC XC hst hdy hfin
  obtain ⟨d1, d2, d3, d4, d5, d6, d7, d8, d9, d10⟩ := hdy
  have hlt := qe_wrf_lt i1 (d7 r (List.mem_cons_of_mem _ List.mem_cons_self))
  have k1 : (qe_cl g r).1 = ci := Nat.eq_of_beq_eq_true i2
  have k2 : fk < (qe_cl g r).2.1 := Nat.le_of_ble_eq_true i3
  have kb : Nat.blt (qe_cl g r).1 100 = true := Nat.ble_eq_true_of_le (by rw [k1]; exact hci)
  have he := qe_ws_get (dp := dp) (E := zE Z) (ad := ad) (t := qg_t g) hlt
  rw [qe_ent_obj (show Nat.blt (qe_rd dp (qg_t g) (r / 8)).1 100 = true from kb), show (qe_rd dp (qg_t g) (r / 8)).1 = ci from k1] at he
  obtain ⟨f1, f2⟩ := qe_fit_ok (E := zE Z) (ad := ad) ht i4
  have hset : (qe_ws dp (zE Z) ad (qg_n g) (qg_t g)).set (r / 8) (ad (r / 8), .inr (ci, ((List.range (qe_rd dp (qg_t g) (r / 8)).2.1).map (fun k => qe_v (zE Z) ad (qe_get (qe_rd dp (qg_t g) (r / 8)).2.2 k))).set fk (qe_v (zE Z) ad v))) = qe_ws dp (zE Z) ad (qg_n (qe_up g r fk v)) (qg_t (qe_up g r fk v)) := by
    show _ = qe_ws dp (zE Z) ad (qg_n g) (qe_wr dp (qg_t g) (r / 8) ((qe_cl g r).1, (qe_cl g r).2.1, qe_set (qe_cl g r).2.2 fk v))
    rw [← qe_ws_set hlt d5.1, qe_fs_set hl]
    have e9 : qe_ent (zE Z) ad ((qe_cl g r).1, (qe_cl g r).2.1, qe_set (qe_cl g r).2.2 fk v) = .inr ((qe_cl g r).1, (List.range (qe_cl g r).2.1).map (fun k => qe_v (zE Z) ad (qe_get (qe_set (qe_cl g r).2.2 fk v) k))) := qe_ent_obj kb
    rw [e9, k1]
    try rfl
  rw [List.map_cons, List.map_cons, qe_wrf_val i1]
  refine hc hst.1 hst.2.2.1 d1 d2 d3 _ _ _ _ he f1 f2 (by rw [List.length_map, List.length_range]; exact k2) (fun H1 locs1 p1 p2 p3 => ?_)
  rw [hset] at p1 p2
  exact hg p l e R s0 m args below meth c0 A H1 locs1 la ad ad0 n0 QC XC hst ⟨p1, p2, p3, d4, qe_wi_set d5 hlt (d7 v List.mem_cons_self) hl, d6, fun w hw => d7 w (List.mem_cons_of_mem _ (List.mem_cons_of_mem _ hw)), d8, d9, d10⟩ hfin
theorem qe_get_big {d i N : Nat} (h : d < 2 ^ (72 * N)) (hi : N ≤ i) : qe_get d i = 0 := by
  show (d >>> (72 * i)) % 2 ^ 72 = 0
  rw [Nat.shiftRight_eq_div_pow, Nat.div_eq_of_lt (Nat.lt_of_lt_of_le h (Nat.pow_le_pow_right (by decide) (by omega)))]
/-- one cell more -/
theorem qx_dy_mk {Z : qe_Z} {j ls : Nat} {st st2 : List Nat} {g : qe_G dp} {s : State} {R : Room} {A : Nat → Prop} {H H1 : Heap} {locs : List Loc} {la : Array Slot} {ad ad0 : Nat → Nat} {n0 q N : Nat} {x : qe_C} (hdy : qx_dy Z j ls st g s R A H locs la ad ad0 n0) (hn : qg_n g < 2 ^ dp) (hx : ∀ n j, qe_rb n (qe_get x.2.2 j))
    (p1 : va_P (zE Z).1 (zc Z) (qe_ws dp (zE Z) ad (qg_n g) (qg_t g) ++ [(q, qe_ent (zE Z) ad x)]) H1) (p2 : va_D A (qe_ws dp (zE Z) ad (qg_n g) (qg_t g) ++ [(q, qe_ent (zE Z) ad x)])) (p3 : va_S A s.heap H1 locs) (hs : ∀ v ∈ st2, qe_rb (qg_n g) v) (hr : qg_ce g + 1 ≤ R.cells ∧ qg_sl g + N ≤ R.slots) :
    qx_dy Z j ls (qe_R (qg_n g) :: st2) (qe_mk g x N) s R A H1 locs la (va_up ad (qg_n g) q) ad0 n0 := by
  obtain ⟨d1, d2, d3, d4, d5, d6, d7, d8, d9, d10⟩ := hdy
  rw [qe_ws_push d5 hn (hx _)] at p1 p2
  have hup : ∀ k, k < qg_n g → va_up ad (qg_n g) q k = ad k := fun k hk => by unfold va_up; rw [if_neg (by omega)]
  refine ⟨p1, p2, p3, qe_lh_ext d4 d6 hup, qe_wi_push d5 hn (hx _), fun i => qe_rb_up (d6 i) (Nat.le_succ _), fun v hv => ?_, d8, hr, Nat.le_succ_of_le d10.1, fun k hk => ?_⟩
  · rcases List.mem_cons.mp hv with e | e
    · rw [e]; exact qe_rb_R (Nat.lt_succ_self _)
    · exact qe_rb_up (hs v e) (Nat.le_succ _)
  · rw [hup k (Nat.lt_of_lt_of_le hk d10.1)]; exact d10.2 k hk
theorem qe_mk_st {E : qe_E} {ad : Nat → Nat} {n q : Nat} {st : List Nat} (hs : ∀ v ∈ st, qe_rb n v) : (qe_R n :: st).map (qe_v E (va_up ad n q)) = .ref q :: st.map (qe_v E ad) := by
  rw [List.map_cons]
  congr 1
  · have e : qe_v E (va_up ad n q) (qe_R n) = .ref (qe_adr (va_up ad n q) E.2.2.1 (qe_R n)) := qe_val_ref (qe_R_is n)
    rw [e, qe_R_adr]
    unfold va_up
    rw [if_pos rfl]
  · refine List.map_congr_left fun v hv => qe_v_ext (hs v hv) (fun k hk => ?_)
    unfold va_up
    rw [if_neg (by omega)]
theorem sn_new {Z : qe_Z} {j pc nx ci N nd : Nat} {fs : List Value} {nt : qe_N dp} (hc : qc_new (zc Z) (zM Z j) pc nx ci N fs) (hci : ci < 100) (hfs : ∀ (E : qe_E) (ad : Nat → Nat), (List.range N).map (fun k => qe_v E ad (qe_get nd k)) = fs) (hnd : nd < 2 ^ (72 * N)) (hnb : ∀ k, k < N → qe_is 2 (qe_get nd k) = false) (hn : qx_sn Z j nx nt) : qx_sn Z j pc (ql_new ci N nd nt) := by
  intro k c d hk hcc ls st g outs h
  obtain ⟨hi, h2⟩ := qe_if_ok h
  have hlt : qg_n g < 2 ^ dp := Nat.le_of_ble_eq_true hi
  obtain ⟨h3, o, ho, hce, hsl⟩ := qe_ge_ok h2
  have hg := hn k c d hk hcc ls _ _ outs h3
  intro p l e R s0 m args below meth c0 A H locs la ad ad0 n0 QC XC hst hdy hfin
  have hro := (hfin o ho).1
  have hr : qg_ce g + 1 ≤ R.cells ∧ qg_sl g + N ≤ R.slots := ⟨Nat.le_trans hce hro.1, Nat.le_trans hsl hro.2⟩
  have hx : ∀ n i, qe_rb n (qe_get (ci, N, nd).2.2 i) := fun n i h2 => by
    rcases Nat.lt_or_ge i N with q | q
    · rw [hnb i q] at h2; cases h2
    · rw [show (ci, N, nd).2.2 = nd from rfl, qe_get_big hnd q] at h2; cases h2
  have hent : qe_ent (zE Z) ad (ci, N, nd) = .inr (ci, fs) := by
    rw [qe_ent_obj (show Nat.blt (ci, N, nd).1 100 = true from Nat.ble_eq_true_of_le hci)]
    show _ = Sum.inr (ci, fs)
    rw [← hfs (zE Z) ad]
  refine hc hst.1 hst.2.2.1 hdy.1 hdy.2.1 hdy.2.2.1 hst.2.2.2.2.1 hr.1 hr.2 (fun q H1 p1 p2 p3 => ?_)
  rw [← hent] at p1 p2
  have := hg p l e R s0 m args below meth c0 A H1 locs la _ ad0 n0 QC XC hst (qx_dy_mk (N := N) hdy hlt hx p1 p2 p3 hdy.2.2.2.2.2.2.1 hr) hfin
  rw [qe_mk_st hdy.2.2.2.2.2.2.1] at this
  exact this
theorem qe_clamp {a : Nat} (h : a < 65536) : (Int32.ofNat a).toNatClampNeg = a ∧ ¬ Int32.ofNat a < 0 := by
  have h1 := nI_in (c := a) (N := 65536) h (by decide)
  exact ⟨nI_clamp (by omega), fun q => h1 (Or.inl q)⟩
theorem qe_vin {a n : Nat} (h : a < 65536) (hn : a < n) : vp_in (Int32.ofNat a) n := by
  obtain ⟨h1, h2⟩ := qe_clamp h
  intro q
  rcases q with q | q
  · exact h2 q
  · rw [h1] at q; omega
theorem qe_conc {rho : Nat → Int32} {v : Nat} (h : qe_sym v = false) : qe_int rho v = Int32.ofNat (v / 8) := by
  unfold qe_int; rw [h]; rfl
theorem sn_newa {Z : qe_Z} {j pc nx kd : Nat} {ty : FieldType} {a0 : Nat → vp_A} {nt : qe_N dp} (hc : qc_newa (zc Z) (zM Z j) pc nx ty a0) (t0 : Nat) {cA : ClassId} (ht0 : (qe_tys (zE Z))[t0]? = some (cA, ty)) (hty : ∀ n, ty ≠ .object n) (hent : ∀ (N : Nat) (ad : Nat → Nat), qe_ent (zE Z) ad (kd, N, 0) = .inl (cA, a0 N)) (hn : qx_sn Z j nx nt) : qx_sn Z j pc (ql_newa kd nt) := by
  intro k c d hk hcc ls st g outs h
  obtain ⟨v, rest, e1, h1⟩ := qe_hd_ok h
  subst e1
  obtain ⟨hi, h2⟩ := qe_if_ok h1
  simp only [Bool.and_eq_true, Bool.not_eq_true'] at hi
  obtain ⟨⟨i1, i2⟩, i3, i4⟩ := hi
  have hlt : qg_n g < 2 ^ dp := Nat.le_of_ble_eq_true i4
  have hv : v / 8 < 65536 := Nat.le_of_ble_eq_true i3
  obtain ⟨h3, o, ho, hce, hsl⟩ := qe_ge_ok h2
  have hg := hn k c d hk hcc ls _ _ outs h3
  intro p l e R s0 m args below meth c0 A H locs la ad ad0 n0 QC XC hst hdy hfin
  have hro := (hfin o ho).1
  have hr : qg_ce g + 1 ≤ R.cells ∧ qg_sl g + v / 8 ≤ R.slots := ⟨Nat.le_trans hce hro.1, Nat.le_trans hsl hro.2⟩
  have hx : ∀ n i, qe_rb n (qe_get (kd, v / 8, 0).2.2 i) := fun n i h2 => by
    rw [show qe_get (kd, v / 8, 0).2.2 i = 0 from qe_get_zero i] at h2; cases h2
  have ev : qe_v (zE Z) ad v = .int (Int32.ofNat (v / 8)) := by rw [← qe_conc (rho := (zE Z).2.2.2) i2]; exact qe_val_int i1
  have d7 := hdy.2.2.2.2.2.2.1
  rw [List.map_cons, ev]
  obtain ⟨c1, c2⟩ := qe_clamp hv
  refine hc hst.1 hst.2.2.1 hdy.1 hdy.2.1 hdy.2.2.1 hst.2.2.2.2.1 _ (v / 8) c2 c1 (by omega) hr.1 hr.2 (fun q cB H1 pK p1 p2 p3 => ?_)
  have hcB : cB = cA := by
    have g1 := (pK.2 (qe_tys (zE Z)).length (cB, ty) (by rw [List.getElem?_append_right (Nat.le_refl _), Nat.sub_self]; rfl)).2
    have g2 := (hst.2.2.1.2 t0 _ ht0).2
    cases ty with
    | object n => exact absurd rfl (hty n)
    | _ => exact Option.some.inj (g1.symm.trans g2)
  subst hcB
  rw [← hent (v / 8) ad] at p1 p2
  have hs2 : ∀ w ∈ rest, qe_rb (qg_n g) w := fun w hw => d7 w (List.mem_cons_of_mem _ hw)
  have := hg p l e R s0 m args below meth c0 A H1 locs la _ ad0 n0 QC XC hst (qx_dy_mk (N := v / 8) hdy hlt hx p1 p2 p3 hs2 hr) hfin
  rw [qe_mk_st hs2] at this
  exact this
theorem qe_ent_int {E : qe_E} {ad : Nat → Nat} {N x : Nat} : qe_ent E ad (100, N, x) = .inl (E.2.1.1, N, .inl (fun j => qe_int E.2.2.2 (qe_get x j))) := rfl
theorem qe_ent_bool {E : qe_E} {ad : Nat → Nat} {N x : Nat} : qe_ent E ad (101, N, x) = .inl (E.2.1.2.1, N, .inl (fun j => qe_int E.2.2.2 (qe_get x j))) := rfl
theorem qe_ent_long {E : qe_E} {ad : Nat → Nat} {N x : Nat} : qe_ent E ad (102, N, x) = .inl (E.2.1.2.2, N, .inr (.inl (fun j => qe_lng E.2.2.2 (qe_get x j)))) := rfl
theorem qe_z_int {E : qe_E} : (fun j => qe_int E.2.2.2 (qe_get 0 j)) = (fun _ => 0) := funext fun j => by rw [qe_get_zero]; rfl
theorem qe_z_lng {E : qe_E} : (fun j => qe_lng E.2.2.2 (qe_get 0 j)) = (fun _ => 0) := funext fun j => by rw [qe_get_zero]; rfl
theorem sn_newi {Z : qe_Z} {j pc nx : Nat} {nt : qe_N dp} (hc : qc_newa (zc Z) (zM Z j) pc nx .int (fun N => (N, .inl (fun _ => 0)))) (hn : qx_sn Z j nx nt) : qx_sn Z j pc (ql_newa 100 nt) :=
  sn_newa hc 0 (cA := (zE Z).2.1.1) rfl (fun n h => by cases h) (fun N ad => by rw [qe_ent_int, qe_z_int]) hn
theorem sn_newz {Z : qe_Z} {j pc nx : Nat} {nt : qe_N dp} (hc : qc_newa (zc Z) (zM Z j) pc nx .boolean (fun N => (N, .inl (fun _ => 0)))) (hn : qx_sn Z j nx nt) : qx_sn Z j pc (ql_newa 101 nt) :=
  sn_newa hc 1 (cA := (zE Z).2.1.2.1) rfl (fun n h => by cases h) (fun N ad => by rw [qe_ent_bool, qe_z_int]) hn
theorem sn_newl {Z : qe_Z} {j pc nx : Nat} {nt : qe_N dp} (hc : qc_newa (zc Z) (zM Z j) pc nx .long (fun N => (N, .inr (.inl (fun _ => 0))))) (hn : qx_sn Z j nx nt) : qx_sn Z j pc (ql_newa 102 nt) :=
  sn_newa hc 2 (cA := (zE Z).2.1.2.2) rfl (fun n h => by cases h) (fun N ad => by rw [qe_ent_long, qe_z_lng]) hn
theorem sn_alen {Z : qe_Z} {j pc nx : Nat} {nt : qe_N dp} (hc : qc_alen (zc Z) (zM Z j) pc nx) (hn : qx_sn Z j nx nt) : qx_sn Z j pc (ql_alen nt) := by
  intro k c d hk hcc ls st g outs h
  obtain ⟨r, rest, e1, h1⟩ := qe_hd_ok h
  subst e1
  obtain ⟨hi, h2⟩ := qe_if_ok h1
  rw [Bool.and_eq_true] at hi
  obtain ⟨i1, i2⟩ := hi
  have hg := hn k c d hk hcc ls _ g outs h2
  intro p l e R s0 m args below meth c0 A H locs la ad ad0 n0 QC XC hst hdy hfin
  obtain ⟨d1, d2, d3, d4, d5, d6, d7, d8, d9, d10⟩ := hdy
  have hlt := qe_wrf_lt i1 (d7 r List.mem_cons_self)
  have he := qe_ws_get (dp := dp) (E := zE Z) (ad := ad) (t := qg_t g) hlt
  have hk3 : (qe_cl g r).1 = 100 ∨ (qe_cl g r).1 = 101 ∨ (qe_cl g r).1 = 102 := by
    unfold qe_arr at i2
    rw [Bool.and_eq_true] at i2
    have a1 := Nat.le_of_ble_eq_true i2.1
    have a2 := Nat.le_of_ble_eq_true i2.2
    omega
  have ev : qe_v (zE Z) ad (qe_I (qe_cl g r).2.1) = .int (Int32.ofNat (qe_cl g r).2.1) := by rw [← qe_I_int (zE Z).2.2.2]; exact qe_val_int (qe_I_is _)
  have hc2 : qe_rd dp (qg_t g) (r / 8) = ((qe_cl g r).1, (qe_cl g r).2.1, (qe_cl g r).2.2) := rfl
  rw [hc2] at he
  have fin := hg p l e R s0 m args below meth c0 A H locs la ad ad0 n0 QC XC hst ⟨d1, d2, d3, d4, d5, d6, fun v hv => by
    rcases List.mem_cons.mp hv with q | q
    · rw [q]; exact qe_rb_int (qe_I_is _)
    · exact d7 v (List.mem_cons_of_mem _ q), d8, d9, d10⟩ hfin
  rw [List.map_cons, ev] at fin
  rw [List.map_cons, qe_wrf_val i1]
  rcases hk3 with q | q | q
  · rw [q, qe_ent_int] at he
    exact hc (A := A) (H0 := H) hst.1 hst.2.2.1 d1 _ 0 _ _ _ .int he rfl fin
  · rw [q, qe_ent_bool] at he
    exact hc (A := A) (H0 := H) hst.1 hst.2.2.1 d1 _ 1 _ _ _ .boolean he rfl fin
  · rw [q, qe_ent_long] at he
    exact hc (A := A) (H0 := H) hst.1 hst.2.2.1 d1 _ 2 _ _ _ .long he rfl fin
theorem qe_cnc_ok {rho : Nat → Int32} {cx : qe_Cx} {v ii : Nat} (hc : qe_cok rho cx) (h : qe_cnc cx v = some ii) : qe_is 0 v = true ∧ qe_int rho v = Int32.ofNat ii := by
  unfold qe_cnc at h
  obtain ⟨h1, h2⟩ := qe_if_ok h
  refine ⟨h1, ?_⟩
  cases hs : qe_sym v
  · rw [hs] at h2
    obtain ⟨h3, h4⟩ := qe_if_ok (show cond (Nat.blt (Nat.div v 8) 2147483648) (some (Nat.div v 8)) none = some ii from h2)
    rw [qe_conc hs]
    have : v / 8 = ii := Option.some.inj h4
    rw [this]
  · rw [hs] at h2
    obtain ⟨h3, h4⟩ := qe_if_ok (show cond (Nat.beq (qe_rng (Nat.div v 8) cx).1 (qe_rng (Nat.div v 8) cx).2 && Nat.ble 2147483648 (qe_rng (Nat.div v 8) cx).1) (some (Nat.sub (qe_rng (Nat.div v 8) cx).1 2147483648)) none = some ii from h2)
    rw [Bool.and_eq_true] at h3
    have a1 := Nat.eq_of_beq_eq_true h3.1
    have a2 := Nat.le_of_ble_eq_true h3.2
    obtain ⟨b1, b2⟩ := hc (v / 8)
    have e : qe_int rho v = rho (v / 8) := by unfold qe_int; rw [hs]; rfl
    have a3 : (qe_rng (v / 8) cx).1 - 2147483648 = ii := Option.some.inj h4
    have a1' : (qe_rng (v / 8) cx).1 = (qe_rng (v / 8) cx).2 := a1
    have a2' : 2147483648 ≤ (qe_rng (v / 8) cx).1 := a2
    have b3 := qe_so_lt (rho (v / 8))
    rw [e, qe_so_inj, qe_so_of]
    show _ = (ii + 2147483648) % 4294967296
    omega
theorem sn_ald {Z : qe_Z} {j pc nx kd t0 : Nat} {ty : FieldType} {cA : ClassId} {nt : qe_N dp} (ht0 : (qe_tys (zE Z))[t0]? = some (cA, ty)) (hent : ∀ (N x : Nat) (ad : Nat → Nat), qe_ent (zE Z) ad (kd, N, x) = .inl (cA, N, .inl (fun j => qe_int (zE Z).2.2.2 (qe_get x j))))
    (hc : ∀ {p : Program} {l : Launch} {e : Env} {R : Room} {s : State} {m : MethodId} {args : Array Value} {below : List Frame} {meth : Method} {c : Code} {H : Heap} {locs : List Loc} {cells slots : Nat} {Q : State → Prop} {la : Array Slot} {rest : List Value} {ws : va_W}, qe_bd (zM Z j) p l s m args meth c → va_K (zE Z).1 (zc Z) (qe_tys (zE Z)) s → va_P (zE Z).1 (zc Z) ws H → ∀ (q0 a n : Nat) (f : Nat → Int32) (i : Int32), ws[q0]? = some (a, .inl (cA, n, .inl f)) → vp_in i n → W p l e R s m args below meth c H locs cells slots Q (F0 m nx la (.int (f i.toNatClampNeg) :: rest)) → W p l e R s m args below meth c H locs cells slots Q (F0 m pc la (.int i :: .ref a :: rest)))
    (hn : qx_sn Z j nx nt) : qx_sn Z j pc (ql_ald kd nt) := by
  intro k c d hk hcc ls st g outs h
  obtain ⟨i, r1, e1, h1⟩ := qe_hd_ok h
  obtain ⟨r, rest, e2, h1b⟩ := qe_hd_ok h1
  subst e2; subst e1
  obtain ⟨ii, hii, h1c⟩ := qe_bind_ok h1b
  obtain ⟨hi, h2⟩ := qe_if_ok h1c
  simp only [Bool.and_eq_true] at hi
  obtain ⟨⟨i1, i2⟩, i3, i4, i5⟩ := hi
  have hg := hn k c d hk hcc ls _ g outs h2
  intro p l e R s0 m args below meth c0 A H locs la ad ad0 n0 QC XC hst hdy hfin
  obtain ⟨d1, d2, d3, d4, d5, d6, d7, d8, d9, d10⟩ := hdy
  have hlt := qe_wrf_lt i1 (d7 r (List.mem_cons_of_mem _ List.mem_cons_self))
  have he := qe_ws_get (dp := dp) (E := zE Z) (ad := ad) (t := qg_t g) hlt
  have k1 : (qe_cl g r).1 = kd := Nat.eq_of_beq_eq_true i2
  have k2 : ii < (qe_cl g r).2.1 := Nat.le_of_ble_eq_true i3
  have k3 : ii < 65536 := Nat.le_of_ble_eq_true i4
  have hc2 : qe_rd dp (qg_t g) (r / 8) = (kd, (qe_cl g r).2.1, (qe_cl g r).2.2) := by rw [← k1]; rfl
  rw [hc2, hent] at he
  obtain ⟨j1, j2⟩ := qe_cnc_ok d8 hii
  have ei : qe_v (zE Z) ad i = .int (Int32.ofNat ii) := by rw [← j2]; exact qe_val_int j1
  have ev : qe_v (zE Z) ad (qe_get (qe_cl g r).2.2 ii) = .int (qe_int (zE Z).2.2.2 (qe_get (qe_cl g r).2.2 ii)) := qe_val_int i5
  have fin := hg p l e R s0 m args below meth c0 A H locs la ad ad0 n0 QC XC hst ⟨d1, d2, d3, d4, d5, d6, fun v hv => by
    rcases List.mem_cons.mp hv with q | q
    · rw [q]; exact qe_rb_int i5
    · exact d7 v (List.mem_cons_of_mem _ (List.mem_cons_of_mem _ q)), d8, d9, d10⟩ hfin
  rw [List.map_cons, ev] at fin
  rw [List.map_cons, List.map_cons, qe_wrf_val i1, ei]
  refine hc hst.1 hst.2.2.1 d1 _ _ _ _ _ he (qe_vin k3 k2) ?_
  rw [(qe_clamp k3).1]
  exact fin
theorem sn_iald {Z : qe_Z} {j pc nx : Nat} {nt : qe_N dp} (hc : qc_iald (zc Z) (zM Z j) pc nx) (hn : qx_sn Z j nx nt) : qx_sn Z j pc (ql_ald 100 nt) :=
  sn_ald (t0 := 0) (ty := .int) (cA := (zE Z).2.1.1) rfl (fun N x ad => qe_ent_int) (fun hB hK hP q0 a n f i ha hi kk => hc (A := fun _ => True) (H0 := #[]) hB hK hP q0 0 a n _ f i ha rfl hi kk) hn
theorem sn_zald {Z : qe_Z} {j pc nx : Nat} {nt : qe_N dp} (hc : qc_zald (zc Z) (zM Z j) pc nx) (hn : qx_sn Z j nx nt) : qx_sn Z j pc (ql_ald 101 nt) :=
  sn_ald (t0 := 1) (ty := .boolean) (cA := (zE Z).2.1.2.1) rfl (fun N x ad => qe_ent_bool) (fun hB hK hP q0 a n f i ha hi kk => hc (A := fun _ => True) (H0 := #[]) hB hK hP q0 1 a n _ f i ha rfl hi kk) hn
theorem qe_lz_ok {rho : Nat → Int32} {v : Nat} (h : qe_is 1 (qe_lz v) = true) : qe_lng rho (qe_lz v) = qe_lng rho v := by
  unfold qe_lz at h ⊢
  cases h1 : qe_is 1 v
  · rw [h1] at h
    cases h2 : Nat.beq v 0
    · rw [h2] at h
      exact absurd (show qe_is 1 7 = true from h) (by decide)
    · rw [Nat.eq_of_beq_eq_true h2]; rfl
  · rfl
theorem sn_lald {Z : qe_Z} {j pc nx : Nat} {nt : qe_N dp} (hc : qc_lald (zc Z) (zM Z j) pc nx) (hn : qx_sn Z j nx nt) : qx_sn Z j pc (ql_lald nt) := by
  intro k c d hk hcc ls st g outs h
  obtain ⟨i, r1, e1, h1⟩ := qe_hd_ok h
  obtain ⟨r, rest, e2, h1b⟩ := qe_hd_ok h1
  subst e2; subst e1
  obtain ⟨ii, hii, h1c⟩ := qe_bind_ok h1b
  obtain ⟨hi, h2⟩ := qe_if_ok h1c
  simp only [Bool.and_eq_true] at hi
  obtain ⟨⟨i1, i2⟩, i3, i4, i5⟩ := hi
  have hg := hn k c d hk hcc ls _ g outs h2
  intro p l e R s0 m args below meth c0 A H locs la ad ad0 n0 QC XC hst hdy hfin
  obtain ⟨d1, d2, d3, d4, d5, d6, d7, d8, d9, d10⟩ := hdy
  have hlt := qe_wrf_lt i1 (d7 r (List.mem_cons_of_mem _ List.mem_cons_self))
  have he := qe_ws_get (dp := dp) (E := zE Z) (ad := ad) (t := qg_t g) hlt
  have k1 : (qe_cl g r).1 = 102 := Nat.eq_of_beq_eq_true i2
  have k2 : ii < (qe_cl g r).2.1 := Nat.le_of_ble_eq_true i3
  have k3 : ii < 65536 := Nat.le_of_ble_eq_true i4
  have hc2 : qe_rd dp (qg_t g) (r / 8) = (102, (qe_cl g r).2.1, (qe_cl g r).2.2) := by rw [← k1]; rfl
  rw [hc2, qe_ent_long] at he
  obtain ⟨j1, j2⟩ := qe_cnc_ok d8 hii
  have ei : qe_v (zE Z) ad i = .int (Int32.ofNat ii) := by rw [← j2]; exact qe_val_int j1
  have ev : qe_v (zE Z) ad (qe_lz (qe_get (qe_cl g r).2.2 ii)) = .long (qe_lng (zE Z).2.2.2 (qe_get (qe_cl g r).2.2 ii)) := by rw [← qe_lz_ok i5]; exact qe_val_lng i5
  have fin := hg p l e R s0 m args below meth c0 A H locs la ad ad0 n0 QC XC hst ⟨d1, d2, d3, d4, d5, d6, fun v hv => by
    rcases List.mem_cons.mp hv with q | q
    · rw [q]; exact qe_rb_lng i5
    · exact d7 v (List.mem_cons_of_mem _ (List.mem_cons_of_mem _ q)), d8, d9, d10⟩ hfin
  rw [List.map_cons, ev] at fin
  rw [List.map_cons, List.map_cons, qe_wrf_val i1, ei]
  refine hc (A := fun _ => True) (H0 := #[]) hst.1 hst.2.2.1 d1 _ 2 _ _ _ _ _ he rfl (qe_vin k3 k2) ?_
  rw [(qe_clamp k3).1]
  exact fin
end QEO
