/-! THE START, the rest 3: made by wip/engine/gen35.py -/
theorem qs_u0 : ∀ w ∈ u_ws RJ0 TJ0 2, w ∈ qw_G := qw_all [930, 932] (by decide +kernel) (by decide +kernel)
theorem qs_i0 : Cond.instantiable RJ0 4 ∈ lw_tbl := List.mem_of_getElem? (i := 929) (by decide +kernel)
theorem qs_u1 : ∀ w ∈ u_ws RJx00060 TJx00060 6, w ∈ qw_G := qw_all [918, 919, 920, 921, 922, 923] (by decide +kernel) (by decide +kernel)
theorem qs_i1 : Cond.instantiable RJx00060 6 ∈ lw_tbl := List.mem_of_getElem? (i := 911) (by decide +kernel)
theorem qs_u2 : ∀ w ∈ u_ws RX0 TX0 9, w ∈ qw_G := qu_2
theorem qs_i2 : Cond.instantiable RX0 9 ∈ lw_tbl := List.mem_of_getElem? (i := 202) (by decide +kernel)
theorem qs_u3 : ∀ w ∈ u_ws RX1 TX1 13, w ∈ qw_G := qu_3
theorem qs_i3 : Cond.instantiable RX1 13 ∈ lw_tbl := List.mem_of_getElem? (i := 255) (by decide +kernel)
theorem qs_u4 : ∀ w ∈ u_ws RX2 TX2 7, w ∈ qw_G := qu_4
theorem qs_i4 : Cond.instantiable RX2 7 ∈ lw_tbl := List.mem_of_getElem? (i := 159) (by decide +kernel)
theorem qs_u5 : ∀ w ∈ u_ws RX3 TX3 5, w ∈ qw_G := qu_5
theorem qs_i5 : Cond.instantiable RX3 5 ∈ lw_tbl := List.mem_of_getElem? (i := 439) (by decide +kernel)
theorem qs_u6 : ∀ w ∈ u_ws RX4 TX4 2, w ∈ qw_G := qu_6
theorem qs_i6 : Cond.instantiable RX4 2 ∈ lw_tbl := List.mem_of_getElem? (i := 240) (by decide +kernel)
theorem qs_u7 : ∀ w ∈ u_ws RX5 TX5 9, w ∈ qw_G := qu_7
theorem qs_i7 : Cond.instantiable RX5 9 ∈ lw_tbl := List.mem_of_getElem? (i := 399) (by decide +kernel)
theorem qs_u8 : ∀ w ∈ u_ws RX6 TX6 4, w ∈ qw_G := qu_8
theorem qs_i8 : Cond.instantiable RX6 4 ∈ lw_tbl := List.mem_of_getElem? (i := 311) (by decide +kernel)
theorem qs_u9 : ∀ w ∈ u_ws RX7 TX7 14, w ∈ qw_G := qu_9
theorem qs_i9 : Cond.instantiable RX7 14 ∈ lw_tbl := List.mem_of_getElem? (i := 333) (by decide +kernel)
theorem qs_u10 : ∀ w ∈ u_ws RX8 TX8 2, w ∈ qw_G := qu_10
theorem qs_i10 : Cond.instantiable RX8 2 ∈ lw_tbl := List.mem_of_getElem? (i := 138) (by decide +kernel)
theorem qs_u11 : ∀ w ∈ u_ws RX9 TX9 13, w ∈ qw_G := qu_11
theorem qs_i11 : Cond.instantiable RX9 13 ∈ lw_tbl := List.mem_of_getElem? (i := 130) (by decide +kernel)
theorem qs_u12 : ∀ w ∈ u_ws RX10 TX10 36, w ∈ qw_G := qu_12
theorem qs_i12 : Cond.instantiable RX10 36 ∈ lw_tbl := List.mem_of_getElem? (i := 1344) (by decide +kernel)
theorem qs_a_int : Cond.arrayClass .int ∈ lw_tbl := List.mem_of_getElem? (i := 157) (by decide +kernel)
theorem qs_a_bool : Cond.arrayClass .boolean ∈ lw_tbl := List.mem_of_getElem? (i := 1642) (by decide +kernel)
theorem qs_a_long : Cond.arrayClass .long ∈ lw_tbl := List.mem_of_getElem? (i := 1863) (by decide +kernel)
theorem qs_K {s : State} {b : Nat} (hts : ∀ w ∈ lw_tbl, w.before #[Value.ref b] s = true) (ext : Nat → Nat) (rho : Nat → Int32) : ∃ E : qe_E, E.2.2.1 = ext ∧ E.2.2.2 = rho ∧ va_K E.1 vwCl (qe_tys E) s := by
  have hG : ∀ w ∈ qw_G, w.before #[Value.ref b] s = true := fun w hw => hts w (List.mem_filter.mp hw).1
  obtain ⟨dC, dI, hK⟩ := qs_cls vwCl (List.forall_mem_cons.mpr ⟨u_known (T := TJ0) hG qs_u0 (hts _ qs_i0), List.forall_mem_cons.mpr ⟨u_known (T := TJx00060) hG qs_u1 (hts _ qs_i1), List.forall_mem_cons.mpr ⟨u_known (T := TX0) hG qs_u2 (hts _ qs_i2), List.forall_mem_cons.mpr ⟨u_known (T := TX1) hG qs_u3 (hts _ qs_i3), List.forall_mem_cons.mpr ⟨u_known (T := TX2) hG qs_u4 (hts _ qs_i4), List.forall_mem_cons.mpr ⟨u_known (T := TX3) hG qs_u5 (hts _ qs_i5), List.forall_mem_cons.mpr ⟨u_known (T := TX4) hG qs_u6 (hts _ qs_i6), List.forall_mem_cons.mpr ⟨u_known (T := TX5) hG qs_u7 (hts _ qs_i7), List.forall_mem_cons.mpr ⟨u_known (T := TX6) hG qs_u8 (hts _ qs_i8), List.forall_mem_cons.mpr ⟨u_known (T := TX7) hG qs_u9 (hts _ qs_i9), List.forall_mem_cons.mpr ⟨u_known (T := TX8) hG qs_u10 (hts _ qs_i10), List.forall_mem_cons.mpr ⟨u_known (T := TX9) hG qs_u11 (hts _ qs_i11), List.forall_mem_cons.mpr ⟨u_known (T := TX10) hG qs_u12 (hts _ qs_i12), fun q hq => absurd hq List.not_mem_nil⟩⟩⟩⟩⟩⟩⟩⟩⟩⟩⟩⟩⟩)
  obtain ⟨c1, h1, g1⟩ := qs_arr (fun C h => (by cases h)) (hts _ qs_a_int)
  obtain ⟨c2, h2, g2⟩ := qs_arr (fun C h => (by cases h)) (hts _ qs_a_bool)
  obtain ⟨c3, h3, g3⟩ := qs_arr (fun C h => (by cases h)) (hts _ qs_a_long)
  refine ⟨((dC, dI), (c1, c2, c3), ext, rho), rfl, rfl, hK, fun k q hq => ?_⟩
  match k, hq with
  | 0, hq => cases hq; exact ⟨h1, g1⟩
  | 1, hq => cases hq; exact ⟨h2, g2⟩
  | 2, hq => cases hq; exact ⟨h3, g3⟩
  | k + 3, hq => simp [qe_tys] at hq
