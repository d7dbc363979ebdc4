/-! THE LAW, BY HAND, 2: one turn of its loop; made by wip/engine/gen41.py -/
section QLI
variable {dp : Nat}
noncomputable def qo_3 (o : qe_O dp) : qe_O dp := ([], 1, 0, qo_n o, qo_t o, 0, 0)
theorem lw_con {E : qe_E} {L : Nat} {df : qe_Df} (hd : qe_dok E.2.2.2 df) {d2 jj n : Nat} {as : List Nat} {t : qe_T dp} {outs : List (qe_O dp)} (hmb : qx_mb (qZ E L) jj) (f : qe_run (qd_P df L) 1000000 d2 jj 0 (qe_lcl as 0 qe_ls0) [] (n, t, [], 0, 0) = some outs) : qx_con (qZ E L) d2 jj as n t [] outs := by
  have h := tq_main hd 1000000 d2 jj 0 _ [] _ outs f
  rw [tq_0] at h
  exact qx_entry hmb h
theorem lw_vI (E : qe_E) (ad : Nat → Nat) (a : Nat) : qe_v E ad (qe_I a) = .int (Int32.ofNat a) := by
  rw [← qe_I_int E.2.2.2 a]; exact qe_val_int (qe_I_is a)
theorem lw_so {i : Nat} (h : i < 2147483648) : qe_so (Int32.ofNat i) = i + 2147483648 := by
  rw [qe_so_of]
  show (i + 2147483648) % 4294967296 = i + 2147483648
  omega
theorem lw_sub3 {L : Nat} (h3 : 3 ≤ L) : qe_sem 11 (Int32.ofNat L) (Int32.ofNat 3) = Int32.ofNat (L - 3) := by
  obtain ⟨k, rfl⟩ : ∃ k, L = k + 3 := ⟨L - 3, by omega⟩
  show Int32.ofNat (k + 3) - Int32.ofNat 3 = Int32.ofNat (k + 3 - 3)
  rw [Int32.ofNat_add, Nat.add_sub_cancel]
  exact Int32.add_sub_cancel _ _
theorem lw_br0 : qe_br 4 0 = false := by decide
theorem lw_br1 : qe_br 4 1 = false := by decide
theorem lw_br2 : qe_br 4 2 = true := by decide
theorem lw_gt {i L : Nat} (h : i + 3 ≤ L) (hL : L < 32768) : cond (qe_br 4 (qe_c3 (qe_so (Int32.ofNat i)) (qe_so (qe_sem 11 (Int32.ofNat L) (Int32.ofNat 3))))) 1004 (29 + 3) = 32 := by
  rw [lw_sub3 (by omega), lw_so (by omega), lw_so (by omega)]
  rcases Nat.lt_or_ge i (L - 3) with q | q
  · rw [qe_c3_lt (by omega), lw_br0]; rfl
  · rw [qe_c3_eq (by omega), lw_br1]; rfl
theorem lw_le {i L : Nat} (h : L < i + 3) (h3 : 3 ≤ L) (hi : i < 32768) : cond (qe_br 4 (qe_c3 (qe_so (Int32.ofNat i)) (qe_so (qe_sem 11 (Int32.ofNat L) (Int32.ofNat 3))))) 1004 (29 + 3) = 1004 := by
  rw [lw_sub3 h3, lw_so (by omega), lw_so (by omega), qe_c3_gt (by omega), lw_br2]
  rfl
theorem lw_ad1 (i k : Nat) : qe_sem 10 (Int32.ofNat i) (Int32.ofNat k) = Int32.ofNat (i + k) := by
  rw [qe_sem_op]
  show Int32.ofNat (qe_m (i + k)) = _
  rw [qe_ofm]
theorem lw_cmp (x : Int64) : lg_cmp x x = 0 := by
  unfold lg_cmp
  rw [if_neg (fun h => absurd (Int64.lt_iff_toInt_lt.mp h) (Int.lt_irrefl _)), if_pos rfl]
/-- what holds of a cell of the world: an object of kind ci -/
theorem lw_rc {E : qe_E} {L ci N k n : Nat} {t : qe_T dp} {ad : Nat → Nat} {gs : va_W} {H : Heap} {s : State} {C : String} {T : u_T} {As : List Value} (hK : va_K E.1 vwCl (qe_tys E) s) (hP : va_P E.1 vwCl (qe_ws dp E ad n t ++ gs) H) (hk : k < n) (h1 : (qe_rd dp t k).1 = ci) (h100 : ci < 100) (hc : vwCl[ci]? = some (C, T, N)) : qx_rc (qZ E L) (ci + 1) (.ref (ad k) :: As) H s := by
  have he := qe_ws_get (dp := dp) (E := E) (ad := ad) (t := t) hk
  rw [qe_ent_obj (show Nat.blt (qe_rd dp t k).1 100 = true from Nat.ble_eq_true_of_le (by rw [h1]; exact h100)), h1] at he
  exact Or.inr ⟨ad k, As, (C, T, N), rfl, hc, va_recv hK (lz_P_l hP) hc he⟩

set_option maxHeartbeats 2000000 in
theorem lw_it_append {E : qe_E} {L i a : Nat} {df : qe_Df} (hd : qe_dok E.2.2.2 df) {p : Program} {l : Launch} {e : Env} {R : Room} {s : State} {m : MethodId} {args : Array Value} {below : List Frame} {meth : Method} {c : Code} {H : Heap} {locs : List Loc} {cells slots : Nat} {Q : State → Prop} {la : Array Slot} {A : Nat → Prop} {ad : Nat → Nat} {gs : va_W} {n : Nat} {t : qe_T dp} {o1 o2 o3 : qe_O dp}
    (hB : qe_bd qB_L_law p l s m args meth c) (hK : va_K E.1 vwCl (qe_tys E) s) (hX : zX (qZ E L) A s s.heap) (hA : ∀ q, s.heap.size ≤ q → A q) (hf : 51 ≤ R.frames) (hlo : 2100 ≤ R.locals)
    (hP : va_P E.1 vwCl (qe_ws dp E ad n t ++ gs) H) (hD : va_D A (qe_ws dp E ad n t ++ gs)) (hS : va_S A s.heap H locs) (hwi : qe_wi dp n t) (hn : 70 ≤ n)
    (hl : lv_has la 8 [(0, .ref (E.2.2.1 0)), (1, .ref (ad 0)), (2, .ref (ad 52)), (3, .ref (ad 69)), (4, .int (Int32.ofNat i))]) (hi : i + 3 ≤ L) (hL : L < 32768)
    (hs0 : E.2.2.2 i = Int32.ofNat 0) (hs1 : E.2.2.2 (i + 1) = Int32.ofNat a) (ha : a < 4294967296)
    (f1 : qe_run (qd_P df L) 1000000 30 225 0 (qe_lcl [2, qe_I a, 554] 0 qe_ls0) [] (n, t, [], 0, 0) = some [o1]) (k1 : qo_k o1 = 1) (v1 : qo_v o1 = 0) (n1 : 70 ≤ qo_n o1) (r1 : (qe_rd dp (qo_t o1) 52).1 = 12)
    (f2 : qe_run (qd_P df L) 1000000 30 53 0 (qe_lcl [418, qe_I a] 0 qe_ls0) [] (qo_n o1, qo_t o1, [], 0, 0) = some [o2]) (k2 : qo_k o2 = 1) (v2 : qe_is 0 (qo_v o2) = true) (n2 : 70 ≤ qo_n o2) (r2 : (qe_rd dp (qo_t o2) 52).1 = 12)
    (f3 : qo_3 o2 = o3) (k3 : qo_k o3 = 1) (v3 : qo_v o3 = 0) (n3 : 70 ≤ qo_n o3)
    (r3 : (qe_rd dp (qo_t o3) 69).1 = 102) (r4 : (qe_rd dp (qo_t o3) 69).2.1 = 1) (r5 : qe_lng E.2.2.2 (qe_get (qe_rd dp (qo_t o3) 69).2.2 0) = (qe_int E.2.2.2 (qo_v o2)).toInt64)
    (hc1 : cells + (qo_ce o1 + (qo_ce o2 + qo_ce o3)) ≤ R.cells) (hc2 : slots + (qo_sl o1 + (qo_sl o2 + qo_sl o3)) ≤ R.slots)
    (kk : ∀ (ad2 : Nat → Nat) (H2 : Heap) (locs2 : List Loc) (la2 : Array Slot), va_P E.1 vwCl (qe_ws dp E ad2 (qo_n o3) (qo_t o3) ++ gs) H2 → va_D A (qe_ws dp E ad2 (qo_n o3) (qo_t o3) ++ gs) → va_S A s.heap H2 locs2 → qe_wi dp (qo_n o3) (qo_t o3) → lv_has la2 8 [(0, .ref (E.2.2.1 0)), (1, .ref (ad2 0)), (2, .ref (ad2 52)), (3, .ref (ad2 69)), (4, .int (Int32.ofNat (i + 3)))] →
      W p l e R s m args below meth c H2 locs2 (cells + (qo_ce o1 + (qo_ce o2 + qo_ce o3))) (slots + (qo_sl o1 + (qo_sl o2 + qo_sl o3))) Q (F0 m 23 la2 [])) :
    W p l e R s m args below meth c H locs cells slots Q (F0 m 23 la []) := by
  have hBz : qe_bd (zM (qZ E L) 249) p l s m args meth c := hB
  have hz := qZ_ok E L
  have hml : c.maxLocals = 8 := hB.2.2.1
  refine @qk_iload qB_L_law 23 4 eL_law_23 p l e R s m args below meth c H locs cells slots Q la [] hB _ (lv_at hl 4 rfl) ⟨_, rfl⟩ ?_
  refine @qk_aload_n qB_L_law 25 0 0 eL_law_25 rfl p l e R s m args below meth c H locs cells slots Q la _ hB _ (lv_at hl 0 rfl) ⟨_, rfl⟩ ?_
  refine @qk_xlen (qZ E L) qw_Os L 249 26 (qZ_X E L) eL_law_26 p l e R s m args below meth c H locs cells slots la _ Q hBz A hX hS ?_
  refine @qk_iconst qB_L_law 27 3 (Int32.ofNat 3) eL_law_27 (by decide) p l e R s m args below meth c H locs cells slots Q la _ hB ?_
  refine @qk_isub qB_L_law 28 eL_law_28 _ _ p l e R s m args below meth c H locs cells slots Q la _ hB ?_
  refine @qk_ic_gt qB_L_law 29 1004 _ eL_law_29 (by decide) p l e R s m args below meth c H locs cells slots Q la _ hB _ _ ?_
  rw [lw_gt hi hL]
  refine @qk_aload_n qB_L_law 32 0 0 eL_law_32 rfl p l e R s m args below meth c H locs cells slots Q la _ hB _ (lv_at hl 0 rfl) ⟨_, rfl⟩ ?_
  refine @qk_iload qB_L_law 33 4 eL_law_33 p l e R s m args below meth c H locs cells slots Q la _ hB _ (lv_at hl 4 rfl) ⟨_, rfl⟩ ?_
  refine @qk_xld (qZ E L) qw_Os L 249 35 (qZ_X E L) eL_law_35 p l e R s m args below meth c H locs cells slots la _ Q hBz A hX hS i (by omega) (by omega) ?_
  rw [show (zE (qZ E L)).2.2.2 i = Int32.ofNat 0 from hs0]
  refine @qk_bipush qB_L_law 36 31 (Int32.ofNat 31) eL_law_36 (by decide) p l e R s m args below meth c H locs cells slots Q la _ hB ?_
  refine @qk_iand qB_L_law 38 eL_law_38 _ _ p l e R s m args below meth c H locs cells slots Q la _ hB ?_
  refine @qk_sw qB_L_law 39 998 _ _ 0 _ _ [172, 200, 213, 241, 269, 309, 349, 377, 393, 406, 446, 486, 526, 554, 582, 610, 638, 666, 694, 722, 735, 763, 776, 801, 829, 857, 885, 901, 941, 954] eL_law_39 (by decide +kernel) (by decide +kernel) (by decide +kernel) p l e R s m args below meth c H locs cells slots Q la _ hB _ (fun hq => absurd hq (by decide +kernel)) (fun i9 tgt9 h1 h2 => ?_)
  have hi9 : i9 = 0 := by
    have e9 : (qe_sem 13 (Int32.ofNat 0) (Int32.ofNat 31)).toInt = 0 := by decide +kernel
    rw [e9] at h2
    omega
  subst hi9
  obtain rfl : 172 = tgt9 := Option.some.inj h1
  refine @qk_aload_n qB_L_law 172 1 1 eL_law_172 rfl p l e R s m args below meth c H locs cells slots Q la _ hB _ (lv_at hl 1 rfl) ⟨_, rfl⟩ ?_
  refine @qk_aload_n qB_L_law 173 0 0 eL_law_173 rfl p l e R s m args below meth c H locs cells slots Q la _ hB _ (lv_at hl 0 rfl) ⟨_, rfl⟩ ?_
  refine @qk_iload qB_L_law 174 4 eL_law_174 p l e R s m args below meth c H locs cells slots Q la _ hB _ (lv_at hl 4 rfl) ⟨_, rfl⟩ ?_
  refine @qk_iconst qB_L_law 176 1 (Int32.ofNat 1) eL_law_176 (by decide) p l e R s m args below meth c H locs cells slots Q la _ hB ?_
  refine @qk_iadd qB_L_law 177 eL_law_177 _ _ p l e R s m args below meth c H locs cells slots Q la _ hB ?_
  rw [lw_ad1]
  refine @qk_xld (qZ E L) qw_Os L 249 178 (qZ_X E L) eL_law_178 p l e R s m args below meth c H locs cells slots la _ Q hBz A hX hS (i + 1) (by omega) (by omega) ?_
  rw [show (zE (qZ E L)).2.2.2 (i + 1) = Int32.ofNat a from hs1]
  refine @qk_aload_n qB_L_law 179 3 3 eL_law_179 rfl p l e R s m args below meth c H locs cells slots Q la _ hB _ (lv_at hl 3 rfl) ⟨_, rfl⟩ ?_
  have hx1 : ([Value.ref (ad 69), .int (Int32.ofNat a), .ref (ad 0)] : List Value) = ([2, qe_I a, 554].map (qe_v (zE (qZ E L)) ad)).reverse ++ [] := by
    rw [List.append_nil, List.map_cons, List.map_cons, List.map_cons, List.map_nil, lw_vI]
    rfl
  show W p l e R s m args below meth c H locs cells slots Q (F0 m 180 la [Value.ref (ad 69), .int (Int32.ofNat a), .ref (ad 0)])
  rw [hx1]
  have has : ∀ v ∈ ([2, qe_I a, 554] : List Nat), qe_rb n v ∧ v < 4722366482869645213696 ∧ v ≠ 7 := by
    refine List.forall_mem_cons.mpr ⟨⟨qe_rb_R (n := n) (k := 0) (by omega), by decide, by decide⟩, List.forall_mem_cons.mpr ⟨⟨qe_rb_int (qe_I_is a), by show 8 * a < _; omega, by show 8 * a ≠ 7; omega⟩, List.forall_mem_cons.mpr ⟨⟨qe_rb_R (n := n) (k := 69) (by omega), by decide, by decide⟩, fun v h => absurd h List.not_mem_nil⟩⟩⟩
  have hx2 : ∀ ad9 : Nat → Nat, (lg_sl (([2, qe_I a, 554] : List Nat).map (qe_v (zE (qZ E L)) ad9))).length = 3 := fun ad9 => by
    rw [List.map_cons, List.map_cons, List.map_cons, List.map_nil, lw_vI]; rfl
  refine lw_call (Z := qZ E L) (j := 249) (nx := 183) (d2 := 30) (ad := ad) (n := n) (t := t) (gs := gs) (A := A) hz (Nat.le_of_ble_eq_true rfl) (qn_invSX (Z := qZ E L) (j := 249) (rc := 0) (y := yL_append) (hM_L_law E L) (hM_L_append E L) (qi_L_law) rfl eL_law_180 qv_447 qv_449 qv_448 qv_446 qh_L_append) (lw_con hd (qmb_L_append E L) f1) k1 hBz hK hX hA hP hD hS hwi has (by rw [hx2]; exact Nat.le_of_ble_eq_true rfl) (Or.inl rfl) rfl (hl.1.trans hml.symm) (Nat.le_of_ble_eq_true rfl) (by omega) (by omega) ⟨by omega, by omega⟩ (fun ad1 H1 locs1 x1 w1 p1 d1 s1 => ?_)
  have hl1 : lv_has la 8 [(0, .ref (E.2.2.1 0)), (1, .ref (ad1 0)), (2, .ref (ad1 52)), (3, .ref (ad1 69)), (4, .int (Int32.ofNat i))] := by
    rw [x1.2 0 (by omega), x1.2 52 (by omega), x1.2 69 (by omega)]; exact hl
  rw [v1, show qe_v (zE (qZ E L)) ad1 0 = .int (Int32.ofNat 0) from rfl]
  refine @qk_istore qB_L_law 183 5 eL_law_183 p l e R s m args below meth c H1 locs1 _ _ Q la _ hB _ 8 _ ⟨_, rfl⟩ hl1 (by decide) (fun la3 hl3 => ?_)
  have hl3 : lv_has la3 8 [(5, .int (Int32.ofNat 0)), (0, .ref (E.2.2.1 0)), (1, .ref (ad1 0)), (2, .ref (ad1 52)), (3, .ref (ad1 69)), (4, .int (Int32.ofNat i))] := hl3
  refine @qk_aload_n qB_L_law 185 2 2 eL_law_185 rfl p l e R s m args below meth c H1 locs1 _ _ Q la3 _ hB _ (lv_at hl3 3 rfl) ⟨_, rfl⟩ ?_
  refine @qk_aload_n qB_L_law 186 0 0 eL_law_186 rfl p l e R s m args below meth c H1 locs1 _ _ Q la3 _ hB _ (lv_at hl3 1 rfl) ⟨_, rfl⟩ ?_
  refine @qk_iload qB_L_law 187 4 eL_law_187 p l e R s m args below meth c H1 locs1 _ _ Q la3 _ hB _ (lv_at hl3 5 rfl) ⟨_, rfl⟩ ?_
  refine @qk_iconst qB_L_law 189 1 (Int32.ofNat 1) eL_law_189 (by decide) p l e R s m args below meth c H1 locs1 _ _ Q la3 _ hB ?_
  refine @qk_iadd qB_L_law 190 eL_law_190 _ _ p l e R s m args below meth c H1 locs1 _ _ Q la3 _ hB ?_
  rw [lw_ad1]
  refine @qk_xld (qZ E L) qw_Os L 249 191 (qZ_X E L) eL_law_191 p l e R s m args below meth c H1 locs1 _ _ la3 _ Q hBz A hX s1 (i + 1) (by omega) (by omega) ?_
  rw [show (zE (qZ E L)).2.2.2 (i + 1) = Int32.ofNat a from hs1]
  have hy1 : ([Value.int (Int32.ofNat a), .ref (ad1 52)] : List Value) = ([418, qe_I a].map (qe_v (zE (qZ E L)) ad1)).reverse ++ [] := by
    rw [List.append_nil, List.map_cons, List.map_cons, List.map_nil, lw_vI]
    rfl
  show W p l e R s m args below meth c H1 locs1 (cells + qo_ce o1) (slots + qo_sl o1) Q (F0 m 192 la3 [Value.int (Int32.ofNat a), .ref (ad1 52)])
  rw [hy1]
  have has2 : ∀ v ∈ ([418, qe_I a] : List Nat), qe_rb (qo_n o1) v ∧ v < 4722366482869645213696 ∧ v ≠ 7 := by
    refine List.forall_mem_cons.mpr ⟨⟨qe_rb_R (n := qo_n o1) (k := 52) (by omega), by decide, by decide⟩, List.forall_mem_cons.mpr ⟨⟨qe_rb_int (qe_I_is a), by show 8 * a < _; omega, by show 8 * a ≠ 7; omega⟩, fun v h => absurd h List.not_mem_nil⟩⟩
  have hy2 : ([418, qe_I a] : List Nat).map (qe_v (zE (qZ E L)) ad1) = [.ref (ad1 52), .int (Int32.ofNat a)] := by
    rw [List.map_cons, List.map_cons, List.map_nil, lw_vI]; rfl
  refine lw_call (Z := qZ E L) (j := 249) (nx := 195) (rc := 13) (d2 := 30) (ad := ad1) (n := qo_n o1) (t := qo_t o1) (gs := gs) (A := A) hz (Nat.le_of_ble_eq_true rfl) (qn_invV (Z := qZ E L) (j := 249) (y := yX10_append) (hM_L_law E L) (hM_X10_append E L) (qi_L_law) rfl eL_law_192 qv_451 qv_452 qv_453 qv_135 qv_450 qh_X10_append (by decide) ⟨TX10, 36, rfl⟩) (lw_con hd (qmb_X10_append E L) f2) k2 hBz hK hX hA p1 d1 s1 w1 has2 (by rw [hy2]; exact Nat.le_of_ble_eq_true rfl) (by rw [hy2]; exact lw_rc (dp := dp) (ci := 12) (k := 52) (n := qo_n o1) (t := qo_t o1) (ad := ad1) (gs := gs) (As := [.int (Int32.ofNat a)]) hK p1 (by omega) r1 (by decide) rfl) rfl (hl3.1.trans hml.symm) (Nat.le_of_ble_eq_true rfl) (by omega) (by omega) ⟨by omega, by omega⟩ (fun ad2 H2 locs2 x2 w2 p2 d2 s2 => ?_)
  have hl4 : lv_has la3 8 [(5, .int (Int32.ofNat 0)), (0, .ref (E.2.2.1 0)), (1, .ref (ad2 0)), (2, .ref (ad2 52)), (3, .ref (ad2 69)), (4, .int (Int32.ofNat i))] := by
    rw [x2.2 0 (by omega), x2.2 52 (by omega), x2.2 69 (by omega)]; exact hl3
  rw [show qe_v (zE (qZ E L)) ad2 (qo_v o2) = .int (qe_int E.2.2.2 (qo_v o2)) from qe_val_int v2]
  refine @qk_istore qB_L_law 195 6 eL_law_195 p l e R s m args below meth c H2 locs2 _ _ Q la3 _ hB _ 8 _ ⟨_, rfl⟩ hl4 (by decide) (fun la4 hl5 => ?_)
  have hl5 : lv_has la4 8 [(6, .int (qe_int E.2.2.2 (qo_v o2))), (5, .int (Int32.ofNat 0)), (0, .ref (E.2.2.1 0)), (1, .ref (ad2 0)), (2, .ref (ad2 52)), (3, .ref (ad2 69)), (4, .int (Int32.ofNat i))] := hl5
  refine @qk_goto qB_L_law 197 998 _ eL_law_197 (by decide) p l e R s m args below meth c H2 locs2 _ _ Q la4 _ hB ?_
  refine @qk_iinc qB_L_law 998 4 3 (Int32.ofNat 3) eL_law_998 (by decide) p l e R s m args below meth c H2 locs2 _ _ Q la4 _ hB (Int32.ofNat i) 8 _ hl5 (List.mem_of_getElem? (i := 6) rfl) (by decide) (fun la5 hl7 => ?_)
  have hl7 : lv_has la5 8 [(4, .int (Int32.ofNat i + Int32.ofNat 3)), (6, .int (qe_int E.2.2.2 (qo_v o2))), (5, .int (Int32.ofNat 0)), (0, .ref (E.2.2.1 0)), (1, .ref (ad2 0)), (2, .ref (ad2 52)), (3, .ref (ad2 69))] := hl7
  refine @qk_goto qB_L_law 1001 23 _ eL_law_1001 (by decide) p l e R s m args below meth c H2 locs2 _ _ Q la5 _ hB ?_
  rw [show Int32.ofNat i + Int32.ofNat 3 = Int32.ofNat (i + 3) from lw_ad1 i 3] at hl7
  subst f3
  have hfin := kk ad2 H2 locs2 la5 p2 d2 s2 w2 (lv_sub hl7 [3, 4, 5, 6, 0] rfl)
  have z1 : qo_ce (qo_3 o2) = 0 := rfl
  have z2 : qo_sl (qo_3 o2) = 0 := rfl
  rw [z1, z2, show cells + (qo_ce o1 + (qo_ce o2 + 0)) = cells + qo_ce o1 + qo_ce o2 by omega, show slots + (qo_sl o1 + (qo_sl o2 + 0)) = slots + qo_sl o1 + qo_sl o2 by omega] at hfin
  exact hfin

set_option maxHeartbeats 2000000 in
theorem lw_it_add {E : qe_E} {L i a : Nat} {df : qe_Df} (hd : qe_dok E.2.2.2 df) {p : Program} {l : Launch} {e : Env} {R : Room} {s : State} {m : MethodId} {args : Array Value} {below : List Frame} {meth : Method} {c : Code} {H : Heap} {locs : List Loc} {cells slots : Nat} {Q : State → Prop} {la : Array Slot} {A : Nat → Prop} {ad : Nat → Nat} {gs : va_W} {n : Nat} {t : qe_T dp} {o1 o2 o3 : qe_O dp}
    (hB : qe_bd qB_L_law p l s m args meth c) (hK : va_K E.1 vwCl (qe_tys E) s) (hX : zX (qZ E L) A s s.heap) (hA : ∀ q, s.heap.size ≤ q → A q) (hf : 51 ≤ R.frames) (hlo : 2100 ≤ R.locals)
    (hP : va_P E.1 vwCl (qe_ws dp E ad n t ++ gs) H) (hD : va_D A (qe_ws dp E ad n t ++ gs)) (hS : va_S A s.heap H locs) (hwi : qe_wi dp n t) (hn : 70 ≤ n)
    (hl : lv_has la 8 [(0, .ref (E.2.2.1 0)), (1, .ref (ad 0)), (2, .ref (ad 52)), (3, .ref (ad 69)), (4, .int (Int32.ofNat i))]) (hi : i + 3 ≤ L) (hL : L < 32768)
    (hs0 : E.2.2.2 i = Int32.ofNat 2) (hs1 : E.2.2.2 (i + 1) = Int32.ofNat a) (ha : a < 4294967296)
    (f1 : qe_run (qd_P df L) 1000000 30 226 0 (qe_lcl [2, qe_I a, 554] 0 qe_ls0) [] (n, t, [], 0, 0) = some [o1]) (k1 : qo_k o1 = 1) (v1 : qo_v o1 = 0) (n1 : 70 ≤ qo_n o1) (r1 : (qe_rd dp (qo_t o1) 52).1 = 12)
    (f2 : qe_run (qd_P df L) 1000000 30 58 0 (qe_lcl [418, qe_I a] 0 qe_ls0) [] (qo_n o1, qo_t o1, [], 0, 0) = some [o2]) (k2 : qo_k o2 = 1) (v2 : qe_is 0 (qo_v o2) = true) (n2 : 70 ≤ qo_n o2) (r2 : (qe_rd dp (qo_t o2) 52).1 = 12)
    (f3 : qo_3 o2 = o3) (k3 : qo_k o3 = 1) (v3 : qo_v o3 = 0) (n3 : 70 ≤ qo_n o3)
    (r3 : (qe_rd dp (qo_t o3) 69).1 = 102) (r4 : (qe_rd dp (qo_t o3) 69).2.1 = 1) (r5 : qe_lng E.2.2.2 (qe_get (qe_rd dp (qo_t o3) 69).2.2 0) = (qe_int E.2.2.2 (qo_v o2)).toInt64)
    (hc1 : cells + (qo_ce o1 + (qo_ce o2 + qo_ce o3)) ≤ R.cells) (hc2 : slots + (qo_sl o1 + (qo_sl o2 + qo_sl o3)) ≤ R.slots)
    (kk : ∀ (ad2 : Nat → Nat) (H2 : Heap) (locs2 : List Loc) (la2 : Array Slot), va_P E.1 vwCl (qe_ws dp E ad2 (qo_n o3) (qo_t o3) ++ gs) H2 → va_D A (qe_ws dp E ad2 (qo_n o3) (qo_t o3) ++ gs) → va_S A s.heap H2 locs2 → qe_wi dp (qo_n o3) (qo_t o3) → lv_has la2 8 [(0, .ref (E.2.2.1 0)), (1, .ref (ad2 0)), (2, .ref (ad2 52)), (3, .ref (ad2 69)), (4, .int (Int32.ofNat (i + 3)))] →
      W p l e R s m args below meth c H2 locs2 (cells + (qo_ce o1 + (qo_ce o2 + qo_ce o3))) (slots + (qo_sl o1 + (qo_sl o2 + qo_sl o3))) Q (F0 m 23 la2 [])) :
    W p l e R s m args below meth c H locs cells slots Q (F0 m 23 la []) := by
  have hBz : qe_bd (zM (qZ E L) 249) p l s m args meth c := hB
  have hz := qZ_ok E L
  have hml : c.maxLocals = 8 := hB.2.2.1
  refine @qk_iload qB_L_law 23 4 eL_law_23 p l e R s m args below meth c H locs cells slots Q la [] hB _ (lv_at hl 4 rfl) ⟨_, rfl⟩ ?_
  refine @qk_aload_n qB_L_law 25 0 0 eL_law_25 rfl p l e R s m args below meth c H locs cells slots Q la _ hB _ (lv_at hl 0 rfl) ⟨_, rfl⟩ ?_
  refine @qk_xlen (qZ E L) qw_Os L 249 26 (qZ_X E L) eL_law_26 p l e R s m args below meth c H locs cells slots la _ Q hBz A hX hS ?_
  refine @qk_iconst qB_L_law 27 3 (Int32.ofNat 3) eL_law_27 (by decide) p l e R s m args below meth c H locs cells slots Q la _ hB ?_
  refine @qk_isub qB_L_law 28 eL_law_28 _ _ p l e R s m args below meth c H locs cells slots Q la _ hB ?_
  refine @qk_ic_gt qB_L_law 29 1004 _ eL_law_29 (by decide) p l e R s m args below meth c H locs cells slots Q la _ hB _ _ ?_
  rw [lw_gt hi hL]
  refine @qk_aload_n qB_L_law 32 0 0 eL_law_32 rfl p l e R s m args below meth c H locs cells slots Q la _ hB _ (lv_at hl 0 rfl) ⟨_, rfl⟩ ?_
  refine @qk_iload qB_L_law 33 4 eL_law_33 p l e R s m args below meth c H locs cells slots Q la _ hB _ (lv_at hl 4 rfl) ⟨_, rfl⟩ ?_
  refine @qk_xld (qZ E L) qw_Os L 249 35 (qZ_X E L) eL_law_35 p l e R s m args below meth c H locs cells slots la _ Q hBz A hX hS i (by omega) (by omega) ?_
  rw [show (zE (qZ E L)).2.2.2 i = Int32.ofNat 2 from hs0]
  refine @qk_bipush qB_L_law 36 31 (Int32.ofNat 31) eL_law_36 (by decide) p l e R s m args below meth c H locs cells slots Q la _ hB ?_
  refine @qk_iand qB_L_law 38 eL_law_38 _ _ p l e R s m args below meth c H locs cells slots Q la _ hB ?_
  refine @qk_sw qB_L_law 39 998 _ _ 0 _ _ [172, 200, 213, 241, 269, 309, 349, 377, 393, 406, 446, 486, 526, 554, 582, 610, 638, 666, 694, 722, 735, 763, 776, 801, 829, 857, 885, 901, 941, 954] eL_law_39 (by decide +kernel) (by decide +kernel) (by decide +kernel) p l e R s m args below meth c H locs cells slots Q la _ hB _ (fun hq => absurd hq (by decide +kernel)) (fun i9 tgt9 h1 h2 => ?_)
  have hi9 : i9 = 2 := by
    have e9 : (qe_sem 13 (Int32.ofNat 2) (Int32.ofNat 31)).toInt = 2 := by decide +kernel
    rw [e9] at h2
    omega
  subst hi9
  obtain rfl : 213 = tgt9 := Option.some.inj h1
  refine @qk_aload_n qB_L_law 213 1 1 eL_law_213 rfl p l e R s m args below meth c H locs cells slots Q la _ hB _ (lv_at hl 1 rfl) ⟨_, rfl⟩ ?_
  refine @qk_aload_n qB_L_law 214 0 0 eL_law_214 rfl p l e R s m args below meth c H locs cells slots Q la _ hB _ (lv_at hl 0 rfl) ⟨_, rfl⟩ ?_
  refine @qk_iload qB_L_law 215 4 eL_law_215 p l e R s m args below meth c H locs cells slots Q la _ hB _ (lv_at hl 4 rfl) ⟨_, rfl⟩ ?_
  refine @qk_iconst qB_L_law 217 1 (Int32.ofNat 1) eL_law_217 (by decide) p l e R s m args below meth c H locs cells slots Q la _ hB ?_
  refine @qk_iadd qB_L_law 218 eL_law_218 _ _ p l e R s m args below meth c H locs cells slots Q la _ hB ?_
  rw [lw_ad1]
  refine @qk_xld (qZ E L) qw_Os L 249 219 (qZ_X E L) eL_law_219 p l e R s m args below meth c H locs cells slots la _ Q hBz A hX hS (i + 1) (by omega) (by omega) ?_
  rw [show (zE (qZ E L)).2.2.2 (i + 1) = Int32.ofNat a from hs1]
  refine @qk_aload_n qB_L_law 220 3 3 eL_law_220 rfl p l e R s m args below meth c H locs cells slots Q la _ hB _ (lv_at hl 3 rfl) ⟨_, rfl⟩ ?_
  have hx1 : ([Value.ref (ad 69), .int (Int32.ofNat a), .ref (ad 0)] : List Value) = ([2, qe_I a, 554].map (qe_v (zE (qZ E L)) ad)).reverse ++ [] := by
    rw [List.append_nil, List.map_cons, List.map_cons, List.map_cons, List.map_nil, lw_vI]
    rfl
  show W p l e R s m args below meth c H locs cells slots Q (F0 m 221 la [Value.ref (ad 69), .int (Int32.ofNat a), .ref (ad 0)])
  rw [hx1]
  have has : ∀ v ∈ ([2, qe_I a, 554] : List Nat), qe_rb n v ∧ v < 4722366482869645213696 ∧ v ≠ 7 := by
    refine List.forall_mem_cons.mpr ⟨⟨qe_rb_R (n := n) (k := 0) (by omega), by decide, by decide⟩, List.forall_mem_cons.mpr ⟨⟨qe_rb_int (qe_I_is a), by show 8 * a < _; omega, by show 8 * a ≠ 7; omega⟩, List.forall_mem_cons.mpr ⟨⟨qe_rb_R (n := n) (k := 69) (by omega), by decide, by decide⟩, fun v h => absurd h List.not_mem_nil⟩⟩⟩
  have hx2 : ∀ ad9 : Nat → Nat, (lg_sl (([2, qe_I a, 554] : List Nat).map (qe_v (zE (qZ E L)) ad9))).length = 3 := fun ad9 => by
    rw [List.map_cons, List.map_cons, List.map_cons, List.map_nil, lw_vI]; rfl
  refine lw_call (Z := qZ E L) (j := 249) (nx := 224) (d2 := 30) (ad := ad) (n := n) (t := t) (gs := gs) (A := A) hz (Nat.le_of_ble_eq_true rfl) (qn_invSX (Z := qZ E L) (j := 249) (rc := 0) (y := yL_add) (hM_L_law E L) (hM_L_add E L) (qi_L_law) rfl eL_law_221 qv_455 qv_456 qv_448 qv_454 qh_L_add) (lw_con hd (qmb_L_add E L) f1) k1 hBz hK hX hA hP hD hS hwi has (by rw [hx2]; exact Nat.le_of_ble_eq_true rfl) (Or.inl rfl) rfl (hl.1.trans hml.symm) (Nat.le_of_ble_eq_true rfl) (by omega) (by omega) ⟨by omega, by omega⟩ (fun ad1 H1 locs1 x1 w1 p1 d1 s1 => ?_)
  have hl1 : lv_has la 8 [(0, .ref (E.2.2.1 0)), (1, .ref (ad1 0)), (2, .ref (ad1 52)), (3, .ref (ad1 69)), (4, .int (Int32.ofNat i))] := by
    rw [x1.2 0 (by omega), x1.2 52 (by omega), x1.2 69 (by omega)]; exact hl
  rw [v1, show qe_v (zE (qZ E L)) ad1 0 = .int (Int32.ofNat 0) from rfl]
  refine @qk_istore qB_L_law 224 5 eL_law_224 p l e R s m args below meth c H1 locs1 _ _ Q la _ hB _ 8 _ ⟨_, rfl⟩ hl1 (by decide) (fun la3 hl3 => ?_)
  have hl3 : lv_has la3 8 [(5, .int (Int32.ofNat 0)), (0, .ref (E.2.2.1 0)), (1, .ref (ad1 0)), (2, .ref (ad1 52)), (3, .ref (ad1 69)), (4, .int (Int32.ofNat i))] := hl3
  refine @qk_aload_n qB_L_law 226 2 2 eL_law_226 rfl p l e R s m args below meth c H1 locs1 _ _ Q la3 _ hB _ (lv_at hl3 3 rfl) ⟨_, rfl⟩ ?_
  refine @qk_aload_n qB_L_law 227 0 0 eL_law_227 rfl p l e R s m args below meth c H1 locs1 _ _ Q la3 _ hB _ (lv_at hl3 1 rfl) ⟨_, rfl⟩ ?_
  refine @qk_iload qB_L_law 228 4 eL_law_228 p l e R s m args below meth c H1 locs1 _ _ Q la3 _ hB _ (lv_at hl3 5 rfl) ⟨_, rfl⟩ ?_
  refine @qk_iconst qB_L_law 230 1 (Int32.ofNat 1) eL_law_230 (by decide) p l e R s m args below meth c H1 locs1 _ _ Q la3 _ hB ?_
  refine @qk_iadd qB_L_law 231 eL_law_231 _ _ p l e R s m args below meth c H1 locs1 _ _ Q la3 _ hB ?_
  rw [lw_ad1]
  refine @qk_xld (qZ E L) qw_Os L 249 232 (qZ_X E L) eL_law_232 p l e R s m args below meth c H1 locs1 _ _ la3 _ Q hBz A hX s1 (i + 1) (by omega) (by omega) ?_
  rw [show (zE (qZ E L)).2.2.2 (i + 1) = Int32.ofNat a from hs1]
  have hy1 : ([Value.int (Int32.ofNat a), .ref (ad1 52)] : List Value) = ([418, qe_I a].map (qe_v (zE (qZ E L)) ad1)).reverse ++ [] := by
    rw [List.append_nil, List.map_cons, List.map_cons, List.map_nil, lw_vI]
    rfl
  show W p l e R s m args below meth c H1 locs1 (cells + qo_ce o1) (slots + qo_sl o1) Q (F0 m 233 la3 [Value.int (Int32.ofNat a), .ref (ad1 52)])
  rw [hy1]
  have has2 : ∀ v ∈ ([418, qe_I a] : List Nat), qe_rb (qo_n o1) v ∧ v < 4722366482869645213696 ∧ v ≠ 7 := by
    refine List.forall_mem_cons.mpr ⟨⟨qe_rb_R (n := qo_n o1) (k := 52) (by omega), by decide, by decide⟩, List.forall_mem_cons.mpr ⟨⟨qe_rb_int (qe_I_is a), by show 8 * a < _; omega, by show 8 * a ≠ 7; omega⟩, fun v h => absurd h List.not_mem_nil⟩⟩
  have hy2 : ([418, qe_I a] : List Nat).map (qe_v (zE (qZ E L)) ad1) = [.ref (ad1 52), .int (Int32.ofNat a)] := by
    rw [List.map_cons, List.map_cons, List.map_nil, lw_vI]; rfl
  refine lw_call (Z := qZ E L) (j := 249) (nx := 236) (rc := 13) (d2 := 30) (ad := ad1) (n := qo_n o1) (t := qo_t o1) (gs := gs) (A := A) hz (Nat.le_of_ble_eq_true rfl) (qn_invV (Z := qZ E L) (j := 249) (y := yX10_add) (hM_L_law E L) (hM_X10_add E L) (qi_L_law) rfl eL_law_233 qv_458 qv_459 qv_460 qv_135 qv_457 qh_X10_add (by decide) ⟨TX10, 36, rfl⟩) (lw_con hd (qmb_X10_add E L) f2) k2 hBz hK hX hA p1 d1 s1 w1 has2 (by rw [hy2]; exact Nat.le_of_ble_eq_true rfl) (by rw [hy2]; exact lw_rc (dp := dp) (ci := 12) (k := 52) (n := qo_n o1) (t := qo_t o1) (ad := ad1) (gs := gs) (As := [.int (Int32.ofNat a)]) hK p1 (by omega) r1 (by decide) rfl) rfl (hl3.1.trans hml.symm) (Nat.le_of_ble_eq_true rfl) (by omega) (by omega) ⟨by omega, by omega⟩ (fun ad2 H2 locs2 x2 w2 p2 d2 s2 => ?_)
  have hl4 : lv_has la3 8 [(5, .int (Int32.ofNat 0)), (0, .ref (E.2.2.1 0)), (1, .ref (ad2 0)), (2, .ref (ad2 52)), (3, .ref (ad2 69)), (4, .int (Int32.ofNat i))] := by
    rw [x2.2 0 (by omega), x2.2 52 (by omega), x2.2 69 (by omega)]; exact hl3
  rw [show qe_v (zE (qZ E L)) ad2 (qo_v o2) = .int (qe_int E.2.2.2 (qo_v o2)) from qe_val_int v2]
  refine @qk_istore qB_L_law 236 6 eL_law_236 p l e R s m args below meth c H2 locs2 _ _ Q la3 _ hB _ 8 _ ⟨_, rfl⟩ hl4 (by decide) (fun la4 hl5 => ?_)
  have hl5 : lv_has la4 8 [(6, .int (qe_int E.2.2.2 (qo_v o2))), (5, .int (Int32.ofNat 0)), (0, .ref (E.2.2.1 0)), (1, .ref (ad2 0)), (2, .ref (ad2 52)), (3, .ref (ad2 69)), (4, .int (Int32.ofNat i))] := hl5
  refine @qk_goto qB_L_law 238 998 _ eL_law_238 (by decide) p l e R s m args below meth c H2 locs2 _ _ Q la4 _ hB ?_
  refine @qk_iinc qB_L_law 998 4 3 (Int32.ofNat 3) eL_law_998 (by decide) p l e R s m args below meth c H2 locs2 _ _ Q la4 _ hB (Int32.ofNat i) 8 _ hl5 (List.mem_of_getElem? (i := 6) rfl) (by decide) (fun la5 hl7 => ?_)
  have hl7 : lv_has la5 8 [(4, .int (Int32.ofNat i + Int32.ofNat 3)), (6, .int (qe_int E.2.2.2 (qo_v o2))), (5, .int (Int32.ofNat 0)), (0, .ref (E.2.2.1 0)), (1, .ref (ad2 0)), (2, .ref (ad2 52)), (3, .ref (ad2 69))] := hl7
  refine @qk_goto qB_L_law 1001 23 _ eL_law_1001 (by decide) p l e R s m args below meth c H2 locs2 _ _ Q la5 _ hB ?_
  rw [show Int32.ofNat i + Int32.ofNat 3 = Int32.ofNat (i + 3) from lw_ad1 i 3] at hl7
  subst f3
  have hfin := kk ad2 H2 locs2 la5 p2 d2 s2 w2 (lv_sub hl7 [3, 4, 5, 6, 0] rfl)
  have z1 : qo_ce (qo_3 o2) = 0 := rfl
  have z2 : qo_sl (qo_3 o2) = 0 := rfl
  rw [z1, z2, show cells + (qo_ce o1 + (qo_ce o2 + 0)) = cells + qo_ce o1 + qo_ce o2 by omega, show slots + (qo_sl o1 + (qo_sl o2 + 0)) = slots + qo_sl o1 + qo_sl o2 by omega] at hfin
  exact hfin

set_option maxHeartbeats 2000000 in
theorem lw_it_trees {E : qe_E} {L i a : Nat} {df : qe_Df} (hd : qe_dok E.2.2.2 df) {p : Program} {l : Launch} {e : Env} {R : Room} {s : State} {m : MethodId} {args : Array Value} {below : List Frame} {meth : Method} {c : Code} {H : Heap} {locs : List Loc} {cells slots : Nat} {Q : State → Prop} {la : Array Slot} {A : Nat → Prop} {ad : Nat → Nat} {gs : va_W} {n : Nat} {t : qe_T dp} {o1 o2 o3 : qe_O dp}
    (hB : qe_bd qB_L_law p l s m args meth c) (hK : va_K E.1 vwCl (qe_tys E) s) (hX : zX (qZ E L) A s s.heap) (hA : ∀ q, s.heap.size ≤ q → A q) (hf : 51 ≤ R.frames) (hlo : 2100 ≤ R.locals)
    (hP : va_P E.1 vwCl (qe_ws dp E ad n t ++ gs) H) (hD : va_D A (qe_ws dp E ad n t ++ gs)) (hS : va_S A s.heap H locs) (hwi : qe_wi dp n t) (hn : 70 ≤ n)
    (hl : lv_has la 8 [(0, .ref (E.2.2.1 0)), (1, .ref (ad 0)), (2, .ref (ad 52)), (3, .ref (ad 69)), (4, .int (Int32.ofNat i))]) (hi : i + 3 ≤ L) (hL : L < 32768)
    (hs0 : E.2.2.2 i = Int32.ofNat 20) (hs1 : E.2.2.2 (i + 1) = Int32.ofNat a) (ha : a < 4294967296)
    (f1 : qe_run (qd_P df L) 1000000 30 242 0 (qe_lcl [2, qe_I a, 554] 0 qe_ls0) [] (n, t, [], 0, 0) = some [o1]) (k1 : qo_k o1 = 1) (v1 : qo_v o1 = 0) (n1 : 70 ≤ qo_n o1) (r1 : (qe_rd dp (qo_t o1) 52).1 = 12)
    (f2 : qe_run (qd_P df L) 1000000 30 96 0 (qe_lcl [418, qe_I a] 0 qe_ls0) [] (qo_n o1, qo_t o1, [], 0, 0) = some [o2]) (k2 : qo_k o2 = 1) (v2 : qe_is 0 (qo_v o2) = true) (n2 : 70 ≤ qo_n o2) (r2 : (qe_rd dp (qo_t o2) 52).1 = 12)
    (f3 : qo_3 o2 = o3) (k3 : qo_k o3 = 1) (v3 : qo_v o3 = 0) (n3 : 70 ≤ qo_n o3)
    (r3 : (qe_rd dp (qo_t o3) 69).1 = 102) (r4 : (qe_rd dp (qo_t o3) 69).2.1 = 1) (r5 : qe_lng E.2.2.2 (qe_get (qe_rd dp (qo_t o3) 69).2.2 0) = (qe_int E.2.2.2 (qo_v o2)).toInt64)
    (hc1 : cells + (qo_ce o1 + (qo_ce o2 + qo_ce o3)) ≤ R.cells) (hc2 : slots + (qo_sl o1 + (qo_sl o2 + qo_sl o3)) ≤ R.slots)
    (kk : ∀ (ad2 : Nat → Nat) (H2 : Heap) (locs2 : List Loc) (la2 : Array Slot), va_P E.1 vwCl (qe_ws dp E ad2 (qo_n o3) (qo_t o3) ++ gs) H2 → va_D A (qe_ws dp E ad2 (qo_n o3) (qo_t o3) ++ gs) → va_S A s.heap H2 locs2 → qe_wi dp (qo_n o3) (qo_t o3) → lv_has la2 8 [(0, .ref (E.2.2.1 0)), (1, .ref (ad2 0)), (2, .ref (ad2 52)), (3, .ref (ad2 69)), (4, .int (Int32.ofNat (i + 3)))] →
      W p l e R s m args below meth c H2 locs2 (cells + (qo_ce o1 + (qo_ce o2 + qo_ce o3))) (slots + (qo_sl o1 + (qo_sl o2 + qo_sl o3))) Q (F0 m 23 la2 [])) :
    W p l e R s m args below meth c H locs cells slots Q (F0 m 23 la []) := by
  have hBz : qe_bd (zM (qZ E L) 249) p l s m args meth c := hB
  have hz := qZ_ok E L
  have hml : c.maxLocals = 8 := hB.2.2.1
  refine @qk_iload qB_L_law 23 4 eL_law_23 p l e R s m args below meth c H locs cells slots Q la [] hB _ (lv_at hl 4 rfl) ⟨_, rfl⟩ ?_
  refine @qk_aload_n qB_L_law 25 0 0 eL_law_25 rfl p l e R s m args below meth c H locs cells slots Q la _ hB _ (lv_at hl 0 rfl) ⟨_, rfl⟩ ?_
  refine @qk_xlen (qZ E L) qw_Os L 249 26 (qZ_X E L) eL_law_26 p l e R s m args below meth c H locs cells slots la _ Q hBz A hX hS ?_
  refine @qk_iconst qB_L_law 27 3 (Int32.ofNat 3) eL_law_27 (by decide) p l e R s m args below meth c H locs cells slots Q la _ hB ?_
  refine @qk_isub qB_L_law 28 eL_law_28 _ _ p l e R s m args below meth c H locs cells slots Q la _ hB ?_
  refine @qk_ic_gt qB_L_law 29 1004 _ eL_law_29 (by decide) p l e R s m args below meth c H locs cells slots Q la _ hB _ _ ?_
  rw [lw_gt hi hL]
  refine @qk_aload_n qB_L_law 32 0 0 eL_law_32 rfl p l e R s m args below meth c H locs cells slots Q la _ hB _ (lv_at hl 0 rfl) ⟨_, rfl⟩ ?_
  refine @qk_iload qB_L_law 33 4 eL_law_33 p l e R s m args below meth c H locs cells slots Q la _ hB _ (lv_at hl 4 rfl) ⟨_, rfl⟩ ?_
  refine @qk_xld (qZ E L) qw_Os L 249 35 (qZ_X E L) eL_law_35 p l e R s m args below meth c H locs cells slots la _ Q hBz A hX hS i (by omega) (by omega) ?_
  rw [show (zE (qZ E L)).2.2.2 i = Int32.ofNat 20 from hs0]
  refine @qk_bipush qB_L_law 36 31 (Int32.ofNat 31) eL_law_36 (by decide) p l e R s m args below meth c H locs cells slots Q la _ hB ?_
  refine @qk_iand qB_L_law 38 eL_law_38 _ _ p l e R s m args below meth c H locs cells slots Q la _ hB ?_
  refine @qk_sw qB_L_law 39 998 _ _ 0 _ _ [172, 200, 213, 241, 269, 309, 349, 377, 393, 406, 446, 486, 526, 554, 582, 610, 638, 666, 694, 722, 735, 763, 776, 801, 829, 857, 885, 901, 941, 954] eL_law_39 (by decide +kernel) (by decide +kernel) (by decide +kernel) p l e R s m args below meth c H locs cells slots Q la _ hB _ (fun hq => absurd hq (by decide +kernel)) (fun i9 tgt9 h1 h2 => ?_)
  have hi9 : i9 = 20 := by
    have e9 : (qe_sem 13 (Int32.ofNat 20) (Int32.ofNat 31)).toInt = 20 := by decide +kernel
    rw [e9] at h2
    omega
  subst hi9
  obtain rfl : 735 = tgt9 := Option.some.inj h1
  refine @qk_aload_n qB_L_law 735 1 1 eL_law_735 rfl p l e R s m args below meth c H locs cells slots Q la _ hB _ (lv_at hl 1 rfl) ⟨_, rfl⟩ ?_
  refine @qk_aload_n qB_L_law 736 0 0 eL_law_736 rfl p l e R s m args below meth c H locs cells slots Q la _ hB _ (lv_at hl 0 rfl) ⟨_, rfl⟩ ?_
  refine @qk_iload qB_L_law 737 4 eL_law_737 p l e R s m args below meth c H locs cells slots Q la _ hB _ (lv_at hl 4 rfl) ⟨_, rfl⟩ ?_
  refine @qk_iconst qB_L_law 739 1 (Int32.ofNat 1) eL_law_739 (by decide) p l e R s m args below meth c H locs cells slots Q la _ hB ?_
  refine @qk_iadd qB_L_law 740 eL_law_740 _ _ p l e R s m args below meth c H locs cells slots Q la _ hB ?_
  rw [lw_ad1]
  refine @qk_xld (qZ E L) qw_Os L 249 741 (qZ_X E L) eL_law_741 p l e R s m args below meth c H locs cells slots la _ Q hBz A hX hS (i + 1) (by omega) (by omega) ?_
  rw [show (zE (qZ E L)).2.2.2 (i + 1) = Int32.ofNat a from hs1]
  refine @qk_aload_n qB_L_law 742 3 3 eL_law_742 rfl p l e R s m args below meth c H locs cells slots Q la _ hB _ (lv_at hl 3 rfl) ⟨_, rfl⟩ ?_
  have hx1 : ([Value.ref (ad 69), .int (Int32.ofNat a), .ref (ad 0)] : List Value) = ([2, qe_I a, 554].map (qe_v (zE (qZ E L)) ad)).reverse ++ [] := by
    rw [List.append_nil, List.map_cons, List.map_cons, List.map_cons, List.map_nil, lw_vI]
    rfl
  show W p l e R s m args below meth c H locs cells slots Q (F0 m 743 la [Value.ref (ad 69), .int (Int32.ofNat a), .ref (ad 0)])
  rw [hx1]
  have has : ∀ v ∈ ([2, qe_I a, 554] : List Nat), qe_rb n v ∧ v < 4722366482869645213696 ∧ v ≠ 7 := by
    refine List.forall_mem_cons.mpr ⟨⟨qe_rb_R (n := n) (k := 0) (by omega), by decide, by decide⟩, List.forall_mem_cons.mpr ⟨⟨qe_rb_int (qe_I_is a), by show 8 * a < _; omega, by show 8 * a ≠ 7; omega⟩, List.forall_mem_cons.mpr ⟨⟨qe_rb_R (n := n) (k := 69) (by omega), by decide, by decide⟩, fun v h => absurd h List.not_mem_nil⟩⟩⟩
  have hx2 : ∀ ad9 : Nat → Nat, (lg_sl (([2, qe_I a, 554] : List Nat).map (qe_v (zE (qZ E L)) ad9))).length = 3 := fun ad9 => by
    rw [List.map_cons, List.map_cons, List.map_cons, List.map_nil, lw_vI]; rfl
  refine lw_call (Z := qZ E L) (j := 249) (nx := 746) (d2 := 30) (ad := ad) (n := n) (t := t) (gs := gs) (A := A) hz (Nat.le_of_ble_eq_true rfl) (qn_invSX (Z := qZ E L) (j := 249) (rc := 0) (y := yL_trees) (hM_L_law E L) (hM_L_trees E L) (qi_L_law) rfl eL_law_743 qv_462 qv_463 qv_448 qv_461 qh_L_trees) (lw_con hd (qmb_L_trees E L) f1) k1 hBz hK hX hA hP hD hS hwi has (by rw [hx2]; exact Nat.le_of_ble_eq_true rfl) (Or.inl rfl) rfl (hl.1.trans hml.symm) (Nat.le_of_ble_eq_true rfl) (by omega) (by omega) ⟨by omega, by omega⟩ (fun ad1 H1 locs1 x1 w1 p1 d1 s1 => ?_)
  have hl1 : lv_has la 8 [(0, .ref (E.2.2.1 0)), (1, .ref (ad1 0)), (2, .ref (ad1 52)), (3, .ref (ad1 69)), (4, .int (Int32.ofNat i))] := by
    rw [x1.2 0 (by omega), x1.2 52 (by omega), x1.2 69 (by omega)]; exact hl
  rw [v1, show qe_v (zE (qZ E L)) ad1 0 = .int (Int32.ofNat 0) from rfl]
  refine @qk_istore qB_L_law 746 5 eL_law_746 p l e R s m args below meth c H1 locs1 _ _ Q la _ hB _ 8 _ ⟨_, rfl⟩ hl1 (by decide) (fun la3 hl3 => ?_)
  have hl3 : lv_has la3 8 [(5, .int (Int32.ofNat 0)), (0, .ref (E.2.2.1 0)), (1, .ref (ad1 0)), (2, .ref (ad1 52)), (3, .ref (ad1 69)), (4, .int (Int32.ofNat i))] := hl3
  refine @qk_aload_n qB_L_law 748 2 2 eL_law_748 rfl p l e R s m args below meth c H1 locs1 _ _ Q la3 _ hB _ (lv_at hl3 3 rfl) ⟨_, rfl⟩ ?_
  refine @qk_aload_n qB_L_law 749 0 0 eL_law_749 rfl p l e R s m args below meth c H1 locs1 _ _ Q la3 _ hB _ (lv_at hl3 1 rfl) ⟨_, rfl⟩ ?_
  refine @qk_iload qB_L_law 750 4 eL_law_750 p l e R s m args below meth c H1 locs1 _ _ Q la3 _ hB _ (lv_at hl3 5 rfl) ⟨_, rfl⟩ ?_
  refine @qk_iconst qB_L_law 752 1 (Int32.ofNat 1) eL_law_752 (by decide) p l e R s m args below meth c H1 locs1 _ _ Q la3 _ hB ?_
  refine @qk_iadd qB_L_law 753 eL_law_753 _ _ p l e R s m args below meth c H1 locs1 _ _ Q la3 _ hB ?_
  rw [lw_ad1]
  refine @qk_xld (qZ E L) qw_Os L 249 754 (qZ_X E L) eL_law_754 p l e R s m args below meth c H1 locs1 _ _ la3 _ Q hBz A hX s1 (i + 1) (by omega) (by omega) ?_
  rw [show (zE (qZ E L)).2.2.2 (i + 1) = Int32.ofNat a from hs1]
  have hy1 : ([Value.int (Int32.ofNat a), .ref (ad1 52)] : List Value) = ([418, qe_I a].map (qe_v (zE (qZ E L)) ad1)).reverse ++ [] := by
    rw [List.append_nil, List.map_cons, List.map_cons, List.map_nil, lw_vI]
    rfl
  show W p l e R s m args below meth c H1 locs1 (cells + qo_ce o1) (slots + qo_sl o1) Q (F0 m 755 la3 [Value.int (Int32.ofNat a), .ref (ad1 52)])
  rw [hy1]
  have has2 : ∀ v ∈ ([418, qe_I a] : List Nat), qe_rb (qo_n o1) v ∧ v < 4722366482869645213696 ∧ v ≠ 7 := by
    refine List.forall_mem_cons.mpr ⟨⟨qe_rb_R (n := qo_n o1) (k := 52) (by omega), by decide, by decide⟩, List.forall_mem_cons.mpr ⟨⟨qe_rb_int (qe_I_is a), by show 8 * a < _; omega, by show 8 * a ≠ 7; omega⟩, fun v h => absurd h List.not_mem_nil⟩⟩
  have hy2 : ([418, qe_I a] : List Nat).map (qe_v (zE (qZ E L)) ad1) = [.ref (ad1 52), .int (Int32.ofNat a)] := by
    rw [List.map_cons, List.map_cons, List.map_nil, lw_vI]; rfl
  refine lw_call (Z := qZ E L) (j := 249) (nx := 758) (rc := 13) (d2 := 30) (ad := ad1) (n := qo_n o1) (t := qo_t o1) (gs := gs) (A := A) hz (Nat.le_of_ble_eq_true rfl) (qn_invV (Z := qZ E L) (j := 249) (y := yX10_trees) (hM_L_law E L) (hM_X10_trees E L) (qi_L_law) rfl eL_law_755 qv_465 qv_466 qv_467 qv_135 qv_464 qh_X10_trees (by decide) ⟨TX10, 36, rfl⟩) (lw_con hd (qmb_X10_trees E L) f2) k2 hBz hK hX hA p1 d1 s1 w1 has2 (by rw [hy2]; exact Nat.le_of_ble_eq_true rfl) (by rw [hy2]; exact lw_rc (dp := dp) (ci := 12) (k := 52) (n := qo_n o1) (t := qo_t o1) (ad := ad1) (gs := gs) (As := [.int (Int32.ofNat a)]) hK p1 (by omega) r1 (by decide) rfl) rfl (hl3.1.trans hml.symm) (Nat.le_of_ble_eq_true rfl) (by omega) (by omega) ⟨by omega, by omega⟩ (fun ad2 H2 locs2 x2 w2 p2 d2 s2 => ?_)
  have hl4 : lv_has la3 8 [(5, .int (Int32.ofNat 0)), (0, .ref (E.2.2.1 0)), (1, .ref (ad2 0)), (2, .ref (ad2 52)), (3, .ref (ad2 69)), (4, .int (Int32.ofNat i))] := by
    rw [x2.2 0 (by omega), x2.2 52 (by omega), x2.2 69 (by omega)]; exact hl3
  rw [show qe_v (zE (qZ E L)) ad2 (qo_v o2) = .int (qe_int E.2.2.2 (qo_v o2)) from qe_val_int v2]
  refine @qk_istore qB_L_law 758 6 eL_law_758 p l e R s m args below meth c H2 locs2 _ _ Q la3 _ hB _ 8 _ ⟨_, rfl⟩ hl4 (by decide) (fun la4 hl5 => ?_)
  have hl5 : lv_has la4 8 [(6, .int (qe_int E.2.2.2 (qo_v o2))), (5, .int (Int32.ofNat 0)), (0, .ref (E.2.2.1 0)), (1, .ref (ad2 0)), (2, .ref (ad2 52)), (3, .ref (ad2 69)), (4, .int (Int32.ofNat i))] := hl5
  refine @qk_goto qB_L_law 760 998 _ eL_law_760 (by decide) p l e R s m args below meth c H2 locs2 _ _ Q la4 _ hB ?_
  refine @qk_iinc qB_L_law 998 4 3 (Int32.ofNat 3) eL_law_998 (by decide) p l e R s m args below meth c H2 locs2 _ _ Q la4 _ hB (Int32.ofNat i) 8 _ hl5 (List.mem_of_getElem? (i := 6) rfl) (by decide) (fun la5 hl7 => ?_)
  have hl7 : lv_has la5 8 [(4, .int (Int32.ofNat i + Int32.ofNat 3)), (6, .int (qe_int E.2.2.2 (qo_v o2))), (5, .int (Int32.ofNat 0)), (0, .ref (E.2.2.1 0)), (1, .ref (ad2 0)), (2, .ref (ad2 52)), (3, .ref (ad2 69))] := hl7
  refine @qk_goto qB_L_law 1001 23 _ eL_law_1001 (by decide) p l e R s m args below meth c H2 locs2 _ _ Q la5 _ hB ?_
  rw [show Int32.ofNat i + Int32.ofNat 3 = Int32.ofNat (i + 3) from lw_ad1 i 3] at hl7
  subst f3
  have hfin := kk ad2 H2 locs2 la5 p2 d2 s2 w2 (lv_sub hl7 [3, 4, 5, 6, 0] rfl)
  have z1 : qo_ce (qo_3 o2) = 0 := rfl
  have z2 : qo_sl (qo_3 o2) = 0 := rfl
  rw [z1, z2, show cells + (qo_ce o1 + (qo_ce o2 + 0)) = cells + qo_ce o1 + qo_ce o2 by omega, show slots + (qo_sl o1 + (qo_sl o2 + 0)) = slots + qo_sl o1 + qo_sl o2 by omega] at hfin
  exact hfin

end QLI
