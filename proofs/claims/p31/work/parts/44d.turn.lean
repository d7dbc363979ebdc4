/-! THE RUN, 4: a turn of trees whose second call is run with the memo; made by wip/engine/gen44d.py -/
section QLT
section QLT1
variable {dp : Nat}
set_option maxHeartbeats 2000000 in
theorem lw_itM_trees {E : qe_E} {L i a : Nat} {df : qe_Df} (hd : qe_dok E.2.2.2 df) {p : Program} {l : Launch} {e : Env} {R : Room} {s : State} {m : MethodId} {args : Array Value} {below : List Frame} {meth : Method} {c : Code} {H : Heap} {locs : List Loc} {cells slots : Nat} {Q : State → Prop} {la : Array Slot} {A : Nat → Prop} {ad : Nat → Nat} {gs : va_W} {n : Nat} {t : qe_T dp} {o1 o2 o3 : qe_O dp}
    (hB : qe_bd qB_L_law p l s m args meth c) (hK : va_K E.1 vwCl (qe_tys E) s) (hX : zX (qZ E L) A s s.heap) (hA : ∀ q, s.heap.size ≤ q → A q) (hf : 51 ≤ R.frames) (hlo : 2100 ≤ R.locals)
    (hP : va_P E.1 vwCl (qe_ws dp E ad n t ++ gs) H) (hD : va_D A (qe_ws dp E ad n t ++ gs)) (hS : va_S A s.heap H locs) (hwi : qe_wi dp n t) (hn : 70 ≤ n)
    (hl : lv_has la 8 [(0, .ref (E.2.2.1 0)), (1, .ref (ad 0)), (2, .ref (ad 52)), (3, .ref (ad 69)), (4, .int (Int32.ofNat i))]) (hi : i + 3 ≤ L) (hL : L < 32768)
    (hs0 : E.2.2.2 i = Int32.ofNat 20) (hs1 : E.2.2.2 (i + 1) = Int32.ofNat a) (ha : a < 4294967296)
    (f1 : qe_run (qd_P df L) 1000000 30 242 0 (qe_lcl [2, qe_I a, 554] 0 qe_ls0) [] (n, t, [], 0, 0) = some [o1]) (k1 : qo_k o1 = 1) (v1 : qo_v o1 = 0) (n1 : 70 ≤ qo_n o1) (r1 : (qe_rd dp (qo_t o1) 52).1 = 12)
    (g2 : qx_con (qZ E L) 30 96 [418, qe_I a] (qo_n o1) (qo_t o1) [] [o2]) (k2 : qo_k o2 = 1) (v2 : qe_is 0 (qo_v o2) = true) (n2 : 70 ≤ qo_n o2) (r2 : (qe_rd dp (qo_t o2) 52).1 = 12)
    (f3 : qo_3 o2 = o3) (k3 : qo_k o3 = 1) (v3 : qo_v o3 = 0) (n3 : 70 ≤ qo_n o3)
    (r3 : (qe_rd dp (qo_t o3) 69).1 = 102) (r4 : (qe_rd dp (qo_t o3) 69).2.1 = 1) (r5 : qe_lng E.2.2.2 (qe_get (qe_rd dp (qo_t o3) 69).2.2 0) = (qe_int E.2.2.2 (qo_v o2)).toInt64)
    (hc1 : cells + (qo_ce o1 + (qo_ce o2 + qo_ce o3)) ≤ R.cells) (hc2 : slots + (qo_sl o1 + (qo_sl o2 + qo_sl o3)) ≤ R.slots)
    (kk : ∀ (ad2 : Nat → Nat) (H2 : Heap) (locs2 : List Loc) (la2 : Array Slot), va_P E.1 vwCl (qe_ws dp E ad2 (qo_n o3) (qo_t o3) ++ gs) H2 → va_D A (qe_ws dp E ad2 (qo_n o3) (qo_t o3) ++ gs) → va_S A s.heap H2 locs2 → qe_wi dp (qo_n o3) (qo_t o3) → lv_has la2 8 [(0, .ref (E.2.2.1 0)), (1, .ref (ad2 0)), (2, .ref (ad2 52)), (3, .ref (ad2 69)), (4, .int (Int32.ofNat (i + 3)))] →
      W p l e R s m args below meth c H2 locs2 (cells + (qo_ce o1 + (qo_ce o2 + qo_ce o3))) (slots + (qo_sl o1 + (qo_sl o2 + qo_sl o3))) Q (F0 m 23 la2 [])) :
    W p l e R s m args below meth c H locs cells slots Q (F0 m 23 la []) := by
  have hBz : qe_bd (zM (qZ E L) 249) p l s m args meth c := hB
  have hz := qZ_ok E L
  have hml : c.maxLocals = 8 := hB.2.2.1
  refine @qk_iload qB_L_law 23 4 eL_law_23 p l e R s m args below meth c H locs cells slots Q la [] hB _ (lv_at hl 4 rfl) ⟨_, rfl⟩ ?_
  refine @qk_aload_n qB_L_law 25 0 0 eL_law_25 rfl p l e R s m args below meth c H locs cells slots Q la _ hB _ (lv_at hl 0 rfl) ⟨_, rfl⟩ ?_
  refine @qk_xlen (qZ E L) qw_Os L 249 26 (qZ_X E L) eL_law_26 p l e R s m args below meth c H locs cells slots la _ Q hBz A hX hS ?_
  refine @qk_iconst qB_L_law 27 3 (Int32.ofNat 3) eL_law_27 (by decide) p l e R s m args below meth c H locs cells slots Q la _ hB ?_
  refine @qk_isub qB_L_law 28 eL_law_28 _ _ p l e R s m args below meth c H locs cells slots Q la _ hB ?_
  refine @qk_ic_gt qB_L_law 29 1004 _ eL_law_29 (by decide) p l e R s m args below meth c H locs cells slots Q la _ hB _ _ ?_
  rw [lw_gt hi hL]
  refine @qk_aload_n qB_L_law 32 0 0 eL_law_32 rfl p l e R s m args below meth c H locs cells slots Q la _ hB _ (lv_at hl 0 rfl) ⟨_, rfl⟩ ?_
  refine @qk_iload qB_L_law 33 4 eL_law_33 p l e R s m args below meth c H locs cells slots Q la _ hB _ (lv_at hl 4 rfl) ⟨_, rfl⟩ ?_
  refine @qk_xld (qZ E L) qw_Os L 249 35 (qZ_X E L) eL_law_35 p l e R s m args below meth c H locs cells slots la _ Q hBz A hX hS i (by omega) (by omega) ?_
  rw [show (zE (qZ E L)).2.2.2 i = Int32.ofNat 20 from hs0]
  refine @qk_bipush qB_L_law 36 31 (Int32.ofNat 31) eL_law_36 (by decide) p l e R s m args below meth c H locs cells slots Q la _ hB ?_
  refine @qk_iand qB_L_law 38 eL_law_38 _ _ p l e R s m args below meth c H locs cells slots Q la _ hB ?_
  refine @qk_sw qB_L_law 39 998 _ _ 0 _ _ [172, 200, 213, 241, 269, 309, 349, 377, 393, 406, 446, 486, 526, 554, 582, 610, 638, 666, 694, 722, 735, 763, 776, 801, 829, 857, 885, 901, 941, 954] eL_law_39 (by decide +kernel) (by decide +kernel) (by decide +kernel) p l e R s m args below meth c H locs cells slots Q la _ hB _ (fun hq => absurd hq (by decide +kernel)) (fun i9 tgt9 h1 h2 => ?_)
  have hi9 : i9 = 20 := by
    have e9 : (qe_sem 13 (Int32.ofNat 20) (Int32.ofNat 31)).toInt = 20 := by decide +kernel
    rw [e9] at h2
    omega
  subst hi9
  obtain rfl : 735 = tgt9 := Option.some.inj h1
  refine @qk_aload_n qB_L_law 735 1 1 eL_law_735 rfl p l e R s m args below meth c H locs cells slots Q la _ hB _ (lv_at hl 1 rfl) ⟨_, rfl⟩ ?_
  refine @qk_aload_n qB_L_law 736 0 0 eL_law_736 rfl p l e R s m args below meth c H locs cells slots Q la _ hB _ (lv_at hl 0 rfl) ⟨_, rfl⟩ ?_
  refine @qk_iload qB_L_law 737 4 eL_law_737 p l e R s m args below meth c H locs cells slots Q la _ hB _ (lv_at hl 4 rfl) ⟨_, rfl⟩ ?_
  refine @qk_iconst qB_L_law 739 1 (Int32.ofNat 1) eL_law_739 (by decide) p l e R s m args below meth c H locs cells slots Q la _ hB ?_
  refine @qk_iadd qB_L_law 740 eL_law_740 _ _ p l e R s m args below meth c H locs cells slots Q la _ hB ?_
  rw [lw_ad1]
  refine @qk_xld (qZ E L) qw_Os L 249 741 (qZ_X E L) eL_law_741 p l e R s m args below meth c H locs cells slots la _ Q hBz A hX hS (i + 1) (by omega) (by omega) ?_
  rw [show (zE (qZ E L)).2.2.2 (i + 1) = Int32.ofNat a from hs1]
  refine @qk_aload_n qB_L_law 742 3 3 eL_law_742 rfl p l e R s m args below meth c H locs cells slots Q la _ hB _ (lv_at hl 3 rfl) ⟨_, rfl⟩ ?_
  have hx1 : ([Value.ref (ad 69), .int (Int32.ofNat a), .ref (ad 0)] : List Value) = ([2, qe_I a, 554].map (qe_v (zE (qZ E L)) ad)).reverse ++ [] := by
    rw [List.append_nil, List.map_cons, List.map_cons, List.map_cons, List.map_nil, lw_vI]
    rfl
  show W p l e R s m args below meth c H locs cells slots Q (F0 m 743 la [Value.ref (ad 69), .int (Int32.ofNat a), .ref (ad 0)])
  rw [hx1]
  have has : ∀ v ∈ ([2, qe_I a, 554] : List Nat), qe_rb n v ∧ v < 4722366482869645213696 ∧ v ≠ 7 := by
    refine List.forall_mem_cons.mpr ⟨⟨qe_rb_R (n := n) (k := 0) (by omega), by decide, by decide⟩, List.forall_mem_cons.mpr ⟨⟨qe_rb_int (qe_I_is a), by show 8 * a < _; omega, by show 8 * a ≠ 7; omega⟩, List.forall_mem_cons.mpr ⟨⟨qe_rb_R (n := n) (k := 69) (by omega), by decide, by decide⟩, fun v h => absurd h List.not_mem_nil⟩⟩⟩
  have hx2 : ∀ ad9 : Nat → Nat, (lg_sl (([2, qe_I a, 554] : List Nat).map (qe_v (zE (qZ E L)) ad9))).length = 3 := fun ad9 => by
    rw [List.map_cons, List.map_cons, List.map_cons, List.map_nil, lw_vI]; rfl
  refine lw_call (Z := qZ E L) (j := 249) (nx := 746) (d2 := 30) (ad := ad) (n := n) (t := t) (gs := gs) (A := A) hz (Nat.le_of_ble_eq_true rfl) (qn_invSX (Z := qZ E L) (j := 249) (rc := 0) (y := yL_trees) (hM_L_law E L) (hM_L_trees E L) (qi_L_law) rfl eL_law_743 qv_462 qv_463 qv_448 qv_461 qh_L_trees) (lw_con hd (qmb_L_trees E L) f1) k1 hBz hK hX hA hP hD hS hwi has (by rw [hx2]; exact Nat.le_of_ble_eq_true rfl) (Or.inl rfl) rfl (hl.1.trans hml.symm) (Nat.le_of_ble_eq_true rfl) (by omega) (by omega) ⟨by omega, by omega⟩ (fun ad1 H1 locs1 x1 w1 p1 d1 s1 => ?_)
  have hl1 : lv_has la 8 [(0, .ref (E.2.2.1 0)), (1, .ref (ad1 0)), (2, .ref (ad1 52)), (3, .ref (ad1 69)), (4, .int (Int32.ofNat i))] := by
    rw [x1.2 0 (by omega), x1.2 52 (by omega), x1.2 69 (by omega)]; exact hl
  rw [v1, show qe_v (zE (qZ E L)) ad1 0 = .int (Int32.ofNat 0) from rfl]
  refine @qk_istore qB_L_law 746 5 eL_law_746 p l e R s m args below meth c H1 locs1 _ _ Q la _ hB _ 8 _ ⟨_, rfl⟩ hl1 (by decide) (fun la3 hl3 => ?_)
  have hl3 : lv_has la3 8 [(5, .int (Int32.ofNat 0)), (0, .ref (E.2.2.1 0)), (1, .ref (ad1 0)), (2, .ref (ad1 52)), (3, .ref (ad1 69)), (4, .int (Int32.ofNat i))] := hl3
  refine @qk_aload_n qB_L_law 748 2 2 eL_law_748 rfl p l e R s m args below meth c H1 locs1 _ _ Q la3 _ hB _ (lv_at hl3 3 rfl) ⟨_, rfl⟩ ?_
  refine @qk_aload_n qB_L_law 749 0 0 eL_law_749 rfl p l e R s m args below meth c H1 locs1 _ _ Q la3 _ hB _ (lv_at hl3 1 rfl) ⟨_, rfl⟩ ?_
  refine @qk_iload qB_L_law 750 4 eL_law_750 p l e R s m args below meth c H1 locs1 _ _ Q la3 _ hB _ (lv_at hl3 5 rfl) ⟨_, rfl⟩ ?_
  refine @qk_iconst qB_L_law 752 1 (Int32.ofNat 1) eL_law_752 (by decide) p l e R s m args below meth c H1 locs1 _ _ Q la3 _ hB ?_
  refine @qk_iadd qB_L_law 753 eL_law_753 _ _ p l e R s m args below meth c H1 locs1 _ _ Q la3 _ hB ?_
  rw [lw_ad1]
  refine @qk_xld (qZ E L) qw_Os L 249 754 (qZ_X E L) eL_law_754 p l e R s m args below meth c H1 locs1 _ _ la3 _ Q hBz A hX s1 (i + 1) (by omega) (by omega) ?_
  rw [show (zE (qZ E L)).2.2.2 (i + 1) = Int32.ofNat a from hs1]
  have hy1 : ([Value.int (Int32.ofNat a), .ref (ad1 52)] : List Value) = ([418, qe_I a].map (qe_v (zE (qZ E L)) ad1)).reverse ++ [] := by
    rw [List.append_nil, List.map_cons, List.map_cons, List.map_nil, lw_vI]
    rfl
  show W p l e R s m args below meth c H1 locs1 (cells + qo_ce o1) (slots + qo_sl o1) Q (F0 m 755 la3 [Value.int (Int32.ofNat a), .ref (ad1 52)])
  rw [hy1]
  have has2 : ∀ v ∈ ([418, qe_I a] : List Nat), qe_rb (qo_n o1) v ∧ v < 4722366482869645213696 ∧ v ≠ 7 := by
    refine List.forall_mem_cons.mpr ⟨⟨qe_rb_R (n := qo_n o1) (k := 52) (by omega), by decide, by decide⟩, List.forall_mem_cons.mpr ⟨⟨qe_rb_int (qe_I_is a), by show 8 * a < _; omega, by show 8 * a ≠ 7; omega⟩, fun v h => absurd h List.not_mem_nil⟩⟩
  have hy2 : ([418, qe_I a] : List Nat).map (qe_v (zE (qZ E L)) ad1) = [.ref (ad1 52), .int (Int32.ofNat a)] := by
    rw [List.map_cons, List.map_cons, List.map_nil, lw_vI]; rfl
  refine lw_call (Z := qZ E L) (j := 249) (nx := 758) (rc := 13) (d2 := 30) (ad := ad1) (n := qo_n o1) (t := qo_t o1) (gs := gs) (A := A) hz (Nat.le_of_ble_eq_true rfl) (qn_invV (Z := qZ E L) (j := 249) (y := yX10_trees) (hM_L_law E L) (hM_X10_trees E L) (qi_L_law) rfl eL_law_755 qv_465 qv_466 qv_467 qv_135 qv_464 qh_X10_trees (by decide) ⟨TX10, 36, rfl⟩) g2 k2 hBz hK hX hA p1 d1 s1 w1 has2 (by rw [hy2]; exact Nat.le_of_ble_eq_true rfl) (by rw [hy2]; exact lw_rc (dp := dp) (ci := 12) (k := 52) (n := qo_n o1) (t := qo_t o1) (ad := ad1) (gs := gs) (As := [.int (Int32.ofNat a)]) hK p1 (by omega) r1 (by decide) rfl) rfl (hl3.1.trans hml.symm) (Nat.le_of_ble_eq_true rfl) (by omega) (by omega) ⟨by omega, by omega⟩ (fun ad2 H2 locs2 x2 w2 p2 d2 s2 => ?_)
  have hl4 : lv_has la3 8 [(5, .int (Int32.ofNat 0)), (0, .ref (E.2.2.1 0)), (1, .ref (ad2 0)), (2, .ref (ad2 52)), (3, .ref (ad2 69)), (4, .int (Int32.ofNat i))] := by
    rw [x2.2 0 (by omega), x2.2 52 (by omega), x2.2 69 (by omega)]; exact hl3
  rw [show qe_v (zE (qZ E L)) ad2 (qo_v o2) = .int (qe_int E.2.2.2 (qo_v o2)) from qe_val_int v2]
  refine @qk_istore qB_L_law 758 6 eL_law_758 p l e R s m args below meth c H2 locs2 _ _ Q la3 _ hB _ 8 _ ⟨_, rfl⟩ hl4 (by decide) (fun la4 hl5 => ?_)
  have hl5 : lv_has la4 8 [(6, .int (qe_int E.2.2.2 (qo_v o2))), (5, .int (Int32.ofNat 0)), (0, .ref (E.2.2.1 0)), (1, .ref (ad2 0)), (2, .ref (ad2 52)), (3, .ref (ad2 69)), (4, .int (Int32.ofNat i))] := hl5
  refine @qk_goto qB_L_law 760 998 _ eL_law_760 (by decide) p l e R s m args below meth c H2 locs2 _ _ Q la4 _ hB ?_
  refine @qk_iinc qB_L_law 998 4 3 (Int32.ofNat 3) eL_law_998 (by decide) p l e R s m args below meth c H2 locs2 _ _ Q la4 _ hB (Int32.ofNat i) 8 _ hl5 (List.mem_of_getElem? (i := 6) rfl) (by decide) (fun la5 hl7 => ?_)
  have hl7 : lv_has la5 8 [(4, .int (Int32.ofNat i + Int32.ofNat 3)), (6, .int (qe_int E.2.2.2 (qo_v o2))), (5, .int (Int32.ofNat 0)), (0, .ref (E.2.2.1 0)), (1, .ref (ad2 0)), (2, .ref (ad2 52)), (3, .ref (ad2 69))] := hl7
  refine @qk_goto qB_L_law 1001 23 _ eL_law_1001 (by decide) p l e R s m args below meth c H2 locs2 _ _ Q la5 _ hB ?_
  rw [show Int32.ofNat i + Int32.ofNat 3 = Int32.ofNat (i + 3) from lw_ad1 i 3] at hl7
  subst f3
  have hfin := kk ad2 H2 locs2 la5 p2 d2 s2 w2 (lv_sub hl7 [3, 4, 5, 6, 0] rfl)
  have z1 : qo_ce (qo_3 o2) = 0 := rfl
  have z2 : qo_sl (qo_3 o2) = 0 := rfl
  rw [z1, z2, show cells + (qo_ce o1 + (qo_ce o2 + 0)) = cells + qo_ce o1 + qo_ce o2 by omega, show slots + (qo_sl o1 + (qo_sl o2 + 0)) = slots + qo_sl o1 + qo_sl o2 by omega] at hfin
  exact hfin

end QLT1
def lw_T (E : qe_E) (a n : Nat) (t : qe_T 10) (r : qe_O 10 × (qe_O 10 × qe_O 10)) : Prop := sf_call 242 [2, qe_I a, 554] n t = some r.1 ∧ qx_con (qZ E 1500) 30 96 [418, qe_I a] (qo_n r.1) (qo_t r.1) [] [r.2.1] ∧ qo_k r.2.1 = 1 ∧ some (qo_3 r.2.1) = some r.2.2 ∧ sf_ok r.1 r.2.1 r.2.2 = true
theorem lw_atM {E : qe_E} {p : Program} {l : Launch} {e : Env} {R : Room} {s : State} {m : MethodId} {args : Array Value} {below : List Frame} {meth : Method} {c : Code} {A : Nat → Prop} {Q : State → Prop} (C0 : lw_cx E p l e R s m args below meth c A) {i a n cells slots γ : Nat} {t : qe_T 10} {r : qe_O 10 × (qe_O 10 × qe_O 10)} (hn : 70 ≤ n) (hi : i + 3 ≤ 1500) (hs0 : E.2.2.2 i = Int32.ofNat 20) (hs1 : E.2.2.2 (i + 1) = Int32.ofNat a) (ha : a < 4294967296) (h : lw_T E a n t r) (h1 : cells + sf_ce r ≤ R.cells) (h2 : slots + sf_sl r ≤ R.slots)
    (k : lw_at E p l e R s m args below meth c A Q (i + 3) (qo_n r.2.2) (qo_t r.2.2) (cells + sf_ce r) (slots + sf_sl r) γ) : lw_at E p l e R s m args below meth c A Q i n t cells slots γ := by
  intro H locs la ad gs hg hP hD hS hwi hl
  obtain ⟨c1, c2, c3, c4, c5, c6⟩ := C0
  obtain ⟨g1, g2, k2, g3, hok⟩ := h
  obtain ⟨f1, k1⟩ := sf_call_ok g1
  have g3 : some (qo_3 r.2.1) = some r.2.2 := g3
  have f3 := Option.some.inj g3
  have k3 : qo_k r.2.2 = 1 := by rw [← f3]; rfl
  unfold sf_ok at hok
  simp only [Bool.and_eq_true] at hok
  obtain ⟨⟨⟨v1, n1, r1⟩, ⟨v2, n2⟩, r2⟩, ⟨v3, n3⟩, ⟨r3, r4⟩, r5⟩ := hok
  exact lw_itM_trees (E := E) (L := 1500) (df := []) (dp := 10) (fun q hq => absurd hq List.not_mem_nil) c1 c2 c3 c4 c5 c6 hP hD hS hwi hn hl hi (by decide) hs0 hs1 ha f1 k1 (Nat.eq_of_beq_eq_true v1) (Nat.le_of_ble_eq_true n1) (Nat.eq_of_beq_eq_true r1) g2 k2 v2 (Nat.le_of_ble_eq_true n2) (Nat.eq_of_beq_eq_true r2) f3 k3 (Nat.eq_of_beq_eq_true v3) (Nat.le_of_ble_eq_true n3) (Nat.eq_of_beq_eq_true r3) (Nat.eq_of_beq_eq_true r4) (by rw [Nat.eq_of_beq_eq_true r5]; exact (qe_i2l_ok v2).2) h1 h2 (fun ad2 H2 locs2 la2 p2 d2 s2 w2 l2 => k H2 locs2 la2 ad2 gs hg p2 d2 s2 w2 l2)
theorem lw_loopM {E : qe_E} {p : Program} {l : Launch} {e : Env} {R : Room} {s : State} {m : MethodId} {args : Array Value} {below : List Frame} {meth : Method} {c : Code} {A : Nat → Prop} {Q : State → Prop} (C0 : lw_cx E p l e R s m args below meth c A) {tP : qe_T 10} {r : qe_O 10 × (qe_O 10 × qe_O 10)} {N z ce sl : Nat} (hw : qe_wi 10 70 tP) (h : lw_T E 0 70 tP r) (hnr : qo_n r.2.2 = 70 + N) (h0 : ∀ k, k < 70 → qe_rd 10 (qo_t r.2.2) k = qe_rd 10 tP k) (hl : ∀ k, 70 ≤ k → k < 70 + N → (qe_rd 10 (qo_t r.2.2) k).1 = 101 ∧ (qe_rd 10 (qo_t r.2.2) k).2.1 = z) (hce : sf_ce r = ce) (hsl : sf_sl r = sl) :
    ∀ (M i cells slots γ : Nat), i + 3 * M ≤ 1500 → (∀ k, k < M → E.2.2.2 (i + 3 * k) = Int32.ofNat 20 ∧ E.2.2.2 (i + 3 * k + 1) = Int32.ofNat 0) → cells + ce * M ≤ R.cells → slots + sl * M ≤ R.slots → lw_at E p l e R s m args below meth c A Q (i + 3 * M) 70 tP (cells + ce * M) (slots + sl * M) (γ + N * z * M) → lw_at E p l e R s m args below meth c A Q i 70 tP cells slots γ
  | 0, i, cells, slots, γ, _, _, _, _, k => k
  | M + 1, i, cells, slots, γ, hi, hs, h1, h2, k => by
    obtain ⟨q1, q2⟩ := hs 0 (by omega)
    have e1 : ce * (M + 1) = ce + ce * M := by rw [Nat.mul_add, Nat.mul_one, Nat.add_comm]
    have e2 : sl * (M + 1) = sl + sl * M := by rw [Nat.mul_add, Nat.mul_one, Nat.add_comm]
    have e3 : N * z * (M + 1) = N * z + N * z * M := by rw [Nat.mul_add, Nat.mul_one, Nat.add_comm]
    have k2 := lw_loopM C0 hw h hnr h0 hl hce hsl M (i + 3) (cells + ce) (slots + sl) (γ + N * z) (by omega) (fun k9 h9 => by
      obtain ⟨a1, a2⟩ := hs (k9 + 1) (by omega)
      refine ⟨?_, ?_⟩
      · rw [show i + 3 + 3 * k9 = i + 3 * (k9 + 1) by omega]; exact a1
      · rw [show i + 3 + 3 * k9 + 1 = i + 3 * (k9 + 1) + 1 by omega]; exact a2) (by omega) (by omega) (by
      rw [show i + 3 + 3 * M = i + 3 * (M + 1) by omega, show cells + ce + ce * M = cells + ce * (M + 1) by omega, show slots + sl + sl * M = slots + sl * (M + 1) by omega, show γ + N * z + N * z * M = γ + N * z * (M + 1) by omega]; exact k)
    refine lw_atM C0 (by decide) (by omega) q1 q2 (by decide) h (by rw [hce]; omega) (by rw [hsl]; omega) ?_
    rw [hce, hsl, hnr]
    exact lw_forget h0 hw hl k2
noncomputable def ck_runM (jj : Nat) (as : List Nat) (n : Nat) (t : qe_T 10) (f : qe_O 10 → Bool) : Bool := Option.rec (motive := fun _ => Bool) false (fun l => List.rec (motive := fun _ => Bool) false (fun o os _ => List.rec (motive := fun _ => Bool) (f o) (fun _ _ _ => false) os) l) (qe_runM (qd_P [] 1500) wm_F 29 1000000 30 jj 0 (qe_lcl as 0 qe_ls0) [] (n, t, [], 0, 0))
theorem ck_runM_ok {jj n : Nat} {as : List Nat} {t : qe_T 10} {f : qe_O 10 → Bool} (h : ck_runM jj as n t f = true) : ∃ o, qe_runM (qd_P [] 1500) wm_F 29 1000000 30 jj 0 (qe_lcl as 0 qe_ls0) [] (n, t, [], 0, 0) = some [o] ∧ f o = true := by
  unfold ck_runM at h
  cases hr : qe_runM (qd_P [] 1500) wm_F 29 1000000 30 jj 0 (qe_lcl as 0 qe_ls0) [] (n, t, [], 0, 0) with
  | none => rw [hr] at h; cases h
  | some l =>
    rw [hr] at h
    cases l with
    | nil => cases h
    | cons o os =>
      cases os with
      | nil => exact ⟨o, rfl, h⟩
      | cons b os => cases h
noncomputable def ck_tailM (t : qe_T 10) : Bool := ck_runM 96 [418, qe_I 0] 70 t fun o2 => ((Nat.beq (qo_k o2) 1 && Nat.beq (qo_v o2) 16) && ((Nat.beq (qo_n o2) 828 && Nat.beq (qe_rd 10 (qo_t o2) 52).1 12) && (Nat.beq (qo_ce o2) 758 && Nat.beq (qo_sl o2) 15160))) && ck_3 (qo_3 o2) fun o3 => ((Nat.beq (qo_k o3) 1 && Nat.beq (qo_v o3) 0) && (Nat.beq (qo_n o3) 828 && (Nat.beq (qo_ce o3) 0 && Nat.beq (qo_sl o3) 0))) && (((Nat.beq (qe_rd 10 (qo_t o3) 69).1 102 && Nat.beq (qe_rd 10 (qo_t o3) 69).2.1 1) && Nat.beq (qe_get (qe_rd 10 (qo_t o3) 69).2.2 0) (qe_i2l 16)) && (ck_rd 70 (qo_t o3) wt_P && ck_left 70 758 20 (qo_t o3)))
end QLT
