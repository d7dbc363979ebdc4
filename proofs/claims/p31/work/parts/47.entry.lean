/-! THE LAW, BY HAND, 4: its entry; made by wip/engine/gen47.py -/
section QLN
section QLV
variable {dp : Nat}
set_option maxHeartbeats 1000000 in
theorem lw_callv {Z : qe_Z} {j pc nx jj na rc d2 : Nat} {as : List Nat} {n : Nat} {t : qe_T dp} {o : qe_O dp} (hz : qz_ok Z) (hlo2 : (zM Z jj).2.2.1 ≤ 24) (hc : qc_inv Z j pc nx jj na rc) (hcon : qx_con Z d2 jj as n t [] [o]) (hk1 : qo_k o = 0)
    {p : Program} {l : Launch} {e : Env} {R : Room} {s : State} {m : MethodId} {args : Array Value} {below : List Frame} {meth : Method} {c : Code} {H : Heap} {locs : List Loc} {cells slots : Nat} {Q : State → Prop} {la : Array Slot} {rest : List Value} {A : Nat → Prop} {ad : Nat → Nat} {gs : va_W}
    (hB : qe_bd (zM Z j) p l s m args meth c) (hK : va_K (zE Z).1 (zc Z) (qe_tys (zE Z)) s) (hX : zX Z A s s.heap) (hA : ∀ q, s.heap.size ≤ q → A q) (hP : va_P (zE Z).1 (zc Z) (qe_ws dp (zE Z) ad n t ++ gs) H) (hD : va_D A (qe_ws dp (zE Z) ad n t ++ gs)) (hS : va_S A s.heap H locs) (hwi : qe_wi dp n t) (has : ∀ v ∈ as, qe_rb n v ∧ v < 4722366482869645213696 ∧ v ≠ 7)
    (hlen : (lg_sl (as.map (qe_v (zE Z) ad))).length ≤ (zM Z jj).2.2.1) (hrcv : qx_rc Z rc (as.map (qe_v (zE Z) ad)) H s) (hna : as.length = na) (hsz : la.size = c.maxLocals) (hrest : qx_cat rest ≤ 8) (hf : d2 + 21 ≤ R.frames) (hlo : 60 * d2 + 300 ≤ R.locals) (hcs : cells + qo_ce o ≤ R.cells ∧ slots + qo_sl o ≤ R.slots)
    (kk : ∀ (ad2 : Nat → Nat) (H2 : Heap) (locs2 : List Loc), qx_ex ad ad2 n (qo_n o) → qe_wi dp (qo_n o) (qo_t o) → va_P (zE Z).1 (zc Z) (qe_ws dp (zE Z) ad2 (qo_n o) (qo_t o) ++ gs) H2 → va_D A (qe_ws dp (zE Z) ad2 (qo_n o) (qo_t o) ++ gs) → va_S A s.heap H2 locs2 → W p l e R s m args below meth c H2 locs2 (cells + qo_ce o) (slots + qo_sl o) Q (F0 m nx la rest)) :
    W p l e R s m args below meth c H locs cells slots Q (F0 m pc la ((as.map (qe_v (zE Z) ad)).reverse ++ rest)) := by
  have hP1 := lz_P_l hP
  have hD1 := lz_D_l hD
  have hfree := qe_free hD1 hS hA
  have hM := hcon l ad H.size hB.2.2.2.2.2.2.2.2 hwi has (qe_cok_nil _) hlen
  have hXH : zX Z A s H := hz.2.1 A s s.heap H hX (fun a h1 h2 => hS.2.1 a h1 h2)
  have hXc : zX Z (va_A (qe_ws dp (zE Z) ad n t) H.size) s H := hz.2.2 A _ s H hfree hXH
  have hm1 : qe_mxc [o] = qo_ce o := rfl
  have hm2 : qe_mxs [o] = qo_sl o := rfl
  obtain ⟨hnx, hrun⟩ := hc (la := la) (rest := rest) (locs := locs) (cells := cells) (slots := slots) (e := e) (below := below) (R := R) hB hX hM rfl rfl
    (by show d2 + 20 + 1 ≤ _; omega) (by show 8 + ((zM Z jj).2.2.1 + 11) + (60 * d2 + 200) ≤ _; omega)
    (fun a U g2 mk q => ⟨q.1, q.2.1, q.2.2.1, va_K.moved (u := U) (U := U.calling g2 mk a) (Vm.Alike.refl U.vm) q.2.2.2.1, q.2.2.2.2.1, hz.1 _ U (U.calling g2 mk a) _ (State.WarmedH.refl U) q.2.2.2.2.2⟩)
    hrcv (fun U hU hW => ⟨rfl, by rw [hU], by rw [hU]; exact hP1, va_K.moved hW.alike hK, hD1.weaken (fun _ _ _ _ => trivial), by rw [hU]; exact hz.1 _ s U H hW hXc⟩)
    (by rw [List.length_map]; exact hna) hsz hrest (by rw [hm1, hm2]; exact hcs)
  subst hnx
  intro T hT X
  rcases hrun T hT X with ⟨v, st₀, t1, T2, L, h0, X2, hL, e1, e3, ⟨⟨o1, ho, ad2, x1, x2, x3, x4, x5, hkind⟩, x6⟩, st⟩ | ⟨q, st₀, t1, T2, L, E9, ce, h0, X2, hL, e1, e3, ⟨⟨o1, ho, i, hk2, hE, -⟩, x6⟩, hce, hcv, hcl, st⟩
  · have ho1 := List.mem_singleton.mp ho
    subst ho1
    obtain ⟨-, kk2, kk3⟩ := vx_keep (A1 := va_A (qe_ws dp (zE Z) ad n t) H.size) (free := va_A (qe_ws dp (zE Z) ad n t) H.size) h0 e1 hS (fun q _ hq => hfree q hq) hfree hL x6
    obtain ⟨j1, j2⟩ := lz_join hP hD kk2 (by rw [e1]; exact x4) x5 hfree
    rcases hkind with ⟨c1, c2⟩ | ⟨c1, c2, c3⟩
    · cases c2
      obtain ⟨t2, a1, b1⟩ := kk ad2 T2.heap (locs ++ L) x1 x3 j1 j2 kk3 T2 rfl X2
      exact ⟨t2, st t2 a1, b1⟩
    · rw [hk1] at c1; cases c1
  · have ho1 := List.mem_singleton.mp ho
    subst ho1
    rw [hk1] at hk2
    omega
end QLV
theorem lw_new {E : qe_E} {p : Program} {l : Launch} {e : Env} {R : Room} {s : State} {m : MethodId} {args : Array Value} {below : List Frame} {meth : Method} {c : Code} {A : Nat → Prop} {Q : State → Prop} (C0 : lw_cx E p l e R s m args below meth c A) {pc nx ci N nd n cells slots : Nat} {t : qe_T 10} {fs : List Value} {H : Heap} {locs : List Loc} {la : Array Slot} {rest : List Value} {ad : Nat → Nat} (hc : qc_new vwCl qB_L_law pc nx ci N fs) (hci : ci < 100) (hfs : ∀ (E : qe_E) (ad : Nat → Nat), (List.range N).map (fun k => qe_v E ad (qe_get nd k)) = fs) (hnd : nd < 2 ^ (72 * N)) (hnb : ∀ k, k < N → qe_is 2 (qe_get nd k) = false) (hn : n < 1024)
    (hP : va_P E.1 vwCl (qe_ws 10 E ad n t) H) (hD : va_D A (qe_ws 10 E ad n t)) (hS : va_S A s.heap H locs) (hwi : qe_wi 10 n t) (h1 : cells + 1 ≤ R.cells) (h2 : slots + N ≤ R.slots)
    (kk : ∀ (q : Nat) (H1 : Heap), va_P E.1 vwCl (qe_ws 10 E (va_up ad n q) (n + 1) (qe_wr 10 t n (ci, N, nd))) H1 → va_D A (qe_ws 10 E (va_up ad n q) (n + 1) (qe_wr 10 t n (ci, N, nd))) → va_S A s.heap H1 locs → qe_wi 10 (n + 1) (qe_wr 10 t n (ci, N, nd)) → W p l e R s m args below meth c H1 locs (cells + 1) (slots + N) Q (F0 m nx la (.ref q :: rest))) :
    W p l e R s m args below meth c H locs cells slots Q (F0 m pc la rest) := by
  obtain ⟨hB, hK, hX, hA, c5, c6⟩ := C0
  have hrb : ∀ j, qe_rb n (qe_get nd j) := fun j => by
    by_cases hj : j < N
    · intro h2; rw [hnb j hj] at h2; cases h2
    · rw [qe_get_big hnd (Nat.le_of_not_lt hj)]; exact qe_rb_int rfl
  have hent : ∀ q, qe_ws 10 E ad n t ++ [(q, .inr (ci, fs))] = qe_ws 10 E (va_up ad n q) (n + 1) (qe_wr 10 t n (ci, N, nd)) := fun q => by
    have := qe_ws_push (E := E) (ad := ad) (q := q) (c := (ci, N, nd)) hwi hn hrb
    rw [qe_ent_obj (show Nat.blt ci 100 = true from Nat.ble_eq_true_of_le hci), hfs] at this
    exact this
  refine hc hB hK hP hD hS hA h1 h2 (fun q H1 g1 g2 g3 => ?_)
  rw [hent] at g1 g2
  exact kk q H1 g1 g2 g3 (qe_wi_push hwi hn hrb)
theorem lw_entry {E : qe_E} {p : Program} {l : Launch} {e : Env} {R : Room} {s : State} {m : MethodId} {args : Array Value} {below : List Frame} {meth : Method} {c : Code} {A : Nat → Prop} {Q : State → Prop} (C0 : lw_cx E p l e R s m args below meth c A) {la : Array Slot} (h1 : 70 ≤ R.cells) (h2 : 6319 ≤ R.slots) (hl : lv_has la 8 [(0, .ref (E.2.2.1 0))]) (k : lw_at E p l e R s m args below meth c A Q 0 70 wt_Z 70 6319 0) : W p l e R s m args below meth c s.heap [] 0 0 Q (F0 m 0 la []) := by
  have C1 := C0
  obtain ⟨hB, hK, hX, hA, c5, c6⟩ := C0
  have hBz : qe_bd (zM (qZ E 1500) 249) p l s m args meth c := hB
  have hml : c.maxLocals = 8 := hB.2.2.1
  have hz := qZ_ok E 1500
  have hd : qe_dok E.2.2.2 [] := fun q hq => absurd hq List.not_mem_nil
  refine lw_new (ci := 11) (N := 13) (nd := qn_11) (fs := qfs_11) (n := 0) (t := qe_nil 10) (ad := fun _ => 0) C1 (nx := 3) (qk_new vwCl (B := qB_L_law) (C := RX9) (T := TX9) (N := 13) (fs := qfs_11) eL_law_0 (fun w h => qi_L_law w (qu_11 w h)) tyX9_ok rfl (qi_L_law _ qv_435) (qi_L_law _ qv_436) (qi_L_law _ qv_79) qfb_11) (by decide) qfa_11 qfc_11 qfd_11 (by decide) (show va_P E.1 vwCl [] s.heap from fun k q h => by simp at h) (show va_D A [] from ⟨fun i j p q h => by simp at h, fun k q h => by simp at h⟩) va_S.rf ⟨Nat.zero_le _, fun k h => absurd h (Nat.not_lt_zero k)⟩ (by omega) (by omega) (fun q0 H0 p0 d0 s0 w0 => ?_)
  refine @qk_dup qB_L_law 3 eL_law_3 _ rfl p l e R s m args below meth c H0 [] _ _ Q la _ hB ?_
  obtain ⟨oI, fI, gI⟩ := ck_run_ok wr_I
  obtain ⟨i1, i2, i3, i4, i5, i6⟩ := ck_o_ok gI
  have hxI : ([Value.ref q0, .ref q0] : List Value) = ([2].map (qe_v (zE (qZ E 1500)) (va_up (fun _ => 0) 0 q0))).reverse ++ [.ref q0] := rfl
  rw [hxI]
  refine lw_callv (Z := qZ E 1500) (j := 249) (nx := 7) (rc := 12) (d2 := 30) (ad := va_up (fun _ => 0) 0 q0) (n := 1) (t := qe_wr 10 (qe_nil 10) 0 (11, 13, qn_11)) (gs := []) (A := A) hz (Nat.le_of_ble_eq_true rfl) (qn_invI (Z := qZ E 1500) (j := 249) (y := yX9_init) (hM_L_law E 1500) (hM_X9_init E 1500) (qi_L_law) rfl eL_law_4 qv_438 qv_439 rfl qv_79 qv_437 qh_X9_init (by decide) ⟨TX9, 13, rfl⟩) (lw_con hd (qmb_X9_init E 1500) fI) i1 hBz hK hX hA (by rw [List.append_nil]; exact p0) (by rw [List.append_nil]; exact d0) s0 w0 (List.forall_mem_cons.mpr ⟨⟨qe_rb_R (n := 1) (k := 0) (by omega), by decide, by decide⟩, fun v h => absurd h List.not_mem_nil⟩) (Nat.le_of_ble_eq_true rfl) (show qx_rc (qZ E 1500) 12 [.ref (va_up (fun _ => 0) 0 q0 0)] H0 s from lw_rc (dp := 10) (ci := 11) (k := 0) (n := 1) (t := qe_wr 10 (qe_nil 10) 0 (11, 13, qn_11)) (ad := va_up (fun _ => 0) 0 q0) (gs := []) (As := []) hK (by rw [List.append_nil]; exact p0) (by decide) (by rw [qe_rd_wr]; rfl) (by decide) rfl) rfl (hl.1.trans hml.symm) (Nat.le_of_ble_eq_true rfl) (by omega) (by omega) (by rw [i4, i5]; exact ⟨by omega, by omega⟩) (fun ad1 H1 locs1 x1 w1 p1 d1 s1 => ?_)
  rw [i3, i6, List.append_nil] at p1 d1
  rw [i3, i6] at w1
  rw [i4, i5]
  have hq0 : q0 = ad1 0 := (x1.2 0 (by omega)).symm
  rw [hq0]
  refine @qk_astore_n qB_L_law 7 1 1 eL_law_7 rfl p l e R s m args below meth c H1 locs1 _ _ Q la _ hB _ 8 _ ⟨_, rfl⟩ hl (by decide) (fun la1 hl1 => ?_)
  have hl1 : lv_has la1 8 [(1, .ref (ad1 0)), (0, .ref (E.2.2.1 0))] := hl1
  refine lw_new (ci := 12) (N := 36) (nd := qn_12) (fs := qfs_12) (n := 52) (t := wt_I) (ad := ad1) C1 (nx := 11) (qk_new vwCl (B := qB_L_law) (C := RX10) (T := TX10) (N := 36) (fs := qfs_12) eL_law_8 (fun w h => qi_L_law w (qu_12 w h)) tyX10_ok rfl (qi_L_law _ qv_440) (qi_L_law _ qv_441) (qi_L_law _ qv_135) qfb_12) (by decide) qfa_12 qfc_12 qfd_12 (by decide) p1 d1 s1 w1 (by omega) (by omega) (fun q2 H2 p2 d2 s2 w2 => ?_)
  refine @qk_dup qB_L_law 11 eL_law_11 _ rfl p l e R s m args below meth c H2 locs1 _ _ Q la1 _ hB ?_
  obtain ⟨oJ, fJ, gJ⟩ := ck_run_ok wr_J
  obtain ⟨j1, j2, j3, j4, j5, j6⟩ := ck_o_ok gJ
  have hxJ : ([Value.ref q2, .ref q2] : List Value) = ([418].map (qe_v (zE (qZ E 1500)) (va_up ad1 52 q2))).reverse ++ [.ref q2] := rfl
  rw [hxJ]
  refine lw_callv (Z := qZ E 1500) (j := 249) (nx := 15) (rc := 13) (d2 := 30) (ad := va_up ad1 52 q2) (n := 53) (t := qe_wr 10 wt_I 52 (12, 36, qn_12)) (gs := []) (A := A) hz (Nat.le_of_ble_eq_true rfl) (qn_invI (Z := qZ E 1500) (j := 249) (y := yX10_init) (hM_L_law E 1500) (hM_X10_init E 1500) (qi_L_law) rfl eL_law_12 qv_443 qv_444 rfl qv_135 qv_442 qh_X10_init (by decide) ⟨TX10, 36, rfl⟩) (lw_con hd (qmb_X10_init E 1500) fJ) j1 hBz hK hX hA (by rw [List.append_nil]; exact p2) (by rw [List.append_nil]; exact d2) s2 w2 (List.forall_mem_cons.mpr ⟨⟨qe_rb_R (n := 53) (k := 52) (by omega), by decide, by decide⟩, fun v h => absurd h List.not_mem_nil⟩) (Nat.le_of_ble_eq_true rfl) (show qx_rc (qZ E 1500) 13 [.ref (va_up ad1 52 q2 52)] H2 s from lw_rc (dp := 10) (ci := 12) (k := 52) (n := 53) (t := qe_wr 10 wt_I 52 (12, 36, qn_12)) (ad := va_up ad1 52 q2) (gs := []) (As := []) hK (by rw [List.append_nil]; exact p2) (by decide) (by rw [qe_rd_wr]; rfl) (by decide) rfl) rfl (hl1.1.trans hml.symm) (Nat.le_of_ble_eq_true rfl) (by omega) (by omega) (by rw [j4, j5]; exact ⟨by omega, by omega⟩) (fun ad3 H3 locs3 x3 w3 p3 d3 s3 => ?_)
  rw [j3, j6, List.append_nil] at p3 d3
  rw [j3, j6] at w3
  rw [j4, j5]
  have hq2 : q2 = ad3 52 := (x3.2 52 (by omega)).symm
  have hq1 : ad1 0 = ad3 0 := (x3.2 0 (by omega)).symm
  rw [hq2]
  rw [hq1] at hl1
  refine @qk_astore_n qB_L_law 15 2 2 eL_law_15 rfl p l e R s m args below meth c H3 locs3 _ _ Q la1 _ hB _ 8 _ ⟨_, rfl⟩ hl1 (by decide) (fun la3 hl3 => ?_)
  have hl3 : lv_has la3 8 [(2, .ref (ad3 52)), (1, .ref (ad3 0)), (0, .ref (E.2.2.1 0))] := hl3
  refine @qk_iconst qB_L_law 16 1 (Int32.ofNat 1) eL_law_16 (by decide) p l e R s m args below meth c H3 locs3 _ _ Q la3 _ hB ?_
  refine (qk_newa_long vwCl (B := qB_L_law) eL_law_17 (qi_L_law _ qv_445)) hB hK p3 d3 s3 hA (Int32.ofNat 1) 1 (by decide) (by decide) (by decide) (by omega) (by omega) (fun q4 cA H4 k4 p4 d4 s4 => ?_)
  have hcA : cA = E.2.1.2.2 := by
    have g1 := (k4.2 3 (cA, .long) rfl).2
    have g2 := (hK.2 2 (E.2.1.2.2, .long) rfl).2
    exact Option.some.inj (g1.symm.trans g2)
  subst hcA
  have hrz : ∀ j, qe_rb 69 (qe_get (102, 1, 0).2.2 j) := fun j h9 => by
    rw [show qe_get (102, 1, 0).2.2 j = 0 from qe_get_zero j] at h9; cases h9
  have hent : qe_ws 10 E ad3 69 wt_J ++ [(q4, (.inl (E.2.1.2.2, 1, .inr (.inl (fun _ => 0))) : va_E))] = qe_ws 10 E (va_up ad3 69 q4) 70 wt_Z := by
    have := qe_ws_push (E := E) (ad := ad3) (q := q4) (c := (102, 1, 0)) w3 (by decide) hrz
    rw [qe_teq_ok 10 _ _ wr_Z] at this
    rw [← this, qe_ent_long, qe_z_lng]
  have p5 : va_P E.1 vwCl (qe_ws 10 E (va_up ad3 69 q4) 70 wt_Z) H4 := by rw [← hent]; exact p4
  have d5 : va_D A (qe_ws 10 E (va_up ad3 69 q4) 70 wt_Z) := by rw [← hent]; exact d4
  have w4 : qe_wi 10 70 wt_Z := by
    have := qe_wi_push (c := (102, 1, 0)) w3 (by decide) hrz
    rw [qe_teq_ok 10 _ _ wr_Z] at this
    exact this
  refine @qk_astore_n qB_L_law 19 3 3 eL_law_19 rfl p l e R s m args below meth c H4 locs3 _ _ Q la3 _ hB _ 8 _ ⟨_, rfl⟩ hl3 (by decide) (fun la4 hl4 => ?_)
  have hl4 : lv_has la4 8 [(3, .ref q4), (2, .ref (ad3 52)), (1, .ref (ad3 0)), (0, .ref (E.2.2.1 0))] := hl4
  refine @qk_iconst qB_L_law 20 0 (Int32.ofNat 0) eL_law_20 (by decide) p l e R s m args below meth c H4 locs3 _ _ Q la4 _ hB ?_
  refine @qk_istore qB_L_law 21 4 eL_law_21 p l e R s m args below meth c H4 locs3 _ _ Q la4 _ hB _ 8 _ ⟨_, rfl⟩ hl4 (by decide) (fun la5 hl5 => ?_)
  have hl5 : lv_has la5 8 [(4, .int (Int32.ofNat 0)), (3, .ref q4), (2, .ref (ad3 52)), (1, .ref (ad3 0)), (0, .ref (E.2.2.1 0))] := hl5
  have hfin := k H4 locs3 la5 (va_up ad3 69 q4) [] (Nat.zero_le _) (by rw [List.append_nil]; exact p5) (by rw [List.append_nil]; exact d5) s4 w4 (lv_sub hl5 [4, 3, 2, 1, 0] rfl)
  exact hfin
end QLN
