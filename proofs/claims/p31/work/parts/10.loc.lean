/-! ENGINE, part 8: loads, stores, branches, switches -/
section QEY
variable {dp : Nat}
theorem qe_srt_ok {E : qe_E} {ad : Nat → Nat} {s v : Nat} (hs : s < 3) (h : qe_is s v = true) : qe_srt s (qe_v E ad v) := by
  have h3 : s = 0 ∨ s = 1 ∨ s = 2 := by omega
  rcases h3 with rfl | rfl | rfl
  · exact ⟨_, qe_val_int h⟩
  · exact ⟨_, qe_val_lng h⟩
  · exact ⟨_, qe_val_ref h⟩
theorem qe_ne7 {s v : Nat} (hs : s < 3) (h : qe_is s v = true) : v ≠ 7 := by
  intro e
  have := qe_is_eq h
  omega
theorem qe_lim_lt {v : Nat} (h : Nat.blt v qe_lim = true) : v < 4722366482869645213696 := Nat.le_of_ble_eq_true h
theorem sn_ld {Z : qe_Z} {j pc nx s a : Nat} {nt : qe_N dp} (hs : s < 3) (hc : qc_ld (zM Z j) pc nx a s) (ha : a < (zM Z j).2.2.1) (hn : qx_sn Z j nx nt) : qx_sn Z j pc (ql_ld s a nt) := by
  intro k c d hk hcc ls st g outs h
  obtain ⟨hi, h1⟩ := qe_if_ok h
  have hg := hn k c d hk hcc ls _ g outs h1
  intro p l e R s0 m args below meth c0 A H locs la ad ad0 n0 QC XC hst hdy hfin
  obtain ⟨d1, d2, d3, d4, d5, d6, d7, d8, d9, d10⟩ := hdy
  refine hc hst.1 _ (qe_lh_at d4 ha (qe_ne7 hs hi)) (qe_srt_ok hs hi) ?_
  exact hg p l e R s0 m args below meth c0 A H locs la ad ad0 n0 QC XC hst ⟨d1, d2, d3, d4, d5, d6, fun v hv => by
    rcases List.mem_cons.mp hv with q | q
    · rw [q]; exact d6 a
    · exact d7 v q, d8, d9, d10⟩ hfin
theorem qe_rb_set {n ls i v : Nat} (h : ∀ k, qe_rb n (qe_get ls k)) (hv : qe_rb n v) (hl : v < 4722366482869645213696) : ∀ k, qe_rb n (qe_get (qe_set ls i v) k) := by
  intro k
  rw [qe_get_set _ _ _ _ hl]
  by_cases hk : k = i
  · rw [if_pos hk]; exact hv
  · rw [if_neg hk]; exact h k
theorem sn_st1 {Z : qe_Z} {j pc nx s a : Nat} {nt : qe_N dp} (hs : s < 3) (hc : qc_s1 (zM Z j) pc nx a s) (ha : a < (zM Z j).2.2.1) (hn : qx_sn Z j nx nt) : qx_sn Z j pc (ql_st1 s a nt) := by
  intro k c d hk hcc ls st g outs h
  obtain ⟨v, r, e1, h1⟩ := qe_hd_ok h
  subst e1
  obtain ⟨hi, h2⟩ := qe_if_ok h1
  rw [Bool.and_eq_true, Bool.and_eq_true] at hi
  obtain ⟨i1, i2, i3⟩ := hi
  have hg := hn k c d hk hcc _ r g outs h2
  have hl := qe_lim_lt i3
  intro p l e R s0 m args below meth c0 A H locs la ad ad0 n0 QC XC hst hdy hfin
  obtain ⟨d1, d2, d3, d4, d5, d6, d7, d8, d9, d10⟩ := hdy
  refine hc hst.1 (qe_v (zE Z) ad v) _ _ (qe_srt_ok hs i1) (qe_lh_has d4) ha (fun la2 h' => ?_)
  exact hg p l e R s0 m args below meth c0 A H locs la2 ad ad0 n0 QC XC hst ⟨d1, d2, d3, qe_lh_st1 (la := la) hl (qe_pl_ok i2) h', d5, qe_rb_set d6 (d7 v List.mem_cons_self) hl, fun w hw => d7 w (List.mem_cons_of_mem _ hw), d8, d9, d10⟩ hfin
theorem sn_st2 {Z : qe_Z} {j pc nx a : Nat} {nt : qe_N dp} (hc : qc_s2 (zM Z j) pc nx a) (ha : a + 1 < (zM Z j).2.2.1) (hn : qx_sn Z j nx nt) : qx_sn Z j pc (ql_st2 a nt) := by
  intro k c d hk hcc ls st g outs h
  obtain ⟨v, r, e1, h1⟩ := qe_hd_ok h
  subst e1
  obtain ⟨hi, h2⟩ := qe_if_ok h1
  rw [Bool.and_eq_true, Bool.and_eq_true] at hi
  obtain ⟨i1, i2, i3⟩ := hi
  have hg := hn k c d hk hcc _ r g outs h2
  have hl := qe_lim_lt i3
  intro p l e R s0 m args below meth c0 A H locs la ad ad0 n0 QC XC hst hdy hfin
  obtain ⟨d1, d2, d3, d4, d5, d6, d7, d8, d9, d10⟩ := hdy
  refine hc hst.1 (qe_v (zE Z) ad v) _ _ (qe_srt_ok (by decide) i1) (qe_lh_has d4) ha (fun la2 h' => ?_)
  exact hg p l e R s0 m args below meth c0 A H locs la2 ad ad0 n0 QC XC hst ⟨d1, d2, d3, qe_lh_st2 (la := la) hl (qe_pl_ok i2) h', d5, qe_rb_set (qe_rb_set d6 (d7 v List.mem_cons_self) hl) qe_rb_7 (by decide), fun w hw => d7 w (List.mem_cons_of_mem _ hw), d8, d9, d10⟩ hfin
theorem sn_inc {Z : qe_Z} {j pc nx a i : Nat} {df : qe_Df} {nt : qe_N dp} (hd : qe_dok (zE Z).2.2.2 df) (hc : qc_inc (zM Z j) pc nx a (Int32.ofNat i)) (ha : a < (zM Z j).2.2.1) (hn : qx_sn Z j nx nt) : qx_sn Z j pc (ql_inc df a i nt) := by
  intro k c d hk hcc ls st g outs h
  obtain ⟨z, hz, h1⟩ := qe_bind_ok h
  obtain ⟨hi, h2⟩ := qe_if_ok h1
  rw [Bool.and_eq_true] at hi
  obtain ⟨i2, i3⟩ := hi
  obtain ⟨z1, z2, z3, z4⟩ := qe_bin_ok hd hz
  have hg := hn k c d hk hcc _ st g outs h2
  have hl := qe_lim_lt i3
  intro p l e R s0 m args below meth c0 A H locs la ad ad0 n0 QC XC hst hdy hfin
  obtain ⟨d1, d2, d3, d4, d5, d6, d7, d8, d9, d10⟩ := hdy
  have e1 : qe_v (zE Z) ad (qe_get ls a) = .int (qe_int (zE Z).2.2.2 (qe_get ls a)) := qe_val_int z1
  have e3 : qe_v (zE Z) ad z = .int (qe_int (zE Z).2.2.2 (qe_get ls a) + Int32.ofNat i) := by
    have e4 : qe_v (zE Z) ad z = .int (qe_int (zE Z).2.2.2 z) := qe_val_int z3
    rw [e4, z4, qe_I_int]; rfl
  refine hc hst.1 (qe_int (zE Z).2.2.2 (qe_get ls a)) _ _ (qe_lh_has d4) (by rw [← e1]; exact qe_ll_mem ha (qe_ne7 (by decide) z1)) ha (fun la2 h' => ?_)
  rw [← e3] at h'
  exact hg p l e R s0 m args below meth c0 A H locs la2 ad ad0 n0 QC XC hst ⟨d1, d2, d3, qe_lh_st1 (la := la) hl (qe_pl_ok i2) h', d5, qe_rb_set d6 (qe_rb_int z3) hl, d7, d8, d9, d10⟩ hfin
theorem qe_go2_ok {rho : Nat → Int32} {g : qe_G dp} {x y : Nat} {f : Nat → qe_G dp → qe_R1 dp} {outs : List (qe_O dp)} (hc : qe_cok rho (qg_cx g)) (h : qe_go2 g x y f = some outs) : ∃ (cx2 : qe_Cx) (oa : List (qe_O dp)), f (qe_c3 (qe_so (qe_int rho x)) (qe_so (qe_int rho y))) (qg_wc g cx2) = some oa ∧ (∀ o ∈ oa, o ∈ outs) ∧ qe_cok rho cx2 := by
  unfold qe_go2 at h
  cases hb : (qe_sym x || qe_sym y)
  · rw [hb] at h
    rw [Bool.or_eq_false_iff] at hb
    refine ⟨qg_cx g, outs, ?_, fun o ho => ho, hc⟩
    have e1 : qe_int rho x = Int32.ofNat (x / 8) := by unfold qe_int; rw [hb.1]; rfl
    have e2 : qe_int rho y = Int32.ofNat (y / 8) := by unfold qe_int; rw [hb.2]; rfl
    rw [e1, e2, qe_so_of, qe_so_of]
    exact h
  · rw [hb] at h
    obtain ⟨L, hL, h2⟩ := qe_bind_ok (show Option.bind (qe_cmp (qg_cx g) x y qe_foI) _ = some outs from h)
    obtain ⟨q, q1, q2, q3⟩ := qe_cmpI_ok hc hL
    obtain ⟨oa, o1, o2⟩ := qe_each_ok h2 q q1
    exact ⟨q.1, oa, by rw [← q3]; exact o1, o2, q2⟩
theorem qe_go2L_ok {rho : Nat → Int32} {g : qe_G dp} {x y : Nat} {f : Nat → qe_G dp → qe_R1 dp} {outs : List (qe_O dp)} (hc : qe_cok rho (qg_cx g)) (h : qe_go2L g x y f = some outs) : ∃ (r : Nat) (cx2 : qe_Cx) (oa : List (qe_O dp)), f r (qg_wc g cx2) = some oa ∧ (∀ o ∈ oa, o ∈ outs) ∧ qe_cok rho cx2 ∧ lg_cmp (qe_lng rho x) (qe_lng rho y) = qe_int rho (qe_cmpr r) ∧ qe_is 0 (qe_cmpr r) = true := by
  unfold qe_go2L at h
  cases hb : (qe_sym x || qe_sym y)
  · rw [hb] at h
    rw [Bool.or_eq_false_iff] at hb
    refine ⟨_, qg_cx g, outs, h, fun o ho => ho, hc, ?_⟩
    have e1 : qe_lng rho x = Int64.ofNat (x / 8) := by unfold qe_lng; rw [hb.1]; rfl
    have e2 : qe_lng rho y = Int64.ofNat (y / 8) := by unfold qe_lng; rw [hb.2]; rfl
    have a1 := qe_lo_eq (qe_lng rho x)
    have a2 := qe_lo_eq (qe_lng rho y)
    have b1 : qe_lo (qe_lng rho x) = qe_ofL (Nat.div x 8) := by rw [e1]; exact qe_lo_of _
    have b2 : qe_lo (qe_lng rho y) = qe_ofL (Nat.div y 8) := by rw [e2]; exact qe_lo_of _
    rw [← b1, ← b2]
    unfold lg_cmp
    by_cases c1 : qe_lng rho x > qe_lng rho y
    · rw [if_pos c1]
      have c2 := Int64.lt_iff_toInt_lt.mp c1
      rw [qe_c3_gt (by omega)]
      exact ⟨rfl, rfl⟩
    · rw [if_neg c1]
      by_cases c2 : qe_lng rho x = qe_lng rho y
      · rw [if_pos c2, c2, qe_c3_eq rfl]
        exact ⟨rfl, rfl⟩
      · rw [if_neg c2]
        have c3 : ¬ (qe_lng rho y).toInt < (qe_lng rho x).toInt := fun q => c1 (Int64.lt_iff_toInt_lt.mpr q)
        have c4 : ¬ (qe_lng rho x).toInt = (qe_lng rho y).toInt := fun q => c2 (Int64.toInt_inj.mp q)
        rw [qe_c3_lt (by omega)]
        exact ⟨(by decide : (-1 : Int32) = Int32.ofNat 4294967295), rfl⟩
  · rw [hb] at h
    obtain ⟨L, hL, h2⟩ := qe_bind_ok (show Option.bind (qe_cmp (qg_cx g) x y qe_foL) _ = some outs from h)
    obtain ⟨q, q1, q2, q3, q4⟩ := qe_lcmp hc hL
    obtain ⟨oa, o1, o2⟩ := qe_each_ok h2 q q1
    exact ⟨q.2, q.1, oa, o1, o2, q2, q3, q4⟩
theorem qx_dy_wc {Z : qe_Z} {j ls : Nat} {st : List Nat} {g : qe_G dp} {s : State} {R : Room} {A : Nat → Prop} {H : Heap} {locs : List Loc} {la : Array Slot} {ad ad0 : Nat → Nat} {n0 : Nat} {cx2 : qe_Cx} (h : qx_dy Z j ls st g s R A H locs la ad ad0 n0) (hc : qe_cok (zE Z).2.2.2 cx2) {st2 : List Nat} (hs : ∀ v ∈ st2, qe_rb (qg_n g) v) : qx_dy Z j ls st2 (qg_wc g cx2) s R A H locs la ad ad0 n0 := by
  obtain ⟨d1, d2, d3, d4, d5, d6, d7, d8, d9, d10⟩ := h
  exact ⟨d1, d2, d3, d4, d5, d6, hs, hc, d9, d10⟩
theorem sn_if {Z : qe_Z} {j pc nx tg o b : Nat} {nt : qe_N dp} (hc : qc_if (zM Z j) pc nx tg o) (hb : zp Z j b = tg) (hn : qx_sn Z j nx nt) : qx_sn Z j pc (ql_if o b nt) := by
  intro k c d hk hcc ls st g outs h
  obtain ⟨x, r, e1, h1⟩ := qe_hd_ok h
  subst e1
  obtain ⟨hi, h2⟩ := qe_if_ok h1
  intro p l e R s0 m args below meth c0 A H locs la ad ad0 n0 QC XC hst hdy hfin
  have d7 := hdy.2.2.2.2.2.2.1
  obtain ⟨cx2, oa, f1, f2, f3⟩ := qe_go2_ok hdy.2.2.2.2.2.2.2.1 h2
  have hz : qe_int (zE Z).2.2.2 0 = 0 := rfl
  rw [hz] at f1
  have e2 : qe_v (zE Z) ad x = .int (qe_int (zE Z).2.2.2 x) := qe_val_int hi
  rw [List.map_cons, e2]
  refine hc hst.1 _ ?_
  have hdy2 := qx_dy_wc hdy f3 (st2 := r) (fun v hv => d7 v (List.mem_cons_of_mem _ hv))
  cases hq : qe_br o (qe_c3 (qe_so (qe_int (zE Z).2.2.2 x)) (qe_so 0))
  · rw [hq] at f1
    exact hn k c d hk hcc ls r _ oa f1 p l e R s0 m args below meth c0 A H locs la ad ad0 n0 QC XC hst hdy2 (qx_fin_sub hfin f2)
  · rw [hq] at f1
    rw [← hb]
    exact hk b ls r _ oa f1 p l e R s0 m args below meth c0 A H locs la ad ad0 n0 QC XC hst hdy2 (qx_fin_sub hfin f2)
theorem sn_ic {Z : qe_Z} {j pc nx tg o b : Nat} {nt : qe_N dp} (hc : qc_ic (zM Z j) pc nx tg o) (hb : zp Z j b = tg) (hn : qx_sn Z j nx nt) : qx_sn Z j pc (ql_ic o b nt) := by
  intro k c d hk hcc ls st g outs h
  obtain ⟨y, r1, e1, h1⟩ := qe_hd_ok h
  obtain ⟨x, r, e2, h1b⟩ := qe_hd_ok h1
  subst e2; subst e1
  obtain ⟨hi, h2⟩ := qe_if_ok h1b
  rw [Bool.and_eq_true] at hi
  intro p l e R s0 m args below meth c0 A H locs la ad ad0 n0 QC XC hst hdy hfin
  have d7 := hdy.2.2.2.2.2.2.1
  obtain ⟨cx2, oa, f1, f2, f3⟩ := qe_go2_ok hdy.2.2.2.2.2.2.2.1 h2
  have e2 : qe_v (zE Z) ad x = .int (qe_int (zE Z).2.2.2 x) := qe_val_int hi.1
  have e3 : qe_v (zE Z) ad y = .int (qe_int (zE Z).2.2.2 y) := qe_val_int hi.2
  rw [List.map_cons, List.map_cons, e2, e3]
  refine hc hst.1 _ _ ?_
  have hdy2 := qx_dy_wc hdy f3 (st2 := r) (fun v hv => d7 v (List.mem_cons_of_mem _ (List.mem_cons_of_mem _ hv)))
  cases hq : qe_br o (qe_c3 (qe_so (qe_int (zE Z).2.2.2 x)) (qe_so (qe_int (zE Z).2.2.2 y)))
  · rw [hq] at f1
    exact hn k c d hk hcc ls r _ oa f1 p l e R s0 m args below meth c0 A H locs la ad ad0 n0 QC XC hst hdy2 (qx_fin_sub hfin f2)
  · rw [hq] at f1
    rw [← hb]
    exact hk b ls r _ oa f1 p l e R s0 m args below meth c0 A H locs la ad ad0 n0 QC XC hst hdy2 (qx_fin_sub hfin f2)
theorem sn_lcmp {Z : qe_Z} {j pc nx : Nat} {nt : qe_N dp} (hc : ∀ x y : Int64, qc_st (zM Z j) pc nx [.long y, .long x] [.int (lg_cmp x y)]) (hn : qx_sn Z j nx nt) : qx_sn Z j pc (ql_lcmp nt) := by
  intro k c d hk hcc ls st g outs h
  obtain ⟨y, r1, e1, h1⟩ := qe_hd_ok h
  obtain ⟨x, r, e2, h1b⟩ := qe_hd_ok h1
  subst e2; subst e1
  obtain ⟨hi, h2⟩ := qe_if_ok h1b
  rw [Bool.and_eq_true] at hi
  intro p l e R s0 m args below meth c0 A H locs la ad ad0 n0 QC XC hst hdy hfin
  have d7 := hdy.2.2.2.2.2.2.1
  obtain ⟨r3, cx2, oa, f1, f2, f3, f4, f5⟩ := qe_go2L_ok hdy.2.2.2.2.2.2.2.1 h2
  have e2 : qe_v (zE Z) ad x = .long (qe_lng (zE Z).2.2.2 x) := qe_val_lng hi.1
  have e3 : qe_v (zE Z) ad y = .long (qe_lng (zE Z).2.2.2 y) := qe_val_lng hi.2
  have e4 : qe_v (zE Z) ad (qe_cmpr r3) = .int (qe_int (zE Z).2.2.2 (qe_cmpr r3)) := qe_val_int f5
  rw [List.map_cons, List.map_cons, e2, e3]
  refine hc _ _ hst.1 ?_
  have hdy2 := qx_dy_wc hdy f3 (st2 := qe_cmpr r3 :: r) (fun v hv => by
    rcases List.mem_cons.mp hv with q | q
    · rw [q]; exact qe_rb_int f5
    · exact d7 v (List.mem_cons_of_mem _ (List.mem_cons_of_mem _ q)))
  have := hn k c d hk hcc ls (qe_cmpr r3 :: r) _ oa f1 p l e R s0 m args below meth c0 A H locs la ad ad0 n0 QC XC hst hdy2 (qx_fin_sub hfin f2)
  rw [List.map_cons, e4, ← f4] at this
  exact this
theorem qe_swr_ok {rho : Nat → Int32} {k : qe_K dp} {df x ls : Nat} {r : List Nat} : ∀ (tg : List Nat) (i : Nat) (g : qe_G dp) (outs : List (qe_O dp)), i + tg.length ≤ 2147483648 → qe_cok rho (qg_cx g) → qe_swr k df x ls r tg i g = some outs →
    (∃ (q b : Nat) (cx2 : qe_Cx) (oa : List (qe_O dp)), tg[q]? = some b ∧ (qe_int rho x).toInt = (i : Int) + (q : Int) ∧ k b ls r (qg_wc g cx2) = some oa ∧ (∀ o ∈ oa, o ∈ outs) ∧ qe_cok rho cx2) ∨
    (((qe_int rho x).toInt < (i : Int) ∨ (i : Int) + (tg.length : Int) ≤ (qe_int rho x).toInt) ∧ ∃ (cx2 : qe_Cx) (oa : List (qe_O dp)), k df ls r (qg_wc g cx2) = some oa ∧ (∀ o ∈ oa, o ∈ outs) ∧ qe_cok rho cx2)
  | [], i, g, outs, _, hc, h => by
    refine Or.inr ⟨?_, qg_cx g, outs, h, fun o ho => ho, hc⟩
    rw [List.length_nil]
    omega
  | b :: tg, i, g, outs, hl, hc, h => by
    rw [List.length_cons] at hl
    obtain ⟨cx2, oa, f1, f2, f3⟩ := qe_go2_ok hc (show qe_go2 g x (qe_I i) (fun q g2 => cond (Nat.beq q 0) (k df ls r g2) (cond (Nat.beq q 1) (k b ls r g2) (qe_swr k df x ls r tg (Nat.add i 1) g2))) = some outs from h)
    rw [qe_I_int] at f1
    have hi : (Int32.ofNat i).toInt = (i : Int) := by
      have e1 := qe_so_of i
      have e2 := qe_so_eq (Int32.ofNat i)
      have e3 : qe_of i = (i + 2147483648) % 4294967296 := rfl
      omega
    rcases qe_c3_cases (qe_int rho x) (Int32.ofNat i) with ⟨c1, c2⟩ | ⟨c1, c2⟩ | ⟨c1, c2⟩
    · rw [c2] at f1
      have := Int32.lt_iff_toInt_lt.mp c1
      exact Or.inr ⟨Or.inl (by omega), cx2, oa, f1, f2, f3⟩
    · rw [c2] at f1
      exact Or.inl ⟨0, b, cx2, oa, rfl, by rw [c1, hi]; simp, f1, f2, f3⟩
    · rw [c2] at f1
      have c3 := Int32.lt_iff_toInt_lt.mp c1
      rcases qe_swr_ok tg (i + 1) (qg_wc g cx2) oa (by omega) f3 f1 with ⟨q, b2, cx3, ob, g1, g2, g3, g4, g5⟩ | ⟨g1, cx3, ob, g3, g4, g5⟩
      · exact Or.inl ⟨q + 1, b2, cx3, ob, by rw [List.getElem?_cons_succ]; exact g1, by rw [g2]; omega, g3, fun o ho => f2 o (g4 o ho), g5⟩
      · refine Or.inr ⟨Or.inr ?_, cx3, ob, g3, fun o ho => f2 o (g4 o ho), g5⟩
        rw [List.length_cons]
        omega
theorem sn_sw {Z : qe_Z} {j pc lo df dfp : Nat} {tg tp : List Nat} (hc : qc_sw (zM Z j) pc (lo : Int) dfp tp) (hl : lo + tg.length ≤ 2147483648) (hd : zp Z j df = dfp) (ht : tg.map (zp Z j) = tp) : qx_sn Z j pc (ql_sw lo df tg : qe_N dp) := by
  intro k c d hk hcc ls st g outs h
  obtain ⟨x, r, e1, h1⟩ := qe_hd_ok h
  subst e1
  obtain ⟨hi, h2⟩ := qe_if_ok h1
  intro p l e R s0 m args below meth c0 A H locs la ad ad0 n0 QC XC hst hdy hfin
  have d7 := hdy.2.2.2.2.2.2.1
  have e2 : qe_v (zE Z) ad x = .int (qe_int (zE Z).2.2.2 x) := qe_val_int hi
  have htl : tp.length = tg.length := by rw [← ht, List.length_map]
  rw [List.map_cons, e2]
  have go : ∀ (b : Nat) (cx2 : qe_Cx) (oa : List (qe_O dp)), k b ls r (qg_wc g cx2) = some oa → (∀ o ∈ oa, o ∈ outs) → qe_cok (zE Z).2.2.2 cx2 → W p l e R s0 m args below meth c0 H locs (qg_ce g) (qg_sl g) (vx_MQ below QC XC args s0 R.cells R.slots A) (F0 m (zp Z j b) la (r.map (qe_v (zE Z) ad))) := fun b cx2 oa f1 f2 f3 =>
    hk b ls r _ oa f1 p l e R s0 m args below meth c0 A H locs la ad ad0 n0 QC XC hst (qx_dy_wc hdy f3 (fun v hv => d7 v (List.mem_cons_of_mem _ hv))) (qx_fin_sub hfin f2)
  rcases qe_swr_ok (rho := (zE Z).2.2.2) tg lo g outs hl hdy.2.2.2.2.2.2.2.1 h2 with ⟨q, b, cx2, oa, g1, g2, g3, g4, g5⟩ | ⟨g1, cx2, oa, g3, g4, g5⟩
  · refine hc hst.1 _ (fun hq => ?_) (fun i tgt h3 h4 => ?_)
    · exfalso
      have : q < tg.length := (List.getElem?_eq_some_iff.mp g1).1
      omega
    · have hiq : i = q := by omega
      subst hiq
      have h5 : tp[i]? = some (zp Z j b) := by rw [← ht, List.getElem?_map, g1]; rfl
      cases h5.symm.trans h3
      exact go b cx2 oa g3 g4 g5
  · refine hc hst.1 _ (fun hq => ?_) (fun i tgt h3 h4 => ?_)
    · rw [← hd]
      exact go df cx2 oa g3 g4 g5
    · exfalso
      have : i < tp.length := (List.getElem?_eq_some_iff.mp h3).1
      omega
theorem sn_div {Z : qe_Z} {j pc nx : Nat} {nt : qe_N dp} (hc : ∀ x y : Int32, ¬ y = 0 → qc_st (zM Z j) pc nx [.int y, .int x] [.int (x / y)]) (hn : qx_sn Z j nx nt) : qx_sn Z j pc (ql_div nt) := by
  intro k c d hk hcc ls st g outs h
  obtain ⟨y, r1, e1, h1⟩ := qe_hd_ok h
  obtain ⟨x, r, e2, h1b⟩ := qe_hd_ok h1
  subst e2; subst e1
  obtain ⟨hi, h2⟩ := qe_if_ok h1b
  simp only [Bool.and_eq_true, Bool.not_eq_true', Bool.or_eq_false_iff] at hi
  obtain ⟨⟨i1, i2⟩, ⟨i3, i4⟩, i5, i6, i7⟩ := hi
  have k1 : x / 8 < 2 ^ 31 := Nat.le_of_ble_eq_true i5
  have k2 : y / 8 < 2 ^ 31 := Nat.le_of_ble_eq_true i6
  have k3 : 0 < y / 8 := Nat.le_of_ble_eq_true i7
  have z1 : qe_int (zE Z).2.2.2 x = Int32.ofNat (x / 8) := by unfold qe_int; rw [i3]; rfl
  have z2 : qe_int (zE Z).2.2.2 y = Int32.ofNat (y / 8) := by unfold qe_int; rw [i4]; rfl
  refine qx_stk (old := [y, x]) (new := [qe_I (x / 8 / (y / 8))]) (fun ad => ?_) (fun n _ v hv => ?_) (hn k c d hk hcc ls _ g outs h2)
  · have e1 : qe_v (zE Z) ad y = .int (Int32.ofNat (y / 8)) := by rw [← z2]; exact qe_val_int i2
    have e2 : qe_v (zE Z) ad x = .int (Int32.ofNat (x / 8)) := by rw [← z1]; exact qe_val_int i1
    have e3 : qe_v (zE Z) ad (qe_I (x / 8 / (y / 8))) = .int (Int32.ofNat (x / 8 / (y / 8))) := by rw [← qe_I_int (zE Z).2.2.2]; exact qe_val_int (qe_I_is _)
    have hne : ¬ Int32.ofNat (y / 8) = 0 := by
      intro q
      have q1 := qe_so_inj.mp q
      have q2 := qe_so_of (y / 8)
      have q3 : qe_of (y / 8) = (y / 8 + 2147483648) % 4294967296 := rfl
      have q4 : qe_so 0 = 2147483648 := rfl
      omega
    show qc_st (zM Z j) pc nx [qe_v (zE Z) ad y, qe_v (zE Z) ad x] [qe_v (zE Z) ad (qe_I (x / 8 / (y / 8)))]
    have e9 : Int32.ofNat (x / 8) / Int32.ofNat (y / 8) = Int32.ofNat (x / 8 / (y / 8)) := pk_div k1 k3 k2
    rw [e1, e2, e3, ← e9]
    exact @hc (Int32.ofNat (x / 8)) (Int32.ofNat (y / 8)) hne
  · rw [List.mem_singleton.mp hv]; exact qe_rb_int (qe_I_is _)
end QEY
