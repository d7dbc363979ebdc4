/-! ENGINE, part 12: calls, entries, the whole run -/
section QEZ
variable {dp : Nat}
theorem qe_tk_ok {outs : List (qe_O dp)} : ∀ (m : Nat) (acc st : List Nat) (f : List Nat → List Nat → qe_R1 dp), qe_tk m acc st f = some outs → ∃ as rest, st = as.reverse ++ rest ∧ as.length = m ∧ f (as ++ acc) rest = some outs
  | 0, acc, st, f, h => ⟨[], st, rfl, rfl, h⟩
  | m + 1, acc, st, f, h => by
    obtain ⟨v, r, e1, h1⟩ := qe_hd_ok (show qe_hd st (fun v r => qe_tk m (v :: acc) r f) = some outs from h)
    obtain ⟨as, rest, e2, e3, h2⟩ := qe_tk_ok m (v :: acc) r f h1
    refine ⟨as ++ [v], rest, ?_, ?_, ?_⟩
    · rw [e1, e2, List.reverse_append]; rfl
    · rw [List.length_append, e3]; rfl
    · rw [List.append_assoc]; exact h2
theorem qe_one_ok {l : List (qe_O dp)} {f : qe_O dp → qe_R1 dp} {outs : List (qe_O dp)} (h : qe_one l f = some outs) : ∀ o ∈ l, ∃ oa, f o = some oa ∧ ∀ x ∈ oa, x ∈ outs := by
  cases l with
  | nil => cases h
  | cons a l =>
    cases l with
    | nil =>
      intro o ho
      rw [List.mem_singleton.mp ho]
      exact ⟨outs, h, fun x hx => hx⟩
    | cons b l => exact qe_each_ok h
theorem qe_hn_ok {α : Type} {e : Nat} {z : α} {f : Nat → Nat → α} : ∀ (l : List (Nat × Nat × Nat)), (∃ q ∈ l, q.1 = e ∧ qe_hn e l z f = f q.2.1 q.2.2) ∨ ((∀ q ∈ l, q.1 ≠ e) ∧ qe_hn e l z f = z)
  | [] => Or.inr ⟨fun q hq => (by cases hq), rfl⟩
  | a :: l => by
    have hu : qe_hn e (a :: l) z f = cond (Nat.beq a.1 e) (f a.2.1 a.2.2) (qe_hn e l z f) := rfl
    cases hb : Nat.beq a.1 e
    · rw [hb] at hu
      rcases qe_hn_ok (e := e) (z := z) (f := f) l with ⟨q, h1, h2, h3⟩ | ⟨h1, h2⟩
      · exact Or.inl ⟨q, List.mem_cons_of_mem _ h1, h2, hu.trans h3⟩
      · refine Or.inr ⟨fun q hq => ?_, hu.trans h2⟩
        rcases List.mem_cons.mp hq with e1 | e1
        · rw [e1]
          intro e2
          rw [e2, Nat.beq_refl] at hb; cases hb
        · exact h1 q e1
    · rw [hb] at hu
      exact Or.inl ⟨a, List.mem_cons_self, Nat.eq_of_beq_eq_true hb, hu⟩
/-- what lies outside: it lasts -/
def qz_ok (Z : qe_Z) : Prop := (∀ (A : Nat → Prop) (s U : State) (H : Heap), s.WarmedH U.vm → zX Z A s H → zX Z A U H) ∧ (∀ (A : Nat → Prop) (U : State) (H H1 : Heap), zX Z A U H → (∀ a : Nat, a < H.size → ¬ A a → H1[a]? = H[a]?) → zX Z A U H1) ∧ (∀ (A B : Nat → Prop) (U : State) (H : Heap), (∀ q, B q → A q) → zX Z A U H → zX Z B U H)
theorem qe_free {A : Nat → Prop} {ws : va_W} {H0 H : Heap} {locs : List Loc} (hD : va_D A ws) (hS : va_S A H0 H locs) (hA : ∀ q, H0.size ≤ q → A q) : ∀ q, va_A ws H.size q → A q := by
  intro q h
  rcases h with ⟨k, e, h⟩ | h
  · exact hD.2 k (q, e) h
  · exact hA q (Nat.le_trans hS.1 h)
theorem qe_lgsl : ∀ (l : List Value), (lg_sl l).length = qx_cat l
  | [] => rfl
  | v :: l => by
    have ih := qe_lgsl l
    change (((if v.category = 2 then [Slot.val v, Slot.second] else [Slot.val v]) ++ lg_sl l)).length = v.category + qx_cat l
    rw [List.length_append, ih]
    rcases lv_cat v with h | h
    · rw [if_neg (by omega), h]; rfl
    · rw [if_pos h, h]; rfl
set_option maxHeartbeats 1000000 in
theorem sn_inv {Z : qe_Z} {j pc nx jj na rc mx : Nat} {th : Bool} {hn : List (Nat × Nat × Nat)} {nt : qe_N dp} (hz : qz_ok Z) (hjj : qx_mb Z jj) (hc : qc_inv Z j pc nx jj na rc) (hrc : rc = 0 ∨ (rc - 1 < 100 ∧ ∃ q, (zc Z)[rc - 1]? = some q)) (hmx : mx ≤ (zM Z jj).2.2.1)
    (hcat : ∀ q ∈ hn, qc_cat Z j pc q.1 (zp Z j q.2.1) q.2.2 ∧ q.2.2 < (zM Z j).2.2.1) (hout : th = true → ∀ i, (∀ q ∈ hn, q.1 ≠ i) → qc_out Z j pc i) (hn2 : qx_sn Z j nx nt) : qx_sn Z j pc (ql_inv jj na rc mx th hn nt) := by
  intro k c d hk hcc ls st g outs h
  obtain ⟨as, rest, e1, e2, h1⟩ := qe_tk_ok _ _ _ _ h
  rw [List.append_nil] at h1
  obtain ⟨hi, h2⟩ := qe_if_ok h1
  simp only [Bool.and_eq_true] at hi
  obtain ⟨⟨i1, i2⟩, i3, i4⟩ := hi
  obtain ⟨outs1, h3, h4⟩ := qe_bind_ok h2
  obtain ⟨d2, hd2, hcon⟩ := hcc jj as _ _ _ _ hjj h3
  subst e1
  intro p l e R s m args below meth c0 A H locs la ad ad0 n0 QC XC hst hdy hfin
  obtain ⟨s1, s2, s3⟩ := qx_sz hst hdy
  have hdy0 := hdy
  obtain ⟨d1, dD, d3, d4, d5, d6, d7, d8, d9, d10⟩ := hdy
  have das : ∀ v ∈ as, qe_rb (qg_n g) v := fun v hv => d7 v (List.mem_append_left _ (List.mem_reverse.mpr hv))
  have drest : ∀ v ∈ rest, qe_rb (qg_n g) v := fun v hv => d7 v (List.mem_append_right _ hv)
  have dall : ∀ v ∈ as, v < 4722366482869645213696 ∧ v ≠ 7 := fun v hv => by
    have := List.all_eq_true.mp i4 v hv
    rw [Bool.and_eq_true] at this
    refine ⟨qe_lim_lt this.1, fun e7 => ?_⟩
    rw [e7] at this
    exact absurd this.2 (by decide)
  -- the room
  have hroom : ∃ F : qe_O dp → qe_R1 dp, (F = fun o => qe_aft th hn nt k c ls rest (qg_ce g + qe_mxc outs1) (qg_sl g + qe_mxs outs1) o) ∧ qe_one outs1 F = some outs ∧ qg_ce g + qe_mxc outs1 ≤ R.cells ∧ qg_sl g + qe_mxs outs1 ≤ R.slots := by
    refine ⟨_, rfl, ?_⟩
    cases hb : (Nat.beq (qe_mxc outs1) 0 && Nat.beq (qe_mxs outs1) 0)
    · rw [hb] at h4
      obtain ⟨h5, o, ho, o1, o2⟩ := qe_ge_ok (show qe_ge _ _ _ = some outs from h4)
      have hro := (hfin o ho).1
      exact ⟨h5, Nat.le_trans o1 hro.1, Nat.le_trans o2 hro.2⟩
    · rw [hb] at h4
      rw [Bool.and_eq_true] at hb
      rw [Nat.eq_of_beq_eq_true hb.1, Nat.eq_of_beq_eq_true hb.2]
      exact ⟨h4, d9.1, d9.2⟩
  obtain ⟨F, hF, hone, hrc1, hrc2⟩ := hroom
  have hfree := qe_free dD d3 hst.2.2.2.2.1
  have hlen : (lg_sl (as.map (qe_v (zE Z) ad))).length ≤ (zM Z jj).2.2.1 := by
    rw [qe_lgsl]
    exact Nat.le_trans (qe_cs_cat as) (Nat.le_trans (Nat.le_of_ble_eq_true i2) hmx)
  have hM := hcon l ad H.size hst.1.2.2.2.2.2.2.2.2 d5 (fun v hv => ⟨das v hv, (dall v hv).1, (dall v hv).2⟩) d8 hlen
  have hXH : zX Z A s H := hz.2.1 A s s.heap H hst.2.2.2.1 (fun a h1 h2 => d3.2.1 a h1 h2)
  have hXc : zX Z (va_A (qe_ws dp (zE Z) ad (qg_n g) (qg_t g)) H.size) s H := hz.2.2 A _ s H hfree hXH
  have hrcv : qx_rc Z rc (as.map (qe_v (zE Z) ad)) H s := by
    rcases hrc with q | ⟨q1, vq, q2⟩
    · exact Or.inl q
    · rcases Nat.eq_zero_or_pos rc with z | z
      · exact Or.inl z
      · right
        have hb : Nat.beq rc 0 = false := by
          cases hb : Nat.beq rc 0
          · rfl
          · have := Nat.eq_of_beq_eq_true hb; omega
        unfold qe_rcv at i1
        rw [hb] at i1
        cases as with
        | nil => cases i1
        | cons v as2 =>
          have i1' : (qe_wrf v && Nat.beq (qe_cl g v).1 (rc - 1)) = true := i1
          rw [Bool.and_eq_true] at i1'
          obtain ⟨w1, w2⟩ := i1'
          have hlt := qe_wrf_lt w1 (das v List.mem_cons_self)
          have he := qe_ws_get (dp := dp) (E := zE Z) (ad := ad) (t := qg_t g) hlt
          have k1 : (qe_rd dp (qg_t g) (v / 8)).1 = rc - 1 := Nat.eq_of_beq_eq_true w2
          rw [qe_ent_obj (show Nat.blt (qe_rd dp (qg_t g) (v / 8)).1 100 = true from Nat.ble_eq_true_of_le (by rw [k1]; exact q1)), k1] at he
          exact ⟨ad (v / 8), as2.map (qe_v (zE Z) ad), vq, by rw [List.map_cons, qe_wrf_val w1], q2, va_recv hst.2.2.1 d1 q2 he⟩
  obtain ⟨hnx, hrun⟩ := hc (la := la) (rest := rest.map (qe_v (zE Z) ad)) (locs := locs) (cells := qg_ce g) (slots := qg_sl g) (e := e) (below := below) (R := R) hst.1 hst.2.2.2.1 hM rfl rfl
    (by have := hst.2.1.1; show d2 + 20 + 1 ≤ _; omega) (by have := hst.2.1.2; show 8 + ((zM Z jj).2.2.1 + 11) + (60 * d2 + 200) ≤ _; have := hjj.2.1; omega)
    (fun a U g2 mk q => ⟨q.1, q.2.1, q.2.2.1, va_K.moved (u := U) (U := U.calling g2 mk a) (Vm.Alike.refl U.vm) q.2.2.2.1, q.2.2.2.2.1, hz.1 _ U (U.calling g2 mk a) _ (State.WarmedH.refl U) q.2.2.2.2.2⟩)
    hrcv (fun U hU hW => ⟨rfl, by rw [hU], by rw [hU]; exact d1, va_K.moved hW.alike hst.2.2.1, dD.weaken (fun _ _ _ _ => trivial), by rw [hU]; exact hz.1 _ s U H hW hXc⟩)
    (by rw [List.length_map]; exact e2) s1 (qe_cs_le i3) ⟨hrc1, hrc2⟩
  subst hnx
  rw [List.map_append, List.map_reverse]
  intro T hT X
  have common : ∀ (o : qe_O dp) (ad2 : Nat → Nat) (st₀ t T2 : State) (L : List Loc), o ∈ outs1 → st₀.heap = H → T2.heap = t.heap → (∀ q ∈ L, va_A (qe_ws dp (zE Z) ad (qg_n g) (qg_t g)) H.size q.base) → qx_ex ad ad2 (qg_n g) (qo_n o) → qe_cok (zE Z).2.2.2 (qo_cx o) → qe_wi dp (qo_n o) (qo_t o) → va_P (zE Z).1 (zc Z) (qe_ws dp (zE Z) ad2 (qo_n o) (qo_t o)) t.heap → va_D (va_A (qe_ws dp (zE Z) ad (qg_n g) (qg_t g)) H.size) (qe_ws dp (zE Z) ad2 (qo_n o) (qo_t o)) → va_F (va_A (qe_ws dp (zE Z) ad (qg_n g) (qg_t g)) H.size) st₀ t →
      va_P (zE Z).1 (zc Z) (qe_ws dp (zE Z) ad2 (qo_n o) (qo_t o)) T2.heap ∧ va_D A (qe_ws dp (zE Z) ad2 (qo_n o) (qo_t o)) ∧ va_S A s.heap T2.heap (locs ++ L) ∧ qx_ex ad0 ad2 n0 (qo_n o) := by
    intro o ad2 st₀ t T2 L ho h0 e1 hL x1 x2 x3 x4 x5 x6
    obtain ⟨-, -, k3⟩ := vx_keep (A1 := va_A (qe_ws dp (zE Z) ad (qg_n g) (qg_t g)) H.size) (free := va_A (qe_ws dp (zE Z) ad (qg_n g) (qg_t g)) H.size) h0 e1 d3 (fun q _ hq => hfree q hq) hfree hL x6
    exact ⟨by rw [e1]; exact x4, x5.weaken (fun _ q _ hq => hfree _ hq), k3, Nat.le_trans d10.1 x1.1, fun z hz => by rw [x1.2 z (Nat.lt_of_lt_of_le hz d10.1)]; exact d10.2 z hz⟩
  rcases hrun T hT X with ⟨v, st₀, t, T2, L, h0, X2, hL, e1, e3, ⟨⟨o, ho, ad2, x1, x2, x3, x4, x5, hkind⟩, x6⟩, st⟩ | ⟨q, st₀, t, T2, L, E9, ce, h0, X2, hL, e1, e3, ⟨⟨o, ho, i, hk2, hE, ad2, x1, x2, x3, x4, x5⟩, x6⟩, hce, hcv, hcl, st⟩
  · obtain ⟨y1, y2, y3, y4⟩ := common o ad2 st₀ t T2 L ho h0 e1 hL x1 x2 x3 x4 x5 x6
    obtain ⟨oa, f1, f2⟩ := qe_one_ok hone o ho
    rw [hF] at f1
    have hdyn : ∀ st2 : List Nat, (∀ w ∈ st2, qe_rb (qo_n o) w) → qx_dy Z j ls st2 ((qo_n o, qo_t o, qo_cx o, qg_ce g + qe_mxc outs1, qg_sl g + qe_mxs outs1) : qe_G dp) s R A T2.heap (locs ++ L) la ad2 ad0 n0 := fun st2 hs2 =>
      ⟨y1, y2, y3, qe_lh_ext d4 d6 x1.2, x3, fun z => qe_rb_up (d6 z) x1.1, hs2, x2, ⟨hrc1, hrc2⟩, y4⟩
    have hmap : rest.map (qe_v (zE Z) ad2) = rest.map (qe_v (zE Z) ad) := List.map_congr_left fun w hw => qe_v_ext (drest w hw) x1.2
    rcases hkind with ⟨c1, c2⟩ | ⟨c1, c2, c3⟩
    · have f1' : nt k c ls rest (qo_n o, qo_t o, qo_cx o, qg_ce g + qe_mxc outs1, qg_sl g + qe_mxs outs1) = some oa := by
        have : qe_aft th hn nt k c ls rest (qg_ce g + qe_mxc outs1) (qg_sl g + qe_mxs outs1) o = some oa := f1
        unfold qe_aft at this
        rw [c1] at this
        exact this
      cases c2
      have w := hn2 k c d hk hcc ls rest _ oa f1' p l e R s m args below meth c0 A T2.heap (locs ++ L) la ad2 ad0 n0 QC XC hst (hdyn rest fun w hw => qe_rb_up (drest w hw) x1.1) (qx_fin_sub hfin f2)
      rw [hmap] at w
      obtain ⟨t2, a1, b1⟩ := w T2 rfl X2
      exact ⟨t2, st t2 a1, b1⟩
    · have f1' : nt k c ls (qo_v o :: rest) (qo_n o, qo_t o, qo_cx o, qg_ce g + qe_mxc outs1, qg_sl g + qe_mxs outs1) = some oa := by
        have : qe_aft th hn nt k c ls rest (qg_ce g + qe_mxc outs1) (qg_sl g + qe_mxs outs1) o = some oa := f1
        unfold qe_aft at this
        rw [c1] at this
        exact this
      cases c3
      have w := hn2 k c d hk hcc ls (qo_v o :: rest) _ oa f1' p l e R s m args below meth c0 A T2.heap (locs ++ L) la ad2 ad0 n0 QC XC hst (hdyn (qo_v o :: rest) fun w hw => by
        rcases List.mem_cons.mp hw with q | q
        · rw [q]; exact c2
        · exact qe_rb_up (drest w q) x1.1) (qx_fin_sub hfin f2)
      rw [List.map_cons, hmap] at w
      obtain ⟨t2, a1, b1⟩ := w T2 rfl X2
      exact ⟨t2, st t2 a1, b1⟩
  · obtain ⟨y1, y2, y3, y4⟩ := common o ad2 st₀ t T2 L ho h0 e1 hL x1 x2 x3 x4 x5 x6
    obtain ⟨oa, f1, f2⟩ := qe_one_ok hone o ho
    rw [hF] at f1
    have hcl2 : s.vm.findClass (zn Z i) = some ce.cls := by rw [← hE]; exact hcl
    have hce2 : T2.heap[q]? = some ce := by rw [e1]; exact hce
    have f1' : qe_hn i hn (cond th (some [(qo_cx o, i + 2, 0, qo_n o, qo_t o, qg_ce g + qe_mxc outs1, qg_sl g + qe_mxs outs1)]) none) (fun b lo => cond (qe_pl ls lo) (k b (qe_set ls lo 7) [] (qo_n o, qo_t o, qo_cx o, qg_ce g + qe_mxc outs1, qg_sl g + qe_mxs outs1)) none) = some oa := by
      have : qe_aft th hn nt k c ls rest (qg_ce g + qe_mxc outs1) (qg_sl g + qe_mxs outs1) o = some oa := f1
      unfold qe_aft at this
      rw [hk2] at this
      exact this
    rcases qe_hn_ok (e := i) (z := cond th (some [(qo_cx o, i + 2, 0, qo_n o, qo_t o, qg_ce g + qe_mxc outs1, qg_sl g + qe_mxs outs1)]) none) (f := fun b lo => cond (qe_pl ls lo) (k b (qe_set ls lo 7) [] (qo_n o, qo_t o, qo_cx o, qg_ce g + qe_mxc outs1, qg_sl g + qe_mxs outs1)) none) hn with ⟨q9, g1, g2, g3⟩ | ⟨g1, g3⟩
    · rw [g3] at f1'
      obtain ⟨g4, g5⟩ := qe_if_ok f1'
      obtain ⟨hcat1, hcat2⟩ := hcat q9 g1
      rw [g2] at hcat1
      have w := hcat1 (la := la) (rest := rest.map (qe_v (zE Z) ad)) (locs := locs ++ L) (cells := qg_ce g + qe_mxc outs1) (slots := qg_sl g + qe_mxs outs1) (A := A) (QC := QC) (XC := XC) (e := e) (R := R) (below := below) hst.1 hst.2.2.2.2.2 q ce _ _ hce2 hcv hcl2 hst.2.2.2.1 (qe_lh_has (qe_lh_ext d4 d6 x1.2)) hcat2 (fun la2 h' => by
        have hset : qe_lh (zE Z) ad2 la2 (zM Z j).2.2.1 (qe_set ls q9.2.2 7) := by
          refine ⟨h'.1, h'.2.1, fun z hz h7 => ?_⟩
          rw [qe_get_set _ _ _ _ (by decide)] at h7 ⊢
          by_cases hzi : z = q9.2.2
          · rw [if_pos hzi] at h7; exact absurd rfl h7
          · rw [if_neg hzi] at h7 ⊢
            refine h'.2.2 _ (List.mem_cons_of_mem _ (List.mem_filter.mpr ⟨qe_ll_mem hz h7, ?_⟩))
            have a1 : (z == q9.2.2) = false := by simp [hzi]
            show (!(z == q9.2.2) && !(z + 1 == q9.2.2 && (qe_v (zE Z) ad2 (qe_get ls z)).category == 2)) = true
            rw [a1]
            by_cases hj1 : z + 1 = q9.2.2
            · rcases qe_pl_ok g4 with hp | hp
              · omega
              · rw [show q9.2.2 - 1 = z by omega] at hp
                have := qe_cat (E := zE Z) (ad := ad2) hp
                simp [this]
            · simp [hj1]
        exact hk q9.2.1 _ [] _ oa g5 p l e R s m args below meth c0 A T2.heap (locs ++ L) la2 ad2 ad0 n0 QC XC hst ⟨y1, y2, y3, hset, x3, qe_rb_set (fun z => qe_rb_up (d6 z) x1.1) qe_rb_7 (by decide), fun w hw => (by cases hw), x2, ⟨hrc1, hrc2⟩, y4⟩ (qx_fin_sub hfin f2))
      obtain ⟨t2, a1, b1⟩ := w T2 rfl X2
      exact ⟨t2, st.trans a1, b1⟩
    · rw [g3] at f1'
      obtain ⟨hth, f1''⟩ := qe_if_ok f1'
      have g4 := Option.some.inj f1''
      have w := hout hth i g1 (la := la) (rest := rest.map (qe_v (zE Z) ad)) (locs := locs ++ L) (cells := qg_ce g + qe_mxc outs1) (slots := qg_sl g + qe_mxs outs1) (A := A) (QC := QC) (XC := XC) (e := e) (R := R) (below := below) hst.1 hst.2.2.2.2.2 q ce hce2 hcv hcl2 hst.2.2.2.1 (fun t9 h9 hal => by
        have hfo := (hfin (qo_cx o, i + 2, 0, qo_n o, qo_t o, qg_ce g + qe_mxc outs1, qg_sl g + qe_mxs outs1) (f2 _ (by rw [← g4]; exact List.mem_cons_self))).2 ad2 T2.heap (locs ++ L) y4 y1 y2 y3 x3 x2
        exact hfo.2.2 i rfl t9 h9 hal) y3.2.2 hrc1 hrc2
      obtain ⟨t2, a1, b1⟩ := w T2 rfl X2
      exact ⟨t2, st.trans a1, b1⟩
end QEZ
