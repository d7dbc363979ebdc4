/-! THE LAW, BY HAND, 1: calls beside a heap of left-overs -/
section QLW
variable {dp : Nat}
def lz_size (q : va_E) : Nat := match q with
  | .inl q => q.2.1
  | .inr _ => 0
def lz_sum (gs : va_W) : Nat := (gs.map (fun q => lz_size q.2)).sum
theorem lz_sum_app (a b : va_W) : lz_sum (a ++ b) = lz_sum a + lz_sum b := by
  unfold lz_sum; rw [List.map_append, List.sum_append]
theorem lz_ix (a b : va_W) (k : Nat) : (a ++ b)[a.length + k]? = b[k]? := by
  rw [List.getElem?_append_right (by omega), show a.length + k - a.length = k by omega]
theorem lz_il {a : va_W} {q : Nat × va_E} {k : Nat} (b : va_W) (h : a[k]? = some q) : (a ++ b)[k]? = some q := by
  rw [List.getElem?_append_left (List.getElem?_eq_some_iff.mp h).1]; exact h
theorem lz_P_l {D : va_G} {cl : List vw_C} {a b : va_W} {H : Heap} (h : va_P D cl (a ++ b) H) : va_P D cl a H := fun k q hk => h k q (lz_il b hk)
theorem lz_P_r {D : va_G} {cl : List vw_C} {a b : va_W} {H : Heap} (h : va_P D cl (a ++ b) H) : va_P D cl b H := fun k q hk => h (a.length + k) q (by rw [lz_ix]; exact hk)
theorem lz_D_l {A : Nat → Prop} {a b : va_W} (h : va_D A (a ++ b)) : va_D A a := ⟨fun i j p q hi hj e => h.1 i j p q (lz_il b hi) (lz_il b hj) e, fun k q hk => h.2 k q (lz_il b hk)⟩
theorem lz_D_r {A : Nat → Prop} {a b : va_W} (h : va_D A (a ++ b)) : va_D A b := ⟨fun i j p q hi hj e => by
  have := h.1 (a.length + i) (a.length + j) p q (by rw [lz_ix]; exact hi) (by rw [lz_ix]; exact hj) e
  omega, fun k q hk => h.2 (a.length + k) q (by rw [lz_ix]; exact hk)⟩
theorem lz_D_x {A : Nat → Prop} {a b : va_W} (h : va_D A (a ++ b)) {i j : Nat} {p q : Nat × va_E} (hi : a[i]? = some p) (hj : b[j]? = some q) : p.1 ≠ q.1 := fun e => by
  have h1 := (List.getElem?_eq_some_iff.mp hi).1
  have := h.1 i (a.length + j) p q (lz_il b hi) (by rw [lz_ix]; exact hj) e
  omega
theorem lz_cut {a b : va_W} {k : Nat} {q : Nat × va_E} (h : (a ++ b)[k]? = some q) : (k < a.length ∧ a[k]? = some q) ∨ (a.length ≤ k ∧ b[k - a.length]? = some q) := by
  by_cases hk : k < a.length
  · left; rw [List.getElem?_append_left hk] at h; exact ⟨hk, h⟩
  · right; rw [List.getElem?_append_right (by omega)] at h; exact ⟨by omega, h⟩
theorem lz_D_app {A : Nat → Prop} {a b : va_W} (h1 : va_D A a) (h2 : va_D A b) (hx : ∀ (i j : Nat) (p q : Nat × va_E), a[i]? = some p → b[j]? = some q → p.1 ≠ q.1) : va_D A (a ++ b) := by
  refine ⟨fun i j p q hi hj e => ?_, fun k q hk => ?_⟩
  · rcases lz_cut hi with ⟨i1, i2⟩ | ⟨i1, i2⟩ <;> rcases lz_cut hj with ⟨j1, j2⟩ | ⟨j1, j2⟩
    · exact h1.1 i j p q i2 j2 e
    · exact absurd e (hx _ _ p q i2 j2)
    · exact absurd e.symm (hx _ _ q p j2 i2)
    · have := h2.1 _ _ p q i2 j2 e
      omega
  · rcases lz_cut hk with ⟨-, k2⟩ | ⟨-, k2⟩
    · exact h1.2 _ q k2
    · exact h2.2 _ q k2
theorem lz_join {D : va_G} {cl : List vw_C} {A : Nat → Prop} {ws ws2 gs : va_W} {H H2 : Heap} (hP : va_P D cl (ws ++ gs) H) (hD : va_D A (ws ++ gs)) (hk : ∀ q : Nat, q < H.size → ¬ va_A ws H.size q → H2[q]? = H[q]?) (hP2 : va_P D cl ws2 H2) (hD2 : va_D (va_A ws H.size) ws2) (hfree : ∀ q, va_A ws H.size q → A q) : va_P D cl (ws2 ++ gs) H2 ∧ va_D A (ws2 ++ gs) := by
  have hgs := lz_P_r hP
  have hn : ∀ (j : Nat) (q : Nat × va_E), gs[j]? = some q → q.1 < H.size ∧ ¬ va_A ws H.size q.1 := fun j q hj => by
    have hl := (hgs j q hj).lt
    refine ⟨hl, fun z => ?_⟩
    rcases z with ⟨k, e, hk⟩ | z
    · exact lz_D_x hD hk hj rfl
    · omega
  have hP3 : va_P D cl gs H2 := hgs.kept (fun k x hx => hk x.1 (hn k x hx).1 (hn k x hx).2)
  exact ⟨hP2.app hP3, lz_D_app (hD2.weaken (fun _ q _ hq => hfree _ hq)) (lz_D_r hD) (fun i j p q hi hj e => (hn j q hj).2 (by rw [← e]; exact hD2.2 i p hi))⟩
set_option maxHeartbeats 1000000 in
theorem lw_call {Z : qe_Z} {j pc nx jj na rc d2 : Nat} {as : List Nat} {n : Nat} {t : qe_T dp} {o : qe_O dp} (hz : qz_ok Z) (hlo2 : (zM Z jj).2.2.1 ≤ 24) (hc : qc_inv Z j pc nx jj na rc) (hcon : qx_con Z d2 jj as n t [] [o]) (hk1 : qo_k o = 1)
    {p : Program} {l : Launch} {e : Env} {R : Room} {s : State} {m : MethodId} {args : Array Value} {below : List Frame} {meth : Method} {c : Code} {H : Heap} {locs : List Loc} {cells slots : Nat} {Q : State → Prop} {la : Array Slot} {rest : List Value} {A : Nat → Prop} {ad : Nat → Nat} {gs : va_W}
    (hB : qe_bd (zM Z j) p l s m args meth c) (hK : va_K (zE Z).1 (zc Z) (qe_tys (zE Z)) s) (hX : zX Z A s s.heap) (hA : ∀ q, s.heap.size ≤ q → A q) (hP : va_P (zE Z).1 (zc Z) (qe_ws dp (zE Z) ad n t ++ gs) H) (hD : va_D A (qe_ws dp (zE Z) ad n t ++ gs)) (hS : va_S A s.heap H locs) (hwi : qe_wi dp n t) (has : ∀ v ∈ as, qe_rb n v ∧ v < 4722366482869645213696 ∧ v ≠ 7)
    (hlen : (lg_sl (as.map (qe_v (zE Z) ad))).length ≤ (zM Z jj).2.2.1) (hrcv : qx_rc Z rc (as.map (qe_v (zE Z) ad)) H s) (hna : as.length = na) (hsz : la.size = c.maxLocals) (hrest : qx_cat rest ≤ 8) (hf : d2 + 21 ≤ R.frames) (hlo : 60 * d2 + 300 ≤ R.locals) (hcs : cells + qo_ce o ≤ R.cells ∧ slots + qo_sl o ≤ R.slots)
    (kk : ∀ (ad2 : Nat → Nat) (H2 : Heap) (locs2 : List Loc), qx_ex ad ad2 n (qo_n o) → qe_wi dp (qo_n o) (qo_t o) → va_P (zE Z).1 (zc Z) (qe_ws dp (zE Z) ad2 (qo_n o) (qo_t o) ++ gs) H2 → va_D A (qe_ws dp (zE Z) ad2 (qo_n o) (qo_t o) ++ gs) → va_S A s.heap H2 locs2 → W p l e R s m args below meth c H2 locs2 (cells + qo_ce o) (slots + qo_sl o) Q (F0 m nx la (qe_v (zE Z) ad2 (qo_v o) :: rest))) :
    W p l e R s m args below meth c H locs cells slots Q (F0 m pc la ((as.map (qe_v (zE Z) ad)).reverse ++ rest)) := by
  have hP1 := lz_P_l hP
  have hD1 := lz_D_l hD
  have hfree := qe_free hD1 hS hA
  have hM := hcon l ad H.size hB.2.2.2.2.2.2.2.2 hwi has (qe_cok_nil _) hlen
  have hXH : zX Z A s H := hz.2.1 A s s.heap H hX (fun a h1 h2 => hS.2.1 a h1 h2)
  have hXc : zX Z (va_A (qe_ws dp (zE Z) ad n t) H.size) s H := hz.2.2 A _ s H hfree hXH
  have hm1 : qe_mxc [o] = qo_ce o := rfl
  have hm2 : qe_mxs [o] = qo_sl o := rfl
  obtain ⟨hnx, hrun⟩ := hc (la := la) (rest := rest) (locs := locs) (cells := cells) (slots := slots) (e := e) (below := below) (R := R) hB hX hM rfl rfl
    (by show d2 + 20 + 1 ≤ _; omega) (by show 8 + ((zM Z jj).2.2.1 + 11) + (60 * d2 + 200) ≤ _; omega)
    (fun a U g2 mk q => ⟨q.1, q.2.1, q.2.2.1, va_K.moved (u := U) (U := U.calling g2 mk a) (Vm.Alike.refl U.vm) q.2.2.2.1, q.2.2.2.2.1, hz.1 _ U (U.calling g2 mk a) _ (State.WarmedH.refl U) q.2.2.2.2.2⟩)
    hrcv (fun U hU hW => ⟨rfl, by rw [hU], by rw [hU]; exact hP1, va_K.moved hW.alike hK, hD1.weaken (fun _ _ _ _ => trivial), by rw [hU]; exact hz.1 _ s U H hW hXc⟩)
    (by rw [List.length_map]; exact hna) hsz hrest (by rw [hm1, hm2]; exact hcs)
  subst hnx
  intro T hT X
  rcases hrun T hT X with ⟨v, st₀, t1, T2, L, h0, X2, hL, e1, e3, ⟨⟨o1, ho, ad2, x1, x2, x3, x4, x5, hkind⟩, x6⟩, st⟩ | ⟨q, st₀, t1, T2, L, E9, ce, h0, X2, hL, e1, e3, ⟨⟨o1, ho, i, hk2, hE, -⟩, x6⟩, hce, hcv, hcl, st⟩
  · have ho1 := List.mem_singleton.mp ho
    subst ho1
    obtain ⟨-, kk2, kk3⟩ := vx_keep (A1 := va_A (qe_ws dp (zE Z) ad n t) H.size) (free := va_A (qe_ws dp (zE Z) ad n t) H.size) h0 e1 hS (fun q _ hq => hfree q hq) hfree hL x6
    obtain ⟨j1, j2⟩ := lz_join hP hD kk2 (by rw [e1]; exact x4) x5 hfree
    rcases hkind with ⟨c1, c2⟩ | ⟨c1, c2, c3⟩
    · rw [hk1] at c1; cases c1
    · cases c3
      obtain ⟨t2, a1, b1⟩ := kk ad2 T2.heap (locs ++ L) x1 x3 j1 j2 kk3 T2 rfl X2
      exact ⟨t2, st t2 a1, b1⟩
  · have ho1 := List.mem_singleton.mp ho
    subst ho1
    rw [hk1] at hk2
    omega
/-- cells from n0 on are left over -/
theorem lz_forget {E : qe_E} {ad : Nat → Nat} {n0 n : Nat} {t t0 : qe_T dp} (hn : n0 ≤ n) (h0 : ∀ k, k < n0 → qe_rd dp t k = qe_rd dp t0 k) (gs : va_W) : qe_ws dp E ad n t ++ gs = qe_ws dp E ad n0 t0 ++ ((List.range' n0 (n - n0)).map (fun k => (ad k, qe_ent E ad (qe_rd dp t k))) ++ gs) := by
  rw [← List.append_assoc]
  congr 1
  unfold qe_ws
  have hr : List.range n = List.range n0 ++ List.range' n0 (n - n0) := by
    have h := List.range'_append_1 (s := 0) (m := n0) (n := n - n0)
    rw [Nat.zero_add, show n0 + (n - n0) = n by omega] at h
    rw [List.range_eq_range', List.range_eq_range']
    exact h.symm
  rw [hr, List.map_append]
  congr 1
  exact List.map_congr_left fun k hk => by rw [h0 k (List.mem_range.mp hk)]
theorem lz_left {E : qe_E} {ad : Nat → Nat} {n0 N z : Nat} {t : qe_T dp} (h : ∀ k, n0 ≤ k → k < n0 + N → (qe_rd dp t k).1 = 101 ∧ (qe_rd dp t k).2.1 = z) : lz_sum ((List.range' n0 N).map (fun k => (ad k, qe_ent E ad (qe_rd dp t k)))) = N * z := by
  unfold lz_sum
  rw [List.map_map]
  have : ∀ k ∈ List.range' n0 N, ((fun q : Nat × va_E => lz_size q.2) ∘ fun k => (ad k, qe_ent E ad (qe_rd dp t k))) k = z := fun k hk => by
    have h1 := List.mem_range'_1.mp hk
    obtain ⟨h2, h3⟩ := h k h1.1 h1.2
    show lz_size (qe_ent E ad (qe_rd dp t k)) = z
    unfold qe_ent
    rw [h2, h3]
    rfl
  rw [List.map_congr_left this, List.map_const', List.sum_replicate_nat, List.length_range']
end QLW
