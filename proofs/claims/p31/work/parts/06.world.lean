/-! ENGINE, part 4: worlds and locals, and what they stand for -/
section QEW
/-- the class ids and slots, the three array classes, the constants' addresses, the names' ints -/
abbrev qe_E : Type := va_G × (ClassId × ClassId × ClassId) × (Nat → Nat) × (Nat → Int32)
def qe_tys (E : qe_E) : List (ClassId × FieldType) := [(E.2.1.1, .int), (E.2.1.2.1, .boolean), (E.2.1.2.2, .long)]
def qe_v (E : qe_E) (ad : Nat → Nat) (v : Nat) : Value := qe_val ad E.2.2.1 E.2.2.2 v
abbrev qe_C : Type := Nat × Nat × Nat
/-- a cell: kind below 100: an object of that class; 100 int[], 101 boolean[], 102 long[]; above: nothing is known of it -/
def qe_ent (E : qe_E) (ad : Nat → Nat) (c : qe_C) : va_E :=
  cond (Nat.blt c.1 100) (.inr (c.1, (List.range c.2.1).map (fun k => qe_v E ad (qe_get c.2.2 k))))
    (cond (Nat.beq c.1 102) (.inl (E.2.1.2.2, c.2.1, .inr (.inl (fun j => qe_lng E.2.2.2 (qe_get c.2.2 j)))))
      (.inl (cond (Nat.beq c.1 100) E.2.1.1 E.2.1.2.1, c.2.1, .inl (fun j => qe_int E.2.2.2 (qe_get c.2.2 j)))))
noncomputable def qe_ws (dp : Nat) (E : qe_E) (ad : Nat → Nat) (n : Nat) (t : qe_T dp) : va_W := (List.range n).map (fun k => (ad k, qe_ent E ad (qe_rd dp t k)))
/-- a value whose reference, if it is one, is of the world of n cells -/
def qe_rb (n v : Nat) : Prop := qe_is 2 v = true → qe_sym v = false → v / 8 < n
def qe_wi (dp n : Nat) (t : qe_T dp) : Prop := n ≤ 2 ^ dp ∧ ∀ k, k < n → ∀ j, qe_rb n (qe_get (qe_rd dp t k).2.2 j)
theorem qe_rb_int {n v : Nat} (h : qe_is 0 v = true) : qe_rb n v := fun h2 => by
  have a := qe_is_eq h
  have b := qe_is_eq h2
  omega
theorem qe_rb_lng {n v : Nat} (h : qe_is 1 v = true) : qe_rb n v := fun h2 => by
  have a := qe_is_eq h
  have b := qe_is_eq h2
  omega
theorem qe_rb_7 {n : Nat} : qe_rb n 7 := fun h2 => by
  have b := qe_is_eq h2
  omega
theorem qe_rb_3 {n : Nat} : qe_rb n 3 := fun h2 => by
  have b := qe_is_eq h2
  omega
theorem qe_rb_up {n n' v : Nat} (h : qe_rb n v) (hn : n ≤ n') : qe_rb n' v := fun a b => Nat.lt_of_lt_of_le (h a b) hn
theorem qe_rb_R {n k : Nat} (h : k < n) : qe_rb n (qe_R k) := fun _ _ => by
  show (8 * k + 2) / 8 < n
  omega
theorem qe_ws_get {dp : Nat} {E : qe_E} {ad : Nat → Nat} {n : Nat} {t : qe_T dp} {k : Nat} (h : k < n) : (qe_ws dp E ad n t)[k]? = some (ad k, qe_ent E ad (qe_rd dp t k)) := by
  unfold qe_ws
  rw [List.getElem?_map, List.getElem?_range h]
  rfl
theorem qe_ws_len {dp : Nat} {E : qe_E} {ad : Nat → Nat} {n : Nat} {t : qe_T dp} : (qe_ws dp E ad n t).length = n := by
  unfold qe_ws
  rw [List.length_map, List.length_range]
theorem qe_ws_set {dp : Nat} {E : qe_E} {ad : Nat → Nat} {n : Nat} {t : qe_T dp} {k : Nat} {c : qe_C} (h : k < n) (hn : n ≤ 2 ^ dp) : (qe_ws dp E ad n t).set k (ad k, qe_ent E ad c) = qe_ws dp E ad n (qe_wr dp t k c) := by
  refine List.ext_getElem? fun j => ?_
  by_cases hj : j < n
  · rw [qe_ws_get hj, qe_rd_wr, ]
    by_cases hjk : j = k
    · subst hjk
      rw [if_pos rfl, List.getElem?_set_self (by rw [qe_ws_len]; exact hj)]
    · rw [if_neg (fun q => hjk ((qe_mod_ne (Nat.lt_of_lt_of_le h hn) (Nat.lt_of_lt_of_le hj hn)).mp q)), List.getElem?_set_ne (Ne.symm hjk), qe_ws_get hj]
  · rw [List.getElem?_eq_none (by rw [List.length_set, qe_ws_len]; omega), List.getElem?_eq_none (by rw [qe_ws_len]; omega)]
/-- values and cells that know only the first n addresses -/
theorem qe_v_ext {E : qe_E} {ad ad' : Nat → Nat} {n v : Nat} (h : qe_rb n v) (ha : ∀ k, k < n → ad' k = ad k) : qe_v E ad' v = qe_v E ad v := by
  unfold qe_v qe_val
  cases h0 : qe_is 0 v
  · cases h1 : qe_is 1 v
    · cases h2 : qe_is 2 v
      · rfl
      · show Value.ref (qe_adr ad' E.2.2.1 v) = .ref (qe_adr ad E.2.2.1 v)
        unfold qe_adr
        cases h3 : qe_sym v
        · show Value.ref (ad' (v / 8)) = .ref (ad (v / 8))
          rw [ha _ (h h2 h3)]
        · rfl
    · rfl
  · rfl
theorem qe_ent_ext {E : qe_E} {ad ad' : Nat → Nat} {n : Nat} {c : qe_C} (h : ∀ j, qe_rb n (qe_get c.2.2 j)) (ha : ∀ k, k < n → ad' k = ad k) : qe_ent E ad' c = qe_ent E ad c := by
  unfold qe_ent
  rw [show (fun k => qe_v E ad' (qe_get c.2.2 k)) = (fun k => qe_v E ad (qe_get c.2.2 k)) from funext fun k => qe_v_ext (h k) ha]
theorem qe_ws_push {dp : Nat} {E : qe_E} {ad : Nat → Nat} {n q : Nat} {t : qe_T dp} {c : qe_C} (hi : qe_wi dp n t) (hn : n < 2 ^ dp) (hc : ∀ j, qe_rb n (qe_get c.2.2 j)) : qe_ws dp E ad n t ++ [(q, qe_ent E ad c)] = qe_ws dp E (va_up ad n q) (n + 1) (qe_wr dp t n c) := by
  have hx : ∀ k, k < n → va_up ad n q k = ad k := fun k hk => by unfold va_up; rw [if_neg (by omega)]
  refine List.ext_getElem? fun j => ?_
  by_cases hj : j < n
  · rw [List.getElem?_append_left (by rw [qe_ws_len]; exact hj), qe_ws_get hj, qe_ws_get (show j < n + 1 by omega), qe_rd_wr, if_neg (fun z => by
      have := (qe_mod_ne hn (Nat.lt_of_lt_of_le hj hi.1)).mp z
      omega), hx j hj, qe_ent_ext (hi.2 j hj) hx]
  · by_cases hjn : j = n
    · subst hjn
      rw [List.getElem?_append_right (by rw [qe_ws_len]; omega), qe_ws_len, Nat.sub_self, qe_ws_get (show j < j + 1 by omega), qe_rd_wr, if_pos rfl, qe_ent_ext hc hx]
      unfold va_up
      rw [if_pos rfl]
      rfl
    · rw [List.getElem?_eq_none (by rw [List.length_append, qe_ws_len]; show n + 1 ≤ j; omega), List.getElem?_eq_none (by rw [qe_ws_len]; omega)]
theorem qe_wi_set {dp n k i v : Nat} {t : qe_T dp} (h : qe_wi dp n t) (hk : k < n) (hv : qe_rb n v) (hv2 : v < 4722366482869645213696) : qe_wi dp n (qe_wr dp t k ((qe_rd dp t k).1, (qe_rd dp t k).2.1, qe_set (qe_rd dp t k).2.2 i v)) := by
  refine ⟨h.1, fun a ha j => ?_⟩
  rw [qe_rd_wr]
  by_cases hak : a = k
  · subst hak
    rw [if_pos rfl]
    show qe_rb n (qe_get (qe_set (qe_rd dp t a).2.2 i v) j)
    rw [qe_get_set _ _ _ _ hv2]
    by_cases hj : j = i
    · rw [if_pos hj]; exact hv
    · rw [if_neg hj]; exact h.2 a ha j
  · rw [if_neg (fun q => hak ((qe_mod_ne (Nat.lt_of_lt_of_le hk h.1) (Nat.lt_of_lt_of_le ha h.1)).mp q))]
    exact h.2 a ha j
theorem qe_wi_push {dp n : Nat} {t : qe_T dp} {c : qe_C} (h : qe_wi dp n t) (hn : n < 2 ^ dp) (hc : ∀ j, qe_rb n (qe_get c.2.2 j)) : qe_wi dp (n + 1) (qe_wr dp t n c) := by
  refine ⟨hn, fun a ha j => ?_⟩
  rw [qe_rd_wr]
  by_cases hak : a = n
  · subst hak
    rw [if_pos rfl]
    exact qe_rb_up (hc j) (by omega)
  · have ha2 : a < n := by omega
    rw [if_neg (fun q => hak ((qe_mod_ne hn (Nat.lt_of_lt_of_le ha2 h.1)).mp q))]
    exact qe_rb_up (h.2 a ha2 j) (by omega)
/-- an object's fields -/
theorem qe_ent_obj {E : qe_E} {ad : Nat → Nat} {c : qe_C} (h : Nat.blt c.1 100 = true) : qe_ent E ad c = .inr (c.1, (List.range c.2.1).map (fun k => qe_v E ad (qe_get c.2.2 k))) := by
  unfold qe_ent; rw [h]; rfl
theorem qe_fs_get {E : qe_E} {ad : Nat → Nat} {N d k : Nat} (h : k < N) : ((List.range N).map (fun k => qe_v E ad (qe_get d k)))[k]? = some (qe_v E ad (qe_get d k)) := by
  rw [List.getElem?_map, List.getElem?_range h]
  rfl
theorem qe_fs_set {E : qe_E} {ad : Nat → Nat} {N d k v : Nat} (hv : v < 4722366482869645213696) : ((List.range N).map (fun k => qe_v E ad (qe_get d k))).set k (qe_v E ad v) = (List.range N).map (fun j => qe_v E ad (qe_get (qe_set d k v) j)) := by
  refine List.ext_getElem? fun j => ?_
  by_cases hj : j < N
  · rw [qe_fs_get (d := qe_set d k v) hj, qe_get_set _ _ _ _ hv]
    by_cases hjk : j = k
    · subst hjk
      rw [if_pos rfl, List.getElem?_set_self (by rw [List.length_map, List.length_range]; exact hj)]
    · rw [if_neg hjk, List.getElem?_set_ne (Ne.symm hjk), qe_fs_get hj]
  · rw [List.getElem?_eq_none (by rw [List.length_set, List.length_map, List.length_range]; omega), List.getElem?_eq_none (by rw [List.length_map, List.length_range]; omega)]
theorem qe_up_int {rho : Nat → Int32} {d i v : Nat} (hv : v < 4722366482869645213696) : upd (fun j => qe_int rho (qe_get d j)) i (qe_int rho v) = fun j => qe_int rho (qe_get (qe_set d i v) j) := by
  funext j
  unfold upd
  rw [qe_get_set _ _ _ _ hv]
  by_cases hj : j = i
  · rw [if_pos hj, if_pos hj]
  · rw [if_neg hj, if_neg hj]
/-- locals: a row of places, 7 where nothing is known -/
def qe_lh (E : qe_E) (ad : Nat → Nat) (la : Array Slot) (nL ls : Nat) : Prop := la.size = nL ∧ lv_wf la ∧ ∀ i, i < nL → qe_get ls i ≠ 7 → la[i]? = some (.val (qe_v E ad (qe_get ls i)))
theorem qe_lh_at {E : qe_E} {ad : Nat → Nat} {la : Array Slot} {nL ls i : Nat} (h : qe_lh E ad la nL ls) (hi : i < nL) (h7 : qe_get ls i ≠ 7) : la[i]? = some (.val (qe_v E ad (qe_get ls i))) := h.2.2 i hi h7
def qe_ll (E : qe_E) (ad : Nat → Nat) (nL ls : Nat) : List (Nat × Value) := (List.range nL).filterMap (fun i => if qe_get ls i = 7 then none else some (i, qe_v E ad (qe_get ls i)))
theorem qe_ll_mem {E : qe_E} {ad : Nat → Nat} {nL ls i : Nat} (hi : i < nL) (h7 : qe_get ls i ≠ 7) : (i, qe_v E ad (qe_get ls i)) ∈ qe_ll E ad nL ls :=
  List.mem_filterMap.mpr ⟨i, List.mem_range.mpr hi, by rw [if_neg h7]⟩
theorem qe_lh_has {E : qe_E} {ad : Nat → Nat} {la : Array Slot} {nL ls : Nat} (h : qe_lh E ad la nL ls) : lv_has la nL (qe_ll E ad nL ls) := by
  refine ⟨h.1, h.2.1, fun q hq => ?_⟩
  obtain ⟨i, h1, h2⟩ := List.mem_filterMap.mp hq
  by_cases h7 : qe_get ls i = 7
  · rw [if_pos h7] at h2; cases h2
  · rw [if_neg h7] at h2
    cases h2
    exact h.2.2 i (List.mem_range.mp h1) h7
theorem qe_cat {E : qe_E} {ad : Nat → Nat} {v : Nat} (h : qe_is 1 v = false) : (qe_v E ad v).category ≠ 2 := by
  unfold qe_v qe_val
  rw [h]
  cases qe_is 0 v
  · cases qe_is 2 v <;> simp [Value.category]
  · simp [Value.category]
/-- a value of one place is stored -/
theorem qe_lh_st1 {E : qe_E} {ad : Nat → Nat} {la la' : Array Slot} {nL ls i v : Nat} (hv : v < 4722366482869645213696) (hp : i = 0 ∨ qe_is 1 (qe_get ls (i - 1)) = false)
    (h' : lv_has la' nL ((i, qe_v E ad v) :: (qe_ll E ad nL ls).filter (fun q => !(q.1 == i) && !(q.1 + 1 == i && q.2.category == 2)))) : qe_lh E ad la' nL (qe_set ls i v) := by
  refine ⟨h'.1, h'.2.1, fun j hj h7 => ?_⟩
  rw [qe_get_set _ _ _ _ hv] at h7 ⊢
  by_cases hji : j = i
  · subst hji
    rw [if_pos rfl]
    exact h'.2.2 _ List.mem_cons_self
  · rw [if_neg hji] at h7 ⊢
    refine h'.2.2 _ (List.mem_cons_of_mem _ (List.mem_filter.mpr ⟨qe_ll_mem hj h7, ?_⟩))
    have a1 : (j == i) = false := by simp [hji]
    show (!(j == i) && !(j + 1 == i && (qe_v E ad (qe_get ls j)).category == 2)) = true
    rw [a1]
    by_cases hj1 : j + 1 = i
    · rcases hp with hp | hp
      · omega
      · rw [show i - 1 = j by omega] at hp
        have := qe_cat (E := E) (ad := ad) hp
        simp [this]
    · simp [hj1]
/-- a long is stored -/
theorem qe_lh_st2 {E : qe_E} {ad : Nat → Nat} {la la' : Array Slot} {nL ls i v : Nat} (hv : v < 4722366482869645213696) (hp : i = 0 ∨ qe_is 1 (qe_get ls (i - 1)) = false)
    (h' : lv_has la' nL ((i, qe_v E ad v) :: (qe_ll E ad nL ls).filter (fun q => !(q.1 == i) && (!(q.1 == i + 1) && !(q.1 + 1 == i && q.2.category == 2))))) : qe_lh E ad la' nL (qe_set (qe_set ls i v) (i + 1) 7) := by
  refine ⟨h'.1, h'.2.1, fun j hj h7 => ?_⟩
  rw [qe_get_set _ _ _ _ (by decide)] at h7 ⊢
  by_cases hj2 : j = i + 1
  · rw [if_pos hj2] at h7; exact absurd rfl h7
  · rw [if_neg hj2] at h7 ⊢
    rw [qe_get_set _ _ _ _ hv] at h7 ⊢
    by_cases hji : j = i
    · subst hji
      rw [if_pos rfl]
      exact h'.2.2 _ List.mem_cons_self
    · rw [if_neg hji] at h7 ⊢
      refine h'.2.2 _ (List.mem_cons_of_mem _ (List.mem_filter.mpr ⟨qe_ll_mem hj h7, ?_⟩))
      have a1 : (j == i) = false := by simp [hji]
      have a2 : (j == i + 1) = false := by simp [hj2]
      show (!(j == i) && (!(j == i + 1) && !(j + 1 == i && (qe_v E ad (qe_get ls j)).category == 2))) = true
      rw [a1, a2]
      by_cases hj1 : j + 1 = i
      · rcases hp with hp | hp
        · omega
        · rw [show i - 1 = j by omega] at hp
          have := qe_cat (E := E) (ad := ad) hp
          simp [this]
      · simp [hj1]
theorem qe_lh_ext {E : qe_E} {ad ad' : Nat → Nat} {la : Array Slot} {nL ls n : Nat} (h : qe_lh E ad la nL ls) (hr : ∀ i, qe_rb n (qe_get ls i)) (ha : ∀ k, k < n → ad' k = ad k) : qe_lh E ad' la nL ls :=
  ⟨h.1, h.2.1, fun i hi h7 => by rw [qe_v_ext (hr i) ha]; exact h.2.2 i hi h7⟩
end QEW
