/-! THE STATEMENT IS FALSE AT THAT START -/
section QFF
set_option maxRecDepth 16384 in
theorem zq_w1 : (Jvm.Cond.code x code maxLocals ret :: tables_1).all (fun c => c.onTables || c.before start1.args0 zq_s0) = true := by decide +kernel
theorem zq_words : ∀ c ∈ (Jvm.Cond.code x code maxLocals ret :: tables_1), c.before start1.args0 zq_s0 = true := by
  intro c hc
  have h1 := List.all_eq_true.mp zq_w1 c hc
  rw [Bool.or_eq_true] at h1
  rcases h1 with h1 | h1
  · exact va_tabs (u := start1.aboutOf start1.cells0) (U := start1.aboutOf zq_S) h1 (zq_vm start1.cells0 zq_S) (start1.words c hc)
  · exact h1
set_option maxRecDepth 16384 in
theorem zq_pre : (Jvm.Cond.and given_1 narrow_1).before start1.args0 zq_s0 = true := by decide +kernel
set_option maxRecDepth 16384 in
theorem zq_app (R : Room) (hR : zq_s0.hasRoom start1.e0.platform R = true) : (headSpec (Jvm.Cond.code x code maxLocals ret :: tables_1) R).applies x start1.e0.platform zq_s0 = true :=
  (Spec.applies_iff rfl).mpr ⟨rfl, rfl, rfl, by decide +kernel, by decide +kernel, by decide +kernel, hR, atoms_intro zq_words⟩
set_option maxRecDepth 16384 in
theorem zq_room1 : zq_s0.hasRoom start1.e0.platform room_1 = true := launch0.hasRoom_least _ room_1 (by decide +kernel) (by decide +kernel) (by decide +kernel) (by decide +kernel) (by decide +kernel) (by decide +kernel)
set_option maxRecDepth 16384 in
theorem zq_roomR : zq_s0.hasRoom start1.e0.platform zq_R = true := launch0.hasRoom_least _ zq_R (by decide +kernel) (by decide +kernel) (by decide +kernel) (by decide +kernel) (by decide +kernel) (by decide +kernel)
theorem zq_Ps : zq_P 0 start1.args0 zq_s0 :=
  ⟨rfl, ⟨zq_z0, zq_hp0 zq_S, ⟨fun k h => (by cases h), _, zq_cl zq_S, 30, rfl⟩, fun h => (by cases h), zq_Sn, fun j hj => zq_Sg j hj⟩, by decide +kernel, zq_pre⟩
set_option maxRecDepth 16384 in
theorem whole_false : ¬ Claimed_1_1 := by
  intro h
  have hc := h launch0 rfl lists_1 trivial
  obtain ⟨n1, o1, w1, r1, e1, q1⟩ := hc start1.p0 start1.e0 (launch0.admits_env _ _ _) fairChoices_fair.cas fairChoices_fair.clock zq_s0 ⟨0, 0⟩ start1.args0 Lib.HandBits.below0 rfl (by decide +kernel) zq_fit (zq_app _ zq_room1) ⟨trivial, zq_rest, zq_pre⟩
  obtain ⟨n2, o2, w2, r2, e2, q2⟩ := zq_met launch0 rfl 0 start1.p0 start1.e0 (launch0.admits_env _ _ _) fairChoices_fair.cas fairChoices_fair.clock zq_s0 ⟨0, 0⟩ start1.args0 Lib.HandBits.below0 rfl ((Spec.applies_iff_loose rfl).mp (zq_app _ zq_roomR)).1 zq_Ps trivial
  have hn := lz_once w1 e1 w2 e2
  subst hn
  have hq := q2.1.2
  have hs := q1.2.1.2.2.2.2.2.2.1
  exact absurd (Nat.le_trans hq hs) (by decide)
theorem whole_refuted : ¬ (Claimed_1_1 ∧ Claimed_1_2) := fun h => whole_false h.1
end QFF
