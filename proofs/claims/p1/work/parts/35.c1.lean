/-! THE START, the rest 1: made by wip/engine/gen35.py -/
def qs_r100 (xs : Nat → Int32) : Int32 := qe_sem 13 (xs 0) (Int32.ofNat 31)
def qs_r101 (xs : Nat → Int32) : Int32 := qe_sem 12 (Int32.ofNat 31) (xs 1)
def qs_r102 (xs : Nat → Int32) : Int32 := qe_sem 10 (qs_r101 xs) (Int32.ofNat 0)
def qs_r103 (xs : Nat → Int32) : Int32 := qe_sem 18 (qs_r102 xs) (Int32.ofNat 15)
def qs_r104 (xs : Nat → Int32) : Int32 := qe_sem 15 (qs_r102 xs) (qs_r103 xs)
def qs_r105 (xs : Nat → Int32) : Int32 := qe_sem 12 (qs_r104 xs) (Int32.ofNat 739982445)
def qs_r106 (xs : Nat → Int32) : Int32 := qe_sem 18 (qs_r105 xs) (Int32.ofNat 12)
def qs_r107 (xs : Nat → Int32) : Int32 := qe_sem 15 (qs_r105 xs) (qs_r106 xs)
def qs_r108 (xs : Nat → Int32) : Int32 := qe_sem 18 (xs 1) (Int32.ofNat 24)
def qs_r109 (xs : Nat → Int32) : Int32 := qe_sem 13 (qs_r108 xs) (Int32.ofNat 255)
def qs_r110 (xs : Nat → Int32) : Int32 := qe_sem 18 (xs 1) (Int32.ofNat 16)
def qs_r111 (xs : Nat → Int32) : Int32 := qe_sem 13 (qs_r110 xs) (Int32.ofNat 255)
def qs_r112 (xs : Nat → Int32) : Int32 := qe_sem 18 (xs 1) (Int32.ofNat 8)
def qs_r113 (xs : Nat → Int32) : Int32 := qe_sem 13 (qs_r112 xs) (Int32.ofNat 255)
def qs_r114 (xs : Nat → Int32) : Int32 := qe_sem 18 (xs 1) (Int32.ofNat 0)
def qs_r115 (xs : Nat → Int32) : Int32 := qe_sem 13 (qs_r114 xs) (Int32.ofNat 255)
def qs_rho (xs : Nat → Int32) (i : Nat) : Int32 := cond (Nat.beq i 100) (qs_r100 xs) (cond (Nat.beq i 101) (qs_r101 xs) (cond (Nat.beq i 102) (qs_r102 xs) (cond (Nat.beq i 103) (qs_r103 xs) (cond (Nat.beq i 104) (qs_r104 xs) (cond (Nat.beq i 105) (qs_r105 xs) (cond (Nat.beq i 106) (qs_r106 xs) (cond (Nat.beq i 107) (qs_r107 xs) (cond (Nat.beq i 108) (qs_r108 xs) (cond (Nat.beq i 109) (qs_r109 xs) (cond (Nat.beq i 110) (qs_r110 xs) (cond (Nat.beq i 111) (qs_r111 xs) (cond (Nat.beq i 112) (qs_r112 xs) (cond (Nat.beq i 113) (qs_r113 xs) (cond (Nat.beq i 114) (qs_r114 xs) (cond (Nat.beq i 115) (qs_r115 xs) (xs i))))))))))))))))
theorem qs_rho_lt (xs : Nat → Int32) {j : Nat} (h : j < 3) : qs_rho xs j = xs j := by
  rcases (show j = 0 ∨ j = 1 ∨ j = 2 by omega) with rfl | rfl | rfl <;> rfl
theorem qs_cs {i r : Nat} {a b : Int32} (h : Nat.beq i r = true) : cond (Nat.beq i r) a b = a := by rw [h]; rfl
theorem qs_cn {i r : Nat} {a b : Int32} (h : Nat.beq i r = false) : cond (Nat.beq i r) a b = b := by rw [h]; rfl
theorem qs_in (rho : Nat → Int32) (i : Nat) : qe_int rho (8 * i + 4) = rho i := by
  unfold qe_int
  have hs : qe_sym (8 * i + 4) = true := by
    show Nat.beq ((8 * i + 4) / 4 % 2) 1 = true
    rw [show (8 * i + 4) / 4 % 2 = 1 by omega]; rfl
  rw [hs]
  show rho ((8 * i + 4) / 8) = rho i
  rw [show (8 * i + 4) / 8 = i by omega]
theorem qs_e100 (xs : Nat → Int32) : qs_rho xs 100 = qs_r100 xs := by
  unfold qs_rho
  exact qs_cs rfl
theorem qs_d100 (xs : Nat → Int32) : qs_rho xs 100 = qe_sem 13 (qe_int (qs_rho xs) 4) (qe_int (qs_rho xs) 248) := (qs_e100 xs).trans (congr (congrArg (qe_sem 13) (show qe_int (qs_rho xs) 4 = (xs 0) from (qs_in (qs_rho xs) 0).trans (qs_rho_lt xs (by decide))).symm) (show qe_int (qs_rho xs) 248 = (Int32.ofNat 31) from qe_I_int (qs_rho xs) 31).symm)
theorem qs_e101 (xs : Nat → Int32) : qs_rho xs 101 = qs_r101 xs := by
  unfold qs_rho
  exact (qs_cn rfl).trans (qs_cs rfl)
theorem qs_d101 (xs : Nat → Int32) : qs_rho xs 101 = qe_sem 12 (qe_int (qs_rho xs) 248) (qe_int (qs_rho xs) 12) := (qs_e101 xs).trans (congr (congrArg (qe_sem 12) (show qe_int (qs_rho xs) 248 = (Int32.ofNat 31) from qe_I_int (qs_rho xs) 31).symm) (show qe_int (qs_rho xs) 12 = (xs 1) from (qs_in (qs_rho xs) 1).trans (qs_rho_lt xs (by decide))).symm)
theorem qs_e102 (xs : Nat → Int32) : qs_rho xs 102 = qs_r102 xs := by
  unfold qs_rho
  exact (qs_cn rfl).trans ((qs_cn rfl).trans (qs_cs rfl))
theorem qs_d102 (xs : Nat → Int32) : qs_rho xs 102 = qe_sem 10 (qe_int (qs_rho xs) 812) (qe_int (qs_rho xs) 0) := (qs_e102 xs).trans (congr (congrArg (qe_sem 10) (show qe_int (qs_rho xs) 812 = (qs_r101 xs) from (qs_in (qs_rho xs) 101).trans (qs_e101 xs)).symm) (show qe_int (qs_rho xs) 0 = (Int32.ofNat 0) from qe_I_int (qs_rho xs) 0).symm)
theorem qs_e103 (xs : Nat → Int32) : qs_rho xs 103 = qs_r103 xs := by
  unfold qs_rho
  exact (qs_cn rfl).trans ((qs_cn rfl).trans ((qs_cn rfl).trans (qs_cs rfl)))
theorem qs_d103 (xs : Nat → Int32) : qs_rho xs 103 = qe_sem 18 (qe_int (qs_rho xs) 820) (qe_int (qs_rho xs) 120) := (qs_e103 xs).trans (congr (congrArg (qe_sem 18) (show qe_int (qs_rho xs) 820 = (qs_r102 xs) from (qs_in (qs_rho xs) 102).trans (qs_e102 xs)).symm) (show qe_int (qs_rho xs) 120 = (Int32.ofNat 15) from qe_I_int (qs_rho xs) 15).symm)
theorem qs_e104 (xs : Nat → Int32) : qs_rho xs 104 = qs_r104 xs := by
  unfold qs_rho
  exact (qs_cn rfl).trans ((qs_cn rfl).trans ((qs_cn rfl).trans ((qs_cn rfl).trans (qs_cs rfl))))
theorem qs_d104 (xs : Nat → Int32) : qs_rho xs 104 = qe_sem 15 (qe_int (qs_rho xs) 820) (qe_int (qs_rho xs) 828) := (qs_e104 xs).trans (congr (congrArg (qe_sem 15) (show qe_int (qs_rho xs) 820 = (qs_r102 xs) from (qs_in (qs_rho xs) 102).trans (qs_e102 xs)).symm) (show qe_int (qs_rho xs) 828 = (qs_r103 xs) from (qs_in (qs_rho xs) 103).trans (qs_e103 xs)).symm)
theorem qs_e105 (xs : Nat → Int32) : qs_rho xs 105 = qs_r105 xs := by
  unfold qs_rho
  exact (qs_cn rfl).trans ((qs_cn rfl).trans ((qs_cn rfl).trans ((qs_cn rfl).trans ((qs_cn rfl).trans (qs_cs rfl)))))
theorem qs_d105 (xs : Nat → Int32) : qs_rho xs 105 = qe_sem 12 (qe_int (qs_rho xs) 836) (qe_int (qs_rho xs) 5919859560) := (qs_e105 xs).trans (congr (congrArg (qe_sem 12) (show qe_int (qs_rho xs) 836 = (qs_r104 xs) from (qs_in (qs_rho xs) 104).trans (qs_e104 xs)).symm) (show qe_int (qs_rho xs) 5919859560 = (Int32.ofNat 739982445) from qe_I_int (qs_rho xs) 739982445).symm)
theorem qs_e106 (xs : Nat → Int32) : qs_rho xs 106 = qs_r106 xs := by
  unfold qs_rho
  exact (qs_cn rfl).trans ((qs_cn rfl).trans ((qs_cn rfl).trans ((qs_cn rfl).trans ((qs_cn rfl).trans ((qs_cn rfl).trans (qs_cs rfl))))))
theorem qs_d106 (xs : Nat → Int32) : qs_rho xs 106 = qe_sem 18 (qe_int (qs_rho xs) 844) (qe_int (qs_rho xs) 96) := (qs_e106 xs).trans (congr (congrArg (qe_sem 18) (show qe_int (qs_rho xs) 844 = (qs_r105 xs) from (qs_in (qs_rho xs) 105).trans (qs_e105 xs)).symm) (show qe_int (qs_rho xs) 96 = (Int32.ofNat 12) from qe_I_int (qs_rho xs) 12).symm)
theorem qs_e107 (xs : Nat → Int32) : qs_rho xs 107 = qs_r107 xs := by
  unfold qs_rho
  exact (qs_cn rfl).trans ((qs_cn rfl).trans ((qs_cn rfl).trans ((qs_cn rfl).trans ((qs_cn rfl).trans ((qs_cn rfl).trans ((qs_cn rfl).trans (qs_cs rfl)))))))
theorem qs_d107 (xs : Nat → Int32) : qs_rho xs 107 = qe_sem 15 (qe_int (qs_rho xs) 844) (qe_int (qs_rho xs) 852) := (qs_e107 xs).trans (congr (congrArg (qe_sem 15) (show qe_int (qs_rho xs) 844 = (qs_r105 xs) from (qs_in (qs_rho xs) 105).trans (qs_e105 xs)).symm) (show qe_int (qs_rho xs) 852 = (qs_r106 xs) from (qs_in (qs_rho xs) 106).trans (qs_e106 xs)).symm)
theorem qs_e108 (xs : Nat → Int32) : qs_rho xs 108 = qs_r108 xs := by
  unfold qs_rho
  exact (qs_cn rfl).trans ((qs_cn rfl).trans ((qs_cn rfl).trans ((qs_cn rfl).trans ((qs_cn rfl).trans ((qs_cn rfl).trans ((qs_cn rfl).trans ((qs_cn rfl).trans (qs_cs rfl))))))))
theorem qs_d108 (xs : Nat → Int32) : qs_rho xs 108 = qe_sem 18 (qe_int (qs_rho xs) 12) (qe_int (qs_rho xs) 192) := (qs_e108 xs).trans (congr (congrArg (qe_sem 18) (show qe_int (qs_rho xs) 12 = (xs 1) from (qs_in (qs_rho xs) 1).trans (qs_rho_lt xs (by decide))).symm) (show qe_int (qs_rho xs) 192 = (Int32.ofNat 24) from qe_I_int (qs_rho xs) 24).symm)
theorem qs_e109 (xs : Nat → Int32) : qs_rho xs 109 = qs_r109 xs := by
  unfold qs_rho
  exact (qs_cn rfl).trans ((qs_cn rfl).trans ((qs_cn rfl).trans ((qs_cn rfl).trans ((qs_cn rfl).trans ((qs_cn rfl).trans ((qs_cn rfl).trans ((qs_cn rfl).trans ((qs_cn rfl).trans (qs_cs rfl)))))))))
theorem qs_d109 (xs : Nat → Int32) : qs_rho xs 109 = qe_sem 13 (qe_int (qs_rho xs) 868) (qe_int (qs_rho xs) 2040) := (qs_e109 xs).trans (congr (congrArg (qe_sem 13) (show qe_int (qs_rho xs) 868 = (qs_r108 xs) from (qs_in (qs_rho xs) 108).trans (qs_e108 xs)).symm) (show qe_int (qs_rho xs) 2040 = (Int32.ofNat 255) from qe_I_int (qs_rho xs) 255).symm)
theorem qs_e110 (xs : Nat → Int32) : qs_rho xs 110 = qs_r110 xs := by
  unfold qs_rho
  exact (qs_cn rfl).trans ((qs_cn rfl).trans ((qs_cn rfl).trans ((qs_cn rfl).trans ((qs_cn rfl).trans ((qs_cn rfl).trans ((qs_cn rfl).trans ((qs_cn rfl).trans ((qs_cn rfl).trans ((qs_cn rfl).trans (qs_cs rfl))))))))))
theorem qs_d110 (xs : Nat → Int32) : qs_rho xs 110 = qe_sem 18 (qe_int (qs_rho xs) 12) (qe_int (qs_rho xs) 128) := (qs_e110 xs).trans (congr (congrArg (qe_sem 18) (show qe_int (qs_rho xs) 12 = (xs 1) from (qs_in (qs_rho xs) 1).trans (qs_rho_lt xs (by decide))).symm) (show qe_int (qs_rho xs) 128 = (Int32.ofNat 16) from qe_I_int (qs_rho xs) 16).symm)
theorem qs_e111 (xs : Nat → Int32) : qs_rho xs 111 = qs_r111 xs := by
  unfold qs_rho
  exact (qs_cn rfl).trans ((qs_cn rfl).trans ((qs_cn rfl).trans ((qs_cn rfl).trans ((qs_cn rfl).trans ((qs_cn rfl).trans ((qs_cn rfl).trans ((qs_cn rfl).trans ((qs_cn rfl).trans ((qs_cn rfl).trans ((qs_cn rfl).trans (qs_cs rfl)))))))))))
theorem qs_d111 (xs : Nat → Int32) : qs_rho xs 111 = qe_sem 13 (qe_int (qs_rho xs) 884) (qe_int (qs_rho xs) 2040) := (qs_e111 xs).trans (congr (congrArg (qe_sem 13) (show qe_int (qs_rho xs) 884 = (qs_r110 xs) from (qs_in (qs_rho xs) 110).trans (qs_e110 xs)).symm) (show qe_int (qs_rho xs) 2040 = (Int32.ofNat 255) from qe_I_int (qs_rho xs) 255).symm)
theorem qs_e112 (xs : Nat → Int32) : qs_rho xs 112 = qs_r112 xs := by
  unfold qs_rho
  exact (qs_cn rfl).trans ((qs_cn rfl).trans ((qs_cn rfl).trans ((qs_cn rfl).trans ((qs_cn rfl).trans ((qs_cn rfl).trans ((qs_cn rfl).trans ((qs_cn rfl).trans ((qs_cn rfl).trans ((qs_cn rfl).trans ((qs_cn rfl).trans ((qs_cn rfl).trans (qs_cs rfl))))))))))))
theorem qs_d112 (xs : Nat → Int32) : qs_rho xs 112 = qe_sem 18 (qe_int (qs_rho xs) 12) (qe_int (qs_rho xs) 64) := (qs_e112 xs).trans (congr (congrArg (qe_sem 18) (show qe_int (qs_rho xs) 12 = (xs 1) from (qs_in (qs_rho xs) 1).trans (qs_rho_lt xs (by decide))).symm) (show qe_int (qs_rho xs) 64 = (Int32.ofNat 8) from qe_I_int (qs_rho xs) 8).symm)
theorem qs_e113 (xs : Nat → Int32) : qs_rho xs 113 = qs_r113 xs := by
  unfold qs_rho
  exact (qs_cn rfl).trans ((qs_cn rfl).trans ((qs_cn rfl).trans ((qs_cn rfl).trans ((qs_cn rfl).trans ((qs_cn rfl).trans ((qs_cn rfl).trans ((qs_cn rfl).trans ((qs_cn rfl).trans ((qs_cn rfl).trans ((qs_cn rfl).trans ((qs_cn rfl).trans ((qs_cn rfl).trans (qs_cs rfl)))))))))))))
theorem qs_d113 (xs : Nat → Int32) : qs_rho xs 113 = qe_sem 13 (qe_int (qs_rho xs) 900) (qe_int (qs_rho xs) 2040) := (qs_e113 xs).trans (congr (congrArg (qe_sem 13) (show qe_int (qs_rho xs) 900 = (qs_r112 xs) from (qs_in (qs_rho xs) 112).trans (qs_e112 xs)).symm) (show qe_int (qs_rho xs) 2040 = (Int32.ofNat 255) from qe_I_int (qs_rho xs) 255).symm)
theorem qs_e114 (xs : Nat → Int32) : qs_rho xs 114 = qs_r114 xs := by
  unfold qs_rho
  exact (qs_cn rfl).trans ((qs_cn rfl).trans ((qs_cn rfl).trans ((qs_cn rfl).trans ((qs_cn rfl).trans ((qs_cn rfl).trans ((qs_cn rfl).trans ((qs_cn rfl).trans ((qs_cn rfl).trans ((qs_cn rfl).trans ((qs_cn rfl).trans ((qs_cn rfl).trans ((qs_cn rfl).trans ((qs_cn rfl).trans (qs_cs rfl))))))))))))))
theorem qs_d114 (xs : Nat → Int32) : qs_rho xs 114 = qe_sem 18 (qe_int (qs_rho xs) 12) (qe_int (qs_rho xs) 0) := (qs_e114 xs).trans (congr (congrArg (qe_sem 18) (show qe_int (qs_rho xs) 12 = (xs 1) from (qs_in (qs_rho xs) 1).trans (qs_rho_lt xs (by decide))).symm) (show qe_int (qs_rho xs) 0 = (Int32.ofNat 0) from qe_I_int (qs_rho xs) 0).symm)
theorem qs_e115 (xs : Nat → Int32) : qs_rho xs 115 = qs_r115 xs := by
  unfold qs_rho
  exact (qs_cn rfl).trans ((qs_cn rfl).trans ((qs_cn rfl).trans ((qs_cn rfl).trans ((qs_cn rfl).trans ((qs_cn rfl).trans ((qs_cn rfl).trans ((qs_cn rfl).trans ((qs_cn rfl).trans ((qs_cn rfl).trans ((qs_cn rfl).trans ((qs_cn rfl).trans ((qs_cn rfl).trans ((qs_cn rfl).trans ((qs_cn rfl).trans (qs_cs rfl)))))))))))))))
theorem qs_d115 (xs : Nat → Int32) : qs_rho xs 115 = qe_sem 13 (qe_int (qs_rho xs) 916) (qe_int (qs_rho xs) 2040) := (qs_e115 xs).trans (congr (congrArg (qe_sem 13) (show qe_int (qs_rho xs) 916 = (qs_r114 xs) from (qs_in (qs_rho xs) 114).trans (qs_e114 xs)).symm) (show qe_int (qs_rho xs) 2040 = (Int32.ofNat 255) from qe_I_int (qs_rho xs) 255).symm)
theorem qs_dok (xs : Nat → Int32) : qe_dok (qs_rho xs) qt_df := List.forall_mem_cons.mpr ⟨qs_d100 xs, List.forall_mem_cons.mpr ⟨qs_d101 xs, List.forall_mem_cons.mpr ⟨qs_d102 xs, List.forall_mem_cons.mpr ⟨qs_d103 xs, List.forall_mem_cons.mpr ⟨qs_d104 xs, List.forall_mem_cons.mpr ⟨qs_d105 xs, List.forall_mem_cons.mpr ⟨qs_d106 xs, List.forall_mem_cons.mpr ⟨qs_d107 xs, List.forall_mem_cons.mpr ⟨qs_d108 xs, List.forall_mem_cons.mpr ⟨qs_d109 xs, List.forall_mem_cons.mpr ⟨qs_d110 xs, List.forall_mem_cons.mpr ⟨qs_d111 xs, List.forall_mem_cons.mpr ⟨qs_d112 xs, List.forall_mem_cons.mpr ⟨qs_d113 xs, List.forall_mem_cons.mpr ⟨qs_d114 xs, List.forall_mem_cons.mpr ⟨qs_d115 xs, fun q hq => absurd hq List.not_mem_nil⟩⟩⟩⟩⟩⟩⟩⟩⟩⟩⟩⟩⟩⟩⟩⟩
