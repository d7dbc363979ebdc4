/-! THE RUN: made by wip/engine/gen34.py -/
def qg_o (o : qe_O 7) : Bool := (Nat.beq (qo_k o) 1 && Nat.beq (qo_v o) 8) && (Nat.ble (qo_ce o) 600006 && Nat.ble (qo_sl o) 7302000)
def qg_ok (r : Option (List (qe_O 7))) : Bool := match r with
  | some l => l.all qg_o
  | none => false
def qt_df : qe_Df := [(13, 4, 248, 100), (12, 248, 12, 101), (10, 812, 0, 102), (18, 820, 120, 103), (15, 820, 828, 104), (12, 836, 5919859560, 105), (18, 844, 96, 106), (15, 844, 852, 107), (18, 12, 192, 108), (13, 868, 2040, 109), (18, 12, 128, 110), (13, 884, 2040, 111), (18, 12, 64, 112), (13, 900, 2040, 113), (18, 12, 0, 114), (13, 916, 2040, 115)]
noncomputable def qt_run (L : Nat) (cx : qe_Cx) : Option (List (qe_O 7)) := qe_run (qd_P qt_df L) 1000000 30 249 0 (qe_set qe_ls0 0 6) [] (0, qe_nil 7, cx, 0, 0)
