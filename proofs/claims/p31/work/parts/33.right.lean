/-! THE PROGRAM IS RIGHT: made by wip/engine/gen33.py -/
section QER2
variable {dp : Nat}
theorem tqm_X9_init_lr {df : qe_Df} {L : Nat} {E : qe_E} (hd : qe_dok E.2.2.2 df) (b : Nat) : qx_sn (dp := dp) (qZ E L) 0 (qp_X9_init b) (qm_X9_init_lr df L b).1 := by
  unfold qm_X9_init_lr
  exact sn_node (sn_leaf (j := 0) (b := b) (i := 1) (f := qp_X9_init) (qs_X9_init_1 hd)) (sn_leaf (j := 0) (b := b) (i := 2) (f := qp_X9_init) (qs_X9_init_2 hd))
theorem tqm_X9_init_l {df : qe_Df} {L : Nat} {E : qe_E} (hd : qe_dok E.2.2.2 df) (b : Nat) : qx_sn (dp := dp) (qZ E L) 0 (qp_X9_init b) (qm_X9_init_l df L b).1 := by
  unfold qm_X9_init_l
  exact sn_node (sn_leaf (j := 0) (b := b) (i := 0) (f := qp_X9_init) (qs_X9_init_0 hd)) (tqm_X9_init_lr hd b)
theorem tqm_X9_init_rl {df : qe_Df} {L : Nat} {E : qe_E} (hd : qe_dok E.2.2.2 df) (b : Nat) : qx_sn (dp := dp) (qZ E L) 0 (qp_X9_init b) (qm_X9_init_rl df L b).1 := by
  unfold qm_X9_init_rl
  exact sn_node (sn_leaf (j := 0) (b := b) (i := 3) (f := qp_X9_init) (qs_X9_init_3 hd)) (sn_leaf (j := 0) (b := b) (i := 4) (f := qp_X9_init) (qs_X9_init_4 hd))
theorem tqm_X9_init_rr {df : qe_Df} {L : Nat} {E : qe_E} (hd : qe_dok E.2.2.2 df) (b : Nat) : qx_sn (dp := dp) (qZ E L) 0 (qp_X9_init b) (qm_X9_init_rr df L b).1 := by
  unfold qm_X9_init_rr
  exact sn_node (sn_leaf (j := 0) (b := b) (i := 5) (f := qp_X9_init) (qs_X9_init_5 hd)) (sn_leaf (j := 0) (b := b) (i := 6) (f := qp_X9_init) (qs_X9_init_6 hd))
theorem tqm_X9_init_r {df : qe_Df} {L : Nat} {E : qe_E} (hd : qe_dok E.2.2.2 df) (b : Nat) : qx_sn (dp := dp) (qZ E L) 0 (qp_X9_init b) (qm_X9_init_r df L b).1 := by
  unfold qm_X9_init_r
  exact sn_node (tqm_X9_init_rl hd b) (tqm_X9_init_rr hd b)
theorem tqm_X9_init_ {df : qe_Df} {L : Nat} {E : qe_E} (hd : qe_dok E.2.2.2 df) (b : Nat) : qx_sn (dp := dp) (qZ E L) 0 (qp_X9_init b) (qm_X9_init_ df L b).1 := by
  unfold qm_X9_init_
  exact sn_node (tqm_X9_init_l hd b) (tqm_X9_init_r hd b)
theorem tqm_X9_init {df : qe_Df} {L : Nat} {E : qe_E} (hd : qe_dok E.2.2.2 df) (b : Nat) : qx_sn (dp := dp) (qZ E L) 0 (qp_X9_init b) (qm_X9_init df L b).1 := by
  unfold qm_X9_init
  exact (tqm_X9_init_ hd b)
theorem tqm_X9_append_ll {df : qe_Df} {L : Nat} {E : qe_E} (hd : qe_dok E.2.2.2 df) (b : Nat) : qx_sn (dp := dp) (qZ E L) 1 (qp_X9_append b) (qm_X9_append_ll df L b).1 := by
  unfold qm_X9_append_ll
  exact sn_node (sn_leaf (j := 1) (b := b) (i := 0) (f := qp_X9_append) (qs_X9_append_0 hd)) (sn_leaf (j := 1) (b := b) (i := 1) (f := qp_X9_append) (qs_X9_append_1 hd))
theorem tqm_X9_append_lrr {df : qe_Df} {L : Nat} {E : qe_E} (hd : qe_dok E.2.2.2 df) (b : Nat) : qx_sn (dp := dp) (qZ E L) 1 (qp_X9_append b) (qm_X9_append_lrr df L b).1 := by
  unfold qm_X9_append_lrr
  exact sn_node (sn_leaf (j := 1) (b := b) (i := 4) (f := qp_X9_append) (qs_X9_append_4 hd)) (sn_leaf (j := 1) (b := b) (i := 5) (f := qp_X9_append) (qs_X9_append_5 hd))
theorem tqm_X9_append_lr {df : qe_Df} {L : Nat} {E : qe_E} (hd : qe_dok E.2.2.2 df) (b : Nat) : qx_sn (dp := dp) (qZ E L) 1 (qp_X9_append b) (qm_X9_append_lr df L b).1 := by
  unfold qm_X9_append_lr
  exact sn_node (sn_leaf (j := 1) (b := b) (i := 2) (f := qp_X9_append) (qs_X9_append_2 hd)) (tqm_X9_append_lrr hd b)
theorem tqm_X9_append_l {df : qe_Df} {L : Nat} {E : qe_E} (hd : qe_dok E.2.2.2 df) (b : Nat) : qx_sn (dp := dp) (qZ E L) 1 (qp_X9_append b) (qm_X9_append_l df L b).1 := by
  unfold qm_X9_append_l
  exact sn_node (tqm_X9_append_ll hd b) (tqm_X9_append_lr hd b)
theorem tqm_X9_append_rl {df : qe_Df} {L : Nat} {E : qe_E} (hd : qe_dok E.2.2.2 df) (b : Nat) : qx_sn (dp := dp) (qZ E L) 1 (qp_X9_append b) (qm_X9_append_rl df L b).1 := by
  unfold qm_X9_append_rl
  exact sn_node (sn_leaf (j := 1) (b := b) (i := 6) (f := qp_X9_append) (qs_X9_append_6 hd)) (sn_leaf (j := 1) (b := b) (i := 7) (f := qp_X9_append) (qs_X9_append_7 hd))
theorem tqm_X9_append_rrr {df : qe_Df} {L : Nat} {E : qe_E} (hd : qe_dok E.2.2.2 df) (b : Nat) : qx_sn (dp := dp) (qZ E L) 1 (qp_X9_append b) (qm_X9_append_rrr df L b).1 := by
  unfold qm_X9_append_rrr
  exact sn_node (sn_leaf (j := 1) (b := b) (i := 9) (f := qp_X9_append) (qs_X9_append_9 hd)) (sn_leaf (j := 1) (b := b) (i := 10) (f := qp_X9_append) (qs_X9_append_10 hd))
theorem tqm_X9_append_rr {df : qe_Df} {L : Nat} {E : qe_E} (hd : qe_dok E.2.2.2 df) (b : Nat) : qx_sn (dp := dp) (qZ E L) 1 (qp_X9_append b) (qm_X9_append_rr df L b).1 := by
  unfold qm_X9_append_rr
  exact sn_node (sn_leaf (j := 1) (b := b) (i := 8) (f := qp_X9_append) (qs_X9_append_8 hd)) (tqm_X9_append_rrr hd b)
theorem tqm_X9_append_r {df : qe_Df} {L : Nat} {E : qe_E} (hd : qe_dok E.2.2.2 df) (b : Nat) : qx_sn (dp := dp) (qZ E L) 1 (qp_X9_append b) (qm_X9_append_r df L b).1 := by
  unfold qm_X9_append_r
  exact sn_node (tqm_X9_append_rl hd b) (tqm_X9_append_rr hd b)
theorem tqm_X9_append_ {df : qe_Df} {L : Nat} {E : qe_E} (hd : qe_dok E.2.2.2 df) (b : Nat) : qx_sn (dp := dp) (qZ E L) 1 (qp_X9_append b) (qm_X9_append_ df L b).1 := by
  unfold qm_X9_append_
  exact sn_node (tqm_X9_append_l hd b) (tqm_X9_append_r hd b)
theorem tqm_X9_append {df : qe_Df} {L : Nat} {E : qe_E} (hd : qe_dok E.2.2.2 df) (b : Nat) : qx_sn (dp := dp) (qZ E L) 1 (qp_X9_append b) (qm_X9_append df L b).1 := by
  unfold qm_X9_append
  exact (tqm_X9_append_ hd b)
theorem tqm_X9_add_r {df : qe_Df} {L : Nat} {E : qe_E} (hd : qe_dok E.2.2.2 df) (b : Nat) : qx_sn (dp := dp) (qZ E L) 3 (qp_X9_add b) (qm_X9_add_r df L b).1 := by
  unfold qm_X9_add_r
  exact sn_node (sn_leaf (j := 3) (b := b) (i := 1) (f := qp_X9_add) (qs_X9_add_1 hd)) (sn_leaf (j := 3) (b := b) (i := 2) (f := qp_X9_add) (qs_X9_add_2 hd))
theorem tqm_X9_add_ {df : qe_Df} {L : Nat} {E : qe_E} (hd : qe_dok E.2.2.2 df) (b : Nat) : qx_sn (dp := dp) (qZ E L) 3 (qp_X9_add b) (qm_X9_add_ df L b).1 := by
  unfold qm_X9_add_
  exact sn_node (sn_leaf (j := 3) (b := b) (i := 0) (f := qp_X9_add) (qs_X9_add_0 hd)) (tqm_X9_add_r hd b)
theorem tqm_X9_add {df : qe_Df} {L : Nat} {E : qe_E} (hd : qe_dok E.2.2.2 df) (b : Nat) : qx_sn (dp := dp) (qZ E L) 3 (qp_X9_add b) (qm_X9_add df L b).1 := by
  unfold qm_X9_add
  exact (tqm_X9_add_ hd b)
theorem tqm_X9_trees_ {df : qe_Df} {L : Nat} {E : qe_E} (hd : qe_dok E.2.2.2 df) (b : Nat) : qx_sn (dp := dp) (qZ E L) 21 (qp_X9_trees b) (qm_X9_trees_ df L b).1 := by
  unfold qm_X9_trees_
  exact sn_node (sn_leaf (j := 21) (b := b) (i := 0) (f := qp_X9_trees) (qs_X9_trees_0 hd)) (sn_leaf (j := 21) (b := b) (i := 1) (f := qp_X9_trees) (qs_X9_trees_1 hd))
theorem tqm_X9_trees {df : qe_Df} {L : Nat} {E : qe_E} (hd : qe_dok E.2.2.2 df) (b : Nat) : qx_sn (dp := dp) (qZ E L) 21 (qp_X9_trees b) (qm_X9_trees df L b).1 := by
  unfold qm_X9_trees
  exact (tqm_X9_trees_ hd b)
theorem tqm_X9_requireBranch_ {df : qe_Df} {L : Nat} {E : qe_E} (hd : qe_dok E.2.2.2 df) (b : Nat) : qx_sn (dp := dp) (qZ E L) 32 (qp_X9_requireBranch b) (qm_X9_requireBranch_ df L b).1 := by
  unfold qm_X9_requireBranch_
  exact sn_node (sn_leaf (j := 32) (b := b) (i := 0) (f := qp_X9_requireBranch) (qs_X9_requireBranch_0 hd)) (sn_leaf (j := 32) (b := b) (i := 2) (f := qp_X9_requireBranch) (qs_X9_requireBranch_2 hd))
theorem tqm_X9_requireBranch {df : qe_Df} {L : Nat} {E : qe_E} (hd : qe_dok E.2.2.2 df) (b : Nat) : qx_sn (dp := dp) (qZ E L) 32 (qp_X9_requireBranch b) (qm_X9_requireBranch df L b).1 := by
  unfold qm_X9_requireBranch
  exact (tqm_X9_requireBranch_ hd b)
theorem tqm_X9_prepare_r {df : qe_Df} {L : Nat} {E : qe_E} (hd : qe_dok E.2.2.2 df) (b : Nat) : qx_sn (dp := dp) (qZ E L) 37 (qp_X9_prepare b) (qm_X9_prepare_r df L b).1 := by
  unfold qm_X9_prepare_r
  exact sn_node (sn_leaf (j := 37) (b := b) (i := 1) (f := qp_X9_prepare) (qs_X9_prepare_1 hd)) (sn_leaf (j := 37) (b := b) (i := 2) (f := qp_X9_prepare) (qs_X9_prepare_2 hd))
theorem tqm_X9_prepare_ {df : qe_Df} {L : Nat} {E : qe_E} (hd : qe_dok E.2.2.2 df) (b : Nat) : qx_sn (dp := dp) (qZ E L) 37 (qp_X9_prepare b) (qm_X9_prepare_ df L b).1 := by
  unfold qm_X9_prepare_
  exact sn_node (sn_leaf (j := 37) (b := b) (i := 0) (f := qp_X9_prepare) (qs_X9_prepare_0 hd)) (tqm_X9_prepare_r hd b)
theorem tqm_X9_prepare {df : qe_Df} {L : Nat} {E : qe_E} (hd : qe_dok E.2.2.2 df) (b : Nat) : qx_sn (dp := dp) (qZ E L) 37 (qp_X9_prepare b) (qm_X9_prepare df L b).1 := by
  unfold qm_X9_prepare
  exact (tqm_X9_prepare_ hd b)
theorem tqm_X9_at_ {df : qe_Df} {L : Nat} {E : qe_E} (hd : qe_dok E.2.2.2 df) (b : Nat) : qx_sn (dp := dp) (qZ E L) 38 (qp_X9_at b) (qm_X9_at_ df L b).1 := by
  unfold qm_X9_at_
  exact sn_node (sn_leaf (j := 38) (b := b) (i := 0) (f := qp_X9_at) (qs_X9_at_0 hd)) (sn_leaf (j := 38) (b := b) (i := 2) (f := qp_X9_at) (qs_X9_at_2 hd))
theorem tqm_X9_at {df : qe_Df} {L : Nat} {E : qe_E} (hd : qe_dok E.2.2.2 df) (b : Nat) : qx_sn (dp := dp) (qZ E L) 38 (qp_X9_at b) (qm_X9_at df L b).1 := by
  unfold qm_X9_at
  exact (tqm_X9_at_ hd b)
theorem tqm_X9_put_ {df : qe_Df} {L : Nat} {E : qe_E} (hd : qe_dok E.2.2.2 df) (b : Nat) : qx_sn (dp := dp) (qZ E L) 39 (qp_X9_put b) (qm_X9_put_ df L b).1 := by
  unfold qm_X9_put_
  exact sn_node (sn_leaf (j := 39) (b := b) (i := 0) (f := qp_X9_put) (qs_X9_put_0 hd)) (sn_leaf (j := 39) (b := b) (i := 1) (f := qp_X9_put) (qs_X9_put_1 hd))
theorem tqm_X9_put {df : qe_Df} {L : Nat} {E : qe_E} (hd : qe_dok E.2.2.2 df) (b : Nat) : qx_sn (dp := dp) (qZ E L) 39 (qp_X9_put b) (qm_X9_put df L b).1 := by
  unfold qm_X9_put
  exact (tqm_X9_put_ hd b)
theorem tqm_X9_contains_r {df : qe_Df} {L : Nat} {E : qe_E} (hd : qe_dok E.2.2.2 df) (b : Nat) : qx_sn (dp := dp) (qZ E L) 42 (qp_X9_contains b) (qm_X9_contains_r df L b).1 := by
  unfold qm_X9_contains_r
  exact sn_node (sn_leaf (j := 42) (b := b) (i := 1) (f := qp_X9_contains) (qs_X9_contains_1 hd)) (sn_leaf (j := 42) (b := b) (i := 2) (f := qp_X9_contains) (qs_X9_contains_2 hd))
theorem tqm_X9_contains_ {df : qe_Df} {L : Nat} {E : qe_E} (hd : qe_dok E.2.2.2 df) (b : Nat) : qx_sn (dp := dp) (qZ E L) 42 (qp_X9_contains b) (qm_X9_contains_ df L b).1 := by
  unfold qm_X9_contains_
  exact sn_node (sn_leaf (j := 42) (b := b) (i := 0) (f := qp_X9_contains) (qs_X9_contains_0 hd)) (tqm_X9_contains_r hd b)
theorem tqm_X9_contains {df : qe_Df} {L : Nat} {E : qe_E} (hd : qe_dok E.2.2.2 df) (b : Nat) : qx_sn (dp := dp) (qZ E L) 42 (qp_X9_contains b) (qm_X9_contains df L b).1 := by
  unfold qm_X9_contains
  exact (tqm_X9_contains_ hd b)
theorem tqm_X9_isLetter_ {df : qe_Df} {L : Nat} {E : qe_E} (hd : qe_dok E.2.2.2 df) (b : Nat) : qx_sn (dp := dp) (qZ E L) 43 (qp_X9_isLetter b) (qm_X9_isLetter_ df L b).1 := by
  unfold qm_X9_isLetter_
  exact sn_node (sn_leaf (j := 43) (b := b) (i := 0) (f := qp_X9_isLetter) (qs_X9_isLetter_0 hd)) (sn_leaf (j := 43) (b := b) (i := 2) (f := qp_X9_isLetter) (qs_X9_isLetter_2 hd))
theorem tqm_X9_isLetter {df : qe_Df} {L : Nat} {E : qe_E} (hd : qe_dok E.2.2.2 df) (b : Nat) : qx_sn (dp := dp) (qZ E L) 43 (qp_X9_isLetter b) (qm_X9_isLetter df L b).1 := by
  unfold qm_X9_isLetter
  exact (tqm_X9_isLetter_ hd b)
theorem tqm_X10_init_lr {df : qe_Df} {L : Nat} {E : qe_E} (hd : qe_dok E.2.2.2 df) (b : Nat) : qx_sn (dp := dp) (qZ E L) 47 (qp_X10_init b) (qm_X10_init_lr df L b).1 := by
  unfold qm_X10_init_lr
  exact sn_node (sn_leaf (j := 47) (b := b) (i := 1) (f := qp_X10_init) (qs_X10_init_1 hd)) (sn_leaf (j := 47) (b := b) (i := 2) (f := qp_X10_init) (qs_X10_init_2 hd))
theorem tqm_X10_init_l {df : qe_Df} {L : Nat} {E : qe_E} (hd : qe_dok E.2.2.2 df) (b : Nat) : qx_sn (dp := dp) (qZ E L) 47 (qp_X10_init b) (qm_X10_init_l df L b).1 := by
  unfold qm_X10_init_l
  exact sn_node (sn_leaf (j := 47) (b := b) (i := 0) (f := qp_X10_init) (qs_X10_init_0 hd)) (tqm_X10_init_lr hd b)
theorem tqm_X10_init_rr {df : qe_Df} {L : Nat} {E : qe_E} (hd : qe_dok E.2.2.2 df) (b : Nat) : qx_sn (dp := dp) (qZ E L) 47 (qp_X10_init b) (qm_X10_init_rr df L b).1 := by
  unfold qm_X10_init_rr
  exact sn_node (sn_leaf (j := 47) (b := b) (i := 4) (f := qp_X10_init) (qs_X10_init_4 hd)) (sn_leaf (j := 47) (b := b) (i := 5) (f := qp_X10_init) (qs_X10_init_5 hd))
theorem tqm_X10_init_r {df : qe_Df} {L : Nat} {E : qe_E} (hd : qe_dok E.2.2.2 df) (b : Nat) : qx_sn (dp := dp) (qZ E L) 47 (qp_X10_init b) (qm_X10_init_r df L b).1 := by
  unfold qm_X10_init_r
  exact sn_node (sn_leaf (j := 47) (b := b) (i := 3) (f := qp_X10_init) (qs_X10_init_3 hd)) (tqm_X10_init_rr hd b)
theorem tqm_X10_init_ {df : qe_Df} {L : Nat} {E : qe_E} (hd : qe_dok E.2.2.2 df) (b : Nat) : qx_sn (dp := dp) (qZ E L) 47 (qp_X10_init b) (qm_X10_init_ df L b).1 := by
  unfold qm_X10_init_
  exact sn_node (tqm_X10_init_l hd b) (tqm_X10_init_r hd b)
theorem tqm_X10_init {df : qe_Df} {L : Nat} {E : qe_E} (hd : qe_dok E.2.2.2 df) (b : Nat) : qx_sn (dp := dp) (qZ E L) 47 (qp_X10_init b) (qm_X10_init df L b).1 := by
  unfold qm_X10_init
  exact (tqm_X10_init_ hd b)
theorem tqm_X10_in_ {df : qe_Df} {L : Nat} {E : qe_E} (hd : qe_dok E.2.2.2 df) (b : Nat) : qx_sn (dp := dp) (qZ E L) 49 (qp_X10_in b) (qm_X10_in_ df L b).1 := by
  unfold qm_X10_in_
  exact sn_node (sn_leaf (j := 49) (b := b) (i := 0) (f := qp_X10_in) (qs_X10_in_0 hd)) (sn_leaf (j := 49) (b := b) (i := 2) (f := qp_X10_in) (qs_X10_in_2 hd))
theorem tqm_X10_in {df : qe_Df} {L : Nat} {E : qe_E} (hd : qe_dok E.2.2.2 df) (b : Nat) : qx_sn (dp := dp) (qZ E L) 49 (qp_X10_in b) (qm_X10_in df L b).1 := by
  unfold qm_X10_in
  exact (tqm_X10_in_ hd b)
theorem tqm_X10_isSign_r {df : qe_Df} {L : Nat} {E : qe_E} (hd : qe_dok E.2.2.2 df) (b : Nat) : qx_sn (dp := dp) (qZ E L) 51 (qp_X10_isSign b) (qm_X10_isSign_r df L b).1 := by
  unfold qm_X10_isSign_r
  exact sn_node (sn_leaf (j := 51) (b := b) (i := 1) (f := qp_X10_isSign) (qs_X10_isSign_1 hd)) (sn_leaf (j := 51) (b := b) (i := 2) (f := qp_X10_isSign) (qs_X10_isSign_2 hd))
theorem tqm_X10_isSign_ {df : qe_Df} {L : Nat} {E : qe_E} (hd : qe_dok E.2.2.2 df) (b : Nat) : qx_sn (dp := dp) (qZ E L) 51 (qp_X10_isSign b) (qm_X10_isSign_ df L b).1 := by
  unfold qm_X10_isSign_
  exact sn_node (sn_leaf (j := 51) (b := b) (i := 0) (f := qp_X10_isSign) (qs_X10_isSign_0 hd)) (tqm_X10_isSign_r hd b)
theorem tqm_X10_isSign {df : qe_Df} {L : Nat} {E : qe_E} (hd : qe_dok E.2.2.2 df) (b : Nat) : qx_sn (dp := dp) (qZ E L) 51 (qp_X10_isSign b) (qm_X10_isSign df L b).1 := by
  unfold qm_X10_isSign
  exact (tqm_X10_isSign_ hd b)
theorem tqm_X10_at {df : qe_Df} {L : Nat} {E : qe_E} (hd : qe_dok E.2.2.2 df) (b : Nat) : qx_sn (dp := dp) (qZ E L) 52 (qp_X10_at b) (qm_X10_at df L b).1 := by
  unfold qm_X10_at
  exact (sn_leaf (j := 52) (b := b) (i := 0) (f := qp_X10_at) (qs_X10_at_0 hd))
theorem tqm_X10_append_llr {df : qe_Df} {L : Nat} {E : qe_E} (hd : qe_dok E.2.2.2 df) (b : Nat) : qx_sn (dp := dp) (qZ E L) 53 (qp_X10_append b) (qm_X10_append_llr df L b).1 := by
  unfold qm_X10_append_llr
  exact sn_node (sn_leaf (j := 53) (b := b) (i := 1) (f := qp_X10_append) (qs_X10_append_1 hd)) (sn_leaf (j := 53) (b := b) (i := 2) (f := qp_X10_append) (qs_X10_append_2 hd))
theorem tqm_X10_append_ll {df : qe_Df} {L : Nat} {E : qe_E} (hd : qe_dok E.2.2.2 df) (b : Nat) : qx_sn (dp := dp) (qZ E L) 53 (qp_X10_append b) (qm_X10_append_ll df L b).1 := by
  unfold qm_X10_append_ll
  exact sn_node (sn_leaf (j := 53) (b := b) (i := 0) (f := qp_X10_append) (qs_X10_append_0 hd)) (tqm_X10_append_llr hd b)
theorem tqm_X10_append_lrl {df : qe_Df} {L : Nat} {E : qe_E} (hd : qe_dok E.2.2.2 df) (b : Nat) : qx_sn (dp := dp) (qZ E L) 53 (qp_X10_append b) (qm_X10_append_lrl df L b).1 := by
  unfold qm_X10_append_lrl
  exact sn_node (sn_leaf (j := 53) (b := b) (i := 3) (f := qp_X10_append) (qs_X10_append_3 hd)) (sn_leaf (j := 53) (b := b) (i := 5) (f := qp_X10_append) (qs_X10_append_5 hd))
theorem tqm_X10_append_lrr {df : qe_Df} {L : Nat} {E : qe_E} (hd : qe_dok E.2.2.2 df) (b : Nat) : qx_sn (dp := dp) (qZ E L) 53 (qp_X10_append b) (qm_X10_append_lrr df L b).1 := by
  unfold qm_X10_append_lrr
  exact sn_node (sn_leaf (j := 53) (b := b) (i := 6) (f := qp_X10_append) (qs_X10_append_6 hd)) (sn_leaf (j := 53) (b := b) (i := 7) (f := qp_X10_append) (qs_X10_append_7 hd))
theorem tqm_X10_append_lr {df : qe_Df} {L : Nat} {E : qe_E} (hd : qe_dok E.2.2.2 df) (b : Nat) : qx_sn (dp := dp) (qZ E L) 53 (qp_X10_append b) (qm_X10_append_lr df L b).1 := by
  unfold qm_X10_append_lr
  exact sn_node (tqm_X10_append_lrl hd b) (tqm_X10_append_lrr hd b)
theorem tqm_X10_append_l {df : qe_Df} {L : Nat} {E : qe_E} (hd : qe_dok E.2.2.2 df) (b : Nat) : qx_sn (dp := dp) (qZ E L) 53 (qp_X10_append b) (qm_X10_append_l df L b).1 := by
  unfold qm_X10_append_l
  exact sn_node (tqm_X10_append_ll hd b) (tqm_X10_append_lr hd b)
theorem tqm_X10_append_rll {df : qe_Df} {L : Nat} {E : qe_E} (hd : qe_dok E.2.2.2 df) (b : Nat) : qx_sn (dp := dp) (qZ E L) 53 (qp_X10_append b) (qm_X10_append_rll df L b).1 := by
  unfold qm_X10_append_rll
  exact sn_node (sn_leaf (j := 53) (b := b) (i := 8) (f := qp_X10_append) (qs_X10_append_8 hd)) (sn_leaf (j := 53) (b := b) (i := 9) (f := qp_X10_append) (qs_X10_append_9 hd))
theorem tqm_X10_append_rlr {df : qe_Df} {L : Nat} {E : qe_E} (hd : qe_dok E.2.2.2 df) (b : Nat) : qx_sn (dp := dp) (qZ E L) 53 (qp_X10_append b) (qm_X10_append_rlr df L b).1 := by
  unfold qm_X10_append_rlr
  exact sn_node (sn_leaf (j := 53) (b := b) (i := 10) (f := qp_X10_append) (qs_X10_append_10 hd)) (sn_leaf (j := 53) (b := b) (i := 11) (f := qp_X10_append) (qs_X10_append_11 hd))
theorem tqm_X10_append_rl {df : qe_Df} {L : Nat} {E : qe_E} (hd : qe_dok E.2.2.2 df) (b : Nat) : qx_sn (dp := dp) (qZ E L) 53 (qp_X10_append b) (qm_X10_append_rl df L b).1 := by
  unfold qm_X10_append_rl
  exact sn_node (tqm_X10_append_rll hd b) (tqm_X10_append_rlr hd b)
theorem tqm_X10_append_rrl {df : qe_Df} {L : Nat} {E : qe_E} (hd : qe_dok E.2.2.2 df) (b : Nat) : qx_sn (dp := dp) (qZ E L) 53 (qp_X10_append b) (qm_X10_append_rrl df L b).1 := by
  unfold qm_X10_append_rrl
  exact sn_node (sn_leaf (j := 53) (b := b) (i := 12) (f := qp_X10_append) (qs_X10_append_12 hd)) (sn_leaf (j := 53) (b := b) (i := 13) (f := qp_X10_append) (qs_X10_append_13 hd))
theorem tqm_X10_append_rrr {df : qe_Df} {L : Nat} {E : qe_E} (hd : qe_dok E.2.2.2 df) (b : Nat) : qx_sn (dp := dp) (qZ E L) 53 (qp_X10_append b) (qm_X10_append_rrr df L b).1 := by
  unfold qm_X10_append_rrr
  exact sn_node (sn_leaf (j := 53) (b := b) (i := 14) (f := qp_X10_append) (qs_X10_append_14 hd)) (sn_leaf (j := 53) (b := b) (i := 15) (f := qp_X10_append) (qs_X10_append_15 hd))
theorem tqm_X10_append_rr {df : qe_Df} {L : Nat} {E : qe_E} (hd : qe_dok E.2.2.2 df) (b : Nat) : qx_sn (dp := dp) (qZ E L) 53 (qp_X10_append b) (qm_X10_append_rr df L b).1 := by
  unfold qm_X10_append_rr
  exact sn_node (tqm_X10_append_rrl hd b) (tqm_X10_append_rrr hd b)
theorem tqm_X10_append_r {df : qe_Df} {L : Nat} {E : qe_E} (hd : qe_dok E.2.2.2 df) (b : Nat) : qx_sn (dp := dp) (qZ E L) 53 (qp_X10_append b) (qm_X10_append_r df L b).1 := by
  unfold qm_X10_append_r
  exact sn_node (tqm_X10_append_rl hd b) (tqm_X10_append_rr hd b)
theorem tqm_X10_append_ {df : qe_Df} {L : Nat} {E : qe_E} (hd : qe_dok E.2.2.2 df) (b : Nat) : qx_sn (dp := dp) (qZ E L) 53 (qp_X10_append b) (qm_X10_append_ df L b).1 := by
  unfold qm_X10_append_
  exact sn_node (tqm_X10_append_l hd b) (tqm_X10_append_r hd b)
theorem tqm_X10_append {df : qe_Df} {L : Nat} {E : qe_E} (hd : qe_dok E.2.2.2 df) (b : Nat) : qx_sn (dp := dp) (qZ E L) 53 (qp_X10_append b) (qm_X10_append df L b).1 := by
  unfold qm_X10_append
  exact (tqm_X10_append_ hd b)
theorem tqm_X10_keyAt_llr {df : qe_Df} {L : Nat} {E : qe_E} (hd : qe_dok E.2.2.2 df) (b : Nat) : qx_sn (dp := dp) (qZ E L) 55 (qp_X10_keyAt b) (qm_X10_keyAt_llr df L b).1 := by
  unfold qm_X10_keyAt_llr
  exact sn_node (sn_leaf (j := 55) (b := b) (i := 1) (f := qp_X10_keyAt) (qs_X10_keyAt_1 hd)) (sn_leaf (j := 55) (b := b) (i := 2) (f := qp_X10_keyAt) (qs_X10_keyAt_2 hd))
theorem tqm_X10_keyAt_ll {df : qe_Df} {L : Nat} {E : qe_E} (hd : qe_dok E.2.2.2 df) (b : Nat) : qx_sn (dp := dp) (qZ E L) 55 (qp_X10_keyAt b) (qm_X10_keyAt_ll df L b).1 := by
  unfold qm_X10_keyAt_ll
  exact sn_node (sn_leaf (j := 55) (b := b) (i := 0) (f := qp_X10_keyAt) (qs_X10_keyAt_0 hd)) (tqm_X10_keyAt_llr hd b)
theorem tqm_X10_keyAt_lrr {df : qe_Df} {L : Nat} {E : qe_E} (hd : qe_dok E.2.2.2 df) (b : Nat) : qx_sn (dp := dp) (qZ E L) 55 (qp_X10_keyAt b) (qm_X10_keyAt_lrr df L b).1 := by
  unfold qm_X10_keyAt_lrr
  exact sn_node (sn_leaf (j := 55) (b := b) (i := 4) (f := qp_X10_keyAt) (qs_X10_keyAt_4 hd)) (sn_leaf (j := 55) (b := b) (i := 5) (f := qp_X10_keyAt) (qs_X10_keyAt_5 hd))
theorem tqm_X10_keyAt_lr {df : qe_Df} {L : Nat} {E : qe_E} (hd : qe_dok E.2.2.2 df) (b : Nat) : qx_sn (dp := dp) (qZ E L) 55 (qp_X10_keyAt b) (qm_X10_keyAt_lr df L b).1 := by
  unfold qm_X10_keyAt_lr
  exact sn_node (sn_leaf (j := 55) (b := b) (i := 3) (f := qp_X10_keyAt) (qs_X10_keyAt_3 hd)) (tqm_X10_keyAt_lrr hd b)
theorem tqm_X10_keyAt_l {df : qe_Df} {L : Nat} {E : qe_E} (hd : qe_dok E.2.2.2 df) (b : Nat) : qx_sn (dp := dp) (qZ E L) 55 (qp_X10_keyAt b) (qm_X10_keyAt_l df L b).1 := by
  unfold qm_X10_keyAt_l
  exact sn_node (tqm_X10_keyAt_ll hd b) (tqm_X10_keyAt_lr hd b)
theorem tqm_X10_keyAt_rlr {df : qe_Df} {L : Nat} {E : qe_E} (hd : qe_dok E.2.2.2 df) (b : Nat) : qx_sn (dp := dp) (qZ E L) 55 (qp_X10_keyAt b) (qm_X10_keyAt_rlr df L b).1 := by
  unfold qm_X10_keyAt_rlr
  exact sn_node (sn_leaf (j := 55) (b := b) (i := 7) (f := qp_X10_keyAt) (qs_X10_keyAt_7 hd)) (sn_leaf (j := 55) (b := b) (i := 8) (f := qp_X10_keyAt) (qs_X10_keyAt_8 hd))
theorem tqm_X10_keyAt_rl {df : qe_Df} {L : Nat} {E : qe_E} (hd : qe_dok E.2.2.2 df) (b : Nat) : qx_sn (dp := dp) (qZ E L) 55 (qp_X10_keyAt b) (qm_X10_keyAt_rl df L b).1 := by
  unfold qm_X10_keyAt_rl
  exact sn_node (sn_leaf (j := 55) (b := b) (i := 6) (f := qp_X10_keyAt) (qs_X10_keyAt_6 hd)) (tqm_X10_keyAt_rlr hd b)
theorem tqm_X10_keyAt_rrr {df : qe_Df} {L : Nat} {E : qe_E} (hd : qe_dok E.2.2.2 df) (b : Nat) : qx_sn (dp := dp) (qZ E L) 55 (qp_X10_keyAt b) (qm_X10_keyAt_rrr df L b).1 := by
  unfold qm_X10_keyAt_rrr
  exact sn_node (sn_leaf (j := 55) (b := b) (i := 10) (f := qp_X10_keyAt) (qs_X10_keyAt_10 hd)) (sn_leaf (j := 55) (b := b) (i := 11) (f := qp_X10_keyAt) (qs_X10_keyAt_11 hd))
theorem tqm_X10_keyAt_rr {df : qe_Df} {L : Nat} {E : qe_E} (hd : qe_dok E.2.2.2 df) (b : Nat) : qx_sn (dp := dp) (qZ E L) 55 (qp_X10_keyAt b) (qm_X10_keyAt_rr df L b).1 := by
  unfold qm_X10_keyAt_rr
  exact sn_node (sn_leaf (j := 55) (b := b) (i := 9) (f := qp_X10_keyAt) (qs_X10_keyAt_9 hd)) (tqm_X10_keyAt_rrr hd b)
theorem tqm_X10_keyAt_r {df : qe_Df} {L : Nat} {E : qe_E} (hd : qe_dok E.2.2.2 df) (b : Nat) : qx_sn (dp := dp) (qZ E L) 55 (qp_X10_keyAt b) (qm_X10_keyAt_r df L b).1 := by
  unfold qm_X10_keyAt_r
  exact sn_node (tqm_X10_keyAt_rl hd b) (tqm_X10_keyAt_rr hd b)
theorem tqm_X10_keyAt_ {df : qe_Df} {L : Nat} {E : qe_E} (hd : qe_dok E.2.2.2 df) (b : Nat) : qx_sn (dp := dp) (qZ E L) 55 (qp_X10_keyAt b) (qm_X10_keyAt_ df L b).1 := by
  unfold qm_X10_keyAt_
  exact sn_node (tqm_X10_keyAt_l hd b) (tqm_X10_keyAt_r hd b)
theorem tqm_X10_keyAt {df : qe_Df} {L : Nat} {E : qe_E} (hd : qe_dok E.2.2.2 df) (b : Nat) : qx_sn (dp := dp) (qZ E L) 55 (qp_X10_keyAt b) (qm_X10_keyAt df L b).1 := by
  unfold qm_X10_keyAt
  exact (tqm_X10_keyAt_ hd b)
theorem tqm_X10_addKey_l {df : qe_Df} {L : Nat} {E : qe_E} (hd : qe_dok E.2.2.2 df) (b : Nat) : qx_sn (dp := dp) (qZ E L) 56 (qp_X10_addKey b) (qm_X10_addKey_l df L b).1 := by
  unfold qm_X10_addKey_l
  exact sn_node (sn_leaf (j := 56) (b := b) (i := 0) (f := qp_X10_addKey) (qs_X10_addKey_0 hd)) (sn_leaf (j := 56) (b := b) (i := 1) (f := qp_X10_addKey) (qs_X10_addKey_1 hd))
theorem tqm_X10_addKey_rr {df : qe_Df} {L : Nat} {E : qe_E} (hd : qe_dok E.2.2.2 df) (b : Nat) : qx_sn (dp := dp) (qZ E L) 56 (qp_X10_addKey b) (qm_X10_addKey_rr df L b).1 := by
  unfold qm_X10_addKey_rr
  exact sn_node (sn_leaf (j := 56) (b := b) (i := 3) (f := qp_X10_addKey) (qs_X10_addKey_3 hd)) (sn_leaf (j := 56) (b := b) (i := 4) (f := qp_X10_addKey) (qs_X10_addKey_4 hd))
theorem tqm_X10_addKey_r {df : qe_Df} {L : Nat} {E : qe_E} (hd : qe_dok E.2.2.2 df) (b : Nat) : qx_sn (dp := dp) (qZ E L) 56 (qp_X10_addKey b) (qm_X10_addKey_r df L b).1 := by
  unfold qm_X10_addKey_r
  exact sn_node (sn_leaf (j := 56) (b := b) (i := 2) (f := qp_X10_addKey) (qs_X10_addKey_2 hd)) (tqm_X10_addKey_rr hd b)
theorem tqm_X10_addKey_ {df : qe_Df} {L : Nat} {E : qe_E} (hd : qe_dok E.2.2.2 df) (b : Nat) : qx_sn (dp := dp) (qZ E L) 56 (qp_X10_addKey b) (qm_X10_addKey_ df L b).1 := by
  unfold qm_X10_addKey_
  exact sn_node (tqm_X10_addKey_l hd b) (tqm_X10_addKey_r hd b)
theorem tqm_X10_addKey {df : qe_Df} {L : Nat} {E : qe_E} (hd : qe_dok E.2.2.2 df) (b : Nat) : qx_sn (dp := dp) (qZ E L) 56 (qp_X10_addKey b) (qm_X10_addKey df L b).1 := by
  unfold qm_X10_addKey
  exact (tqm_X10_addKey_ hd b)
theorem tqm_X10_add_ll {df : qe_Df} {L : Nat} {E : qe_E} (hd : qe_dok E.2.2.2 df) (b : Nat) : qx_sn (dp := dp) (qZ E L) 58 (qp_X10_add b) (qm_X10_add_ll df L b).1 := by
  unfold qm_X10_add_ll
  exact sn_node (sn_leaf (j := 58) (b := b) (i := 0) (f := qp_X10_add) (qs_X10_add_0 hd)) (sn_leaf (j := 58) (b := b) (i := 1) (f := qp_X10_add) (qs_X10_add_1 hd))
theorem tqm_X10_add_lrr {df : qe_Df} {L : Nat} {E : qe_E} (hd : qe_dok E.2.2.2 df) (b : Nat) : qx_sn (dp := dp) (qZ E L) 58 (qp_X10_add b) (qm_X10_add_lrr df L b).1 := by
  unfold qm_X10_add_lrr
  exact sn_node (sn_leaf (j := 58) (b := b) (i := 4) (f := qp_X10_add) (qs_X10_add_4 hd)) (sn_leaf (j := 58) (b := b) (i := 6) (f := qp_X10_add) (qs_X10_add_6 hd))
theorem tqm_X10_add_lr {df : qe_Df} {L : Nat} {E : qe_E} (hd : qe_dok E.2.2.2 df) (b : Nat) : qx_sn (dp := dp) (qZ E L) 58 (qp_X10_add b) (qm_X10_add_lr df L b).1 := by
  unfold qm_X10_add_lr
  exact sn_node (sn_leaf (j := 58) (b := b) (i := 3) (f := qp_X10_add) (qs_X10_add_3 hd)) (tqm_X10_add_lrr hd b)
theorem tqm_X10_add_l {df : qe_Df} {L : Nat} {E : qe_E} (hd : qe_dok E.2.2.2 df) (b : Nat) : qx_sn (dp := dp) (qZ E L) 58 (qp_X10_add b) (qm_X10_add_l df L b).1 := by
  unfold qm_X10_add_l
  exact sn_node (tqm_X10_add_ll hd b) (tqm_X10_add_lr hd b)
theorem tqm_X10_add_rl {df : qe_Df} {L : Nat} {E : qe_E} (hd : qe_dok E.2.2.2 df) (b : Nat) : qx_sn (dp := dp) (qZ E L) 58 (qp_X10_add b) (qm_X10_add_rl df L b).1 := by
  unfold qm_X10_add_rl
  exact sn_node (sn_leaf (j := 58) (b := b) (i := 7) (f := qp_X10_add) (qs_X10_add_7 hd)) (sn_leaf (j := 58) (b := b) (i := 8) (f := qp_X10_add) (qs_X10_add_8 hd))
theorem tqm_X10_add_rrr {df : qe_Df} {L : Nat} {E : qe_E} (hd : qe_dok E.2.2.2 df) (b : Nat) : qx_sn (dp := dp) (qZ E L) 58 (qp_X10_add b) (qm_X10_add_rrr df L b).1 := by
  unfold qm_X10_add_rrr
  exact sn_node (sn_leaf (j := 58) (b := b) (i := 11) (f := qp_X10_add) (qs_X10_add_11 hd)) (sn_leaf (j := 58) (b := b) (i := 12) (f := qp_X10_add) (qs_X10_add_12 hd))
theorem tqm_X10_add_rr {df : qe_Df} {L : Nat} {E : qe_E} (hd : qe_dok E.2.2.2 df) (b : Nat) : qx_sn (dp := dp) (qZ E L) 58 (qp_X10_add b) (qm_X10_add_rr df L b).1 := by
  unfold qm_X10_add_rr
  exact sn_node (sn_leaf (j := 58) (b := b) (i := 10) (f := qp_X10_add) (qs_X10_add_10 hd)) (tqm_X10_add_rrr hd b)
theorem tqm_X10_add_r {df : qe_Df} {L : Nat} {E : qe_E} (hd : qe_dok E.2.2.2 df) (b : Nat) : qx_sn (dp := dp) (qZ E L) 58 (qp_X10_add b) (qm_X10_add_r df L b).1 := by
  unfold qm_X10_add_r
  exact sn_node (tqm_X10_add_rl hd b) (tqm_X10_add_rr hd b)
theorem tqm_X10_add_ {df : qe_Df} {L : Nat} {E : qe_E} (hd : qe_dok E.2.2.2 df) (b : Nat) : qx_sn (dp := dp) (qZ E L) 58 (qp_X10_add b) (qm_X10_add_ df L b).1 := by
  unfold qm_X10_add_
  exact sn_node (tqm_X10_add_l hd b) (tqm_X10_add_r hd b)
theorem tqm_X10_add {df : qe_Df} {L : Nat} {E : qe_E} (hd : qe_dok E.2.2.2 df) (b : Nat) : qx_sn (dp := dp) (qZ E L) 58 (qp_X10_add b) (qm_X10_add df L b).1 := by
  unfold qm_X10_add
  exact (tqm_X10_add_ hd b)
theorem tqm_X10_marked_l {df : qe_Df} {L : Nat} {E : qe_E} (hd : qe_dok E.2.2.2 df) (b : Nat) : qx_sn (dp := dp) (qZ E L) 89 (qp_X10_marked b) (qm_X10_marked_l df L b).1 := by
  unfold qm_X10_marked_l
  exact sn_node (sn_leaf (j := 89) (b := b) (i := 0) (f := qp_X10_marked) (qs_X10_marked_0 hd)) (sn_leaf (j := 89) (b := b) (i := 1) (f := qp_X10_marked) (qs_X10_marked_1 hd))
theorem tqm_X10_marked_rr {df : qe_Df} {L : Nat} {E : qe_E} (hd : qe_dok E.2.2.2 df) (b : Nat) : qx_sn (dp := dp) (qZ E L) 89 (qp_X10_marked b) (qm_X10_marked_rr df L b).1 := by
  unfold qm_X10_marked_rr
  exact sn_node (sn_leaf (j := 89) (b := b) (i := 3) (f := qp_X10_marked) (qs_X10_marked_3 hd)) (sn_leaf (j := 89) (b := b) (i := 4) (f := qp_X10_marked) (qs_X10_marked_4 hd))
theorem tqm_X10_marked_r {df : qe_Df} {L : Nat} {E : qe_E} (hd : qe_dok E.2.2.2 df) (b : Nat) : qx_sn (dp := dp) (qZ E L) 89 (qp_X10_marked b) (qm_X10_marked_r df L b).1 := by
  unfold qm_X10_marked_r
  exact sn_node (sn_leaf (j := 89) (b := b) (i := 2) (f := qp_X10_marked) (qs_X10_marked_2 hd)) (tqm_X10_marked_rr hd b)
theorem tqm_X10_marked_ {df : qe_Df} {L : Nat} {E : qe_E} (hd : qe_dok E.2.2.2 df) (b : Nat) : qx_sn (dp := dp) (qZ E L) 89 (qp_X10_marked b) (qm_X10_marked_ df L b).1 := by
  unfold qm_X10_marked_
  exact sn_node (tqm_X10_marked_l hd b) (tqm_X10_marked_r hd b)
theorem tqm_X10_marked {df : qe_Df} {L : Nat} {E : qe_E} (hd : qe_dok E.2.2.2 df) (b : Nat) : qx_sn (dp := dp) (qZ E L) 89 (qp_X10_marked b) (qm_X10_marked df L b).1 := by
  unfold qm_X10_marked
  exact (tqm_X10_marked_ hd b)
theorem tqm_X10_positionOf_llr {df : qe_Df} {L : Nat} {E : qe_E} (hd : qe_dok E.2.2.2 df) (b : Nat) : qx_sn (dp := dp) (qZ E L) 91 (qp_X10_positionOf b) (qm_X10_positionOf_llr df L b).1 := by
  unfold qm_X10_positionOf_llr
  exact sn_node (sn_leaf (j := 91) (b := b) (i := 1) (f := qp_X10_positionOf) (qs_X10_positionOf_1 hd)) (sn_leaf (j := 91) (b := b) (i := 2) (f := qp_X10_positionOf) (qs_X10_positionOf_2 hd))
theorem tqm_X10_positionOf_ll {df : qe_Df} {L : Nat} {E : qe_E} (hd : qe_dok E.2.2.2 df) (b : Nat) : qx_sn (dp := dp) (qZ E L) 91 (qp_X10_positionOf b) (qm_X10_positionOf_ll df L b).1 := by
  unfold qm_X10_positionOf_ll
  exact sn_node (sn_leaf (j := 91) (b := b) (i := 0) (f := qp_X10_positionOf) (qs_X10_positionOf_0 hd)) (tqm_X10_positionOf_llr hd b)
theorem tqm_X10_positionOf_lrl {df : qe_Df} {L : Nat} {E : qe_E} (hd : qe_dok E.2.2.2 df) (b : Nat) : qx_sn (dp := dp) (qZ E L) 91 (qp_X10_positionOf b) (qm_X10_positionOf_lrl df L b).1 := by
  unfold qm_X10_positionOf_lrl
  exact sn_node (sn_leaf (j := 91) (b := b) (i := 3) (f := qp_X10_positionOf) (qs_X10_positionOf_3 hd)) (sn_leaf (j := 91) (b := b) (i := 4) (f := qp_X10_positionOf) (qs_X10_positionOf_4 hd))
theorem tqm_X10_positionOf_lrr {df : qe_Df} {L : Nat} {E : qe_E} (hd : qe_dok E.2.2.2 df) (b : Nat) : qx_sn (dp := dp) (qZ E L) 91 (qp_X10_positionOf b) (qm_X10_positionOf_lrr df L b).1 := by
  unfold qm_X10_positionOf_lrr
  exact sn_node (sn_leaf (j := 91) (b := b) (i := 5) (f := qp_X10_positionOf) (qs_X10_positionOf_5 hd)) (sn_leaf (j := 91) (b := b) (i := 6) (f := qp_X10_positionOf) (qs_X10_positionOf_6 hd))
theorem tqm_X10_positionOf_lr {df : qe_Df} {L : Nat} {E : qe_E} (hd : qe_dok E.2.2.2 df) (b : Nat) : qx_sn (dp := dp) (qZ E L) 91 (qp_X10_positionOf b) (qm_X10_positionOf_lr df L b).1 := by
  unfold qm_X10_positionOf_lr
  exact sn_node (tqm_X10_positionOf_lrl hd b) (tqm_X10_positionOf_lrr hd b)
theorem tqm_X10_positionOf_l {df : qe_Df} {L : Nat} {E : qe_E} (hd : qe_dok E.2.2.2 df) (b : Nat) : qx_sn (dp := dp) (qZ E L) 91 (qp_X10_positionOf b) (qm_X10_positionOf_l df L b).1 := by
  unfold qm_X10_positionOf_l
  exact sn_node (tqm_X10_positionOf_ll hd b) (tqm_X10_positionOf_lr hd b)
theorem tqm_X10_positionOf_rlr {df : qe_Df} {L : Nat} {E : qe_E} (hd : qe_dok E.2.2.2 df) (b : Nat) : qx_sn (dp := dp) (qZ E L) 91 (qp_X10_positionOf b) (qm_X10_positionOf_rlr df L b).1 := by
  unfold qm_X10_positionOf_rlr
  exact sn_node (sn_leaf (j := 91) (b := b) (i := 8) (f := qp_X10_positionOf) (qs_X10_positionOf_8 hd)) (sn_leaf (j := 91) (b := b) (i := 9) (f := qp_X10_positionOf) (qs_X10_positionOf_9 hd))
theorem tqm_X10_positionOf_rl {df : qe_Df} {L : Nat} {E : qe_E} (hd : qe_dok E.2.2.2 df) (b : Nat) : qx_sn (dp := dp) (qZ E L) 91 (qp_X10_positionOf b) (qm_X10_positionOf_rl df L b).1 := by
  unfold qm_X10_positionOf_rl
  exact sn_node (sn_leaf (j := 91) (b := b) (i := 7) (f := qp_X10_positionOf) (qs_X10_positionOf_7 hd)) (tqm_X10_positionOf_rlr hd b)
theorem tqm_X10_positionOf_rrl {df : qe_Df} {L : Nat} {E : qe_E} (hd : qe_dok E.2.2.2 df) (b : Nat) : qx_sn (dp := dp) (qZ E L) 91 (qp_X10_positionOf b) (qm_X10_positionOf_rrl df L b).1 := by
  unfold qm_X10_positionOf_rrl
  exact sn_node (sn_leaf (j := 91) (b := b) (i := 10) (f := qp_X10_positionOf) (qs_X10_positionOf_10 hd)) (sn_leaf (j := 91) (b := b) (i := 11) (f := qp_X10_positionOf) (qs_X10_positionOf_11 hd))
theorem tqm_X10_positionOf_rrr {df : qe_Df} {L : Nat} {E : qe_E} (hd : qe_dok E.2.2.2 df) (b : Nat) : qx_sn (dp := dp) (qZ E L) 91 (qp_X10_positionOf b) (qm_X10_positionOf_rrr df L b).1 := by
  unfold qm_X10_positionOf_rrr
  exact sn_node (sn_leaf (j := 91) (b := b) (i := 12) (f := qp_X10_positionOf) (qs_X10_positionOf_12 hd)) (sn_leaf (j := 91) (b := b) (i := 13) (f := qp_X10_positionOf) (qs_X10_positionOf_13 hd))
theorem tqm_X10_positionOf_rr {df : qe_Df} {L : Nat} {E : qe_E} (hd : qe_dok E.2.2.2 df) (b : Nat) : qx_sn (dp := dp) (qZ E L) 91 (qp_X10_positionOf b) (qm_X10_positionOf_rr df L b).1 := by
  unfold qm_X10_positionOf_rr
  exact sn_node (tqm_X10_positionOf_rrl hd b) (tqm_X10_positionOf_rrr hd b)
theorem tqm_X10_positionOf_r {df : qe_Df} {L : Nat} {E : qe_E} (hd : qe_dok E.2.2.2 df) (b : Nat) : qx_sn (dp := dp) (qZ E L) 91 (qp_X10_positionOf b) (qm_X10_positionOf_r df L b).1 := by
  unfold qm_X10_positionOf_r
  exact sn_node (tqm_X10_positionOf_rl hd b) (tqm_X10_positionOf_rr hd b)
theorem tqm_X10_positionOf_ {df : qe_Df} {L : Nat} {E : qe_E} (hd : qe_dok E.2.2.2 df) (b : Nat) : qx_sn (dp := dp) (qZ E L) 91 (qp_X10_positionOf b) (qm_X10_positionOf_ df L b).1 := by
  unfold qm_X10_positionOf_
  exact sn_node (tqm_X10_positionOf_l hd b) (tqm_X10_positionOf_r hd b)
theorem tqm_X10_positionOf {df : qe_Df} {L : Nat} {E : qe_E} (hd : qe_dok E.2.2.2 df) (b : Nat) : qx_sn (dp := dp) (qZ E L) 91 (qp_X10_positionOf b) (qm_X10_positionOf df L b).1 := by
  unfold qm_X10_positionOf
  exact (tqm_X10_positionOf_ hd b)
theorem tqm_X10_ofLength_lr {df : qe_Df} {L : Nat} {E : qe_E} (hd : qe_dok E.2.2.2 df) (b : Nat) : qx_sn (dp := dp) (qZ E L) 92 (qp_X10_ofLength b) (qm_X10_ofLength_lr df L b).1 := by
  unfold qm_X10_ofLength_lr
  exact sn_node (sn_leaf (j := 92) (b := b) (i := 1) (f := qp_X10_ofLength) (qs_X10_ofLength_1 hd)) (sn_leaf (j := 92) (b := b) (i := 2) (f := qp_X10_ofLength) (qs_X10_ofLength_2 hd))
theorem tqm_X10_ofLength_l {df : qe_Df} {L : Nat} {E : qe_E} (hd : qe_dok E.2.2.2 df) (b : Nat) : qx_sn (dp := dp) (qZ E L) 92 (qp_X10_ofLength b) (qm_X10_ofLength_l df L b).1 := by
  unfold qm_X10_ofLength_l
  exact sn_node (sn_leaf (j := 92) (b := b) (i := 0) (f := qp_X10_ofLength) (qs_X10_ofLength_0 hd)) (tqm_X10_ofLength_lr hd b)
theorem tqm_X10_ofLength_rr {df : qe_Df} {L : Nat} {E : qe_E} (hd : qe_dok E.2.2.2 df) (b : Nat) : qx_sn (dp := dp) (qZ E L) 92 (qp_X10_ofLength b) (qm_X10_ofLength_rr df L b).1 := by
  unfold qm_X10_ofLength_rr
  exact sn_node (sn_leaf (j := 92) (b := b) (i := 4) (f := qp_X10_ofLength) (qs_X10_ofLength_4 hd)) (sn_leaf (j := 92) (b := b) (i := 5) (f := qp_X10_ofLength) (qs_X10_ofLength_5 hd))
theorem tqm_X10_ofLength_r {df : qe_Df} {L : Nat} {E : qe_E} (hd : qe_dok E.2.2.2 df) (b : Nat) : qx_sn (dp := dp) (qZ E L) 92 (qp_X10_ofLength b) (qm_X10_ofLength_r df L b).1 := by
  unfold qm_X10_ofLength_r
  exact sn_node (sn_leaf (j := 92) (b := b) (i := 3) (f := qp_X10_ofLength) (qs_X10_ofLength_3 hd)) (tqm_X10_ofLength_rr hd b)
theorem tqm_X10_ofLength_ {df : qe_Df} {L : Nat} {E : qe_E} (hd : qe_dok E.2.2.2 df) (b : Nat) : qx_sn (dp := dp) (qZ E L) 92 (qp_X10_ofLength b) (qm_X10_ofLength_ df L b).1 := by
  unfold qm_X10_ofLength_
  exact sn_node (tqm_X10_ofLength_l hd b) (tqm_X10_ofLength_r hd b)
theorem tqm_X10_ofLength {df : qe_Df} {L : Nat} {E : qe_E} (hd : qe_dok E.2.2.2 df) (b : Nat) : qx_sn (dp := dp) (qZ E L) 92 (qp_X10_ofLength b) (qm_X10_ofLength df L b).1 := by
  unfold qm_X10_ofLength
  exact (tqm_X10_ofLength_ hd b)
theorem tqm_X10_child_lr {df : qe_Df} {L : Nat} {E : qe_E} (hd : qe_dok E.2.2.2 df) (b : Nat) : qx_sn (dp := dp) (qZ E L) 93 (qp_X10_child b) (qm_X10_child_lr df L b).1 := by
  unfold qm_X10_child_lr
  exact sn_node (sn_leaf (j := 93) (b := b) (i := 1) (f := qp_X10_child) (qs_X10_child_1 hd)) (sn_leaf (j := 93) (b := b) (i := 2) (f := qp_X10_child) (qs_X10_child_2 hd))
theorem tqm_X10_child_l {df : qe_Df} {L : Nat} {E : qe_E} (hd : qe_dok E.2.2.2 df) (b : Nat) : qx_sn (dp := dp) (qZ E L) 93 (qp_X10_child b) (qm_X10_child_l df L b).1 := by
  unfold qm_X10_child_l
  exact sn_node (sn_leaf (j := 93) (b := b) (i := 0) (f := qp_X10_child) (qs_X10_child_0 hd)) (tqm_X10_child_lr hd b)
theorem tqm_X10_child_rr {df : qe_Df} {L : Nat} {E : qe_E} (hd : qe_dok E.2.2.2 df) (b : Nat) : qx_sn (dp := dp) (qZ E L) 93 (qp_X10_child b) (qm_X10_child_rr df L b).1 := by
  unfold qm_X10_child_rr
  exact sn_node (sn_leaf (j := 93) (b := b) (i := 4) (f := qp_X10_child) (qs_X10_child_4 hd)) (sn_leaf (j := 93) (b := b) (i := 5) (f := qp_X10_child) (qs_X10_child_5 hd))
theorem tqm_X10_child_r {df : qe_Df} {L : Nat} {E : qe_E} (hd : qe_dok E.2.2.2 df) (b : Nat) : qx_sn (dp := dp) (qZ E L) 93 (qp_X10_child b) (qm_X10_child_r df L b).1 := by
  unfold qm_X10_child_r
  exact sn_node (sn_leaf (j := 93) (b := b) (i := 3) (f := qp_X10_child) (qs_X10_child_3 hd)) (tqm_X10_child_rr hd b)
theorem tqm_X10_child_ {df : qe_Df} {L : Nat} {E : qe_E} (hd : qe_dok E.2.2.2 df) (b : Nat) : qx_sn (dp := dp) (qZ E L) 93 (qp_X10_child b) (qm_X10_child_ df L b).1 := by
  unfold qm_X10_child_
  exact sn_node (tqm_X10_child_l hd b) (tqm_X10_child_r hd b)
theorem tqm_X10_child {df : qe_Df} {L : Nat} {E : qe_E} (hd : qe_dok E.2.2.2 df) (b : Nat) : qx_sn (dp := dp) (qZ E L) 93 (qp_X10_child b) (qm_X10_child df L b).1 := by
  unfold qm_X10_child
  exact (tqm_X10_child_ hd b)
theorem tqm_X10_measure_lr {df : qe_Df} {L : Nat} {E : qe_E} (hd : qe_dok E.2.2.2 df) (b : Nat) : qx_sn (dp := dp) (qZ E L) 95 (qp_X10_measure b) (qm_X10_measure_lr df L b).1 := by
  unfold qm_X10_measure_lr
  exact sn_node (sn_leaf (j := 95) (b := b) (i := 1) (f := qp_X10_measure) (qs_X10_measure_1 hd)) (sn_leaf (j := 95) (b := b) (i := 2) (f := qp_X10_measure) (qs_X10_measure_2 hd))
theorem tqm_X10_measure_l {df : qe_Df} {L : Nat} {E : qe_E} (hd : qe_dok E.2.2.2 df) (b : Nat) : qx_sn (dp := dp) (qZ E L) 95 (qp_X10_measure b) (qm_X10_measure_l df L b).1 := by
  unfold qm_X10_measure_l
  exact sn_node (sn_leaf (j := 95) (b := b) (i := 0) (f := qp_X10_measure) (qs_X10_measure_0 hd)) (tqm_X10_measure_lr hd b)
theorem tqm_X10_measure_rl {df : qe_Df} {L : Nat} {E : qe_E} (hd : qe_dok E.2.2.2 df) (b : Nat) : qx_sn (dp := dp) (qZ E L) 95 (qp_X10_measure b) (qm_X10_measure_rl df L b).1 := by
  unfold qm_X10_measure_rl
  exact sn_node (sn_leaf (j := 95) (b := b) (i := 3) (f := qp_X10_measure) (qs_X10_measure_3 hd)) (sn_leaf (j := 95) (b := b) (i := 4) (f := qp_X10_measure) (qs_X10_measure_4 hd))
theorem tqm_X10_measure_rr {df : qe_Df} {L : Nat} {E : qe_E} (hd : qe_dok E.2.2.2 df) (b : Nat) : qx_sn (dp := dp) (qZ E L) 95 (qp_X10_measure b) (qm_X10_measure_rr df L b).1 := by
  unfold qm_X10_measure_rr
  exact sn_node (sn_leaf (j := 95) (b := b) (i := 5) (f := qp_X10_measure) (qs_X10_measure_5 hd)) (sn_leaf (j := 95) (b := b) (i := 6) (f := qp_X10_measure) (qs_X10_measure_6 hd))
theorem tqm_X10_measure_r {df : qe_Df} {L : Nat} {E : qe_E} (hd : qe_dok E.2.2.2 df) (b : Nat) : qx_sn (dp := dp) (qZ E L) 95 (qp_X10_measure b) (qm_X10_measure_r df L b).1 := by
  unfold qm_X10_measure_r
  exact sn_node (tqm_X10_measure_rl hd b) (tqm_X10_measure_rr hd b)
theorem tqm_X10_measure_ {df : qe_Df} {L : Nat} {E : qe_E} (hd : qe_dok E.2.2.2 df) (b : Nat) : qx_sn (dp := dp) (qZ E L) 95 (qp_X10_measure b) (qm_X10_measure_ df L b).1 := by
  unfold qm_X10_measure_
  exact sn_node (tqm_X10_measure_l hd b) (tqm_X10_measure_r hd b)
theorem tqm_X10_measure {df : qe_Df} {L : Nat} {E : qe_E} (hd : qe_dok E.2.2.2 df) (b : Nat) : qx_sn (dp := dp) (qZ E L) 95 (qp_X10_measure b) (qm_X10_measure df L b).1 := by
  unfold qm_X10_measure
  exact (tqm_X10_measure_ hd b)
theorem tqm_X10_trees_ll {df : qe_Df} {L : Nat} {E : qe_E} (hd : qe_dok E.2.2.2 df) (b : Nat) : qx_sn (dp := dp) (qZ E L) 96 (qp_X10_trees b) (qm_X10_trees_ll df L b).1 := by
  unfold qm_X10_trees_ll
  exact sn_node (sn_leaf (j := 96) (b := b) (i := 0) (f := qp_X10_trees) (qs_X10_trees_0 hd)) (sn_leaf (j := 96) (b := b) (i := 2) (f := qp_X10_trees) (qs_X10_trees_2 hd))
theorem tqm_X10_trees_lr {df : qe_Df} {L : Nat} {E : qe_E} (hd : qe_dok E.2.2.2 df) (b : Nat) : qx_sn (dp := dp) (qZ E L) 96 (qp_X10_trees b) (qm_X10_trees_lr df L b).1 := by
  unfold qm_X10_trees_lr
  exact sn_node (sn_leaf (j := 96) (b := b) (i := 3) (f := qp_X10_trees) (qs_X10_trees_3 hd)) (sn_leaf (j := 96) (b := b) (i := 4) (f := qp_X10_trees) (qs_X10_trees_4 hd))
theorem tqm_X10_trees_l {df : qe_Df} {L : Nat} {E : qe_E} (hd : qe_dok E.2.2.2 df) (b : Nat) : qx_sn (dp := dp) (qZ E L) 96 (qp_X10_trees b) (qm_X10_trees_l df L b).1 := by
  unfold qm_X10_trees_l
  exact sn_node (tqm_X10_trees_ll hd b) (tqm_X10_trees_lr hd b)
theorem tqm_X10_trees_rl {df : qe_Df} {L : Nat} {E : qe_E} (hd : qe_dok E.2.2.2 df) (b : Nat) : qx_sn (dp := dp) (qZ E L) 96 (qp_X10_trees b) (qm_X10_trees_rl df L b).1 := by
  unfold qm_X10_trees_rl
  exact sn_node (sn_leaf (j := 96) (b := b) (i := 5) (f := qp_X10_trees) (qs_X10_trees_5 hd)) (sn_leaf (j := 96) (b := b) (i := 6) (f := qp_X10_trees) (qs_X10_trees_6 hd))
theorem tqm_X10_trees_rr {df : qe_Df} {L : Nat} {E : qe_E} (hd : qe_dok E.2.2.2 df) (b : Nat) : qx_sn (dp := dp) (qZ E L) 96 (qp_X10_trees b) (qm_X10_trees_rr df L b).1 := by
  unfold qm_X10_trees_rr
  exact sn_node (sn_leaf (j := 96) (b := b) (i := 7) (f := qp_X10_trees) (qs_X10_trees_7 hd)) (sn_leaf (j := 96) (b := b) (i := 9) (f := qp_X10_trees) (qs_X10_trees_9 hd))
theorem tqm_X10_trees_r {df : qe_Df} {L : Nat} {E : qe_E} (hd : qe_dok E.2.2.2 df) (b : Nat) : qx_sn (dp := dp) (qZ E L) 96 (qp_X10_trees b) (qm_X10_trees_r df L b).1 := by
  unfold qm_X10_trees_r
  exact sn_node (tqm_X10_trees_rl hd b) (tqm_X10_trees_rr hd b)
theorem tqm_X10_trees_ {df : qe_Df} {L : Nat} {E : qe_E} (hd : qe_dok E.2.2.2 df) (b : Nat) : qx_sn (dp := dp) (qZ E L) 96 (qp_X10_trees b) (qm_X10_trees_ df L b).1 := by
  unfold qm_X10_trees_
  exact sn_node (tqm_X10_trees_l hd b) (tqm_X10_trees_r hd b)
theorem tqm_X10_trees {df : qe_Df} {L : Nat} {E : qe_E} (hd : qe_dok E.2.2.2 df) (b : Nat) : qx_sn (dp := dp) (qZ E L) 96 (qp_X10_trees b) (qm_X10_trees df L b).1 := by
  unfold qm_X10_trees
  exact (tqm_X10_trees_ hd b)
theorem tqm_X0_init_r {df : qe_Df} {L : Nat} {E : qe_E} (hd : qe_dok E.2.2.2 df) (b : Nat) : qx_sn (dp := dp) (qZ E L) 138 (qp_X0_init b) (qm_X0_init_r df L b).1 := by
  unfold qm_X0_init_r
  exact sn_node (sn_leaf (j := 138) (b := b) (i := 1) (f := qp_X0_init) (qs_X0_init_1 hd)) (sn_leaf (j := 138) (b := b) (i := 2) (f := qp_X0_init) (qs_X0_init_2 hd))
theorem tqm_X0_init_ {df : qe_Df} {L : Nat} {E : qe_E} (hd : qe_dok E.2.2.2 df) (b : Nat) : qx_sn (dp := dp) (qZ E L) 138 (qp_X0_init b) (qm_X0_init_ df L b).1 := by
  unfold qm_X0_init_
  exact sn_node (sn_leaf (j := 138) (b := b) (i := 0) (f := qp_X0_init) (qs_X0_init_0 hd)) (tqm_X0_init_r hd b)
theorem tqm_X0_init {df : qe_Df} {L : Nat} {E : qe_E} (hd : qe_dok E.2.2.2 df) (b : Nat) : qx_sn (dp := dp) (qZ E L) 138 (qp_X0_init b) (qm_X0_init df L b).1 := by
  unfold qm_X0_init
  exact (tqm_X0_init_ hd b)
theorem tqm_X1_init_l {df : qe_Df} {L : Nat} {E : qe_E} (hd : qe_dok E.2.2.2 df) (b : Nat) : qx_sn (dp := dp) (qZ E L) 152 (qp_X1_init b) (qm_X1_init_l df L b).1 := by
  unfold qm_X1_init_l
  exact sn_node (sn_leaf (j := 152) (b := b) (i := 0) (f := qp_X1_init) (qs_X1_init_0 hd)) (sn_leaf (j := 152) (b := b) (i := 1) (f := qp_X1_init) (qs_X1_init_1 hd))
theorem tqm_X1_init_r {df : qe_Df} {L : Nat} {E : qe_E} (hd : qe_dok E.2.2.2 df) (b : Nat) : qx_sn (dp := dp) (qZ E L) 152 (qp_X1_init b) (qm_X1_init_r df L b).1 := by
  unfold qm_X1_init_r
  exact sn_node (sn_leaf (j := 152) (b := b) (i := 2) (f := qp_X1_init) (qs_X1_init_2 hd)) (sn_leaf (j := 152) (b := b) (i := 3) (f := qp_X1_init) (qs_X1_init_3 hd))
theorem tqm_X1_init_ {df : qe_Df} {L : Nat} {E : qe_E} (hd : qe_dok E.2.2.2 df) (b : Nat) : qx_sn (dp := dp) (qZ E L) 152 (qp_X1_init b) (qm_X1_init_ df L b).1 := by
  unfold qm_X1_init_
  exact sn_node (tqm_X1_init_l hd b) (tqm_X1_init_r hd b)
theorem tqm_X1_init {df : qe_Df} {L : Nat} {E : qe_E} (hd : qe_dok E.2.2.2 df) (b : Nat) : qx_sn (dp := dp) (qZ E L) 152 (qp_X1_init b) (qm_X1_init df L b).1 := by
  unfold qm_X1_init
  exact (tqm_X1_init_ hd b)
theorem tqm_X1_grow_lr {df : qe_Df} {L : Nat} {E : qe_E} (hd : qe_dok E.2.2.2 df) (b : Nat) : qx_sn (dp := dp) (qZ E L) 153 (qp_X1_grow b) (qm_X1_grow_lr df L b).1 := by
  unfold qm_X1_grow_lr
  exact sn_node (sn_leaf (j := 153) (b := b) (i := 1) (f := qp_X1_grow) (qs_X1_grow_1 hd)) (sn_leaf (j := 153) (b := b) (i := 2) (f := qp_X1_grow) (qs_X1_grow_2 hd))
theorem tqm_X1_grow_l {df : qe_Df} {L : Nat} {E : qe_E} (hd : qe_dok E.2.2.2 df) (b : Nat) : qx_sn (dp := dp) (qZ E L) 153 (qp_X1_grow b) (qm_X1_grow_l df L b).1 := by
  unfold qm_X1_grow_l
  exact sn_node (sn_leaf (j := 153) (b := b) (i := 0) (f := qp_X1_grow) (qs_X1_grow_0 hd)) (tqm_X1_grow_lr hd b)
theorem tqm_X1_grow_rl {df : qe_Df} {L : Nat} {E : qe_E} (hd : qe_dok E.2.2.2 df) (b : Nat) : qx_sn (dp := dp) (qZ E L) 153 (qp_X1_grow b) (qm_X1_grow_rl df L b).1 := by
  unfold qm_X1_grow_rl
  exact sn_node (sn_leaf (j := 153) (b := b) (i := 3) (f := qp_X1_grow) (qs_X1_grow_3 hd)) (sn_leaf (j := 153) (b := b) (i := 4) (f := qp_X1_grow) (qs_X1_grow_4 hd))
theorem tqm_X1_grow_rr {df : qe_Df} {L : Nat} {E : qe_E} (hd : qe_dok E.2.2.2 df) (b : Nat) : qx_sn (dp := dp) (qZ E L) 153 (qp_X1_grow b) (qm_X1_grow_rr df L b).1 := by
  unfold qm_X1_grow_rr
  exact sn_node (sn_leaf (j := 153) (b := b) (i := 5) (f := qp_X1_grow) (qs_X1_grow_5 hd)) (sn_leaf (j := 153) (b := b) (i := 6) (f := qp_X1_grow) (qs_X1_grow_6 hd))
theorem tqm_X1_grow_r {df : qe_Df} {L : Nat} {E : qe_E} (hd : qe_dok E.2.2.2 df) (b : Nat) : qx_sn (dp := dp) (qZ E L) 153 (qp_X1_grow b) (qm_X1_grow_r df L b).1 := by
  unfold qm_X1_grow_r
  exact sn_node (tqm_X1_grow_rl hd b) (tqm_X1_grow_rr hd b)
theorem tqm_X1_grow_ {df : qe_Df} {L : Nat} {E : qe_E} (hd : qe_dok E.2.2.2 df) (b : Nat) : qx_sn (dp := dp) (qZ E L) 153 (qp_X1_grow b) (qm_X1_grow_ df L b).1 := by
  unfold qm_X1_grow_
  exact sn_node (tqm_X1_grow_l hd b) (tqm_X1_grow_r hd b)
theorem tqm_X1_grow {df : qe_Df} {L : Nat} {E : qe_E} (hd : qe_dok E.2.2.2 df) (b : Nat) : qx_sn (dp := dp) (qZ E L) 153 (qp_X1_grow b) (qm_X1_grow df L b).1 := by
  unfold qm_X1_grow
  exact (tqm_X1_grow_ hd b)
theorem tqm_X1_isLeaf_r {df : qe_Df} {L : Nat} {E : qe_E} (hd : qe_dok E.2.2.2 df) (b : Nat) : qx_sn (dp := dp) (qZ E L) 154 (qp_X1_isLeaf b) (qm_X1_isLeaf_r df L b).1 := by
  unfold qm_X1_isLeaf_r
  exact sn_node (sn_leaf (j := 154) (b := b) (i := 1) (f := qp_X1_isLeaf) (qs_X1_isLeaf_1 hd)) (sn_leaf (j := 154) (b := b) (i := 2) (f := qp_X1_isLeaf) (qs_X1_isLeaf_2 hd))
theorem tqm_X1_isLeaf_ {df : qe_Df} {L : Nat} {E : qe_E} (hd : qe_dok E.2.2.2 df) (b : Nat) : qx_sn (dp := dp) (qZ E L) 154 (qp_X1_isLeaf b) (qm_X1_isLeaf_ df L b).1 := by
  unfold qm_X1_isLeaf_
  exact sn_node (sn_leaf (j := 154) (b := b) (i := 0) (f := qp_X1_isLeaf) (qs_X1_isLeaf_0 hd)) (tqm_X1_isLeaf_r hd b)
theorem tqm_X1_isLeaf {df : qe_Df} {L : Nat} {E : qe_E} (hd : qe_dok E.2.2.2 df) (b : Nat) : qx_sn (dp := dp) (qZ E L) 154 (qp_X1_isLeaf b) (qm_X1_isLeaf df L b).1 := by
  unfold qm_X1_isLeaf
  exact (tqm_X1_isLeaf_ hd b)
theorem tqm_X1_keyOf {df : qe_Df} {L : Nat} {E : qe_E} (hd : qe_dok E.2.2.2 df) (b : Nat) : qx_sn (dp := dp) (qZ E L) 155 (qp_X1_keyOf b) (qm_X1_keyOf df L b).1 := by
  unfold qm_X1_keyOf
  exact (sn_leaf (j := 155) (b := b) (i := 0) (f := qp_X1_keyOf) (qs_X1_keyOf_0 hd))
theorem tqm_X1_plant_r {df : qe_Df} {L : Nat} {E : qe_E} (hd : qe_dok E.2.2.2 df) (b : Nat) : qx_sn (dp := dp) (qZ E L) 159 (qp_X1_plant b) (qm_X1_plant_r df L b).1 := by
  unfold qm_X1_plant_r
  exact sn_node (sn_leaf (j := 159) (b := b) (i := 1) (f := qp_X1_plant) (qs_X1_plant_1 hd)) (sn_leaf (j := 159) (b := b) (i := 2) (f := qp_X1_plant) (qs_X1_plant_2 hd))
theorem tqm_X1_plant_ {df : qe_Df} {L : Nat} {E : qe_E} (hd : qe_dok E.2.2.2 df) (b : Nat) : qx_sn (dp := dp) (qZ E L) 159 (qp_X1_plant b) (qm_X1_plant_ df L b).1 := by
  unfold qm_X1_plant_
  exact sn_node (sn_leaf (j := 159) (b := b) (i := 0) (f := qp_X1_plant) (qs_X1_plant_0 hd)) (tqm_X1_plant_r hd b)
theorem tqm_X1_plant {df : qe_Df} {L : Nat} {E : qe_E} (hd : qe_dok E.2.2.2 df) (b : Nat) : qx_sn (dp := dp) (qZ E L) 159 (qp_X1_plant b) (qm_X1_plant df L b).1 := by
  unfold qm_X1_plant
  exact (tqm_X1_plant_ hd b)
theorem tqm_X1_plantRoots_ll {df : qe_Df} {L : Nat} {E : qe_E} (hd : qe_dok E.2.2.2 df) (b : Nat) : qx_sn (dp := dp) (qZ E L) 160 (qp_X1_plantRoots b) (qm_X1_plantRoots_ll df L b).1 := by
  unfold qm_X1_plantRoots_ll
  exact sn_node (sn_leaf (j := 160) (b := b) (i := 0) (f := qp_X1_plantRoots) (qs_X1_plantRoots_0 hd)) (sn_leaf (j := 160) (b := b) (i := 1) (f := qp_X1_plantRoots) (qs_X1_plantRoots_1 hd))
theorem tqm_X1_plantRoots_lr {df : qe_Df} {L : Nat} {E : qe_E} (hd : qe_dok E.2.2.2 df) (b : Nat) : qx_sn (dp := dp) (qZ E L) 160 (qp_X1_plantRoots b) (qm_X1_plantRoots_lr df L b).1 := by
  unfold qm_X1_plantRoots_lr
  exact sn_node (sn_leaf (j := 160) (b := b) (i := 2) (f := qp_X1_plantRoots) (qs_X1_plantRoots_2 hd)) (sn_leaf (j := 160) (b := b) (i := 3) (f := qp_X1_plantRoots) (qs_X1_plantRoots_3 hd))
theorem tqm_X1_plantRoots_l {df : qe_Df} {L : Nat} {E : qe_E} (hd : qe_dok E.2.2.2 df) (b : Nat) : qx_sn (dp := dp) (qZ E L) 160 (qp_X1_plantRoots b) (qm_X1_plantRoots_l df L b).1 := by
  unfold qm_X1_plantRoots_l
  exact sn_node (tqm_X1_plantRoots_ll hd b) (tqm_X1_plantRoots_lr hd b)
theorem tqm_X1_plantRoots_rl {df : qe_Df} {L : Nat} {E : qe_E} (hd : qe_dok E.2.2.2 df) (b : Nat) : qx_sn (dp := dp) (qZ E L) 160 (qp_X1_plantRoots b) (qm_X1_plantRoots_rl df L b).1 := by
  unfold qm_X1_plantRoots_rl
  exact sn_node (sn_leaf (j := 160) (b := b) (i := 4) (f := qp_X1_plantRoots) (qs_X1_plantRoots_4 hd)) (sn_leaf (j := 160) (b := b) (i := 5) (f := qp_X1_plantRoots) (qs_X1_plantRoots_5 hd))
theorem tqm_X1_plantRoots_rr {df : qe_Df} {L : Nat} {E : qe_E} (hd : qe_dok E.2.2.2 df) (b : Nat) : qx_sn (dp := dp) (qZ E L) 160 (qp_X1_plantRoots b) (qm_X1_plantRoots_rr df L b).1 := by
  unfold qm_X1_plantRoots_rr
  exact sn_node (sn_leaf (j := 160) (b := b) (i := 6) (f := qp_X1_plantRoots) (qs_X1_plantRoots_6 hd)) (sn_leaf (j := 160) (b := b) (i := 7) (f := qp_X1_plantRoots) (qs_X1_plantRoots_7 hd))
theorem tqm_X1_plantRoots_r {df : qe_Df} {L : Nat} {E : qe_E} (hd : qe_dok E.2.2.2 df) (b : Nat) : qx_sn (dp := dp) (qZ E L) 160 (qp_X1_plantRoots b) (qm_X1_plantRoots_r df L b).1 := by
  unfold qm_X1_plantRoots_r
  exact sn_node (tqm_X1_plantRoots_rl hd b) (tqm_X1_plantRoots_rr hd b)
theorem tqm_X1_plantRoots_ {df : qe_Df} {L : Nat} {E : qe_E} (hd : qe_dok E.2.2.2 df) (b : Nat) : qx_sn (dp := dp) (qZ E L) 160 (qp_X1_plantRoots b) (qm_X1_plantRoots_ df L b).1 := by
  unfold qm_X1_plantRoots_
  exact sn_node (tqm_X1_plantRoots_l hd b) (tqm_X1_plantRoots_r hd b)
theorem tqm_X1_plantRoots {df : qe_Df} {L : Nat} {E : qe_E} (hd : qe_dok E.2.2.2 df) (b : Nat) : qx_sn (dp := dp) (qZ E L) 160 (qp_X1_plantRoots b) (qm_X1_plantRoots df L b).1 := by
  unfold qm_X1_plantRoots
  exact (tqm_X1_plantRoots_ hd b)
theorem tqm_X1_split_llr {df : qe_Df} {L : Nat} {E : qe_E} (hd : qe_dok E.2.2.2 df) (b : Nat) : qx_sn (dp := dp) (qZ E L) 161 (qp_X1_split b) (qm_X1_split_llr df L b).1 := by
  unfold qm_X1_split_llr
  exact sn_node (sn_leaf (j := 161) (b := b) (i := 1) (f := qp_X1_split) (qs_X1_split_1 hd)) (sn_leaf (j := 161) (b := b) (i := 2) (f := qp_X1_split) (qs_X1_split_2 hd))
theorem tqm_X1_split_ll {df : qe_Df} {L : Nat} {E : qe_E} (hd : qe_dok E.2.2.2 df) (b : Nat) : qx_sn (dp := dp) (qZ E L) 161 (qp_X1_split b) (qm_X1_split_ll df L b).1 := by
  unfold qm_X1_split_ll
  exact sn_node (sn_leaf (j := 161) (b := b) (i := 0) (f := qp_X1_split) (qs_X1_split_0 hd)) (tqm_X1_split_llr hd b)
theorem tqm_X1_split_lrr {df : qe_Df} {L : Nat} {E : qe_E} (hd : qe_dok E.2.2.2 df) (b : Nat) : qx_sn (dp := dp) (qZ E L) 161 (qp_X1_split b) (qm_X1_split_lrr df L b).1 := by
  unfold qm_X1_split_lrr
  exact sn_node (sn_leaf (j := 161) (b := b) (i := 4) (f := qp_X1_split) (qs_X1_split_4 hd)) (sn_leaf (j := 161) (b := b) (i := 5) (f := qp_X1_split) (qs_X1_split_5 hd))
theorem tqm_X1_split_lr {df : qe_Df} {L : Nat} {E : qe_E} (hd : qe_dok E.2.2.2 df) (b : Nat) : qx_sn (dp := dp) (qZ E L) 161 (qp_X1_split b) (qm_X1_split_lr df L b).1 := by
  unfold qm_X1_split_lr
  exact sn_node (sn_leaf (j := 161) (b := b) (i := 3) (f := qp_X1_split) (qs_X1_split_3 hd)) (tqm_X1_split_lrr hd b)
theorem tqm_X1_split_l {df : qe_Df} {L : Nat} {E : qe_E} (hd : qe_dok E.2.2.2 df) (b : Nat) : qx_sn (dp := dp) (qZ E L) 161 (qp_X1_split b) (qm_X1_split_l df L b).1 := by
  unfold qm_X1_split_l
  exact sn_node (tqm_X1_split_ll hd b) (tqm_X1_split_lr hd b)
theorem tqm_X1_split_rlr {df : qe_Df} {L : Nat} {E : qe_E} (hd : qe_dok E.2.2.2 df) (b : Nat) : qx_sn (dp := dp) (qZ E L) 161 (qp_X1_split b) (qm_X1_split_rlr df L b).1 := by
  unfold qm_X1_split_rlr
  exact sn_node (sn_leaf (j := 161) (b := b) (i := 7) (f := qp_X1_split) (qs_X1_split_7 hd)) (sn_leaf (j := 161) (b := b) (i := 8) (f := qp_X1_split) (qs_X1_split_8 hd))
theorem tqm_X1_split_rl {df : qe_Df} {L : Nat} {E : qe_E} (hd : qe_dok E.2.2.2 df) (b : Nat) : qx_sn (dp := dp) (qZ E L) 161 (qp_X1_split b) (qm_X1_split_rl df L b).1 := by
  unfold qm_X1_split_rl
  exact sn_node (sn_leaf (j := 161) (b := b) (i := 6) (f := qp_X1_split) (qs_X1_split_6 hd)) (tqm_X1_split_rlr hd b)
theorem tqm_X1_split_rrr {df : qe_Df} {L : Nat} {E : qe_E} (hd : qe_dok E.2.2.2 df) (b : Nat) : qx_sn (dp := dp) (qZ E L) 161 (qp_X1_split b) (qm_X1_split_rrr df L b).1 := by
  unfold qm_X1_split_rrr
  exact sn_node (sn_leaf (j := 161) (b := b) (i := 10) (f := qp_X1_split) (qs_X1_split_10 hd)) (sn_leaf (j := 161) (b := b) (i := 11) (f := qp_X1_split) (qs_X1_split_11 hd))
theorem tqm_X1_split_rr {df : qe_Df} {L : Nat} {E : qe_E} (hd : qe_dok E.2.2.2 df) (b : Nat) : qx_sn (dp := dp) (qZ E L) 161 (qp_X1_split b) (qm_X1_split_rr df L b).1 := by
  unfold qm_X1_split_rr
  exact sn_node (sn_leaf (j := 161) (b := b) (i := 9) (f := qp_X1_split) (qs_X1_split_9 hd)) (tqm_X1_split_rrr hd b)
theorem tqm_X1_split_r {df : qe_Df} {L : Nat} {E : qe_E} (hd : qe_dok E.2.2.2 df) (b : Nat) : qx_sn (dp := dp) (qZ E L) 161 (qp_X1_split b) (qm_X1_split_r df L b).1 := by
  unfold qm_X1_split_r
  exact sn_node (tqm_X1_split_rl hd b) (tqm_X1_split_rr hd b)
theorem tqm_X1_split_ {df : qe_Df} {L : Nat} {E : qe_E} (hd : qe_dok E.2.2.2 df) (b : Nat) : qx_sn (dp := dp) (qZ E L) 161 (qp_X1_split b) (qm_X1_split_ df L b).1 := by
  unfold qm_X1_split_
  exact sn_node (tqm_X1_split_l hd b) (tqm_X1_split_r hd b)
theorem tqm_X1_split {df : qe_Df} {L : Nat} {E : qe_E} (hd : qe_dok E.2.2.2 df) (b : Nat) : qx_sn (dp := dp) (qZ E L) 161 (qp_X1_split b) (qm_X1_split df L b).1 := by
  unfold qm_X1_split
  exact (tqm_X1_split_ hd b)
theorem tqm_X1_choosePosition_l {df : qe_Df} {L : Nat} {E : qe_E} (hd : qe_dok E.2.2.2 df) (b : Nat) : qx_sn (dp := dp) (qZ E L) 162 (qp_X1_choosePosition b) (qm_X1_choosePosition_l df L b).1 := by
  unfold qm_X1_choosePosition_l
  exact sn_node (sn_leaf (j := 162) (b := b) (i := 0) (f := qp_X1_choosePosition) (qs_X1_choosePosition_0 hd)) (sn_leaf (j := 162) (b := b) (i := 1) (f := qp_X1_choosePosition) (qs_X1_choosePosition_1 hd))
theorem tqm_X1_choosePosition_rr {df : qe_Df} {L : Nat} {E : qe_E} (hd : qe_dok E.2.2.2 df) (b : Nat) : qx_sn (dp := dp) (qZ E L) 162 (qp_X1_choosePosition b) (qm_X1_choosePosition_rr df L b).1 := by
  unfold qm_X1_choosePosition_rr
  exact sn_node (sn_leaf (j := 162) (b := b) (i := 3) (f := qp_X1_choosePosition) (qs_X1_choosePosition_3 hd)) (sn_leaf (j := 162) (b := b) (i := 4) (f := qp_X1_choosePosition) (qs_X1_choosePosition_4 hd))
theorem tqm_X1_choosePosition_r {df : qe_Df} {L : Nat} {E : qe_E} (hd : qe_dok E.2.2.2 df) (b : Nat) : qx_sn (dp := dp) (qZ E L) 162 (qp_X1_choosePosition b) (qm_X1_choosePosition_r df L b).1 := by
  unfold qm_X1_choosePosition_r
  exact sn_node (sn_leaf (j := 162) (b := b) (i := 2) (f := qp_X1_choosePosition) (qs_X1_choosePosition_2 hd)) (tqm_X1_choosePosition_rr hd b)
theorem tqm_X1_choosePosition_ {df : qe_Df} {L : Nat} {E : qe_E} (hd : qe_dok E.2.2.2 df) (b : Nat) : qx_sn (dp := dp) (qZ E L) 162 (qp_X1_choosePosition b) (qm_X1_choosePosition_ df L b).1 := by
  unfold qm_X1_choosePosition_
  exact sn_node (tqm_X1_choosePosition_l hd b) (tqm_X1_choosePosition_r hd b)
theorem tqm_X1_choosePosition {df : qe_Df} {L : Nat} {E : qe_E} (hd : qe_dok E.2.2.2 df) (b : Nat) : qx_sn (dp := dp) (qZ E L) 162 (qp_X1_choosePosition b) (qm_X1_choosePosition df L b).1 := by
  unfold qm_X1_choosePosition
  exact (tqm_X1_choosePosition_ hd b)
theorem tqm_X1_penaltyOf_llr {df : qe_Df} {L : Nat} {E : qe_E} (hd : qe_dok E.2.2.2 df) (b : Nat) : qx_sn (dp := dp) (qZ E L) 163 (qp_X1_penaltyOf b) (qm_X1_penaltyOf_llr df L b).1 := by
  unfold qm_X1_penaltyOf_llr
  exact sn_node (sn_leaf (j := 163) (b := b) (i := 1) (f := qp_X1_penaltyOf) (qs_X1_penaltyOf_1 hd)) (sn_leaf (j := 163) (b := b) (i := 2) (f := qp_X1_penaltyOf) (qs_X1_penaltyOf_2 hd))
theorem tqm_X1_penaltyOf_ll {df : qe_Df} {L : Nat} {E : qe_E} (hd : qe_dok E.2.2.2 df) (b : Nat) : qx_sn (dp := dp) (qZ E L) 163 (qp_X1_penaltyOf b) (qm_X1_penaltyOf_ll df L b).1 := by
  unfold qm_X1_penaltyOf_ll
  exact sn_node (sn_leaf (j := 163) (b := b) (i := 0) (f := qp_X1_penaltyOf) (qs_X1_penaltyOf_0 hd)) (tqm_X1_penaltyOf_llr hd b)
theorem tqm_X1_penaltyOf_lrr {df : qe_Df} {L : Nat} {E : qe_E} (hd : qe_dok E.2.2.2 df) (b : Nat) : qx_sn (dp := dp) (qZ E L) 163 (qp_X1_penaltyOf b) (qm_X1_penaltyOf_lrr df L b).1 := by
  unfold qm_X1_penaltyOf_lrr
  exact sn_node (sn_leaf (j := 163) (b := b) (i := 4) (f := qp_X1_penaltyOf) (qs_X1_penaltyOf_4 hd)) (sn_leaf (j := 163) (b := b) (i := 5) (f := qp_X1_penaltyOf) (qs_X1_penaltyOf_5 hd))
theorem tqm_X1_penaltyOf_lr {df : qe_Df} {L : Nat} {E : qe_E} (hd : qe_dok E.2.2.2 df) (b : Nat) : qx_sn (dp := dp) (qZ E L) 163 (qp_X1_penaltyOf b) (qm_X1_penaltyOf_lr df L b).1 := by
  unfold qm_X1_penaltyOf_lr
  exact sn_node (sn_leaf (j := 163) (b := b) (i := 3) (f := qp_X1_penaltyOf) (qs_X1_penaltyOf_3 hd)) (tqm_X1_penaltyOf_lrr hd b)
theorem tqm_X1_penaltyOf_l {df : qe_Df} {L : Nat} {E : qe_E} (hd : qe_dok E.2.2.2 df) (b : Nat) : qx_sn (dp := dp) (qZ E L) 163 (qp_X1_penaltyOf b) (qm_X1_penaltyOf_l df L b).1 := by
  unfold qm_X1_penaltyOf_l
  exact sn_node (tqm_X1_penaltyOf_ll hd b) (tqm_X1_penaltyOf_lr hd b)
theorem tqm_X1_penaltyOf_rlr {df : qe_Df} {L : Nat} {E : qe_E} (hd : qe_dok E.2.2.2 df) (b : Nat) : qx_sn (dp := dp) (qZ E L) 163 (qp_X1_penaltyOf b) (qm_X1_penaltyOf_rlr df L b).1 := by
  unfold qm_X1_penaltyOf_rlr
  exact sn_node (sn_leaf (j := 163) (b := b) (i := 7) (f := qp_X1_penaltyOf) (qs_X1_penaltyOf_7 hd)) (sn_leaf (j := 163) (b := b) (i := 8) (f := qp_X1_penaltyOf) (qs_X1_penaltyOf_8 hd))
theorem tqm_X1_penaltyOf_rl {df : qe_Df} {L : Nat} {E : qe_E} (hd : qe_dok E.2.2.2 df) (b : Nat) : qx_sn (dp := dp) (qZ E L) 163 (qp_X1_penaltyOf b) (qm_X1_penaltyOf_rl df L b).1 := by
  unfold qm_X1_penaltyOf_rl
  exact sn_node (sn_leaf (j := 163) (b := b) (i := 6) (f := qp_X1_penaltyOf) (qs_X1_penaltyOf_6 hd)) (tqm_X1_penaltyOf_rlr hd b)
theorem tqm_X1_penaltyOf_rrr {df : qe_Df} {L : Nat} {E : qe_E} (hd : qe_dok E.2.2.2 df) (b : Nat) : qx_sn (dp := dp) (qZ E L) 163 (qp_X1_penaltyOf b) (qm_X1_penaltyOf_rrr df L b).1 := by
  unfold qm_X1_penaltyOf_rrr
  exact sn_node (sn_leaf (j := 163) (b := b) (i := 10) (f := qp_X1_penaltyOf) (qs_X1_penaltyOf_10 hd)) (sn_leaf (j := 163) (b := b) (i := 11) (f := qp_X1_penaltyOf) (qs_X1_penaltyOf_11 hd))
theorem tqm_X1_penaltyOf_rr {df : qe_Df} {L : Nat} {E : qe_E} (hd : qe_dok E.2.2.2 df) (b : Nat) : qx_sn (dp := dp) (qZ E L) 163 (qp_X1_penaltyOf b) (qm_X1_penaltyOf_rr df L b).1 := by
  unfold qm_X1_penaltyOf_rr
  exact sn_node (sn_leaf (j := 163) (b := b) (i := 9) (f := qp_X1_penaltyOf) (qs_X1_penaltyOf_9 hd)) (tqm_X1_penaltyOf_rrr hd b)
theorem tqm_X1_penaltyOf_r {df : qe_Df} {L : Nat} {E : qe_E} (hd : qe_dok E.2.2.2 df) (b : Nat) : qx_sn (dp := dp) (qZ E L) 163 (qp_X1_penaltyOf b) (qm_X1_penaltyOf_r df L b).1 := by
  unfold qm_X1_penaltyOf_r
  exact sn_node (tqm_X1_penaltyOf_rl hd b) (tqm_X1_penaltyOf_rr hd b)
theorem tqm_X1_penaltyOf_ {df : qe_Df} {L : Nat} {E : qe_E} (hd : qe_dok E.2.2.2 df) (b : Nat) : qx_sn (dp := dp) (qZ E L) 163 (qp_X1_penaltyOf b) (qm_X1_penaltyOf_ df L b).1 := by
  unfold qm_X1_penaltyOf_
  exact sn_node (tqm_X1_penaltyOf_l hd b) (tqm_X1_penaltyOf_r hd b)
theorem tqm_X1_penaltyOf {df : qe_Df} {L : Nat} {E : qe_E} (hd : qe_dok E.2.2.2 df) (b : Nat) : qx_sn (dp := dp) (qZ E L) 163 (qp_X1_penaltyOf b) (qm_X1_penaltyOf df L b).1 := by
  unfold qm_X1_penaltyOf
  exact (tqm_X1_penaltyOf_ hd b)
theorem tqm_X1_sortMembers_lr {df : qe_Df} {L : Nat} {E : qe_E} (hd : qe_dok E.2.2.2 df) (b : Nat) : qx_sn (dp := dp) (qZ E L) 164 (qp_X1_sortMembers b) (qm_X1_sortMembers_lr df L b).1 := by
  unfold qm_X1_sortMembers_lr
  exact sn_node (sn_leaf (j := 164) (b := b) (i := 1) (f := qp_X1_sortMembers) (qs_X1_sortMembers_1 hd)) (sn_leaf (j := 164) (b := b) (i := 2) (f := qp_X1_sortMembers) (qs_X1_sortMembers_2 hd))
theorem tqm_X1_sortMembers_l {df : qe_Df} {L : Nat} {E : qe_E} (hd : qe_dok E.2.2.2 df) (b : Nat) : qx_sn (dp := dp) (qZ E L) 164 (qp_X1_sortMembers b) (qm_X1_sortMembers_l df L b).1 := by
  unfold qm_X1_sortMembers_l
  exact sn_node (sn_leaf (j := 164) (b := b) (i := 0) (f := qp_X1_sortMembers) (qs_X1_sortMembers_0 hd)) (tqm_X1_sortMembers_lr hd b)
theorem tqm_X1_sortMembers_rl {df : qe_Df} {L : Nat} {E : qe_E} (hd : qe_dok E.2.2.2 df) (b : Nat) : qx_sn (dp := dp) (qZ E L) 164 (qp_X1_sortMembers b) (qm_X1_sortMembers_rl df L b).1 := by
  unfold qm_X1_sortMembers_rl
  exact sn_node (sn_leaf (j := 164) (b := b) (i := 3) (f := qp_X1_sortMembers) (qs_X1_sortMembers_3 hd)) (sn_leaf (j := 164) (b := b) (i := 4) (f := qp_X1_sortMembers) (qs_X1_sortMembers_4 hd))
theorem tqm_X1_sortMembers_rr {df : qe_Df} {L : Nat} {E : qe_E} (hd : qe_dok E.2.2.2 df) (b : Nat) : qx_sn (dp := dp) (qZ E L) 164 (qp_X1_sortMembers b) (qm_X1_sortMembers_rr df L b).1 := by
  unfold qm_X1_sortMembers_rr
  exact sn_node (sn_leaf (j := 164) (b := b) (i := 5) (f := qp_X1_sortMembers) (qs_X1_sortMembers_5 hd)) (sn_leaf (j := 164) (b := b) (i := 6) (f := qp_X1_sortMembers) (qs_X1_sortMembers_6 hd))
theorem tqm_X1_sortMembers_r {df : qe_Df} {L : Nat} {E : qe_E} (hd : qe_dok E.2.2.2 df) (b : Nat) : qx_sn (dp := dp) (qZ E L) 164 (qp_X1_sortMembers b) (qm_X1_sortMembers_r df L b).1 := by
  unfold qm_X1_sortMembers_r
  exact sn_node (tqm_X1_sortMembers_rl hd b) (tqm_X1_sortMembers_rr hd b)
theorem tqm_X1_sortMembers_ {df : qe_Df} {L : Nat} {E : qe_E} (hd : qe_dok E.2.2.2 df) (b : Nat) : qx_sn (dp := dp) (qZ E L) 164 (qp_X1_sortMembers b) (qm_X1_sortMembers_ df L b).1 := by
  unfold qm_X1_sortMembers_
  exact sn_node (tqm_X1_sortMembers_l hd b) (tqm_X1_sortMembers_r hd b)
theorem tqm_X1_sortMembers {df : qe_Df} {L : Nat} {E : qe_E} (hd : qe_dok E.2.2.2 df) (b : Nat) : qx_sn (dp := dp) (qZ E L) 164 (qp_X1_sortMembers b) (qm_X1_sortMembers df L b).1 := by
  unfold qm_X1_sortMembers
  exact (tqm_X1_sortMembers_ hd b)
theorem tqm_X2_init_ {df : qe_Df} {L : Nat} {E : qe_E} (hd : qe_dok E.2.2.2 df) (b : Nat) : qx_sn (dp := dp) (qZ E L) 165 (qp_X2_init b) (qm_X2_init_ df L b).1 := by
  unfold qm_X2_init_
  exact sn_node (sn_leaf (j := 165) (b := b) (i := 0) (f := qp_X2_init) (qs_X2_init_0 hd)) (sn_leaf (j := 165) (b := b) (i := 1) (f := qp_X2_init) (qs_X2_init_1 hd))
theorem tqm_X2_init {df : qe_Df} {L : Nat} {E : qe_E} (hd : qe_dok E.2.2.2 df) (b : Nat) : qx_sn (dp := dp) (qZ E L) 165 (qp_X2_init b) (qm_X2_init df L b).1 := by
  unfold qm_X2_init
  exact (tqm_X2_init_ hd b)
theorem tqm_X2_lengthOf_ {df : qe_Df} {L : Nat} {E : qe_E} (hd : qe_dok E.2.2.2 df) (b : Nat) : qx_sn (dp := dp) (qZ E L) 167 (qp_X2_lengthOf b) (qm_X2_lengthOf_ df L b).1 := by
  unfold qm_X2_lengthOf_
  exact sn_node (sn_leaf (j := 167) (b := b) (i := 0) (f := qp_X2_lengthOf) (qs_X2_lengthOf_0 hd)) (sn_leaf (j := 167) (b := b) (i := 2) (f := qp_X2_lengthOf) (qs_X2_lengthOf_2 hd))
theorem tqm_X2_lengthOf {df : qe_Df} {L : Nat} {E : qe_E} (hd : qe_dok E.2.2.2 df) (b : Nat) : qx_sn (dp := dp) (qZ E L) 167 (qp_X2_lengthOf b) (qm_X2_lengthOf df L b).1 := by
  unfold qm_X2_lengthOf
  exact (tqm_X2_lengthOf_ hd b)
theorem tqm_X2_letterAt_lr {df : qe_Df} {L : Nat} {E : qe_E} (hd : qe_dok E.2.2.2 df) (b : Nat) : qx_sn (dp := dp) (qZ E L) 168 (qp_X2_letterAt b) (qm_X2_letterAt_lr df L b).1 := by
  unfold qm_X2_letterAt_lr
  exact sn_node (sn_leaf (j := 168) (b := b) (i := 1) (f := qp_X2_letterAt) (qs_X2_letterAt_1 hd)) (sn_leaf (j := 168) (b := b) (i := 2) (f := qp_X2_letterAt) (qs_X2_letterAt_2 hd))
theorem tqm_X2_letterAt_l {df : qe_Df} {L : Nat} {E : qe_E} (hd : qe_dok E.2.2.2 df) (b : Nat) : qx_sn (dp := dp) (qZ E L) 168 (qp_X2_letterAt b) (qm_X2_letterAt_l df L b).1 := by
  unfold qm_X2_letterAt_l
  exact sn_node (sn_leaf (j := 168) (b := b) (i := 0) (f := qp_X2_letterAt) (qs_X2_letterAt_0 hd)) (tqm_X2_letterAt_lr hd b)
theorem tqm_X2_letterAt_rr {df : qe_Df} {L : Nat} {E : qe_E} (hd : qe_dok E.2.2.2 df) (b : Nat) : qx_sn (dp := dp) (qZ E L) 168 (qp_X2_letterAt b) (qm_X2_letterAt_rr df L b).1 := by
  unfold qm_X2_letterAt_rr
  exact sn_node (sn_leaf (j := 168) (b := b) (i := 4) (f := qp_X2_letterAt) (qs_X2_letterAt_4 hd)) (sn_leaf (j := 168) (b := b) (i := 6) (f := qp_X2_letterAt) (qs_X2_letterAt_6 hd))
theorem tqm_X2_letterAt_r {df : qe_Df} {L : Nat} {E : qe_E} (hd : qe_dok E.2.2.2 df) (b : Nat) : qx_sn (dp := dp) (qZ E L) 168 (qp_X2_letterAt b) (qm_X2_letterAt_r df L b).1 := by
  unfold qm_X2_letterAt_r
  exact sn_node (sn_leaf (j := 168) (b := b) (i := 3) (f := qp_X2_letterAt) (qs_X2_letterAt_3 hd)) (tqm_X2_letterAt_rr hd b)
theorem tqm_X2_letterAt_ {df : qe_Df} {L : Nat} {E : qe_E} (hd : qe_dok E.2.2.2 df) (b : Nat) : qx_sn (dp := dp) (qZ E L) 168 (qp_X2_letterAt b) (qm_X2_letterAt_ df L b).1 := by
  unfold qm_X2_letterAt_
  exact sn_node (tqm_X2_letterAt_l hd b) (tqm_X2_letterAt_r hd b)
theorem tqm_X2_letterAt {df : qe_Df} {L : Nat} {E : qe_E} (hd : qe_dok E.2.2.2 df) (b : Nat) : qx_sn (dp := dp) (qZ E L) 168 (qp_X2_letterAt b) (qm_X2_letterAt df L b).1 := by
  unfold qm_X2_letterAt
  exact (tqm_X2_letterAt_ hd b)
theorem tqm_X2_numberOf_l {df : qe_Df} {L : Nat} {E : qe_E} (hd : qe_dok E.2.2.2 df) (b : Nat) : qx_sn (dp := dp) (qZ E L) 169 (qp_X2_numberOf b) (qm_X2_numberOf_l df L b).1 := by
  unfold qm_X2_numberOf_l
  exact sn_node (sn_leaf (j := 169) (b := b) (i := 0) (f := qp_X2_numberOf) (qs_X2_numberOf_0 hd)) (sn_leaf (j := 169) (b := b) (i := 1) (f := qp_X2_numberOf) (qs_X2_numberOf_1 hd))
theorem tqm_X2_numberOf_rr {df : qe_Df} {L : Nat} {E : qe_E} (hd : qe_dok E.2.2.2 df) (b : Nat) : qx_sn (dp := dp) (qZ E L) 169 (qp_X2_numberOf b) (qm_X2_numberOf_rr df L b).1 := by
  unfold qm_X2_numberOf_rr
  exact sn_node (sn_leaf (j := 169) (b := b) (i := 3) (f := qp_X2_numberOf) (qs_X2_numberOf_3 hd)) (sn_leaf (j := 169) (b := b) (i := 4) (f := qp_X2_numberOf) (qs_X2_numberOf_4 hd))
theorem tqm_X2_numberOf_r {df : qe_Df} {L : Nat} {E : qe_E} (hd : qe_dok E.2.2.2 df) (b : Nat) : qx_sn (dp := dp) (qZ E L) 169 (qp_X2_numberOf b) (qm_X2_numberOf_r df L b).1 := by
  unfold qm_X2_numberOf_r
  exact sn_node (sn_leaf (j := 169) (b := b) (i := 2) (f := qp_X2_numberOf) (qs_X2_numberOf_2 hd)) (tqm_X2_numberOf_rr hd b)
theorem tqm_X2_numberOf_ {df : qe_Df} {L : Nat} {E : qe_E} (hd : qe_dok E.2.2.2 df) (b : Nat) : qx_sn (dp := dp) (qZ E L) 169 (qp_X2_numberOf b) (qm_X2_numberOf_ df L b).1 := by
  unfold qm_X2_numberOf_
  exact sn_node (tqm_X2_numberOf_l hd b) (tqm_X2_numberOf_r hd b)
theorem tqm_X2_numberOf {df : qe_Df} {L : Nat} {E : qe_E} (hd : qe_dok E.2.2.2 df) (b : Nat) : qx_sn (dp := dp) (qZ E L) 169 (qp_X2_numberOf b) (qm_X2_numberOf df L b).1 := by
  unfold qm_X2_numberOf
  exact (tqm_X2_numberOf_ hd b)
theorem tqm_X2_beginsAt_l {df : qe_Df} {L : Nat} {E : qe_E} (hd : qe_dok E.2.2.2 df) (b : Nat) : qx_sn (dp := dp) (qZ E L) 170 (qp_X2_beginsAt b) (qm_X2_beginsAt_l df L b).1 := by
  unfold qm_X2_beginsAt_l
  exact sn_node (sn_leaf (j := 170) (b := b) (i := 0) (f := qp_X2_beginsAt) (qs_X2_beginsAt_0 hd)) (sn_leaf (j := 170) (b := b) (i := 1) (f := qp_X2_beginsAt) (qs_X2_beginsAt_1 hd))
theorem tqm_X2_beginsAt_r {df : qe_Df} {L : Nat} {E : qe_E} (hd : qe_dok E.2.2.2 df) (b : Nat) : qx_sn (dp := dp) (qZ E L) 170 (qp_X2_beginsAt b) (qm_X2_beginsAt_r df L b).1 := by
  unfold qm_X2_beginsAt_r
  exact sn_node (sn_leaf (j := 170) (b := b) (i := 2) (f := qp_X2_beginsAt) (qs_X2_beginsAt_2 hd)) (sn_leaf (j := 170) (b := b) (i := 3) (f := qp_X2_beginsAt) (qs_X2_beginsAt_3 hd))
theorem tqm_X2_beginsAt_ {df : qe_Df} {L : Nat} {E : qe_E} (hd : qe_dok E.2.2.2 df) (b : Nat) : qx_sn (dp := dp) (qZ E L) 170 (qp_X2_beginsAt b) (qm_X2_beginsAt_ df L b).1 := by
  unfold qm_X2_beginsAt_
  exact sn_node (tqm_X2_beginsAt_l hd b) (tqm_X2_beginsAt_r hd b)
theorem tqm_X2_beginsAt {df : qe_Df} {L : Nat} {E : qe_E} (hd : qe_dok E.2.2.2 df) (b : Nat) : qx_sn (dp := dp) (qZ E L) 170 (qp_X2_beginsAt b) (qm_X2_beginsAt df L b).1 := by
  unfold qm_X2_beginsAt
  exact (tqm_X2_beginsAt_ hd b)
theorem tqm_X2_insert_lr {df : qe_Df} {L : Nat} {E : qe_E} (hd : qe_dok E.2.2.2 df) (b : Nat) : qx_sn (dp := dp) (qZ E L) 171 (qp_X2_insert b) (qm_X2_insert_lr df L b).1 := by
  unfold qm_X2_insert_lr
  exact sn_node (sn_leaf (j := 171) (b := b) (i := 2) (f := qp_X2_insert) (qs_X2_insert_2 hd)) (sn_leaf (j := 171) (b := b) (i := 3) (f := qp_X2_insert) (qs_X2_insert_3 hd))
theorem tqm_X2_insert_l {df : qe_Df} {L : Nat} {E : qe_E} (hd : qe_dok E.2.2.2 df) (b : Nat) : qx_sn (dp := dp) (qZ E L) 171 (qp_X2_insert b) (qm_X2_insert_l df L b).1 := by
  unfold qm_X2_insert_l
  exact sn_node (sn_leaf (j := 171) (b := b) (i := 0) (f := qp_X2_insert) (qs_X2_insert_0 hd)) (tqm_X2_insert_lr hd b)
theorem tqm_X2_insert_rl {df : qe_Df} {L : Nat} {E : qe_E} (hd : qe_dok E.2.2.2 df) (b : Nat) : qx_sn (dp := dp) (qZ E L) 171 (qp_X2_insert b) (qm_X2_insert_rl df L b).1 := by
  unfold qm_X2_insert_rl
  exact sn_node (sn_leaf (j := 171) (b := b) (i := 4) (f := qp_X2_insert) (qs_X2_insert_4 hd)) (sn_leaf (j := 171) (b := b) (i := 5) (f := qp_X2_insert) (qs_X2_insert_5 hd))
theorem tqm_X2_insert_rr {df : qe_Df} {L : Nat} {E : qe_E} (hd : qe_dok E.2.2.2 df) (b : Nat) : qx_sn (dp := dp) (qZ E L) 171 (qp_X2_insert b) (qm_X2_insert_rr df L b).1 := by
  unfold qm_X2_insert_rr
  exact sn_node (sn_leaf (j := 171) (b := b) (i := 6) (f := qp_X2_insert) (qs_X2_insert_6 hd)) (sn_leaf (j := 171) (b := b) (i := 7) (f := qp_X2_insert) (qs_X2_insert_7 hd))
theorem tqm_X2_insert_r {df : qe_Df} {L : Nat} {E : qe_E} (hd : qe_dok E.2.2.2 df) (b : Nat) : qx_sn (dp := dp) (qZ E L) 171 (qp_X2_insert b) (qm_X2_insert_r df L b).1 := by
  unfold qm_X2_insert_r
  exact sn_node (tqm_X2_insert_rl hd b) (tqm_X2_insert_rr hd b)
theorem tqm_X2_insert_ {df : qe_Df} {L : Nat} {E : qe_E} (hd : qe_dok E.2.2.2 df) (b : Nat) : qx_sn (dp := dp) (qZ E L) 171 (qp_X2_insert b) (qm_X2_insert_ df L b).1 := by
  unfold qm_X2_insert_
  exact sn_node (tqm_X2_insert_l hd b) (tqm_X2_insert_r hd b)
theorem tqm_X2_insert {df : qe_Df} {L : Nat} {E : qe_E} (hd : qe_dok E.2.2.2 df) (b : Nat) : qx_sn (dp := dp) (qZ E L) 171 (qp_X2_insert b) (qm_X2_insert df L b).1 := by
  unfold qm_X2_insert
  exact (tqm_X2_insert_ hd b)
theorem tqm_X2_firstDifference_l {df : qe_Df} {L : Nat} {E : qe_E} (hd : qe_dok E.2.2.2 df) (b : Nat) : qx_sn (dp := dp) (qZ E L) 175 (qp_X2_firstDifference b) (qm_X2_firstDifference_l df L b).1 := by
  unfold qm_X2_firstDifference_l
  exact sn_node (sn_leaf (j := 175) (b := b) (i := 0) (f := qp_X2_firstDifference) (qs_X2_firstDifference_0 hd)) (sn_leaf (j := 175) (b := b) (i := 1) (f := qp_X2_firstDifference) (qs_X2_firstDifference_1 hd))
theorem tqm_X2_firstDifference_r {df : qe_Df} {L : Nat} {E : qe_E} (hd : qe_dok E.2.2.2 df) (b : Nat) : qx_sn (dp := dp) (qZ E L) 175 (qp_X2_firstDifference b) (qm_X2_firstDifference_r df L b).1 := by
  unfold qm_X2_firstDifference_r
  exact sn_node (sn_leaf (j := 175) (b := b) (i := 2) (f := qp_X2_firstDifference) (qs_X2_firstDifference_2 hd)) (sn_leaf (j := 175) (b := b) (i := 3) (f := qp_X2_firstDifference) (qs_X2_firstDifference_3 hd))
theorem tqm_X2_firstDifference_ {df : qe_Df} {L : Nat} {E : qe_E} (hd : qe_dok E.2.2.2 df) (b : Nat) : qx_sn (dp := dp) (qZ E L) 175 (qp_X2_firstDifference b) (qm_X2_firstDifference_ df L b).1 := by
  unfold qm_X2_firstDifference_
  exact sn_node (tqm_X2_firstDifference_l hd b) (tqm_X2_firstDifference_r hd b)
theorem tqm_X2_firstDifference {df : qe_Df} {L : Nat} {E : qe_E} (hd : qe_dok E.2.2.2 df) (b : Nat) : qx_sn (dp := dp) (qZ E L) 175 (qp_X2_firstDifference b) (qm_X2_firstDifference df L b).1 := by
  unfold qm_X2_firstDifference
  exact (tqm_X2_firstDifference_ hd b)
theorem tqm_X2_isLess_l {df : qe_Df} {L : Nat} {E : qe_E} (hd : qe_dok E.2.2.2 df) (b : Nat) : qx_sn (dp := dp) (qZ E L) 176 (qp_X2_isLess b) (qm_X2_isLess_l df L b).1 := by
  unfold qm_X2_isLess_l
  exact sn_node (sn_leaf (j := 176) (b := b) (i := 0) (f := qp_X2_isLess) (qs_X2_isLess_0 hd)) (sn_leaf (j := 176) (b := b) (i := 1) (f := qp_X2_isLess) (qs_X2_isLess_1 hd))
theorem tqm_X2_isLess_r {df : qe_Df} {L : Nat} {E : qe_E} (hd : qe_dok E.2.2.2 df) (b : Nat) : qx_sn (dp := dp) (qZ E L) 176 (qp_X2_isLess b) (qm_X2_isLess_r df L b).1 := by
  unfold qm_X2_isLess_r
  exact sn_node (sn_leaf (j := 176) (b := b) (i := 2) (f := qp_X2_isLess) (qs_X2_isLess_2 hd)) (sn_leaf (j := 176) (b := b) (i := 3) (f := qp_X2_isLess) (qs_X2_isLess_3 hd))
theorem tqm_X2_isLess_ {df : qe_Df} {L : Nat} {E : qe_E} (hd : qe_dok E.2.2.2 df) (b : Nat) : qx_sn (dp := dp) (qZ E L) 176 (qp_X2_isLess b) (qm_X2_isLess_ df L b).1 := by
  unfold qm_X2_isLess_
  exact sn_node (tqm_X2_isLess_l hd b) (tqm_X2_isLess_r hd b)
theorem tqm_X2_isLess {df : qe_Df} {L : Nat} {E : qe_E} (hd : qe_dok E.2.2.2 df) (b : Nat) : qx_sn (dp := dp) (qZ E L) 176 (qp_X2_isLess b) (qm_X2_isLess df L b).1 := by
  unfold qm_X2_isLess
  exact (tqm_X2_isLess_ hd b)
theorem tqm_X2_rankOf_l {df : qe_Df} {L : Nat} {E : qe_E} (hd : qe_dok E.2.2.2 df) (b : Nat) : qx_sn (dp := dp) (qZ E L) 177 (qp_X2_rankOf b) (qm_X2_rankOf_l df L b).1 := by
  unfold qm_X2_rankOf_l
  exact sn_node (sn_leaf (j := 177) (b := b) (i := 0) (f := qp_X2_rankOf) (qs_X2_rankOf_0 hd)) (sn_leaf (j := 177) (b := b) (i := 1) (f := qp_X2_rankOf) (qs_X2_rankOf_1 hd))
theorem tqm_X2_rankOf_r {df : qe_Df} {L : Nat} {E : qe_E} (hd : qe_dok E.2.2.2 df) (b : Nat) : qx_sn (dp := dp) (qZ E L) 177 (qp_X2_rankOf b) (qm_X2_rankOf_r df L b).1 := by
  unfold qm_X2_rankOf_r
  exact sn_node (sn_leaf (j := 177) (b := b) (i := 2) (f := qp_X2_rankOf) (qs_X2_rankOf_2 hd)) (sn_leaf (j := 177) (b := b) (i := 3) (f := qp_X2_rankOf) (qs_X2_rankOf_3 hd))
theorem tqm_X2_rankOf_ {df : qe_Df} {L : Nat} {E : qe_E} (hd : qe_dok E.2.2.2 df) (b : Nat) : qx_sn (dp := dp) (qZ E L) 177 (qp_X2_rankOf b) (qm_X2_rankOf_ df L b).1 := by
  unfold qm_X2_rankOf_
  exact sn_node (tqm_X2_rankOf_l hd b) (tqm_X2_rankOf_r hd b)
theorem tqm_X2_rankOf {df : qe_Df} {L : Nat} {E : qe_E} (hd : qe_dok E.2.2.2 df) (b : Nat) : qx_sn (dp := dp) (qZ E L) 177 (qp_X2_rankOf b) (qm_X2_rankOf df L b).1 := by
  unfold qm_X2_rankOf
  exact (tqm_X2_rankOf_ hd b)
theorem tqm_X2_differences_l {df : qe_Df} {L : Nat} {E : qe_E} (hd : qe_dok E.2.2.2 df) (b : Nat) : qx_sn (dp := dp) (qZ E L) 178 (qp_X2_differences b) (qm_X2_differences_l df L b).1 := by
  unfold qm_X2_differences_l
  exact sn_node (sn_leaf (j := 178) (b := b) (i := 0) (f := qp_X2_differences) (qs_X2_differences_0 hd)) (sn_leaf (j := 178) (b := b) (i := 1) (f := qp_X2_differences) (qs_X2_differences_1 hd))
theorem tqm_X2_differences_rr {df : qe_Df} {L : Nat} {E : qe_E} (hd : qe_dok E.2.2.2 df) (b : Nat) : qx_sn (dp := dp) (qZ E L) 178 (qp_X2_differences b) (qm_X2_differences_rr df L b).1 := by
  unfold qm_X2_differences_rr
  exact sn_node (sn_leaf (j := 178) (b := b) (i := 3) (f := qp_X2_differences) (qs_X2_differences_3 hd)) (sn_leaf (j := 178) (b := b) (i := 4) (f := qp_X2_differences) (qs_X2_differences_4 hd))
theorem tqm_X2_differences_r {df : qe_Df} {L : Nat} {E : qe_E} (hd : qe_dok E.2.2.2 df) (b : Nat) : qx_sn (dp := dp) (qZ E L) 178 (qp_X2_differences b) (qm_X2_differences_r df L b).1 := by
  unfold qm_X2_differences_r
  exact sn_node (sn_leaf (j := 178) (b := b) (i := 2) (f := qp_X2_differences) (qs_X2_differences_2 hd)) (tqm_X2_differences_rr hd b)
theorem tqm_X2_differences_ {df : qe_Df} {L : Nat} {E : qe_E} (hd : qe_dok E.2.2.2 df) (b : Nat) : qx_sn (dp := dp) (qZ E L) 178 (qp_X2_differences b) (qm_X2_differences_ df L b).1 := by
  unfold qm_X2_differences_
  exact sn_node (tqm_X2_differences_l hd b) (tqm_X2_differences_r hd b)
theorem tqm_X2_differences {df : qe_Df} {L : Nat} {E : qe_E} (hd : qe_dok E.2.2.2 df) (b : Nat) : qx_sn (dp := dp) (qZ E L) 178 (qp_X2_differences b) (qm_X2_differences df L b).1 := by
  unfold qm_X2_differences
  exact (tqm_X2_differences_ hd b)
theorem tqm_X2_writeKey_r {df : qe_Df} {L : Nat} {E : qe_E} (hd : qe_dok E.2.2.2 df) (b : Nat) : qx_sn (dp := dp) (qZ E L) 181 (qp_X2_writeKey b) (qm_X2_writeKey_r df L b).1 := by
  unfold qm_X2_writeKey_r
  exact sn_node (sn_leaf (j := 181) (b := b) (i := 1) (f := qp_X2_writeKey) (qs_X2_writeKey_1 hd)) (sn_leaf (j := 181) (b := b) (i := 2) (f := qp_X2_writeKey) (qs_X2_writeKey_2 hd))
theorem tqm_X2_writeKey_ {df : qe_Df} {L : Nat} {E : qe_E} (hd : qe_dok E.2.2.2 df) (b : Nat) : qx_sn (dp := dp) (qZ E L) 181 (qp_X2_writeKey b) (qm_X2_writeKey_ df L b).1 := by
  unfold qm_X2_writeKey_
  exact sn_node (sn_leaf (j := 181) (b := b) (i := 0) (f := qp_X2_writeKey) (qs_X2_writeKey_0 hd)) (tqm_X2_writeKey_r hd b)
theorem tqm_X2_writeKey {df : qe_Df} {L : Nat} {E : qe_E} (hd : qe_dok E.2.2.2 df) (b : Nat) : qx_sn (dp := dp) (qZ E L) 181 (qp_X2_writeKey b) (qm_X2_writeKey df L b).1 := by
  unfold qm_X2_writeKey
  exact (tqm_X2_writeKey_ hd b)
theorem tqm_X3_init_ {df : qe_Df} {L : Nat} {E : qe_E} (hd : qe_dok E.2.2.2 df) (b : Nat) : qx_sn (dp := dp) (qZ E L) 182 (qp_X3_init b) (qm_X3_init_ df L b).1 := by
  unfold qm_X3_init_
  exact sn_node (sn_leaf (j := 182) (b := b) (i := 0) (f := qp_X3_init) (qs_X3_init_0 hd)) (sn_leaf (j := 182) (b := b) (i := 1) (f := qp_X3_init) (qs_X3_init_1 hd))
theorem tqm_X3_init {df : qe_Df} {L : Nat} {E : qe_E} (hd : qe_dok E.2.2.2 df) (b : Nat) : qx_sn (dp := dp) (qZ E L) 182 (qp_X3_init b) (qm_X3_init df L b).1 := by
  unfold qm_X3_init
  exact (tqm_X3_init_ hd b)
theorem tqm_X4_init {df : qe_Df} {L : Nat} {E : qe_E} (hd : qe_dok E.2.2.2 df) (b : Nat) : qx_sn (dp := dp) (qZ E L) 190 (qp_X4_init b) (qm_X4_init df L b).1 := by
  unfold qm_X4_init
  exact (sn_leaf (j := 190) (b := b) (i := 0) (f := qp_X4_init) (qs_X4_init_0 hd))
theorem tqm_X4_sort_l {df : qe_Df} {L : Nat} {E : qe_E} (hd : qe_dok E.2.2.2 df) (b : Nat) : qx_sn (dp := dp) (qZ E L) 191 (qp_X4_sort b) (qm_X4_sort_l df L b).1 := by
  unfold qm_X4_sort_l
  exact sn_node (sn_leaf (j := 191) (b := b) (i := 0) (f := qp_X4_sort) (qs_X4_sort_0 hd)) (sn_leaf (j := 191) (b := b) (i := 1) (f := qp_X4_sort) (qs_X4_sort_1 hd))
theorem tqm_X4_sort_r {df : qe_Df} {L : Nat} {E : qe_E} (hd : qe_dok E.2.2.2 df) (b : Nat) : qx_sn (dp := dp) (qZ E L) 191 (qp_X4_sort b) (qm_X4_sort_r df L b).1 := by
  unfold qm_X4_sort_r
  exact sn_node (sn_leaf (j := 191) (b := b) (i := 2) (f := qp_X4_sort) (qs_X4_sort_2 hd)) (sn_leaf (j := 191) (b := b) (i := 3) (f := qp_X4_sort) (qs_X4_sort_3 hd))
theorem tqm_X4_sort_ {df : qe_Df} {L : Nat} {E : qe_E} (hd : qe_dok E.2.2.2 df) (b : Nat) : qx_sn (dp := dp) (qZ E L) 191 (qp_X4_sort b) (qm_X4_sort_ df L b).1 := by
  unfold qm_X4_sort_
  exact sn_node (tqm_X4_sort_l hd b) (tqm_X4_sort_r hd b)
theorem tqm_X4_sort {df : qe_Df} {L : Nat} {E : qe_E} (hd : qe_dok E.2.2.2 df) (b : Nat) : qx_sn (dp := dp) (qZ E L) 191 (qp_X4_sort b) (qm_X4_sort df L b).1 := by
  unfold qm_X4_sort
  exact (tqm_X4_sort_ hd b)
theorem tqm_X5_init_r {df : qe_Df} {L : Nat} {E : qe_E} (hd : qe_dok E.2.2.2 df) (b : Nat) : qx_sn (dp := dp) (qZ E L) 192 (qp_X5_init b) (qm_X5_init_r df L b).1 := by
  unfold qm_X5_init_r
  exact sn_node (sn_leaf (j := 192) (b := b) (i := 1) (f := qp_X5_init) (qs_X5_init_1 hd)) (sn_leaf (j := 192) (b := b) (i := 2) (f := qp_X5_init) (qs_X5_init_2 hd))
theorem tqm_X5_init_ {df : qe_Df} {L : Nat} {E : qe_E} (hd : qe_dok E.2.2.2 df) (b : Nat) : qx_sn (dp := dp) (qZ E L) 192 (qp_X5_init b) (qm_X5_init_ df L b).1 := by
  unfold qm_X5_init_
  exact sn_node (sn_leaf (j := 192) (b := b) (i := 0) (f := qp_X5_init) (qs_X5_init_0 hd)) (tqm_X5_init_r hd b)
theorem tqm_X5_init {df : qe_Df} {L : Nat} {E : qe_E} (hd : qe_dok E.2.2.2 df) (b : Nat) : qx_sn (dp := dp) (qZ E L) 192 (qp_X5_init b) (qm_X5_init df L b).1 := by
  unfold qm_X5_init
  exact (tqm_X5_init_ hd b)
theorem tqm_X6_init_ {df : qe_Df} {L : Nat} {E : qe_E} (hd : qe_dok E.2.2.2 df) (b : Nat) : qx_sn (dp := dp) (qZ E L) 202 (qp_X6_init b) (qm_X6_init_ df L b).1 := by
  unfold qm_X6_init_
  exact sn_node (sn_leaf (j := 202) (b := b) (i := 0) (f := qp_X6_init) (qs_X6_init_0 hd)) (sn_leaf (j := 202) (b := b) (i := 1) (f := qp_X6_init) (qs_X6_init_1 hd))
theorem tqm_X6_init {df : qe_Df} {L : Nat} {E : qe_E} (hd : qe_dok E.2.2.2 df) (b : Nat) : qx_sn (dp := dp) (qZ E L) 202 (qp_X6_init b) (qm_X6_init df L b).1 := by
  unfold qm_X6_init
  exact (tqm_X6_init_ hd b)
theorem tqm_X6_choose_l {df : qe_Df} {L : Nat} {E : qe_E} (hd : qe_dok E.2.2.2 df) (b : Nat) : qx_sn (dp := dp) (qZ E L) 203 (qp_X6_choose b) (qm_X6_choose_l df L b).1 := by
  unfold qm_X6_choose_l
  exact sn_node (sn_leaf (j := 203) (b := b) (i := 0) (f := qp_X6_choose) (qs_X6_choose_0 hd)) (sn_leaf (j := 203) (b := b) (i := 1) (f := qp_X6_choose) (qs_X6_choose_1 hd))
theorem tqm_X6_choose_rr {df : qe_Df} {L : Nat} {E : qe_E} (hd : qe_dok E.2.2.2 df) (b : Nat) : qx_sn (dp := dp) (qZ E L) 203 (qp_X6_choose b) (qm_X6_choose_rr df L b).1 := by
  unfold qm_X6_choose_rr
  exact sn_node (sn_leaf (j := 203) (b := b) (i := 3) (f := qp_X6_choose) (qs_X6_choose_3 hd)) (sn_leaf (j := 203) (b := b) (i := 4) (f := qp_X6_choose) (qs_X6_choose_4 hd))
theorem tqm_X6_choose_r {df : qe_Df} {L : Nat} {E : qe_E} (hd : qe_dok E.2.2.2 df) (b : Nat) : qx_sn (dp := dp) (qZ E L) 203 (qp_X6_choose b) (qm_X6_choose_r df L b).1 := by
  unfold qm_X6_choose_r
  exact sn_node (sn_leaf (j := 203) (b := b) (i := 2) (f := qp_X6_choose) (qs_X6_choose_2 hd)) (tqm_X6_choose_rr hd b)
theorem tqm_X6_choose_ {df : qe_Df} {L : Nat} {E : qe_E} (hd : qe_dok E.2.2.2 df) (b : Nat) : qx_sn (dp := dp) (qZ E L) 203 (qp_X6_choose b) (qm_X6_choose_ df L b).1 := by
  unfold qm_X6_choose_
  exact sn_node (tqm_X6_choose_l hd b) (tqm_X6_choose_r hd b)
theorem tqm_X6_choose {df : qe_Df} {L : Nat} {E : qe_E} (hd : qe_dok E.2.2.2 df) (b : Nat) : qx_sn (dp := dp) (qZ E L) 203 (qp_X6_choose b) (qm_X6_choose df L b).1 := by
  unfold qm_X6_choose
  exact (tqm_X6_choose_ hd b)
theorem tqm_X6_turned_l {df : qe_Df} {L : Nat} {E : qe_E} (hd : qe_dok E.2.2.2 df) (b : Nat) : qx_sn (dp := dp) (qZ E L) 204 (qp_X6_turned b) (qm_X6_turned_l df L b).1 := by
  unfold qm_X6_turned_l
  exact sn_node (sn_leaf (j := 204) (b := b) (i := 0) (f := qp_X6_turned) (qs_X6_turned_0 hd)) (sn_leaf (j := 204) (b := b) (i := 1) (f := qp_X6_turned) (qs_X6_turned_1 hd))
theorem tqm_X6_turned_rr {df : qe_Df} {L : Nat} {E : qe_E} (hd : qe_dok E.2.2.2 df) (b : Nat) : qx_sn (dp := dp) (qZ E L) 204 (qp_X6_turned b) (qm_X6_turned_rr df L b).1 := by
  unfold qm_X6_turned_rr
  exact sn_node (sn_leaf (j := 204) (b := b) (i := 3) (f := qp_X6_turned) (qs_X6_turned_3 hd)) (sn_leaf (j := 204) (b := b) (i := 4) (f := qp_X6_turned) (qs_X6_turned_4 hd))
theorem tqm_X6_turned_r {df : qe_Df} {L : Nat} {E : qe_E} (hd : qe_dok E.2.2.2 df) (b : Nat) : qx_sn (dp := dp) (qZ E L) 204 (qp_X6_turned b) (qm_X6_turned_r df L b).1 := by
  unfold qm_X6_turned_r
  exact sn_node (sn_leaf (j := 204) (b := b) (i := 2) (f := qp_X6_turned) (qs_X6_turned_2 hd)) (tqm_X6_turned_rr hd b)
theorem tqm_X6_turned_ {df : qe_Df} {L : Nat} {E : qe_E} (hd : qe_dok E.2.2.2 df) (b : Nat) : qx_sn (dp := dp) (qZ E L) 204 (qp_X6_turned b) (qm_X6_turned_ df L b).1 := by
  unfold qm_X6_turned_
  exact sn_node (tqm_X6_turned_l hd b) (tqm_X6_turned_r hd b)
theorem tqm_X6_turned {df : qe_Df} {L : Nat} {E : qe_E} (hd : qe_dok E.2.2.2 df) (b : Nat) : qx_sn (dp := dp) (qZ E L) 204 (qp_X6_turned b) (qm_X6_turned df L b).1 := by
  unfold qm_X6_turned
  exact (tqm_X6_turned_ hd b)
theorem tqm_X6_collectPairs_lr {df : qe_Df} {L : Nat} {E : qe_E} (hd : qe_dok E.2.2.2 df) (b : Nat) : qx_sn (dp := dp) (qZ E L) 205 (qp_X6_collectPairs b) (qm_X6_collectPairs_lr df L b).1 := by
  unfold qm_X6_collectPairs_lr
  exact sn_node (sn_leaf (j := 205) (b := b) (i := 1) (f := qp_X6_collectPairs) (qs_X6_collectPairs_1 hd)) (sn_leaf (j := 205) (b := b) (i := 2) (f := qp_X6_collectPairs) (qs_X6_collectPairs_2 hd))
theorem tqm_X6_collectPairs_l {df : qe_Df} {L : Nat} {E : qe_E} (hd : qe_dok E.2.2.2 df) (b : Nat) : qx_sn (dp := dp) (qZ E L) 205 (qp_X6_collectPairs b) (qm_X6_collectPairs_l df L b).1 := by
  unfold qm_X6_collectPairs_l
  exact sn_node (sn_leaf (j := 205) (b := b) (i := 0) (f := qp_X6_collectPairs) (qs_X6_collectPairs_0 hd)) (tqm_X6_collectPairs_lr hd b)
theorem tqm_X6_collectPairs_rl {df : qe_Df} {L : Nat} {E : qe_E} (hd : qe_dok E.2.2.2 df) (b : Nat) : qx_sn (dp := dp) (qZ E L) 205 (qp_X6_collectPairs b) (qm_X6_collectPairs_rl df L b).1 := by
  unfold qm_X6_collectPairs_rl
  exact sn_node (sn_leaf (j := 205) (b := b) (i := 3) (f := qp_X6_collectPairs) (qs_X6_collectPairs_3 hd)) (sn_leaf (j := 205) (b := b) (i := 4) (f := qp_X6_collectPairs) (qs_X6_collectPairs_4 hd))
theorem tqm_X6_collectPairs_rr {df : qe_Df} {L : Nat} {E : qe_E} (hd : qe_dok E.2.2.2 df) (b : Nat) : qx_sn (dp := dp) (qZ E L) 205 (qp_X6_collectPairs b) (qm_X6_collectPairs_rr df L b).1 := by
  unfold qm_X6_collectPairs_rr
  exact sn_node (sn_leaf (j := 205) (b := b) (i := 5) (f := qp_X6_collectPairs) (qs_X6_collectPairs_5 hd)) (sn_leaf (j := 205) (b := b) (i := 6) (f := qp_X6_collectPairs) (qs_X6_collectPairs_6 hd))
theorem tqm_X6_collectPairs_r {df : qe_Df} {L : Nat} {E : qe_E} (hd : qe_dok E.2.2.2 df) (b : Nat) : qx_sn (dp := dp) (qZ E L) 205 (qp_X6_collectPairs b) (qm_X6_collectPairs_r df L b).1 := by
  unfold qm_X6_collectPairs_r
  exact sn_node (tqm_X6_collectPairs_rl hd b) (tqm_X6_collectPairs_rr hd b)
theorem tqm_X6_collectPairs_ {df : qe_Df} {L : Nat} {E : qe_E} (hd : qe_dok E.2.2.2 df) (b : Nat) : qx_sn (dp := dp) (qZ E L) 205 (qp_X6_collectPairs b) (qm_X6_collectPairs_ df L b).1 := by
  unfold qm_X6_collectPairs_
  exact sn_node (tqm_X6_collectPairs_l hd b) (tqm_X6_collectPairs_r hd b)
theorem tqm_X6_collectPairs {df : qe_Df} {L : Nat} {E : qe_E} (hd : qe_dok E.2.2.2 df) (b : Nat) : qx_sn (dp := dp) (qZ E L) 205 (qp_X6_collectPairs b) (qm_X6_collectPairs df L b).1 := by
  unfold qm_X6_collectPairs
  exact (tqm_X6_collectPairs_ hd b)
theorem tqm_X6_separates_l {df : qe_Df} {L : Nat} {E : qe_E} (hd : qe_dok E.2.2.2 df) (b : Nat) : qx_sn (dp := dp) (qZ E L) 206 (qp_X6_separates b) (qm_X6_separates_l df L b).1 := by
  unfold qm_X6_separates_l
  exact sn_node (sn_leaf (j := 206) (b := b) (i := 0) (f := qp_X6_separates) (qs_X6_separates_0 hd)) (sn_leaf (j := 206) (b := b) (i := 1) (f := qp_X6_separates) (qs_X6_separates_1 hd))
theorem tqm_X6_separates_r {df : qe_Df} {L : Nat} {E : qe_E} (hd : qe_dok E.2.2.2 df) (b : Nat) : qx_sn (dp := dp) (qZ E L) 206 (qp_X6_separates b) (qm_X6_separates_r df L b).1 := by
  unfold qm_X6_separates_r
  exact sn_node (sn_leaf (j := 206) (b := b) (i := 2) (f := qp_X6_separates) (qs_X6_separates_2 hd)) (sn_leaf (j := 206) (b := b) (i := 3) (f := qp_X6_separates) (qs_X6_separates_3 hd))
theorem tqm_X6_separates_ {df : qe_Df} {L : Nat} {E : qe_E} (hd : qe_dok E.2.2.2 df) (b : Nat) : qx_sn (dp := dp) (qZ E L) 206 (qp_X6_separates b) (qm_X6_separates_ df L b).1 := by
  unfold qm_X6_separates_
  exact sn_node (tqm_X6_separates_l hd b) (tqm_X6_separates_r hd b)
theorem tqm_X6_separates {df : qe_Df} {L : Nat} {E : qe_E} (hd : qe_dok E.2.2.2 df) (b : Nat) : qx_sn (dp := dp) (qZ E L) 206 (qp_X6_separates b) (qm_X6_separates df L b).1 := by
  unfold qm_X6_separates
  exact (tqm_X6_separates_ hd b)
theorem tqm_X6_hashOf_ll {df : qe_Df} {L : Nat} {E : qe_E} (hd : qe_dok E.2.2.2 df) (b : Nat) : qx_sn (dp := dp) (qZ E L) 207 (qp_X6_hashOf b) (qm_X6_hashOf_ll df L b).1 := by
  unfold qm_X6_hashOf_ll
  exact sn_node (sn_leaf (j := 207) (b := b) (i := 0) (f := qp_X6_hashOf) (qs_X6_hashOf_0 hd)) (sn_leaf (j := 207) (b := b) (i := 1) (f := qp_X6_hashOf) (qs_X6_hashOf_1 hd))
theorem tqm_X6_hashOf_lr {df : qe_Df} {L : Nat} {E : qe_E} (hd : qe_dok E.2.2.2 df) (b : Nat) : qx_sn (dp := dp) (qZ E L) 207 (qp_X6_hashOf b) (qm_X6_hashOf_lr df L b).1 := by
  unfold qm_X6_hashOf_lr
  exact sn_node (sn_leaf (j := 207) (b := b) (i := 2) (f := qp_X6_hashOf) (qs_X6_hashOf_2 hd)) (sn_leaf (j := 207) (b := b) (i := 3) (f := qp_X6_hashOf) (qs_X6_hashOf_3 hd))
theorem tqm_X6_hashOf_l {df : qe_Df} {L : Nat} {E : qe_E} (hd : qe_dok E.2.2.2 df) (b : Nat) : qx_sn (dp := dp) (qZ E L) 207 (qp_X6_hashOf b) (qm_X6_hashOf_l df L b).1 := by
  unfold qm_X6_hashOf_l
  exact sn_node (tqm_X6_hashOf_ll hd b) (tqm_X6_hashOf_lr hd b)
theorem tqm_X6_hashOf_rl {df : qe_Df} {L : Nat} {E : qe_E} (hd : qe_dok E.2.2.2 df) (b : Nat) : qx_sn (dp := dp) (qZ E L) 207 (qp_X6_hashOf b) (qm_X6_hashOf_rl df L b).1 := by
  unfold qm_X6_hashOf_rl
  exact sn_node (sn_leaf (j := 207) (b := b) (i := 4) (f := qp_X6_hashOf) (qs_X6_hashOf_4 hd)) (sn_leaf (j := 207) (b := b) (i := 5) (f := qp_X6_hashOf) (qs_X6_hashOf_5 hd))
theorem tqm_X6_hashOf_rr {df : qe_Df} {L : Nat} {E : qe_E} (hd : qe_dok E.2.2.2 df) (b : Nat) : qx_sn (dp := dp) (qZ E L) 207 (qp_X6_hashOf b) (qm_X6_hashOf_rr df L b).1 := by
  unfold qm_X6_hashOf_rr
  exact sn_node (sn_leaf (j := 207) (b := b) (i := 6) (f := qp_X6_hashOf) (qs_X6_hashOf_6 hd)) (sn_leaf (j := 207) (b := b) (i := 7) (f := qp_X6_hashOf) (qs_X6_hashOf_7 hd))
theorem tqm_X6_hashOf_r {df : qe_Df} {L : Nat} {E : qe_E} (hd : qe_dok E.2.2.2 df) (b : Nat) : qx_sn (dp := dp) (qZ E L) 207 (qp_X6_hashOf b) (qm_X6_hashOf_r df L b).1 := by
  unfold qm_X6_hashOf_r
  exact sn_node (tqm_X6_hashOf_rl hd b) (tqm_X6_hashOf_rr hd b)
theorem tqm_X6_hashOf_ {df : qe_Df} {L : Nat} {E : qe_E} (hd : qe_dok E.2.2.2 df) (b : Nat) : qx_sn (dp := dp) (qZ E L) 207 (qp_X6_hashOf b) (qm_X6_hashOf_ df L b).1 := by
  unfold qm_X6_hashOf_
  exact sn_node (tqm_X6_hashOf_l hd b) (tqm_X6_hashOf_r hd b)
theorem tqm_X6_hashOf {df : qe_Df} {L : Nat} {E : qe_E} (hd : qe_dok E.2.2.2 df) (b : Nat) : qx_sn (dp := dp) (qZ E L) 207 (qp_X6_hashOf b) (qm_X6_hashOf df L b).1 := by
  unfold qm_X6_hashOf
  exact (tqm_X6_hashOf_ hd b)
theorem tqm_X7_init_l {df : qe_Df} {L : Nat} {E : qe_E} (hd : qe_dok E.2.2.2 df) (b : Nat) : qx_sn (dp := dp) (qZ E L) 208 (qp_X7_init b) (qm_X7_init_l df L b).1 := by
  unfold qm_X7_init_l
  exact sn_node (sn_leaf (j := 208) (b := b) (i := 0) (f := qp_X7_init) (qs_X7_init_0 hd)) (sn_leaf (j := 208) (b := b) (i := 1) (f := qp_X7_init) (qs_X7_init_1 hd))
theorem tqm_X7_init_r {df : qe_Df} {L : Nat} {E : qe_E} (hd : qe_dok E.2.2.2 df) (b : Nat) : qx_sn (dp := dp) (qZ E L) 208 (qp_X7_init b) (qm_X7_init_r df L b).1 := by
  unfold qm_X7_init_r
  exact sn_node (sn_leaf (j := 208) (b := b) (i := 2) (f := qp_X7_init) (qs_X7_init_2 hd)) (sn_leaf (j := 208) (b := b) (i := 3) (f := qp_X7_init) (qs_X7_init_3 hd))
theorem tqm_X7_init_ {df : qe_Df} {L : Nat} {E : qe_E} (hd : qe_dok E.2.2.2 df) (b : Nat) : qx_sn (dp := dp) (qZ E L) 208 (qp_X7_init b) (qm_X7_init_ df L b).1 := by
  unfold qm_X7_init_
  exact sn_node (tqm_X7_init_l hd b) (tqm_X7_init_r hd b)
theorem tqm_X7_init {df : qe_Df} {L : Nat} {E : qe_E} (hd : qe_dok E.2.2.2 df) (b : Nat) : qx_sn (dp := dp) (qZ E L) 208 (qp_X7_init b) (qm_X7_init df L b).1 := by
  unfold qm_X7_init
  exact (tqm_X7_init_ hd b)
theorem tqm_X7_build_lr {df : qe_Df} {L : Nat} {E : qe_E} (hd : qe_dok E.2.2.2 df) (b : Nat) : qx_sn (dp := dp) (qZ E L) 209 (qp_X7_build b) (qm_X7_build_lr df L b).1 := by
  unfold qm_X7_build_lr
  exact sn_node (sn_leaf (j := 209) (b := b) (i := 1) (f := qp_X7_build) (qs_X7_build_1 hd)) (sn_leaf (j := 209) (b := b) (i := 2) (f := qp_X7_build) (qs_X7_build_2 hd))
theorem tqm_X7_build_l {df : qe_Df} {L : Nat} {E : qe_E} (hd : qe_dok E.2.2.2 df) (b : Nat) : qx_sn (dp := dp) (qZ E L) 209 (qp_X7_build b) (qm_X7_build_l df L b).1 := by
  unfold qm_X7_build_l
  exact sn_node (sn_leaf (j := 209) (b := b) (i := 0) (f := qp_X7_build) (qs_X7_build_0 hd)) (tqm_X7_build_lr hd b)
theorem tqm_X7_build_rr {df : qe_Df} {L : Nat} {E : qe_E} (hd : qe_dok E.2.2.2 df) (b : Nat) : qx_sn (dp := dp) (qZ E L) 209 (qp_X7_build b) (qm_X7_build_rr df L b).1 := by
  unfold qm_X7_build_rr
  exact sn_node (sn_leaf (j := 209) (b := b) (i := 4) (f := qp_X7_build) (qs_X7_build_4 hd)) (sn_leaf (j := 209) (b := b) (i := 5) (f := qp_X7_build) (qs_X7_build_5 hd))
theorem tqm_X7_build_r {df : qe_Df} {L : Nat} {E : qe_E} (hd : qe_dok E.2.2.2 df) (b : Nat) : qx_sn (dp := dp) (qZ E L) 209 (qp_X7_build b) (qm_X7_build_r df L b).1 := by
  unfold qm_X7_build_r
  exact sn_node (sn_leaf (j := 209) (b := b) (i := 3) (f := qp_X7_build) (qs_X7_build_3 hd)) (tqm_X7_build_rr hd b)
theorem tqm_X7_build_ {df : qe_Df} {L : Nat} {E : qe_E} (hd : qe_dok E.2.2.2 df) (b : Nat) : qx_sn (dp := dp) (qZ E L) 209 (qp_X7_build b) (qm_X7_build_ df L b).1 := by
  unfold qm_X7_build_
  exact sn_node (tqm_X7_build_l hd b) (tqm_X7_build_r hd b)
theorem tqm_X7_build {df : qe_Df} {L : Nat} {E : qe_E} (hd : qe_dok E.2.2.2 df) (b : Nat) : qx_sn (dp := dp) (qZ E L) 209 (qp_X7_build b) (qm_X7_build df L b).1 := by
  unfold qm_X7_build
  exact (tqm_X7_build_ hd b)
theorem tqm_X7_trySeed_lr {df : qe_Df} {L : Nat} {E : qe_E} (hd : qe_dok E.2.2.2 df) (b : Nat) : qx_sn (dp := dp) (qZ E L) 210 (qp_X7_trySeed b) (qm_X7_trySeed_lr df L b).1 := by
  unfold qm_X7_trySeed_lr
  exact sn_node (sn_leaf (j := 210) (b := b) (i := 1) (f := qp_X7_trySeed) (qs_X7_trySeed_1 hd)) (sn_leaf (j := 210) (b := b) (i := 2) (f := qp_X7_trySeed) (qs_X7_trySeed_2 hd))
theorem tqm_X7_trySeed_l {df : qe_Df} {L : Nat} {E : qe_E} (hd : qe_dok E.2.2.2 df) (b : Nat) : qx_sn (dp := dp) (qZ E L) 210 (qp_X7_trySeed b) (qm_X7_trySeed_l df L b).1 := by
  unfold qm_X7_trySeed_l
  exact sn_node (sn_leaf (j := 210) (b := b) (i := 0) (f := qp_X7_trySeed) (qs_X7_trySeed_0 hd)) (tqm_X7_trySeed_lr hd b)
theorem tqm_X7_trySeed_rl {df : qe_Df} {L : Nat} {E : qe_E} (hd : qe_dok E.2.2.2 df) (b : Nat) : qx_sn (dp := dp) (qZ E L) 210 (qp_X7_trySeed b) (qm_X7_trySeed_rl df L b).1 := by
  unfold qm_X7_trySeed_rl
  exact sn_node (sn_leaf (j := 210) (b := b) (i := 3) (f := qp_X7_trySeed) (qs_X7_trySeed_3 hd)) (sn_leaf (j := 210) (b := b) (i := 4) (f := qp_X7_trySeed) (qs_X7_trySeed_4 hd))
theorem tqm_X7_trySeed_rr {df : qe_Df} {L : Nat} {E : qe_E} (hd : qe_dok E.2.2.2 df) (b : Nat) : qx_sn (dp := dp) (qZ E L) 210 (qp_X7_trySeed b) (qm_X7_trySeed_rr df L b).1 := by
  unfold qm_X7_trySeed_rr
  exact sn_node (sn_leaf (j := 210) (b := b) (i := 5) (f := qp_X7_trySeed) (qs_X7_trySeed_5 hd)) (sn_leaf (j := 210) (b := b) (i := 6) (f := qp_X7_trySeed) (qs_X7_trySeed_6 hd))
theorem tqm_X7_trySeed_r {df : qe_Df} {L : Nat} {E : qe_E} (hd : qe_dok E.2.2.2 df) (b : Nat) : qx_sn (dp := dp) (qZ E L) 210 (qp_X7_trySeed b) (qm_X7_trySeed_r df L b).1 := by
  unfold qm_X7_trySeed_r
  exact sn_node (tqm_X7_trySeed_rl hd b) (tqm_X7_trySeed_rr hd b)
theorem tqm_X7_trySeed_ {df : qe_Df} {L : Nat} {E : qe_E} (hd : qe_dok E.2.2.2 df) (b : Nat) : qx_sn (dp := dp) (qZ E L) 210 (qp_X7_trySeed b) (qm_X7_trySeed_ df L b).1 := by
  unfold qm_X7_trySeed_
  exact sn_node (tqm_X7_trySeed_l hd b) (tqm_X7_trySeed_r hd b)
theorem tqm_X7_trySeed {df : qe_Df} {L : Nat} {E : qe_E} (hd : qe_dok E.2.2.2 df) (b : Nat) : qx_sn (dp := dp) (qZ E L) 210 (qp_X7_trySeed b) (qm_X7_trySeed df L b).1 := by
  unfold qm_X7_trySeed
  exact (tqm_X7_trySeed_ hd b)
theorem tqm_X7_hashKeys_ll {df : qe_Df} {L : Nat} {E : qe_E} (hd : qe_dok E.2.2.2 df) (b : Nat) : qx_sn (dp := dp) (qZ E L) 211 (qp_X7_hashKeys b) (qm_X7_hashKeys_ll df L b).1 := by
  unfold qm_X7_hashKeys_ll
  exact sn_node (sn_leaf (j := 211) (b := b) (i := 0) (f := qp_X7_hashKeys) (qs_X7_hashKeys_0 hd)) (sn_leaf (j := 211) (b := b) (i := 1) (f := qp_X7_hashKeys) (qs_X7_hashKeys_1 hd))
theorem tqm_X7_hashKeys_lrr {df : qe_Df} {L : Nat} {E : qe_E} (hd : qe_dok E.2.2.2 df) (b : Nat) : qx_sn (dp := dp) (qZ E L) 211 (qp_X7_hashKeys b) (qm_X7_hashKeys_lrr df L b).1 := by
  unfold qm_X7_hashKeys_lrr
  exact sn_node (sn_leaf (j := 211) (b := b) (i := 3) (f := qp_X7_hashKeys) (qs_X7_hashKeys_3 hd)) (sn_leaf (j := 211) (b := b) (i := 4) (f := qp_X7_hashKeys) (qs_X7_hashKeys_4 hd))
theorem tqm_X7_hashKeys_lr {df : qe_Df} {L : Nat} {E : qe_E} (hd : qe_dok E.2.2.2 df) (b : Nat) : qx_sn (dp := dp) (qZ E L) 211 (qp_X7_hashKeys b) (qm_X7_hashKeys_lr df L b).1 := by
  unfold qm_X7_hashKeys_lr
  exact sn_node (sn_leaf (j := 211) (b := b) (i := 2) (f := qp_X7_hashKeys) (qs_X7_hashKeys_2 hd)) (tqm_X7_hashKeys_lrr hd b)
theorem tqm_X7_hashKeys_l {df : qe_Df} {L : Nat} {E : qe_E} (hd : qe_dok E.2.2.2 df) (b : Nat) : qx_sn (dp := dp) (qZ E L) 211 (qp_X7_hashKeys b) (qm_X7_hashKeys_l df L b).1 := by
  unfold qm_X7_hashKeys_l
  exact sn_node (tqm_X7_hashKeys_ll hd b) (tqm_X7_hashKeys_lr hd b)
theorem tqm_X7_hashKeys_rl {df : qe_Df} {L : Nat} {E : qe_E} (hd : qe_dok E.2.2.2 df) (b : Nat) : qx_sn (dp := dp) (qZ E L) 211 (qp_X7_hashKeys b) (qm_X7_hashKeys_rl df L b).1 := by
  unfold qm_X7_hashKeys_rl
  exact sn_node (sn_leaf (j := 211) (b := b) (i := 5) (f := qp_X7_hashKeys) (qs_X7_hashKeys_5 hd)) (sn_leaf (j := 211) (b := b) (i := 6) (f := qp_X7_hashKeys) (qs_X7_hashKeys_6 hd))
theorem tqm_X7_hashKeys_rrr {df : qe_Df} {L : Nat} {E : qe_E} (hd : qe_dok E.2.2.2 df) (b : Nat) : qx_sn (dp := dp) (qZ E L) 211 (qp_X7_hashKeys b) (qm_X7_hashKeys_rrr df L b).1 := by
  unfold qm_X7_hashKeys_rrr
  exact sn_node (sn_leaf (j := 211) (b := b) (i := 8) (f := qp_X7_hashKeys) (qs_X7_hashKeys_8 hd)) (sn_leaf (j := 211) (b := b) (i := 9) (f := qp_X7_hashKeys) (qs_X7_hashKeys_9 hd))
theorem tqm_X7_hashKeys_rr {df : qe_Df} {L : Nat} {E : qe_E} (hd : qe_dok E.2.2.2 df) (b : Nat) : qx_sn (dp := dp) (qZ E L) 211 (qp_X7_hashKeys b) (qm_X7_hashKeys_rr df L b).1 := by
  unfold qm_X7_hashKeys_rr
  exact sn_node (sn_leaf (j := 211) (b := b) (i := 7) (f := qp_X7_hashKeys) (qs_X7_hashKeys_7 hd)) (tqm_X7_hashKeys_rrr hd b)
theorem tqm_X7_hashKeys_r {df : qe_Df} {L : Nat} {E : qe_E} (hd : qe_dok E.2.2.2 df) (b : Nat) : qx_sn (dp := dp) (qZ E L) 211 (qp_X7_hashKeys b) (qm_X7_hashKeys_r df L b).1 := by
  unfold qm_X7_hashKeys_r
  exact sn_node (tqm_X7_hashKeys_rl hd b) (tqm_X7_hashKeys_rr hd b)
theorem tqm_X7_hashKeys_ {df : qe_Df} {L : Nat} {E : qe_E} (hd : qe_dok E.2.2.2 df) (b : Nat) : qx_sn (dp := dp) (qZ E L) 211 (qp_X7_hashKeys b) (qm_X7_hashKeys_ df L b).1 := by
  unfold qm_X7_hashKeys_
  exact sn_node (tqm_X7_hashKeys_l hd b) (tqm_X7_hashKeys_r hd b)
theorem tqm_X7_hashKeys {df : qe_Df} {L : Nat} {E : qe_E} (hd : qe_dok E.2.2.2 df) (b : Nat) : qx_sn (dp := dp) (qZ E L) 211 (qp_X7_hashKeys b) (qm_X7_hashKeys df L b).1 := by
  unfold qm_X7_hashKeys
  exact (tqm_X7_hashKeys_ hd b)
theorem tqm_X7_place_l {df : qe_Df} {L : Nat} {E : qe_E} (hd : qe_dok E.2.2.2 df) (b : Nat) : qx_sn (dp := dp) (qZ E L) 212 (qp_X7_place b) (qm_X7_place_l df L b).1 := by
  unfold qm_X7_place_l
  exact sn_node (sn_leaf (j := 212) (b := b) (i := 0) (f := qp_X7_place) (qs_X7_place_0 hd)) (sn_leaf (j := 212) (b := b) (i := 1) (f := qp_X7_place) (qs_X7_place_1 hd))
theorem tqm_X7_place_rr {df : qe_Df} {L : Nat} {E : qe_E} (hd : qe_dok E.2.2.2 df) (b : Nat) : qx_sn (dp := dp) (qZ E L) 212 (qp_X7_place b) (qm_X7_place_rr df L b).1 := by
  unfold qm_X7_place_rr
  exact sn_node (sn_leaf (j := 212) (b := b) (i := 3) (f := qp_X7_place) (qs_X7_place_3 hd)) (sn_leaf (j := 212) (b := b) (i := 4) (f := qp_X7_place) (qs_X7_place_4 hd))
theorem tqm_X7_place_r {df : qe_Df} {L : Nat} {E : qe_E} (hd : qe_dok E.2.2.2 df) (b : Nat) : qx_sn (dp := dp) (qZ E L) 212 (qp_X7_place b) (qm_X7_place_r df L b).1 := by
  unfold qm_X7_place_r
  exact sn_node (sn_leaf (j := 212) (b := b) (i := 2) (f := qp_X7_place) (qs_X7_place_2 hd)) (tqm_X7_place_rr hd b)
theorem tqm_X7_place_ {df : qe_Df} {L : Nat} {E : qe_E} (hd : qe_dok E.2.2.2 df) (b : Nat) : qx_sn (dp := dp) (qZ E L) 212 (qp_X7_place b) (qm_X7_place_ df L b).1 := by
  unfold qm_X7_place_
  exact sn_node (tqm_X7_place_l hd b) (tqm_X7_place_r hd b)
theorem tqm_X7_place {df : qe_Df} {L : Nat} {E : qe_E} (hd : qe_dok E.2.2.2 df) (b : Nat) : qx_sn (dp := dp) (qZ E L) 212 (qp_X7_place b) (qm_X7_place df L b).1 := by
  unfold qm_X7_place
  exact (tqm_X7_place_ hd b)
theorem tqm_X7_takeSlots_lr {df : qe_Df} {L : Nat} {E : qe_E} (hd : qe_dok E.2.2.2 df) (b : Nat) : qx_sn (dp := dp) (qZ E L) 213 (qp_X7_takeSlots b) (qm_X7_takeSlots_lr df L b).1 := by
  unfold qm_X7_takeSlots_lr
  exact sn_node (sn_leaf (j := 213) (b := b) (i := 1) (f := qp_X7_takeSlots) (qs_X7_takeSlots_1 hd)) (sn_leaf (j := 213) (b := b) (i := 2) (f := qp_X7_takeSlots) (qs_X7_takeSlots_2 hd))
theorem tqm_X7_takeSlots_l {df : qe_Df} {L : Nat} {E : qe_E} (hd : qe_dok E.2.2.2 df) (b : Nat) : qx_sn (dp := dp) (qZ E L) 213 (qp_X7_takeSlots b) (qm_X7_takeSlots_l df L b).1 := by
  unfold qm_X7_takeSlots_l
  exact sn_node (sn_leaf (j := 213) (b := b) (i := 0) (f := qp_X7_takeSlots) (qs_X7_takeSlots_0 hd)) (tqm_X7_takeSlots_lr hd b)
theorem tqm_X7_takeSlots_rl {df : qe_Df} {L : Nat} {E : qe_E} (hd : qe_dok E.2.2.2 df) (b : Nat) : qx_sn (dp := dp) (qZ E L) 213 (qp_X7_takeSlots b) (qm_X7_takeSlots_rl df L b).1 := by
  unfold qm_X7_takeSlots_rl
  exact sn_node (sn_leaf (j := 213) (b := b) (i := 3) (f := qp_X7_takeSlots) (qs_X7_takeSlots_3 hd)) (sn_leaf (j := 213) (b := b) (i := 4) (f := qp_X7_takeSlots) (qs_X7_takeSlots_4 hd))
theorem tqm_X7_takeSlots_rr {df : qe_Df} {L : Nat} {E : qe_E} (hd : qe_dok E.2.2.2 df) (b : Nat) : qx_sn (dp := dp) (qZ E L) 213 (qp_X7_takeSlots b) (qm_X7_takeSlots_rr df L b).1 := by
  unfold qm_X7_takeSlots_rr
  exact sn_node (sn_leaf (j := 213) (b := b) (i := 5) (f := qp_X7_takeSlots) (qs_X7_takeSlots_5 hd)) (sn_leaf (j := 213) (b := b) (i := 6) (f := qp_X7_takeSlots) (qs_X7_takeSlots_6 hd))
theorem tqm_X7_takeSlots_r {df : qe_Df} {L : Nat} {E : qe_E} (hd : qe_dok E.2.2.2 df) (b : Nat) : qx_sn (dp := dp) (qZ E L) 213 (qp_X7_takeSlots b) (qm_X7_takeSlots_r df L b).1 := by
  unfold qm_X7_takeSlots_r
  exact sn_node (tqm_X7_takeSlots_rl hd b) (tqm_X7_takeSlots_rr hd b)
theorem tqm_X7_takeSlots_ {df : qe_Df} {L : Nat} {E : qe_E} (hd : qe_dok E.2.2.2 df) (b : Nat) : qx_sn (dp := dp) (qZ E L) 213 (qp_X7_takeSlots b) (qm_X7_takeSlots_ df L b).1 := by
  unfold qm_X7_takeSlots_
  exact sn_node (tqm_X7_takeSlots_l hd b) (tqm_X7_takeSlots_r hd b)
theorem tqm_X7_takeSlots {df : qe_Df} {L : Nat} {E : qe_E} (hd : qe_dok E.2.2.2 df) (b : Nat) : qx_sn (dp := dp) (qZ E L) 213 (qp_X7_takeSlots b) (qm_X7_takeSlots df L b).1 := by
  unfold qm_X7_takeSlots
  exact (tqm_X7_takeSlots_ hd b)
theorem tqm_X7_nameOwners_lr {df : qe_Df} {L : Nat} {E : qe_E} (hd : qe_dok E.2.2.2 df) (b : Nat) : qx_sn (dp := dp) (qZ E L) 214 (qp_X7_nameOwners b) (qm_X7_nameOwners_lr df L b).1 := by
  unfold qm_X7_nameOwners_lr
  exact sn_node (sn_leaf (j := 214) (b := b) (i := 1) (f := qp_X7_nameOwners) (qs_X7_nameOwners_1 hd)) (sn_leaf (j := 214) (b := b) (i := 2) (f := qp_X7_nameOwners) (qs_X7_nameOwners_2 hd))
theorem tqm_X7_nameOwners_l {df : qe_Df} {L : Nat} {E : qe_E} (hd : qe_dok E.2.2.2 df) (b : Nat) : qx_sn (dp := dp) (qZ E L) 214 (qp_X7_nameOwners b) (qm_X7_nameOwners_l df L b).1 := by
  unfold qm_X7_nameOwners_l
  exact sn_node (sn_leaf (j := 214) (b := b) (i := 0) (f := qp_X7_nameOwners) (qs_X7_nameOwners_0 hd)) (tqm_X7_nameOwners_lr hd b)
theorem tqm_X7_nameOwners_rl {df : qe_Df} {L : Nat} {E : qe_E} (hd : qe_dok E.2.2.2 df) (b : Nat) : qx_sn (dp := dp) (qZ E L) 214 (qp_X7_nameOwners b) (qm_X7_nameOwners_rl df L b).1 := by
  unfold qm_X7_nameOwners_rl
  exact sn_node (sn_leaf (j := 214) (b := b) (i := 3) (f := qp_X7_nameOwners) (qs_X7_nameOwners_3 hd)) (sn_leaf (j := 214) (b := b) (i := 4) (f := qp_X7_nameOwners) (qs_X7_nameOwners_4 hd))
theorem tqm_X7_nameOwners_rr {df : qe_Df} {L : Nat} {E : qe_E} (hd : qe_dok E.2.2.2 df) (b : Nat) : qx_sn (dp := dp) (qZ E L) 214 (qp_X7_nameOwners b) (qm_X7_nameOwners_rr df L b).1 := by
  unfold qm_X7_nameOwners_rr
  exact sn_node (sn_leaf (j := 214) (b := b) (i := 5) (f := qp_X7_nameOwners) (qs_X7_nameOwners_5 hd)) (sn_leaf (j := 214) (b := b) (i := 6) (f := qp_X7_nameOwners) (qs_X7_nameOwners_6 hd))
theorem tqm_X7_nameOwners_r {df : qe_Df} {L : Nat} {E : qe_E} (hd : qe_dok E.2.2.2 df) (b : Nat) : qx_sn (dp := dp) (qZ E L) 214 (qp_X7_nameOwners b) (qm_X7_nameOwners_r df L b).1 := by
  unfold qm_X7_nameOwners_r
  exact sn_node (tqm_X7_nameOwners_rl hd b) (tqm_X7_nameOwners_rr hd b)
theorem tqm_X7_nameOwners_ {df : qe_Df} {L : Nat} {E : qe_E} (hd : qe_dok E.2.2.2 df) (b : Nat) : qx_sn (dp := dp) (qZ E L) 214 (qp_X7_nameOwners b) (qm_X7_nameOwners_ df L b).1 := by
  unfold qm_X7_nameOwners_
  exact sn_node (tqm_X7_nameOwners_l hd b) (tqm_X7_nameOwners_r hd b)
theorem tqm_X7_nameOwners {df : qe_Df} {L : Nat} {E : qe_E} (hd : qe_dok E.2.2.2 df) (b : Nat) : qx_sn (dp := dp) (qZ E L) 214 (qp_X7_nameOwners b) (qm_X7_nameOwners df L b).1 := by
  unfold qm_X7_nameOwners
  exact (tqm_X7_nameOwners_ hd b)
theorem tqm_X7_slotFor_ {df : qe_Df} {L : Nat} {E : qe_E} (hd : qe_dok E.2.2.2 df) (b : Nat) : qx_sn (dp := dp) (qZ E L) 215 (qp_X7_slotFor b) (qm_X7_slotFor_ df L b).1 := by
  unfold qm_X7_slotFor_
  exact sn_node (sn_leaf (j := 215) (b := b) (i := 0) (f := qp_X7_slotFor) (qs_X7_slotFor_0 hd)) (sn_leaf (j := 215) (b := b) (i := 1) (f := qp_X7_slotFor) (qs_X7_slotFor_1 hd))
theorem tqm_X7_slotFor {df : qe_Df} {L : Nat} {E : qe_E} (hd : qe_dok E.2.2.2 df) (b : Nat) : qx_sn (dp := dp) (qZ E L) 215 (qp_X7_slotFor b) (qm_X7_slotFor df L b).1 := by
  unfold qm_X7_slotFor
  exact (tqm_X7_slotFor_ hd b)
theorem tqm_X7_bucketFor_ {df : qe_Df} {L : Nat} {E : qe_E} (hd : qe_dok E.2.2.2 df) (b : Nat) : qx_sn (dp := dp) (qZ E L) 216 (qp_X7_bucketFor b) (qm_X7_bucketFor_ df L b).1 := by
  unfold qm_X7_bucketFor_
  exact sn_node (sn_leaf (j := 216) (b := b) (i := 0) (f := qp_X7_bucketFor) (qs_X7_bucketFor_0 hd)) (sn_leaf (j := 216) (b := b) (i := 1) (f := qp_X7_bucketFor) (qs_X7_bucketFor_1 hd))
theorem tqm_X7_bucketFor {df : qe_Df} {L : Nat} {E : qe_E} (hd : qe_dok E.2.2.2 df) (b : Nat) : qx_sn (dp := dp) (qZ E L) 216 (qp_X7_bucketFor b) (qm_X7_bucketFor df L b).1 := by
  unfold qm_X7_bucketFor
  exact (tqm_X7_bucketFor_ hd b)
theorem tqm_X8_init {df : qe_Df} {L : Nat} {E : qe_E} (hd : qe_dok E.2.2.2 df) (b : Nat) : qx_sn (dp := dp) (qZ E L) 218 (qp_X8_init b) (qm_X8_init df L b).1 := by
  unfold qm_X8_init
  exact (sn_leaf (j := 218) (b := b) (i := 0) (f := qp_X8_init) (qs_X8_init_0 hd))
theorem tqm_X8_empty {df : qe_Df} {L : Nat} {E : qe_E} (hd : qe_dok E.2.2.2 df) (b : Nat) : qx_sn (dp := dp) (qZ E L) 219 (qp_X8_empty b) (qm_X8_empty df L b).1 := by
  unfold qm_X8_empty
  exact (sn_leaf (j := 219) (b := b) (i := 0) (f := qp_X8_empty) (qs_X8_empty_0 hd))
theorem tqm_X8_signAt_r {df : qe_Df} {L : Nat} {E : qe_E} (hd : qe_dok E.2.2.2 df) (b : Nat) : qx_sn (dp := dp) (qZ E L) 220 (qp_X8_signAt b) (qm_X8_signAt_r df L b).1 := by
  unfold qm_X8_signAt_r
  exact sn_node (sn_leaf (j := 220) (b := b) (i := 1) (f := qp_X8_signAt) (qs_X8_signAt_1 hd)) (sn_leaf (j := 220) (b := b) (i := 3) (f := qp_X8_signAt) (qs_X8_signAt_3 hd))
theorem tqm_X8_signAt_ {df : qe_Df} {L : Nat} {E : qe_E} (hd : qe_dok E.2.2.2 df) (b : Nat) : qx_sn (dp := dp) (qZ E L) 220 (qp_X8_signAt b) (qm_X8_signAt_ df L b).1 := by
  unfold qm_X8_signAt_
  exact sn_node (sn_leaf (j := 220) (b := b) (i := 0) (f := qp_X8_signAt) (qs_X8_signAt_0 hd)) (tqm_X8_signAt_r hd b)
theorem tqm_X8_signAt {df : qe_Df} {L : Nat} {E : qe_E} (hd : qe_dok E.2.2.2 df) (b : Nat) : qx_sn (dp := dp) (qZ E L) 220 (qp_X8_signAt b) (qm_X8_signAt df L b).1 := by
  unfold qm_X8_signAt
  exact (tqm_X8_signAt_ hd b)
theorem tqm_X8_write_r {df : qe_Df} {L : Nat} {E : qe_E} (hd : qe_dok E.2.2.2 df) (b : Nat) : qx_sn (dp := dp) (qZ E L) 221 (qp_X8_write b) (qm_X8_write_r df L b).1 := by
  unfold qm_X8_write_r
  exact sn_node (sn_leaf (j := 221) (b := b) (i := 1) (f := qp_X8_write) (qs_X8_write_1 hd)) (sn_leaf (j := 221) (b := b) (i := 2) (f := qp_X8_write) (qs_X8_write_2 hd))
theorem tqm_X8_write_ {df : qe_Df} {L : Nat} {E : qe_E} (hd : qe_dok E.2.2.2 df) (b : Nat) : qx_sn (dp := dp) (qZ E L) 221 (qp_X8_write b) (qm_X8_write_ df L b).1 := by
  unfold qm_X8_write_
  exact sn_node (sn_leaf (j := 221) (b := b) (i := 0) (f := qp_X8_write) (qs_X8_write_0 hd)) (tqm_X8_write_r hd b)
theorem tqm_X8_write {df : qe_Df} {L : Nat} {E : qe_E} (hd : qe_dok E.2.2.2 df) (b : Nat) : qx_sn (dp := dp) (qZ E L) 221 (qp_X8_write b) (qm_X8_write df L b).1 := by
  unfold qm_X8_write
  exact (tqm_X8_write_ hd b)
theorem tqm_X8_isKeySign_r {df : qe_Df} {L : Nat} {E : qe_E} (hd : qe_dok E.2.2.2 df) (b : Nat) : qx_sn (dp := dp) (qZ E L) 223 (qp_X8_isKeySign b) (qm_X8_isKeySign_r df L b).1 := by
  unfold qm_X8_isKeySign_r
  exact sn_node (sn_leaf (j := 223) (b := b) (i := 1) (f := qp_X8_isKeySign) (qs_X8_isKeySign_1 hd)) (sn_leaf (j := 223) (b := b) (i := 2) (f := qp_X8_isKeySign) (qs_X8_isKeySign_2 hd))
theorem tqm_X8_isKeySign_ {df : qe_Df} {L : Nat} {E : qe_E} (hd : qe_dok E.2.2.2 df) (b : Nat) : qx_sn (dp := dp) (qZ E L) 223 (qp_X8_isKeySign b) (qm_X8_isKeySign_ df L b).1 := by
  unfold qm_X8_isKeySign_
  exact sn_node (sn_leaf (j := 223) (b := b) (i := 0) (f := qp_X8_isKeySign) (qs_X8_isKeySign_0 hd)) (tqm_X8_isKeySign_r hd b)
theorem tqm_X8_isKeySign {df : qe_Df} {L : Nat} {E : qe_E} (hd : qe_dok E.2.2.2 df) (b : Nat) : qx_sn (dp := dp) (qZ E L) 223 (qp_X8_isKeySign b) (qm_X8_isKeySign df L b).1 := by
  unfold qm_X8_isKeySign
  exact (tqm_X8_isKeySign_ hd b)
theorem tqm_X8_isKey_l {df : qe_Df} {L : Nat} {E : qe_E} (hd : qe_dok E.2.2.2 df) (b : Nat) : qx_sn (dp := dp) (qZ E L) 224 (qp_X8_isKey b) (qm_X8_isKey_l df L b).1 := by
  unfold qm_X8_isKey_l
  exact sn_node (sn_leaf (j := 224) (b := b) (i := 0) (f := qp_X8_isKey) (qs_X8_isKey_0 hd)) (sn_leaf (j := 224) (b := b) (i := 1) (f := qp_X8_isKey) (qs_X8_isKey_1 hd))
theorem tqm_X8_isKey_rr {df : qe_Df} {L : Nat} {E : qe_E} (hd : qe_dok E.2.2.2 df) (b : Nat) : qx_sn (dp := dp) (qZ E L) 224 (qp_X8_isKey b) (qm_X8_isKey_rr df L b).1 := by
  unfold qm_X8_isKey_rr
  exact sn_node (sn_leaf (j := 224) (b := b) (i := 3) (f := qp_X8_isKey) (qs_X8_isKey_3 hd)) (sn_leaf (j := 224) (b := b) (i := 5) (f := qp_X8_isKey) (qs_X8_isKey_5 hd))
theorem tqm_X8_isKey_r {df : qe_Df} {L : Nat} {E : qe_E} (hd : qe_dok E.2.2.2 df) (b : Nat) : qx_sn (dp := dp) (qZ E L) 224 (qp_X8_isKey b) (qm_X8_isKey_r df L b).1 := by
  unfold qm_X8_isKey_r
  exact sn_node (sn_leaf (j := 224) (b := b) (i := 2) (f := qp_X8_isKey) (qs_X8_isKey_2 hd)) (tqm_X8_isKey_rr hd b)
theorem tqm_X8_isKey_ {df : qe_Df} {L : Nat} {E : qe_E} (hd : qe_dok E.2.2.2 df) (b : Nat) : qx_sn (dp := dp) (qZ E L) 224 (qp_X8_isKey b) (qm_X8_isKey_ df L b).1 := by
  unfold qm_X8_isKey_
  exact sn_node (tqm_X8_isKey_l hd b) (tqm_X8_isKey_r hd b)
theorem tqm_X8_isKey {df : qe_Df} {L : Nat} {E : qe_E} (hd : qe_dok E.2.2.2 df) (b : Nat) : qx_sn (dp := dp) (qZ E L) 224 (qp_X8_isKey b) (qm_X8_isKey df L b).1 := by
  unfold qm_X8_isKey
  exact (tqm_X8_isKey_ hd b)
theorem tqm_L_append_ {df : qe_Df} {L : Nat} {E : qe_E} (hd : qe_dok E.2.2.2 df) (b : Nat) : qx_sn (dp := dp) (qZ E L) 225 (qp_L_append b) (qm_L_append_ df L b).1 := by
  unfold qm_L_append_
  exact sn_node (sn_leaf (j := 225) (b := b) (i := 0) (f := qp_L_append) (qs_L_append_0 hd)) (sn_leaf (j := 225) (b := b) (i := 1) (f := qp_L_append) (qs_L_append_1 hd))
theorem tqm_L_append {df : qe_Df} {L : Nat} {E : qe_E} (hd : qe_dok E.2.2.2 df) (b : Nat) : qx_sn (dp := dp) (qZ E L) 225 (qp_L_append b) (qm_L_append df L b).1 := by
  unfold qm_L_append
  exact (tqm_L_append_ hd b)
theorem tqm_L_add_ {df : qe_Df} {L : Nat} {E : qe_E} (hd : qe_dok E.2.2.2 df) (b : Nat) : qx_sn (dp := dp) (qZ E L) 226 (qp_L_add b) (qm_L_add_ df L b).1 := by
  unfold qm_L_add_
  exact sn_node (sn_leaf (j := 226) (b := b) (i := 0) (f := qp_L_add) (qs_L_add_0 hd)) (sn_leaf (j := 226) (b := b) (i := 1) (f := qp_L_add) (qs_L_add_1 hd))
theorem tqm_L_add {df : qe_Df} {L : Nat} {E : qe_E} (hd : qe_dok E.2.2.2 df) (b : Nat) : qx_sn (dp := dp) (qZ E L) 226 (qp_L_add b) (qm_L_add df L b).1 := by
  unfold qm_L_add
  exact (tqm_L_add_ hd b)
theorem tqm_L_trees_ {df : qe_Df} {L : Nat} {E : qe_E} (hd : qe_dok E.2.2.2 df) (b : Nat) : qx_sn (dp := dp) (qZ E L) 242 (qp_L_trees b) (qm_L_trees_ df L b).1 := by
  unfold qm_L_trees_
  exact sn_node (sn_leaf (j := 242) (b := b) (i := 0) (f := qp_L_trees) (qs_L_trees_0 hd)) (sn_leaf (j := 242) (b := b) (i := 1) (f := qp_L_trees) (qs_L_trees_1 hd))
theorem tqm_L_trees {df : qe_Df} {L : Nat} {E : qe_E} (hd : qe_dok E.2.2.2 df) (b : Nat) : qx_sn (dp := dp) (qZ E L) 242 (qp_L_trees b) (qm_L_trees df L b).1 := by
  unfold qm_L_trees
  exact (tqm_L_trees_ hd b)
theorem tqm_L_law_ll {df : qe_Df} {L : Nat} {E : qe_E} (hd : qe_dok E.2.2.2 df) (b : Nat) : qx_sn (dp := dp) (qZ E L) 249 (qp_L_law b) (qm_L_law_ll df L b).1 := by
  unfold qm_L_law_ll
  exact sn_node (sn_leaf (j := 249) (b := b) (i := 0) (f := qp_L_law) (qs_L_law_0 hd)) (sn_leaf (j := 249) (b := b) (i := 1) (f := qp_L_law) (qs_L_law_1 hd))
theorem tqm_L_law_lrr {df : qe_Df} {L : Nat} {E : qe_E} (hd : qe_dok E.2.2.2 df) (b : Nat) : qx_sn (dp := dp) (qZ E L) 249 (qp_L_law b) (qm_L_law_lrr df L b).1 := by
  unfold qm_L_law_lrr
  exact sn_node (sn_leaf (j := 249) (b := b) (i := 3) (f := qp_L_law) (qs_L_law_3 hd)) (sn_leaf (j := 249) (b := b) (i := 5) (f := qp_L_law) (qs_L_law_5 hd))
theorem tqm_L_law_lr {df : qe_Df} {L : Nat} {E : qe_E} (hd : qe_dok E.2.2.2 df) (b : Nat) : qx_sn (dp := dp) (qZ E L) 249 (qp_L_law b) (qm_L_law_lr df L b).1 := by
  unfold qm_L_law_lr
  exact sn_node (sn_leaf (j := 249) (b := b) (i := 2) (f := qp_L_law) (qs_L_law_2 hd)) (tqm_L_law_lrr hd b)
theorem tqm_L_law_l {df : qe_Df} {L : Nat} {E : qe_E} (hd : qe_dok E.2.2.2 df) (b : Nat) : qx_sn (dp := dp) (qZ E L) 249 (qp_L_law b) (qm_L_law_l df L b).1 := by
  unfold qm_L_law_l
  exact sn_node (tqm_L_law_ll hd b) (tqm_L_law_lr hd b)
theorem tqm_L_law_rl {df : qe_Df} {L : Nat} {E : qe_E} (hd : qe_dok E.2.2.2 df) (b : Nat) : qx_sn (dp := dp) (qZ E L) 249 (qp_L_law b) (qm_L_law_rl df L b).1 := by
  unfold qm_L_law_rl
  exact sn_node (sn_leaf (j := 249) (b := b) (i := 6) (f := qp_L_law) (qs_L_law_6 hd)) (sn_leaf (j := 249) (b := b) (i := 24) (f := qp_L_law) (qs_L_law_24 hd))
theorem tqm_L_law_rrr {df : qe_Df} {L : Nat} {E : qe_E} (hd : qe_dok E.2.2.2 df) (b : Nat) : qx_sn (dp := dp) (qZ E L) 249 (qp_L_law b) (qm_L_law_rrr df L b).1 := by
  unfold qm_L_law_rrr
  exact sn_node (sn_leaf (j := 249) (b := b) (i := 35) (f := qp_L_law) (qs_L_law_35 hd)) (sn_leaf (j := 249) (b := b) (i := 36) (f := qp_L_law) (qs_L_law_36 hd))
theorem tqm_L_law_rr {df : qe_Df} {L : Nat} {E : qe_E} (hd : qe_dok E.2.2.2 df) (b : Nat) : qx_sn (dp := dp) (qZ E L) 249 (qp_L_law b) (qm_L_law_rr df L b).1 := by
  unfold qm_L_law_rr
  exact sn_node (sn_leaf (j := 249) (b := b) (i := 25) (f := qp_L_law) (qs_L_law_25 hd)) (tqm_L_law_rrr hd b)
theorem tqm_L_law_r {df : qe_Df} {L : Nat} {E : qe_E} (hd : qe_dok E.2.2.2 df) (b : Nat) : qx_sn (dp := dp) (qZ E L) 249 (qp_L_law b) (qm_L_law_r df L b).1 := by
  unfold qm_L_law_r
  exact sn_node (tqm_L_law_rl hd b) (tqm_L_law_rr hd b)
theorem tqm_L_law_ {df : qe_Df} {L : Nat} {E : qe_E} (hd : qe_dok E.2.2.2 df) (b : Nat) : qx_sn (dp := dp) (qZ E L) 249 (qp_L_law b) (qm_L_law_ df L b).1 := by
  unfold qm_L_law_
  exact sn_node (tqm_L_law_l hd b) (tqm_L_law_r hd b)
theorem tqm_L_law {df : qe_Df} {L : Nat} {E : qe_E} (hd : qe_dok E.2.2.2 df) (b : Nat) : qx_sn (dp := dp) (qZ E L) 249 (qp_L_law b) (qm_L_law df L b).1 := by
  unfold qm_L_law
  exact (tqm_L_law_ hd b)
theorem tqm_J6_bitCount_0f7a4_r {df : qe_Df} {L : Nat} {E : qe_E} (hd : qe_dok E.2.2.2 df) (b : Nat) : qx_sn (dp := dp) (qZ E L) 250 (qp_J6_bitCount_0f7a4 b) (qm_J6_bitCount_0f7a4_r df L b).1 := by
  unfold qm_J6_bitCount_0f7a4_r
  exact sn_node (sn_leaf (j := 250) (b := b) (i := 1) (f := qp_J6_bitCount_0f7a4) (qs_J6_bitCount_0f7a4_1 hd)) (sn_leaf (j := 250) (b := b) (i := 2) (f := qp_J6_bitCount_0f7a4) (qs_J6_bitCount_0f7a4_2 hd))
theorem tqm_J6_bitCount_0f7a4_ {df : qe_Df} {L : Nat} {E : qe_E} (hd : qe_dok E.2.2.2 df) (b : Nat) : qx_sn (dp := dp) (qZ E L) 250 (qp_J6_bitCount_0f7a4 b) (qm_J6_bitCount_0f7a4_ df L b).1 := by
  unfold qm_J6_bitCount_0f7a4_
  exact sn_node (sn_leaf (j := 250) (b := b) (i := 0) (f := qp_J6_bitCount_0f7a4) (qs_J6_bitCount_0f7a4_0 hd)) (tqm_J6_bitCount_0f7a4_r hd b)
theorem tqm_J6_bitCount_0f7a4 {df : qe_Df} {L : Nat} {E : qe_E} (hd : qe_dok E.2.2.2 df) (b : Nat) : qx_sn (dp := dp) (qZ E L) 250 (qp_J6_bitCount_0f7a4 b) (qm_J6_bitCount_0f7a4 df L b).1 := by
  unfold qm_J6_bitCount_0f7a4
  exact (tqm_J6_bitCount_0f7a4_ hd b)
theorem tqj_lllll {df : qe_Df} {L : Nat} {E : qe_E} (hd : qe_dok E.2.2.2 df) (j b : Nat) : qx_sn (dp := dp) (qZ E L) j (zp (qZ E L) j b) (qj_lllll df L j b).1 := by
  unfold qj_lllll
  exact sn_node (sn_leafJ (j := j) (b := b) (k := 0) (show qx_sn (qZ E L) 0 (zp (qZ E L) 0 b) (qm_X9_init df L b).1 from tqm_X9_init hd b)) (sn_leafJ (j := j) (b := b) (k := 1) (show qx_sn (qZ E L) 1 (zp (qZ E L) 1 b) (qm_X9_append df L b).1 from tqm_X9_append hd b))
theorem tqj_llllr {df : qe_Df} {L : Nat} {E : qe_E} (hd : qe_dok E.2.2.2 df) (j b : Nat) : qx_sn (dp := dp) (qZ E L) j (zp (qZ E L) j b) (qj_llllr df L j b).1 := by
  unfold qj_llllr
  exact sn_node (sn_leafJ (j := j) (b := b) (k := 3) (show qx_sn (qZ E L) 3 (zp (qZ E L) 3 b) (qm_X9_add df L b).1 from tqm_X9_add hd b)) (sn_leafJ (j := j) (b := b) (k := 21) (show qx_sn (qZ E L) 21 (zp (qZ E L) 21 b) (qm_X9_trees df L b).1 from tqm_X9_trees hd b))
theorem tqj_llll {df : qe_Df} {L : Nat} {E : qe_E} (hd : qe_dok E.2.2.2 df) (j b : Nat) : qx_sn (dp := dp) (qZ E L) j (zp (qZ E L) j b) (qj_llll df L j b).1 := by
  unfold qj_llll
  exact sn_node (tqj_lllll hd j b) (tqj_llllr hd j b)
theorem tqj_lllrl {df : qe_Df} {L : Nat} {E : qe_E} (hd : qe_dok E.2.2.2 df) (j b : Nat) : qx_sn (dp := dp) (qZ E L) j (zp (qZ E L) j b) (qj_lllrl df L j b).1 := by
  unfold qj_lllrl
  exact sn_node (sn_leafJ (j := j) (b := b) (k := 32) (show qx_sn (qZ E L) 32 (zp (qZ E L) 32 b) (qm_X9_requireBranch df L b).1 from tqm_X9_requireBranch hd b)) (sn_leafJ (j := j) (b := b) (k := 37) (show qx_sn (qZ E L) 37 (zp (qZ E L) 37 b) (qm_X9_prepare df L b).1 from tqm_X9_prepare hd b))
theorem tqj_lllrrr {df : qe_Df} {L : Nat} {E : qe_E} (hd : qe_dok E.2.2.2 df) (j b : Nat) : qx_sn (dp := dp) (qZ E L) j (zp (qZ E L) j b) (qj_lllrrr df L j b).1 := by
  unfold qj_lllrrr
  exact sn_node (sn_leafJ (j := j) (b := b) (k := 39) (show qx_sn (qZ E L) 39 (zp (qZ E L) 39 b) (qm_X9_put df L b).1 from tqm_X9_put hd b)) (sn_leafJ (j := j) (b := b) (k := 42) (show qx_sn (qZ E L) 42 (zp (qZ E L) 42 b) (qm_X9_contains df L b).1 from tqm_X9_contains hd b))
theorem tqj_lllrr {df : qe_Df} {L : Nat} {E : qe_E} (hd : qe_dok E.2.2.2 df) (j b : Nat) : qx_sn (dp := dp) (qZ E L) j (zp (qZ E L) j b) (qj_lllrr df L j b).1 := by
  unfold qj_lllrr
  exact sn_node (sn_leafJ (j := j) (b := b) (k := 38) (show qx_sn (qZ E L) 38 (zp (qZ E L) 38 b) (qm_X9_at df L b).1 from tqm_X9_at hd b)) (tqj_lllrrr hd j b)
theorem tqj_lllr {df : qe_Df} {L : Nat} {E : qe_E} (hd : qe_dok E.2.2.2 df) (j b : Nat) : qx_sn (dp := dp) (qZ E L) j (zp (qZ E L) j b) (qj_lllr df L j b).1 := by
  unfold qj_lllr
  exact sn_node (tqj_lllrl hd j b) (tqj_lllrr hd j b)
theorem tqj_lll {df : qe_Df} {L : Nat} {E : qe_E} (hd : qe_dok E.2.2.2 df) (j b : Nat) : qx_sn (dp := dp) (qZ E L) j (zp (qZ E L) j b) (qj_lll df L j b).1 := by
  unfold qj_lll
  exact sn_node (tqj_llll hd j b) (tqj_lllr hd j b)
theorem tqj_llrll {df : qe_Df} {L : Nat} {E : qe_E} (hd : qe_dok E.2.2.2 df) (j b : Nat) : qx_sn (dp := dp) (qZ E L) j (zp (qZ E L) j b) (qj_llrll df L j b).1 := by
  unfold qj_llrll
  exact sn_node (sn_leafJ (j := j) (b := b) (k := 43) (show qx_sn (qZ E L) 43 (zp (qZ E L) 43 b) (qm_X9_isLetter df L b).1 from tqm_X9_isLetter hd b)) (sn_leafJ (j := j) (b := b) (k := 47) (show qx_sn (qZ E L) 47 (zp (qZ E L) 47 b) (qm_X10_init df L b).1 from tqm_X10_init hd b))
theorem tqj_llrlrr {df : qe_Df} {L : Nat} {E : qe_E} (hd : qe_dok E.2.2.2 df) (j b : Nat) : qx_sn (dp := dp) (qZ E L) j (zp (qZ E L) j b) (qj_llrlrr df L j b).1 := by
  unfold qj_llrlrr
  exact sn_node (sn_leafJ (j := j) (b := b) (k := 51) (show qx_sn (qZ E L) 51 (zp (qZ E L) 51 b) (qm_X10_isSign df L b).1 from tqm_X10_isSign hd b)) (sn_leafJ (j := j) (b := b) (k := 52) (show qx_sn (qZ E L) 52 (zp (qZ E L) 52 b) (qm_X10_at df L b).1 from tqm_X10_at hd b))
theorem tqj_llrlr {df : qe_Df} {L : Nat} {E : qe_E} (hd : qe_dok E.2.2.2 df) (j b : Nat) : qx_sn (dp := dp) (qZ E L) j (zp (qZ E L) j b) (qj_llrlr df L j b).1 := by
  unfold qj_llrlr
  exact sn_node (sn_leafJ (j := j) (b := b) (k := 49) (show qx_sn (qZ E L) 49 (zp (qZ E L) 49 b) (qm_X10_in df L b).1 from tqm_X10_in hd b)) (tqj_llrlrr hd j b)
theorem tqj_llrl {df : qe_Df} {L : Nat} {E : qe_E} (hd : qe_dok E.2.2.2 df) (j b : Nat) : qx_sn (dp := dp) (qZ E L) j (zp (qZ E L) j b) (qj_llrl df L j b).1 := by
  unfold qj_llrl
  exact sn_node (tqj_llrll hd j b) (tqj_llrlr hd j b)
theorem tqj_llrrl {df : qe_Df} {L : Nat} {E : qe_E} (hd : qe_dok E.2.2.2 df) (j b : Nat) : qx_sn (dp := dp) (qZ E L) j (zp (qZ E L) j b) (qj_llrrl df L j b).1 := by
  unfold qj_llrrl
  exact sn_node (sn_leafJ (j := j) (b := b) (k := 53) (show qx_sn (qZ E L) 53 (zp (qZ E L) 53 b) (qm_X10_append df L b).1 from tqm_X10_append hd b)) (sn_leafJ (j := j) (b := b) (k := 55) (show qx_sn (qZ E L) 55 (zp (qZ E L) 55 b) (qm_X10_keyAt df L b).1 from tqm_X10_keyAt hd b))
theorem tqj_llrrrr {df : qe_Df} {L : Nat} {E : qe_E} (hd : qe_dok E.2.2.2 df) (j b : Nat) : qx_sn (dp := dp) (qZ E L) j (zp (qZ E L) j b) (qj_llrrrr df L j b).1 := by
  unfold qj_llrrrr
  exact sn_node (sn_leafJ (j := j) (b := b) (k := 58) (show qx_sn (qZ E L) 58 (zp (qZ E L) 58 b) (qm_X10_add df L b).1 from tqm_X10_add hd b)) (sn_leafJ (j := j) (b := b) (k := 89) (show qx_sn (qZ E L) 89 (zp (qZ E L) 89 b) (qm_X10_marked df L b).1 from tqm_X10_marked hd b))
theorem tqj_llrrr {df : qe_Df} {L : Nat} {E : qe_E} (hd : qe_dok E.2.2.2 df) (j b : Nat) : qx_sn (dp := dp) (qZ E L) j (zp (qZ E L) j b) (qj_llrrr df L j b).1 := by
  unfold qj_llrrr
  exact sn_node (sn_leafJ (j := j) (b := b) (k := 56) (show qx_sn (qZ E L) 56 (zp (qZ E L) 56 b) (qm_X10_addKey df L b).1 from tqm_X10_addKey hd b)) (tqj_llrrrr hd j b)
theorem tqj_llrr {df : qe_Df} {L : Nat} {E : qe_E} (hd : qe_dok E.2.2.2 df) (j b : Nat) : qx_sn (dp := dp) (qZ E L) j (zp (qZ E L) j b) (qj_llrr df L j b).1 := by
  unfold qj_llrr
  exact sn_node (tqj_llrrl hd j b) (tqj_llrrr hd j b)
theorem tqj_llr {df : qe_Df} {L : Nat} {E : qe_E} (hd : qe_dok E.2.2.2 df) (j b : Nat) : qx_sn (dp := dp) (qZ E L) j (zp (qZ E L) j b) (qj_llr df L j b).1 := by
  unfold qj_llr
  exact sn_node (tqj_llrl hd j b) (tqj_llrr hd j b)
theorem tqj_ll {df : qe_Df} {L : Nat} {E : qe_E} (hd : qe_dok E.2.2.2 df) (j b : Nat) : qx_sn (dp := dp) (qZ E L) j (zp (qZ E L) j b) (qj_ll df L j b).1 := by
  unfold qj_ll
  exact sn_node (tqj_lll hd j b) (tqj_llr hd j b)
theorem tqj_lrlll {df : qe_Df} {L : Nat} {E : qe_E} (hd : qe_dok E.2.2.2 df) (j b : Nat) : qx_sn (dp := dp) (qZ E L) j (zp (qZ E L) j b) (qj_lrlll df L j b).1 := by
  unfold qj_lrlll
  exact sn_node (sn_leafJ (j := j) (b := b) (k := 91) (show qx_sn (qZ E L) 91 (zp (qZ E L) 91 b) (qm_X10_positionOf df L b).1 from tqm_X10_positionOf hd b)) (sn_leafJ (j := j) (b := b) (k := 92) (show qx_sn (qZ E L) 92 (zp (qZ E L) 92 b) (qm_X10_ofLength df L b).1 from tqm_X10_ofLength hd b))
theorem tqj_lrllr {df : qe_Df} {L : Nat} {E : qe_E} (hd : qe_dok E.2.2.2 df) (j b : Nat) : qx_sn (dp := dp) (qZ E L) j (zp (qZ E L) j b) (qj_lrllr df L j b).1 := by
  unfold qj_lrllr
  exact sn_node (sn_leafJ (j := j) (b := b) (k := 93) (show qx_sn (qZ E L) 93 (zp (qZ E L) 93 b) (qm_X10_child df L b).1 from tqm_X10_child hd b)) (sn_leafJ (j := j) (b := b) (k := 95) (show qx_sn (qZ E L) 95 (zp (qZ E L) 95 b) (qm_X10_measure df L b).1 from tqm_X10_measure hd b))
theorem tqj_lrll {df : qe_Df} {L : Nat} {E : qe_E} (hd : qe_dok E.2.2.2 df) (j b : Nat) : qx_sn (dp := dp) (qZ E L) j (zp (qZ E L) j b) (qj_lrll df L j b).1 := by
  unfold qj_lrll
  exact sn_node (tqj_lrlll hd j b) (tqj_lrllr hd j b)
theorem tqj_lrlrl {df : qe_Df} {L : Nat} {E : qe_E} (hd : qe_dok E.2.2.2 df) (j b : Nat) : qx_sn (dp := dp) (qZ E L) j (zp (qZ E L) j b) (qj_lrlrl df L j b).1 := by
  unfold qj_lrlrl
  exact sn_node (sn_leafJ (j := j) (b := b) (k := 96) (show qx_sn (qZ E L) 96 (zp (qZ E L) 96 b) (qm_X10_trees df L b).1 from tqm_X10_trees hd b)) (sn_leafJ (j := j) (b := b) (k := 138) (show qx_sn (qZ E L) 138 (zp (qZ E L) 138 b) (qm_X0_init df L b).1 from tqm_X0_init hd b))
theorem tqj_lrlrrr {df : qe_Df} {L : Nat} {E : qe_E} (hd : qe_dok E.2.2.2 df) (j b : Nat) : qx_sn (dp := dp) (qZ E L) j (zp (qZ E L) j b) (qj_lrlrrr df L j b).1 := by
  unfold qj_lrlrrr
  exact sn_node (sn_leafJ (j := j) (b := b) (k := 153) (show qx_sn (qZ E L) 153 (zp (qZ E L) 153 b) (qm_X1_grow df L b).1 from tqm_X1_grow hd b)) (sn_leafJ (j := j) (b := b) (k := 154) (show qx_sn (qZ E L) 154 (zp (qZ E L) 154 b) (qm_X1_isLeaf df L b).1 from tqm_X1_isLeaf hd b))
theorem tqj_lrlrr {df : qe_Df} {L : Nat} {E : qe_E} (hd : qe_dok E.2.2.2 df) (j b : Nat) : qx_sn (dp := dp) (qZ E L) j (zp (qZ E L) j b) (qj_lrlrr df L j b).1 := by
  unfold qj_lrlrr
  exact sn_node (sn_leafJ (j := j) (b := b) (k := 152) (show qx_sn (qZ E L) 152 (zp (qZ E L) 152 b) (qm_X1_init df L b).1 from tqm_X1_init hd b)) (tqj_lrlrrr hd j b)
theorem tqj_lrlr {df : qe_Df} {L : Nat} {E : qe_E} (hd : qe_dok E.2.2.2 df) (j b : Nat) : qx_sn (dp := dp) (qZ E L) j (zp (qZ E L) j b) (qj_lrlr df L j b).1 := by
  unfold qj_lrlr
  exact sn_node (tqj_lrlrl hd j b) (tqj_lrlrr hd j b)
theorem tqj_lrl {df : qe_Df} {L : Nat} {E : qe_E} (hd : qe_dok E.2.2.2 df) (j b : Nat) : qx_sn (dp := dp) (qZ E L) j (zp (qZ E L) j b) (qj_lrl df L j b).1 := by
  unfold qj_lrl
  exact sn_node (tqj_lrll hd j b) (tqj_lrlr hd j b)
theorem tqj_lrrll {df : qe_Df} {L : Nat} {E : qe_E} (hd : qe_dok E.2.2.2 df) (j b : Nat) : qx_sn (dp := dp) (qZ E L) j (zp (qZ E L) j b) (qj_lrrll df L j b).1 := by
  unfold qj_lrrll
  exact sn_node (sn_leafJ (j := j) (b := b) (k := 155) (show qx_sn (qZ E L) 155 (zp (qZ E L) 155 b) (qm_X1_keyOf df L b).1 from tqm_X1_keyOf hd b)) (sn_leafJ (j := j) (b := b) (k := 159) (show qx_sn (qZ E L) 159 (zp (qZ E L) 159 b) (qm_X1_plant df L b).1 from tqm_X1_plant hd b))
theorem tqj_lrrlrr {df : qe_Df} {L : Nat} {E : qe_E} (hd : qe_dok E.2.2.2 df) (j b : Nat) : qx_sn (dp := dp) (qZ E L) j (zp (qZ E L) j b) (qj_lrrlrr df L j b).1 := by
  unfold qj_lrrlrr
  exact sn_node (sn_leafJ (j := j) (b := b) (k := 161) (show qx_sn (qZ E L) 161 (zp (qZ E L) 161 b) (qm_X1_split df L b).1 from tqm_X1_split hd b)) (sn_leafJ (j := j) (b := b) (k := 162) (show qx_sn (qZ E L) 162 (zp (qZ E L) 162 b) (qm_X1_choosePosition df L b).1 from tqm_X1_choosePosition hd b))
theorem tqj_lrrlr {df : qe_Df} {L : Nat} {E : qe_E} (hd : qe_dok E.2.2.2 df) (j b : Nat) : qx_sn (dp := dp) (qZ E L) j (zp (qZ E L) j b) (qj_lrrlr df L j b).1 := by
  unfold qj_lrrlr
  exact sn_node (sn_leafJ (j := j) (b := b) (k := 160) (show qx_sn (qZ E L) 160 (zp (qZ E L) 160 b) (qm_X1_plantRoots df L b).1 from tqm_X1_plantRoots hd b)) (tqj_lrrlrr hd j b)
theorem tqj_lrrl {df : qe_Df} {L : Nat} {E : qe_E} (hd : qe_dok E.2.2.2 df) (j b : Nat) : qx_sn (dp := dp) (qZ E L) j (zp (qZ E L) j b) (qj_lrrl df L j b).1 := by
  unfold qj_lrrl
  exact sn_node (tqj_lrrll hd j b) (tqj_lrrlr hd j b)
theorem tqj_lrrrl {df : qe_Df} {L : Nat} {E : qe_E} (hd : qe_dok E.2.2.2 df) (j b : Nat) : qx_sn (dp := dp) (qZ E L) j (zp (qZ E L) j b) (qj_lrrrl df L j b).1 := by
  unfold qj_lrrrl
  exact sn_node (sn_leafJ (j := j) (b := b) (k := 163) (show qx_sn (qZ E L) 163 (zp (qZ E L) 163 b) (qm_X1_penaltyOf df L b).1 from tqm_X1_penaltyOf hd b)) (sn_leafJ (j := j) (b := b) (k := 164) (show qx_sn (qZ E L) 164 (zp (qZ E L) 164 b) (qm_X1_sortMembers df L b).1 from tqm_X1_sortMembers hd b))
theorem tqj_lrrrrr {df : qe_Df} {L : Nat} {E : qe_E} (hd : qe_dok E.2.2.2 df) (j b : Nat) : qx_sn (dp := dp) (qZ E L) j (zp (qZ E L) j b) (qj_lrrrrr df L j b).1 := by
  unfold qj_lrrrrr
  exact sn_node (sn_leafJ (j := j) (b := b) (k := 167) (show qx_sn (qZ E L) 167 (zp (qZ E L) 167 b) (qm_X2_lengthOf df L b).1 from tqm_X2_lengthOf hd b)) (sn_leafJ (j := j) (b := b) (k := 168) (show qx_sn (qZ E L) 168 (zp (qZ E L) 168 b) (qm_X2_letterAt df L b).1 from tqm_X2_letterAt hd b))
theorem tqj_lrrrr {df : qe_Df} {L : Nat} {E : qe_E} (hd : qe_dok E.2.2.2 df) (j b : Nat) : qx_sn (dp := dp) (qZ E L) j (zp (qZ E L) j b) (qj_lrrrr df L j b).1 := by
  unfold qj_lrrrr
  exact sn_node (sn_leafJ (j := j) (b := b) (k := 165) (show qx_sn (qZ E L) 165 (zp (qZ E L) 165 b) (qm_X2_init df L b).1 from tqm_X2_init hd b)) (tqj_lrrrrr hd j b)
theorem tqj_lrrr {df : qe_Df} {L : Nat} {E : qe_E} (hd : qe_dok E.2.2.2 df) (j b : Nat) : qx_sn (dp := dp) (qZ E L) j (zp (qZ E L) j b) (qj_lrrr df L j b).1 := by
  unfold qj_lrrr
  exact sn_node (tqj_lrrrl hd j b) (tqj_lrrrr hd j b)
theorem tqj_lrr {df : qe_Df} {L : Nat} {E : qe_E} (hd : qe_dok E.2.2.2 df) (j b : Nat) : qx_sn (dp := dp) (qZ E L) j (zp (qZ E L) j b) (qj_lrr df L j b).1 := by
  unfold qj_lrr
  exact sn_node (tqj_lrrl hd j b) (tqj_lrrr hd j b)
theorem tqj_lr {df : qe_Df} {L : Nat} {E : qe_E} (hd : qe_dok E.2.2.2 df) (j b : Nat) : qx_sn (dp := dp) (qZ E L) j (zp (qZ E L) j b) (qj_lr df L j b).1 := by
  unfold qj_lr
  exact sn_node (tqj_lrl hd j b) (tqj_lrr hd j b)
theorem tqj_l {df : qe_Df} {L : Nat} {E : qe_E} (hd : qe_dok E.2.2.2 df) (j b : Nat) : qx_sn (dp := dp) (qZ E L) j (zp (qZ E L) j b) (qj_l df L j b).1 := by
  unfold qj_l
  exact sn_node (tqj_ll hd j b) (tqj_lr hd j b)
theorem tqj_rllll {df : qe_Df} {L : Nat} {E : qe_E} (hd : qe_dok E.2.2.2 df) (j b : Nat) : qx_sn (dp := dp) (qZ E L) j (zp (qZ E L) j b) (qj_rllll df L j b).1 := by
  unfold qj_rllll
  exact sn_node (sn_leafJ (j := j) (b := b) (k := 169) (show qx_sn (qZ E L) 169 (zp (qZ E L) 169 b) (qm_X2_numberOf df L b).1 from tqm_X2_numberOf hd b)) (sn_leafJ (j := j) (b := b) (k := 170) (show qx_sn (qZ E L) 170 (zp (qZ E L) 170 b) (qm_X2_beginsAt df L b).1 from tqm_X2_beginsAt hd b))
theorem tqj_rlllr {df : qe_Df} {L : Nat} {E : qe_E} (hd : qe_dok E.2.2.2 df) (j b : Nat) : qx_sn (dp := dp) (qZ E L) j (zp (qZ E L) j b) (qj_rlllr df L j b).1 := by
  unfold qj_rlllr
  exact sn_node (sn_leafJ (j := j) (b := b) (k := 171) (show qx_sn (qZ E L) 171 (zp (qZ E L) 171 b) (qm_X2_insert df L b).1 from tqm_X2_insert hd b)) (sn_leafJ (j := j) (b := b) (k := 175) (show qx_sn (qZ E L) 175 (zp (qZ E L) 175 b) (qm_X2_firstDifference df L b).1 from tqm_X2_firstDifference hd b))
theorem tqj_rlll {df : qe_Df} {L : Nat} {E : qe_E} (hd : qe_dok E.2.2.2 df) (j b : Nat) : qx_sn (dp := dp) (qZ E L) j (zp (qZ E L) j b) (qj_rlll df L j b).1 := by
  unfold qj_rlll
  exact sn_node (tqj_rllll hd j b) (tqj_rlllr hd j b)
theorem tqj_rllrl {df : qe_Df} {L : Nat} {E : qe_E} (hd : qe_dok E.2.2.2 df) (j b : Nat) : qx_sn (dp := dp) (qZ E L) j (zp (qZ E L) j b) (qj_rllrl df L j b).1 := by
  unfold qj_rllrl
  exact sn_node (sn_leafJ (j := j) (b := b) (k := 176) (show qx_sn (qZ E L) 176 (zp (qZ E L) 176 b) (qm_X2_isLess df L b).1 from tqm_X2_isLess hd b)) (sn_leafJ (j := j) (b := b) (k := 177) (show qx_sn (qZ E L) 177 (zp (qZ E L) 177 b) (qm_X2_rankOf df L b).1 from tqm_X2_rankOf hd b))
theorem tqj_rllrrr {df : qe_Df} {L : Nat} {E : qe_E} (hd : qe_dok E.2.2.2 df) (j b : Nat) : qx_sn (dp := dp) (qZ E L) j (zp (qZ E L) j b) (qj_rllrrr df L j b).1 := by
  unfold qj_rllrrr
  exact sn_node (sn_leafJ (j := j) (b := b) (k := 181) (show qx_sn (qZ E L) 181 (zp (qZ E L) 181 b) (qm_X2_writeKey df L b).1 from tqm_X2_writeKey hd b)) (sn_leafJ (j := j) (b := b) (k := 182) (show qx_sn (qZ E L) 182 (zp (qZ E L) 182 b) (qm_X3_init df L b).1 from tqm_X3_init hd b))
theorem tqj_rllrr {df : qe_Df} {L : Nat} {E : qe_E} (hd : qe_dok E.2.2.2 df) (j b : Nat) : qx_sn (dp := dp) (qZ E L) j (zp (qZ E L) j b) (qj_rllrr df L j b).1 := by
  unfold qj_rllrr
  exact sn_node (sn_leafJ (j := j) (b := b) (k := 178) (show qx_sn (qZ E L) 178 (zp (qZ E L) 178 b) (qm_X2_differences df L b).1 from tqm_X2_differences hd b)) (tqj_rllrrr hd j b)
theorem tqj_rllr {df : qe_Df} {L : Nat} {E : qe_E} (hd : qe_dok E.2.2.2 df) (j b : Nat) : qx_sn (dp := dp) (qZ E L) j (zp (qZ E L) j b) (qj_rllr df L j b).1 := by
  unfold qj_rllr
  exact sn_node (tqj_rllrl hd j b) (tqj_rllrr hd j b)
theorem tqj_rll {df : qe_Df} {L : Nat} {E : qe_E} (hd : qe_dok E.2.2.2 df) (j b : Nat) : qx_sn (dp := dp) (qZ E L) j (zp (qZ E L) j b) (qj_rll df L j b).1 := by
  unfold qj_rll
  exact sn_node (tqj_rlll hd j b) (tqj_rllr hd j b)
theorem tqj_rlrll {df : qe_Df} {L : Nat} {E : qe_E} (hd : qe_dok E.2.2.2 df) (j b : Nat) : qx_sn (dp := dp) (qZ E L) j (zp (qZ E L) j b) (qj_rlrll df L j b).1 := by
  unfold qj_rlrll
  exact sn_node (sn_leafJ (j := j) (b := b) (k := 190) (show qx_sn (qZ E L) 190 (zp (qZ E L) 190 b) (qm_X4_init df L b).1 from tqm_X4_init hd b)) (sn_leafJ (j := j) (b := b) (k := 191) (show qx_sn (qZ E L) 191 (zp (qZ E L) 191 b) (qm_X4_sort df L b).1 from tqm_X4_sort hd b))
theorem tqj_rlrlrr {df : qe_Df} {L : Nat} {E : qe_E} (hd : qe_dok E.2.2.2 df) (j b : Nat) : qx_sn (dp := dp) (qZ E L) j (zp (qZ E L) j b) (qj_rlrlrr df L j b).1 := by
  unfold qj_rlrlrr
  exact sn_node (sn_leafJ (j := j) (b := b) (k := 202) (show qx_sn (qZ E L) 202 (zp (qZ E L) 202 b) (qm_X6_init df L b).1 from tqm_X6_init hd b)) (sn_leafJ (j := j) (b := b) (k := 203) (show qx_sn (qZ E L) 203 (zp (qZ E L) 203 b) (qm_X6_choose df L b).1 from tqm_X6_choose hd b))
theorem tqj_rlrlr {df : qe_Df} {L : Nat} {E : qe_E} (hd : qe_dok E.2.2.2 df) (j b : Nat) : qx_sn (dp := dp) (qZ E L) j (zp (qZ E L) j b) (qj_rlrlr df L j b).1 := by
  unfold qj_rlrlr
  exact sn_node (sn_leafJ (j := j) (b := b) (k := 192) (show qx_sn (qZ E L) 192 (zp (qZ E L) 192 b) (qm_X5_init df L b).1 from tqm_X5_init hd b)) (tqj_rlrlrr hd j b)
theorem tqj_rlrl {df : qe_Df} {L : Nat} {E : qe_E} (hd : qe_dok E.2.2.2 df) (j b : Nat) : qx_sn (dp := dp) (qZ E L) j (zp (qZ E L) j b) (qj_rlrl df L j b).1 := by
  unfold qj_rlrl
  exact sn_node (tqj_rlrll hd j b) (tqj_rlrlr hd j b)
theorem tqj_rlrrl {df : qe_Df} {L : Nat} {E : qe_E} (hd : qe_dok E.2.2.2 df) (j b : Nat) : qx_sn (dp := dp) (qZ E L) j (zp (qZ E L) j b) (qj_rlrrl df L j b).1 := by
  unfold qj_rlrrl
  exact sn_node (sn_leafJ (j := j) (b := b) (k := 204) (show qx_sn (qZ E L) 204 (zp (qZ E L) 204 b) (qm_X6_turned df L b).1 from tqm_X6_turned hd b)) (sn_leafJ (j := j) (b := b) (k := 205) (show qx_sn (qZ E L) 205 (zp (qZ E L) 205 b) (qm_X6_collectPairs df L b).1 from tqm_X6_collectPairs hd b))
theorem tqj_rlrrrr {df : qe_Df} {L : Nat} {E : qe_E} (hd : qe_dok E.2.2.2 df) (j b : Nat) : qx_sn (dp := dp) (qZ E L) j (zp (qZ E L) j b) (qj_rlrrrr df L j b).1 := by
  unfold qj_rlrrrr
  exact sn_node (sn_leafJ (j := j) (b := b) (k := 207) (show qx_sn (qZ E L) 207 (zp (qZ E L) 207 b) (qm_X6_hashOf df L b).1 from tqm_X6_hashOf hd b)) (sn_leafJ (j := j) (b := b) (k := 208) (show qx_sn (qZ E L) 208 (zp (qZ E L) 208 b) (qm_X7_init df L b).1 from tqm_X7_init hd b))
theorem tqj_rlrrr {df : qe_Df} {L : Nat} {E : qe_E} (hd : qe_dok E.2.2.2 df) (j b : Nat) : qx_sn (dp := dp) (qZ E L) j (zp (qZ E L) j b) (qj_rlrrr df L j b).1 := by
  unfold qj_rlrrr
  exact sn_node (sn_leafJ (j := j) (b := b) (k := 206) (show qx_sn (qZ E L) 206 (zp (qZ E L) 206 b) (qm_X6_separates df L b).1 from tqm_X6_separates hd b)) (tqj_rlrrrr hd j b)
theorem tqj_rlrr {df : qe_Df} {L : Nat} {E : qe_E} (hd : qe_dok E.2.2.2 df) (j b : Nat) : qx_sn (dp := dp) (qZ E L) j (zp (qZ E L) j b) (qj_rlrr df L j b).1 := by
  unfold qj_rlrr
  exact sn_node (tqj_rlrrl hd j b) (tqj_rlrrr hd j b)
theorem tqj_rlr {df : qe_Df} {L : Nat} {E : qe_E} (hd : qe_dok E.2.2.2 df) (j b : Nat) : qx_sn (dp := dp) (qZ E L) j (zp (qZ E L) j b) (qj_rlr df L j b).1 := by
  unfold qj_rlr
  exact sn_node (tqj_rlrl hd j b) (tqj_rlrr hd j b)
theorem tqj_rl {df : qe_Df} {L : Nat} {E : qe_E} (hd : qe_dok E.2.2.2 df) (j b : Nat) : qx_sn (dp := dp) (qZ E L) j (zp (qZ E L) j b) (qj_rl df L j b).1 := by
  unfold qj_rl
  exact sn_node (tqj_rll hd j b) (tqj_rlr hd j b)
theorem tqj_rrlll {df : qe_Df} {L : Nat} {E : qe_E} (hd : qe_dok E.2.2.2 df) (j b : Nat) : qx_sn (dp := dp) (qZ E L) j (zp (qZ E L) j b) (qj_rrlll df L j b).1 := by
  unfold qj_rrlll
  exact sn_node (sn_leafJ (j := j) (b := b) (k := 209) (show qx_sn (qZ E L) 209 (zp (qZ E L) 209 b) (qm_X7_build df L b).1 from tqm_X7_build hd b)) (sn_leafJ (j := j) (b := b) (k := 210) (show qx_sn (qZ E L) 210 (zp (qZ E L) 210 b) (qm_X7_trySeed df L b).1 from tqm_X7_trySeed hd b))
theorem tqj_rrllr {df : qe_Df} {L : Nat} {E : qe_E} (hd : qe_dok E.2.2.2 df) (j b : Nat) : qx_sn (dp := dp) (qZ E L) j (zp (qZ E L) j b) (qj_rrllr df L j b).1 := by
  unfold qj_rrllr
  exact sn_node (sn_leafJ (j := j) (b := b) (k := 211) (show qx_sn (qZ E L) 211 (zp (qZ E L) 211 b) (qm_X7_hashKeys df L b).1 from tqm_X7_hashKeys hd b)) (sn_leafJ (j := j) (b := b) (k := 212) (show qx_sn (qZ E L) 212 (zp (qZ E L) 212 b) (qm_X7_place df L b).1 from tqm_X7_place hd b))
theorem tqj_rrll {df : qe_Df} {L : Nat} {E : qe_E} (hd : qe_dok E.2.2.2 df) (j b : Nat) : qx_sn (dp := dp) (qZ E L) j (zp (qZ E L) j b) (qj_rrll df L j b).1 := by
  unfold qj_rrll
  exact sn_node (tqj_rrlll hd j b) (tqj_rrllr hd j b)
theorem tqj_rrlrl {df : qe_Df} {L : Nat} {E : qe_E} (hd : qe_dok E.2.2.2 df) (j b : Nat) : qx_sn (dp := dp) (qZ E L) j (zp (qZ E L) j b) (qj_rrlrl df L j b).1 := by
  unfold qj_rrlrl
  exact sn_node (sn_leafJ (j := j) (b := b) (k := 213) (show qx_sn (qZ E L) 213 (zp (qZ E L) 213 b) (qm_X7_takeSlots df L b).1 from tqm_X7_takeSlots hd b)) (sn_leafJ (j := j) (b := b) (k := 214) (show qx_sn (qZ E L) 214 (zp (qZ E L) 214 b) (qm_X7_nameOwners df L b).1 from tqm_X7_nameOwners hd b))
theorem tqj_rrlrrr {df : qe_Df} {L : Nat} {E : qe_E} (hd : qe_dok E.2.2.2 df) (j b : Nat) : qx_sn (dp := dp) (qZ E L) j (zp (qZ E L) j b) (qj_rrlrrr df L j b).1 := by
  unfold qj_rrlrrr
  exact sn_node (sn_leafJ (j := j) (b := b) (k := 216) (show qx_sn (qZ E L) 216 (zp (qZ E L) 216 b) (qm_X7_bucketFor df L b).1 from tqm_X7_bucketFor hd b)) (sn_leafJ (j := j) (b := b) (k := 218) (show qx_sn (qZ E L) 218 (zp (qZ E L) 218 b) (qm_X8_init df L b).1 from tqm_X8_init hd b))
theorem tqj_rrlrr {df : qe_Df} {L : Nat} {E : qe_E} (hd : qe_dok E.2.2.2 df) (j b : Nat) : qx_sn (dp := dp) (qZ E L) j (zp (qZ E L) j b) (qj_rrlrr df L j b).1 := by
  unfold qj_rrlrr
  exact sn_node (sn_leafJ (j := j) (b := b) (k := 215) (show qx_sn (qZ E L) 215 (zp (qZ E L) 215 b) (qm_X7_slotFor df L b).1 from tqm_X7_slotFor hd b)) (tqj_rrlrrr hd j b)
theorem tqj_rrlr {df : qe_Df} {L : Nat} {E : qe_E} (hd : qe_dok E.2.2.2 df) (j b : Nat) : qx_sn (dp := dp) (qZ E L) j (zp (qZ E L) j b) (qj_rrlr df L j b).1 := by
  unfold qj_rrlr
  exact sn_node (tqj_rrlrl hd j b) (tqj_rrlrr hd j b)
theorem tqj_rrl {df : qe_Df} {L : Nat} {E : qe_E} (hd : qe_dok E.2.2.2 df) (j b : Nat) : qx_sn (dp := dp) (qZ E L) j (zp (qZ E L) j b) (qj_rrl df L j b).1 := by
  unfold qj_rrl
  exact sn_node (tqj_rrll hd j b) (tqj_rrlr hd j b)
theorem tqj_rrrll {df : qe_Df} {L : Nat} {E : qe_E} (hd : qe_dok E.2.2.2 df) (j b : Nat) : qx_sn (dp := dp) (qZ E L) j (zp (qZ E L) j b) (qj_rrrll df L j b).1 := by
  unfold qj_rrrll
  exact sn_node (sn_leafJ (j := j) (b := b) (k := 219) (show qx_sn (qZ E L) 219 (zp (qZ E L) 219 b) (qm_X8_empty df L b).1 from tqm_X8_empty hd b)) (sn_leafJ (j := j) (b := b) (k := 220) (show qx_sn (qZ E L) 220 (zp (qZ E L) 220 b) (qm_X8_signAt df L b).1 from tqm_X8_signAt hd b))
theorem tqj_rrrlrr {df : qe_Df} {L : Nat} {E : qe_E} (hd : qe_dok E.2.2.2 df) (j b : Nat) : qx_sn (dp := dp) (qZ E L) j (zp (qZ E L) j b) (qj_rrrlrr df L j b).1 := by
  unfold qj_rrrlrr
  exact sn_node (sn_leafJ (j := j) (b := b) (k := 223) (show qx_sn (qZ E L) 223 (zp (qZ E L) 223 b) (qm_X8_isKeySign df L b).1 from tqm_X8_isKeySign hd b)) (sn_leafJ (j := j) (b := b) (k := 224) (show qx_sn (qZ E L) 224 (zp (qZ E L) 224 b) (qm_X8_isKey df L b).1 from tqm_X8_isKey hd b))
theorem tqj_rrrlr {df : qe_Df} {L : Nat} {E : qe_E} (hd : qe_dok E.2.2.2 df) (j b : Nat) : qx_sn (dp := dp) (qZ E L) j (zp (qZ E L) j b) (qj_rrrlr df L j b).1 := by
  unfold qj_rrrlr
  exact sn_node (sn_leafJ (j := j) (b := b) (k := 221) (show qx_sn (qZ E L) 221 (zp (qZ E L) 221 b) (qm_X8_write df L b).1 from tqm_X8_write hd b)) (tqj_rrrlrr hd j b)
theorem tqj_rrrl {df : qe_Df} {L : Nat} {E : qe_E} (hd : qe_dok E.2.2.2 df) (j b : Nat) : qx_sn (dp := dp) (qZ E L) j (zp (qZ E L) j b) (qj_rrrl df L j b).1 := by
  unfold qj_rrrl
  exact sn_node (tqj_rrrll hd j b) (tqj_rrrlr hd j b)
theorem tqj_rrrrl {df : qe_Df} {L : Nat} {E : qe_E} (hd : qe_dok E.2.2.2 df) (j b : Nat) : qx_sn (dp := dp) (qZ E L) j (zp (qZ E L) j b) (qj_rrrrl df L j b).1 := by
  unfold qj_rrrrl
  exact sn_node (sn_leafJ (j := j) (b := b) (k := 225) (show qx_sn (qZ E L) 225 (zp (qZ E L) 225 b) (qm_L_append df L b).1 from tqm_L_append hd b)) (sn_leafJ (j := j) (b := b) (k := 226) (show qx_sn (qZ E L) 226 (zp (qZ E L) 226 b) (qm_L_add df L b).1 from tqm_L_add hd b))
theorem tqj_rrrrrr {df : qe_Df} {L : Nat} {E : qe_E} (hd : qe_dok E.2.2.2 df) (j b : Nat) : qx_sn (dp := dp) (qZ E L) j (zp (qZ E L) j b) (qj_rrrrrr df L j b).1 := by
  unfold qj_rrrrrr
  exact sn_node (sn_leafJ (j := j) (b := b) (k := 249) (show qx_sn (qZ E L) 249 (zp (qZ E L) 249 b) (qm_L_law df L b).1 from tqm_L_law hd b)) (sn_leafJ (j := j) (b := b) (k := 250) (show qx_sn (qZ E L) 250 (zp (qZ E L) 250 b) (qm_J6_bitCount_0f7a4 df L b).1 from tqm_J6_bitCount_0f7a4 hd b))
theorem tqj_rrrrr {df : qe_Df} {L : Nat} {E : qe_E} (hd : qe_dok E.2.2.2 df) (j b : Nat) : qx_sn (dp := dp) (qZ E L) j (zp (qZ E L) j b) (qj_rrrrr df L j b).1 := by
  unfold qj_rrrrr
  exact sn_node (sn_leafJ (j := j) (b := b) (k := 242) (show qx_sn (qZ E L) 242 (zp (qZ E L) 242 b) (qm_L_trees df L b).1 from tqm_L_trees hd b)) (tqj_rrrrrr hd j b)
theorem tqj_rrrr {df : qe_Df} {L : Nat} {E : qe_E} (hd : qe_dok E.2.2.2 df) (j b : Nat) : qx_sn (dp := dp) (qZ E L) j (zp (qZ E L) j b) (qj_rrrr df L j b).1 := by
  unfold qj_rrrr
  exact sn_node (tqj_rrrrl hd j b) (tqj_rrrrr hd j b)
theorem tqj_rrr {df : qe_Df} {L : Nat} {E : qe_E} (hd : qe_dok E.2.2.2 df) (j b : Nat) : qx_sn (dp := dp) (qZ E L) j (zp (qZ E L) j b) (qj_rrr df L j b).1 := by
  unfold qj_rrr
  exact sn_node (tqj_rrrl hd j b) (tqj_rrrr hd j b)
theorem tqj_rr {df : qe_Df} {L : Nat} {E : qe_E} (hd : qe_dok E.2.2.2 df) (j b : Nat) : qx_sn (dp := dp) (qZ E L) j (zp (qZ E L) j b) (qj_rr df L j b).1 := by
  unfold qj_rr
  exact sn_node (tqj_rrl hd j b) (tqj_rrr hd j b)
theorem tqj_r {df : qe_Df} {L : Nat} {E : qe_E} (hd : qe_dok E.2.2.2 df) (j b : Nat) : qx_sn (dp := dp) (qZ E L) j (zp (qZ E L) j b) (qj_r df L j b).1 := by
  unfold qj_r
  exact sn_node (tqj_rl hd j b) (tqj_rr hd j b)
theorem tqj_ {df : qe_Df} {L : Nat} {E : qe_E} (hd : qe_dok E.2.2.2 df) (j b : Nat) : qx_sn (dp := dp) (qZ E L) j (zp (qZ E L) j b) (qj_ df L j b).1 := by
  unfold qj_
  exact sn_node (tqj_l hd j b) (tqj_r hd j b)
theorem tq_P {df : qe_Df} {L : Nat} {E : qe_E} (hd : qe_dok E.2.2.2 df) (j b : Nat) : qx_sn (dp := dp) (qZ E L) j (zp (qZ E L) j b) (qd_P df L j b).1 := (tqj_ hd j b)
theorem tq_c {b m x y : Nat} (hx : x = 0) (hy : y = 0) : cond (Nat.blt b m) x y = 0 := by
  cases Nat.blt b m
  · exact hy
  · exact hx
theorem tq0_X9_init : qp_X9_init 0 = 0 := by decide +kernel
theorem tq0_X9_append : qp_X9_append 0 = 0 := by decide +kernel
theorem tq0_X9_add : qp_X9_add 0 = 0 := by decide +kernel
theorem tq0_X9_trees : qp_X9_trees 0 = 0 := by decide +kernel
theorem tq0_X9_requireBranch : qp_X9_requireBranch 0 = 0 := by decide +kernel
theorem tq0_X9_prepare : qp_X9_prepare 0 = 0 := by decide +kernel
theorem tq0_X9_at : qp_X9_at 0 = 0 := by decide +kernel
theorem tq0_X9_put : qp_X9_put 0 = 0 := by decide +kernel
theorem tq0_X9_contains : qp_X9_contains 0 = 0 := by decide +kernel
theorem tq0_X9_isLetter : qp_X9_isLetter 0 = 0 := by decide +kernel
theorem tq0_X10_init : qp_X10_init 0 = 0 := by decide +kernel
theorem tq0_X10_in : qp_X10_in 0 = 0 := by decide +kernel
theorem tq0_X10_isSign : qp_X10_isSign 0 = 0 := by decide +kernel
theorem tq0_X10_at : qp_X10_at 0 = 0 := by decide +kernel
theorem tq0_X10_append : qp_X10_append 0 = 0 := by decide +kernel
theorem tq0_X10_keyAt : qp_X10_keyAt 0 = 0 := by decide +kernel
theorem tq0_X10_addKey : qp_X10_addKey 0 = 0 := by decide +kernel
theorem tq0_X10_add : qp_X10_add 0 = 0 := by decide +kernel
theorem tq0_X10_marked : qp_X10_marked 0 = 0 := by decide +kernel
theorem tq0_X10_positionOf : qp_X10_positionOf 0 = 0 := by decide +kernel
theorem tq0_X10_ofLength : qp_X10_ofLength 0 = 0 := by decide +kernel
theorem tq0_X10_child : qp_X10_child 0 = 0 := by decide +kernel
theorem tq0_X10_measure : qp_X10_measure 0 = 0 := by decide +kernel
theorem tq0_X10_trees : qp_X10_trees 0 = 0 := by decide +kernel
theorem tq0_X0_init : qp_X0_init 0 = 0 := by decide +kernel
theorem tq0_X1_init : qp_X1_init 0 = 0 := by decide +kernel
theorem tq0_X1_grow : qp_X1_grow 0 = 0 := by decide +kernel
theorem tq0_X1_isLeaf : qp_X1_isLeaf 0 = 0 := by decide +kernel
theorem tq0_X1_keyOf : qp_X1_keyOf 0 = 0 := by decide +kernel
theorem tq0_X1_plant : qp_X1_plant 0 = 0 := by decide +kernel
theorem tq0_X1_plantRoots : qp_X1_plantRoots 0 = 0 := by decide +kernel
theorem tq0_X1_split : qp_X1_split 0 = 0 := by decide +kernel
theorem tq0_X1_choosePosition : qp_X1_choosePosition 0 = 0 := by decide +kernel
theorem tq0_X1_penaltyOf : qp_X1_penaltyOf 0 = 0 := by decide +kernel
theorem tq0_X1_sortMembers : qp_X1_sortMembers 0 = 0 := by decide +kernel
theorem tq0_X2_init : qp_X2_init 0 = 0 := by decide +kernel
theorem tq0_X2_lengthOf : qp_X2_lengthOf 0 = 0 := by decide +kernel
theorem tq0_X2_letterAt : qp_X2_letterAt 0 = 0 := by decide +kernel
theorem tq0_X2_numberOf : qp_X2_numberOf 0 = 0 := by decide +kernel
theorem tq0_X2_beginsAt : qp_X2_beginsAt 0 = 0 := by decide +kernel
theorem tq0_X2_insert : qp_X2_insert 0 = 0 := by decide +kernel
theorem tq0_X2_firstDifference : qp_X2_firstDifference 0 = 0 := by decide +kernel
theorem tq0_X2_isLess : qp_X2_isLess 0 = 0 := by decide +kernel
theorem tq0_X2_rankOf : qp_X2_rankOf 0 = 0 := by decide +kernel
theorem tq0_X2_differences : qp_X2_differences 0 = 0 := by decide +kernel
theorem tq0_X2_writeKey : qp_X2_writeKey 0 = 0 := by decide +kernel
theorem tq0_X3_init : qp_X3_init 0 = 0 := by decide +kernel
theorem tq0_X4_init : qp_X4_init 0 = 0 := by decide +kernel
theorem tq0_X4_sort : qp_X4_sort 0 = 0 := by decide +kernel
theorem tq0_X5_init : qp_X5_init 0 = 0 := by decide +kernel
theorem tq0_X6_init : qp_X6_init 0 = 0 := by decide +kernel
theorem tq0_X6_choose : qp_X6_choose 0 = 0 := by decide +kernel
theorem tq0_X6_turned : qp_X6_turned 0 = 0 := by decide +kernel
theorem tq0_X6_collectPairs : qp_X6_collectPairs 0 = 0 := by decide +kernel
theorem tq0_X6_separates : qp_X6_separates 0 = 0 := by decide +kernel
theorem tq0_X6_hashOf : qp_X6_hashOf 0 = 0 := by decide +kernel
theorem tq0_X7_init : qp_X7_init 0 = 0 := by decide +kernel
theorem tq0_X7_build : qp_X7_build 0 = 0 := by decide +kernel
theorem tq0_X7_trySeed : qp_X7_trySeed 0 = 0 := by decide +kernel
theorem tq0_X7_hashKeys : qp_X7_hashKeys 0 = 0 := by decide +kernel
theorem tq0_X7_place : qp_X7_place 0 = 0 := by decide +kernel
theorem tq0_X7_takeSlots : qp_X7_takeSlots 0 = 0 := by decide +kernel
theorem tq0_X7_nameOwners : qp_X7_nameOwners 0 = 0 := by decide +kernel
theorem tq0_X7_slotFor : qp_X7_slotFor 0 = 0 := by decide +kernel
theorem tq0_X7_bucketFor : qp_X7_bucketFor 0 = 0 := by decide +kernel
theorem tq0_X8_init : qp_X8_init 0 = 0 := by decide +kernel
theorem tq0_X8_empty : qp_X8_empty 0 = 0 := by decide +kernel
theorem tq0_X8_signAt : qp_X8_signAt 0 = 0 := by decide +kernel
theorem tq0_X8_write : qp_X8_write 0 = 0 := by decide +kernel
theorem tq0_X8_isKeySign : qp_X8_isKeySign 0 = 0 := by decide +kernel
theorem tq0_X8_isKey : qp_X8_isKey 0 = 0 := by decide +kernel
theorem tq0_L_append : qp_L_append 0 = 0 := by decide +kernel
theorem tq0_L_add : qp_L_add 0 = 0 := by decide +kernel
theorem tq0_L_trees : qp_L_trees 0 = 0 := by decide +kernel
theorem tq0_L_law : qp_L_law 0 = 0 := by decide +kernel
theorem tq0_J6_bitCount_0f7a4 : qp_J6_bitCount_0f7a4 0 = 0 := by decide +kernel
theorem tq_0 (E : qe_E) (L : Nat) (j : Nat) : zp (qZ E L) j 0 = 0 := (tq_c (tq_c (tq_c (tq_c (tq_c (tq_c tq0_X9_init tq0_X9_append) (tq_c tq0_X9_add tq0_X9_trees)) (tq_c (tq_c tq0_X9_requireBranch tq0_X9_prepare) (tq_c tq0_X9_at (tq_c tq0_X9_put tq0_X9_contains)))) (tq_c (tq_c (tq_c tq0_X9_isLetter tq0_X10_init) (tq_c tq0_X10_in (tq_c tq0_X10_isSign tq0_X10_at))) (tq_c (tq_c tq0_X10_append tq0_X10_keyAt) (tq_c tq0_X10_addKey (tq_c tq0_X10_add tq0_X10_marked))))) (tq_c (tq_c (tq_c (tq_c tq0_X10_positionOf tq0_X10_ofLength) (tq_c tq0_X10_child tq0_X10_measure)) (tq_c (tq_c tq0_X10_trees tq0_X0_init) (tq_c tq0_X1_init (tq_c tq0_X1_grow tq0_X1_isLeaf)))) (tq_c (tq_c (tq_c tq0_X1_keyOf tq0_X1_plant) (tq_c tq0_X1_plantRoots (tq_c tq0_X1_split tq0_X1_choosePosition))) (tq_c (tq_c tq0_X1_penaltyOf tq0_X1_sortMembers) (tq_c tq0_X2_init (tq_c tq0_X2_lengthOf tq0_X2_letterAt)))))) (tq_c (tq_c (tq_c (tq_c (tq_c tq0_X2_numberOf tq0_X2_beginsAt) (tq_c tq0_X2_insert tq0_X2_firstDifference)) (tq_c (tq_c tq0_X2_isLess tq0_X2_rankOf) (tq_c tq0_X2_differences (tq_c tq0_X2_writeKey tq0_X3_init)))) (tq_c (tq_c (tq_c tq0_X4_init tq0_X4_sort) (tq_c tq0_X5_init (tq_c tq0_X6_init tq0_X6_choose))) (tq_c (tq_c tq0_X6_turned tq0_X6_collectPairs) (tq_c tq0_X6_separates (tq_c tq0_X6_hashOf tq0_X7_init))))) (tq_c (tq_c (tq_c (tq_c tq0_X7_build tq0_X7_trySeed) (tq_c tq0_X7_hashKeys tq0_X7_place)) (tq_c (tq_c tq0_X7_takeSlots tq0_X7_nameOwners) (tq_c tq0_X7_slotFor (tq_c tq0_X7_bucketFor tq0_X8_init)))) (tq_c (tq_c (tq_c tq0_X8_empty tq0_X8_signAt) (tq_c tq0_X8_write (tq_c tq0_X8_isKeySign tq0_X8_isKey))) (tq_c (tq_c tq0_L_append tq0_L_add) (tq_c tq0_L_trees (tq_c tq0_L_law tq0_J6_bitCount_0f7a4)))))))
theorem tq_main {df : qe_Df} {L : Nat} {E : qe_E} (hd : qe_dok E.2.2.2 df) (fuel d j : Nat) : qx_k (dp := dp) (qZ E L) d j (qe_run (qd_P df L) fuel d j) := qx_main (tq_P hd) (tq_0 E L) fuel d j
end QER2
