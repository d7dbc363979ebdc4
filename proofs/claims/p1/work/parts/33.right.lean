/-! THE PROGRAM IS RIGHT: made by wip/engine/gen33.py -/
section QER2
variable {dp : Nat}
theorem tqm_X9_init {df : qe_Df} {L : Nat} {E : qe_E} (hd : qe_dok E.2.2.2 df) (b : Nat) : qx_sn (dp := dp) (qZ E L) 0 (qp_X9_init b) (qm_X9_init df L b).1 := by
  unfold qm_X9_init
  exact (sn_leaf (j := 0) (b := b) (i := 0) (f := qp_X9_init) (qs_X9_init_0 hd))
theorem tqm_X9_append_ll {df : qe_Df} {L : Nat} {E : qe_E} (hd : qe_dok E.2.2.2 df) (b : Nat) : qx_sn (dp := dp) (qZ E L) 1 (qp_X9_append b) (qm_X9_append_ll df L b).1 := by
  unfold qm_X9_append_ll
  exact sn_node (sn_leaf (j := 1) (b := b) (i := 0) (f := qp_X9_append) (qs_X9_append_0 hd)) (sn_leaf (j := 1) (b := b) (i := 1) (f := qp_X9_append) (qs_X9_append_1 hd))
theorem tqm_X9_append_lrr {df : qe_Df} {L : Nat} {E : qe_E} (hd : qe_dok E.2.2.2 df) (b : Nat) : qx_sn (dp := dp) (qZ E L) 1 (qp_X9_append b) (qm_X9_append_lrr df L b).1 := by
  unfold qm_X9_append_lrr
  exact sn_node (sn_leaf (j := 1) (b := b) (i := 3) (f := qp_X9_append) (qs_X9_append_3 hd)) (sn_leaf (j := 1) (b := b) (i := 4) (f := qp_X9_append) (qs_X9_append_4 hd))
theorem tqm_X9_append_lr {df : qe_Df} {L : Nat} {E : qe_E} (hd : qe_dok E.2.2.2 df) (b : Nat) : qx_sn (dp := dp) (qZ E L) 1 (qp_X9_append b) (qm_X9_append_lr df L b).1 := by
  unfold qm_X9_append_lr
  exact sn_node (sn_leaf (j := 1) (b := b) (i := 2) (f := qp_X9_append) (qs_X9_append_2 hd)) (tqm_X9_append_lrr hd b)
theorem tqm_X9_append_l {df : qe_Df} {L : Nat} {E : qe_E} (hd : qe_dok E.2.2.2 df) (b : Nat) : qx_sn (dp := dp) (qZ E L) 1 (qp_X9_append b) (qm_X9_append_l df L b).1 := by
  unfold qm_X9_append_l
  exact sn_node (tqm_X9_append_ll hd b) (tqm_X9_append_lr hd b)
theorem tqm_X9_append_rl {df : qe_Df} {L : Nat} {E : qe_E} (hd : qe_dok E.2.2.2 df) (b : Nat) : qx_sn (dp := dp) (qZ E L) 1 (qp_X9_append b) (qm_X9_append_rl df L b).1 := by
  unfold qm_X9_append_rl
  exact sn_node (sn_leaf (j := 1) (b := b) (i := 5) (f := qp_X9_append) (qs_X9_append_5 hd)) (sn_leaf (j := 1) (b := b) (i := 6) (f := qp_X9_append) (qs_X9_append_6 hd))
theorem tqm_X9_append_rrr {df : qe_Df} {L : Nat} {E : qe_E} (hd : qe_dok E.2.2.2 df) (b : Nat) : qx_sn (dp := dp) (qZ E L) 1 (qp_X9_append b) (qm_X9_append_rrr df L b).1 := by
  unfold qm_X9_append_rrr
  exact sn_node (sn_leaf (j := 1) (b := b) (i := 8) (f := qp_X9_append) (qs_X9_append_8 hd)) (sn_leaf (j := 1) (b := b) (i := 9) (f := qp_X9_append) (qs_X9_append_9 hd))
theorem tqm_X9_append_rr {df : qe_Df} {L : Nat} {E : qe_E} (hd : qe_dok E.2.2.2 df) (b : Nat) : qx_sn (dp := dp) (qZ E L) 1 (qp_X9_append b) (qm_X9_append_rr df L b).1 := by
  unfold qm_X9_append_rr
  exact sn_node (sn_leaf (j := 1) (b := b) (i := 7) (f := qp_X9_append) (qs_X9_append_7 hd)) (tqm_X9_append_rrr hd b)
theorem tqm_X9_append_r {df : qe_Df} {L : Nat} {E : qe_E} (hd : qe_dok E.2.2.2 df) (b : Nat) : qx_sn (dp := dp) (qZ E L) 1 (qp_X9_append b) (qm_X9_append_r df L b).1 := by
  unfold qm_X9_append_r
  exact sn_node (tqm_X9_append_rl hd b) (tqm_X9_append_rr hd b)
theorem tqm_X9_append_ {df : qe_Df} {L : Nat} {E : qe_E} (hd : qe_dok E.2.2.2 df) (b : Nat) : qx_sn (dp := dp) (qZ E L) 1 (qp_X9_append b) (qm_X9_append_ df L b).1 := by
  unfold qm_X9_append_
  exact sn_node (tqm_X9_append_l hd b) (tqm_X9_append_r hd b)
theorem tqm_X9_append {df : qe_Df} {L : Nat} {E : qe_E} (hd : qe_dok E.2.2.2 df) (b : Nat) : qx_sn (dp := dp) (qZ E L) 1 (qp_X9_append b) (qm_X9_append df L b).1 := by
  unfold qm_X9_append
  exact (tqm_X9_append_ hd b)
theorem tqm_X9_clear {df : qe_Df} {L : Nat} {E : qe_E} (hd : qe_dok E.2.2.2 df) (b : Nat) : qx_sn (dp := dp) (qZ E L) 2 (qp_X9_clear b) (qm_X9_clear df L b).1 := by
  unfold qm_X9_clear
  exact (sn_leaf (j := 2) (b := b) (i := 0) (f := qp_X9_clear) (qs_X9_clear_0 hd))
theorem tqm_X9_add {df : qe_Df} {L : Nat} {E : qe_E} (hd : qe_dok E.2.2.2 df) (b : Nat) : qx_sn (dp := dp) (qZ E L) 3 (qp_X9_add b) (qm_X9_add df L b).1 := by
  unfold qm_X9_add
  exact (sn_leaf (j := 3) (b := b) (i := 0) (f := qp_X9_add) (qs_X9_add_0 hd))
theorem tqm_X9_remove {df : qe_Df} {L : Nat} {E : qe_E} (hd : qe_dok E.2.2.2 df) (b : Nat) : qx_sn (dp := dp) (qZ E L) 4 (qp_X9_remove b) (qm_X9_remove df L b).1 := by
  unfold qm_X9_remove
  exact (sn_leaf (j := 4) (b := b) (i := 0) (f := qp_X9_remove) (qs_X9_remove_0 hd))
theorem tqm_X9_setBranch {df : qe_Df} {L : Nat} {E : qe_E} (hd : qe_dok E.2.2.2 df) (b : Nat) : qx_sn (dp := dp) (qZ E L) 5 (qp_X9_setBranch b) (qm_X9_setBranch df L b).1 := by
  unfold qm_X9_setBranch
  exact (sn_leaf (j := 5) (b := b) (i := 0) (f := qp_X9_setBranch) (qs_X9_setBranch_0 hd))
theorem tqm_X9_setWeight {df : qe_Df} {L : Nat} {E : qe_E} (hd : qe_dok E.2.2.2 df) (b : Nat) : qx_sn (dp := dp) (qZ E L) 6 (qp_X9_setWeight b) (qm_X9_setWeight df L b).1 := by
  unfold qm_X9_setWeight
  exact (sn_leaf (j := 6) (b := b) (i := 0) (f := qp_X9_setWeight) (qs_X9_setWeight_0 hd))
theorem tqm_X9_setLoad_r {df : qe_Df} {L : Nat} {E : qe_E} (hd : qe_dok E.2.2.2 df) (b : Nat) : qx_sn (dp := dp) (qZ E L) 7 (qp_X9_setLoad b) (qm_X9_setLoad_r df L b).1 := by
  unfold qm_X9_setLoad_r
  exact sn_node (sn_leaf (j := 7) (b := b) (i := 1) (f := qp_X9_setLoad) (qs_X9_setLoad_1 hd)) (sn_leaf (j := 7) (b := b) (i := 2) (f := qp_X9_setLoad) (qs_X9_setLoad_2 hd))
theorem tqm_X9_setLoad_ {df : qe_Df} {L : Nat} {E : qe_E} (hd : qe_dok E.2.2.2 df) (b : Nat) : qx_sn (dp := dp) (qZ E L) 7 (qp_X9_setLoad b) (qm_X9_setLoad_ df L b).1 := by
  unfold qm_X9_setLoad_
  exact sn_node (sn_leaf (j := 7) (b := b) (i := 0) (f := qp_X9_setLoad) (qs_X9_setLoad_0 hd)) (tqm_X9_setLoad_r hd b)
theorem tqm_X9_setLoad {df : qe_Df} {L : Nat} {E : qe_E} (hd : qe_dok E.2.2.2 df) (b : Nat) : qx_sn (dp := dp) (qZ E L) 7 (qp_X9_setLoad b) (qm_X9_setLoad df L b).1 := by
  unfold qm_X9_setLoad
  exact (tqm_X9_setLoad_ hd b)
theorem tqm_X9_execute_ {df : qe_Df} {L : Nat} {E : qe_E} (hd : qe_dok E.2.2.2 df) (b : Nat) : qx_sn (dp := dp) (qZ E L) 8 (qp_X9_execute b) (qm_X9_execute_ df L b).1 := by
  unfold qm_X9_execute_
  exact sn_node (sn_leaf (j := 8) (b := b) (i := 0) (f := qp_X9_execute) (qs_X9_execute_0 hd)) (sn_leaf (j := 8) (b := b) (i := 1) (f := qp_X9_execute) (qs_X9_execute_1 hd))
theorem tqm_X9_execute {df : qe_Df} {L : Nat} {E : qe_E} (hd : qe_dok E.2.2.2 df) (b : Nat) : qx_sn (dp := dp) (qZ E L) 8 (qp_X9_execute b) (qm_X9_execute df L b).1 := by
  unfold qm_X9_execute
  exact (tqm_X9_execute_ hd b)
theorem tqm_X9_errorPosition {df : qe_Df} {L : Nat} {E : qe_E} (hd : qe_dok E.2.2.2 df) (b : Nat) : qx_sn (dp := dp) (qZ E L) 9 (qp_X9_errorPosition b) (qm_X9_errorPosition df L b).1 := by
  unfold qm_X9_errorPosition
  exact (sn_leaf (j := 9) (b := b) (i := 0) (f := qp_X9_errorPosition) (qs_X9_errorPosition_0 hd))
theorem tqm_X9_property {df : qe_Df} {L : Nat} {E : qe_E} (hd : qe_dok E.2.2.2 df) (b : Nat) : qx_sn (dp := dp) (qZ E L) 10 (qp_X9_property b) (qm_X9_property df L b).1 := by
  unfold qm_X9_property
  exact (sn_leaf (j := 10) (b := b) (i := 0) (f := qp_X9_property) (qs_X9_property_0 hd))
theorem tqm_X9_character {df : qe_Df} {L : Nat} {E : qe_E} (hd : qe_dok E.2.2.2 df) (b : Nat) : qx_sn (dp := dp) (qZ E L) 11 (qp_X9_character b) (qm_X9_character df L b).1 := by
  unfold qm_X9_character
  exact (sn_leaf (j := 11) (b := b) (i := 0) (f := qp_X9_character) (qs_X9_character_0 hd))
theorem tqm_X9_difference {df : qe_Df} {L : Nat} {E : qe_E} (hd : qe_dok E.2.2.2 df) (b : Nat) : qx_sn (dp := dp) (qZ E L) 12 (qp_X9_difference b) (qm_X9_difference df L b).1 := by
  unfold qm_X9_difference
  exact (sn_leaf (j := 12) (b := b) (i := 0) (f := qp_X9_difference) (qs_X9_difference_0 hd))
theorem tqm_X9_size_l {df : qe_Df} {L : Nat} {E : qe_E} (hd : qe_dok E.2.2.2 df) (b : Nat) : qx_sn (dp := dp) (qZ E L) 13 (qp_X9_size b) (qm_X9_size_l df L b).1 := by
  unfold qm_X9_size_l
  exact sn_node (sn_leaf (j := 13) (b := b) (i := 0) (f := qp_X9_size) (qs_X9_size_0 hd)) (sn_leaf (j := 13) (b := b) (i := 1) (f := qp_X9_size) (qs_X9_size_1 hd))
theorem tqm_X9_size_rr {df : qe_Df} {L : Nat} {E : qe_E} (hd : qe_dok E.2.2.2 df) (b : Nat) : qx_sn (dp := dp) (qZ E L) 13 (qp_X9_size b) (qm_X9_size_rr df L b).1 := by
  unfold qm_X9_size_rr
  exact sn_node (sn_leaf (j := 13) (b := b) (i := 3) (f := qp_X9_size) (qs_X9_size_3 hd)) (sn_leaf (j := 13) (b := b) (i := 4) (f := qp_X9_size) (qs_X9_size_4 hd))
theorem tqm_X9_size_r {df : qe_Df} {L : Nat} {E : qe_E} (hd : qe_dok E.2.2.2 df) (b : Nat) : qx_sn (dp := dp) (qZ E L) 13 (qp_X9_size b) (qm_X9_size_r df L b).1 := by
  unfold qm_X9_size_r
  exact sn_node (sn_leaf (j := 13) (b := b) (i := 2) (f := qp_X9_size) (qs_X9_size_2 hd)) (tqm_X9_size_rr hd b)
theorem tqm_X9_size_ {df : qe_Df} {L : Nat} {E : qe_E} (hd : qe_dok E.2.2.2 df) (b : Nat) : qx_sn (dp := dp) (qZ E L) 13 (qp_X9_size b) (qm_X9_size_ df L b).1 := by
  unfold qm_X9_size_
  exact sn_node (tqm_X9_size_l hd b) (tqm_X9_size_r hd b)
theorem tqm_X9_size {df : qe_Df} {L : Nat} {E : qe_E} (hd : qe_dok E.2.2.2 df) (b : Nat) : qx_sn (dp := dp) (qZ E L) 13 (qp_X9_size b) (qm_X9_size df L b).1 := by
  unfold qm_X9_size
  exact (tqm_X9_size_ hd b)
theorem tqm_X9_find {df : qe_Df} {L : Nat} {E : qe_E} (hd : qe_dok E.2.2.2 df) (b : Nat) : qx_sn (dp := dp) (qZ E L) 14 (qp_X9_find b) (qm_X9_find df L b).1 := by
  unfold qm_X9_find
  exact (sn_leaf (j := 14) (b := b) (i := 0) (f := qp_X9_find) (qs_X9_find_0 hd))
theorem tqm_X9_branch_ {df : qe_Df} {L : Nat} {E : qe_E} (hd : qe_dok E.2.2.2 df) (b : Nat) : qx_sn (dp := dp) (qZ E L) 15 (qp_X9_branch b) (qm_X9_branch_ df L b).1 := by
  unfold qm_X9_branch_
  exact sn_node (sn_leaf (j := 15) (b := b) (i := 0) (f := qp_X9_branch) (qs_X9_branch_0 hd)) (sn_leaf (j := 15) (b := b) (i := 2) (f := qp_X9_branch) (qs_X9_branch_2 hd))
theorem tqm_X9_branch {df : qe_Df} {L : Nat} {E : qe_E} (hd : qe_dok E.2.2.2 df) (b : Nat) : qx_sn (dp := dp) (qZ E L) 15 (qp_X9_branch b) (qm_X9_branch df L b).1 := by
  unfold qm_X9_branch
  exact (tqm_X9_branch_ hd b)
theorem tqm_X9_examined {df : qe_Df} {L : Nat} {E : qe_E} (hd : qe_dok E.2.2.2 df) (b : Nat) : qx_sn (dp := dp) (qZ E L) 16 (qp_X9_examined b) (qm_X9_examined df L b).1 := by
  unfold qm_X9_examined
  exact (sn_leaf (j := 16) (b := b) (i := 0) (f := qp_X9_examined) (qs_X9_examined_0 hd))
theorem tqm_X9_cost {df : qe_Df} {L : Nat} {E : qe_E} (hd : qe_dok E.2.2.2 df) (b : Nat) : qx_sn (dp := dp) (qZ E L) 17 (qp_X9_cost b) (qm_X9_cost df L b).1 := by
  unfold qm_X9_cost
  exact (sn_leaf (j := 17) (b := b) (i := 0) (f := qp_X9_cost) (qs_X9_cost_0 hd))
theorem tqm_X9_worst {df : qe_Df} {L : Nat} {E : qe_E} (hd : qe_dok E.2.2.2 df) (b : Nat) : qx_sn (dp := dp) (qZ E L) 18 (qp_X9_worst b) (qm_X9_worst df L b).1 := by
  unfold qm_X9_worst
  exact (sn_leaf (j := 18) (b := b) (i := 0) (f := qp_X9_worst) (qs_X9_worst_0 hd))
theorem tqm_X9_meanBits {df : qe_Df} {L : Nat} {E : qe_E} (hd : qe_dok E.2.2.2 df) (b : Nat) : qx_sn (dp := dp) (qZ E L) 19 (qp_X9_meanBits b) (qm_X9_meanBits df L b).1 := by
  unfold qm_X9_meanBits
  exact (sn_leaf (j := 19) (b := b) (i := 0) (f := qp_X9_meanBits) (qs_X9_meanBits_0 hd))
theorem tqm_X9_best_l {df : qe_Df} {L : Nat} {E : qe_E} (hd : qe_dok E.2.2.2 df) (b : Nat) : qx_sn (dp := dp) (qZ E L) 20 (qp_X9_best b) (qm_X9_best_l df L b).1 := by
  unfold qm_X9_best_l
  exact sn_node (sn_leaf (j := 20) (b := b) (i := 0) (f := qp_X9_best) (qs_X9_best_0 hd)) (sn_leaf (j := 20) (b := b) (i := 1) (f := qp_X9_best) (qs_X9_best_1 hd))
theorem tqm_X9_best_r {df : qe_Df} {L : Nat} {E : qe_E} (hd : qe_dok E.2.2.2 df) (b : Nat) : qx_sn (dp := dp) (qZ E L) 20 (qp_X9_best b) (qm_X9_best_r df L b).1 := by
  unfold qm_X9_best_r
  exact sn_node (sn_leaf (j := 20) (b := b) (i := 2) (f := qp_X9_best) (qs_X9_best_2 hd)) (sn_leaf (j := 20) (b := b) (i := 3) (f := qp_X9_best) (qs_X9_best_3 hd))
theorem tqm_X9_best_ {df : qe_Df} {L : Nat} {E : qe_E} (hd : qe_dok E.2.2.2 df) (b : Nat) : qx_sn (dp := dp) (qZ E L) 20 (qp_X9_best b) (qm_X9_best_ df L b).1 := by
  unfold qm_X9_best_
  exact sn_node (tqm_X9_best_l hd b) (tqm_X9_best_r hd b)
theorem tqm_X9_best {df : qe_Df} {L : Nat} {E : qe_E} (hd : qe_dok E.2.2.2 df) (b : Nat) : qx_sn (dp := dp) (qZ E L) 20 (qp_X9_best b) (qm_X9_best df L b).1 := by
  unfold qm_X9_best
  exact (tqm_X9_best_ hd b)
theorem tqm_X9_trees_lr {df : qe_Df} {L : Nat} {E : qe_E} (hd : qe_dok E.2.2.2 df) (b : Nat) : qx_sn (dp := dp) (qZ E L) 21 (qp_X9_trees b) (qm_X9_trees_lr df L b).1 := by
  unfold qm_X9_trees_lr
  exact sn_node (sn_leaf (j := 21) (b := b) (i := 1) (f := qp_X9_trees) (qs_X9_trees_1 hd)) (sn_leaf (j := 21) (b := b) (i := 2) (f := qp_X9_trees) (qs_X9_trees_2 hd))
theorem tqm_X9_trees_l {df : qe_Df} {L : Nat} {E : qe_E} (hd : qe_dok E.2.2.2 df) (b : Nat) : qx_sn (dp := dp) (qZ E L) 21 (qp_X9_trees b) (qm_X9_trees_l df L b).1 := by
  unfold qm_X9_trees_l
  exact sn_node (sn_leaf (j := 21) (b := b) (i := 0) (f := qp_X9_trees) (qs_X9_trees_0 hd)) (tqm_X9_trees_lr hd b)
theorem tqm_X9_trees_rr {df : qe_Df} {L : Nat} {E : qe_E} (hd : qe_dok E.2.2.2 df) (b : Nat) : qx_sn (dp := dp) (qZ E L) 21 (qp_X9_trees b) (qm_X9_trees_rr df L b).1 := by
  unfold qm_X9_trees_rr
  exact sn_node (sn_leaf (j := 21) (b := b) (i := 4) (f := qp_X9_trees) (qs_X9_trees_4 hd)) (sn_leaf (j := 21) (b := b) (i := 5) (f := qp_X9_trees) (qs_X9_trees_5 hd))
theorem tqm_X9_trees_r {df : qe_Df} {L : Nat} {E : qe_E} (hd : qe_dok E.2.2.2 df) (b : Nat) : qx_sn (dp := dp) (qZ E L) 21 (qp_X9_trees b) (qm_X9_trees_r df L b).1 := by
  unfold qm_X9_trees_r
  exact sn_node (sn_leaf (j := 21) (b := b) (i := 3) (f := qp_X9_trees) (qs_X9_trees_3 hd)) (tqm_X9_trees_rr hd b)
theorem tqm_X9_trees_ {df : qe_Df} {L : Nat} {E : qe_E} (hd : qe_dok E.2.2.2 df) (b : Nat) : qx_sn (dp := dp) (qZ E L) 21 (qp_X9_trees b) (qm_X9_trees_ df L b).1 := by
  unfold qm_X9_trees_
  exact sn_node (tqm_X9_trees_l hd b) (tqm_X9_trees_r hd b)
theorem tqm_X9_trees {df : qe_Df} {L : Nat} {E : qe_E} (hd : qe_dok E.2.2.2 df) (b : Nat) : qx_sn (dp := dp) (qZ E L) 21 (qp_X9_trees b) (qm_X9_trees df L b).1 := by
  unfold qm_X9_trees
  exact (tqm_X9_trees_ hd b)
theorem tqm_X9_selected {df : qe_Df} {L : Nat} {E : qe_E} (hd : qe_dok E.2.2.2 df) (b : Nat) : qx_sn (dp := dp) (qZ E L) 22 (qp_X9_selected b) (qm_X9_selected df L b).1 := by
  unfold qm_X9_selected
  exact (sn_leaf (j := 22) (b := b) (i := 0) (f := qp_X9_selected) (qs_X9_selected_0 hd))
theorem tqm_X9_hash {df : qe_Df} {L : Nat} {E : qe_E} (hd : qe_dok E.2.2.2 df) (b : Nat) : qx_sn (dp := dp) (qZ E L) 23 (qp_X9_hash b) (qm_X9_hash df L b).1 := by
  unfold qm_X9_hash
  exact (sn_leaf (j := 23) (b := b) (i := 0) (f := qp_X9_hash) (qs_X9_hash_0 hd))
theorem tqm_X9_table_r {df : qe_Df} {L : Nat} {E : qe_E} (hd : qe_dok E.2.2.2 df) (b : Nat) : qx_sn (dp := dp) (qZ E L) 24 (qp_X9_table b) (qm_X9_table_r df L b).1 := by
  unfold qm_X9_table_r
  exact sn_node (sn_leaf (j := 24) (b := b) (i := 1) (f := qp_X9_table) (qs_X9_table_1 hd)) (sn_leaf (j := 24) (b := b) (i := 2) (f := qp_X9_table) (qs_X9_table_2 hd))
theorem tqm_X9_table_ {df : qe_Df} {L : Nat} {E : qe_E} (hd : qe_dok E.2.2.2 df) (b : Nat) : qx_sn (dp := dp) (qZ E L) 24 (qp_X9_table b) (qm_X9_table_ df L b).1 := by
  unfold qm_X9_table_
  exact sn_node (sn_leaf (j := 24) (b := b) (i := 0) (f := qp_X9_table) (qs_X9_table_0 hd)) (tqm_X9_table_r hd b)
theorem tqm_X9_table {df : qe_Df} {L : Nat} {E : qe_E} (hd : qe_dok E.2.2.2 df) (b : Nat) : qx_sn (dp := dp) (qZ E L) 24 (qp_X9_table b) (qm_X9_table df L b).1 := by
  unfold qm_X9_table
  exact (tqm_X9_table_ hd b)
theorem tqm_X9_slot {df : qe_Df} {L : Nat} {E : qe_E} (hd : qe_dok E.2.2.2 df) (b : Nat) : qx_sn (dp := dp) (qZ E L) 25 (qp_X9_slot b) (qm_X9_slot df L b).1 := by
  unfold qm_X9_slot
  exact (sn_leaf (j := 25) (b := b) (i := 0) (f := qp_X9_slot) (qs_X9_slot_0 hd))
theorem tqm_X9_displacement {df : qe_Df} {L : Nat} {E : qe_E} (hd : qe_dok E.2.2.2 df) (b : Nat) : qx_sn (dp := dp) (qZ E L) 26 (qp_X9_displacement b) (qm_X9_displacement df L b).1 := by
  unfold qm_X9_displacement
  exact (sn_leaf (j := 26) (b := b) (i := 0) (f := qp_X9_displacement) (qs_X9_displacement_0 hd))
theorem tqm_X9_densityBits {df : qe_Df} {L : Nat} {E : qe_E} (hd : qe_dok E.2.2.2 df) (b : Nat) : qx_sn (dp := dp) (qZ E L) 27 (qp_X9_densityBits b) (qm_X9_densityBits df L b).1 := by
  unfold qm_X9_densityBits
  exact (sn_leaf (j := 27) (b := b) (i := 0) (f := qp_X9_densityBits) (qs_X9_densityBits_0 hd))
theorem tqm_X9_listing_l {df : qe_Df} {L : Nat} {E : qe_E} (hd : qe_dok E.2.2.2 df) (b : Nat) : qx_sn (dp := dp) (qZ E L) 28 (qp_X9_listing b) (qm_X9_listing_l df L b).1 := by
  unfold qm_X9_listing_l
  exact sn_node (sn_leaf (j := 28) (b := b) (i := 0) (f := qp_X9_listing) (qs_X9_listing_0 hd)) (sn_leaf (j := 28) (b := b) (i := 1) (f := qp_X9_listing) (qs_X9_listing_1 hd))
theorem tqm_X9_listing_r {df : qe_Df} {L : Nat} {E : qe_E} (hd : qe_dok E.2.2.2 df) (b : Nat) : qx_sn (dp := dp) (qZ E L) 28 (qp_X9_listing b) (qm_X9_listing_r df L b).1 := by
  unfold qm_X9_listing_r
  exact sn_node (sn_leaf (j := 28) (b := b) (i := 2) (f := qp_X9_listing) (qs_X9_listing_2 hd)) (sn_leaf (j := 28) (b := b) (i := 3) (f := qp_X9_listing) (qs_X9_listing_3 hd))
theorem tqm_X9_listing_ {df : qe_Df} {L : Nat} {E : qe_E} (hd : qe_dok E.2.2.2 df) (b : Nat) : qx_sn (dp := dp) (qZ E L) 28 (qp_X9_listing b) (qm_X9_listing_ df L b).1 := by
  unfold qm_X9_listing_
  exact sn_node (tqm_X9_listing_l hd b) (tqm_X9_listing_r hd b)
theorem tqm_X9_listing {df : qe_Df} {L : Nat} {E : qe_E} (hd : qe_dok E.2.2.2 df) (b : Nat) : qx_sn (dp := dp) (qZ E L) 28 (qp_X9_listing b) (qm_X9_listing df L b).1 := by
  unfold qm_X9_listing
  exact (tqm_X9_listing_ hd b)
theorem tqm_X9_save {df : qe_Df} {L : Nat} {E : qe_E} (hd : qe_dok E.2.2.2 df) (b : Nat) : qx_sn (dp := dp) (qZ E L) 29 (qp_X9_save b) (qm_X9_save df L b).1 := by
  unfold qm_X9_save
  exact (sn_leaf (j := 29) (b := b) (i := 0) (f := qp_X9_save) (qs_X9_save_0 hd))
theorem tqm_X9_restore {df : qe_Df} {L : Nat} {E : qe_E} (hd : qe_dok E.2.2.2 df) (b : Nat) : qx_sn (dp := dp) (qZ E L) 30 (qp_X9_restore b) (qm_X9_restore df L b).1 := by
  unfold qm_X9_restore
  exact (sn_leaf (j := 30) (b := b) (i := 0) (f := qp_X9_restore) (qs_X9_restore_0 hd))
theorem tqm_X9_requireKey {df : qe_Df} {L : Nat} {E : qe_E} (hd : qe_dok E.2.2.2 df) (b : Nat) : qx_sn (dp := dp) (qZ E L) 31 (qp_X9_requireKey b) (qm_X9_requireKey df L b).1 := by
  unfold qm_X9_requireKey
  exact (sn_leaf (j := 31) (b := b) (i := 0) (f := qp_X9_requireKey) (qs_X9_requireKey_0 hd))
theorem tqm_X9_requireStrategy_r {df : qe_Df} {L : Nat} {E : qe_E} (hd : qe_dok E.2.2.2 df) (b : Nat) : qx_sn (dp := dp) (qZ E L) 33 (qp_X9_requireStrategy b) (qm_X9_requireStrategy_r df L b).1 := by
  unfold qm_X9_requireStrategy_r
  exact sn_node (sn_leaf (j := 33) (b := b) (i := 1) (f := qp_X9_requireStrategy) (qs_X9_requireStrategy_1 hd)) (sn_leaf (j := 33) (b := b) (i := 2) (f := qp_X9_requireStrategy) (qs_X9_requireStrategy_2 hd))
theorem tqm_X9_requireStrategy_ {df : qe_Df} {L : Nat} {E : qe_E} (hd : qe_dok E.2.2.2 df) (b : Nat) : qx_sn (dp := dp) (qZ E L) 33 (qp_X9_requireStrategy b) (qm_X9_requireStrategy_ df L b).1 := by
  unfold qm_X9_requireStrategy_
  exact sn_node (sn_leaf (j := 33) (b := b) (i := 0) (f := qp_X9_requireStrategy) (qs_X9_requireStrategy_0 hd)) (tqm_X9_requireStrategy_r hd b)
theorem tqm_X9_requireStrategy {df : qe_Df} {L : Nat} {E : qe_E} (hd : qe_dok E.2.2.2 df) (b : Nat) : qx_sn (dp := dp) (qZ E L) 33 (qp_X9_requireStrategy b) (qm_X9_requireStrategy df L b).1 := by
  unfold qm_X9_requireStrategy
  exact (tqm_X9_requireStrategy_ hd b)
theorem tqm_X9_requireRunnable_ {df : qe_Df} {L : Nat} {E : qe_E} (hd : qe_dok E.2.2.2 df) (b : Nat) : qx_sn (dp := dp) (qZ E L) 34 (qp_X9_requireRunnable b) (qm_X9_requireRunnable_ df L b).1 := by
  unfold qm_X9_requireRunnable_
  exact sn_node (sn_leaf (j := 34) (b := b) (i := 0) (f := qp_X9_requireRunnable) (qs_X9_requireRunnable_0 hd)) (sn_leaf (j := 34) (b := b) (i := 1) (f := qp_X9_requireRunnable) (qs_X9_requireRunnable_1 hd))
theorem tqm_X9_requireRunnable {df : qe_Df} {L : Nat} {E : qe_E} (hd : qe_dok E.2.2.2 df) (b : Nat) : qx_sn (dp := dp) (qZ E L) 34 (qp_X9_requireRunnable b) (qm_X9_requireRunnable df L b).1 := by
  unfold qm_X9_requireRunnable
  exact (tqm_X9_requireRunnable_ hd b)
theorem tqm_X9_requireTable {df : qe_Df} {L : Nat} {E : qe_E} (hd : qe_dok E.2.2.2 df) (b : Nat) : qx_sn (dp := dp) (qZ E L) 35 (qp_X9_requireTable b) (qm_X9_requireTable df L b).1 := by
  unfold qm_X9_requireTable
  exact (sn_leaf (j := 35) (b := b) (i := 0) (f := qp_X9_requireTable) (qs_X9_requireTable_0 hd))
theorem tqm_X9_canRun_r {df : qe_Df} {L : Nat} {E : qe_E} (hd : qe_dok E.2.2.2 df) (b : Nat) : qx_sn (dp := dp) (qZ E L) 36 (qp_X9_canRun b) (qm_X9_canRun_r df L b).1 := by
  unfold qm_X9_canRun_r
  exact sn_node (sn_leaf (j := 36) (b := b) (i := 1) (f := qp_X9_canRun) (qs_X9_canRun_1 hd)) (sn_leaf (j := 36) (b := b) (i := 2) (f := qp_X9_canRun) (qs_X9_canRun_2 hd))
theorem tqm_X9_canRun_ {df : qe_Df} {L : Nat} {E : qe_E} (hd : qe_dok E.2.2.2 df) (b : Nat) : qx_sn (dp := dp) (qZ E L) 36 (qp_X9_canRun b) (qm_X9_canRun_ df L b).1 := by
  unfold qm_X9_canRun_
  exact sn_node (sn_leaf (j := 36) (b := b) (i := 0) (f := qp_X9_canRun) (qs_X9_canRun_0 hd)) (tqm_X9_canRun_r hd b)
theorem tqm_X9_canRun {df : qe_Df} {L : Nat} {E : qe_E} (hd : qe_dok E.2.2.2 df) (b : Nat) : qx_sn (dp := dp) (qZ E L) 36 (qp_X9_canRun b) (qm_X9_canRun df L b).1 := by
  unfold qm_X9_canRun
  exact (tqm_X9_canRun_ hd b)
theorem tqm_X9_prepare_ {df : qe_Df} {L : Nat} {E : qe_E} (hd : qe_dok E.2.2.2 df) (b : Nat) : qx_sn (dp := dp) (qZ E L) 37 (qp_X9_prepare b) (qm_X9_prepare_ df L b).1 := by
  unfold qm_X9_prepare_
  exact sn_node (sn_leaf (j := 37) (b := b) (i := 0) (f := qp_X9_prepare) (qs_X9_prepare_0 hd)) (sn_leaf (j := 37) (b := b) (i := 1) (f := qp_X9_prepare) (qs_X9_prepare_1 hd))
theorem tqm_X9_prepare {df : qe_Df} {L : Nat} {E : qe_E} (hd : qe_dok E.2.2.2 df) (b : Nat) : qx_sn (dp := dp) (qZ E L) 37 (qp_X9_prepare b) (qm_X9_prepare df L b).1 := by
  unfold qm_X9_prepare
  exact (tqm_X9_prepare_ hd b)
theorem tqm_X9_put_ {df : qe_Df} {L : Nat} {E : qe_E} (hd : qe_dok E.2.2.2 df) (b : Nat) : qx_sn (dp := dp) (qZ E L) 39 (qp_X9_put b) (qm_X9_put_ df L b).1 := by
  unfold qm_X9_put_
  exact sn_node (sn_leaf (j := 39) (b := b) (i := 0) (f := qp_X9_put) (qs_X9_put_0 hd)) (sn_leaf (j := 39) (b := b) (i := 1) (f := qp_X9_put) (qs_X9_put_1 hd))
theorem tqm_X9_put {df : qe_Df} {L : Nat} {E : qe_E} (hd : qe_dok E.2.2.2 df) (b : Nat) : qx_sn (dp := dp) (qZ E L) 39 (qp_X9_put b) (qm_X9_put df L b).1 := by
  unfold qm_X9_put
  exact (tqm_X9_put_ hd b)
theorem tqm_X9_copy_r {df : qe_Df} {L : Nat} {E : qe_E} (hd : qe_dok E.2.2.2 df) (b : Nat) : qx_sn (dp := dp) (qZ E L) 40 (qp_X9_copy b) (qm_X9_copy_r df L b).1 := by
  unfold qm_X9_copy_r
  exact sn_node (sn_leaf (j := 40) (b := b) (i := 1) (f := qp_X9_copy) (qs_X9_copy_1 hd)) (sn_leaf (j := 40) (b := b) (i := 2) (f := qp_X9_copy) (qs_X9_copy_2 hd))
theorem tqm_X9_copy_ {df : qe_Df} {L : Nat} {E : qe_E} (hd : qe_dok E.2.2.2 df) (b : Nat) : qx_sn (dp := dp) (qZ E L) 40 (qp_X9_copy b) (qm_X9_copy_ df L b).1 := by
  unfold qm_X9_copy_
  exact sn_node (sn_leaf (j := 40) (b := b) (i := 0) (f := qp_X9_copy) (qs_X9_copy_0 hd)) (tqm_X9_copy_r hd b)
theorem tqm_X9_copy {df : qe_Df} {L : Nat} {E : qe_E} (hd : qe_dok E.2.2.2 df) (b : Nat) : qx_sn (dp := dp) (qZ E L) 40 (qp_X9_copy b) (qm_X9_copy df L b).1 := by
  unfold qm_X9_copy
  exact (tqm_X9_copy_ hd b)
theorem tqm_X9_contains_r {df : qe_Df} {L : Nat} {E : qe_E} (hd : qe_dok E.2.2.2 df) (b : Nat) : qx_sn (dp := dp) (qZ E L) 42 (qp_X9_contains b) (qm_X9_contains_r df L b).1 := by
  unfold qm_X9_contains_r
  exact sn_node (sn_leaf (j := 42) (b := b) (i := 1) (f := qp_X9_contains) (qs_X9_contains_1 hd)) (sn_leaf (j := 42) (b := b) (i := 2) (f := qp_X9_contains) (qs_X9_contains_2 hd))
theorem tqm_X9_contains_ {df : qe_Df} {L : Nat} {E : qe_E} (hd : qe_dok E.2.2.2 df) (b : Nat) : qx_sn (dp := dp) (qZ E L) 42 (qp_X9_contains b) (qm_X9_contains_ df L b).1 := by
  unfold qm_X9_contains_
  exact sn_node (sn_leaf (j := 42) (b := b) (i := 0) (f := qp_X9_contains) (qs_X9_contains_0 hd)) (tqm_X9_contains_r hd b)
theorem tqm_X9_contains {df : qe_Df} {L : Nat} {E : qe_E} (hd : qe_dok E.2.2.2 df) (b : Nat) : qx_sn (dp := dp) (qZ E L) 42 (qp_X9_contains b) (qm_X9_contains df L b).1 := by
  unfold qm_X9_contains
  exact (tqm_X9_contains_ hd b)
theorem tqm_X10_init {df : qe_Df} {L : Nat} {E : qe_E} (hd : qe_dok E.2.2.2 df) (b : Nat) : qx_sn (dp := dp) (qZ E L) 47 (qp_X10_init b) (qm_X10_init df L b).1 := by
  unfold qm_X10_init
  exact (sn_leaf (j := 47) (b := b) (i := 0) (f := qp_X10_init) (qs_X10_init_0 hd))
theorem tqm_X10_thrown {df : qe_Df} {L : Nat} {E : qe_E} (hd : qe_dok E.2.2.2 df) (b : Nat) : qx_sn (dp := dp) (qZ E L) 48 (qp_X10_thrown b) (qm_X10_thrown df L b).1 := by
  unfold qm_X10_thrown
  exact (sn_leaf (j := 48) (b := b) (i := 0) (f := qp_X10_thrown) (qs_X10_thrown_0 hd))
theorem tqm_X10_in_r {df : qe_Df} {L : Nat} {E : qe_E} (hd : qe_dok E.2.2.2 df) (b : Nat) : qx_sn (dp := dp) (qZ E L) 49 (qp_X10_in b) (qm_X10_in_r df L b).1 := by
  unfold qm_X10_in_r
  exact sn_node (sn_leaf (j := 49) (b := b) (i := 1) (f := qp_X10_in) (qs_X10_in_1 hd)) (sn_leaf (j := 49) (b := b) (i := 2) (f := qp_X10_in) (qs_X10_in_2 hd))
theorem tqm_X10_in_ {df : qe_Df} {L : Nat} {E : qe_E} (hd : qe_dok E.2.2.2 df) (b : Nat) : qx_sn (dp := dp) (qZ E L) 49 (qp_X10_in b) (qm_X10_in_ df L b).1 := by
  unfold qm_X10_in_
  exact sn_node (sn_leaf (j := 49) (b := b) (i := 0) (f := qp_X10_in) (qs_X10_in_0 hd)) (tqm_X10_in_r hd b)
theorem tqm_X10_in {df : qe_Df} {L : Nat} {E : qe_E} (hd : qe_dok E.2.2.2 df) (b : Nat) : qx_sn (dp := dp) (qZ E L) 49 (qp_X10_in b) (qm_X10_in df L b).1 := by
  unfold qm_X10_in
  exact (tqm_X10_in_ hd b)
theorem tqm_X10_isKey {df : qe_Df} {L : Nat} {E : qe_E} (hd : qe_dok E.2.2.2 df) (b : Nat) : qx_sn (dp := dp) (qZ E L) 50 (qp_X10_isKey b) (qm_X10_isKey df L b).1 := by
  unfold qm_X10_isKey
  exact (sn_leaf (j := 50) (b := b) (i := 0) (f := qp_X10_isKey) (qs_X10_isKey_0 hd))
theorem tqm_X10_append_llr {df : qe_Df} {L : Nat} {E : qe_E} (hd : qe_dok E.2.2.2 df) (b : Nat) : qx_sn (dp := dp) (qZ E L) 53 (qp_X10_append b) (qm_X10_append_llr df L b).1 := by
  unfold qm_X10_append_llr
  exact sn_node (sn_leaf (j := 53) (b := b) (i := 1) (f := qp_X10_append) (qs_X10_append_1 hd)) (sn_leaf (j := 53) (b := b) (i := 2) (f := qp_X10_append) (qs_X10_append_2 hd))
theorem tqm_X10_append_ll {df : qe_Df} {L : Nat} {E : qe_E} (hd : qe_dok E.2.2.2 df) (b : Nat) : qx_sn (dp := dp) (qZ E L) 53 (qp_X10_append b) (qm_X10_append_ll df L b).1 := by
  unfold qm_X10_append_ll
  exact sn_node (sn_leaf (j := 53) (b := b) (i := 0) (f := qp_X10_append) (qs_X10_append_0 hd)) (tqm_X10_append_llr hd b)
theorem tqm_X10_append_lrl {df : qe_Df} {L : Nat} {E : qe_E} (hd : qe_dok E.2.2.2 df) (b : Nat) : qx_sn (dp := dp) (qZ E L) 53 (qp_X10_append b) (qm_X10_append_lrl df L b).1 := by
  unfold qm_X10_append_lrl
  exact sn_node (sn_leaf (j := 53) (b := b) (i := 3) (f := qp_X10_append) (qs_X10_append_3 hd)) (sn_leaf (j := 53) (b := b) (i := 4) (f := qp_X10_append) (qs_X10_append_4 hd))
theorem tqm_X10_append_lrr {df : qe_Df} {L : Nat} {E : qe_E} (hd : qe_dok E.2.2.2 df) (b : Nat) : qx_sn (dp := dp) (qZ E L) 53 (qp_X10_append b) (qm_X10_append_lrr df L b).1 := by
  unfold qm_X10_append_lrr
  exact sn_node (sn_leaf (j := 53) (b := b) (i := 5) (f := qp_X10_append) (qs_X10_append_5 hd)) (sn_leaf (j := 53) (b := b) (i := 6) (f := qp_X10_append) (qs_X10_append_6 hd))
theorem tqm_X10_append_lr {df : qe_Df} {L : Nat} {E : qe_E} (hd : qe_dok E.2.2.2 df) (b : Nat) : qx_sn (dp := dp) (qZ E L) 53 (qp_X10_append b) (qm_X10_append_lr df L b).1 := by
  unfold qm_X10_append_lr
  exact sn_node (tqm_X10_append_lrl hd b) (tqm_X10_append_lrr hd b)
theorem tqm_X10_append_l {df : qe_Df} {L : Nat} {E : qe_E} (hd : qe_dok E.2.2.2 df) (b : Nat) : qx_sn (dp := dp) (qZ E L) 53 (qp_X10_append b) (qm_X10_append_l df L b).1 := by
  unfold qm_X10_append_l
  exact sn_node (tqm_X10_append_ll hd b) (tqm_X10_append_lr hd b)
theorem tqm_X10_append_rll {df : qe_Df} {L : Nat} {E : qe_E} (hd : qe_dok E.2.2.2 df) (b : Nat) : qx_sn (dp := dp) (qZ E L) 53 (qp_X10_append b) (qm_X10_append_rll df L b).1 := by
  unfold qm_X10_append_rll
  exact sn_node (sn_leaf (j := 53) (b := b) (i := 7) (f := qp_X10_append) (qs_X10_append_7 hd)) (sn_leaf (j := 53) (b := b) (i := 8) (f := qp_X10_append) (qs_X10_append_8 hd))
theorem tqm_X10_append_rlr {df : qe_Df} {L : Nat} {E : qe_E} (hd : qe_dok E.2.2.2 df) (b : Nat) : qx_sn (dp := dp) (qZ E L) 53 (qp_X10_append b) (qm_X10_append_rlr df L b).1 := by
  unfold qm_X10_append_rlr
  exact sn_node (sn_leaf (j := 53) (b := b) (i := 9) (f := qp_X10_append) (qs_X10_append_9 hd)) (sn_leaf (j := 53) (b := b) (i := 10) (f := qp_X10_append) (qs_X10_append_10 hd))
theorem tqm_X10_append_rl {df : qe_Df} {L : Nat} {E : qe_E} (hd : qe_dok E.2.2.2 df) (b : Nat) : qx_sn (dp := dp) (qZ E L) 53 (qp_X10_append b) (qm_X10_append_rl df L b).1 := by
  unfold qm_X10_append_rl
  exact sn_node (tqm_X10_append_rll hd b) (tqm_X10_append_rlr hd b)
theorem tqm_X10_append_rrl {df : qe_Df} {L : Nat} {E : qe_E} (hd : qe_dok E.2.2.2 df) (b : Nat) : qx_sn (dp := dp) (qZ E L) 53 (qp_X10_append b) (qm_X10_append_rrl df L b).1 := by
  unfold qm_X10_append_rrl
  exact sn_node (sn_leaf (j := 53) (b := b) (i := 11) (f := qp_X10_append) (qs_X10_append_11 hd)) (sn_leaf (j := 53) (b := b) (i := 12) (f := qp_X10_append) (qs_X10_append_12 hd))
theorem tqm_X10_append_rrr {df : qe_Df} {L : Nat} {E : qe_E} (hd : qe_dok E.2.2.2 df) (b : Nat) : qx_sn (dp := dp) (qZ E L) 53 (qp_X10_append b) (qm_X10_append_rrr df L b).1 := by
  unfold qm_X10_append_rrr
  exact sn_node (sn_leaf (j := 53) (b := b) (i := 13) (f := qp_X10_append) (qs_X10_append_13 hd)) (sn_leaf (j := 53) (b := b) (i := 14) (f := qp_X10_append) (qs_X10_append_14 hd))
theorem tqm_X10_append_rr {df : qe_Df} {L : Nat} {E : qe_E} (hd : qe_dok E.2.2.2 df) (b : Nat) : qx_sn (dp := dp) (qZ E L) 53 (qp_X10_append b) (qm_X10_append_rr df L b).1 := by
  unfold qm_X10_append_rr
  exact sn_node (tqm_X10_append_rrl hd b) (tqm_X10_append_rrr hd b)
theorem tqm_X10_append_r {df : qe_Df} {L : Nat} {E : qe_E} (hd : qe_dok E.2.2.2 df) (b : Nat) : qx_sn (dp := dp) (qZ E L) 53 (qp_X10_append b) (qm_X10_append_r df L b).1 := by
  unfold qm_X10_append_r
  exact sn_node (tqm_X10_append_rl hd b) (tqm_X10_append_rr hd b)
theorem tqm_X10_append_ {df : qe_Df} {L : Nat} {E : qe_E} (hd : qe_dok E.2.2.2 df) (b : Nat) : qx_sn (dp := dp) (qZ E L) 53 (qp_X10_append b) (qm_X10_append_ df L b).1 := by
  unfold qm_X10_append_
  exact sn_node (tqm_X10_append_l hd b) (tqm_X10_append_r hd b)
theorem tqm_X10_append {df : qe_Df} {L : Nat} {E : qe_E} (hd : qe_dok E.2.2.2 df) (b : Nat) : qx_sn (dp := dp) (qZ E L) 53 (qp_X10_append b) (qm_X10_append df L b).1 := by
  unfold qm_X10_append
  exact (tqm_X10_append_ hd b)
theorem tqm_X10_clear {df : qe_Df} {L : Nat} {E : qe_E} (hd : qe_dok E.2.2.2 df) (b : Nat) : qx_sn (dp := dp) (qZ E L) 54 (qp_X10_clear b) (qm_X10_clear df L b).1 := by
  unfold qm_X10_clear
  exact (sn_leaf (j := 54) (b := b) (i := 0) (f := qp_X10_clear) (qs_X10_clear_0 hd))
theorem tqm_X10_add_l {df : qe_Df} {L : Nat} {E : qe_E} (hd : qe_dok E.2.2.2 df) (b : Nat) : qx_sn (dp := dp) (qZ E L) 58 (qp_X10_add b) (qm_X10_add_l df L b).1 := by
  unfold qm_X10_add_l
  exact sn_node (sn_leaf (j := 58) (b := b) (i := 0) (f := qp_X10_add) (qs_X10_add_0 hd)) (sn_leaf (j := 58) (b := b) (i := 1) (f := qp_X10_add) (qs_X10_add_1 hd))
theorem tqm_X10_add_r {df : qe_Df} {L : Nat} {E : qe_E} (hd : qe_dok E.2.2.2 df) (b : Nat) : qx_sn (dp := dp) (qZ E L) 58 (qp_X10_add b) (qm_X10_add_r df L b).1 := by
  unfold qm_X10_add_r
  exact sn_node (sn_leaf (j := 58) (b := b) (i := 2) (f := qp_X10_add) (qs_X10_add_2 hd)) (sn_leaf (j := 58) (b := b) (i := 4) (f := qp_X10_add) (qs_X10_add_4 hd))
theorem tqm_X10_add_ {df : qe_Df} {L : Nat} {E : qe_E} (hd : qe_dok E.2.2.2 df) (b : Nat) : qx_sn (dp := dp) (qZ E L) 58 (qp_X10_add b) (qm_X10_add_ df L b).1 := by
  unfold qm_X10_add_
  exact sn_node (tqm_X10_add_l hd b) (tqm_X10_add_r hd b)
theorem tqm_X10_add {df : qe_Df} {L : Nat} {E : qe_E} (hd : qe_dok E.2.2.2 df) (b : Nat) : qx_sn (dp := dp) (qZ E L) 58 (qp_X10_add b) (qm_X10_add df L b).1 := by
  unfold qm_X10_add
  exact (tqm_X10_add_ hd b)
theorem tqm_X10_remove_ {df : qe_Df} {L : Nat} {E : qe_E} (hd : qe_dok E.2.2.2 df) (b : Nat) : qx_sn (dp := dp) (qZ E L) 59 (qp_X10_remove b) (qm_X10_remove_ df L b).1 := by
  unfold qm_X10_remove_
  exact sn_node (sn_leaf (j := 59) (b := b) (i := 0) (f := qp_X10_remove) (qs_X10_remove_0 hd)) (sn_leaf (j := 59) (b := b) (i := 1) (f := qp_X10_remove) (qs_X10_remove_1 hd))
theorem tqm_X10_remove {df : qe_Df} {L : Nat} {E : qe_E} (hd : qe_dok E.2.2.2 df) (b : Nat) : qx_sn (dp := dp) (qZ E L) 59 (qp_X10_remove b) (qm_X10_remove df L b).1 := by
  unfold qm_X10_remove
  exact (tqm_X10_remove_ hd b)
theorem tqm_X10_setBranch_ {df : qe_Df} {L : Nat} {E : qe_E} (hd : qe_dok E.2.2.2 df) (b : Nat) : qx_sn (dp := dp) (qZ E L) 60 (qp_X10_setBranch b) (qm_X10_setBranch_ df L b).1 := by
  unfold qm_X10_setBranch_
  exact sn_node (sn_leaf (j := 60) (b := b) (i := 0) (f := qp_X10_setBranch) (qs_X10_setBranch_0 hd)) (sn_leaf (j := 60) (b := b) (i := 2) (f := qp_X10_setBranch) (qs_X10_setBranch_2 hd))
theorem tqm_X10_setBranch {df : qe_Df} {L : Nat} {E : qe_E} (hd : qe_dok E.2.2.2 df) (b : Nat) : qx_sn (dp := dp) (qZ E L) 60 (qp_X10_setBranch b) (qm_X10_setBranch df L b).1 := by
  unfold qm_X10_setBranch
  exact (tqm_X10_setBranch_ hd b)
theorem tqm_X10_setWeight_ {df : qe_Df} {L : Nat} {E : qe_E} (hd : qe_dok E.2.2.2 df) (b : Nat) : qx_sn (dp := dp) (qZ E L) 61 (qp_X10_setWeight b) (qm_X10_setWeight_ df L b).1 := by
  unfold qm_X10_setWeight_
  exact sn_node (sn_leaf (j := 61) (b := b) (i := 0) (f := qp_X10_setWeight) (qs_X10_setWeight_0 hd)) (sn_leaf (j := 61) (b := b) (i := 2) (f := qp_X10_setWeight) (qs_X10_setWeight_2 hd))
theorem tqm_X10_setWeight {df : qe_Df} {L : Nat} {E : qe_E} (hd : qe_dok E.2.2.2 df) (b : Nat) : qx_sn (dp := dp) (qZ E L) 61 (qp_X10_setWeight b) (qm_X10_setWeight df L b).1 := by
  unfold qm_X10_setWeight
  exact (tqm_X10_setWeight_ hd b)
theorem tqm_X10_setLoad_l {df : qe_Df} {L : Nat} {E : qe_E} (hd : qe_dok E.2.2.2 df) (b : Nat) : qx_sn (dp := dp) (qZ E L) 62 (qp_X10_setLoad b) (qm_X10_setLoad_l df L b).1 := by
  unfold qm_X10_setLoad_l
  exact sn_node (sn_leaf (j := 62) (b := b) (i := 0) (f := qp_X10_setLoad) (qs_X10_setLoad_0 hd)) (sn_leaf (j := 62) (b := b) (i := 1) (f := qp_X10_setLoad) (qs_X10_setLoad_1 hd))
theorem tqm_X10_setLoad_r {df : qe_Df} {L : Nat} {E : qe_E} (hd : qe_dok E.2.2.2 df) (b : Nat) : qx_sn (dp := dp) (qZ E L) 62 (qp_X10_setLoad b) (qm_X10_setLoad_r df L b).1 := by
  unfold qm_X10_setLoad_r
  exact sn_node (sn_leaf (j := 62) (b := b) (i := 2) (f := qp_X10_setLoad) (qs_X10_setLoad_2 hd)) (sn_leaf (j := 62) (b := b) (i := 3) (f := qp_X10_setLoad) (qs_X10_setLoad_3 hd))
theorem tqm_X10_setLoad_ {df : qe_Df} {L : Nat} {E : qe_E} (hd : qe_dok E.2.2.2 df) (b : Nat) : qx_sn (dp := dp) (qZ E L) 62 (qp_X10_setLoad b) (qm_X10_setLoad_ df L b).1 := by
  unfold qm_X10_setLoad_
  exact sn_node (tqm_X10_setLoad_l hd b) (tqm_X10_setLoad_r hd b)
theorem tqm_X10_setLoad {df : qe_Df} {L : Nat} {E : qe_E} (hd : qe_dok E.2.2.2 df) (b : Nat) : qx_sn (dp := dp) (qZ E L) 62 (qp_X10_setLoad b) (qm_X10_setLoad df L b).1 := by
  unfold qm_X10_setLoad
  exact (tqm_X10_setLoad_ hd b)
theorem tqm_X10_here_ {df : qe_Df} {L : Nat} {E : qe_E} (hd : qe_dok E.2.2.2 df) (b : Nat) : qx_sn (dp := dp) (qZ E L) 63 (qp_X10_here b) (qm_X10_here_ df L b).1 := by
  unfold qm_X10_here_
  exact sn_node (sn_leaf (j := 63) (b := b) (i := 0) (f := qp_X10_here) (qs_X10_here_0 hd)) (sn_leaf (j := 63) (b := b) (i := 1) (f := qp_X10_here) (qs_X10_here_1 hd))
theorem tqm_X10_here {df : qe_Df} {L : Nat} {E : qe_E} (hd : qe_dok E.2.2.2 df) (b : Nat) : qx_sn (dp := dp) (qZ E L) 63 (qp_X10_here b) (qm_X10_here df L b).1 := by
  unfold qm_X10_here
  exact (tqm_X10_here_ hd b)
theorem tqm_X10_isWord_r {df : qe_Df} {L : Nat} {E : qe_E} (hd : qe_dok E.2.2.2 df) (b : Nat) : qx_sn (dp := dp) (qZ E L) 65 (qp_X10_isWord b) (qm_X10_isWord_r df L b).1 := by
  unfold qm_X10_isWord_r
  exact sn_node (sn_leaf (j := 65) (b := b) (i := 1) (f := qp_X10_isWord) (qs_X10_isWord_1 hd)) (sn_leaf (j := 65) (b := b) (i := 2) (f := qp_X10_isWord) (qs_X10_isWord_2 hd))
theorem tqm_X10_isWord_ {df : qe_Df} {L : Nat} {E : qe_E} (hd : qe_dok E.2.2.2 df) (b : Nat) : qx_sn (dp := dp) (qZ E L) 65 (qp_X10_isWord b) (qm_X10_isWord_ df L b).1 := by
  unfold qm_X10_isWord_
  exact sn_node (sn_leaf (j := 65) (b := b) (i := 0) (f := qp_X10_isWord) (qs_X10_isWord_0 hd)) (tqm_X10_isWord_r hd b)
theorem tqm_X10_isWord {df : qe_Df} {L : Nat} {E : qe_E} (hd : qe_dok E.2.2.2 df) (b : Nat) : qx_sn (dp := dp) (qZ E L) 65 (qp_X10_isWord b) (qm_X10_isWord df L b).1 := by
  unfold qm_X10_isWord
  exact (tqm_X10_isWord_ hd b)
theorem tqm_X10_word_lr {df : qe_Df} {L : Nat} {E : qe_E} (hd : qe_dok E.2.2.2 df) (b : Nat) : qx_sn (dp := dp) (qZ E L) 66 (qp_X10_word b) (qm_X10_word_lr df L b).1 := by
  unfold qm_X10_word_lr
  exact sn_node (sn_leaf (j := 66) (b := b) (i := 1) (f := qp_X10_word) (qs_X10_word_1 hd)) (sn_leaf (j := 66) (b := b) (i := 2) (f := qp_X10_word) (qs_X10_word_2 hd))
theorem tqm_X10_word_l {df : qe_Df} {L : Nat} {E : qe_E} (hd : qe_dok E.2.2.2 df) (b : Nat) : qx_sn (dp := dp) (qZ E L) 66 (qp_X10_word b) (qm_X10_word_l df L b).1 := by
  unfold qm_X10_word_l
  exact sn_node (sn_leaf (j := 66) (b := b) (i := 0) (f := qp_X10_word) (qs_X10_word_0 hd)) (tqm_X10_word_lr hd b)
theorem tqm_X10_word_rl {df : qe_Df} {L : Nat} {E : qe_E} (hd : qe_dok E.2.2.2 df) (b : Nat) : qx_sn (dp := dp) (qZ E L) 66 (qp_X10_word b) (qm_X10_word_rl df L b).1 := by
  unfold qm_X10_word_rl
  exact sn_node (sn_leaf (j := 66) (b := b) (i := 3) (f := qp_X10_word) (qs_X10_word_3 hd)) (sn_leaf (j := 66) (b := b) (i := 4) (f := qp_X10_word) (qs_X10_word_4 hd))
theorem tqm_X10_word_rr {df : qe_Df} {L : Nat} {E : qe_E} (hd : qe_dok E.2.2.2 df) (b : Nat) : qx_sn (dp := dp) (qZ E L) 66 (qp_X10_word b) (qm_X10_word_rr df L b).1 := by
  unfold qm_X10_word_rr
  exact sn_node (sn_leaf (j := 66) (b := b) (i := 5) (f := qp_X10_word) (qs_X10_word_5 hd)) (sn_leaf (j := 66) (b := b) (i := 6) (f := qp_X10_word) (qs_X10_word_6 hd))
theorem tqm_X10_word_r {df : qe_Df} {L : Nat} {E : qe_E} (hd : qe_dok E.2.2.2 df) (b : Nat) : qx_sn (dp := dp) (qZ E L) 66 (qp_X10_word b) (qm_X10_word_r df L b).1 := by
  unfold qm_X10_word_r
  exact sn_node (tqm_X10_word_rl hd b) (tqm_X10_word_rr hd b)
theorem tqm_X10_word_ {df : qe_Df} {L : Nat} {E : qe_E} (hd : qe_dok E.2.2.2 df) (b : Nat) : qx_sn (dp := dp) (qZ E L) 66 (qp_X10_word b) (qm_X10_word_ df L b).1 := by
  unfold qm_X10_word_
  exact sn_node (tqm_X10_word_l hd b) (tqm_X10_word_r hd b)
theorem tqm_X10_word {df : qe_Df} {L : Nat} {E : qe_E} (hd : qe_dok E.2.2.2 df) (b : Nat) : qx_sn (dp := dp) (qZ E L) 66 (qp_X10_word b) (qm_X10_word df L b).1 := by
  unfold qm_X10_word
  exact (tqm_X10_word_ hd b)
theorem tqm_X10_readCommand {df : qe_Df} {L : Nat} {E : qe_E} (hd : qe_dok E.2.2.2 df) (b : Nat) : qx_sn (dp := dp) (qZ E L) 70 (qp_X10_readCommand b) (qm_X10_readCommand df L b).1 := by
  unfold qm_X10_readCommand
  exact (sn_leaf (j := 70) (b := b) (i := 0) (f := qp_X10_readCommand) (qs_X10_readCommand_0 hd))
theorem tqm_X10_execute_ll {df : qe_Df} {L : Nat} {E : qe_E} (hd : qe_dok E.2.2.2 df) (b : Nat) : qx_sn (dp := dp) (qZ E L) 72 (qp_X10_execute b) (qm_X10_execute_ll df L b).1 := by
  unfold qm_X10_execute_ll
  exact sn_node (sn_leaf (j := 72) (b := b) (i := 0) (f := qp_X10_execute) (qs_X10_execute_0 hd)) (sn_leaf (j := 72) (b := b) (i := 1) (f := qp_X10_execute) (qs_X10_execute_1 hd))
theorem tqm_X10_execute_lr {df : qe_Df} {L : Nat} {E : qe_E} (hd : qe_dok E.2.2.2 df) (b : Nat) : qx_sn (dp := dp) (qZ E L) 72 (qp_X10_execute b) (qm_X10_execute_lr df L b).1 := by
  unfold qm_X10_execute_lr
  exact sn_node (sn_leaf (j := 72) (b := b) (i := 2) (f := qp_X10_execute) (qs_X10_execute_2 hd)) (sn_leaf (j := 72) (b := b) (i := 3) (f := qp_X10_execute) (qs_X10_execute_3 hd))
theorem tqm_X10_execute_l {df : qe_Df} {L : Nat} {E : qe_E} (hd : qe_dok E.2.2.2 df) (b : Nat) : qx_sn (dp := dp) (qZ E L) 72 (qp_X10_execute b) (qm_X10_execute_l df L b).1 := by
  unfold qm_X10_execute_l
  exact sn_node (tqm_X10_execute_ll hd b) (tqm_X10_execute_lr hd b)
theorem tqm_X10_execute_rl {df : qe_Df} {L : Nat} {E : qe_E} (hd : qe_dok E.2.2.2 df) (b : Nat) : qx_sn (dp := dp) (qZ E L) 72 (qp_X10_execute b) (qm_X10_execute_rl df L b).1 := by
  unfold qm_X10_execute_rl
  exact sn_node (sn_leaf (j := 72) (b := b) (i := 4) (f := qp_X10_execute) (qs_X10_execute_4 hd)) (sn_leaf (j := 72) (b := b) (i := 6) (f := qp_X10_execute) (qs_X10_execute_6 hd))
theorem tqm_X10_execute_rrr {df : qe_Df} {L : Nat} {E : qe_E} (hd : qe_dok E.2.2.2 df) (b : Nat) : qx_sn (dp := dp) (qZ E L) 72 (qp_X10_execute b) (qm_X10_execute_rrr df L b).1 := by
  unfold qm_X10_execute_rrr
  exact sn_node (sn_leaf (j := 72) (b := b) (i := 9) (f := qp_X10_execute) (qs_X10_execute_9 hd)) (sn_leaf (j := 72) (b := b) (i := 11) (f := qp_X10_execute) (qs_X10_execute_11 hd))
theorem tqm_X10_execute_rr {df : qe_Df} {L : Nat} {E : qe_E} (hd : qe_dok E.2.2.2 df) (b : Nat) : qx_sn (dp := dp) (qZ E L) 72 (qp_X10_execute b) (qm_X10_execute_rr df L b).1 := by
  unfold qm_X10_execute_rr
  exact sn_node (sn_leaf (j := 72) (b := b) (i := 8) (f := qp_X10_execute) (qs_X10_execute_8 hd)) (tqm_X10_execute_rrr hd b)
theorem tqm_X10_execute_r {df : qe_Df} {L : Nat} {E : qe_E} (hd : qe_dok E.2.2.2 df) (b : Nat) : qx_sn (dp := dp) (qZ E L) 72 (qp_X10_execute b) (qm_X10_execute_r df L b).1 := by
  unfold qm_X10_execute_r
  exact sn_node (tqm_X10_execute_rl hd b) (tqm_X10_execute_rr hd b)
theorem tqm_X10_execute_ {df : qe_Df} {L : Nat} {E : qe_E} (hd : qe_dok E.2.2.2 df) (b : Nat) : qx_sn (dp := dp) (qZ E L) 72 (qp_X10_execute b) (qm_X10_execute_ df L b).1 := by
  unfold qm_X10_execute_
  exact sn_node (tqm_X10_execute_l hd b) (tqm_X10_execute_r hd b)
theorem tqm_X10_execute {df : qe_Df} {L : Nat} {E : qe_E} (hd : qe_dok E.2.2.2 df) (b : Nat) : qx_sn (dp := dp) (qZ E L) 72 (qp_X10_execute b) (qm_X10_execute df L b).1 := by
  unfold qm_X10_execute
  exact (tqm_X10_execute_ hd b)
theorem tqm_X10_errorPosition {df : qe_Df} {L : Nat} {E : qe_E} (hd : qe_dok E.2.2.2 df) (b : Nat) : qx_sn (dp := dp) (qZ E L) 73 (qp_X10_errorPosition b) (qm_X10_errorPosition df L b).1 := by
  unfold qm_X10_errorPosition
  exact (sn_leaf (j := 73) (b := b) (i := 0) (f := qp_X10_errorPosition) (qs_X10_errorPosition_0 hd))
theorem tqm_X10_property_ {df : qe_Df} {L : Nat} {E : qe_E} (hd : qe_dok E.2.2.2 df) (b : Nat) : qx_sn (dp := dp) (qZ E L) 78 (qp_X10_property b) (qm_X10_property_ df L b).1 := by
  unfold qm_X10_property_
  exact sn_node (sn_leaf (j := 78) (b := b) (i := 0) (f := qp_X10_property) (qs_X10_property_0 hd)) (sn_leaf (j := 78) (b := b) (i := 2) (f := qp_X10_property) (qs_X10_property_2 hd))
theorem tqm_X10_property {df : qe_Df} {L : Nat} {E : qe_E} (hd : qe_dok E.2.2.2 df) (b : Nat) : qx_sn (dp := dp) (qZ E L) 78 (qp_X10_property b) (qm_X10_property df L b).1 := by
  unfold qm_X10_property
  exact (tqm_X10_property_ hd b)
theorem tqm_X10_character_r {df : qe_Df} {L : Nat} {E : qe_E} (hd : qe_dok E.2.2.2 df) (b : Nat) : qx_sn (dp := dp) (qZ E L) 79 (qp_X10_character b) (qm_X10_character_r df L b).1 := by
  unfold qm_X10_character_r
  exact sn_node (sn_leaf (j := 79) (b := b) (i := 1) (f := qp_X10_character) (qs_X10_character_1 hd)) (sn_leaf (j := 79) (b := b) (i := 3) (f := qp_X10_character) (qs_X10_character_3 hd))
theorem tqm_X10_character_ {df : qe_Df} {L : Nat} {E : qe_E} (hd : qe_dok E.2.2.2 df) (b : Nat) : qx_sn (dp := dp) (qZ E L) 79 (qp_X10_character b) (qm_X10_character_ df L b).1 := by
  unfold qm_X10_character_
  exact sn_node (sn_leaf (j := 79) (b := b) (i := 0) (f := qp_X10_character) (qs_X10_character_0 hd)) (tqm_X10_character_r hd b)
theorem tqm_X10_character {df : qe_Df} {L : Nat} {E : qe_E} (hd : qe_dok E.2.2.2 df) (b : Nat) : qx_sn (dp := dp) (qZ E L) 79 (qp_X10_character b) (qm_X10_character df L b).1 := by
  unfold qm_X10_character
  exact (tqm_X10_character_ hd b)
theorem tqm_X10_difference_l {df : qe_Df} {L : Nat} {E : qe_E} (hd : qe_dok E.2.2.2 df) (b : Nat) : qx_sn (dp := dp) (qZ E L) 80 (qp_X10_difference b) (qm_X10_difference_l df L b).1 := by
  unfold qm_X10_difference_l
  exact sn_node (sn_leaf (j := 80) (b := b) (i := 0) (f := qp_X10_difference) (qs_X10_difference_0 hd)) (sn_leaf (j := 80) (b := b) (i := 1) (f := qp_X10_difference) (qs_X10_difference_1 hd))
theorem tqm_X10_difference_r {df : qe_Df} {L : Nat} {E : qe_E} (hd : qe_dok E.2.2.2 df) (b : Nat) : qx_sn (dp := dp) (qZ E L) 80 (qp_X10_difference b) (qm_X10_difference_r df L b).1 := by
  unfold qm_X10_difference_r
  exact sn_node (sn_leaf (j := 80) (b := b) (i := 2) (f := qp_X10_difference) (qs_X10_difference_2 hd)) (sn_leaf (j := 80) (b := b) (i := 4) (f := qp_X10_difference) (qs_X10_difference_4 hd))
theorem tqm_X10_difference_ {df : qe_Df} {L : Nat} {E : qe_E} (hd : qe_dok E.2.2.2 df) (b : Nat) : qx_sn (dp := dp) (qZ E L) 80 (qp_X10_difference b) (qm_X10_difference_ df L b).1 := by
  unfold qm_X10_difference_
  exact sn_node (tqm_X10_difference_l hd b) (tqm_X10_difference_r hd b)
theorem tqm_X10_difference {df : qe_Df} {L : Nat} {E : qe_E} (hd : qe_dok E.2.2.2 df) (b : Nat) : qx_sn (dp := dp) (qZ E L) 80 (qp_X10_difference b) (qm_X10_difference df L b).1 := by
  unfold qm_X10_difference
  exact (tqm_X10_difference_ hd b)
theorem tqm_X10_size_lr {df : qe_Df} {L : Nat} {E : qe_E} (hd : qe_dok E.2.2.2 df) (b : Nat) : qx_sn (dp := dp) (qZ E L) 81 (qp_X10_size b) (qm_X10_size_lr df L b).1 := by
  unfold qm_X10_size_lr
  exact sn_node (sn_leaf (j := 81) (b := b) (i := 1) (f := qp_X10_size) (qs_X10_size_1 hd)) (sn_leaf (j := 81) (b := b) (i := 2) (f := qp_X10_size) (qs_X10_size_2 hd))
theorem tqm_X10_size_l {df : qe_Df} {L : Nat} {E : qe_E} (hd : qe_dok E.2.2.2 df) (b : Nat) : qx_sn (dp := dp) (qZ E L) 81 (qp_X10_size b) (qm_X10_size_l df L b).1 := by
  unfold qm_X10_size_l
  exact sn_node (sn_leaf (j := 81) (b := b) (i := 0) (f := qp_X10_size) (qs_X10_size_0 hd)) (tqm_X10_size_lr hd b)
theorem tqm_X10_size_rr {df : qe_Df} {L : Nat} {E : qe_E} (hd : qe_dok E.2.2.2 df) (b : Nat) : qx_sn (dp := dp) (qZ E L) 81 (qp_X10_size b) (qm_X10_size_rr df L b).1 := by
  unfold qm_X10_size_rr
  exact sn_node (sn_leaf (j := 81) (b := b) (i := 4) (f := qp_X10_size) (qs_X10_size_4 hd)) (sn_leaf (j := 81) (b := b) (i := 5) (f := qp_X10_size) (qs_X10_size_5 hd))
theorem tqm_X10_size_r {df : qe_Df} {L : Nat} {E : qe_E} (hd : qe_dok E.2.2.2 df) (b : Nat) : qx_sn (dp := dp) (qZ E L) 81 (qp_X10_size b) (qm_X10_size_r df L b).1 := by
  unfold qm_X10_size_r
  exact sn_node (sn_leaf (j := 81) (b := b) (i := 3) (f := qp_X10_size) (qs_X10_size_3 hd)) (tqm_X10_size_rr hd b)
theorem tqm_X10_size_ {df : qe_Df} {L : Nat} {E : qe_E} (hd : qe_dok E.2.2.2 df) (b : Nat) : qx_sn (dp := dp) (qZ E L) 81 (qp_X10_size b) (qm_X10_size_ df L b).1 := by
  unfold qm_X10_size_
  exact sn_node (tqm_X10_size_l hd b) (tqm_X10_size_r hd b)
theorem tqm_X10_size {df : qe_Df} {L : Nat} {E : qe_E} (hd : qe_dok E.2.2.2 df) (b : Nat) : qx_sn (dp := dp) (qZ E L) 81 (qp_X10_size b) (qm_X10_size df L b).1 := by
  unfold qm_X10_size
  exact (tqm_X10_size_ hd b)
theorem tqm_X10_takeBuffer {df : qe_Df} {L : Nat} {E : qe_E} (hd : qe_dok E.2.2.2 df) (b : Nat) : qx_sn (dp := dp) (qZ E L) 82 (qp_X10_takeBuffer b) (qm_X10_takeBuffer df L b).1 := by
  unfold qm_X10_takeBuffer
  exact (sn_leaf (j := 82) (b := b) (i := 0) (f := qp_X10_takeBuffer) (qs_X10_takeBuffer_0 hd))
theorem tqm_X10_linear_ {df : qe_Df} {L : Nat} {E : qe_E} (hd : qe_dok E.2.2.2 df) (b : Nat) : qx_sn (dp := dp) (qZ E L) 85 (qp_X10_linear b) (qm_X10_linear_ df L b).1 := by
  unfold qm_X10_linear_
  exact sn_node (sn_leaf (j := 85) (b := b) (i := 0) (f := qp_X10_linear) (qs_X10_linear_0 hd)) (sn_leaf (j := 85) (b := b) (i := 1) (f := qp_X10_linear) (qs_X10_linear_1 hd))
theorem tqm_X10_linear {df : qe_Df} {L : Nat} {E : qe_E} (hd : qe_dok E.2.2.2 df) (b : Nat) : qx_sn (dp := dp) (qZ E L) 85 (qp_X10_linear b) (qm_X10_linear df L b).1 := by
  unfold qm_X10_linear
  exact (tqm_X10_linear_ hd b)
theorem tqm_X10_search_ {df : qe_Df} {L : Nat} {E : qe_E} (hd : qe_dok E.2.2.2 df) (b : Nat) : qx_sn (dp := dp) (qZ E L) 88 (qp_X10_search b) (qm_X10_search_ df L b).1 := by
  unfold qm_X10_search_
  exact sn_node (sn_leaf (j := 88) (b := b) (i := 0) (f := qp_X10_search) (qs_X10_search_0 hd)) (sn_leaf (j := 88) (b := b) (i := 1) (f := qp_X10_search) (qs_X10_search_1 hd))
theorem tqm_X10_search {df : qe_Df} {L : Nat} {E : qe_E} (hd : qe_dok E.2.2.2 df) (b : Nat) : qx_sn (dp := dp) (qZ E L) 88 (qp_X10_search b) (qm_X10_search df L b).1 := by
  unfold qm_X10_search
  exact (tqm_X10_search_ hd b)
theorem tqm_X10_marked_ {df : qe_Df} {L : Nat} {E : qe_E} (hd : qe_dok E.2.2.2 df) (b : Nat) : qx_sn (dp := dp) (qZ E L) 89 (qp_X10_marked b) (qm_X10_marked_ df L b).1 := by
  unfold qm_X10_marked_
  exact sn_node (sn_leaf (j := 89) (b := b) (i := 0) (f := qp_X10_marked) (qs_X10_marked_0 hd)) (sn_leaf (j := 89) (b := b) (i := 1) (f := qp_X10_marked) (qs_X10_marked_1 hd))
theorem tqm_X10_marked {df : qe_Df} {L : Nat} {E : qe_E} (hd : qe_dok E.2.2.2 df) (b : Nat) : qx_sn (dp := dp) (qZ E L) 89 (qp_X10_marked b) (qm_X10_marked df L b).1 := by
  unfold qm_X10_marked
  exact (tqm_X10_marked_ hd b)
theorem tqm_X10_ofLength_ {df : qe_Df} {L : Nat} {E : qe_E} (hd : qe_dok E.2.2.2 df) (b : Nat) : qx_sn (dp := dp) (qZ E L) 92 (qp_X10_ofLength b) (qm_X10_ofLength_ df L b).1 := by
  unfold qm_X10_ofLength_
  exact sn_node (sn_leaf (j := 92) (b := b) (i := 0) (f := qp_X10_ofLength) (qs_X10_ofLength_0 hd)) (sn_leaf (j := 92) (b := b) (i := 1) (f := qp_X10_ofLength) (qs_X10_ofLength_1 hd))
theorem tqm_X10_ofLength {df : qe_Df} {L : Nat} {E : qe_E} (hd : qe_dok E.2.2.2 df) (b : Nat) : qx_sn (dp := dp) (qZ E L) 92 (qp_X10_ofLength b) (qm_X10_ofLength df L b).1 := by
  unfold qm_X10_ofLength
  exact (tqm_X10_ofLength_ hd b)
theorem tqm_X10_climb_ {df : qe_Df} {L : Nat} {E : qe_E} (hd : qe_dok E.2.2.2 df) (b : Nat) : qx_sn (dp := dp) (qZ E L) 94 (qp_X10_climb b) (qm_X10_climb_ df L b).1 := by
  unfold qm_X10_climb_
  exact sn_node (sn_leaf (j := 94) (b := b) (i := 0) (f := qp_X10_climb) (qs_X10_climb_0 hd)) (sn_leaf (j := 94) (b := b) (i := 1) (f := qp_X10_climb) (qs_X10_climb_1 hd))
theorem tqm_X10_climb {df : qe_Df} {L : Nat} {E : qe_E} (hd : qe_dok E.2.2.2 df) (b : Nat) : qx_sn (dp := dp) (qZ E L) 94 (qp_X10_climb b) (qm_X10_climb df L b).1 := by
  unfold qm_X10_climb
  exact (tqm_X10_climb_ hd b)
theorem tqm_X10_trees_ll {df : qe_Df} {L : Nat} {E : qe_E} (hd : qe_dok E.2.2.2 df) (b : Nat) : qx_sn (dp := dp) (qZ E L) 96 (qp_X10_trees b) (qm_X10_trees_ll df L b).1 := by
  unfold qm_X10_trees_ll
  exact sn_node (sn_leaf (j := 96) (b := b) (i := 0) (f := qp_X10_trees) (qs_X10_trees_0 hd)) (sn_leaf (j := 96) (b := b) (i := 1) (f := qp_X10_trees) (qs_X10_trees_1 hd))
theorem tqm_X10_trees_lrr {df : qe_Df} {L : Nat} {E : qe_E} (hd : qe_dok E.2.2.2 df) (b : Nat) : qx_sn (dp := dp) (qZ E L) 96 (qp_X10_trees b) (qm_X10_trees_lrr df L b).1 := by
  unfold qm_X10_trees_lrr
  exact sn_node (sn_leaf (j := 96) (b := b) (i := 3) (f := qp_X10_trees) (qs_X10_trees_3 hd)) (sn_leaf (j := 96) (b := b) (i := 4) (f := qp_X10_trees) (qs_X10_trees_4 hd))
theorem tqm_X10_trees_lr {df : qe_Df} {L : Nat} {E : qe_E} (hd : qe_dok E.2.2.2 df) (b : Nat) : qx_sn (dp := dp) (qZ E L) 96 (qp_X10_trees b) (qm_X10_trees_lr df L b).1 := by
  unfold qm_X10_trees_lr
  exact sn_node (sn_leaf (j := 96) (b := b) (i := 2) (f := qp_X10_trees) (qs_X10_trees_2 hd)) (tqm_X10_trees_lrr hd b)
theorem tqm_X10_trees_l {df : qe_Df} {L : Nat} {E : qe_E} (hd : qe_dok E.2.2.2 df) (b : Nat) : qx_sn (dp := dp) (qZ E L) 96 (qp_X10_trees b) (qm_X10_trees_l df L b).1 := by
  unfold qm_X10_trees_l
  exact sn_node (tqm_X10_trees_ll hd b) (tqm_X10_trees_lr hd b)
theorem tqm_X10_trees_rlr {df : qe_Df} {L : Nat} {E : qe_E} (hd : qe_dok E.2.2.2 df) (b : Nat) : qx_sn (dp := dp) (qZ E L) 96 (qp_X10_trees b) (qm_X10_trees_rlr df L b).1 := by
  unfold qm_X10_trees_rlr
  exact sn_node (sn_leaf (j := 96) (b := b) (i := 6) (f := qp_X10_trees) (qs_X10_trees_6 hd)) (sn_leaf (j := 96) (b := b) (i := 7) (f := qp_X10_trees) (qs_X10_trees_7 hd))
theorem tqm_X10_trees_rl {df : qe_Df} {L : Nat} {E : qe_E} (hd : qe_dok E.2.2.2 df) (b : Nat) : qx_sn (dp := dp) (qZ E L) 96 (qp_X10_trees b) (qm_X10_trees_rl df L b).1 := by
  unfold qm_X10_trees_rl
  exact sn_node (sn_leaf (j := 96) (b := b) (i := 5) (f := qp_X10_trees) (qs_X10_trees_5 hd)) (tqm_X10_trees_rlr hd b)
theorem tqm_X10_trees_rrr {df : qe_Df} {L : Nat} {E : qe_E} (hd : qe_dok E.2.2.2 df) (b : Nat) : qx_sn (dp := dp) (qZ E L) 96 (qp_X10_trees b) (qm_X10_trees_rrr df L b).1 := by
  unfold qm_X10_trees_rrr
  exact sn_node (sn_leaf (j := 96) (b := b) (i := 9) (f := qp_X10_trees) (qs_X10_trees_9 hd)) (sn_leaf (j := 96) (b := b) (i := 10) (f := qp_X10_trees) (qs_X10_trees_10 hd))
theorem tqm_X10_trees_rr {df : qe_Df} {L : Nat} {E : qe_E} (hd : qe_dok E.2.2.2 df) (b : Nat) : qx_sn (dp := dp) (qZ E L) 96 (qp_X10_trees b) (qm_X10_trees_rr df L b).1 := by
  unfold qm_X10_trees_rr
  exact sn_node (sn_leaf (j := 96) (b := b) (i := 8) (f := qp_X10_trees) (qs_X10_trees_8 hd)) (tqm_X10_trees_rrr hd b)
theorem tqm_X10_trees_r {df : qe_Df} {L : Nat} {E : qe_E} (hd : qe_dok E.2.2.2 df) (b : Nat) : qx_sn (dp := dp) (qZ E L) 96 (qp_X10_trees b) (qm_X10_trees_r df L b).1 := by
  unfold qm_X10_trees_r
  exact sn_node (tqm_X10_trees_rl hd b) (tqm_X10_trees_rr hd b)
theorem tqm_X10_trees_ {df : qe_Df} {L : Nat} {E : qe_E} (hd : qe_dok E.2.2.2 df) (b : Nat) : qx_sn (dp := dp) (qZ E L) 96 (qp_X10_trees b) (qm_X10_trees_ df L b).1 := by
  unfold qm_X10_trees_
  exact sn_node (tqm_X10_trees_l hd b) (tqm_X10_trees_r hd b)
theorem tqm_X10_trees {df : qe_Df} {L : Nat} {E : qe_E} (hd : qe_dok E.2.2.2 df) (b : Nat) : qx_sn (dp := dp) (qZ E L) 96 (qp_X10_trees b) (qm_X10_trees df L b).1 := by
  unfold qm_X10_trees
  exact (tqm_X10_trees_ hd b)
theorem tqm_X10_separates_ {df : qe_Df} {L : Nat} {E : qe_E} (hd : qe_dok E.2.2.2 df) (b : Nat) : qx_sn (dp := dp) (qZ E L) 97 (qp_X10_separates b) (qm_X10_separates_ df L b).1 := by
  unfold qm_X10_separates_
  exact sn_node (sn_leaf (j := 97) (b := b) (i := 0) (f := qp_X10_separates) (qs_X10_separates_0 hd)) (sn_leaf (j := 97) (b := b) (i := 1) (f := qp_X10_separates) (qs_X10_separates_1 hd))
theorem tqm_X10_separates {df : qe_Df} {L : Nat} {E : qe_E} (hd : qe_dok E.2.2.2 df) (b : Nat) : qx_sn (dp := dp) (qZ E L) 97 (qp_X10_separates b) (qm_X10_separates df L b).1 := by
  unfold qm_X10_separates
  exact (tqm_X10_separates_ hd b)
theorem tqm_X10_sizeOf_r {df : qe_Df} {L : Nat} {E : qe_E} (hd : qe_dok E.2.2.2 df) (b : Nat) : qx_sn (dp := dp) (qZ E L) 98 (qp_X10_sizeOf b) (qm_X10_sizeOf_r df L b).1 := by
  unfold qm_X10_sizeOf_r
  exact sn_node (sn_leaf (j := 98) (b := b) (i := 1) (f := qp_X10_sizeOf) (qs_X10_sizeOf_1 hd)) (sn_leaf (j := 98) (b := b) (i := 2) (f := qp_X10_sizeOf) (qs_X10_sizeOf_2 hd))
theorem tqm_X10_sizeOf_ {df : qe_Df} {L : Nat} {E : qe_E} (hd : qe_dok E.2.2.2 df) (b : Nat) : qx_sn (dp := dp) (qZ E L) 98 (qp_X10_sizeOf b) (qm_X10_sizeOf_ df L b).1 := by
  unfold qm_X10_sizeOf_
  exact sn_node (sn_leaf (j := 98) (b := b) (i := 0) (f := qp_X10_sizeOf) (qs_X10_sizeOf_0 hd)) (tqm_X10_sizeOf_r hd b)
theorem tqm_X10_sizeOf {df : qe_Df} {L : Nat} {E : qe_E} (hd : qe_dok E.2.2.2 df) (b : Nat) : qx_sn (dp := dp) (qZ E L) 98 (qp_X10_sizeOf b) (qm_X10_sizeOf df L b).1 := by
  unfold qm_X10_sizeOf
  exact (tqm_X10_sizeOf_ hd b)
theorem tqm_X10_select_lr {df : qe_Df} {L : Nat} {E : qe_E} (hd : qe_dok E.2.2.2 df) (b : Nat) : qx_sn (dp := dp) (qZ E L) 100 (qp_X10_select b) (qm_X10_select_lr df L b).1 := by
  unfold qm_X10_select_lr
  exact sn_node (sn_leaf (j := 100) (b := b) (i := 1) (f := qp_X10_select) (qs_X10_select_1 hd)) (sn_leaf (j := 100) (b := b) (i := 2) (f := qp_X10_select) (qs_X10_select_2 hd))
theorem tqm_X10_select_l {df : qe_Df} {L : Nat} {E : qe_E} (hd : qe_dok E.2.2.2 df) (b : Nat) : qx_sn (dp := dp) (qZ E L) 100 (qp_X10_select b) (qm_X10_select_l df L b).1 := by
  unfold qm_X10_select_l
  exact sn_node (sn_leaf (j := 100) (b := b) (i := 0) (f := qp_X10_select) (qs_X10_select_0 hd)) (tqm_X10_select_lr hd b)
theorem tqm_X10_select_rl {df : qe_Df} {L : Nat} {E : qe_E} (hd : qe_dok E.2.2.2 df) (b : Nat) : qx_sn (dp := dp) (qZ E L) 100 (qp_X10_select b) (qm_X10_select_rl df L b).1 := by
  unfold qm_X10_select_rl
  exact sn_node (sn_leaf (j := 100) (b := b) (i := 3) (f := qp_X10_select) (qs_X10_select_3 hd)) (sn_leaf (j := 100) (b := b) (i := 4) (f := qp_X10_select) (qs_X10_select_4 hd))
theorem tqm_X10_select_rr {df : qe_Df} {L : Nat} {E : qe_E} (hd : qe_dok E.2.2.2 df) (b : Nat) : qx_sn (dp := dp) (qZ E L) 100 (qp_X10_select b) (qm_X10_select_rr df L b).1 := by
  unfold qm_X10_select_rr
  exact sn_node (sn_leaf (j := 100) (b := b) (i := 5) (f := qp_X10_select) (qs_X10_select_5 hd)) (sn_leaf (j := 100) (b := b) (i := 6) (f := qp_X10_select) (qs_X10_select_6 hd))
theorem tqm_X10_select_r {df : qe_Df} {L : Nat} {E : qe_E} (hd : qe_dok E.2.2.2 df) (b : Nat) : qx_sn (dp := dp) (qZ E L) 100 (qp_X10_select b) (qm_X10_select_r df L b).1 := by
  unfold qm_X10_select_r
  exact sn_node (tqm_X10_select_rl hd b) (tqm_X10_select_rr hd b)
theorem tqm_X10_select_ {df : qe_Df} {L : Nat} {E : qe_E} (hd : qe_dok E.2.2.2 df) (b : Nat) : qx_sn (dp := dp) (qZ E L) 100 (qp_X10_select b) (qm_X10_select_ df L b).1 := by
  unfold qm_X10_select_
  exact sn_node (tqm_X10_select_l hd b) (tqm_X10_select_r hd b)
theorem tqm_X10_select {df : qe_Df} {L : Nat} {E : qe_E} (hd : qe_dok E.2.2.2 df) (b : Nat) : qx_sn (dp := dp) (qZ E L) 100 (qp_X10_select b) (qm_X10_select df L b).1 := by
  unfold qm_X10_select
  exact (tqm_X10_select_ hd b)
theorem tqm_X10_hashOfText_l {df : qe_Df} {L : Nat} {E : qe_E} (hd : qe_dok E.2.2.2 df) (b : Nat) : qx_sn (dp := dp) (qZ E L) 101 (qp_X10_hashOfText b) (qm_X10_hashOfText_l df L b).1 := by
  unfold qm_X10_hashOfText_l
  exact sn_node (sn_leaf (j := 101) (b := b) (i := 0) (f := qp_X10_hashOfText) (qs_X10_hashOfText_0 hd)) (sn_leaf (j := 101) (b := b) (i := 1) (f := qp_X10_hashOfText) (qs_X10_hashOfText_1 hd))
theorem tqm_X10_hashOfText_r {df : qe_Df} {L : Nat} {E : qe_E} (hd : qe_dok E.2.2.2 df) (b : Nat) : qx_sn (dp := dp) (qZ E L) 101 (qp_X10_hashOfText b) (qm_X10_hashOfText_r df L b).1 := by
  unfold qm_X10_hashOfText_r
  exact sn_node (sn_leaf (j := 101) (b := b) (i := 2) (f := qp_X10_hashOfText) (qs_X10_hashOfText_2 hd)) (sn_leaf (j := 101) (b := b) (i := 3) (f := qp_X10_hashOfText) (qs_X10_hashOfText_3 hd))
theorem tqm_X10_hashOfText_ {df : qe_Df} {L : Nat} {E : qe_E} (hd : qe_dok E.2.2.2 df) (b : Nat) : qx_sn (dp := dp) (qZ E L) 101 (qp_X10_hashOfText b) (qm_X10_hashOfText_ df L b).1 := by
  unfold qm_X10_hashOfText_
  exact sn_node (tqm_X10_hashOfText_l hd b) (tqm_X10_hashOfText_r hd b)
theorem tqm_X10_hashOfText {df : qe_Df} {L : Nat} {E : qe_E} (hd : qe_dok E.2.2.2 df) (b : Nat) : qx_sn (dp := dp) (qZ E L) 101 (qp_X10_hashOfText b) (qm_X10_hashOfText df L b).1 := by
  unfold qm_X10_hashOfText
  exact (tqm_X10_hashOfText_ hd b)
theorem tqm_X10_prepare_l {df : qe_Df} {L : Nat} {E : qe_E} (hd : qe_dok E.2.2.2 df) (b : Nat) : qx_sn (dp := dp) (qZ E L) 106 (qp_X10_prepare b) (qm_X10_prepare_l df L b).1 := by
  unfold qm_X10_prepare_l
  exact sn_node (sn_leaf (j := 106) (b := b) (i := 0) (f := qp_X10_prepare) (qs_X10_prepare_0 hd)) (sn_leaf (j := 106) (b := b) (i := 1) (f := qp_X10_prepare) (qs_X10_prepare_1 hd))
theorem tqm_X10_prepare_r {df : qe_Df} {L : Nat} {E : qe_E} (hd : qe_dok E.2.2.2 df) (b : Nat) : qx_sn (dp := dp) (qZ E L) 106 (qp_X10_prepare b) (qm_X10_prepare_r df L b).1 := by
  unfold qm_X10_prepare_r
  exact sn_node (sn_leaf (j := 106) (b := b) (i := 2) (f := qp_X10_prepare) (qs_X10_prepare_2 hd)) (sn_leaf (j := 106) (b := b) (i := 3) (f := qp_X10_prepare) (qs_X10_prepare_3 hd))
theorem tqm_X10_prepare_ {df : qe_Df} {L : Nat} {E : qe_E} (hd : qe_dok E.2.2.2 df) (b : Nat) : qx_sn (dp := dp) (qZ E L) 106 (qp_X10_prepare b) (qm_X10_prepare_ df L b).1 := by
  unfold qm_X10_prepare_
  exact sn_node (tqm_X10_prepare_l hd b) (tqm_X10_prepare_r hd b)
theorem tqm_X10_prepare {df : qe_Df} {L : Nat} {E : qe_E} (hd : qe_dok E.2.2.2 df) (b : Nat) : qx_sn (dp := dp) (qZ E L) 106 (qp_X10_prepare b) (qm_X10_prepare df L b).1 := by
  unfold qm_X10_prepare
  exact (tqm_X10_prepare_ hd b)
theorem tqm_X10_hashed {df : qe_Df} {L : Nat} {E : qe_E} (hd : qe_dok E.2.2.2 df) (b : Nat) : qx_sn (dp := dp) (qZ E L) 107 (qp_X10_hashed b) (qm_X10_hashed df L b).1 := by
  unfold qm_X10_hashed
  exact (sn_leaf (j := 107) (b := b) (i := 0) (f := qp_X10_hashed) (qs_X10_hashed_0 hd))
theorem tqm_X10_canRun_r {df : qe_Df} {L : Nat} {E : qe_E} (hd : qe_dok E.2.2.2 df) (b : Nat) : qx_sn (dp := dp) (qZ E L) 108 (qp_X10_canRun b) (qm_X10_canRun_r df L b).1 := by
  unfold qm_X10_canRun_r
  exact sn_node (sn_leaf (j := 108) (b := b) (i := 1) (f := qp_X10_canRun) (qs_X10_canRun_1 hd)) (sn_leaf (j := 108) (b := b) (i := 2) (f := qp_X10_canRun) (qs_X10_canRun_2 hd))
theorem tqm_X10_canRun_ {df : qe_Df} {L : Nat} {E : qe_E} (hd : qe_dok E.2.2.2 df) (b : Nat) : qx_sn (dp := dp) (qZ E L) 108 (qp_X10_canRun b) (qm_X10_canRun_ df L b).1 := by
  unfold qm_X10_canRun_
  exact sn_node (sn_leaf (j := 108) (b := b) (i := 0) (f := qp_X10_canRun) (qs_X10_canRun_0 hd)) (tqm_X10_canRun_r hd b)
theorem tqm_X10_canRun {df : qe_Df} {L : Nat} {E : qe_E} (hd : qe_dok E.2.2.2 df) (b : Nat) : qx_sn (dp := dp) (qZ E L) 108 (qp_X10_canRun b) (qm_X10_canRun df L b).1 := by
  unfold qm_X10_canRun
  exact (tqm_X10_canRun_ hd b)
theorem tqm_X10_refusal_l {df : qe_Df} {L : Nat} {E : qe_E} (hd : qe_dok E.2.2.2 df) (b : Nat) : qx_sn (dp := dp) (qZ E L) 109 (qp_X10_refusal b) (qm_X10_refusal_l df L b).1 := by
  unfold qm_X10_refusal_l
  exact sn_node (sn_leaf (j := 109) (b := b) (i := 0) (f := qp_X10_refusal) (qs_X10_refusal_0 hd)) (sn_leaf (j := 109) (b := b) (i := 1) (f := qp_X10_refusal) (qs_X10_refusal_1 hd))
theorem tqm_X10_refusal_r {df : qe_Df} {L : Nat} {E : qe_E} (hd : qe_dok E.2.2.2 df) (b : Nat) : qx_sn (dp := dp) (qZ E L) 109 (qp_X10_refusal b) (qm_X10_refusal_r df L b).1 := by
  unfold qm_X10_refusal_r
  exact sn_node (sn_leaf (j := 109) (b := b) (i := 2) (f := qp_X10_refusal) (qs_X10_refusal_2 hd)) (sn_leaf (j := 109) (b := b) (i := 3) (f := qp_X10_refusal) (qs_X10_refusal_3 hd))
theorem tqm_X10_refusal_ {df : qe_Df} {L : Nat} {E : qe_E} (hd : qe_dok E.2.2.2 df) (b : Nat) : qx_sn (dp := dp) (qZ E L) 109 (qp_X10_refusal b) (qm_X10_refusal_ df L b).1 := by
  unfold qm_X10_refusal_
  exact sn_node (tqm_X10_refusal_l hd b) (tqm_X10_refusal_r hd b)
theorem tqm_X10_refusal {df : qe_Df} {L : Nat} {E : qe_E} (hd : qe_dok E.2.2.2 df) (b : Nat) : qx_sn (dp := dp) (qZ E L) 109 (qp_X10_refusal b) (qm_X10_refusal df L b).1 := by
  unfold qm_X10_refusal
  exact (tqm_X10_refusal_ hd b)
theorem tqm_X10_run_l {df : qe_Df} {L : Nat} {E : qe_E} (hd : qe_dok E.2.2.2 df) (b : Nat) : qx_sn (dp := dp) (qZ E L) 110 (qp_X10_run b) (qm_X10_run_l df L b).1 := by
  unfold qm_X10_run_l
  exact sn_node (sn_leaf (j := 110) (b := b) (i := 0) (f := qp_X10_run) (qs_X10_run_0 hd)) (sn_leaf (j := 110) (b := b) (i := 1) (f := qp_X10_run) (qs_X10_run_1 hd))
theorem tqm_X10_run_rr {df : qe_Df} {L : Nat} {E : qe_E} (hd : qe_dok E.2.2.2 df) (b : Nat) : qx_sn (dp := dp) (qZ E L) 110 (qp_X10_run b) (qm_X10_run_rr df L b).1 := by
  unfold qm_X10_run_rr
  exact sn_node (sn_leaf (j := 110) (b := b) (i := 3) (f := qp_X10_run) (qs_X10_run_3 hd)) (sn_leaf (j := 110) (b := b) (i := 4) (f := qp_X10_run) (qs_X10_run_4 hd))
theorem tqm_X10_run_r {df : qe_Df} {L : Nat} {E : qe_E} (hd : qe_dok E.2.2.2 df) (b : Nat) : qx_sn (dp := dp) (qZ E L) 110 (qp_X10_run b) (qm_X10_run_r df L b).1 := by
  unfold qm_X10_run_r
  exact sn_node (sn_leaf (j := 110) (b := b) (i := 2) (f := qp_X10_run) (qs_X10_run_2 hd)) (tqm_X10_run_rr hd b)
theorem tqm_X10_run_ {df : qe_Df} {L : Nat} {E : qe_E} (hd : qe_dok E.2.2.2 df) (b : Nat) : qx_sn (dp := dp) (qZ E L) 110 (qp_X10_run b) (qm_X10_run_ df L b).1 := by
  unfold qm_X10_run_
  exact sn_node (tqm_X10_run_l hd b) (tqm_X10_run_r hd b)
theorem tqm_X10_run {df : qe_Df} {L : Nat} {E : qe_E} (hd : qe_dok E.2.2.2 df) (b : Nat) : qx_sn (dp := dp) (qZ E L) 110 (qp_X10_run b) (qm_X10_run df L b).1 := by
  unfold qm_X10_run
  exact (tqm_X10_run_ hd b)
theorem tqm_X10_find_ {df : qe_Df} {L : Nat} {E : qe_E} (hd : qe_dok E.2.2.2 df) (b : Nat) : qx_sn (dp := dp) (qZ E L) 111 (qp_X10_find b) (qm_X10_find_ df L b).1 := by
  unfold qm_X10_find_
  exact sn_node (sn_leaf (j := 111) (b := b) (i := 0) (f := qp_X10_find) (qs_X10_find_0 hd)) (sn_leaf (j := 111) (b := b) (i := 1) (f := qp_X10_find) (qs_X10_find_1 hd))
theorem tqm_X10_find {df : qe_Df} {L : Nat} {E : qe_E} (hd : qe_dok E.2.2.2 df) (b : Nat) : qx_sn (dp := dp) (qZ E L) 111 (qp_X10_find b) (qm_X10_find df L b).1 := by
  unfold qm_X10_find
  exact (tqm_X10_find_ hd b)
theorem tqm_X10_branch_r {df : qe_Df} {L : Nat} {E : qe_E} (hd : qe_dok E.2.2.2 df) (b : Nat) : qx_sn (dp := dp) (qZ E L) 112 (qp_X10_branch b) (qm_X10_branch_r df L b).1 := by
  unfold qm_X10_branch_r
  exact sn_node (sn_leaf (j := 112) (b := b) (i := 1) (f := qp_X10_branch) (qs_X10_branch_1 hd)) (sn_leaf (j := 112) (b := b) (i := 3) (f := qp_X10_branch) (qs_X10_branch_3 hd))
theorem tqm_X10_branch_ {df : qe_Df} {L : Nat} {E : qe_E} (hd : qe_dok E.2.2.2 df) (b : Nat) : qx_sn (dp := dp) (qZ E L) 112 (qp_X10_branch b) (qm_X10_branch_ df L b).1 := by
  unfold qm_X10_branch_
  exact sn_node (sn_leaf (j := 112) (b := b) (i := 0) (f := qp_X10_branch) (qs_X10_branch_0 hd)) (tqm_X10_branch_r hd b)
theorem tqm_X10_branch {df : qe_Df} {L : Nat} {E : qe_E} (hd : qe_dok E.2.2.2 df) (b : Nat) : qx_sn (dp := dp) (qZ E L) 112 (qp_X10_branch b) (qm_X10_branch df L b).1 := by
  unfold qm_X10_branch
  exact (tqm_X10_branch_ hd b)
theorem tqm_X10_examined_ {df : qe_Df} {L : Nat} {E : qe_E} (hd : qe_dok E.2.2.2 df) (b : Nat) : qx_sn (dp := dp) (qZ E L) 113 (qp_X10_examined b) (qm_X10_examined_ df L b).1 := by
  unfold qm_X10_examined_
  exact sn_node (sn_leaf (j := 113) (b := b) (i := 0) (f := qp_X10_examined) (qs_X10_examined_0 hd)) (sn_leaf (j := 113) (b := b) (i := 1) (f := qp_X10_examined) (qs_X10_examined_1 hd))
theorem tqm_X10_examined {df : qe_Df} {L : Nat} {E : qe_E} (hd : qe_dok E.2.2.2 df) (b : Nat) : qx_sn (dp := dp) (qZ E L) 113 (qp_X10_examined b) (qm_X10_examined df L b).1 := by
  unfold qm_X10_examined
  exact (tqm_X10_examined_ hd b)
theorem tqm_X10_costOf_ {df : qe_Df} {L : Nat} {E : qe_E} (hd : qe_dok E.2.2.2 df) (b : Nat) : qx_sn (dp := dp) (qZ E L) 114 (qp_X10_costOf b) (qm_X10_costOf_ df L b).1 := by
  unfold qm_X10_costOf_
  exact sn_node (sn_leaf (j := 114) (b := b) (i := 0) (f := qp_X10_costOf) (qs_X10_costOf_0 hd)) (sn_leaf (j := 114) (b := b) (i := 1) (f := qp_X10_costOf) (qs_X10_costOf_1 hd))
theorem tqm_X10_costOf {df : qe_Df} {L : Nat} {E : qe_E} (hd : qe_dok E.2.2.2 df) (b : Nat) : qx_sn (dp := dp) (qZ E L) 114 (qp_X10_costOf b) (qm_X10_costOf df L b).1 := by
  unfold qm_X10_costOf
  exact (tqm_X10_costOf_ hd b)
theorem tqm_X10_cost_r {df : qe_Df} {L : Nat} {E : qe_E} (hd : qe_dok E.2.2.2 df) (b : Nat) : qx_sn (dp := dp) (qZ E L) 115 (qp_X10_cost b) (qm_X10_cost_r df L b).1 := by
  unfold qm_X10_cost_r
  exact sn_node (sn_leaf (j := 115) (b := b) (i := 1) (f := qp_X10_cost) (qs_X10_cost_1 hd)) (sn_leaf (j := 115) (b := b) (i := 2) (f := qp_X10_cost) (qs_X10_cost_2 hd))
theorem tqm_X10_cost_ {df : qe_Df} {L : Nat} {E : qe_E} (hd : qe_dok E.2.2.2 df) (b : Nat) : qx_sn (dp := dp) (qZ E L) 115 (qp_X10_cost b) (qm_X10_cost_ df L b).1 := by
  unfold qm_X10_cost_
  exact sn_node (sn_leaf (j := 115) (b := b) (i := 0) (f := qp_X10_cost) (qs_X10_cost_0 hd)) (tqm_X10_cost_r hd b)
theorem tqm_X10_cost {df : qe_Df} {L : Nat} {E : qe_E} (hd : qe_dok E.2.2.2 df) (b : Nat) : qx_sn (dp := dp) (qZ E L) 115 (qp_X10_cost b) (qm_X10_cost df L b).1 := by
  unfold qm_X10_cost
  exact (tqm_X10_cost_ hd b)
theorem tqm_X10_worst_r {df : qe_Df} {L : Nat} {E : qe_E} (hd : qe_dok E.2.2.2 df) (b : Nat) : qx_sn (dp := dp) (qZ E L) 116 (qp_X10_worst b) (qm_X10_worst_r df L b).1 := by
  unfold qm_X10_worst_r
  exact sn_node (sn_leaf (j := 116) (b := b) (i := 1) (f := qp_X10_worst) (qs_X10_worst_1 hd)) (sn_leaf (j := 116) (b := b) (i := 2) (f := qp_X10_worst) (qs_X10_worst_2 hd))
theorem tqm_X10_worst_ {df : qe_Df} {L : Nat} {E : qe_E} (hd : qe_dok E.2.2.2 df) (b : Nat) : qx_sn (dp := dp) (qZ E L) 116 (qp_X10_worst b) (qm_X10_worst_ df L b).1 := by
  unfold qm_X10_worst_
  exact sn_node (sn_leaf (j := 116) (b := b) (i := 0) (f := qp_X10_worst) (qs_X10_worst_0 hd)) (tqm_X10_worst_r hd b)
theorem tqm_X10_worst {df : qe_Df} {L : Nat} {E : qe_E} (hd : qe_dok E.2.2.2 df) (b : Nat) : qx_sn (dp := dp) (qZ E L) 116 (qp_X10_worst b) (qm_X10_worst df L b).1 := by
  unfold qm_X10_worst
  exact (tqm_X10_worst_ hd b)
theorem tqm_X10_meanBits_r {df : qe_Df} {L : Nat} {E : qe_E} (hd : qe_dok E.2.2.2 df) (b : Nat) : qx_sn (dp := dp) (qZ E L) 117 (qp_X10_meanBits b) (qm_X10_meanBits_r df L b).1 := by
  unfold qm_X10_meanBits_r
  exact sn_node (sn_leaf (j := 117) (b := b) (i := 1) (f := qp_X10_meanBits) (qs_X10_meanBits_1 hd)) (sn_leaf (j := 117) (b := b) (i := 2) (f := qp_X10_meanBits) (qs_X10_meanBits_2 hd))
theorem tqm_X10_meanBits_ {df : qe_Df} {L : Nat} {E : qe_E} (hd : qe_dok E.2.2.2 df) (b : Nat) : qx_sn (dp := dp) (qZ E L) 117 (qp_X10_meanBits b) (qm_X10_meanBits_ df L b).1 := by
  unfold qm_X10_meanBits_
  exact sn_node (sn_leaf (j := 117) (b := b) (i := 0) (f := qp_X10_meanBits) (qs_X10_meanBits_0 hd)) (tqm_X10_meanBits_r hd b)
theorem tqm_X10_meanBits {df : qe_Df} {L : Nat} {E : qe_E} (hd : qe_dok E.2.2.2 df) (b : Nat) : qx_sn (dp := dp) (qZ E L) 117 (qp_X10_meanBits b) (qm_X10_meanBits df L b).1 := by
  unfold qm_X10_meanBits
  exact (tqm_X10_meanBits_ hd b)
theorem tqm_X10_best_l {df : qe_Df} {L : Nat} {E : qe_E} (hd : qe_dok E.2.2.2 df) (b : Nat) : qx_sn (dp := dp) (qZ E L) 118 (qp_X10_best b) (qm_X10_best_l df L b).1 := by
  unfold qm_X10_best_l
  exact sn_node (sn_leaf (j := 118) (b := b) (i := 0) (f := qp_X10_best) (qs_X10_best_0 hd)) (sn_leaf (j := 118) (b := b) (i := 1) (f := qp_X10_best) (qs_X10_best_1 hd))
theorem tqm_X10_best_rr {df : qe_Df} {L : Nat} {E : qe_E} (hd : qe_dok E.2.2.2 df) (b : Nat) : qx_sn (dp := dp) (qZ E L) 118 (qp_X10_best b) (qm_X10_best_rr df L b).1 := by
  unfold qm_X10_best_rr
  exact sn_node (sn_leaf (j := 118) (b := b) (i := 3) (f := qp_X10_best) (qs_X10_best_3 hd)) (sn_leaf (j := 118) (b := b) (i := 4) (f := qp_X10_best) (qs_X10_best_4 hd))
theorem tqm_X10_best_r {df : qe_Df} {L : Nat} {E : qe_E} (hd : qe_dok E.2.2.2 df) (b : Nat) : qx_sn (dp := dp) (qZ E L) 118 (qp_X10_best b) (qm_X10_best_r df L b).1 := by
  unfold qm_X10_best_r
  exact sn_node (sn_leaf (j := 118) (b := b) (i := 2) (f := qp_X10_best) (qs_X10_best_2 hd)) (tqm_X10_best_rr hd b)
theorem tqm_X10_best_ {df : qe_Df} {L : Nat} {E : qe_E} (hd : qe_dok E.2.2.2 df) (b : Nat) : qx_sn (dp := dp) (qZ E L) 118 (qp_X10_best b) (qm_X10_best_ df L b).1 := by
  unfold qm_X10_best_
  exact sn_node (tqm_X10_best_l hd b) (tqm_X10_best_r hd b)
theorem tqm_X10_best {df : qe_Df} {L : Nat} {E : qe_E} (hd : qe_dok E.2.2.2 df) (b : Nat) : qx_sn (dp := dp) (qZ E L) 118 (qp_X10_best b) (qm_X10_best df L b).1 := by
  unfold qm_X10_best
  exact (tqm_X10_best_ hd b)
theorem tqm_X10_selected {df : qe_Df} {L : Nat} {E : qe_E} (hd : qe_dok E.2.2.2 df) (b : Nat) : qx_sn (dp := dp) (qZ E L) 119 (qp_X10_selected b) (qm_X10_selected df L b).1 := by
  unfold qm_X10_selected
  exact (sn_leaf (j := 119) (b := b) (i := 0) (f := qp_X10_selected) (qs_X10_selected_0 hd))
theorem tqm_X10_hash {df : qe_Df} {L : Nat} {E : qe_E} (hd : qe_dok E.2.2.2 df) (b : Nat) : qx_sn (dp := dp) (qZ E L) 120 (qp_X10_hash b) (qm_X10_hash df L b).1 := by
  unfold qm_X10_hash
  exact (sn_leaf (j := 120) (b := b) (i := 0) (f := qp_X10_hash) (qs_X10_hash_0 hd))
theorem tqm_X10_hasTable {df : qe_Df} {L : Nat} {E : qe_E} (hd : qe_dok E.2.2.2 df) (b : Nat) : qx_sn (dp := dp) (qZ E L) 121 (qp_X10_hasTable b) (qm_X10_hasTable df L b).1 := by
  unfold qm_X10_hasTable
  exact (sn_leaf (j := 121) (b := b) (i := 0) (f := qp_X10_hasTable) (qs_X10_hasTable_0 hd))
theorem tqm_X10_table_r {df : qe_Df} {L : Nat} {E : qe_E} (hd : qe_dok E.2.2.2 df) (b : Nat) : qx_sn (dp := dp) (qZ E L) 123 (qp_X10_table b) (qm_X10_table_r df L b).1 := by
  unfold qm_X10_table_r
  exact sn_node (sn_leaf (j := 123) (b := b) (i := 1) (f := qp_X10_table) (qs_X10_table_1 hd)) (sn_leaf (j := 123) (b := b) (i := 3) (f := qp_X10_table) (qs_X10_table_3 hd))
theorem tqm_X10_table_ {df : qe_Df} {L : Nat} {E : qe_E} (hd : qe_dok E.2.2.2 df) (b : Nat) : qx_sn (dp := dp) (qZ E L) 123 (qp_X10_table b) (qm_X10_table_ df L b).1 := by
  unfold qm_X10_table_
  exact sn_node (sn_leaf (j := 123) (b := b) (i := 0) (f := qp_X10_table) (qs_X10_table_0 hd)) (tqm_X10_table_r hd b)
theorem tqm_X10_table {df : qe_Df} {L : Nat} {E : qe_E} (hd : qe_dok E.2.2.2 df) (b : Nat) : qx_sn (dp := dp) (qZ E L) 123 (qp_X10_table b) (qm_X10_table df L b).1 := by
  unfold qm_X10_table
  exact (tqm_X10_table_ hd b)
theorem tqm_X10_slot_r {df : qe_Df} {L : Nat} {E : qe_E} (hd : qe_dok E.2.2.2 df) (b : Nat) : qx_sn (dp := dp) (qZ E L) 124 (qp_X10_slot b) (qm_X10_slot_r df L b).1 := by
  unfold qm_X10_slot_r
  exact sn_node (sn_leaf (j := 124) (b := b) (i := 2) (f := qp_X10_slot) (qs_X10_slot_2 hd)) (sn_leaf (j := 124) (b := b) (i := 4) (f := qp_X10_slot) (qs_X10_slot_4 hd))
theorem tqm_X10_slot_ {df : qe_Df} {L : Nat} {E : qe_E} (hd : qe_dok E.2.2.2 df) (b : Nat) : qx_sn (dp := dp) (qZ E L) 124 (qp_X10_slot b) (qm_X10_slot_ df L b).1 := by
  unfold qm_X10_slot_
  exact sn_node (sn_leaf (j := 124) (b := b) (i := 0) (f := qp_X10_slot) (qs_X10_slot_0 hd)) (tqm_X10_slot_r hd b)
theorem tqm_X10_slot {df : qe_Df} {L : Nat} {E : qe_E} (hd : qe_dok E.2.2.2 df) (b : Nat) : qx_sn (dp := dp) (qZ E L) 124 (qp_X10_slot b) (qm_X10_slot df L b).1 := by
  unfold qm_X10_slot
  exact (tqm_X10_slot_ hd b)
theorem tqm_X10_displacement_r {df : qe_Df} {L : Nat} {E : qe_E} (hd : qe_dok E.2.2.2 df) (b : Nat) : qx_sn (dp := dp) (qZ E L) 125 (qp_X10_displacement b) (qm_X10_displacement_r df L b).1 := by
  unfold qm_X10_displacement_r
  exact sn_node (sn_leaf (j := 125) (b := b) (i := 2) (f := qp_X10_displacement) (qs_X10_displacement_2 hd)) (sn_leaf (j := 125) (b := b) (i := 4) (f := qp_X10_displacement) (qs_X10_displacement_4 hd))
theorem tqm_X10_displacement_ {df : qe_Df} {L : Nat} {E : qe_E} (hd : qe_dok E.2.2.2 df) (b : Nat) : qx_sn (dp := dp) (qZ E L) 125 (qp_X10_displacement b) (qm_X10_displacement_ df L b).1 := by
  unfold qm_X10_displacement_
  exact sn_node (sn_leaf (j := 125) (b := b) (i := 0) (f := qp_X10_displacement) (qs_X10_displacement_0 hd)) (tqm_X10_displacement_r hd b)
theorem tqm_X10_displacement {df : qe_Df} {L : Nat} {E : qe_E} (hd : qe_dok E.2.2.2 df) (b : Nat) : qx_sn (dp := dp) (qZ E L) 125 (qp_X10_displacement b) (qm_X10_displacement df L b).1 := by
  unfold qm_X10_displacement
  exact (tqm_X10_displacement_ hd b)
theorem tqm_X10_densityBits_r {df : qe_Df} {L : Nat} {E : qe_E} (hd : qe_dok E.2.2.2 df) (b : Nat) : qx_sn (dp := dp) (qZ E L) 126 (qp_X10_densityBits b) (qm_X10_densityBits_r df L b).1 := by
  unfold qm_X10_densityBits_r
  exact sn_node (sn_leaf (j := 126) (b := b) (i := 1) (f := qp_X10_densityBits) (qs_X10_densityBits_1 hd)) (sn_leaf (j := 126) (b := b) (i := 3) (f := qp_X10_densityBits) (qs_X10_densityBits_3 hd))
theorem tqm_X10_densityBits_ {df : qe_Df} {L : Nat} {E : qe_E} (hd : qe_dok E.2.2.2 df) (b : Nat) : qx_sn (dp := dp) (qZ E L) 126 (qp_X10_densityBits b) (qm_X10_densityBits_ df L b).1 := by
  unfold qm_X10_densityBits_
  exact sn_node (sn_leaf (j := 126) (b := b) (i := 0) (f := qp_X10_densityBits) (qs_X10_densityBits_0 hd)) (tqm_X10_densityBits_r hd b)
theorem tqm_X10_densityBits {df : qe_Df} {L : Nat} {E : qe_E} (hd : qe_dok E.2.2.2 df) (b : Nat) : qx_sn (dp := dp) (qZ E L) 126 (qp_X10_densityBits b) (qm_X10_densityBits df L b).1 := by
  unfold qm_X10_densityBits
  exact (tqm_X10_densityBits_ hd b)
theorem tqm_X10_putTrees_l {df : qe_Df} {L : Nat} {E : qe_E} (hd : qe_dok E.2.2.2 df) (b : Nat) : qx_sn (dp := dp) (qZ E L) 132 (qp_X10_putTrees b) (qm_X10_putTrees_l df L b).1 := by
  unfold qm_X10_putTrees_l
  exact sn_node (sn_leaf (j := 132) (b := b) (i := 0) (f := qp_X10_putTrees) (qs_X10_putTrees_0 hd)) (sn_leaf (j := 132) (b := b) (i := 1) (f := qp_X10_putTrees) (qs_X10_putTrees_1 hd))
theorem tqm_X10_putTrees_r {df : qe_Df} {L : Nat} {E : qe_E} (hd : qe_dok E.2.2.2 df) (b : Nat) : qx_sn (dp := dp) (qZ E L) 132 (qp_X10_putTrees b) (qm_X10_putTrees_r df L b).1 := by
  unfold qm_X10_putTrees_r
  exact sn_node (sn_leaf (j := 132) (b := b) (i := 2) (f := qp_X10_putTrees) (qs_X10_putTrees_2 hd)) (sn_leaf (j := 132) (b := b) (i := 3) (f := qp_X10_putTrees) (qs_X10_putTrees_3 hd))
theorem tqm_X10_putTrees_ {df : qe_Df} {L : Nat} {E : qe_E} (hd : qe_dok E.2.2.2 df) (b : Nat) : qx_sn (dp := dp) (qZ E L) 132 (qp_X10_putTrees b) (qm_X10_putTrees_ df L b).1 := by
  unfold qm_X10_putTrees_
  exact sn_node (tqm_X10_putTrees_l hd b) (tqm_X10_putTrees_r hd b)
theorem tqm_X10_putTrees {df : qe_Df} {L : Nat} {E : qe_E} (hd : qe_dok E.2.2.2 df) (b : Nat) : qx_sn (dp := dp) (qZ E L) 132 (qp_X10_putTrees b) (qm_X10_putTrees df L b).1 := by
  unfold qm_X10_putTrees
  exact (tqm_X10_putTrees_ hd b)
theorem tqm_X10_list_l {df : qe_Df} {L : Nat} {E : qe_E} (hd : qe_dok E.2.2.2 df) (b : Nat) : qx_sn (dp := dp) (qZ E L) 134 (qp_X10_list b) (qm_X10_list_l df L b).1 := by
  unfold qm_X10_list_l
  exact sn_node (sn_leaf (j := 134) (b := b) (i := 0) (f := qp_X10_list) (qs_X10_list_0 hd)) (sn_leaf (j := 134) (b := b) (i := 1) (f := qp_X10_list) (qs_X10_list_1 hd))
theorem tqm_X10_list_r {df : qe_Df} {L : Nat} {E : qe_E} (hd : qe_dok E.2.2.2 df) (b : Nat) : qx_sn (dp := dp) (qZ E L) 134 (qp_X10_list b) (qm_X10_list_r df L b).1 := by
  unfold qm_X10_list_r
  exact sn_node (sn_leaf (j := 134) (b := b) (i := 2) (f := qp_X10_list) (qs_X10_list_2 hd)) (sn_leaf (j := 134) (b := b) (i := 3) (f := qp_X10_list) (qs_X10_list_3 hd))
theorem tqm_X10_list_ {df : qe_Df} {L : Nat} {E : qe_E} (hd : qe_dok E.2.2.2 df) (b : Nat) : qx_sn (dp := dp) (qZ E L) 134 (qp_X10_list b) (qm_X10_list_ df L b).1 := by
  unfold qm_X10_list_
  exact sn_node (tqm_X10_list_l hd b) (tqm_X10_list_r hd b)
theorem tqm_X10_list {df : qe_Df} {L : Nat} {E : qe_E} (hd : qe_dok E.2.2.2 df) (b : Nat) : qx_sn (dp := dp) (qZ E L) 134 (qp_X10_list b) (qm_X10_list df L b).1 := by
  unfold qm_X10_list
  exact (tqm_X10_list_ hd b)
theorem tqm_X10_listing_ll {df : qe_Df} {L : Nat} {E : qe_E} (hd : qe_dok E.2.2.2 df) (b : Nat) : qx_sn (dp := dp) (qZ E L) 135 (qp_X10_listing b) (qm_X10_listing_ll df L b).1 := by
  unfold qm_X10_listing_ll
  exact sn_node (sn_leaf (j := 135) (b := b) (i := 0) (f := qp_X10_listing) (qs_X10_listing_0 hd)) (sn_leaf (j := 135) (b := b) (i := 1) (f := qp_X10_listing) (qs_X10_listing_1 hd))
theorem tqm_X10_listing_lr {df : qe_Df} {L : Nat} {E : qe_E} (hd : qe_dok E.2.2.2 df) (b : Nat) : qx_sn (dp := dp) (qZ E L) 135 (qp_X10_listing b) (qm_X10_listing_lr df L b).1 := by
  unfold qm_X10_listing_lr
  exact sn_node (sn_leaf (j := 135) (b := b) (i := 2) (f := qp_X10_listing) (qs_X10_listing_2 hd)) (sn_leaf (j := 135) (b := b) (i := 3) (f := qp_X10_listing) (qs_X10_listing_3 hd))
theorem tqm_X10_listing_l {df : qe_Df} {L : Nat} {E : qe_E} (hd : qe_dok E.2.2.2 df) (b : Nat) : qx_sn (dp := dp) (qZ E L) 135 (qp_X10_listing b) (qm_X10_listing_l df L b).1 := by
  unfold qm_X10_listing_l
  exact sn_node (tqm_X10_listing_ll hd b) (tqm_X10_listing_lr hd b)
theorem tqm_X10_listing_rl {df : qe_Df} {L : Nat} {E : qe_E} (hd : qe_dok E.2.2.2 df) (b : Nat) : qx_sn (dp := dp) (qZ E L) 135 (qp_X10_listing b) (qm_X10_listing_rl df L b).1 := by
  unfold qm_X10_listing_rl
  exact sn_node (sn_leaf (j := 135) (b := b) (i := 4) (f := qp_X10_listing) (qs_X10_listing_4 hd)) (sn_leaf (j := 135) (b := b) (i := 5) (f := qp_X10_listing) (qs_X10_listing_5 hd))
theorem tqm_X10_listing_rrr {df : qe_Df} {L : Nat} {E : qe_E} (hd : qe_dok E.2.2.2 df) (b : Nat) : qx_sn (dp := dp) (qZ E L) 135 (qp_X10_listing b) (qm_X10_listing_rrr df L b).1 := by
  unfold qm_X10_listing_rrr
  exact sn_node (sn_leaf (j := 135) (b := b) (i := 7) (f := qp_X10_listing) (qs_X10_listing_7 hd)) (sn_leaf (j := 135) (b := b) (i := 9) (f := qp_X10_listing) (qs_X10_listing_9 hd))
theorem tqm_X10_listing_rr {df : qe_Df} {L : Nat} {E : qe_E} (hd : qe_dok E.2.2.2 df) (b : Nat) : qx_sn (dp := dp) (qZ E L) 135 (qp_X10_listing b) (qm_X10_listing_rr df L b).1 := by
  unfold qm_X10_listing_rr
  exact sn_node (sn_leaf (j := 135) (b := b) (i := 6) (f := qp_X10_listing) (qs_X10_listing_6 hd)) (tqm_X10_listing_rrr hd b)
theorem tqm_X10_listing_r {df : qe_Df} {L : Nat} {E : qe_E} (hd : qe_dok E.2.2.2 df) (b : Nat) : qx_sn (dp := dp) (qZ E L) 135 (qp_X10_listing b) (qm_X10_listing_r df L b).1 := by
  unfold qm_X10_listing_r
  exact sn_node (tqm_X10_listing_rl hd b) (tqm_X10_listing_rr hd b)
theorem tqm_X10_listing_ {df : qe_Df} {L : Nat} {E : qe_E} (hd : qe_dok E.2.2.2 df) (b : Nat) : qx_sn (dp := dp) (qZ E L) 135 (qp_X10_listing b) (qm_X10_listing_ df L b).1 := by
  unfold qm_X10_listing_
  exact sn_node (tqm_X10_listing_l hd b) (tqm_X10_listing_r hd b)
theorem tqm_X10_listing {df : qe_Df} {L : Nat} {E : qe_E} (hd : qe_dok E.2.2.2 df) (b : Nat) : qx_sn (dp := dp) (qZ E L) 135 (qp_X10_listing b) (qm_X10_listing df L b).1 := by
  unfold qm_X10_listing
  exact (tqm_X10_listing_ hd b)
theorem tqm_X10_save {df : qe_Df} {L : Nat} {E : qe_E} (hd : qe_dok E.2.2.2 df) (b : Nat) : qx_sn (dp := dp) (qZ E L) 136 (qp_X10_save b) (qm_X10_save df L b).1 := by
  unfold qm_X10_save
  exact (sn_leaf (j := 136) (b := b) (i := 0) (f := qp_X10_save) (qs_X10_save_0 hd))
theorem tqm_X10_restore_ {df : qe_Df} {L : Nat} {E : qe_E} (hd : qe_dok E.2.2.2 df) (b : Nat) : qx_sn (dp := dp) (qZ E L) 137 (qp_X10_restore b) (qm_X10_restore_ df L b).1 := by
  unfold qm_X10_restore_
  exact sn_node (sn_leaf (j := 137) (b := b) (i := 0) (f := qp_X10_restore) (qs_X10_restore_0 hd)) (sn_leaf (j := 137) (b := b) (i := 1) (f := qp_X10_restore) (qs_X10_restore_1 hd))
theorem tqm_X10_restore {df : qe_Df} {L : Nat} {E : qe_E} (hd : qe_dok E.2.2.2 df) (b : Nat) : qx_sn (dp := dp) (qZ E L) 137 (qp_X10_restore b) (qm_X10_restore df L b).1 := by
  unfold qm_X10_restore
  exact (tqm_X10_restore_ hd b)
theorem tqm_X0_init {df : qe_Df} {L : Nat} {E : qe_E} (hd : qe_dok E.2.2.2 df) (b : Nat) : qx_sn (dp := dp) (qZ E L) 138 (qp_X0_init b) (qm_X0_init df L b).1 := by
  unfold qm_X0_init
  exact (sn_leaf (j := 138) (b := b) (i := 0) (f := qp_X0_init) (qs_X0_init_0 hd))
theorem tqm_X0_read {df : qe_Df} {L : Nat} {E : qe_E} (hd : qe_dok E.2.2.2 df) (b : Nat) : qx_sn (dp := dp) (qZ E L) 139 (qp_X0_read b) (qm_X0_read df L b).1 := by
  unfold qm_X0_read
  exact (sn_leaf (j := 139) (b := b) (i := 0) (f := qp_X0_read) (qs_X0_read_0 hd))
theorem tqm_X0_readCommand_ {df : qe_Df} {L : Nat} {E : qe_E} (hd : qe_dok E.2.2.2 df) (b : Nat) : qx_sn (dp := dp) (qZ E L) 140 (qp_X0_readCommand b) (qm_X0_readCommand_ df L b).1 := by
  unfold qm_X0_readCommand_
  exact sn_node (sn_leaf (j := 140) (b := b) (i := 0) (f := qp_X0_readCommand) (qs_X0_readCommand_0 hd)) (sn_leaf (j := 140) (b := b) (i := 5) (f := qp_X0_readCommand) (qs_X0_readCommand_5 hd))
theorem tqm_X0_readCommand {df : qe_Df} {L : Nat} {E : qe_E} (hd : qe_dok E.2.2.2 df) (b : Nat) : qx_sn (dp := dp) (qZ E L) 140 (qp_X0_readCommand b) (qm_X0_readCommand df L b).1 := by
  unfold qm_X0_readCommand
  exact (tqm_X0_readCommand_ hd b)
theorem tqm_X0_readWord_lr {df : qe_Df} {L : Nat} {E : qe_E} (hd : qe_dok E.2.2.2 df) (b : Nat) : qx_sn (dp := dp) (qZ E L) 142 (qp_X0_readWord b) (qm_X0_readWord_lr df L b).1 := by
  unfold qm_X0_readWord_lr
  exact sn_node (sn_leaf (j := 142) (b := b) (i := 1) (f := qp_X0_readWord) (qs_X0_readWord_1 hd)) (sn_leaf (j := 142) (b := b) (i := 2) (f := qp_X0_readWord) (qs_X0_readWord_2 hd))
theorem tqm_X0_readWord_l {df : qe_Df} {L : Nat} {E : qe_E} (hd : qe_dok E.2.2.2 df) (b : Nat) : qx_sn (dp := dp) (qZ E L) 142 (qp_X0_readWord b) (qm_X0_readWord_l df L b).1 := by
  unfold qm_X0_readWord_l
  exact sn_node (sn_leaf (j := 142) (b := b) (i := 0) (f := qp_X0_readWord) (qs_X0_readWord_0 hd)) (tqm_X0_readWord_lr hd b)
theorem tqm_X0_readWord_rr {df : qe_Df} {L : Nat} {E : qe_E} (hd : qe_dok E.2.2.2 df) (b : Nat) : qx_sn (dp := dp) (qZ E L) 142 (qp_X0_readWord b) (qm_X0_readWord_rr df L b).1 := by
  unfold qm_X0_readWord_rr
  exact sn_node (sn_leaf (j := 142) (b := b) (i := 4) (f := qp_X0_readWord) (qs_X0_readWord_4 hd)) (sn_leaf (j := 142) (b := b) (i := 5) (f := qp_X0_readWord) (qs_X0_readWord_5 hd))
theorem tqm_X0_readWord_r {df : qe_Df} {L : Nat} {E : qe_E} (hd : qe_dok E.2.2.2 df) (b : Nat) : qx_sn (dp := dp) (qZ E L) 142 (qp_X0_readWord b) (qm_X0_readWord_r df L b).1 := by
  unfold qm_X0_readWord_r
  exact sn_node (sn_leaf (j := 142) (b := b) (i := 3) (f := qp_X0_readWord) (qs_X0_readWord_3 hd)) (tqm_X0_readWord_rr hd b)
theorem tqm_X0_readWord_ {df : qe_Df} {L : Nat} {E : qe_E} (hd : qe_dok E.2.2.2 df) (b : Nat) : qx_sn (dp := dp) (qZ E L) 142 (qp_X0_readWord b) (qm_X0_readWord_ df L b).1 := by
  unfold qm_X0_readWord_
  exact sn_node (tqm_X0_readWord_l hd b) (tqm_X0_readWord_r hd b)
theorem tqm_X0_readWord {df : qe_Df} {L : Nat} {E : qe_E} (hd : qe_dok E.2.2.2 df) (b : Nat) : qx_sn (dp := dp) (qZ E L) 142 (qp_X0_readWord b) (qm_X0_readWord df L b).1 := by
  unfold qm_X0_readWord
  exact (tqm_X0_readWord_ hd b)
theorem tqm_X0_isWord {df : qe_Df} {L : Nat} {E : qe_E} (hd : qe_dok E.2.2.2 df) (b : Nat) : qx_sn (dp := dp) (qZ E L) 143 (qp_X0_isWord b) (qm_X0_isWord df L b).1 := by
  unfold qm_X0_isWord
  exact (sn_leaf (j := 143) (b := b) (i := 0) (f := qp_X0_isWord) (qs_X0_isWord_0 hd))
theorem tqm_X1_init {df : qe_Df} {L : Nat} {E : qe_E} (hd : qe_dok E.2.2.2 df) (b : Nat) : qx_sn (dp := dp) (qZ E L) 152 (qp_X1_init b) (qm_X1_init df L b).1 := by
  unfold qm_X1_init
  exact (sn_leaf (j := 152) (b := b) (i := 0) (f := qp_X1_init) (qs_X1_init_0 hd))
theorem tqm_X1_grow_ {df : qe_Df} {L : Nat} {E : qe_E} (hd : qe_dok E.2.2.2 df) (b : Nat) : qx_sn (dp := dp) (qZ E L) 153 (qp_X1_grow b) (qm_X1_grow_ df L b).1 := by
  unfold qm_X1_grow_
  exact sn_node (sn_leaf (j := 153) (b := b) (i := 0) (f := qp_X1_grow) (qs_X1_grow_0 hd)) (sn_leaf (j := 153) (b := b) (i := 1) (f := qp_X1_grow) (qs_X1_grow_1 hd))
theorem tqm_X1_grow {df : qe_Df} {L : Nat} {E : qe_E} (hd : qe_dok E.2.2.2 df) (b : Nat) : qx_sn (dp := dp) (qZ E L) 153 (qp_X1_grow b) (qm_X1_grow df L b).1 := by
  unfold qm_X1_grow
  exact (tqm_X1_grow_ hd b)
theorem tqm_X1_rootWith {df : qe_Df} {L : Nat} {E : qe_E} (hd : qe_dok E.2.2.2 df) (b : Nat) : qx_sn (dp := dp) (qZ E L) 157 (qp_X1_rootWith b) (qm_X1_rootWith df L b).1 := by
  unfold qm_X1_rootWith
  exact (sn_leaf (j := 157) (b := b) (i := 0) (f := qp_X1_rootWith) (qs_X1_rootWith_0 hd))
theorem tqm_X1_treeWith_ {df : qe_Df} {L : Nat} {E : qe_E} (hd : qe_dok E.2.2.2 df) (b : Nat) : qx_sn (dp := dp) (qZ E L) 158 (qp_X1_treeWith b) (qm_X1_treeWith_ df L b).1 := by
  unfold qm_X1_treeWith_
  exact sn_node (sn_leaf (j := 158) (b := b) (i := 0) (f := qp_X1_treeWith) (qs_X1_treeWith_0 hd)) (sn_leaf (j := 158) (b := b) (i := 1) (f := qp_X1_treeWith) (qs_X1_treeWith_1 hd))
theorem tqm_X1_treeWith {df : qe_Df} {L : Nat} {E : qe_E} (hd : qe_dok E.2.2.2 df) (b : Nat) : qx_sn (dp := dp) (qZ E L) 158 (qp_X1_treeWith b) (qm_X1_treeWith df L b).1 := by
  unfold qm_X1_treeWith
  exact (tqm_X1_treeWith_ hd b)
theorem tqm_X1_plantRoots_l {df : qe_Df} {L : Nat} {E : qe_E} (hd : qe_dok E.2.2.2 df) (b : Nat) : qx_sn (dp := dp) (qZ E L) 160 (qp_X1_plantRoots b) (qm_X1_plantRoots_l df L b).1 := by
  unfold qm_X1_plantRoots_l
  exact sn_node (sn_leaf (j := 160) (b := b) (i := 0) (f := qp_X1_plantRoots) (qs_X1_plantRoots_0 hd)) (sn_leaf (j := 160) (b := b) (i := 1) (f := qp_X1_plantRoots) (qs_X1_plantRoots_1 hd))
theorem tqm_X1_plantRoots_rr {df : qe_Df} {L : Nat} {E : qe_E} (hd : qe_dok E.2.2.2 df) (b : Nat) : qx_sn (dp := dp) (qZ E L) 160 (qp_X1_plantRoots b) (qm_X1_plantRoots_rr df L b).1 := by
  unfold qm_X1_plantRoots_rr
  exact sn_node (sn_leaf (j := 160) (b := b) (i := 3) (f := qp_X1_plantRoots) (qs_X1_plantRoots_3 hd)) (sn_leaf (j := 160) (b := b) (i := 4) (f := qp_X1_plantRoots) (qs_X1_plantRoots_4 hd))
theorem tqm_X1_plantRoots_r {df : qe_Df} {L : Nat} {E : qe_E} (hd : qe_dok E.2.2.2 df) (b : Nat) : qx_sn (dp := dp) (qZ E L) 160 (qp_X1_plantRoots b) (qm_X1_plantRoots_r df L b).1 := by
  unfold qm_X1_plantRoots_r
  exact sn_node (sn_leaf (j := 160) (b := b) (i := 2) (f := qp_X1_plantRoots) (qs_X1_plantRoots_2 hd)) (tqm_X1_plantRoots_rr hd b)
theorem tqm_X1_plantRoots_ {df : qe_Df} {L : Nat} {E : qe_E} (hd : qe_dok E.2.2.2 df) (b : Nat) : qx_sn (dp := dp) (qZ E L) 160 (qp_X1_plantRoots b) (qm_X1_plantRoots_ df L b).1 := by
  unfold qm_X1_plantRoots_
  exact sn_node (tqm_X1_plantRoots_l hd b) (tqm_X1_plantRoots_r hd b)
theorem tqm_X1_plantRoots {df : qe_Df} {L : Nat} {E : qe_E} (hd : qe_dok E.2.2.2 df) (b : Nat) : qx_sn (dp := dp) (qZ E L) 160 (qp_X1_plantRoots b) (qm_X1_plantRoots df L b).1 := by
  unfold qm_X1_plantRoots
  exact (tqm_X1_plantRoots_ hd b)
theorem tqm_X2_init {df : qe_Df} {L : Nat} {E : qe_E} (hd : qe_dok E.2.2.2 df) (b : Nat) : qx_sn (dp := dp) (qZ E L) 165 (qp_X2_init b) (qm_X2_init df L b).1 := by
  unfold qm_X2_init
  exact (sn_leaf (j := 165) (b := b) (i := 0) (f := qp_X2_init) (qs_X2_init_0 hd))
theorem tqm_X2_has_ {df : qe_Df} {L : Nat} {E : qe_E} (hd : qe_dok E.2.2.2 df) (b : Nat) : qx_sn (dp := dp) (qZ E L) 166 (qp_X2_has b) (qm_X2_has_ df L b).1 := by
  unfold qm_X2_has_
  exact sn_node (sn_leaf (j := 166) (b := b) (i := 0) (f := qp_X2_has) (qs_X2_has_0 hd)) (sn_leaf (j := 166) (b := b) (i := 1) (f := qp_X2_has) (qs_X2_has_1 hd))
theorem tqm_X2_has {df : qe_Df} {L : Nat} {E : qe_E} (hd : qe_dok E.2.2.2 df) (b : Nat) : qx_sn (dp := dp) (qZ E L) 166 (qp_X2_has b) (qm_X2_has df L b).1 := by
  unfold qm_X2_has
  exact (tqm_X2_has_ hd b)
theorem tqm_X2_changeLoad {df : qe_Df} {L : Nat} {E : qe_E} (hd : qe_dok E.2.2.2 df) (b : Nat) : qx_sn (dp := dp) (qZ E L) 173 (qp_X2_changeLoad b) (qm_X2_changeLoad df L b).1 := by
  unfold qm_X2_changeLoad
  exact (sn_leaf (j := 173) (b := b) (i := 0) (f := qp_X2_changeLoad) (qs_X2_changeLoad_0 hd))
theorem tqm_X2_takeOver {df : qe_Df} {L : Nat} {E : qe_E} (hd : qe_dok E.2.2.2 df) (b : Nat) : qx_sn (dp := dp) (qZ E L) 174 (qp_X2_takeOver b) (qm_X2_takeOver df L b).1 := by
  unfold qm_X2_takeOver
  exact (sn_leaf (j := 174) (b := b) (i := 0) (f := qp_X2_takeOver) (qs_X2_takeOver_0 hd))
theorem tqm_X2_totalWeight_ {df : qe_Df} {L : Nat} {E : qe_E} (hd : qe_dok E.2.2.2 df) (b : Nat) : qx_sn (dp := dp) (qZ E L) 180 (qp_X2_totalWeight b) (qm_X2_totalWeight_ df L b).1 := by
  unfold qm_X2_totalWeight_
  exact sn_node (sn_leaf (j := 180) (b := b) (i := 0) (f := qp_X2_totalWeight) (qs_X2_totalWeight_0 hd)) (sn_leaf (j := 180) (b := b) (i := 1) (f := qp_X2_totalWeight) (qs_X2_totalWeight_1 hd))
theorem tqm_X2_totalWeight {df : qe_Df} {L : Nat} {E : qe_E} (hd : qe_dok E.2.2.2 df) (b : Nat) : qx_sn (dp := dp) (qZ E L) 180 (qp_X2_totalWeight b) (qm_X2_totalWeight df L b).1 := by
  unfold qm_X2_totalWeight
  exact (tqm_X2_totalWeight_ hd b)
theorem tqm_X3_init {df : qe_Df} {L : Nat} {E : qe_E} (hd : qe_dok E.2.2.2 df) (b : Nat) : qx_sn (dp := dp) (qZ E L) 182 (qp_X3_init b) (qm_X3_init df L b).1 := by
  unfold qm_X3_init
  exact (sn_leaf (j := 182) (b := b) (i := 0) (f := qp_X3_init) (qs_X3_init_0 hd))
theorem tqm_X3_list_lr {df : qe_Df} {L : Nat} {E : qe_E} (hd : qe_dok E.2.2.2 df) (b : Nat) : qx_sn (dp := dp) (qZ E L) 183 (qp_X3_list b) (qm_X3_list_lr df L b).1 := by
  unfold qm_X3_list_lr
  exact sn_node (sn_leaf (j := 183) (b := b) (i := 1) (f := qp_X3_list) (qs_X3_list_1 hd)) (sn_leaf (j := 183) (b := b) (i := 2) (f := qp_X3_list) (qs_X3_list_2 hd))
theorem tqm_X3_list_l {df : qe_Df} {L : Nat} {E : qe_E} (hd : qe_dok E.2.2.2 df) (b : Nat) : qx_sn (dp := dp) (qZ E L) 183 (qp_X3_list b) (qm_X3_list_l df L b).1 := by
  unfold qm_X3_list_l
  exact sn_node (sn_leaf (j := 183) (b := b) (i := 0) (f := qp_X3_list) (qs_X3_list_0 hd)) (tqm_X3_list_lr hd b)
theorem tqm_X3_list_rr {df : qe_Df} {L : Nat} {E : qe_E} (hd : qe_dok E.2.2.2 df) (b : Nat) : qx_sn (dp := dp) (qZ E L) 183 (qp_X3_list b) (qm_X3_list_rr df L b).1 := by
  unfold qm_X3_list_rr
  exact sn_node (sn_leaf (j := 183) (b := b) (i := 4) (f := qp_X3_list) (qs_X3_list_4 hd)) (sn_leaf (j := 183) (b := b) (i := 6) (f := qp_X3_list) (qs_X3_list_6 hd))
theorem tqm_X3_list_r {df : qe_Df} {L : Nat} {E : qe_E} (hd : qe_dok E.2.2.2 df) (b : Nat) : qx_sn (dp := dp) (qZ E L) 183 (qp_X3_list b) (qm_X3_list_r df L b).1 := by
  unfold qm_X3_list_r
  exact sn_node (sn_leaf (j := 183) (b := b) (i := 3) (f := qp_X3_list) (qs_X3_list_3 hd)) (tqm_X3_list_rr hd b)
theorem tqm_X3_list_ {df : qe_Df} {L : Nat} {E : qe_E} (hd : qe_dok E.2.2.2 df) (b : Nat) : qx_sn (dp := dp) (qZ E L) 183 (qp_X3_list b) (qm_X3_list_ df L b).1 := by
  unfold qm_X3_list_
  exact sn_node (tqm_X3_list_l hd b) (tqm_X3_list_r hd b)
theorem tqm_X3_list {df : qe_Df} {L : Nat} {E : qe_E} (hd : qe_dok E.2.2.2 df) (b : Nat) : qx_sn (dp := dp) (qZ E L) 183 (qp_X3_list b) (qm_X3_list df L b).1 := by
  unfold qm_X3_list
  exact (tqm_X3_list_ hd b)
theorem tqm_X3_listKeys_ {df : qe_Df} {L : Nat} {E : qe_E} (hd : qe_dok E.2.2.2 df) (b : Nat) : qx_sn (dp := dp) (qZ E L) 186 (qp_X3_listKeys b) (qm_X3_listKeys_ df L b).1 := by
  unfold qm_X3_listKeys_
  exact sn_node (sn_leaf (j := 186) (b := b) (i := 0) (f := qp_X3_listKeys) (qs_X3_listKeys_0 hd)) (sn_leaf (j := 186) (b := b) (i := 1) (f := qp_X3_listKeys) (qs_X3_listKeys_1 hd))
theorem tqm_X3_listKeys {df : qe_Df} {L : Nat} {E : qe_E} (hd : qe_dok E.2.2.2 df) (b : Nat) : qx_sn (dp := dp) (qZ E L) 186 (qp_X3_listKeys b) (qm_X3_listKeys df L b).1 := by
  unfold qm_X3_listKeys
  exact (tqm_X3_listKeys_ hd b)
theorem tqm_X3_listForest_ {df : qe_Df} {L : Nat} {E : qe_E} (hd : qe_dok E.2.2.2 df) (b : Nat) : qx_sn (dp := dp) (qZ E L) 187 (qp_X3_listForest b) (qm_X3_listForest_ df L b).1 := by
  unfold qm_X3_listForest_
  exact sn_node (sn_leaf (j := 187) (b := b) (i := 0) (f := qp_X3_listForest) (qs_X3_listForest_0 hd)) (sn_leaf (j := 187) (b := b) (i := 1) (f := qp_X3_listForest) (qs_X3_listForest_1 hd))
theorem tqm_X3_listForest {df : qe_Df} {L : Nat} {E : qe_E} (hd : qe_dok E.2.2.2 df) (b : Nat) : qx_sn (dp := dp) (qZ E L) 187 (qp_X3_listForest b) (qm_X3_listForest df L b).1 := by
  unfold qm_X3_listForest
  exact (tqm_X3_listForest_ hd b)
theorem tqm_X4_init {df : qe_Df} {L : Nat} {E : qe_E} (hd : qe_dok E.2.2.2 df) (b : Nat) : qx_sn (dp := dp) (qZ E L) 190 (qp_X4_init b) (qm_X4_init df L b).1 := by
  unfold qm_X4_init
  exact (sn_leaf (j := 190) (b := b) (i := 0) (f := qp_X4_init) (qs_X4_init_0 hd))
theorem tqm_X4_sort_ {df : qe_Df} {L : Nat} {E : qe_E} (hd : qe_dok E.2.2.2 df) (b : Nat) : qx_sn (dp := dp) (qZ E L) 191 (qp_X4_sort b) (qm_X4_sort_ df L b).1 := by
  unfold qm_X4_sort_
  exact sn_node (sn_leaf (j := 191) (b := b) (i := 0) (f := qp_X4_sort) (qs_X4_sort_0 hd)) (sn_leaf (j := 191) (b := b) (i := 1) (f := qp_X4_sort) (qs_X4_sort_1 hd))
theorem tqm_X4_sort {df : qe_Df} {L : Nat} {E : qe_E} (hd : qe_dok E.2.2.2 df) (b : Nat) : qx_sn (dp := dp) (qZ E L) 191 (qp_X4_sort b) (qm_X4_sort df L b).1 := by
  unfold qm_X4_sort
  exact (tqm_X4_sort_ hd b)
theorem tqm_X5_init {df : qe_Df} {L : Nat} {E : qe_E} (hd : qe_dok E.2.2.2 df) (b : Nat) : qx_sn (dp := dp) (qZ E L) 192 (qp_X5_init b) (qm_X5_init df L b).1 := by
  unfold qm_X5_init
  exact (sn_leaf (j := 192) (b := b) (i := 0) (f := qp_X5_init) (qs_X5_init_0 hd))
theorem tqm_X5_run_lr {df : qe_Df} {L : Nat} {E : qe_E} (hd : qe_dok E.2.2.2 df) (b : Nat) : qx_sn (dp := dp) (qZ E L) 193 (qp_X5_run b) (qm_X5_run_lr df L b).1 := by
  unfold qm_X5_run_lr
  exact sn_node (sn_leaf (j := 193) (b := b) (i := 1) (f := qp_X5_run) (qs_X5_run_1 hd)) (sn_leaf (j := 193) (b := b) (i := 2) (f := qp_X5_run) (qs_X5_run_2 hd))
theorem tqm_X5_run_l {df : qe_Df} {L : Nat} {E : qe_E} (hd : qe_dok E.2.2.2 df) (b : Nat) : qx_sn (dp := dp) (qZ E L) 193 (qp_X5_run b) (qm_X5_run_l df L b).1 := by
  unfold qm_X5_run_l
  exact sn_node (sn_leaf (j := 193) (b := b) (i := 0) (f := qp_X5_run) (qs_X5_run_0 hd)) (tqm_X5_run_lr hd b)
theorem tqm_X5_run_rr {df : qe_Df} {L : Nat} {E : qe_E} (hd : qe_dok E.2.2.2 df) (b : Nat) : qx_sn (dp := dp) (qZ E L) 193 (qp_X5_run b) (qm_X5_run_rr df L b).1 := by
  unfold qm_X5_run_rr
  exact sn_node (sn_leaf (j := 193) (b := b) (i := 4) (f := qp_X5_run) (qs_X5_run_4 hd)) (sn_leaf (j := 193) (b := b) (i := 5) (f := qp_X5_run) (qs_X5_run_5 hd))
theorem tqm_X5_run_r {df : qe_Df} {L : Nat} {E : qe_E} (hd : qe_dok E.2.2.2 df) (b : Nat) : qx_sn (dp := dp) (qZ E L) 193 (qp_X5_run b) (qm_X5_run_r df L b).1 := by
  unfold qm_X5_run_r
  exact sn_node (sn_leaf (j := 193) (b := b) (i := 3) (f := qp_X5_run) (qs_X5_run_3 hd)) (tqm_X5_run_rr hd b)
theorem tqm_X5_run_ {df : qe_Df} {L : Nat} {E : qe_E} (hd : qe_dok E.2.2.2 df) (b : Nat) : qx_sn (dp := dp) (qZ E L) 193 (qp_X5_run b) (qm_X5_run_ df L b).1 := by
  unfold qm_X5_run_
  exact sn_node (tqm_X5_run_l hd b) (tqm_X5_run_r hd b)
theorem tqm_X5_run {df : qe_Df} {L : Nat} {E : qe_E} (hd : qe_dok E.2.2.2 df) (b : Nat) : qx_sn (dp := dp) (qZ E L) 193 (qp_X5_run b) (qm_X5_run df L b).1 := by
  unfold qm_X5_run
  exact (tqm_X5_run_ hd b)
theorem tqm_X5_measure_ {df : qe_Df} {L : Nat} {E : qe_E} (hd : qe_dok E.2.2.2 df) (b : Nat) : qx_sn (dp := dp) (qZ E L) 194 (qp_X5_measure b) (qm_X5_measure_ df L b).1 := by
  unfold qm_X5_measure_
  exact sn_node (sn_leaf (j := 194) (b := b) (i := 0) (f := qp_X5_measure) (qs_X5_measure_0 hd)) (sn_leaf (j := 194) (b := b) (i := 1) (f := qp_X5_measure) (qs_X5_measure_1 hd))
theorem tqm_X5_measure {df : qe_Df} {L : Nat} {E : qe_E} (hd : qe_dok E.2.2.2 df) (b : Nat) : qx_sn (dp := dp) (qZ E L) 194 (qp_X5_measure b) (qm_X5_measure df L b).1 := by
  unfold qm_X5_measure
  exact (tqm_X5_measure_ hd b)
theorem tqm_X5_runLinear_ {df : qe_Df} {L : Nat} {E : qe_E} (hd : qe_dok E.2.2.2 df) (b : Nat) : qx_sn (dp := dp) (qZ E L) 197 (qp_X5_runLinear b) (qm_X5_runLinear_ df L b).1 := by
  unfold qm_X5_runLinear_
  exact sn_node (sn_leaf (j := 197) (b := b) (i := 0) (f := qp_X5_runLinear) (qs_X5_runLinear_0 hd)) (sn_leaf (j := 197) (b := b) (i := 1) (f := qp_X5_runLinear) (qs_X5_runLinear_1 hd))
theorem tqm_X5_runLinear {df : qe_Df} {L : Nat} {E : qe_E} (hd : qe_dok E.2.2.2 df) (b : Nat) : qx_sn (dp := dp) (qZ E L) 197 (qp_X5_runLinear b) (qm_X5_runLinear df L b).1 := by
  unfold qm_X5_runLinear
  exact (tqm_X5_runLinear_ hd b)
theorem tqm_X5_runBinary_ {df : qe_Df} {L : Nat} {E : qe_E} (hd : qe_dok E.2.2.2 df) (b : Nat) : qx_sn (dp := dp) (qZ E L) 198 (qp_X5_runBinary b) (qm_X5_runBinary_ df L b).1 := by
  unfold qm_X5_runBinary_
  exact sn_node (sn_leaf (j := 198) (b := b) (i := 0) (f := qp_X5_runBinary) (qs_X5_runBinary_0 hd)) (sn_leaf (j := 198) (b := b) (i := 1) (f := qp_X5_runBinary) (qs_X5_runBinary_1 hd))
theorem tqm_X5_runBinary {df : qe_Df} {L : Nat} {E : qe_E} (hd : qe_dok E.2.2.2 df) (b : Nat) : qx_sn (dp := dp) (qZ E L) 198 (qp_X5_runBinary b) (qm_X5_runBinary df L b).1 := by
  unfold qm_X5_runBinary
  exact (tqm_X5_runBinary_ hd b)
theorem tqm_X5_runTrees_r {df : qe_Df} {L : Nat} {E : qe_E} (hd : qe_dok E.2.2.2 df) (b : Nat) : qx_sn (dp := dp) (qZ E L) 199 (qp_X5_runTrees b) (qm_X5_runTrees_r df L b).1 := by
  unfold qm_X5_runTrees_r
  exact sn_node (sn_leaf (j := 199) (b := b) (i := 1) (f := qp_X5_runTrees) (qs_X5_runTrees_1 hd)) (sn_leaf (j := 199) (b := b) (i := 2) (f := qp_X5_runTrees) (qs_X5_runTrees_2 hd))
theorem tqm_X5_runTrees_ {df : qe_Df} {L : Nat} {E : qe_E} (hd : qe_dok E.2.2.2 df) (b : Nat) : qx_sn (dp := dp) (qZ E L) 199 (qp_X5_runTrees b) (qm_X5_runTrees_ df L b).1 := by
  unfold qm_X5_runTrees_
  exact sn_node (sn_leaf (j := 199) (b := b) (i := 0) (f := qp_X5_runTrees) (qs_X5_runTrees_0 hd)) (tqm_X5_runTrees_r hd b)
theorem tqm_X5_runTrees {df : qe_Df} {L : Nat} {E : qe_E} (hd : qe_dok E.2.2.2 df) (b : Nat) : qx_sn (dp := dp) (qZ E L) 199 (qp_X5_runTrees b) (qm_X5_runTrees df L b).1 := by
  unfold qm_X5_runTrees
  exact (tqm_X5_runTrees_ hd b)
theorem tqm_X5_runTable_ {df : qe_Df} {L : Nat} {E : qe_E} (hd : qe_dok E.2.2.2 df) (b : Nat) : qx_sn (dp := dp) (qZ E L) 201 (qp_X5_runTable b) (qm_X5_runTable_ df L b).1 := by
  unfold qm_X5_runTable_
  exact sn_node (sn_leaf (j := 201) (b := b) (i := 0) (f := qp_X5_runTable) (qs_X5_runTable_0 hd)) (sn_leaf (j := 201) (b := b) (i := 1) (f := qp_X5_runTable) (qs_X5_runTable_1 hd))
theorem tqm_X5_runTable {df : qe_Df} {L : Nat} {E : qe_E} (hd : qe_dok E.2.2.2 df) (b : Nat) : qx_sn (dp := dp) (qZ E L) 201 (qp_X5_runTable b) (qm_X5_runTable df L b).1 := by
  unfold qm_X5_runTable
  exact (tqm_X5_runTable_ hd b)
theorem tqm_X6_init {df : qe_Df} {L : Nat} {E : qe_E} (hd : qe_dok E.2.2.2 df) (b : Nat) : qx_sn (dp := dp) (qZ E L) 202 (qp_X6_init b) (qm_X6_init df L b).1 := by
  unfold qm_X6_init
  exact (sn_leaf (j := 202) (b := b) (i := 0) (f := qp_X6_init) (qs_X6_init_0 hd))
theorem tqm_X6_choose_l {df : qe_Df} {L : Nat} {E : qe_E} (hd : qe_dok E.2.2.2 df) (b : Nat) : qx_sn (dp := dp) (qZ E L) 203 (qp_X6_choose b) (qm_X6_choose_l df L b).1 := by
  unfold qm_X6_choose_l
  exact sn_node (sn_leaf (j := 203) (b := b) (i := 0) (f := qp_X6_choose) (qs_X6_choose_0 hd)) (sn_leaf (j := 203) (b := b) (i := 1) (f := qp_X6_choose) (qs_X6_choose_1 hd))
theorem tqm_X6_choose_r {df : qe_Df} {L : Nat} {E : qe_E} (hd : qe_dok E.2.2.2 df) (b : Nat) : qx_sn (dp := dp) (qZ E L) 203 (qp_X6_choose b) (qm_X6_choose_r df L b).1 := by
  unfold qm_X6_choose_r
  exact sn_node (sn_leaf (j := 203) (b := b) (i := 2) (f := qp_X6_choose) (qs_X6_choose_2 hd)) (sn_leaf (j := 203) (b := b) (i := 3) (f := qp_X6_choose) (qs_X6_choose_3 hd))
theorem tqm_X6_choose_ {df : qe_Df} {L : Nat} {E : qe_E} (hd : qe_dok E.2.2.2 df) (b : Nat) : qx_sn (dp := dp) (qZ E L) 203 (qp_X6_choose b) (qm_X6_choose_ df L b).1 := by
  unfold qm_X6_choose_
  exact sn_node (tqm_X6_choose_l hd b) (tqm_X6_choose_r hd b)
theorem tqm_X6_choose {df : qe_Df} {L : Nat} {E : qe_E} (hd : qe_dok E.2.2.2 df) (b : Nat) : qx_sn (dp := dp) (qZ E L) 203 (qp_X6_choose b) (qm_X6_choose df L b).1 := by
  unfold qm_X6_choose
  exact (tqm_X6_choose_ hd b)
theorem tqm_X6_turned_l {df : qe_Df} {L : Nat} {E : qe_E} (hd : qe_dok E.2.2.2 df) (b : Nat) : qx_sn (dp := dp) (qZ E L) 204 (qp_X6_turned b) (qm_X6_turned_l df L b).1 := by
  unfold qm_X6_turned_l
  exact sn_node (sn_leaf (j := 204) (b := b) (i := 0) (f := qp_X6_turned) (qs_X6_turned_0 hd)) (sn_leaf (j := 204) (b := b) (i := 1) (f := qp_X6_turned) (qs_X6_turned_1 hd))
theorem tqm_X6_turned_r {df : qe_Df} {L : Nat} {E : qe_E} (hd : qe_dok E.2.2.2 df) (b : Nat) : qx_sn (dp := dp) (qZ E L) 204 (qp_X6_turned b) (qm_X6_turned_r df L b).1 := by
  unfold qm_X6_turned_r
  exact sn_node (sn_leaf (j := 204) (b := b) (i := 2) (f := qp_X6_turned) (qs_X6_turned_2 hd)) (sn_leaf (j := 204) (b := b) (i := 3) (f := qp_X6_turned) (qs_X6_turned_3 hd))
theorem tqm_X6_turned_ {df : qe_Df} {L : Nat} {E : qe_E} (hd : qe_dok E.2.2.2 df) (b : Nat) : qx_sn (dp := dp) (qZ E L) 204 (qp_X6_turned b) (qm_X6_turned_ df L b).1 := by
  unfold qm_X6_turned_
  exact sn_node (tqm_X6_turned_l hd b) (tqm_X6_turned_r hd b)
theorem tqm_X6_turned {df : qe_Df} {L : Nat} {E : qe_E} (hd : qe_dok E.2.2.2 df) (b : Nat) : qx_sn (dp := dp) (qZ E L) 204 (qp_X6_turned b) (qm_X6_turned df L b).1 := by
  unfold qm_X6_turned
  exact (tqm_X6_turned_ hd b)
theorem tqm_X6_collectPairs_ {df : qe_Df} {L : Nat} {E : qe_E} (hd : qe_dok E.2.2.2 df) (b : Nat) : qx_sn (dp := dp) (qZ E L) 205 (qp_X6_collectPairs b) (qm_X6_collectPairs_ df L b).1 := by
  unfold qm_X6_collectPairs_
  exact sn_node (sn_leaf (j := 205) (b := b) (i := 0) (f := qp_X6_collectPairs) (qs_X6_collectPairs_0 hd)) (sn_leaf (j := 205) (b := b) (i := 1) (f := qp_X6_collectPairs) (qs_X6_collectPairs_1 hd))
theorem tqm_X6_collectPairs {df : qe_Df} {L : Nat} {E : qe_E} (hd : qe_dok E.2.2.2 df) (b : Nat) : qx_sn (dp := dp) (qZ E L) 205 (qp_X6_collectPairs b) (qm_X6_collectPairs df L b).1 := by
  unfold qm_X6_collectPairs
  exact (tqm_X6_collectPairs_ hd b)
theorem tqm_X6_separates_ {df : qe_Df} {L : Nat} {E : qe_E} (hd : qe_dok E.2.2.2 df) (b : Nat) : qx_sn (dp := dp) (qZ E L) 206 (qp_X6_separates b) (qm_X6_separates_ df L b).1 := by
  unfold qm_X6_separates_
  exact sn_node (sn_leaf (j := 206) (b := b) (i := 0) (f := qp_X6_separates) (qs_X6_separates_0 hd)) (sn_leaf (j := 206) (b := b) (i := 1) (f := qp_X6_separates) (qs_X6_separates_1 hd))
theorem tqm_X6_separates {df : qe_Df} {L : Nat} {E : qe_E} (hd : qe_dok E.2.2.2 df) (b : Nat) : qx_sn (dp := dp) (qZ E L) 206 (qp_X6_separates b) (qm_X6_separates df L b).1 := by
  unfold qm_X6_separates
  exact (tqm_X6_separates_ hd b)
theorem tqm_X6_hashOf_l {df : qe_Df} {L : Nat} {E : qe_E} (hd : qe_dok E.2.2.2 df) (b : Nat) : qx_sn (dp := dp) (qZ E L) 207 (qp_X6_hashOf b) (qm_X6_hashOf_l df L b).1 := by
  unfold qm_X6_hashOf_l
  exact sn_node (sn_leaf (j := 207) (b := b) (i := 0) (f := qp_X6_hashOf) (qs_X6_hashOf_0 hd)) (sn_leaf (j := 207) (b := b) (i := 1) (f := qp_X6_hashOf) (qs_X6_hashOf_1 hd))
theorem tqm_X6_hashOf_r {df : qe_Df} {L : Nat} {E : qe_E} (hd : qe_dok E.2.2.2 df) (b : Nat) : qx_sn (dp := dp) (qZ E L) 207 (qp_X6_hashOf b) (qm_X6_hashOf_r df L b).1 := by
  unfold qm_X6_hashOf_r
  exact sn_node (sn_leaf (j := 207) (b := b) (i := 2) (f := qp_X6_hashOf) (qs_X6_hashOf_2 hd)) (sn_leaf (j := 207) (b := b) (i := 3) (f := qp_X6_hashOf) (qs_X6_hashOf_3 hd))
theorem tqm_X6_hashOf_ {df : qe_Df} {L : Nat} {E : qe_E} (hd : qe_dok E.2.2.2 df) (b : Nat) : qx_sn (dp := dp) (qZ E L) 207 (qp_X6_hashOf b) (qm_X6_hashOf_ df L b).1 := by
  unfold qm_X6_hashOf_
  exact sn_node (tqm_X6_hashOf_l hd b) (tqm_X6_hashOf_r hd b)
theorem tqm_X6_hashOf {df : qe_Df} {L : Nat} {E : qe_E} (hd : qe_dok E.2.2.2 df) (b : Nat) : qx_sn (dp := dp) (qZ E L) 207 (qp_X6_hashOf b) (qm_X6_hashOf df L b).1 := by
  unfold qm_X6_hashOf
  exact (tqm_X6_hashOf_ hd b)
theorem tqm_X7_init {df : qe_Df} {L : Nat} {E : qe_E} (hd : qe_dok E.2.2.2 df) (b : Nat) : qx_sn (dp := dp) (qZ E L) 208 (qp_X7_init b) (qm_X7_init df L b).1 := by
  unfold qm_X7_init
  exact (sn_leaf (j := 208) (b := b) (i := 0) (f := qp_X7_init) (qs_X7_init_0 hd))
theorem tqm_X7_build_r {df : qe_Df} {L : Nat} {E : qe_E} (hd : qe_dok E.2.2.2 df) (b : Nat) : qx_sn (dp := dp) (qZ E L) 209 (qp_X7_build b) (qm_X7_build_r df L b).1 := by
  unfold qm_X7_build_r
  exact sn_node (sn_leaf (j := 209) (b := b) (i := 1) (f := qp_X7_build) (qs_X7_build_1 hd)) (sn_leaf (j := 209) (b := b) (i := 2) (f := qp_X7_build) (qs_X7_build_2 hd))
theorem tqm_X7_build_ {df : qe_Df} {L : Nat} {E : qe_E} (hd : qe_dok E.2.2.2 df) (b : Nat) : qx_sn (dp := dp) (qZ E L) 209 (qp_X7_build b) (qm_X7_build_ df L b).1 := by
  unfold qm_X7_build_
  exact sn_node (sn_leaf (j := 209) (b := b) (i := 0) (f := qp_X7_build) (qs_X7_build_0 hd)) (tqm_X7_build_r hd b)
theorem tqm_X7_build {df : qe_Df} {L : Nat} {E : qe_E} (hd : qe_dok E.2.2.2 df) (b : Nat) : qx_sn (dp := dp) (qZ E L) 209 (qp_X7_build b) (qm_X7_build df L b).1 := by
  unfold qm_X7_build
  exact (tqm_X7_build_ hd b)
theorem tqm_X8_init {df : qe_Df} {L : Nat} {E : qe_E} (hd : qe_dok E.2.2.2 df) (b : Nat) : qx_sn (dp := dp) (qZ E L) 218 (qp_X8_init b) (qm_X8_init df L b).1 := by
  unfold qm_X8_init
  exact (sn_leaf (j := 218) (b := b) (i := 0) (f := qp_X8_init) (qs_X8_init_0 hd))
theorem tqm_X8_empty {df : qe_Df} {L : Nat} {E : qe_E} (hd : qe_dok E.2.2.2 df) (b : Nat) : qx_sn (dp := dp) (qZ E L) 219 (qp_X8_empty b) (qm_X8_empty df L b).1 := by
  unfold qm_X8_empty
  exact (sn_leaf (j := 219) (b := b) (i := 0) (f := qp_X8_empty) (qs_X8_empty_0 hd))
theorem tqm_X8_write_ {df : qe_Df} {L : Nat} {E : qe_E} (hd : qe_dok E.2.2.2 df) (b : Nat) : qx_sn (dp := dp) (qZ E L) 221 (qp_X8_write b) (qm_X8_write_ df L b).1 := by
  unfold qm_X8_write_
  exact sn_node (sn_leaf (j := 221) (b := b) (i := 0) (f := qp_X8_write) (qs_X8_write_0 hd)) (sn_leaf (j := 221) (b := b) (i := 1) (f := qp_X8_write) (qs_X8_write_1 hd))
theorem tqm_X8_write {df : qe_Df} {L : Nat} {E : qe_E} (hd : qe_dok E.2.2.2 df) (b : Nat) : qx_sn (dp := dp) (qZ E L) 221 (qp_X8_write b) (qm_X8_write df L b).1 := by
  unfold qm_X8_write
  exact (tqm_X8_write_ hd b)
theorem tqm_X8_isKey_r {df : qe_Df} {L : Nat} {E : qe_E} (hd : qe_dok E.2.2.2 df) (b : Nat) : qx_sn (dp := dp) (qZ E L) 224 (qp_X8_isKey b) (qm_X8_isKey_r df L b).1 := by
  unfold qm_X8_isKey_r
  exact sn_node (sn_leaf (j := 224) (b := b) (i := 1) (f := qp_X8_isKey) (qs_X8_isKey_1 hd)) (sn_leaf (j := 224) (b := b) (i := 2) (f := qp_X8_isKey) (qs_X8_isKey_2 hd))
theorem tqm_X8_isKey_ {df : qe_Df} {L : Nat} {E : qe_E} (hd : qe_dok E.2.2.2 df) (b : Nat) : qx_sn (dp := dp) (qZ E L) 224 (qp_X8_isKey b) (qm_X8_isKey_ df L b).1 := by
  unfold qm_X8_isKey_
  exact sn_node (sn_leaf (j := 224) (b := b) (i := 0) (f := qp_X8_isKey) (qs_X8_isKey_0 hd)) (tqm_X8_isKey_r hd b)
theorem tqm_X8_isKey {df : qe_Df} {L : Nat} {E : qe_E} (hd : qe_dok E.2.2.2 df) (b : Nat) : qx_sn (dp := dp) (qZ E L) 224 (qp_X8_isKey b) (qm_X8_isKey df L b).1 := by
  unfold qm_X8_isKey
  exact (tqm_X8_isKey_ hd b)
theorem tqm_L_append_r {df : qe_Df} {L : Nat} {E : qe_E} (hd : qe_dok E.2.2.2 df) (b : Nat) : qx_sn (dp := dp) (qZ E L) 225 (qp_L_append b) (qm_L_append_r df L b).1 := by
  unfold qm_L_append_r
  exact sn_node (sn_leaf (j := 225) (b := b) (i := 1) (f := qp_L_append) (qs_L_append_1 hd)) (sn_leaf (j := 225) (b := b) (i := 2) (f := qp_L_append) (qs_L_append_2 hd))
theorem tqm_L_append_ {df : qe_Df} {L : Nat} {E : qe_E} (hd : qe_dok E.2.2.2 df) (b : Nat) : qx_sn (dp := dp) (qZ E L) 225 (qp_L_append b) (qm_L_append_ df L b).1 := by
  unfold qm_L_append_
  exact sn_node (sn_leaf (j := 225) (b := b) (i := 0) (f := qp_L_append) (qs_L_append_0 hd)) (tqm_L_append_r hd b)
theorem tqm_L_append {df : qe_Df} {L : Nat} {E : qe_E} (hd : qe_dok E.2.2.2 df) (b : Nat) : qx_sn (dp := dp) (qZ E L) 225 (qp_L_append b) (qm_L_append df L b).1 := by
  unfold qm_L_append
  exact (tqm_L_append_ hd b)
theorem tqm_L_add_ {df : qe_Df} {L : Nat} {E : qe_E} (hd : qe_dok E.2.2.2 df) (b : Nat) : qx_sn (dp := dp) (qZ E L) 226 (qp_L_add b) (qm_L_add_ df L b).1 := by
  unfold qm_L_add_
  exact sn_node (sn_leaf (j := 226) (b := b) (i := 0) (f := qp_L_add) (qs_L_add_0 hd)) (sn_leaf (j := 226) (b := b) (i := 1) (f := qp_L_add) (qs_L_add_1 hd))
theorem tqm_L_add {df : qe_Df} {L : Nat} {E : qe_E} (hd : qe_dok E.2.2.2 df) (b : Nat) : qx_sn (dp := dp) (qZ E L) 226 (qp_L_add b) (qm_L_add df L b).1 := by
  unfold qm_L_add
  exact (tqm_L_add_ hd b)
theorem tqm_L_remove_ {df : qe_Df} {L : Nat} {E : qe_E} (hd : qe_dok E.2.2.2 df) (b : Nat) : qx_sn (dp := dp) (qZ E L) 227 (qp_L_remove b) (qm_L_remove_ df L b).1 := by
  unfold qm_L_remove_
  exact sn_node (sn_leaf (j := 227) (b := b) (i := 0) (f := qp_L_remove) (qs_L_remove_0 hd)) (sn_leaf (j := 227) (b := b) (i := 1) (f := qp_L_remove) (qs_L_remove_1 hd))
theorem tqm_L_remove {df : qe_Df} {L : Nat} {E : qe_E} (hd : qe_dok E.2.2.2 df) (b : Nat) : qx_sn (dp := dp) (qZ E L) 227 (qp_L_remove b) (qm_L_remove df L b).1 := by
  unfold qm_L_remove
  exact (tqm_L_remove_ hd b)
theorem tqm_L_setBranch_ {df : qe_Df} {L : Nat} {E : qe_E} (hd : qe_dok E.2.2.2 df) (b : Nat) : qx_sn (dp := dp) (qZ E L) 228 (qp_L_setBranch b) (qm_L_setBranch_ df L b).1 := by
  unfold qm_L_setBranch_
  exact sn_node (sn_leaf (j := 228) (b := b) (i := 0) (f := qp_L_setBranch) (qs_L_setBranch_0 hd)) (sn_leaf (j := 228) (b := b) (i := 1) (f := qp_L_setBranch) (qs_L_setBranch_1 hd))
theorem tqm_L_setBranch {df : qe_Df} {L : Nat} {E : qe_E} (hd : qe_dok E.2.2.2 df) (b : Nat) : qx_sn (dp := dp) (qZ E L) 228 (qp_L_setBranch b) (qm_L_setBranch df L b).1 := by
  unfold qm_L_setBranch
  exact (tqm_L_setBranch_ hd b)
theorem tqm_L_setWeight_ {df : qe_Df} {L : Nat} {E : qe_E} (hd : qe_dok E.2.2.2 df) (b : Nat) : qx_sn (dp := dp) (qZ E L) 229 (qp_L_setWeight b) (qm_L_setWeight_ df L b).1 := by
  unfold qm_L_setWeight_
  exact sn_node (sn_leaf (j := 229) (b := b) (i := 0) (f := qp_L_setWeight) (qs_L_setWeight_0 hd)) (sn_leaf (j := 229) (b := b) (i := 1) (f := qp_L_setWeight) (qs_L_setWeight_1 hd))
theorem tqm_L_setWeight {df : qe_Df} {L : Nat} {E : qe_E} (hd : qe_dok E.2.2.2 df) (b : Nat) : qx_sn (dp := dp) (qZ E L) 229 (qp_L_setWeight b) (qm_L_setWeight df L b).1 := by
  unfold qm_L_setWeight
  exact (tqm_L_setWeight_ hd b)
theorem tqm_L_setLoad_r {df : qe_Df} {L : Nat} {E : qe_E} (hd : qe_dok E.2.2.2 df) (b : Nat) : qx_sn (dp := dp) (qZ E L) 230 (qp_L_setLoad b) (qm_L_setLoad_r df L b).1 := by
  unfold qm_L_setLoad_r
  exact sn_node (sn_leaf (j := 230) (b := b) (i := 1) (f := qp_L_setLoad) (qs_L_setLoad_1 hd)) (sn_leaf (j := 230) (b := b) (i := 2) (f := qp_L_setLoad) (qs_L_setLoad_2 hd))
theorem tqm_L_setLoad_ {df : qe_Df} {L : Nat} {E : qe_E} (hd : qe_dok E.2.2.2 df) (b : Nat) : qx_sn (dp := dp) (qZ E L) 230 (qp_L_setLoad b) (qm_L_setLoad_ df L b).1 := by
  unfold qm_L_setLoad_
  exact sn_node (sn_leaf (j := 230) (b := b) (i := 0) (f := qp_L_setLoad) (qs_L_setLoad_0 hd)) (tqm_L_setLoad_r hd b)
theorem tqm_L_setLoad {df : qe_Df} {L : Nat} {E : qe_E} (hd : qe_dok E.2.2.2 df) (b : Nat) : qx_sn (dp := dp) (qZ E L) 230 (qp_L_setLoad b) (qm_L_setLoad df L b).1 := by
  unfold qm_L_setLoad
  exact (tqm_L_setLoad_ hd b)
theorem tqm_L_execute_ {df : qe_Df} {L : Nat} {E : qe_E} (hd : qe_dok E.2.2.2 df) (b : Nat) : qx_sn (dp := dp) (qZ E L) 231 (qp_L_execute b) (qm_L_execute_ df L b).1 := by
  unfold qm_L_execute_
  exact sn_node (sn_leaf (j := 231) (b := b) (i := 0) (f := qp_L_execute) (qs_L_execute_0 hd)) (sn_leaf (j := 231) (b := b) (i := 1) (f := qp_L_execute) (qs_L_execute_1 hd))
theorem tqm_L_execute {df : qe_Df} {L : Nat} {E : qe_E} (hd : qe_dok E.2.2.2 df) (b : Nat) : qx_sn (dp := dp) (qZ E L) 231 (qp_L_execute b) (qm_L_execute df L b).1 := by
  unfold qm_L_execute
  exact (tqm_L_execute_ hd b)
theorem tqm_L_property_ {df : qe_Df} {L : Nat} {E : qe_E} (hd : qe_dok E.2.2.2 df) (b : Nat) : qx_sn (dp := dp) (qZ E L) 232 (qp_L_property b) (qm_L_property_ df L b).1 := by
  unfold qm_L_property_
  exact sn_node (sn_leaf (j := 232) (b := b) (i := 0) (f := qp_L_property) (qs_L_property_0 hd)) (sn_leaf (j := 232) (b := b) (i := 1) (f := qp_L_property) (qs_L_property_1 hd))
theorem tqm_L_property {df : qe_Df} {L : Nat} {E : qe_E} (hd : qe_dok E.2.2.2 df) (b : Nat) : qx_sn (dp := dp) (qZ E L) 232 (qp_L_property b) (qm_L_property df L b).1 := by
  unfold qm_L_property
  exact (tqm_L_property_ hd b)
theorem tqm_L_character_ {df : qe_Df} {L : Nat} {E : qe_E} (hd : qe_dok E.2.2.2 df) (b : Nat) : qx_sn (dp := dp) (qZ E L) 233 (qp_L_character b) (qm_L_character_ df L b).1 := by
  unfold qm_L_character_
  exact sn_node (sn_leaf (j := 233) (b := b) (i := 0) (f := qp_L_character) (qs_L_character_0 hd)) (sn_leaf (j := 233) (b := b) (i := 1) (f := qp_L_character) (qs_L_character_1 hd))
theorem tqm_L_character {df : qe_Df} {L : Nat} {E : qe_E} (hd : qe_dok E.2.2.2 df) (b : Nat) : qx_sn (dp := dp) (qZ E L) 233 (qp_L_character b) (qm_L_character df L b).1 := by
  unfold qm_L_character
  exact (tqm_L_character_ hd b)
theorem tqm_L_difference_ {df : qe_Df} {L : Nat} {E : qe_E} (hd : qe_dok E.2.2.2 df) (b : Nat) : qx_sn (dp := dp) (qZ E L) 234 (qp_L_difference b) (qm_L_difference_ df L b).1 := by
  unfold qm_L_difference_
  exact sn_node (sn_leaf (j := 234) (b := b) (i := 0) (f := qp_L_difference) (qs_L_difference_0 hd)) (sn_leaf (j := 234) (b := b) (i := 1) (f := qp_L_difference) (qs_L_difference_1 hd))
theorem tqm_L_difference {df : qe_Df} {L : Nat} {E : qe_E} (hd : qe_dok E.2.2.2 df) (b : Nat) : qx_sn (dp := dp) (qZ E L) 234 (qp_L_difference b) (qm_L_difference df L b).1 := by
  unfold qm_L_difference
  exact (tqm_L_difference_ hd b)
theorem tqm_L_size_r {df : qe_Df} {L : Nat} {E : qe_E} (hd : qe_dok E.2.2.2 df) (b : Nat) : qx_sn (dp := dp) (qZ E L) 235 (qp_L_size b) (qm_L_size_r df L b).1 := by
  unfold qm_L_size_r
  exact sn_node (sn_leaf (j := 235) (b := b) (i := 1) (f := qp_L_size) (qs_L_size_1 hd)) (sn_leaf (j := 235) (b := b) (i := 2) (f := qp_L_size) (qs_L_size_2 hd))
theorem tqm_L_size_ {df : qe_Df} {L : Nat} {E : qe_E} (hd : qe_dok E.2.2.2 df) (b : Nat) : qx_sn (dp := dp) (qZ E L) 235 (qp_L_size b) (qm_L_size_ df L b).1 := by
  unfold qm_L_size_
  exact sn_node (sn_leaf (j := 235) (b := b) (i := 0) (f := qp_L_size) (qs_L_size_0 hd)) (tqm_L_size_r hd b)
theorem tqm_L_size {df : qe_Df} {L : Nat} {E : qe_E} (hd : qe_dok E.2.2.2 df) (b : Nat) : qx_sn (dp := dp) (qZ E L) 235 (qp_L_size b) (qm_L_size df L b).1 := by
  unfold qm_L_size
  exact (tqm_L_size_ hd b)
theorem tqm_L_find_r {df : qe_Df} {L : Nat} {E : qe_E} (hd : qe_dok E.2.2.2 df) (b : Nat) : qx_sn (dp := dp) (qZ E L) 236 (qp_L_find b) (qm_L_find_r df L b).1 := by
  unfold qm_L_find_r
  exact sn_node (sn_leaf (j := 236) (b := b) (i := 1) (f := qp_L_find) (qs_L_find_1 hd)) (sn_leaf (j := 236) (b := b) (i := 2) (f := qp_L_find) (qs_L_find_2 hd))
theorem tqm_L_find_ {df : qe_Df} {L : Nat} {E : qe_E} (hd : qe_dok E.2.2.2 df) (b : Nat) : qx_sn (dp := dp) (qZ E L) 236 (qp_L_find b) (qm_L_find_ df L b).1 := by
  unfold qm_L_find_
  exact sn_node (sn_leaf (j := 236) (b := b) (i := 0) (f := qp_L_find) (qs_L_find_0 hd)) (tqm_L_find_r hd b)
theorem tqm_L_find {df : qe_Df} {L : Nat} {E : qe_E} (hd : qe_dok E.2.2.2 df) (b : Nat) : qx_sn (dp := dp) (qZ E L) 236 (qp_L_find b) (qm_L_find df L b).1 := by
  unfold qm_L_find
  exact (tqm_L_find_ hd b)
theorem tqm_L_branch_r {df : qe_Df} {L : Nat} {E : qe_E} (hd : qe_dok E.2.2.2 df) (b : Nat) : qx_sn (dp := dp) (qZ E L) 237 (qp_L_branch b) (qm_L_branch_r df L b).1 := by
  unfold qm_L_branch_r
  exact sn_node (sn_leaf (j := 237) (b := b) (i := 1) (f := qp_L_branch) (qs_L_branch_1 hd)) (sn_leaf (j := 237) (b := b) (i := 2) (f := qp_L_branch) (qs_L_branch_2 hd))
theorem tqm_L_branch_ {df : qe_Df} {L : Nat} {E : qe_E} (hd : qe_dok E.2.2.2 df) (b : Nat) : qx_sn (dp := dp) (qZ E L) 237 (qp_L_branch b) (qm_L_branch_ df L b).1 := by
  unfold qm_L_branch_
  exact sn_node (sn_leaf (j := 237) (b := b) (i := 0) (f := qp_L_branch) (qs_L_branch_0 hd)) (tqm_L_branch_r hd b)
theorem tqm_L_branch {df : qe_Df} {L : Nat} {E : qe_E} (hd : qe_dok E.2.2.2 df) (b : Nat) : qx_sn (dp := dp) (qZ E L) 237 (qp_L_branch b) (qm_L_branch df L b).1 := by
  unfold qm_L_branch
  exact (tqm_L_branch_ hd b)
theorem tqm_L_examined_r {df : qe_Df} {L : Nat} {E : qe_E} (hd : qe_dok E.2.2.2 df) (b : Nat) : qx_sn (dp := dp) (qZ E L) 238 (qp_L_examined b) (qm_L_examined_r df L b).1 := by
  unfold qm_L_examined_r
  exact sn_node (sn_leaf (j := 238) (b := b) (i := 1) (f := qp_L_examined) (qs_L_examined_1 hd)) (sn_leaf (j := 238) (b := b) (i := 2) (f := qp_L_examined) (qs_L_examined_2 hd))
theorem tqm_L_examined_ {df : qe_Df} {L : Nat} {E : qe_E} (hd : qe_dok E.2.2.2 df) (b : Nat) : qx_sn (dp := dp) (qZ E L) 238 (qp_L_examined b) (qm_L_examined_ df L b).1 := by
  unfold qm_L_examined_
  exact sn_node (sn_leaf (j := 238) (b := b) (i := 0) (f := qp_L_examined) (qs_L_examined_0 hd)) (tqm_L_examined_r hd b)
theorem tqm_L_examined {df : qe_Df} {L : Nat} {E : qe_E} (hd : qe_dok E.2.2.2 df) (b : Nat) : qx_sn (dp := dp) (qZ E L) 238 (qp_L_examined b) (qm_L_examined df L b).1 := by
  unfold qm_L_examined
  exact (tqm_L_examined_ hd b)
theorem tqm_L_cost_r {df : qe_Df} {L : Nat} {E : qe_E} (hd : qe_dok E.2.2.2 df) (b : Nat) : qx_sn (dp := dp) (qZ E L) 239 (qp_L_cost b) (qm_L_cost_r df L b).1 := by
  unfold qm_L_cost_r
  exact sn_node (sn_leaf (j := 239) (b := b) (i := 1) (f := qp_L_cost) (qs_L_cost_1 hd)) (sn_leaf (j := 239) (b := b) (i := 2) (f := qp_L_cost) (qs_L_cost_2 hd))
theorem tqm_L_cost_ {df : qe_Df} {L : Nat} {E : qe_E} (hd : qe_dok E.2.2.2 df) (b : Nat) : qx_sn (dp := dp) (qZ E L) 239 (qp_L_cost b) (qm_L_cost_ df L b).1 := by
  unfold qm_L_cost_
  exact sn_node (sn_leaf (j := 239) (b := b) (i := 0) (f := qp_L_cost) (qs_L_cost_0 hd)) (tqm_L_cost_r hd b)
theorem tqm_L_cost {df : qe_Df} {L : Nat} {E : qe_E} (hd : qe_dok E.2.2.2 df) (b : Nat) : qx_sn (dp := dp) (qZ E L) 239 (qp_L_cost b) (qm_L_cost df L b).1 := by
  unfold qm_L_cost
  exact (tqm_L_cost_ hd b)
theorem tqm_L_worst_r {df : qe_Df} {L : Nat} {E : qe_E} (hd : qe_dok E.2.2.2 df) (b : Nat) : qx_sn (dp := dp) (qZ E L) 240 (qp_L_worst b) (qm_L_worst_r df L b).1 := by
  unfold qm_L_worst_r
  exact sn_node (sn_leaf (j := 240) (b := b) (i := 1) (f := qp_L_worst) (qs_L_worst_1 hd)) (sn_leaf (j := 240) (b := b) (i := 2) (f := qp_L_worst) (qs_L_worst_2 hd))
theorem tqm_L_worst_ {df : qe_Df} {L : Nat} {E : qe_E} (hd : qe_dok E.2.2.2 df) (b : Nat) : qx_sn (dp := dp) (qZ E L) 240 (qp_L_worst b) (qm_L_worst_ df L b).1 := by
  unfold qm_L_worst_
  exact sn_node (sn_leaf (j := 240) (b := b) (i := 0) (f := qp_L_worst) (qs_L_worst_0 hd)) (tqm_L_worst_r hd b)
theorem tqm_L_worst {df : qe_Df} {L : Nat} {E : qe_E} (hd : qe_dok E.2.2.2 df) (b : Nat) : qx_sn (dp := dp) (qZ E L) 240 (qp_L_worst b) (qm_L_worst df L b).1 := by
  unfold qm_L_worst
  exact (tqm_L_worst_ hd b)
theorem tqm_L_meanBits_r {df : qe_Df} {L : Nat} {E : qe_E} (hd : qe_dok E.2.2.2 df) (b : Nat) : qx_sn (dp := dp) (qZ E L) 241 (qp_L_meanBits b) (qm_L_meanBits_r df L b).1 := by
  unfold qm_L_meanBits_r
  exact sn_node (sn_leaf (j := 241) (b := b) (i := 1) (f := qp_L_meanBits) (qs_L_meanBits_1 hd)) (sn_leaf (j := 241) (b := b) (i := 2) (f := qp_L_meanBits) (qs_L_meanBits_2 hd))
theorem tqm_L_meanBits_ {df : qe_Df} {L : Nat} {E : qe_E} (hd : qe_dok E.2.2.2 df) (b : Nat) : qx_sn (dp := dp) (qZ E L) 241 (qp_L_meanBits b) (qm_L_meanBits_ df L b).1 := by
  unfold qm_L_meanBits_
  exact sn_node (sn_leaf (j := 241) (b := b) (i := 0) (f := qp_L_meanBits) (qs_L_meanBits_0 hd)) (tqm_L_meanBits_r hd b)
theorem tqm_L_meanBits {df : qe_Df} {L : Nat} {E : qe_E} (hd : qe_dok E.2.2.2 df) (b : Nat) : qx_sn (dp := dp) (qZ E L) 241 (qp_L_meanBits b) (qm_L_meanBits df L b).1 := by
  unfold qm_L_meanBits
  exact (tqm_L_meanBits_ hd b)
theorem tqm_L_trees_r {df : qe_Df} {L : Nat} {E : qe_E} (hd : qe_dok E.2.2.2 df) (b : Nat) : qx_sn (dp := dp) (qZ E L) 242 (qp_L_trees b) (qm_L_trees_r df L b).1 := by
  unfold qm_L_trees_r
  exact sn_node (sn_leaf (j := 242) (b := b) (i := 1) (f := qp_L_trees) (qs_L_trees_1 hd)) (sn_leaf (j := 242) (b := b) (i := 2) (f := qp_L_trees) (qs_L_trees_2 hd))
theorem tqm_L_trees_ {df : qe_Df} {L : Nat} {E : qe_E} (hd : qe_dok E.2.2.2 df) (b : Nat) : qx_sn (dp := dp) (qZ E L) 242 (qp_L_trees b) (qm_L_trees_ df L b).1 := by
  unfold qm_L_trees_
  exact sn_node (sn_leaf (j := 242) (b := b) (i := 0) (f := qp_L_trees) (qs_L_trees_0 hd)) (tqm_L_trees_r hd b)
theorem tqm_L_trees {df : qe_Df} {L : Nat} {E : qe_E} (hd : qe_dok E.2.2.2 df) (b : Nat) : qx_sn (dp := dp) (qZ E L) 242 (qp_L_trees b) (qm_L_trees df L b).1 := by
  unfold qm_L_trees
  exact (tqm_L_trees_ hd b)
theorem tqm_L_table_r {df : qe_Df} {L : Nat} {E : qe_E} (hd : qe_dok E.2.2.2 df) (b : Nat) : qx_sn (dp := dp) (qZ E L) 243 (qp_L_table b) (qm_L_table_r df L b).1 := by
  unfold qm_L_table_r
  exact sn_node (sn_leaf (j := 243) (b := b) (i := 1) (f := qp_L_table) (qs_L_table_1 hd)) (sn_leaf (j := 243) (b := b) (i := 2) (f := qp_L_table) (qs_L_table_2 hd))
theorem tqm_L_table_ {df : qe_Df} {L : Nat} {E : qe_E} (hd : qe_dok E.2.2.2 df) (b : Nat) : qx_sn (dp := dp) (qZ E L) 243 (qp_L_table b) (qm_L_table_ df L b).1 := by
  unfold qm_L_table_
  exact sn_node (sn_leaf (j := 243) (b := b) (i := 0) (f := qp_L_table) (qs_L_table_0 hd)) (tqm_L_table_r hd b)
theorem tqm_L_table {df : qe_Df} {L : Nat} {E : qe_E} (hd : qe_dok E.2.2.2 df) (b : Nat) : qx_sn (dp := dp) (qZ E L) 243 (qp_L_table b) (qm_L_table df L b).1 := by
  unfold qm_L_table
  exact (tqm_L_table_ hd b)
theorem tqm_L_slot_ {df : qe_Df} {L : Nat} {E : qe_E} (hd : qe_dok E.2.2.2 df) (b : Nat) : qx_sn (dp := dp) (qZ E L) 244 (qp_L_slot b) (qm_L_slot_ df L b).1 := by
  unfold qm_L_slot_
  exact sn_node (sn_leaf (j := 244) (b := b) (i := 0) (f := qp_L_slot) (qs_L_slot_0 hd)) (sn_leaf (j := 244) (b := b) (i := 1) (f := qp_L_slot) (qs_L_slot_1 hd))
theorem tqm_L_slot {df : qe_Df} {L : Nat} {E : qe_E} (hd : qe_dok E.2.2.2 df) (b : Nat) : qx_sn (dp := dp) (qZ E L) 244 (qp_L_slot b) (qm_L_slot df L b).1 := by
  unfold qm_L_slot
  exact (tqm_L_slot_ hd b)
theorem tqm_L_displacement_ {df : qe_Df} {L : Nat} {E : qe_E} (hd : qe_dok E.2.2.2 df) (b : Nat) : qx_sn (dp := dp) (qZ E L) 245 (qp_L_displacement b) (qm_L_displacement_ df L b).1 := by
  unfold qm_L_displacement_
  exact sn_node (sn_leaf (j := 245) (b := b) (i := 0) (f := qp_L_displacement) (qs_L_displacement_0 hd)) (sn_leaf (j := 245) (b := b) (i := 1) (f := qp_L_displacement) (qs_L_displacement_1 hd))
theorem tqm_L_displacement {df : qe_Df} {L : Nat} {E : qe_E} (hd : qe_dok E.2.2.2 df) (b : Nat) : qx_sn (dp := dp) (qZ E L) 245 (qp_L_displacement b) (qm_L_displacement df L b).1 := by
  unfold qm_L_displacement
  exact (tqm_L_displacement_ hd b)
theorem tqm_L_densityBits_ {df : qe_Df} {L : Nat} {E : qe_E} (hd : qe_dok E.2.2.2 df) (b : Nat) : qx_sn (dp := dp) (qZ E L) 246 (qp_L_densityBits b) (qm_L_densityBits_ df L b).1 := by
  unfold qm_L_densityBits_
  exact sn_node (sn_leaf (j := 246) (b := b) (i := 0) (f := qp_L_densityBits) (qs_L_densityBits_0 hd)) (sn_leaf (j := 246) (b := b) (i := 1) (f := qp_L_densityBits) (qs_L_densityBits_1 hd))
theorem tqm_L_densityBits {df : qe_Df} {L : Nat} {E : qe_E} (hd : qe_dok E.2.2.2 df) (b : Nat) : qx_sn (dp := dp) (qZ E L) 246 (qp_L_densityBits b) (qm_L_densityBits df L b).1 := by
  unfold qm_L_densityBits
  exact (tqm_L_densityBits_ hd b)
theorem tqm_L_listing_l {df : qe_Df} {L : Nat} {E : qe_E} (hd : qe_dok E.2.2.2 df) (b : Nat) : qx_sn (dp := dp) (qZ E L) 247 (qp_L_listing b) (qm_L_listing_l df L b).1 := by
  unfold qm_L_listing_l
  exact sn_node (sn_leaf (j := 247) (b := b) (i := 0) (f := qp_L_listing) (qs_L_listing_0 hd)) (sn_leaf (j := 247) (b := b) (i := 1) (f := qp_L_listing) (qs_L_listing_1 hd))
theorem tqm_L_listing_rr {df : qe_Df} {L : Nat} {E : qe_E} (hd : qe_dok E.2.2.2 df) (b : Nat) : qx_sn (dp := dp) (qZ E L) 247 (qp_L_listing b) (qm_L_listing_rr df L b).1 := by
  unfold qm_L_listing_rr
  exact sn_node (sn_leaf (j := 247) (b := b) (i := 3) (f := qp_L_listing) (qs_L_listing_3 hd)) (sn_leaf (j := 247) (b := b) (i := 4) (f := qp_L_listing) (qs_L_listing_4 hd))
theorem tqm_L_listing_r {df : qe_Df} {L : Nat} {E : qe_E} (hd : qe_dok E.2.2.2 df) (b : Nat) : qx_sn (dp := dp) (qZ E L) 247 (qp_L_listing b) (qm_L_listing_r df L b).1 := by
  unfold qm_L_listing_r
  exact sn_node (sn_leaf (j := 247) (b := b) (i := 2) (f := qp_L_listing) (qs_L_listing_2 hd)) (tqm_L_listing_rr hd b)
theorem tqm_L_listing_ {df : qe_Df} {L : Nat} {E : qe_E} (hd : qe_dok E.2.2.2 df) (b : Nat) : qx_sn (dp := dp) (qZ E L) 247 (qp_L_listing b) (qm_L_listing_ df L b).1 := by
  unfold qm_L_listing_
  exact sn_node (tqm_L_listing_l hd b) (tqm_L_listing_r hd b)
theorem tqm_L_listing {df : qe_Df} {L : Nat} {E : qe_E} (hd : qe_dok E.2.2.2 df) (b : Nat) : qx_sn (dp := dp) (qZ E L) 247 (qp_L_listing b) (qm_L_listing df L b).1 := by
  unfold qm_L_listing
  exact (tqm_L_listing_ hd b)
theorem tqm_L_restore_ {df : qe_Df} {L : Nat} {E : qe_E} (hd : qe_dok E.2.2.2 df) (b : Nat) : qx_sn (dp := dp) (qZ E L) 248 (qp_L_restore b) (qm_L_restore_ df L b).1 := by
  unfold qm_L_restore_
  exact sn_node (sn_leaf (j := 248) (b := b) (i := 0) (f := qp_L_restore) (qs_L_restore_0 hd)) (sn_leaf (j := 248) (b := b) (i := 1) (f := qp_L_restore) (qs_L_restore_1 hd))
theorem tqm_L_restore {df : qe_Df} {L : Nat} {E : qe_E} (hd : qe_dok E.2.2.2 df) (b : Nat) : qx_sn (dp := dp) (qZ E L) 248 (qp_L_restore b) (qm_L_restore df L b).1 := by
  unfold qm_L_restore
  exact (tqm_L_restore_ hd b)
theorem tqm_L_law_lllll {df : qe_Df} {L : Nat} {E : qe_E} (hd : qe_dok E.2.2.2 df) (b : Nat) : qx_sn (dp := dp) (qZ E L) 249 (qp_L_law b) (qm_L_law_lllll df L b).1 := by
  unfold qm_L_law_lllll
  exact sn_node (sn_leaf (j := 249) (b := b) (i := 0) (f := qp_L_law) (qs_L_law_0 hd)) (sn_leaf (j := 249) (b := b) (i := 1) (f := qp_L_law) (qs_L_law_1 hd))
theorem tqm_L_law_llllrr {df : qe_Df} {L : Nat} {E : qe_E} (hd : qe_dok E.2.2.2 df) (b : Nat) : qx_sn (dp := dp) (qZ E L) 249 (qp_L_law b) (qm_L_law_llllrr df L b).1 := by
  unfold qm_L_law_llllrr
  exact sn_node (sn_leaf (j := 249) (b := b) (i := 3) (f := qp_L_law) (qs_L_law_3 hd)) (sn_leaf (j := 249) (b := b) (i := 4) (f := qp_L_law) (qs_L_law_4 hd))
theorem tqm_L_law_llllr {df : qe_Df} {L : Nat} {E : qe_E} (hd : qe_dok E.2.2.2 df) (b : Nat) : qx_sn (dp := dp) (qZ E L) 249 (qp_L_law b) (qm_L_law_llllr df L b).1 := by
  unfold qm_L_law_llllr
  exact sn_node (sn_leaf (j := 249) (b := b) (i := 2) (f := qp_L_law) (qs_L_law_2 hd)) (tqm_L_law_llllrr hd b)
theorem tqm_L_law_llll {df : qe_Df} {L : Nat} {E : qe_E} (hd : qe_dok E.2.2.2 df) (b : Nat) : qx_sn (dp := dp) (qZ E L) 249 (qp_L_law b) (qm_L_law_llll df L b).1 := by
  unfold qm_L_law_llll
  exact sn_node (tqm_L_law_lllll hd b) (tqm_L_law_llllr hd b)
theorem tqm_L_law_lllrl {df : qe_Df} {L : Nat} {E : qe_E} (hd : qe_dok E.2.2.2 df) (b : Nat) : qx_sn (dp := dp) (qZ E L) 249 (qp_L_law b) (qm_L_law_lllrl df L b).1 := by
  unfold qm_L_law_lllrl
  exact sn_node (sn_leaf (j := 249) (b := b) (i := 5) (f := qp_L_law) (qs_L_law_5 hd)) (sn_leaf (j := 249) (b := b) (i := 6) (f := qp_L_law) (qs_L_law_6 hd))
theorem tqm_L_law_lllrrr {df : qe_Df} {L : Nat} {E : qe_E} (hd : qe_dok E.2.2.2 df) (b : Nat) : qx_sn (dp := dp) (qZ E L) 249 (qp_L_law b) (qm_L_law_lllrrr df L b).1 := by
  unfold qm_L_law_lllrrr
  exact sn_node (sn_leaf (j := 249) (b := b) (i := 8) (f := qp_L_law) (qs_L_law_8 hd)) (sn_leaf (j := 249) (b := b) (i := 9) (f := qp_L_law) (qs_L_law_9 hd))
theorem tqm_L_law_lllrr {df : qe_Df} {L : Nat} {E : qe_E} (hd : qe_dok E.2.2.2 df) (b : Nat) : qx_sn (dp := dp) (qZ E L) 249 (qp_L_law b) (qm_L_law_lllrr df L b).1 := by
  unfold qm_L_law_lllrr
  exact sn_node (sn_leaf (j := 249) (b := b) (i := 7) (f := qp_L_law) (qs_L_law_7 hd)) (tqm_L_law_lllrrr hd b)
theorem tqm_L_law_lllr {df : qe_Df} {L : Nat} {E : qe_E} (hd : qe_dok E.2.2.2 df) (b : Nat) : qx_sn (dp := dp) (qZ E L) 249 (qp_L_law b) (qm_L_law_lllr df L b).1 := by
  unfold qm_L_law_lllr
  exact sn_node (tqm_L_law_lllrl hd b) (tqm_L_law_lllrr hd b)
theorem tqm_L_law_lll {df : qe_Df} {L : Nat} {E : qe_E} (hd : qe_dok E.2.2.2 df) (b : Nat) : qx_sn (dp := dp) (qZ E L) 249 (qp_L_law b) (qm_L_law_lll df L b).1 := by
  unfold qm_L_law_lll
  exact sn_node (tqm_L_law_llll hd b) (tqm_L_law_lllr hd b)
theorem tqm_L_law_llrll {df : qe_Df} {L : Nat} {E : qe_E} (hd : qe_dok E.2.2.2 df) (b : Nat) : qx_sn (dp := dp) (qZ E L) 249 (qp_L_law b) (qm_L_law_llrll df L b).1 := by
  unfold qm_L_law_llrll
  exact sn_node (sn_leaf (j := 249) (b := b) (i := 10) (f := qp_L_law) (qs_L_law_10 hd)) (sn_leaf (j := 249) (b := b) (i := 11) (f := qp_L_law) (qs_L_law_11 hd))
theorem tqm_L_law_llrlrr {df : qe_Df} {L : Nat} {E : qe_E} (hd : qe_dok E.2.2.2 df) (b : Nat) : qx_sn (dp := dp) (qZ E L) 249 (qp_L_law b) (qm_L_law_llrlrr df L b).1 := by
  unfold qm_L_law_llrlrr
  exact sn_node (sn_leaf (j := 249) (b := b) (i := 13) (f := qp_L_law) (qs_L_law_13 hd)) (sn_leaf (j := 249) (b := b) (i := 14) (f := qp_L_law) (qs_L_law_14 hd))
theorem tqm_L_law_llrlr {df : qe_Df} {L : Nat} {E : qe_E} (hd : qe_dok E.2.2.2 df) (b : Nat) : qx_sn (dp := dp) (qZ E L) 249 (qp_L_law b) (qm_L_law_llrlr df L b).1 := by
  unfold qm_L_law_llrlr
  exact sn_node (sn_leaf (j := 249) (b := b) (i := 12) (f := qp_L_law) (qs_L_law_12 hd)) (tqm_L_law_llrlrr hd b)
theorem tqm_L_law_llrl {df : qe_Df} {L : Nat} {E : qe_E} (hd : qe_dok E.2.2.2 df) (b : Nat) : qx_sn (dp := dp) (qZ E L) 249 (qp_L_law b) (qm_L_law_llrl df L b).1 := by
  unfold qm_L_law_llrl
  exact sn_node (tqm_L_law_llrll hd b) (tqm_L_law_llrlr hd b)
theorem tqm_L_law_llrrl {df : qe_Df} {L : Nat} {E : qe_E} (hd : qe_dok E.2.2.2 df) (b : Nat) : qx_sn (dp := dp) (qZ E L) 249 (qp_L_law b) (qm_L_law_llrrl df L b).1 := by
  unfold qm_L_law_llrrl
  exact sn_node (sn_leaf (j := 249) (b := b) (i := 15) (f := qp_L_law) (qs_L_law_15 hd)) (sn_leaf (j := 249) (b := b) (i := 16) (f := qp_L_law) (qs_L_law_16 hd))
theorem tqm_L_law_llrrrr {df : qe_Df} {L : Nat} {E : qe_E} (hd : qe_dok E.2.2.2 df) (b : Nat) : qx_sn (dp := dp) (qZ E L) 249 (qp_L_law b) (qm_L_law_llrrrr df L b).1 := by
  unfold qm_L_law_llrrrr
  exact sn_node (sn_leaf (j := 249) (b := b) (i := 18) (f := qp_L_law) (qs_L_law_18 hd)) (sn_leaf (j := 249) (b := b) (i := 19) (f := qp_L_law) (qs_L_law_19 hd))
theorem tqm_L_law_llrrr {df : qe_Df} {L : Nat} {E : qe_E} (hd : qe_dok E.2.2.2 df) (b : Nat) : qx_sn (dp := dp) (qZ E L) 249 (qp_L_law b) (qm_L_law_llrrr df L b).1 := by
  unfold qm_L_law_llrrr
  exact sn_node (sn_leaf (j := 249) (b := b) (i := 17) (f := qp_L_law) (qs_L_law_17 hd)) (tqm_L_law_llrrrr hd b)
theorem tqm_L_law_llrr {df : qe_Df} {L : Nat} {E : qe_E} (hd : qe_dok E.2.2.2 df) (b : Nat) : qx_sn (dp := dp) (qZ E L) 249 (qp_L_law b) (qm_L_law_llrr df L b).1 := by
  unfold qm_L_law_llrr
  exact sn_node (tqm_L_law_llrrl hd b) (tqm_L_law_llrrr hd b)
theorem tqm_L_law_llr {df : qe_Df} {L : Nat} {E : qe_E} (hd : qe_dok E.2.2.2 df) (b : Nat) : qx_sn (dp := dp) (qZ E L) 249 (qp_L_law b) (qm_L_law_llr df L b).1 := by
  unfold qm_L_law_llr
  exact sn_node (tqm_L_law_llrl hd b) (tqm_L_law_llrr hd b)
theorem tqm_L_law_ll {df : qe_Df} {L : Nat} {E : qe_E} (hd : qe_dok E.2.2.2 df) (b : Nat) : qx_sn (dp := dp) (qZ E L) 249 (qp_L_law b) (qm_L_law_ll df L b).1 := by
  unfold qm_L_law_ll
  exact sn_node (tqm_L_law_lll hd b) (tqm_L_law_llr hd b)
theorem tqm_L_law_lrlll {df : qe_Df} {L : Nat} {E : qe_E} (hd : qe_dok E.2.2.2 df) (b : Nat) : qx_sn (dp := dp) (qZ E L) 249 (qp_L_law b) (qm_L_law_lrlll df L b).1 := by
  unfold qm_L_law_lrlll
  exact sn_node (sn_leaf (j := 249) (b := b) (i := 20) (f := qp_L_law) (qs_L_law_20 hd)) (sn_leaf (j := 249) (b := b) (i := 21) (f := qp_L_law) (qs_L_law_21 hd))
theorem tqm_L_law_lrllrr {df : qe_Df} {L : Nat} {E : qe_E} (hd : qe_dok E.2.2.2 df) (b : Nat) : qx_sn (dp := dp) (qZ E L) 249 (qp_L_law b) (qm_L_law_lrllrr df L b).1 := by
  unfold qm_L_law_lrllrr
  exact sn_node (sn_leaf (j := 249) (b := b) (i := 23) (f := qp_L_law) (qs_L_law_23 hd)) (sn_leaf (j := 249) (b := b) (i := 24) (f := qp_L_law) (qs_L_law_24 hd))
theorem tqm_L_law_lrllr {df : qe_Df} {L : Nat} {E : qe_E} (hd : qe_dok E.2.2.2 df) (b : Nat) : qx_sn (dp := dp) (qZ E L) 249 (qp_L_law b) (qm_L_law_lrllr df L b).1 := by
  unfold qm_L_law_lrllr
  exact sn_node (sn_leaf (j := 249) (b := b) (i := 22) (f := qp_L_law) (qs_L_law_22 hd)) (tqm_L_law_lrllrr hd b)
theorem tqm_L_law_lrll {df : qe_Df} {L : Nat} {E : qe_E} (hd : qe_dok E.2.2.2 df) (b : Nat) : qx_sn (dp := dp) (qZ E L) 249 (qp_L_law b) (qm_L_law_lrll df L b).1 := by
  unfold qm_L_law_lrll
  exact sn_node (tqm_L_law_lrlll hd b) (tqm_L_law_lrllr hd b)
theorem tqm_L_law_lrlrl {df : qe_Df} {L : Nat} {E : qe_E} (hd : qe_dok E.2.2.2 df) (b : Nat) : qx_sn (dp := dp) (qZ E L) 249 (qp_L_law b) (qm_L_law_lrlrl df L b).1 := by
  unfold qm_L_law_lrlrl
  exact sn_node (sn_leaf (j := 249) (b := b) (i := 25) (f := qp_L_law) (qs_L_law_25 hd)) (sn_leaf (j := 249) (b := b) (i := 26) (f := qp_L_law) (qs_L_law_26 hd))
theorem tqm_L_law_lrlrrr {df : qe_Df} {L : Nat} {E : qe_E} (hd : qe_dok E.2.2.2 df) (b : Nat) : qx_sn (dp := dp) (qZ E L) 249 (qp_L_law b) (qm_L_law_lrlrrr df L b).1 := by
  unfold qm_L_law_lrlrrr
  exact sn_node (sn_leaf (j := 249) (b := b) (i := 28) (f := qp_L_law) (qs_L_law_28 hd)) (sn_leaf (j := 249) (b := b) (i := 29) (f := qp_L_law) (qs_L_law_29 hd))
theorem tqm_L_law_lrlrr {df : qe_Df} {L : Nat} {E : qe_E} (hd : qe_dok E.2.2.2 df) (b : Nat) : qx_sn (dp := dp) (qZ E L) 249 (qp_L_law b) (qm_L_law_lrlrr df L b).1 := by
  unfold qm_L_law_lrlrr
  exact sn_node (sn_leaf (j := 249) (b := b) (i := 27) (f := qp_L_law) (qs_L_law_27 hd)) (tqm_L_law_lrlrrr hd b)
theorem tqm_L_law_lrlr {df : qe_Df} {L : Nat} {E : qe_E} (hd : qe_dok E.2.2.2 df) (b : Nat) : qx_sn (dp := dp) (qZ E L) 249 (qp_L_law b) (qm_L_law_lrlr df L b).1 := by
  unfold qm_L_law_lrlr
  exact sn_node (tqm_L_law_lrlrl hd b) (tqm_L_law_lrlrr hd b)
theorem tqm_L_law_lrl {df : qe_Df} {L : Nat} {E : qe_E} (hd : qe_dok E.2.2.2 df) (b : Nat) : qx_sn (dp := dp) (qZ E L) 249 (qp_L_law b) (qm_L_law_lrl df L b).1 := by
  unfold qm_L_law_lrl
  exact sn_node (tqm_L_law_lrll hd b) (tqm_L_law_lrlr hd b)
theorem tqm_L_law_lrrll {df : qe_Df} {L : Nat} {E : qe_E} (hd : qe_dok E.2.2.2 df) (b : Nat) : qx_sn (dp := dp) (qZ E L) 249 (qp_L_law b) (qm_L_law_lrrll df L b).1 := by
  unfold qm_L_law_lrrll
  exact sn_node (sn_leaf (j := 249) (b := b) (i := 30) (f := qp_L_law) (qs_L_law_30 hd)) (sn_leaf (j := 249) (b := b) (i := 31) (f := qp_L_law) (qs_L_law_31 hd))
theorem tqm_L_law_lrrlrr {df : qe_Df} {L : Nat} {E : qe_E} (hd : qe_dok E.2.2.2 df) (b : Nat) : qx_sn (dp := dp) (qZ E L) 249 (qp_L_law b) (qm_L_law_lrrlrr df L b).1 := by
  unfold qm_L_law_lrrlrr
  exact sn_node (sn_leaf (j := 249) (b := b) (i := 33) (f := qp_L_law) (qs_L_law_33 hd)) (sn_leaf (j := 249) (b := b) (i := 34) (f := qp_L_law) (qs_L_law_34 hd))
theorem tqm_L_law_lrrlr {df : qe_Df} {L : Nat} {E : qe_E} (hd : qe_dok E.2.2.2 df) (b : Nat) : qx_sn (dp := dp) (qZ E L) 249 (qp_L_law b) (qm_L_law_lrrlr df L b).1 := by
  unfold qm_L_law_lrrlr
  exact sn_node (sn_leaf (j := 249) (b := b) (i := 32) (f := qp_L_law) (qs_L_law_32 hd)) (tqm_L_law_lrrlrr hd b)
theorem tqm_L_law_lrrl {df : qe_Df} {L : Nat} {E : qe_E} (hd : qe_dok E.2.2.2 df) (b : Nat) : qx_sn (dp := dp) (qZ E L) 249 (qp_L_law b) (qm_L_law_lrrl df L b).1 := by
  unfold qm_L_law_lrrl
  exact sn_node (tqm_L_law_lrrll hd b) (tqm_L_law_lrrlr hd b)
theorem tqm_L_law_lrrrlr {df : qe_Df} {L : Nat} {E : qe_E} (hd : qe_dok E.2.2.2 df) (b : Nat) : qx_sn (dp := dp) (qZ E L) 249 (qp_L_law b) (qm_L_law_lrrrlr df L b).1 := by
  unfold qm_L_law_lrrrlr
  exact sn_node (sn_leaf (j := 249) (b := b) (i := 36) (f := qp_L_law) (qs_L_law_36 hd)) (sn_leaf (j := 249) (b := b) (i := 37) (f := qp_L_law) (qs_L_law_37 hd))
theorem tqm_L_law_lrrrl {df : qe_Df} {L : Nat} {E : qe_E} (hd : qe_dok E.2.2.2 df) (b : Nat) : qx_sn (dp := dp) (qZ E L) 249 (qp_L_law b) (qm_L_law_lrrrl df L b).1 := by
  unfold qm_L_law_lrrrl
  exact sn_node (sn_leaf (j := 249) (b := b) (i := 35) (f := qp_L_law) (qs_L_law_35 hd)) (tqm_L_law_lrrrlr hd b)
theorem tqm_L_law_lrrrrr {df : qe_Df} {L : Nat} {E : qe_E} (hd : qe_dok E.2.2.2 df) (b : Nat) : qx_sn (dp := dp) (qZ E L) 249 (qp_L_law b) (qm_L_law_lrrrrr df L b).1 := by
  unfold qm_L_law_lrrrrr
  exact sn_node (sn_leaf (j := 249) (b := b) (i := 39) (f := qp_L_law) (qs_L_law_39 hd)) (sn_leaf (j := 249) (b := b) (i := 40) (f := qp_L_law) (qs_L_law_40 hd))
theorem tqm_L_law_lrrrr {df : qe_Df} {L : Nat} {E : qe_E} (hd : qe_dok E.2.2.2 df) (b : Nat) : qx_sn (dp := dp) (qZ E L) 249 (qp_L_law b) (qm_L_law_lrrrr df L b).1 := by
  unfold qm_L_law_lrrrr
  exact sn_node (sn_leaf (j := 249) (b := b) (i := 38) (f := qp_L_law) (qs_L_law_38 hd)) (tqm_L_law_lrrrrr hd b)
theorem tqm_L_law_lrrr {df : qe_Df} {L : Nat} {E : qe_E} (hd : qe_dok E.2.2.2 df) (b : Nat) : qx_sn (dp := dp) (qZ E L) 249 (qp_L_law b) (qm_L_law_lrrr df L b).1 := by
  unfold qm_L_law_lrrr
  exact sn_node (tqm_L_law_lrrrl hd b) (tqm_L_law_lrrrr hd b)
theorem tqm_L_law_lrr {df : qe_Df} {L : Nat} {E : qe_E} (hd : qe_dok E.2.2.2 df) (b : Nat) : qx_sn (dp := dp) (qZ E L) 249 (qp_L_law b) (qm_L_law_lrr df L b).1 := by
  unfold qm_L_law_lrr
  exact sn_node (tqm_L_law_lrrl hd b) (tqm_L_law_lrrr hd b)
theorem tqm_L_law_lr {df : qe_Df} {L : Nat} {E : qe_E} (hd : qe_dok E.2.2.2 df) (b : Nat) : qx_sn (dp := dp) (qZ E L) 249 (qp_L_law b) (qm_L_law_lr df L b).1 := by
  unfold qm_L_law_lr
  exact sn_node (tqm_L_law_lrl hd b) (tqm_L_law_lrr hd b)
theorem tqm_L_law_l {df : qe_Df} {L : Nat} {E : qe_E} (hd : qe_dok E.2.2.2 df) (b : Nat) : qx_sn (dp := dp) (qZ E L) 249 (qp_L_law b) (qm_L_law_l df L b).1 := by
  unfold qm_L_law_l
  exact sn_node (tqm_L_law_ll hd b) (tqm_L_law_lr hd b)
theorem tqm_L_law_rllll {df : qe_Df} {L : Nat} {E : qe_E} (hd : qe_dok E.2.2.2 df) (b : Nat) : qx_sn (dp := dp) (qZ E L) 249 (qp_L_law b) (qm_L_law_rllll df L b).1 := by
  unfold qm_L_law_rllll
  exact sn_node (sn_leaf (j := 249) (b := b) (i := 41) (f := qp_L_law) (qs_L_law_41 hd)) (sn_leaf (j := 249) (b := b) (i := 42) (f := qp_L_law) (qs_L_law_42 hd))
theorem tqm_L_law_rlllrr {df : qe_Df} {L : Nat} {E : qe_E} (hd : qe_dok E.2.2.2 df) (b : Nat) : qx_sn (dp := dp) (qZ E L) 249 (qp_L_law b) (qm_L_law_rlllrr df L b).1 := by
  unfold qm_L_law_rlllrr
  exact sn_node (sn_leaf (j := 249) (b := b) (i := 44) (f := qp_L_law) (qs_L_law_44 hd)) (sn_leaf (j := 249) (b := b) (i := 45) (f := qp_L_law) (qs_L_law_45 hd))
theorem tqm_L_law_rlllr {df : qe_Df} {L : Nat} {E : qe_E} (hd : qe_dok E.2.2.2 df) (b : Nat) : qx_sn (dp := dp) (qZ E L) 249 (qp_L_law b) (qm_L_law_rlllr df L b).1 := by
  unfold qm_L_law_rlllr
  exact sn_node (sn_leaf (j := 249) (b := b) (i := 43) (f := qp_L_law) (qs_L_law_43 hd)) (tqm_L_law_rlllrr hd b)
theorem tqm_L_law_rlll {df : qe_Df} {L : Nat} {E : qe_E} (hd : qe_dok E.2.2.2 df) (b : Nat) : qx_sn (dp := dp) (qZ E L) 249 (qp_L_law b) (qm_L_law_rlll df L b).1 := by
  unfold qm_L_law_rlll
  exact sn_node (tqm_L_law_rllll hd b) (tqm_L_law_rlllr hd b)
theorem tqm_L_law_rllrl {df : qe_Df} {L : Nat} {E : qe_E} (hd : qe_dok E.2.2.2 df) (b : Nat) : qx_sn (dp := dp) (qZ E L) 249 (qp_L_law b) (qm_L_law_rllrl df L b).1 := by
  unfold qm_L_law_rllrl
  exact sn_node (sn_leaf (j := 249) (b := b) (i := 46) (f := qp_L_law) (qs_L_law_46 hd)) (sn_leaf (j := 249) (b := b) (i := 47) (f := qp_L_law) (qs_L_law_47 hd))
theorem tqm_L_law_rllrrr {df : qe_Df} {L : Nat} {E : qe_E} (hd : qe_dok E.2.2.2 df) (b : Nat) : qx_sn (dp := dp) (qZ E L) 249 (qp_L_law b) (qm_L_law_rllrrr df L b).1 := by
  unfold qm_L_law_rllrrr
  exact sn_node (sn_leaf (j := 249) (b := b) (i := 49) (f := qp_L_law) (qs_L_law_49 hd)) (sn_leaf (j := 249) (b := b) (i := 50) (f := qp_L_law) (qs_L_law_50 hd))
theorem tqm_L_law_rllrr {df : qe_Df} {L : Nat} {E : qe_E} (hd : qe_dok E.2.2.2 df) (b : Nat) : qx_sn (dp := dp) (qZ E L) 249 (qp_L_law b) (qm_L_law_rllrr df L b).1 := by
  unfold qm_L_law_rllrr
  exact sn_node (sn_leaf (j := 249) (b := b) (i := 48) (f := qp_L_law) (qs_L_law_48 hd)) (tqm_L_law_rllrrr hd b)
theorem tqm_L_law_rllr {df : qe_Df} {L : Nat} {E : qe_E} (hd : qe_dok E.2.2.2 df) (b : Nat) : qx_sn (dp := dp) (qZ E L) 249 (qp_L_law b) (qm_L_law_rllr df L b).1 := by
  unfold qm_L_law_rllr
  exact sn_node (tqm_L_law_rllrl hd b) (tqm_L_law_rllrr hd b)
theorem tqm_L_law_rll {df : qe_Df} {L : Nat} {E : qe_E} (hd : qe_dok E.2.2.2 df) (b : Nat) : qx_sn (dp := dp) (qZ E L) 249 (qp_L_law b) (qm_L_law_rll df L b).1 := by
  unfold qm_L_law_rll
  exact sn_node (tqm_L_law_rlll hd b) (tqm_L_law_rllr hd b)
theorem tqm_L_law_rlrll {df : qe_Df} {L : Nat} {E : qe_E} (hd : qe_dok E.2.2.2 df) (b : Nat) : qx_sn (dp := dp) (qZ E L) 249 (qp_L_law b) (qm_L_law_rlrll df L b).1 := by
  unfold qm_L_law_rlrll
  exact sn_node (sn_leaf (j := 249) (b := b) (i := 51) (f := qp_L_law) (qs_L_law_51 hd)) (sn_leaf (j := 249) (b := b) (i := 52) (f := qp_L_law) (qs_L_law_52 hd))
theorem tqm_L_law_rlrlrr {df : qe_Df} {L : Nat} {E : qe_E} (hd : qe_dok E.2.2.2 df) (b : Nat) : qx_sn (dp := dp) (qZ E L) 249 (qp_L_law b) (qm_L_law_rlrlrr df L b).1 := by
  unfold qm_L_law_rlrlrr
  exact sn_node (sn_leaf (j := 249) (b := b) (i := 54) (f := qp_L_law) (qs_L_law_54 hd)) (sn_leaf (j := 249) (b := b) (i := 55) (f := qp_L_law) (qs_L_law_55 hd))
theorem tqm_L_law_rlrlr {df : qe_Df} {L : Nat} {E : qe_E} (hd : qe_dok E.2.2.2 df) (b : Nat) : qx_sn (dp := dp) (qZ E L) 249 (qp_L_law b) (qm_L_law_rlrlr df L b).1 := by
  unfold qm_L_law_rlrlr
  exact sn_node (sn_leaf (j := 249) (b := b) (i := 53) (f := qp_L_law) (qs_L_law_53 hd)) (tqm_L_law_rlrlrr hd b)
theorem tqm_L_law_rlrl {df : qe_Df} {L : Nat} {E : qe_E} (hd : qe_dok E.2.2.2 df) (b : Nat) : qx_sn (dp := dp) (qZ E L) 249 (qp_L_law b) (qm_L_law_rlrl df L b).1 := by
  unfold qm_L_law_rlrl
  exact sn_node (tqm_L_law_rlrll hd b) (tqm_L_law_rlrlr hd b)
theorem tqm_L_law_rlrrl {df : qe_Df} {L : Nat} {E : qe_E} (hd : qe_dok E.2.2.2 df) (b : Nat) : qx_sn (dp := dp) (qZ E L) 249 (qp_L_law b) (qm_L_law_rlrrl df L b).1 := by
  unfold qm_L_law_rlrrl
  exact sn_node (sn_leaf (j := 249) (b := b) (i := 56) (f := qp_L_law) (qs_L_law_56 hd)) (sn_leaf (j := 249) (b := b) (i := 57) (f := qp_L_law) (qs_L_law_57 hd))
theorem tqm_L_law_rlrrrr {df : qe_Df} {L : Nat} {E : qe_E} (hd : qe_dok E.2.2.2 df) (b : Nat) : qx_sn (dp := dp) (qZ E L) 249 (qp_L_law b) (qm_L_law_rlrrrr df L b).1 := by
  unfold qm_L_law_rlrrrr
  exact sn_node (sn_leaf (j := 249) (b := b) (i := 59) (f := qp_L_law) (qs_L_law_59 hd)) (sn_leaf (j := 249) (b := b) (i := 60) (f := qp_L_law) (qs_L_law_60 hd))
theorem tqm_L_law_rlrrr {df : qe_Df} {L : Nat} {E : qe_E} (hd : qe_dok E.2.2.2 df) (b : Nat) : qx_sn (dp := dp) (qZ E L) 249 (qp_L_law b) (qm_L_law_rlrrr df L b).1 := by
  unfold qm_L_law_rlrrr
  exact sn_node (sn_leaf (j := 249) (b := b) (i := 58) (f := qp_L_law) (qs_L_law_58 hd)) (tqm_L_law_rlrrrr hd b)
theorem tqm_L_law_rlrr {df : qe_Df} {L : Nat} {E : qe_E} (hd : qe_dok E.2.2.2 df) (b : Nat) : qx_sn (dp := dp) (qZ E L) 249 (qp_L_law b) (qm_L_law_rlrr df L b).1 := by
  unfold qm_L_law_rlrr
  exact sn_node (tqm_L_law_rlrrl hd b) (tqm_L_law_rlrrr hd b)
theorem tqm_L_law_rlr {df : qe_Df} {L : Nat} {E : qe_E} (hd : qe_dok E.2.2.2 df) (b : Nat) : qx_sn (dp := dp) (qZ E L) 249 (qp_L_law b) (qm_L_law_rlr df L b).1 := by
  unfold qm_L_law_rlr
  exact sn_node (tqm_L_law_rlrl hd b) (tqm_L_law_rlrr hd b)
theorem tqm_L_law_rl {df : qe_Df} {L : Nat} {E : qe_E} (hd : qe_dok E.2.2.2 df) (b : Nat) : qx_sn (dp := dp) (qZ E L) 249 (qp_L_law b) (qm_L_law_rl df L b).1 := by
  unfold qm_L_law_rl
  exact sn_node (tqm_L_law_rll hd b) (tqm_L_law_rlr hd b)
theorem tqm_L_law_rrlll {df : qe_Df} {L : Nat} {E : qe_E} (hd : qe_dok E.2.2.2 df) (b : Nat) : qx_sn (dp := dp) (qZ E L) 249 (qp_L_law b) (qm_L_law_rrlll df L b).1 := by
  unfold qm_L_law_rrlll
  exact sn_node (sn_leaf (j := 249) (b := b) (i := 61) (f := qp_L_law) (qs_L_law_61 hd)) (sn_leaf (j := 249) (b := b) (i := 62) (f := qp_L_law) (qs_L_law_62 hd))
theorem tqm_L_law_rrllrr {df : qe_Df} {L : Nat} {E : qe_E} (hd : qe_dok E.2.2.2 df) (b : Nat) : qx_sn (dp := dp) (qZ E L) 249 (qp_L_law b) (qm_L_law_rrllrr df L b).1 := by
  unfold qm_L_law_rrllrr
  exact sn_node (sn_leaf (j := 249) (b := b) (i := 64) (f := qp_L_law) (qs_L_law_64 hd)) (sn_leaf (j := 249) (b := b) (i := 65) (f := qp_L_law) (qs_L_law_65 hd))
theorem tqm_L_law_rrllr {df : qe_Df} {L : Nat} {E : qe_E} (hd : qe_dok E.2.2.2 df) (b : Nat) : qx_sn (dp := dp) (qZ E L) 249 (qp_L_law b) (qm_L_law_rrllr df L b).1 := by
  unfold qm_L_law_rrllr
  exact sn_node (sn_leaf (j := 249) (b := b) (i := 63) (f := qp_L_law) (qs_L_law_63 hd)) (tqm_L_law_rrllrr hd b)
theorem tqm_L_law_rrll {df : qe_Df} {L : Nat} {E : qe_E} (hd : qe_dok E.2.2.2 df) (b : Nat) : qx_sn (dp := dp) (qZ E L) 249 (qp_L_law b) (qm_L_law_rrll df L b).1 := by
  unfold qm_L_law_rrll
  exact sn_node (tqm_L_law_rrlll hd b) (tqm_L_law_rrllr hd b)
theorem tqm_L_law_rrlrl {df : qe_Df} {L : Nat} {E : qe_E} (hd : qe_dok E.2.2.2 df) (b : Nat) : qx_sn (dp := dp) (qZ E L) 249 (qp_L_law b) (qm_L_law_rrlrl df L b).1 := by
  unfold qm_L_law_rrlrl
  exact sn_node (sn_leaf (j := 249) (b := b) (i := 66) (f := qp_L_law) (qs_L_law_66 hd)) (sn_leaf (j := 249) (b := b) (i := 67) (f := qp_L_law) (qs_L_law_67 hd))
theorem tqm_L_law_rrlrrr {df : qe_Df} {L : Nat} {E : qe_E} (hd : qe_dok E.2.2.2 df) (b : Nat) : qx_sn (dp := dp) (qZ E L) 249 (qp_L_law b) (qm_L_law_rrlrrr df L b).1 := by
  unfold qm_L_law_rrlrrr
  exact sn_node (sn_leaf (j := 249) (b := b) (i := 69) (f := qp_L_law) (qs_L_law_69 hd)) (sn_leaf (j := 249) (b := b) (i := 70) (f := qp_L_law) (qs_L_law_70 hd))
theorem tqm_L_law_rrlrr {df : qe_Df} {L : Nat} {E : qe_E} (hd : qe_dok E.2.2.2 df) (b : Nat) : qx_sn (dp := dp) (qZ E L) 249 (qp_L_law b) (qm_L_law_rrlrr df L b).1 := by
  unfold qm_L_law_rrlrr
  exact sn_node (sn_leaf (j := 249) (b := b) (i := 68) (f := qp_L_law) (qs_L_law_68 hd)) (tqm_L_law_rrlrrr hd b)
theorem tqm_L_law_rrlr {df : qe_Df} {L : Nat} {E : qe_E} (hd : qe_dok E.2.2.2 df) (b : Nat) : qx_sn (dp := dp) (qZ E L) 249 (qp_L_law b) (qm_L_law_rrlr df L b).1 := by
  unfold qm_L_law_rrlr
  exact sn_node (tqm_L_law_rrlrl hd b) (tqm_L_law_rrlrr hd b)
theorem tqm_L_law_rrl {df : qe_Df} {L : Nat} {E : qe_E} (hd : qe_dok E.2.2.2 df) (b : Nat) : qx_sn (dp := dp) (qZ E L) 249 (qp_L_law b) (qm_L_law_rrl df L b).1 := by
  unfold qm_L_law_rrl
  exact sn_node (tqm_L_law_rrll hd b) (tqm_L_law_rrlr hd b)
theorem tqm_L_law_rrrll {df : qe_Df} {L : Nat} {E : qe_E} (hd : qe_dok E.2.2.2 df) (b : Nat) : qx_sn (dp := dp) (qZ E L) 249 (qp_L_law b) (qm_L_law_rrrll df L b).1 := by
  unfold qm_L_law_rrrll
  exact sn_node (sn_leaf (j := 249) (b := b) (i := 71) (f := qp_L_law) (qs_L_law_71 hd)) (sn_leaf (j := 249) (b := b) (i := 72) (f := qp_L_law) (qs_L_law_72 hd))
theorem tqm_L_law_rrrlrr {df : qe_Df} {L : Nat} {E : qe_E} (hd : qe_dok E.2.2.2 df) (b : Nat) : qx_sn (dp := dp) (qZ E L) 249 (qp_L_law b) (qm_L_law_rrrlrr df L b).1 := by
  unfold qm_L_law_rrrlrr
  exact sn_node (sn_leaf (j := 249) (b := b) (i := 74) (f := qp_L_law) (qs_L_law_74 hd)) (sn_leaf (j := 249) (b := b) (i := 75) (f := qp_L_law) (qs_L_law_75 hd))
theorem tqm_L_law_rrrlr {df : qe_Df} {L : Nat} {E : qe_E} (hd : qe_dok E.2.2.2 df) (b : Nat) : qx_sn (dp := dp) (qZ E L) 249 (qp_L_law b) (qm_L_law_rrrlr df L b).1 := by
  unfold qm_L_law_rrrlr
  exact sn_node (sn_leaf (j := 249) (b := b) (i := 73) (f := qp_L_law) (qs_L_law_73 hd)) (tqm_L_law_rrrlrr hd b)
theorem tqm_L_law_rrrl {df : qe_Df} {L : Nat} {E : qe_E} (hd : qe_dok E.2.2.2 df) (b : Nat) : qx_sn (dp := dp) (qZ E L) 249 (qp_L_law b) (qm_L_law_rrrl df L b).1 := by
  unfold qm_L_law_rrrl
  exact sn_node (tqm_L_law_rrrll hd b) (tqm_L_law_rrrlr hd b)
theorem tqm_L_law_rrrrlr {df : qe_Df} {L : Nat} {E : qe_E} (hd : qe_dok E.2.2.2 df) (b : Nat) : qx_sn (dp := dp) (qZ E L) 249 (qp_L_law b) (qm_L_law_rrrrlr df L b).1 := by
  unfold qm_L_law_rrrrlr
  exact sn_node (sn_leaf (j := 249) (b := b) (i := 77) (f := qp_L_law) (qs_L_law_77 hd)) (sn_leaf (j := 249) (b := b) (i := 78) (f := qp_L_law) (qs_L_law_78 hd))
theorem tqm_L_law_rrrrl {df : qe_Df} {L : Nat} {E : qe_E} (hd : qe_dok E.2.2.2 df) (b : Nat) : qx_sn (dp := dp) (qZ E L) 249 (qp_L_law b) (qm_L_law_rrrrl df L b).1 := by
  unfold qm_L_law_rrrrl
  exact sn_node (sn_leaf (j := 249) (b := b) (i := 76) (f := qp_L_law) (qs_L_law_76 hd)) (tqm_L_law_rrrrlr hd b)
theorem tqm_L_law_rrrrrr {df : qe_Df} {L : Nat} {E : qe_E} (hd : qe_dok E.2.2.2 df) (b : Nat) : qx_sn (dp := dp) (qZ E L) 249 (qp_L_law b) (qm_L_law_rrrrrr df L b).1 := by
  unfold qm_L_law_rrrrrr
  exact sn_node (sn_leaf (j := 249) (b := b) (i := 80) (f := qp_L_law) (qs_L_law_80 hd)) (sn_leaf (j := 249) (b := b) (i := 81) (f := qp_L_law) (qs_L_law_81 hd))
theorem tqm_L_law_rrrrr {df : qe_Df} {L : Nat} {E : qe_E} (hd : qe_dok E.2.2.2 df) (b : Nat) : qx_sn (dp := dp) (qZ E L) 249 (qp_L_law b) (qm_L_law_rrrrr df L b).1 := by
  unfold qm_L_law_rrrrr
  exact sn_node (sn_leaf (j := 249) (b := b) (i := 79) (f := qp_L_law) (qs_L_law_79 hd)) (tqm_L_law_rrrrrr hd b)
theorem tqm_L_law_rrrr {df : qe_Df} {L : Nat} {E : qe_E} (hd : qe_dok E.2.2.2 df) (b : Nat) : qx_sn (dp := dp) (qZ E L) 249 (qp_L_law b) (qm_L_law_rrrr df L b).1 := by
  unfold qm_L_law_rrrr
  exact sn_node (tqm_L_law_rrrrl hd b) (tqm_L_law_rrrrr hd b)
theorem tqm_L_law_rrr {df : qe_Df} {L : Nat} {E : qe_E} (hd : qe_dok E.2.2.2 df) (b : Nat) : qx_sn (dp := dp) (qZ E L) 249 (qp_L_law b) (qm_L_law_rrr df L b).1 := by
  unfold qm_L_law_rrr
  exact sn_node (tqm_L_law_rrrl hd b) (tqm_L_law_rrrr hd b)
theorem tqm_L_law_rr {df : qe_Df} {L : Nat} {E : qe_E} (hd : qe_dok E.2.2.2 df) (b : Nat) : qx_sn (dp := dp) (qZ E L) 249 (qp_L_law b) (qm_L_law_rr df L b).1 := by
  unfold qm_L_law_rr
  exact sn_node (tqm_L_law_rrl hd b) (tqm_L_law_rrr hd b)
theorem tqm_L_law_r {df : qe_Df} {L : Nat} {E : qe_E} (hd : qe_dok E.2.2.2 df) (b : Nat) : qx_sn (dp := dp) (qZ E L) 249 (qp_L_law b) (qm_L_law_r df L b).1 := by
  unfold qm_L_law_r
  exact sn_node (tqm_L_law_rl hd b) (tqm_L_law_rr hd b)
theorem tqm_L_law_ {df : qe_Df} {L : Nat} {E : qe_E} (hd : qe_dok E.2.2.2 df) (b : Nat) : qx_sn (dp := dp) (qZ E L) 249 (qp_L_law b) (qm_L_law_ df L b).1 := by
  unfold qm_L_law_
  exact sn_node (tqm_L_law_l hd b) (tqm_L_law_r hd b)
theorem tqm_L_law {df : qe_Df} {L : Nat} {E : qe_E} (hd : qe_dok E.2.2.2 df) (b : Nat) : qx_sn (dp := dp) (qZ E L) 249 (qp_L_law b) (qm_L_law df L b).1 := by
  unfold qm_L_law
  exact (tqm_L_law_ hd b)
theorem tqm_J6_bitCount_0f7a4 {df : qe_Df} {L : Nat} {E : qe_E} (hd : qe_dok E.2.2.2 df) (b : Nat) : qx_sn (dp := dp) (qZ E L) 250 (qp_J6_bitCount_0f7a4 b) (qm_J6_bitCount_0f7a4 df L b).1 := by
  unfold qm_J6_bitCount_0f7a4
  exact (sn_leaf (j := 250) (b := b) (i := 0) (f := qp_J6_bitCount_0f7a4) (qs_J6_bitCount_0f7a4_0 hd))
theorem tqj_llllll {df : qe_Df} {L : Nat} {E : qe_E} (hd : qe_dok E.2.2.2 df) (j b : Nat) : qx_sn (dp := dp) (qZ E L) j (zp (qZ E L) j b) (qj_llllll df L j b).1 := by
  unfold qj_llllll
  exact sn_node (sn_leafJ (j := j) (b := b) (k := 0) (show qx_sn (qZ E L) 0 (zp (qZ E L) 0 b) (qm_X9_init df L b).1 from tqm_X9_init hd b)) (sn_leafJ (j := j) (b := b) (k := 1) (show qx_sn (qZ E L) 1 (zp (qZ E L) 1 b) (qm_X9_append df L b).1 from tqm_X9_append hd b))
theorem tqj_lllllrr {df : qe_Df} {L : Nat} {E : qe_E} (hd : qe_dok E.2.2.2 df) (j b : Nat) : qx_sn (dp := dp) (qZ E L) j (zp (qZ E L) j b) (qj_lllllrr df L j b).1 := by
  unfold qj_lllllrr
  exact sn_node (sn_leafJ (j := j) (b := b) (k := 3) (show qx_sn (qZ E L) 3 (zp (qZ E L) 3 b) (qm_X9_add df L b).1 from tqm_X9_add hd b)) (sn_leafJ (j := j) (b := b) (k := 4) (show qx_sn (qZ E L) 4 (zp (qZ E L) 4 b) (qm_X9_remove df L b).1 from tqm_X9_remove hd b))
theorem tqj_lllllr {df : qe_Df} {L : Nat} {E : qe_E} (hd : qe_dok E.2.2.2 df) (j b : Nat) : qx_sn (dp := dp) (qZ E L) j (zp (qZ E L) j b) (qj_lllllr df L j b).1 := by
  unfold qj_lllllr
  exact sn_node (sn_leafJ (j := j) (b := b) (k := 2) (show qx_sn (qZ E L) 2 (zp (qZ E L) 2 b) (qm_X9_clear df L b).1 from tqm_X9_clear hd b)) (tqj_lllllrr hd j b)
theorem tqj_lllll {df : qe_Df} {L : Nat} {E : qe_E} (hd : qe_dok E.2.2.2 df) (j b : Nat) : qx_sn (dp := dp) (qZ E L) j (zp (qZ E L) j b) (qj_lllll df L j b).1 := by
  unfold qj_lllll
  exact sn_node (tqj_llllll hd j b) (tqj_lllllr hd j b)
theorem tqj_llllrl {df : qe_Df} {L : Nat} {E : qe_E} (hd : qe_dok E.2.2.2 df) (j b : Nat) : qx_sn (dp := dp) (qZ E L) j (zp (qZ E L) j b) (qj_llllrl df L j b).1 := by
  unfold qj_llllrl
  exact sn_node (sn_leafJ (j := j) (b := b) (k := 5) (show qx_sn (qZ E L) 5 (zp (qZ E L) 5 b) (qm_X9_setBranch df L b).1 from tqm_X9_setBranch hd b)) (sn_leafJ (j := j) (b := b) (k := 6) (show qx_sn (qZ E L) 6 (zp (qZ E L) 6 b) (qm_X9_setWeight df L b).1 from tqm_X9_setWeight hd b))
theorem tqj_llllrrr {df : qe_Df} {L : Nat} {E : qe_E} (hd : qe_dok E.2.2.2 df) (j b : Nat) : qx_sn (dp := dp) (qZ E L) j (zp (qZ E L) j b) (qj_llllrrr df L j b).1 := by
  unfold qj_llllrrr
  exact sn_node (sn_leafJ (j := j) (b := b) (k := 8) (show qx_sn (qZ E L) 8 (zp (qZ E L) 8 b) (qm_X9_execute df L b).1 from tqm_X9_execute hd b)) (sn_leafJ (j := j) (b := b) (k := 9) (show qx_sn (qZ E L) 9 (zp (qZ E L) 9 b) (qm_X9_errorPosition df L b).1 from tqm_X9_errorPosition hd b))
theorem tqj_llllrr {df : qe_Df} {L : Nat} {E : qe_E} (hd : qe_dok E.2.2.2 df) (j b : Nat) : qx_sn (dp := dp) (qZ E L) j (zp (qZ E L) j b) (qj_llllrr df L j b).1 := by
  unfold qj_llllrr
  exact sn_node (sn_leafJ (j := j) (b := b) (k := 7) (show qx_sn (qZ E L) 7 (zp (qZ E L) 7 b) (qm_X9_setLoad df L b).1 from tqm_X9_setLoad hd b)) (tqj_llllrrr hd j b)
theorem tqj_llllr {df : qe_Df} {L : Nat} {E : qe_E} (hd : qe_dok E.2.2.2 df) (j b : Nat) : qx_sn (dp := dp) (qZ E L) j (zp (qZ E L) j b) (qj_llllr df L j b).1 := by
  unfold qj_llllr
  exact sn_node (tqj_llllrl hd j b) (tqj_llllrr hd j b)
theorem tqj_llll {df : qe_Df} {L : Nat} {E : qe_E} (hd : qe_dok E.2.2.2 df) (j b : Nat) : qx_sn (dp := dp) (qZ E L) j (zp (qZ E L) j b) (qj_llll df L j b).1 := by
  unfold qj_llll
  exact sn_node (tqj_lllll hd j b) (tqj_llllr hd j b)
theorem tqj_lllrll {df : qe_Df} {L : Nat} {E : qe_E} (hd : qe_dok E.2.2.2 df) (j b : Nat) : qx_sn (dp := dp) (qZ E L) j (zp (qZ E L) j b) (qj_lllrll df L j b).1 := by
  unfold qj_lllrll
  exact sn_node (sn_leafJ (j := j) (b := b) (k := 10) (show qx_sn (qZ E L) 10 (zp (qZ E L) 10 b) (qm_X9_property df L b).1 from tqm_X9_property hd b)) (sn_leafJ (j := j) (b := b) (k := 11) (show qx_sn (qZ E L) 11 (zp (qZ E L) 11 b) (qm_X9_character df L b).1 from tqm_X9_character hd b))
theorem tqj_lllrlrr {df : qe_Df} {L : Nat} {E : qe_E} (hd : qe_dok E.2.2.2 df) (j b : Nat) : qx_sn (dp := dp) (qZ E L) j (zp (qZ E L) j b) (qj_lllrlrr df L j b).1 := by
  unfold qj_lllrlrr
  exact sn_node (sn_leafJ (j := j) (b := b) (k := 13) (show qx_sn (qZ E L) 13 (zp (qZ E L) 13 b) (qm_X9_size df L b).1 from tqm_X9_size hd b)) (sn_leafJ (j := j) (b := b) (k := 14) (show qx_sn (qZ E L) 14 (zp (qZ E L) 14 b) (qm_X9_find df L b).1 from tqm_X9_find hd b))
theorem tqj_lllrlr {df : qe_Df} {L : Nat} {E : qe_E} (hd : qe_dok E.2.2.2 df) (j b : Nat) : qx_sn (dp := dp) (qZ E L) j (zp (qZ E L) j b) (qj_lllrlr df L j b).1 := by
  unfold qj_lllrlr
  exact sn_node (sn_leafJ (j := j) (b := b) (k := 12) (show qx_sn (qZ E L) 12 (zp (qZ E L) 12 b) (qm_X9_difference df L b).1 from tqm_X9_difference hd b)) (tqj_lllrlrr hd j b)
theorem tqj_lllrl {df : qe_Df} {L : Nat} {E : qe_E} (hd : qe_dok E.2.2.2 df) (j b : Nat) : qx_sn (dp := dp) (qZ E L) j (zp (qZ E L) j b) (qj_lllrl df L j b).1 := by
  unfold qj_lllrl
  exact sn_node (tqj_lllrll hd j b) (tqj_lllrlr hd j b)
theorem tqj_lllrrl {df : qe_Df} {L : Nat} {E : qe_E} (hd : qe_dok E.2.2.2 df) (j b : Nat) : qx_sn (dp := dp) (qZ E L) j (zp (qZ E L) j b) (qj_lllrrl df L j b).1 := by
  unfold qj_lllrrl
  exact sn_node (sn_leafJ (j := j) (b := b) (k := 15) (show qx_sn (qZ E L) 15 (zp (qZ E L) 15 b) (qm_X9_branch df L b).1 from tqm_X9_branch hd b)) (sn_leafJ (j := j) (b := b) (k := 16) (show qx_sn (qZ E L) 16 (zp (qZ E L) 16 b) (qm_X9_examined df L b).1 from tqm_X9_examined hd b))
theorem tqj_lllrrrr {df : qe_Df} {L : Nat} {E : qe_E} (hd : qe_dok E.2.2.2 df) (j b : Nat) : qx_sn (dp := dp) (qZ E L) j (zp (qZ E L) j b) (qj_lllrrrr df L j b).1 := by
  unfold qj_lllrrrr
  exact sn_node (sn_leafJ (j := j) (b := b) (k := 18) (show qx_sn (qZ E L) 18 (zp (qZ E L) 18 b) (qm_X9_worst df L b).1 from tqm_X9_worst hd b)) (sn_leafJ (j := j) (b := b) (k := 19) (show qx_sn (qZ E L) 19 (zp (qZ E L) 19 b) (qm_X9_meanBits df L b).1 from tqm_X9_meanBits hd b))
theorem tqj_lllrrr {df : qe_Df} {L : Nat} {E : qe_E} (hd : qe_dok E.2.2.2 df) (j b : Nat) : qx_sn (dp := dp) (qZ E L) j (zp (qZ E L) j b) (qj_lllrrr df L j b).1 := by
  unfold qj_lllrrr
  exact sn_node (sn_leafJ (j := j) (b := b) (k := 17) (show qx_sn (qZ E L) 17 (zp (qZ E L) 17 b) (qm_X9_cost df L b).1 from tqm_X9_cost hd b)) (tqj_lllrrrr hd j b)
theorem tqj_lllrr {df : qe_Df} {L : Nat} {E : qe_E} (hd : qe_dok E.2.2.2 df) (j b : Nat) : qx_sn (dp := dp) (qZ E L) j (zp (qZ E L) j b) (qj_lllrr df L j b).1 := by
  unfold qj_lllrr
  exact sn_node (tqj_lllrrl hd j b) (tqj_lllrrr hd j b)
theorem tqj_lllr {df : qe_Df} {L : Nat} {E : qe_E} (hd : qe_dok E.2.2.2 df) (j b : Nat) : qx_sn (dp := dp) (qZ E L) j (zp (qZ E L) j b) (qj_lllr df L j b).1 := by
  unfold qj_lllr
  exact sn_node (tqj_lllrl hd j b) (tqj_lllrr hd j b)
theorem tqj_lll {df : qe_Df} {L : Nat} {E : qe_E} (hd : qe_dok E.2.2.2 df) (j b : Nat) : qx_sn (dp := dp) (qZ E L) j (zp (qZ E L) j b) (qj_lll df L j b).1 := by
  unfold qj_lll
  exact sn_node (tqj_llll hd j b) (tqj_lllr hd j b)
theorem tqj_llrlll {df : qe_Df} {L : Nat} {E : qe_E} (hd : qe_dok E.2.2.2 df) (j b : Nat) : qx_sn (dp := dp) (qZ E L) j (zp (qZ E L) j b) (qj_llrlll df L j b).1 := by
  unfold qj_llrlll
  exact sn_node (sn_leafJ (j := j) (b := b) (k := 20) (show qx_sn (qZ E L) 20 (zp (qZ E L) 20 b) (qm_X9_best df L b).1 from tqm_X9_best hd b)) (sn_leafJ (j := j) (b := b) (k := 21) (show qx_sn (qZ E L) 21 (zp (qZ E L) 21 b) (qm_X9_trees df L b).1 from tqm_X9_trees hd b))
theorem tqj_llrllrr {df : qe_Df} {L : Nat} {E : qe_E} (hd : qe_dok E.2.2.2 df) (j b : Nat) : qx_sn (dp := dp) (qZ E L) j (zp (qZ E L) j b) (qj_llrllrr df L j b).1 := by
  unfold qj_llrllrr
  exact sn_node (sn_leafJ (j := j) (b := b) (k := 23) (show qx_sn (qZ E L) 23 (zp (qZ E L) 23 b) (qm_X9_hash df L b).1 from tqm_X9_hash hd b)) (sn_leafJ (j := j) (b := b) (k := 24) (show qx_sn (qZ E L) 24 (zp (qZ E L) 24 b) (qm_X9_table df L b).1 from tqm_X9_table hd b))
theorem tqj_llrllr {df : qe_Df} {L : Nat} {E : qe_E} (hd : qe_dok E.2.2.2 df) (j b : Nat) : qx_sn (dp := dp) (qZ E L) j (zp (qZ E L) j b) (qj_llrllr df L j b).1 := by
  unfold qj_llrllr
  exact sn_node (sn_leafJ (j := j) (b := b) (k := 22) (show qx_sn (qZ E L) 22 (zp (qZ E L) 22 b) (qm_X9_selected df L b).1 from tqm_X9_selected hd b)) (tqj_llrllrr hd j b)
theorem tqj_llrll {df : qe_Df} {L : Nat} {E : qe_E} (hd : qe_dok E.2.2.2 df) (j b : Nat) : qx_sn (dp := dp) (qZ E L) j (zp (qZ E L) j b) (qj_llrll df L j b).1 := by
  unfold qj_llrll
  exact sn_node (tqj_llrlll hd j b) (tqj_llrllr hd j b)
theorem tqj_llrlrl {df : qe_Df} {L : Nat} {E : qe_E} (hd : qe_dok E.2.2.2 df) (j b : Nat) : qx_sn (dp := dp) (qZ E L) j (zp (qZ E L) j b) (qj_llrlrl df L j b).1 := by
  unfold qj_llrlrl
  exact sn_node (sn_leafJ (j := j) (b := b) (k := 25) (show qx_sn (qZ E L) 25 (zp (qZ E L) 25 b) (qm_X9_slot df L b).1 from tqm_X9_slot hd b)) (sn_leafJ (j := j) (b := b) (k := 26) (show qx_sn (qZ E L) 26 (zp (qZ E L) 26 b) (qm_X9_displacement df L b).1 from tqm_X9_displacement hd b))
theorem tqj_llrlrrr {df : qe_Df} {L : Nat} {E : qe_E} (hd : qe_dok E.2.2.2 df) (j b : Nat) : qx_sn (dp := dp) (qZ E L) j (zp (qZ E L) j b) (qj_llrlrrr df L j b).1 := by
  unfold qj_llrlrrr
  exact sn_node (sn_leafJ (j := j) (b := b) (k := 28) (show qx_sn (qZ E L) 28 (zp (qZ E L) 28 b) (qm_X9_listing df L b).1 from tqm_X9_listing hd b)) (sn_leafJ (j := j) (b := b) (k := 29) (show qx_sn (qZ E L) 29 (zp (qZ E L) 29 b) (qm_X9_save df L b).1 from tqm_X9_save hd b))
theorem tqj_llrlrr {df : qe_Df} {L : Nat} {E : qe_E} (hd : qe_dok E.2.2.2 df) (j b : Nat) : qx_sn (dp := dp) (qZ E L) j (zp (qZ E L) j b) (qj_llrlrr df L j b).1 := by
  unfold qj_llrlrr
  exact sn_node (sn_leafJ (j := j) (b := b) (k := 27) (show qx_sn (qZ E L) 27 (zp (qZ E L) 27 b) (qm_X9_densityBits df L b).1 from tqm_X9_densityBits hd b)) (tqj_llrlrrr hd j b)
theorem tqj_llrlr {df : qe_Df} {L : Nat} {E : qe_E} (hd : qe_dok E.2.2.2 df) (j b : Nat) : qx_sn (dp := dp) (qZ E L) j (zp (qZ E L) j b) (qj_llrlr df L j b).1 := by
  unfold qj_llrlr
  exact sn_node (tqj_llrlrl hd j b) (tqj_llrlrr hd j b)
theorem tqj_llrl {df : qe_Df} {L : Nat} {E : qe_E} (hd : qe_dok E.2.2.2 df) (j b : Nat) : qx_sn (dp := dp) (qZ E L) j (zp (qZ E L) j b) (qj_llrl df L j b).1 := by
  unfold qj_llrl
  exact sn_node (tqj_llrll hd j b) (tqj_llrlr hd j b)
theorem tqj_llrrll {df : qe_Df} {L : Nat} {E : qe_E} (hd : qe_dok E.2.2.2 df) (j b : Nat) : qx_sn (dp := dp) (qZ E L) j (zp (qZ E L) j b) (qj_llrrll df L j b).1 := by
  unfold qj_llrrll
  exact sn_node (sn_leafJ (j := j) (b := b) (k := 30) (show qx_sn (qZ E L) 30 (zp (qZ E L) 30 b) (qm_X9_restore df L b).1 from tqm_X9_restore hd b)) (sn_leafJ (j := j) (b := b) (k := 31) (show qx_sn (qZ E L) 31 (zp (qZ E L) 31 b) (qm_X9_requireKey df L b).1 from tqm_X9_requireKey hd b))
theorem tqj_llrrlrr {df : qe_Df} {L : Nat} {E : qe_E} (hd : qe_dok E.2.2.2 df) (j b : Nat) : qx_sn (dp := dp) (qZ E L) j (zp (qZ E L) j b) (qj_llrrlrr df L j b).1 := by
  unfold qj_llrrlrr
  exact sn_node (sn_leafJ (j := j) (b := b) (k := 34) (show qx_sn (qZ E L) 34 (zp (qZ E L) 34 b) (qm_X9_requireRunnable df L b).1 from tqm_X9_requireRunnable hd b)) (sn_leafJ (j := j) (b := b) (k := 35) (show qx_sn (qZ E L) 35 (zp (qZ E L) 35 b) (qm_X9_requireTable df L b).1 from tqm_X9_requireTable hd b))
theorem tqj_llrrlr {df : qe_Df} {L : Nat} {E : qe_E} (hd : qe_dok E.2.2.2 df) (j b : Nat) : qx_sn (dp := dp) (qZ E L) j (zp (qZ E L) j b) (qj_llrrlr df L j b).1 := by
  unfold qj_llrrlr
  exact sn_node (sn_leafJ (j := j) (b := b) (k := 33) (show qx_sn (qZ E L) 33 (zp (qZ E L) 33 b) (qm_X9_requireStrategy df L b).1 from tqm_X9_requireStrategy hd b)) (tqj_llrrlrr hd j b)
theorem tqj_llrrl {df : qe_Df} {L : Nat} {E : qe_E} (hd : qe_dok E.2.2.2 df) (j b : Nat) : qx_sn (dp := dp) (qZ E L) j (zp (qZ E L) j b) (qj_llrrl df L j b).1 := by
  unfold qj_llrrl
  exact sn_node (tqj_llrrll hd j b) (tqj_llrrlr hd j b)
theorem tqj_llrrrl {df : qe_Df} {L : Nat} {E : qe_E} (hd : qe_dok E.2.2.2 df) (j b : Nat) : qx_sn (dp := dp) (qZ E L) j (zp (qZ E L) j b) (qj_llrrrl df L j b).1 := by
  unfold qj_llrrrl
  exact sn_node (sn_leafJ (j := j) (b := b) (k := 36) (show qx_sn (qZ E L) 36 (zp (qZ E L) 36 b) (qm_X9_canRun df L b).1 from tqm_X9_canRun hd b)) (sn_leafJ (j := j) (b := b) (k := 37) (show qx_sn (qZ E L) 37 (zp (qZ E L) 37 b) (qm_X9_prepare df L b).1 from tqm_X9_prepare hd b))
theorem tqj_llrrrrr {df : qe_Df} {L : Nat} {E : qe_E} (hd : qe_dok E.2.2.2 df) (j b : Nat) : qx_sn (dp := dp) (qZ E L) j (zp (qZ E L) j b) (qj_llrrrrr df L j b).1 := by
  unfold qj_llrrrrr
  exact sn_node (sn_leafJ (j := j) (b := b) (k := 40) (show qx_sn (qZ E L) 40 (zp (qZ E L) 40 b) (qm_X9_copy df L b).1 from tqm_X9_copy hd b)) (sn_leafJ (j := j) (b := b) (k := 42) (show qx_sn (qZ E L) 42 (zp (qZ E L) 42 b) (qm_X9_contains df L b).1 from tqm_X9_contains hd b))
theorem tqj_llrrrr {df : qe_Df} {L : Nat} {E : qe_E} (hd : qe_dok E.2.2.2 df) (j b : Nat) : qx_sn (dp := dp) (qZ E L) j (zp (qZ E L) j b) (qj_llrrrr df L j b).1 := by
  unfold qj_llrrrr
  exact sn_node (sn_leafJ (j := j) (b := b) (k := 39) (show qx_sn (qZ E L) 39 (zp (qZ E L) 39 b) (qm_X9_put df L b).1 from tqm_X9_put hd b)) (tqj_llrrrrr hd j b)
theorem tqj_llrrr {df : qe_Df} {L : Nat} {E : qe_E} (hd : qe_dok E.2.2.2 df) (j b : Nat) : qx_sn (dp := dp) (qZ E L) j (zp (qZ E L) j b) (qj_llrrr df L j b).1 := by
  unfold qj_llrrr
  exact sn_node (tqj_llrrrl hd j b) (tqj_llrrrr hd j b)
theorem tqj_llrr {df : qe_Df} {L : Nat} {E : qe_E} (hd : qe_dok E.2.2.2 df) (j b : Nat) : qx_sn (dp := dp) (qZ E L) j (zp (qZ E L) j b) (qj_llrr df L j b).1 := by
  unfold qj_llrr
  exact sn_node (tqj_llrrl hd j b) (tqj_llrrr hd j b)
theorem tqj_llr {df : qe_Df} {L : Nat} {E : qe_E} (hd : qe_dok E.2.2.2 df) (j b : Nat) : qx_sn (dp := dp) (qZ E L) j (zp (qZ E L) j b) (qj_llr df L j b).1 := by
  unfold qj_llr
  exact sn_node (tqj_llrl hd j b) (tqj_llrr hd j b)
theorem tqj_ll {df : qe_Df} {L : Nat} {E : qe_E} (hd : qe_dok E.2.2.2 df) (j b : Nat) : qx_sn (dp := dp) (qZ E L) j (zp (qZ E L) j b) (qj_ll df L j b).1 := by
  unfold qj_ll
  exact sn_node (tqj_lll hd j b) (tqj_llr hd j b)
theorem tqj_lrllll {df : qe_Df} {L : Nat} {E : qe_E} (hd : qe_dok E.2.2.2 df) (j b : Nat) : qx_sn (dp := dp) (qZ E L) j (zp (qZ E L) j b) (qj_lrllll df L j b).1 := by
  unfold qj_lrllll
  exact sn_node (sn_leafJ (j := j) (b := b) (k := 47) (show qx_sn (qZ E L) 47 (zp (qZ E L) 47 b) (qm_X10_init df L b).1 from tqm_X10_init hd b)) (sn_leafJ (j := j) (b := b) (k := 48) (show qx_sn (qZ E L) 48 (zp (qZ E L) 48 b) (qm_X10_thrown df L b).1 from tqm_X10_thrown hd b))
theorem tqj_lrlllrr {df : qe_Df} {L : Nat} {E : qe_E} (hd : qe_dok E.2.2.2 df) (j b : Nat) : qx_sn (dp := dp) (qZ E L) j (zp (qZ E L) j b) (qj_lrlllrr df L j b).1 := by
  unfold qj_lrlllrr
  exact sn_node (sn_leafJ (j := j) (b := b) (k := 50) (show qx_sn (qZ E L) 50 (zp (qZ E L) 50 b) (qm_X10_isKey df L b).1 from tqm_X10_isKey hd b)) (sn_leafJ (j := j) (b := b) (k := 53) (show qx_sn (qZ E L) 53 (zp (qZ E L) 53 b) (qm_X10_append df L b).1 from tqm_X10_append hd b))
theorem tqj_lrlllr {df : qe_Df} {L : Nat} {E : qe_E} (hd : qe_dok E.2.2.2 df) (j b : Nat) : qx_sn (dp := dp) (qZ E L) j (zp (qZ E L) j b) (qj_lrlllr df L j b).1 := by
  unfold qj_lrlllr
  exact sn_node (sn_leafJ (j := j) (b := b) (k := 49) (show qx_sn (qZ E L) 49 (zp (qZ E L) 49 b) (qm_X10_in df L b).1 from tqm_X10_in hd b)) (tqj_lrlllrr hd j b)
theorem tqj_lrlll {df : qe_Df} {L : Nat} {E : qe_E} (hd : qe_dok E.2.2.2 df) (j b : Nat) : qx_sn (dp := dp) (qZ E L) j (zp (qZ E L) j b) (qj_lrlll df L j b).1 := by
  unfold qj_lrlll
  exact sn_node (tqj_lrllll hd j b) (tqj_lrlllr hd j b)
theorem tqj_lrllrl {df : qe_Df} {L : Nat} {E : qe_E} (hd : qe_dok E.2.2.2 df) (j b : Nat) : qx_sn (dp := dp) (qZ E L) j (zp (qZ E L) j b) (qj_lrllrl df L j b).1 := by
  unfold qj_lrllrl
  exact sn_node (sn_leafJ (j := j) (b := b) (k := 54) (show qx_sn (qZ E L) 54 (zp (qZ E L) 54 b) (qm_X10_clear df L b).1 from tqm_X10_clear hd b)) (sn_leafJ (j := j) (b := b) (k := 58) (show qx_sn (qZ E L) 58 (zp (qZ E L) 58 b) (qm_X10_add df L b).1 from tqm_X10_add hd b))
theorem tqj_lrllrrr {df : qe_Df} {L : Nat} {E : qe_E} (hd : qe_dok E.2.2.2 df) (j b : Nat) : qx_sn (dp := dp) (qZ E L) j (zp (qZ E L) j b) (qj_lrllrrr df L j b).1 := by
  unfold qj_lrllrrr
  exact sn_node (sn_leafJ (j := j) (b := b) (k := 60) (show qx_sn (qZ E L) 60 (zp (qZ E L) 60 b) (qm_X10_setBranch df L b).1 from tqm_X10_setBranch hd b)) (sn_leafJ (j := j) (b := b) (k := 61) (show qx_sn (qZ E L) 61 (zp (qZ E L) 61 b) (qm_X10_setWeight df L b).1 from tqm_X10_setWeight hd b))
theorem tqj_lrllrr {df : qe_Df} {L : Nat} {E : qe_E} (hd : qe_dok E.2.2.2 df) (j b : Nat) : qx_sn (dp := dp) (qZ E L) j (zp (qZ E L) j b) (qj_lrllrr df L j b).1 := by
  unfold qj_lrllrr
  exact sn_node (sn_leafJ (j := j) (b := b) (k := 59) (show qx_sn (qZ E L) 59 (zp (qZ E L) 59 b) (qm_X10_remove df L b).1 from tqm_X10_remove hd b)) (tqj_lrllrrr hd j b)
theorem tqj_lrllr {df : qe_Df} {L : Nat} {E : qe_E} (hd : qe_dok E.2.2.2 df) (j b : Nat) : qx_sn (dp := dp) (qZ E L) j (zp (qZ E L) j b) (qj_lrllr df L j b).1 := by
  unfold qj_lrllr
  exact sn_node (tqj_lrllrl hd j b) (tqj_lrllrr hd j b)
theorem tqj_lrll {df : qe_Df} {L : Nat} {E : qe_E} (hd : qe_dok E.2.2.2 df) (j b : Nat) : qx_sn (dp := dp) (qZ E L) j (zp (qZ E L) j b) (qj_lrll df L j b).1 := by
  unfold qj_lrll
  exact sn_node (tqj_lrlll hd j b) (tqj_lrllr hd j b)
theorem tqj_lrlrll {df : qe_Df} {L : Nat} {E : qe_E} (hd : qe_dok E.2.2.2 df) (j b : Nat) : qx_sn (dp := dp) (qZ E L) j (zp (qZ E L) j b) (qj_lrlrll df L j b).1 := by
  unfold qj_lrlrll
  exact sn_node (sn_leafJ (j := j) (b := b) (k := 62) (show qx_sn (qZ E L) 62 (zp (qZ E L) 62 b) (qm_X10_setLoad df L b).1 from tqm_X10_setLoad hd b)) (sn_leafJ (j := j) (b := b) (k := 63) (show qx_sn (qZ E L) 63 (zp (qZ E L) 63 b) (qm_X10_here df L b).1 from tqm_X10_here hd b))
theorem tqj_lrlrlrr {df : qe_Df} {L : Nat} {E : qe_E} (hd : qe_dok E.2.2.2 df) (j b : Nat) : qx_sn (dp := dp) (qZ E L) j (zp (qZ E L) j b) (qj_lrlrlrr df L j b).1 := by
  unfold qj_lrlrlrr
  exact sn_node (sn_leafJ (j := j) (b := b) (k := 66) (show qx_sn (qZ E L) 66 (zp (qZ E L) 66 b) (qm_X10_word df L b).1 from tqm_X10_word hd b)) (sn_leafJ (j := j) (b := b) (k := 70) (show qx_sn (qZ E L) 70 (zp (qZ E L) 70 b) (qm_X10_readCommand df L b).1 from tqm_X10_readCommand hd b))
theorem tqj_lrlrlr {df : qe_Df} {L : Nat} {E : qe_E} (hd : qe_dok E.2.2.2 df) (j b : Nat) : qx_sn (dp := dp) (qZ E L) j (zp (qZ E L) j b) (qj_lrlrlr df L j b).1 := by
  unfold qj_lrlrlr
  exact sn_node (sn_leafJ (j := j) (b := b) (k := 65) (show qx_sn (qZ E L) 65 (zp (qZ E L) 65 b) (qm_X10_isWord df L b).1 from tqm_X10_isWord hd b)) (tqj_lrlrlrr hd j b)
theorem tqj_lrlrl {df : qe_Df} {L : Nat} {E : qe_E} (hd : qe_dok E.2.2.2 df) (j b : Nat) : qx_sn (dp := dp) (qZ E L) j (zp (qZ E L) j b) (qj_lrlrl df L j b).1 := by
  unfold qj_lrlrl
  exact sn_node (tqj_lrlrll hd j b) (tqj_lrlrlr hd j b)
theorem tqj_lrlrrl {df : qe_Df} {L : Nat} {E : qe_E} (hd : qe_dok E.2.2.2 df) (j b : Nat) : qx_sn (dp := dp) (qZ E L) j (zp (qZ E L) j b) (qj_lrlrrl df L j b).1 := by
  unfold qj_lrlrrl
  exact sn_node (sn_leafJ (j := j) (b := b) (k := 72) (show qx_sn (qZ E L) 72 (zp (qZ E L) 72 b) (qm_X10_execute df L b).1 from tqm_X10_execute hd b)) (sn_leafJ (j := j) (b := b) (k := 73) (show qx_sn (qZ E L) 73 (zp (qZ E L) 73 b) (qm_X10_errorPosition df L b).1 from tqm_X10_errorPosition hd b))
theorem tqj_lrlrrrr {df : qe_Df} {L : Nat} {E : qe_E} (hd : qe_dok E.2.2.2 df) (j b : Nat) : qx_sn (dp := dp) (qZ E L) j (zp (qZ E L) j b) (qj_lrlrrrr df L j b).1 := by
  unfold qj_lrlrrrr
  exact sn_node (sn_leafJ (j := j) (b := b) (k := 79) (show qx_sn (qZ E L) 79 (zp (qZ E L) 79 b) (qm_X10_character df L b).1 from tqm_X10_character hd b)) (sn_leafJ (j := j) (b := b) (k := 80) (show qx_sn (qZ E L) 80 (zp (qZ E L) 80 b) (qm_X10_difference df L b).1 from tqm_X10_difference hd b))
theorem tqj_lrlrrr {df : qe_Df} {L : Nat} {E : qe_E} (hd : qe_dok E.2.2.2 df) (j b : Nat) : qx_sn (dp := dp) (qZ E L) j (zp (qZ E L) j b) (qj_lrlrrr df L j b).1 := by
  unfold qj_lrlrrr
  exact sn_node (sn_leafJ (j := j) (b := b) (k := 78) (show qx_sn (qZ E L) 78 (zp (qZ E L) 78 b) (qm_X10_property df L b).1 from tqm_X10_property hd b)) (tqj_lrlrrrr hd j b)
theorem tqj_lrlrr {df : qe_Df} {L : Nat} {E : qe_E} (hd : qe_dok E.2.2.2 df) (j b : Nat) : qx_sn (dp := dp) (qZ E L) j (zp (qZ E L) j b) (qj_lrlrr df L j b).1 := by
  unfold qj_lrlrr
  exact sn_node (tqj_lrlrrl hd j b) (tqj_lrlrrr hd j b)
theorem tqj_lrlr {df : qe_Df} {L : Nat} {E : qe_E} (hd : qe_dok E.2.2.2 df) (j b : Nat) : qx_sn (dp := dp) (qZ E L) j (zp (qZ E L) j b) (qj_lrlr df L j b).1 := by
  unfold qj_lrlr
  exact sn_node (tqj_lrlrl hd j b) (tqj_lrlrr hd j b)
theorem tqj_lrl {df : qe_Df} {L : Nat} {E : qe_E} (hd : qe_dok E.2.2.2 df) (j b : Nat) : qx_sn (dp := dp) (qZ E L) j (zp (qZ E L) j b) (qj_lrl df L j b).1 := by
  unfold qj_lrl
  exact sn_node (tqj_lrll hd j b) (tqj_lrlr hd j b)
theorem tqj_lrrlll {df : qe_Df} {L : Nat} {E : qe_E} (hd : qe_dok E.2.2.2 df) (j b : Nat) : qx_sn (dp := dp) (qZ E L) j (zp (qZ E L) j b) (qj_lrrlll df L j b).1 := by
  unfold qj_lrrlll
  exact sn_node (sn_leafJ (j := j) (b := b) (k := 81) (show qx_sn (qZ E L) 81 (zp (qZ E L) 81 b) (qm_X10_size df L b).1 from tqm_X10_size hd b)) (sn_leafJ (j := j) (b := b) (k := 82) (show qx_sn (qZ E L) 82 (zp (qZ E L) 82 b) (qm_X10_takeBuffer df L b).1 from tqm_X10_takeBuffer hd b))
theorem tqj_lrrllrr {df : qe_Df} {L : Nat} {E : qe_E} (hd : qe_dok E.2.2.2 df) (j b : Nat) : qx_sn (dp := dp) (qZ E L) j (zp (qZ E L) j b) (qj_lrrllrr df L j b).1 := by
  unfold qj_lrrllrr
  exact sn_node (sn_leafJ (j := j) (b := b) (k := 88) (show qx_sn (qZ E L) 88 (zp (qZ E L) 88 b) (qm_X10_search df L b).1 from tqm_X10_search hd b)) (sn_leafJ (j := j) (b := b) (k := 89) (show qx_sn (qZ E L) 89 (zp (qZ E L) 89 b) (qm_X10_marked df L b).1 from tqm_X10_marked hd b))
theorem tqj_lrrllr {df : qe_Df} {L : Nat} {E : qe_E} (hd : qe_dok E.2.2.2 df) (j b : Nat) : qx_sn (dp := dp) (qZ E L) j (zp (qZ E L) j b) (qj_lrrllr df L j b).1 := by
  unfold qj_lrrllr
  exact sn_node (sn_leafJ (j := j) (b := b) (k := 85) (show qx_sn (qZ E L) 85 (zp (qZ E L) 85 b) (qm_X10_linear df L b).1 from tqm_X10_linear hd b)) (tqj_lrrllrr hd j b)
theorem tqj_lrrll {df : qe_Df} {L : Nat} {E : qe_E} (hd : qe_dok E.2.2.2 df) (j b : Nat) : qx_sn (dp := dp) (qZ E L) j (zp (qZ E L) j b) (qj_lrrll df L j b).1 := by
  unfold qj_lrrll
  exact sn_node (tqj_lrrlll hd j b) (tqj_lrrllr hd j b)
theorem tqj_lrrlrl {df : qe_Df} {L : Nat} {E : qe_E} (hd : qe_dok E.2.2.2 df) (j b : Nat) : qx_sn (dp := dp) (qZ E L) j (zp (qZ E L) j b) (qj_lrrlrl df L j b).1 := by
  unfold qj_lrrlrl
  exact sn_node (sn_leafJ (j := j) (b := b) (k := 92) (show qx_sn (qZ E L) 92 (zp (qZ E L) 92 b) (qm_X10_ofLength df L b).1 from tqm_X10_ofLength hd b)) (sn_leafJ (j := j) (b := b) (k := 94) (show qx_sn (qZ E L) 94 (zp (qZ E L) 94 b) (qm_X10_climb df L b).1 from tqm_X10_climb hd b))
theorem tqj_lrrlrrr {df : qe_Df} {L : Nat} {E : qe_E} (hd : qe_dok E.2.2.2 df) (j b : Nat) : qx_sn (dp := dp) (qZ E L) j (zp (qZ E L) j b) (qj_lrrlrrr df L j b).1 := by
  unfold qj_lrrlrrr
  exact sn_node (sn_leafJ (j := j) (b := b) (k := 97) (show qx_sn (qZ E L) 97 (zp (qZ E L) 97 b) (qm_X10_separates df L b).1 from tqm_X10_separates hd b)) (sn_leafJ (j := j) (b := b) (k := 98) (show qx_sn (qZ E L) 98 (zp (qZ E L) 98 b) (qm_X10_sizeOf df L b).1 from tqm_X10_sizeOf hd b))
theorem tqj_lrrlrr {df : qe_Df} {L : Nat} {E : qe_E} (hd : qe_dok E.2.2.2 df) (j b : Nat) : qx_sn (dp := dp) (qZ E L) j (zp (qZ E L) j b) (qj_lrrlrr df L j b).1 := by
  unfold qj_lrrlrr
  exact sn_node (sn_leafJ (j := j) (b := b) (k := 96) (show qx_sn (qZ E L) 96 (zp (qZ E L) 96 b) (qm_X10_trees df L b).1 from tqm_X10_trees hd b)) (tqj_lrrlrrr hd j b)
theorem tqj_lrrlr {df : qe_Df} {L : Nat} {E : qe_E} (hd : qe_dok E.2.2.2 df) (j b : Nat) : qx_sn (dp := dp) (qZ E L) j (zp (qZ E L) j b) (qj_lrrlr df L j b).1 := by
  unfold qj_lrrlr
  exact sn_node (tqj_lrrlrl hd j b) (tqj_lrrlrr hd j b)
theorem tqj_lrrl {df : qe_Df} {L : Nat} {E : qe_E} (hd : qe_dok E.2.2.2 df) (j b : Nat) : qx_sn (dp := dp) (qZ E L) j (zp (qZ E L) j b) (qj_lrrl df L j b).1 := by
  unfold qj_lrrl
  exact sn_node (tqj_lrrll hd j b) (tqj_lrrlr hd j b)
theorem tqj_lrrrll {df : qe_Df} {L : Nat} {E : qe_E} (hd : qe_dok E.2.2.2 df) (j b : Nat) : qx_sn (dp := dp) (qZ E L) j (zp (qZ E L) j b) (qj_lrrrll df L j b).1 := by
  unfold qj_lrrrll
  exact sn_node (sn_leafJ (j := j) (b := b) (k := 100) (show qx_sn (qZ E L) 100 (zp (qZ E L) 100 b) (qm_X10_select df L b).1 from tqm_X10_select hd b)) (sn_leafJ (j := j) (b := b) (k := 101) (show qx_sn (qZ E L) 101 (zp (qZ E L) 101 b) (qm_X10_hashOfText df L b).1 from tqm_X10_hashOfText hd b))
theorem tqj_lrrrlrr {df : qe_Df} {L : Nat} {E : qe_E} (hd : qe_dok E.2.2.2 df) (j b : Nat) : qx_sn (dp := dp) (qZ E L) j (zp (qZ E L) j b) (qj_lrrrlrr df L j b).1 := by
  unfold qj_lrrrlrr
  exact sn_node (sn_leafJ (j := j) (b := b) (k := 107) (show qx_sn (qZ E L) 107 (zp (qZ E L) 107 b) (qm_X10_hashed df L b).1 from tqm_X10_hashed hd b)) (sn_leafJ (j := j) (b := b) (k := 108) (show qx_sn (qZ E L) 108 (zp (qZ E L) 108 b) (qm_X10_canRun df L b).1 from tqm_X10_canRun hd b))
theorem tqj_lrrrlr {df : qe_Df} {L : Nat} {E : qe_E} (hd : qe_dok E.2.2.2 df) (j b : Nat) : qx_sn (dp := dp) (qZ E L) j (zp (qZ E L) j b) (qj_lrrrlr df L j b).1 := by
  unfold qj_lrrrlr
  exact sn_node (sn_leafJ (j := j) (b := b) (k := 106) (show qx_sn (qZ E L) 106 (zp (qZ E L) 106 b) (qm_X10_prepare df L b).1 from tqm_X10_prepare hd b)) (tqj_lrrrlrr hd j b)
theorem tqj_lrrrl {df : qe_Df} {L : Nat} {E : qe_E} (hd : qe_dok E.2.2.2 df) (j b : Nat) : qx_sn (dp := dp) (qZ E L) j (zp (qZ E L) j b) (qj_lrrrl df L j b).1 := by
  unfold qj_lrrrl
  exact sn_node (tqj_lrrrll hd j b) (tqj_lrrrlr hd j b)
theorem tqj_lrrrrlr {df : qe_Df} {L : Nat} {E : qe_E} (hd : qe_dok E.2.2.2 df) (j b : Nat) : qx_sn (dp := dp) (qZ E L) j (zp (qZ E L) j b) (qj_lrrrrlr df L j b).1 := by
  unfold qj_lrrrrlr
  exact sn_node (sn_leafJ (j := j) (b := b) (k := 110) (show qx_sn (qZ E L) 110 (zp (qZ E L) 110 b) (qm_X10_run df L b).1 from tqm_X10_run hd b)) (sn_leafJ (j := j) (b := b) (k := 111) (show qx_sn (qZ E L) 111 (zp (qZ E L) 111 b) (qm_X10_find df L b).1 from tqm_X10_find hd b))
theorem tqj_lrrrrl {df : qe_Df} {L : Nat} {E : qe_E} (hd : qe_dok E.2.2.2 df) (j b : Nat) : qx_sn (dp := dp) (qZ E L) j (zp (qZ E L) j b) (qj_lrrrrl df L j b).1 := by
  unfold qj_lrrrrl
  exact sn_node (sn_leafJ (j := j) (b := b) (k := 109) (show qx_sn (qZ E L) 109 (zp (qZ E L) 109 b) (qm_X10_refusal df L b).1 from tqm_X10_refusal hd b)) (tqj_lrrrrlr hd j b)
theorem tqj_lrrrrrr {df : qe_Df} {L : Nat} {E : qe_E} (hd : qe_dok E.2.2.2 df) (j b : Nat) : qx_sn (dp := dp) (qZ E L) j (zp (qZ E L) j b) (qj_lrrrrrr df L j b).1 := by
  unfold qj_lrrrrrr
  exact sn_node (sn_leafJ (j := j) (b := b) (k := 113) (show qx_sn (qZ E L) 113 (zp (qZ E L) 113 b) (qm_X10_examined df L b).1 from tqm_X10_examined hd b)) (sn_leafJ (j := j) (b := b) (k := 114) (show qx_sn (qZ E L) 114 (zp (qZ E L) 114 b) (qm_X10_costOf df L b).1 from tqm_X10_costOf hd b))
theorem tqj_lrrrrr {df : qe_Df} {L : Nat} {E : qe_E} (hd : qe_dok E.2.2.2 df) (j b : Nat) : qx_sn (dp := dp) (qZ E L) j (zp (qZ E L) j b) (qj_lrrrrr df L j b).1 := by
  unfold qj_lrrrrr
  exact sn_node (sn_leafJ (j := j) (b := b) (k := 112) (show qx_sn (qZ E L) 112 (zp (qZ E L) 112 b) (qm_X10_branch df L b).1 from tqm_X10_branch hd b)) (tqj_lrrrrrr hd j b)
theorem tqj_lrrrr {df : qe_Df} {L : Nat} {E : qe_E} (hd : qe_dok E.2.2.2 df) (j b : Nat) : qx_sn (dp := dp) (qZ E L) j (zp (qZ E L) j b) (qj_lrrrr df L j b).1 := by
  unfold qj_lrrrr
  exact sn_node (tqj_lrrrrl hd j b) (tqj_lrrrrr hd j b)
theorem tqj_lrrr {df : qe_Df} {L : Nat} {E : qe_E} (hd : qe_dok E.2.2.2 df) (j b : Nat) : qx_sn (dp := dp) (qZ E L) j (zp (qZ E L) j b) (qj_lrrr df L j b).1 := by
  unfold qj_lrrr
  exact sn_node (tqj_lrrrl hd j b) (tqj_lrrrr hd j b)
theorem tqj_lrr {df : qe_Df} {L : Nat} {E : qe_E} (hd : qe_dok E.2.2.2 df) (j b : Nat) : qx_sn (dp := dp) (qZ E L) j (zp (qZ E L) j b) (qj_lrr df L j b).1 := by
  unfold qj_lrr
  exact sn_node (tqj_lrrl hd j b) (tqj_lrrr hd j b)
theorem tqj_lr {df : qe_Df} {L : Nat} {E : qe_E} (hd : qe_dok E.2.2.2 df) (j b : Nat) : qx_sn (dp := dp) (qZ E L) j (zp (qZ E L) j b) (qj_lr df L j b).1 := by
  unfold qj_lr
  exact sn_node (tqj_lrl hd j b) (tqj_lrr hd j b)
theorem tqj_l {df : qe_Df} {L : Nat} {E : qe_E} (hd : qe_dok E.2.2.2 df) (j b : Nat) : qx_sn (dp := dp) (qZ E L) j (zp (qZ E L) j b) (qj_l df L j b).1 := by
  unfold qj_l
  exact sn_node (tqj_ll hd j b) (tqj_lr hd j b)
theorem tqj_rlllll {df : qe_Df} {L : Nat} {E : qe_E} (hd : qe_dok E.2.2.2 df) (j b : Nat) : qx_sn (dp := dp) (qZ E L) j (zp (qZ E L) j b) (qj_rlllll df L j b).1 := by
  unfold qj_rlllll
  exact sn_node (sn_leafJ (j := j) (b := b) (k := 115) (show qx_sn (qZ E L) 115 (zp (qZ E L) 115 b) (qm_X10_cost df L b).1 from tqm_X10_cost hd b)) (sn_leafJ (j := j) (b := b) (k := 116) (show qx_sn (qZ E L) 116 (zp (qZ E L) 116 b) (qm_X10_worst df L b).1 from tqm_X10_worst hd b))
theorem tqj_rllllrr {df : qe_Df} {L : Nat} {E : qe_E} (hd : qe_dok E.2.2.2 df) (j b : Nat) : qx_sn (dp := dp) (qZ E L) j (zp (qZ E L) j b) (qj_rllllrr df L j b).1 := by
  unfold qj_rllllrr
  exact sn_node (sn_leafJ (j := j) (b := b) (k := 118) (show qx_sn (qZ E L) 118 (zp (qZ E L) 118 b) (qm_X10_best df L b).1 from tqm_X10_best hd b)) (sn_leafJ (j := j) (b := b) (k := 119) (show qx_sn (qZ E L) 119 (zp (qZ E L) 119 b) (qm_X10_selected df L b).1 from tqm_X10_selected hd b))
theorem tqj_rllllr {df : qe_Df} {L : Nat} {E : qe_E} (hd : qe_dok E.2.2.2 df) (j b : Nat) : qx_sn (dp := dp) (qZ E L) j (zp (qZ E L) j b) (qj_rllllr df L j b).1 := by
  unfold qj_rllllr
  exact sn_node (sn_leafJ (j := j) (b := b) (k := 117) (show qx_sn (qZ E L) 117 (zp (qZ E L) 117 b) (qm_X10_meanBits df L b).1 from tqm_X10_meanBits hd b)) (tqj_rllllrr hd j b)
theorem tqj_rllll {df : qe_Df} {L : Nat} {E : qe_E} (hd : qe_dok E.2.2.2 df) (j b : Nat) : qx_sn (dp := dp) (qZ E L) j (zp (qZ E L) j b) (qj_rllll df L j b).1 := by
  unfold qj_rllll
  exact sn_node (tqj_rlllll hd j b) (tqj_rllllr hd j b)
theorem tqj_rlllrl {df : qe_Df} {L : Nat} {E : qe_E} (hd : qe_dok E.2.2.2 df) (j b : Nat) : qx_sn (dp := dp) (qZ E L) j (zp (qZ E L) j b) (qj_rlllrl df L j b).1 := by
  unfold qj_rlllrl
  exact sn_node (sn_leafJ (j := j) (b := b) (k := 120) (show qx_sn (qZ E L) 120 (zp (qZ E L) 120 b) (qm_X10_hash df L b).1 from tqm_X10_hash hd b)) (sn_leafJ (j := j) (b := b) (k := 121) (show qx_sn (qZ E L) 121 (zp (qZ E L) 121 b) (qm_X10_hasTable df L b).1 from tqm_X10_hasTable hd b))
theorem tqj_rlllrrr {df : qe_Df} {L : Nat} {E : qe_E} (hd : qe_dok E.2.2.2 df) (j b : Nat) : qx_sn (dp := dp) (qZ E L) j (zp (qZ E L) j b) (qj_rlllrrr df L j b).1 := by
  unfold qj_rlllrrr
  exact sn_node (sn_leafJ (j := j) (b := b) (k := 124) (show qx_sn (qZ E L) 124 (zp (qZ E L) 124 b) (qm_X10_slot df L b).1 from tqm_X10_slot hd b)) (sn_leafJ (j := j) (b := b) (k := 125) (show qx_sn (qZ E L) 125 (zp (qZ E L) 125 b) (qm_X10_displacement df L b).1 from tqm_X10_displacement hd b))
theorem tqj_rlllrr {df : qe_Df} {L : Nat} {E : qe_E} (hd : qe_dok E.2.2.2 df) (j b : Nat) : qx_sn (dp := dp) (qZ E L) j (zp (qZ E L) j b) (qj_rlllrr df L j b).1 := by
  unfold qj_rlllrr
  exact sn_node (sn_leafJ (j := j) (b := b) (k := 123) (show qx_sn (qZ E L) 123 (zp (qZ E L) 123 b) (qm_X10_table df L b).1 from tqm_X10_table hd b)) (tqj_rlllrrr hd j b)
theorem tqj_rlllr {df : qe_Df} {L : Nat} {E : qe_E} (hd : qe_dok E.2.2.2 df) (j b : Nat) : qx_sn (dp := dp) (qZ E L) j (zp (qZ E L) j b) (qj_rlllr df L j b).1 := by
  unfold qj_rlllr
  exact sn_node (tqj_rlllrl hd j b) (tqj_rlllrr hd j b)
theorem tqj_rlll {df : qe_Df} {L : Nat} {E : qe_E} (hd : qe_dok E.2.2.2 df) (j b : Nat) : qx_sn (dp := dp) (qZ E L) j (zp (qZ E L) j b) (qj_rlll df L j b).1 := by
  unfold qj_rlll
  exact sn_node (tqj_rllll hd j b) (tqj_rlllr hd j b)
theorem tqj_rllrll {df : qe_Df} {L : Nat} {E : qe_E} (hd : qe_dok E.2.2.2 df) (j b : Nat) : qx_sn (dp := dp) (qZ E L) j (zp (qZ E L) j b) (qj_rllrll df L j b).1 := by
  unfold qj_rllrll
  exact sn_node (sn_leafJ (j := j) (b := b) (k := 126) (show qx_sn (qZ E L) 126 (zp (qZ E L) 126 b) (qm_X10_densityBits df L b).1 from tqm_X10_densityBits hd b)) (sn_leafJ (j := j) (b := b) (k := 132) (show qx_sn (qZ E L) 132 (zp (qZ E L) 132 b) (qm_X10_putTrees df L b).1 from tqm_X10_putTrees hd b))
theorem tqj_rllrlrr {df : qe_Df} {L : Nat} {E : qe_E} (hd : qe_dok E.2.2.2 df) (j b : Nat) : qx_sn (dp := dp) (qZ E L) j (zp (qZ E L) j b) (qj_rllrlrr df L j b).1 := by
  unfold qj_rllrlrr
  exact sn_node (sn_leafJ (j := j) (b := b) (k := 135) (show qx_sn (qZ E L) 135 (zp (qZ E L) 135 b) (qm_X10_listing df L b).1 from tqm_X10_listing hd b)) (sn_leafJ (j := j) (b := b) (k := 136) (show qx_sn (qZ E L) 136 (zp (qZ E L) 136 b) (qm_X10_save df L b).1 from tqm_X10_save hd b))
theorem tqj_rllrlr {df : qe_Df} {L : Nat} {E : qe_E} (hd : qe_dok E.2.2.2 df) (j b : Nat) : qx_sn (dp := dp) (qZ E L) j (zp (qZ E L) j b) (qj_rllrlr df L j b).1 := by
  unfold qj_rllrlr
  exact sn_node (sn_leafJ (j := j) (b := b) (k := 134) (show qx_sn (qZ E L) 134 (zp (qZ E L) 134 b) (qm_X10_list df L b).1 from tqm_X10_list hd b)) (tqj_rllrlrr hd j b)
theorem tqj_rllrl {df : qe_Df} {L : Nat} {E : qe_E} (hd : qe_dok E.2.2.2 df) (j b : Nat) : qx_sn (dp := dp) (qZ E L) j (zp (qZ E L) j b) (qj_rllrl df L j b).1 := by
  unfold qj_rllrl
  exact sn_node (tqj_rllrll hd j b) (tqj_rllrlr hd j b)
theorem tqj_rllrrl {df : qe_Df} {L : Nat} {E : qe_E} (hd : qe_dok E.2.2.2 df) (j b : Nat) : qx_sn (dp := dp) (qZ E L) j (zp (qZ E L) j b) (qj_rllrrl df L j b).1 := by
  unfold qj_rllrrl
  exact sn_node (sn_leafJ (j := j) (b := b) (k := 137) (show qx_sn (qZ E L) 137 (zp (qZ E L) 137 b) (qm_X10_restore df L b).1 from tqm_X10_restore hd b)) (sn_leafJ (j := j) (b := b) (k := 138) (show qx_sn (qZ E L) 138 (zp (qZ E L) 138 b) (qm_X0_init df L b).1 from tqm_X0_init hd b))
theorem tqj_rllrrrr {df : qe_Df} {L : Nat} {E : qe_E} (hd : qe_dok E.2.2.2 df) (j b : Nat) : qx_sn (dp := dp) (qZ E L) j (zp (qZ E L) j b) (qj_rllrrrr df L j b).1 := by
  unfold qj_rllrrrr
  exact sn_node (sn_leafJ (j := j) (b := b) (k := 140) (show qx_sn (qZ E L) 140 (zp (qZ E L) 140 b) (qm_X0_readCommand df L b).1 from tqm_X0_readCommand hd b)) (sn_leafJ (j := j) (b := b) (k := 142) (show qx_sn (qZ E L) 142 (zp (qZ E L) 142 b) (qm_X0_readWord df L b).1 from tqm_X0_readWord hd b))
theorem tqj_rllrrr {df : qe_Df} {L : Nat} {E : qe_E} (hd : qe_dok E.2.2.2 df) (j b : Nat) : qx_sn (dp := dp) (qZ E L) j (zp (qZ E L) j b) (qj_rllrrr df L j b).1 := by
  unfold qj_rllrrr
  exact sn_node (sn_leafJ (j := j) (b := b) (k := 139) (show qx_sn (qZ E L) 139 (zp (qZ E L) 139 b) (qm_X0_read df L b).1 from tqm_X0_read hd b)) (tqj_rllrrrr hd j b)
theorem tqj_rllrr {df : qe_Df} {L : Nat} {E : qe_E} (hd : qe_dok E.2.2.2 df) (j b : Nat) : qx_sn (dp := dp) (qZ E L) j (zp (qZ E L) j b) (qj_rllrr df L j b).1 := by
  unfold qj_rllrr
  exact sn_node (tqj_rllrrl hd j b) (tqj_rllrrr hd j b)
theorem tqj_rllr {df : qe_Df} {L : Nat} {E : qe_E} (hd : qe_dok E.2.2.2 df) (j b : Nat) : qx_sn (dp := dp) (qZ E L) j (zp (qZ E L) j b) (qj_rllr df L j b).1 := by
  unfold qj_rllr
  exact sn_node (tqj_rllrl hd j b) (tqj_rllrr hd j b)
theorem tqj_rll {df : qe_Df} {L : Nat} {E : qe_E} (hd : qe_dok E.2.2.2 df) (j b : Nat) : qx_sn (dp := dp) (qZ E L) j (zp (qZ E L) j b) (qj_rll df L j b).1 := by
  unfold qj_rll
  exact sn_node (tqj_rlll hd j b) (tqj_rllr hd j b)
theorem tqj_rlrlll {df : qe_Df} {L : Nat} {E : qe_E} (hd : qe_dok E.2.2.2 df) (j b : Nat) : qx_sn (dp := dp) (qZ E L) j (zp (qZ E L) j b) (qj_rlrlll df L j b).1 := by
  unfold qj_rlrlll
  exact sn_node (sn_leafJ (j := j) (b := b) (k := 143) (show qx_sn (qZ E L) 143 (zp (qZ E L) 143 b) (qm_X0_isWord df L b).1 from tqm_X0_isWord hd b)) (sn_leafJ (j := j) (b := b) (k := 152) (show qx_sn (qZ E L) 152 (zp (qZ E L) 152 b) (qm_X1_init df L b).1 from tqm_X1_init hd b))
theorem tqj_rlrllrr {df : qe_Df} {L : Nat} {E : qe_E} (hd : qe_dok E.2.2.2 df) (j b : Nat) : qx_sn (dp := dp) (qZ E L) j (zp (qZ E L) j b) (qj_rlrllrr df L j b).1 := by
  unfold qj_rlrllrr
  exact sn_node (sn_leafJ (j := j) (b := b) (k := 157) (show qx_sn (qZ E L) 157 (zp (qZ E L) 157 b) (qm_X1_rootWith df L b).1 from tqm_X1_rootWith hd b)) (sn_leafJ (j := j) (b := b) (k := 158) (show qx_sn (qZ E L) 158 (zp (qZ E L) 158 b) (qm_X1_treeWith df L b).1 from tqm_X1_treeWith hd b))
theorem tqj_rlrllr {df : qe_Df} {L : Nat} {E : qe_E} (hd : qe_dok E.2.2.2 df) (j b : Nat) : qx_sn (dp := dp) (qZ E L) j (zp (qZ E L) j b) (qj_rlrllr df L j b).1 := by
  unfold qj_rlrllr
  exact sn_node (sn_leafJ (j := j) (b := b) (k := 153) (show qx_sn (qZ E L) 153 (zp (qZ E L) 153 b) (qm_X1_grow df L b).1 from tqm_X1_grow hd b)) (tqj_rlrllrr hd j b)
theorem tqj_rlrll {df : qe_Df} {L : Nat} {E : qe_E} (hd : qe_dok E.2.2.2 df) (j b : Nat) : qx_sn (dp := dp) (qZ E L) j (zp (qZ E L) j b) (qj_rlrll df L j b).1 := by
  unfold qj_rlrll
  exact sn_node (tqj_rlrlll hd j b) (tqj_rlrllr hd j b)
theorem tqj_rlrlrl {df : qe_Df} {L : Nat} {E : qe_E} (hd : qe_dok E.2.2.2 df) (j b : Nat) : qx_sn (dp := dp) (qZ E L) j (zp (qZ E L) j b) (qj_rlrlrl df L j b).1 := by
  unfold qj_rlrlrl
  exact sn_node (sn_leafJ (j := j) (b := b) (k := 160) (show qx_sn (qZ E L) 160 (zp (qZ E L) 160 b) (qm_X1_plantRoots df L b).1 from tqm_X1_plantRoots hd b)) (sn_leafJ (j := j) (b := b) (k := 165) (show qx_sn (qZ E L) 165 (zp (qZ E L) 165 b) (qm_X2_init df L b).1 from tqm_X2_init hd b))
theorem tqj_rlrlrrr {df : qe_Df} {L : Nat} {E : qe_E} (hd : qe_dok E.2.2.2 df) (j b : Nat) : qx_sn (dp := dp) (qZ E L) j (zp (qZ E L) j b) (qj_rlrlrrr df L j b).1 := by
  unfold qj_rlrlrrr
  exact sn_node (sn_leafJ (j := j) (b := b) (k := 173) (show qx_sn (qZ E L) 173 (zp (qZ E L) 173 b) (qm_X2_changeLoad df L b).1 from tqm_X2_changeLoad hd b)) (sn_leafJ (j := j) (b := b) (k := 174) (show qx_sn (qZ E L) 174 (zp (qZ E L) 174 b) (qm_X2_takeOver df L b).1 from tqm_X2_takeOver hd b))
theorem tqj_rlrlrr {df : qe_Df} {L : Nat} {E : qe_E} (hd : qe_dok E.2.2.2 df) (j b : Nat) : qx_sn (dp := dp) (qZ E L) j (zp (qZ E L) j b) (qj_rlrlrr df L j b).1 := by
  unfold qj_rlrlrr
  exact sn_node (sn_leafJ (j := j) (b := b) (k := 166) (show qx_sn (qZ E L) 166 (zp (qZ E L) 166 b) (qm_X2_has df L b).1 from tqm_X2_has hd b)) (tqj_rlrlrrr hd j b)
theorem tqj_rlrlr {df : qe_Df} {L : Nat} {E : qe_E} (hd : qe_dok E.2.2.2 df) (j b : Nat) : qx_sn (dp := dp) (qZ E L) j (zp (qZ E L) j b) (qj_rlrlr df L j b).1 := by
  unfold qj_rlrlr
  exact sn_node (tqj_rlrlrl hd j b) (tqj_rlrlrr hd j b)
theorem tqj_rlrl {df : qe_Df} {L : Nat} {E : qe_E} (hd : qe_dok E.2.2.2 df) (j b : Nat) : qx_sn (dp := dp) (qZ E L) j (zp (qZ E L) j b) (qj_rlrl df L j b).1 := by
  unfold qj_rlrl
  exact sn_node (tqj_rlrll hd j b) (tqj_rlrlr hd j b)
theorem tqj_rlrrll {df : qe_Df} {L : Nat} {E : qe_E} (hd : qe_dok E.2.2.2 df) (j b : Nat) : qx_sn (dp := dp) (qZ E L) j (zp (qZ E L) j b) (qj_rlrrll df L j b).1 := by
  unfold qj_rlrrll
  exact sn_node (sn_leafJ (j := j) (b := b) (k := 180) (show qx_sn (qZ E L) 180 (zp (qZ E L) 180 b) (qm_X2_totalWeight df L b).1 from tqm_X2_totalWeight hd b)) (sn_leafJ (j := j) (b := b) (k := 182) (show qx_sn (qZ E L) 182 (zp (qZ E L) 182 b) (qm_X3_init df L b).1 from tqm_X3_init hd b))
theorem tqj_rlrrlrr {df : qe_Df} {L : Nat} {E : qe_E} (hd : qe_dok E.2.2.2 df) (j b : Nat) : qx_sn (dp := dp) (qZ E L) j (zp (qZ E L) j b) (qj_rlrrlrr df L j b).1 := by
  unfold qj_rlrrlrr
  exact sn_node (sn_leafJ (j := j) (b := b) (k := 186) (show qx_sn (qZ E L) 186 (zp (qZ E L) 186 b) (qm_X3_listKeys df L b).1 from tqm_X3_listKeys hd b)) (sn_leafJ (j := j) (b := b) (k := 187) (show qx_sn (qZ E L) 187 (zp (qZ E L) 187 b) (qm_X3_listForest df L b).1 from tqm_X3_listForest hd b))
theorem tqj_rlrrlr {df : qe_Df} {L : Nat} {E : qe_E} (hd : qe_dok E.2.2.2 df) (j b : Nat) : qx_sn (dp := dp) (qZ E L) j (zp (qZ E L) j b) (qj_rlrrlr df L j b).1 := by
  unfold qj_rlrrlr
  exact sn_node (sn_leafJ (j := j) (b := b) (k := 183) (show qx_sn (qZ E L) 183 (zp (qZ E L) 183 b) (qm_X3_list df L b).1 from tqm_X3_list hd b)) (tqj_rlrrlrr hd j b)
theorem tqj_rlrrl {df : qe_Df} {L : Nat} {E : qe_E} (hd : qe_dok E.2.2.2 df) (j b : Nat) : qx_sn (dp := dp) (qZ E L) j (zp (qZ E L) j b) (qj_rlrrl df L j b).1 := by
  unfold qj_rlrrl
  exact sn_node (tqj_rlrrll hd j b) (tqj_rlrrlr hd j b)
theorem tqj_rlrrrlr {df : qe_Df} {L : Nat} {E : qe_E} (hd : qe_dok E.2.2.2 df) (j b : Nat) : qx_sn (dp := dp) (qZ E L) j (zp (qZ E L) j b) (qj_rlrrrlr df L j b).1 := by
  unfold qj_rlrrrlr
  exact sn_node (sn_leafJ (j := j) (b := b) (k := 191) (show qx_sn (qZ E L) 191 (zp (qZ E L) 191 b) (qm_X4_sort df L b).1 from tqm_X4_sort hd b)) (sn_leafJ (j := j) (b := b) (k := 192) (show qx_sn (qZ E L) 192 (zp (qZ E L) 192 b) (qm_X5_init df L b).1 from tqm_X5_init hd b))
theorem tqj_rlrrrl {df : qe_Df} {L : Nat} {E : qe_E} (hd : qe_dok E.2.2.2 df) (j b : Nat) : qx_sn (dp := dp) (qZ E L) j (zp (qZ E L) j b) (qj_rlrrrl df L j b).1 := by
  unfold qj_rlrrrl
  exact sn_node (sn_leafJ (j := j) (b := b) (k := 190) (show qx_sn (qZ E L) 190 (zp (qZ E L) 190 b) (qm_X4_init df L b).1 from tqm_X4_init hd b)) (tqj_rlrrrlr hd j b)
theorem tqj_rlrrrrr {df : qe_Df} {L : Nat} {E : qe_E} (hd : qe_dok E.2.2.2 df) (j b : Nat) : qx_sn (dp := dp) (qZ E L) j (zp (qZ E L) j b) (qj_rlrrrrr df L j b).1 := by
  unfold qj_rlrrrrr
  exact sn_node (sn_leafJ (j := j) (b := b) (k := 194) (show qx_sn (qZ E L) 194 (zp (qZ E L) 194 b) (qm_X5_measure df L b).1 from tqm_X5_measure hd b)) (sn_leafJ (j := j) (b := b) (k := 197) (show qx_sn (qZ E L) 197 (zp (qZ E L) 197 b) (qm_X5_runLinear df L b).1 from tqm_X5_runLinear hd b))
theorem tqj_rlrrrr {df : qe_Df} {L : Nat} {E : qe_E} (hd : qe_dok E.2.2.2 df) (j b : Nat) : qx_sn (dp := dp) (qZ E L) j (zp (qZ E L) j b) (qj_rlrrrr df L j b).1 := by
  unfold qj_rlrrrr
  exact sn_node (sn_leafJ (j := j) (b := b) (k := 193) (show qx_sn (qZ E L) 193 (zp (qZ E L) 193 b) (qm_X5_run df L b).1 from tqm_X5_run hd b)) (tqj_rlrrrrr hd j b)
theorem tqj_rlrrr {df : qe_Df} {L : Nat} {E : qe_E} (hd : qe_dok E.2.2.2 df) (j b : Nat) : qx_sn (dp := dp) (qZ E L) j (zp (qZ E L) j b) (qj_rlrrr df L j b).1 := by
  unfold qj_rlrrr
  exact sn_node (tqj_rlrrrl hd j b) (tqj_rlrrrr hd j b)
theorem tqj_rlrr {df : qe_Df} {L : Nat} {E : qe_E} (hd : qe_dok E.2.2.2 df) (j b : Nat) : qx_sn (dp := dp) (qZ E L) j (zp (qZ E L) j b) (qj_rlrr df L j b).1 := by
  unfold qj_rlrr
  exact sn_node (tqj_rlrrl hd j b) (tqj_rlrrr hd j b)
theorem tqj_rlr {df : qe_Df} {L : Nat} {E : qe_E} (hd : qe_dok E.2.2.2 df) (j b : Nat) : qx_sn (dp := dp) (qZ E L) j (zp (qZ E L) j b) (qj_rlr df L j b).1 := by
  unfold qj_rlr
  exact sn_node (tqj_rlrl hd j b) (tqj_rlrr hd j b)
theorem tqj_rl {df : qe_Df} {L : Nat} {E : qe_E} (hd : qe_dok E.2.2.2 df) (j b : Nat) : qx_sn (dp := dp) (qZ E L) j (zp (qZ E L) j b) (qj_rl df L j b).1 := by
  unfold qj_rl
  exact sn_node (tqj_rll hd j b) (tqj_rlr hd j b)
theorem tqj_rrllll {df : qe_Df} {L : Nat} {E : qe_E} (hd : qe_dok E.2.2.2 df) (j b : Nat) : qx_sn (dp := dp) (qZ E L) j (zp (qZ E L) j b) (qj_rrllll df L j b).1 := by
  unfold qj_rrllll
  exact sn_node (sn_leafJ (j := j) (b := b) (k := 198) (show qx_sn (qZ E L) 198 (zp (qZ E L) 198 b) (qm_X5_runBinary df L b).1 from tqm_X5_runBinary hd b)) (sn_leafJ (j := j) (b := b) (k := 199) (show qx_sn (qZ E L) 199 (zp (qZ E L) 199 b) (qm_X5_runTrees df L b).1 from tqm_X5_runTrees hd b))
theorem tqj_rrlllrr {df : qe_Df} {L : Nat} {E : qe_E} (hd : qe_dok E.2.2.2 df) (j b : Nat) : qx_sn (dp := dp) (qZ E L) j (zp (qZ E L) j b) (qj_rrlllrr df L j b).1 := by
  unfold qj_rrlllrr
  exact sn_node (sn_leafJ (j := j) (b := b) (k := 202) (show qx_sn (qZ E L) 202 (zp (qZ E L) 202 b) (qm_X6_init df L b).1 from tqm_X6_init hd b)) (sn_leafJ (j := j) (b := b) (k := 203) (show qx_sn (qZ E L) 203 (zp (qZ E L) 203 b) (qm_X6_choose df L b).1 from tqm_X6_choose hd b))
theorem tqj_rrlllr {df : qe_Df} {L : Nat} {E : qe_E} (hd : qe_dok E.2.2.2 df) (j b : Nat) : qx_sn (dp := dp) (qZ E L) j (zp (qZ E L) j b) (qj_rrlllr df L j b).1 := by
  unfold qj_rrlllr
  exact sn_node (sn_leafJ (j := j) (b := b) (k := 201) (show qx_sn (qZ E L) 201 (zp (qZ E L) 201 b) (qm_X5_runTable df L b).1 from tqm_X5_runTable hd b)) (tqj_rrlllrr hd j b)
theorem tqj_rrlll {df : qe_Df} {L : Nat} {E : qe_E} (hd : qe_dok E.2.2.2 df) (j b : Nat) : qx_sn (dp := dp) (qZ E L) j (zp (qZ E L) j b) (qj_rrlll df L j b).1 := by
  unfold qj_rrlll
  exact sn_node (tqj_rrllll hd j b) (tqj_rrlllr hd j b)
theorem tqj_rrllrl {df : qe_Df} {L : Nat} {E : qe_E} (hd : qe_dok E.2.2.2 df) (j b : Nat) : qx_sn (dp := dp) (qZ E L) j (zp (qZ E L) j b) (qj_rrllrl df L j b).1 := by
  unfold qj_rrllrl
  exact sn_node (sn_leafJ (j := j) (b := b) (k := 204) (show qx_sn (qZ E L) 204 (zp (qZ E L) 204 b) (qm_X6_turned df L b).1 from tqm_X6_turned hd b)) (sn_leafJ (j := j) (b := b) (k := 205) (show qx_sn (qZ E L) 205 (zp (qZ E L) 205 b) (qm_X6_collectPairs df L b).1 from tqm_X6_collectPairs hd b))
theorem tqj_rrllrrr {df : qe_Df} {L : Nat} {E : qe_E} (hd : qe_dok E.2.2.2 df) (j b : Nat) : qx_sn (dp := dp) (qZ E L) j (zp (qZ E L) j b) (qj_rrllrrr df L j b).1 := by
  unfold qj_rrllrrr
  exact sn_node (sn_leafJ (j := j) (b := b) (k := 207) (show qx_sn (qZ E L) 207 (zp (qZ E L) 207 b) (qm_X6_hashOf df L b).1 from tqm_X6_hashOf hd b)) (sn_leafJ (j := j) (b := b) (k := 208) (show qx_sn (qZ E L) 208 (zp (qZ E L) 208 b) (qm_X7_init df L b).1 from tqm_X7_init hd b))
theorem tqj_rrllrr {df : qe_Df} {L : Nat} {E : qe_E} (hd : qe_dok E.2.2.2 df) (j b : Nat) : qx_sn (dp := dp) (qZ E L) j (zp (qZ E L) j b) (qj_rrllrr df L j b).1 := by
  unfold qj_rrllrr
  exact sn_node (sn_leafJ (j := j) (b := b) (k := 206) (show qx_sn (qZ E L) 206 (zp (qZ E L) 206 b) (qm_X6_separates df L b).1 from tqm_X6_separates hd b)) (tqj_rrllrrr hd j b)
theorem tqj_rrllr {df : qe_Df} {L : Nat} {E : qe_E} (hd : qe_dok E.2.2.2 df) (j b : Nat) : qx_sn (dp := dp) (qZ E L) j (zp (qZ E L) j b) (qj_rrllr df L j b).1 := by
  unfold qj_rrllr
  exact sn_node (tqj_rrllrl hd j b) (tqj_rrllrr hd j b)
theorem tqj_rrll {df : qe_Df} {L : Nat} {E : qe_E} (hd : qe_dok E.2.2.2 df) (j b : Nat) : qx_sn (dp := dp) (qZ E L) j (zp (qZ E L) j b) (qj_rrll df L j b).1 := by
  unfold qj_rrll
  exact sn_node (tqj_rrlll hd j b) (tqj_rrllr hd j b)
theorem tqj_rrlrll {df : qe_Df} {L : Nat} {E : qe_E} (hd : qe_dok E.2.2.2 df) (j b : Nat) : qx_sn (dp := dp) (qZ E L) j (zp (qZ E L) j b) (qj_rrlrll df L j b).1 := by
  unfold qj_rrlrll
  exact sn_node (sn_leafJ (j := j) (b := b) (k := 209) (show qx_sn (qZ E L) 209 (zp (qZ E L) 209 b) (qm_X7_build df L b).1 from tqm_X7_build hd b)) (sn_leafJ (j := j) (b := b) (k := 218) (show qx_sn (qZ E L) 218 (zp (qZ E L) 218 b) (qm_X8_init df L b).1 from tqm_X8_init hd b))
theorem tqj_rrlrlrr {df : qe_Df} {L : Nat} {E : qe_E} (hd : qe_dok E.2.2.2 df) (j b : Nat) : qx_sn (dp := dp) (qZ E L) j (zp (qZ E L) j b) (qj_rrlrlrr df L j b).1 := by
  unfold qj_rrlrlrr
  exact sn_node (sn_leafJ (j := j) (b := b) (k := 221) (show qx_sn (qZ E L) 221 (zp (qZ E L) 221 b) (qm_X8_write df L b).1 from tqm_X8_write hd b)) (sn_leafJ (j := j) (b := b) (k := 224) (show qx_sn (qZ E L) 224 (zp (qZ E L) 224 b) (qm_X8_isKey df L b).1 from tqm_X8_isKey hd b))
theorem tqj_rrlrlr {df : qe_Df} {L : Nat} {E : qe_E} (hd : qe_dok E.2.2.2 df) (j b : Nat) : qx_sn (dp := dp) (qZ E L) j (zp (qZ E L) j b) (qj_rrlrlr df L j b).1 := by
  unfold qj_rrlrlr
  exact sn_node (sn_leafJ (j := j) (b := b) (k := 219) (show qx_sn (qZ E L) 219 (zp (qZ E L) 219 b) (qm_X8_empty df L b).1 from tqm_X8_empty hd b)) (tqj_rrlrlrr hd j b)
theorem tqj_rrlrl {df : qe_Df} {L : Nat} {E : qe_E} (hd : qe_dok E.2.2.2 df) (j b : Nat) : qx_sn (dp := dp) (qZ E L) j (zp (qZ E L) j b) (qj_rrlrl df L j b).1 := by
  unfold qj_rrlrl
  exact sn_node (tqj_rrlrll hd j b) (tqj_rrlrlr hd j b)
theorem tqj_rrlrrl {df : qe_Df} {L : Nat} {E : qe_E} (hd : qe_dok E.2.2.2 df) (j b : Nat) : qx_sn (dp := dp) (qZ E L) j (zp (qZ E L) j b) (qj_rrlrrl df L j b).1 := by
  unfold qj_rrlrrl
  exact sn_node (sn_leafJ (j := j) (b := b) (k := 225) (show qx_sn (qZ E L) 225 (zp (qZ E L) 225 b) (qm_L_append df L b).1 from tqm_L_append hd b)) (sn_leafJ (j := j) (b := b) (k := 226) (show qx_sn (qZ E L) 226 (zp (qZ E L) 226 b) (qm_L_add df L b).1 from tqm_L_add hd b))
theorem tqj_rrlrrrr {df : qe_Df} {L : Nat} {E : qe_E} (hd : qe_dok E.2.2.2 df) (j b : Nat) : qx_sn (dp := dp) (qZ E L) j (zp (qZ E L) j b) (qj_rrlrrrr df L j b).1 := by
  unfold qj_rrlrrrr
  exact sn_node (sn_leafJ (j := j) (b := b) (k := 228) (show qx_sn (qZ E L) 228 (zp (qZ E L) 228 b) (qm_L_setBranch df L b).1 from tqm_L_setBranch hd b)) (sn_leafJ (j := j) (b := b) (k := 229) (show qx_sn (qZ E L) 229 (zp (qZ E L) 229 b) (qm_L_setWeight df L b).1 from tqm_L_setWeight hd b))
theorem tqj_rrlrrr {df : qe_Df} {L : Nat} {E : qe_E} (hd : qe_dok E.2.2.2 df) (j b : Nat) : qx_sn (dp := dp) (qZ E L) j (zp (qZ E L) j b) (qj_rrlrrr df L j b).1 := by
  unfold qj_rrlrrr
  exact sn_node (sn_leafJ (j := j) (b := b) (k := 227) (show qx_sn (qZ E L) 227 (zp (qZ E L) 227 b) (qm_L_remove df L b).1 from tqm_L_remove hd b)) (tqj_rrlrrrr hd j b)
theorem tqj_rrlrr {df : qe_Df} {L : Nat} {E : qe_E} (hd : qe_dok E.2.2.2 df) (j b : Nat) : qx_sn (dp := dp) (qZ E L) j (zp (qZ E L) j b) (qj_rrlrr df L j b).1 := by
  unfold qj_rrlrr
  exact sn_node (tqj_rrlrrl hd j b) (tqj_rrlrrr hd j b)
theorem tqj_rrlr {df : qe_Df} {L : Nat} {E : qe_E} (hd : qe_dok E.2.2.2 df) (j b : Nat) : qx_sn (dp := dp) (qZ E L) j (zp (qZ E L) j b) (qj_rrlr df L j b).1 := by
  unfold qj_rrlr
  exact sn_node (tqj_rrlrl hd j b) (tqj_rrlrr hd j b)
theorem tqj_rrl {df : qe_Df} {L : Nat} {E : qe_E} (hd : qe_dok E.2.2.2 df) (j b : Nat) : qx_sn (dp := dp) (qZ E L) j (zp (qZ E L) j b) (qj_rrl df L j b).1 := by
  unfold qj_rrl
  exact sn_node (tqj_rrll hd j b) (tqj_rrlr hd j b)
theorem tqj_rrrlll {df : qe_Df} {L : Nat} {E : qe_E} (hd : qe_dok E.2.2.2 df) (j b : Nat) : qx_sn (dp := dp) (qZ E L) j (zp (qZ E L) j b) (qj_rrrlll df L j b).1 := by
  unfold qj_rrrlll
  exact sn_node (sn_leafJ (j := j) (b := b) (k := 230) (show qx_sn (qZ E L) 230 (zp (qZ E L) 230 b) (qm_L_setLoad df L b).1 from tqm_L_setLoad hd b)) (sn_leafJ (j := j) (b := b) (k := 231) (show qx_sn (qZ E L) 231 (zp (qZ E L) 231 b) (qm_L_execute df L b).1 from tqm_L_execute hd b))
theorem tqj_rrrllrr {df : qe_Df} {L : Nat} {E : qe_E} (hd : qe_dok E.2.2.2 df) (j b : Nat) : qx_sn (dp := dp) (qZ E L) j (zp (qZ E L) j b) (qj_rrrllrr df L j b).1 := by
  unfold qj_rrrllrr
  exact sn_node (sn_leafJ (j := j) (b := b) (k := 233) (show qx_sn (qZ E L) 233 (zp (qZ E L) 233 b) (qm_L_character df L b).1 from tqm_L_character hd b)) (sn_leafJ (j := j) (b := b) (k := 234) (show qx_sn (qZ E L) 234 (zp (qZ E L) 234 b) (qm_L_difference df L b).1 from tqm_L_difference hd b))
theorem tqj_rrrllr {df : qe_Df} {L : Nat} {E : qe_E} (hd : qe_dok E.2.2.2 df) (j b : Nat) : qx_sn (dp := dp) (qZ E L) j (zp (qZ E L) j b) (qj_rrrllr df L j b).1 := by
  unfold qj_rrrllr
  exact sn_node (sn_leafJ (j := j) (b := b) (k := 232) (show qx_sn (qZ E L) 232 (zp (qZ E L) 232 b) (qm_L_property df L b).1 from tqm_L_property hd b)) (tqj_rrrllrr hd j b)
theorem tqj_rrrll {df : qe_Df} {L : Nat} {E : qe_E} (hd : qe_dok E.2.2.2 df) (j b : Nat) : qx_sn (dp := dp) (qZ E L) j (zp (qZ E L) j b) (qj_rrrll df L j b).1 := by
  unfold qj_rrrll
  exact sn_node (tqj_rrrlll hd j b) (tqj_rrrllr hd j b)
theorem tqj_rrrlrl {df : qe_Df} {L : Nat} {E : qe_E} (hd : qe_dok E.2.2.2 df) (j b : Nat) : qx_sn (dp := dp) (qZ E L) j (zp (qZ E L) j b) (qj_rrrlrl df L j b).1 := by
  unfold qj_rrrlrl
  exact sn_node (sn_leafJ (j := j) (b := b) (k := 235) (show qx_sn (qZ E L) 235 (zp (qZ E L) 235 b) (qm_L_size df L b).1 from tqm_L_size hd b)) (sn_leafJ (j := j) (b := b) (k := 236) (show qx_sn (qZ E L) 236 (zp (qZ E L) 236 b) (qm_L_find df L b).1 from tqm_L_find hd b))
theorem tqj_rrrlrrr {df : qe_Df} {L : Nat} {E : qe_E} (hd : qe_dok E.2.2.2 df) (j b : Nat) : qx_sn (dp := dp) (qZ E L) j (zp (qZ E L) j b) (qj_rrrlrrr df L j b).1 := by
  unfold qj_rrrlrrr
  exact sn_node (sn_leafJ (j := j) (b := b) (k := 238) (show qx_sn (qZ E L) 238 (zp (qZ E L) 238 b) (qm_L_examined df L b).1 from tqm_L_examined hd b)) (sn_leafJ (j := j) (b := b) (k := 239) (show qx_sn (qZ E L) 239 (zp (qZ E L) 239 b) (qm_L_cost df L b).1 from tqm_L_cost hd b))
theorem tqj_rrrlrr {df : qe_Df} {L : Nat} {E : qe_E} (hd : qe_dok E.2.2.2 df) (j b : Nat) : qx_sn (dp := dp) (qZ E L) j (zp (qZ E L) j b) (qj_rrrlrr df L j b).1 := by
  unfold qj_rrrlrr
  exact sn_node (sn_leafJ (j := j) (b := b) (k := 237) (show qx_sn (qZ E L) 237 (zp (qZ E L) 237 b) (qm_L_branch df L b).1 from tqm_L_branch hd b)) (tqj_rrrlrrr hd j b)
theorem tqj_rrrlr {df : qe_Df} {L : Nat} {E : qe_E} (hd : qe_dok E.2.2.2 df) (j b : Nat) : qx_sn (dp := dp) (qZ E L) j (zp (qZ E L) j b) (qj_rrrlr df L j b).1 := by
  unfold qj_rrrlr
  exact sn_node (tqj_rrrlrl hd j b) (tqj_rrrlrr hd j b)
theorem tqj_rrrl {df : qe_Df} {L : Nat} {E : qe_E} (hd : qe_dok E.2.2.2 df) (j b : Nat) : qx_sn (dp := dp) (qZ E L) j (zp (qZ E L) j b) (qj_rrrl df L j b).1 := by
  unfold qj_rrrl
  exact sn_node (tqj_rrrll hd j b) (tqj_rrrlr hd j b)
theorem tqj_rrrrll {df : qe_Df} {L : Nat} {E : qe_E} (hd : qe_dok E.2.2.2 df) (j b : Nat) : qx_sn (dp := dp) (qZ E L) j (zp (qZ E L) j b) (qj_rrrrll df L j b).1 := by
  unfold qj_rrrrll
  exact sn_node (sn_leafJ (j := j) (b := b) (k := 240) (show qx_sn (qZ E L) 240 (zp (qZ E L) 240 b) (qm_L_worst df L b).1 from tqm_L_worst hd b)) (sn_leafJ (j := j) (b := b) (k := 241) (show qx_sn (qZ E L) 241 (zp (qZ E L) 241 b) (qm_L_meanBits df L b).1 from tqm_L_meanBits hd b))
theorem tqj_rrrrlrr {df : qe_Df} {L : Nat} {E : qe_E} (hd : qe_dok E.2.2.2 df) (j b : Nat) : qx_sn (dp := dp) (qZ E L) j (zp (qZ E L) j b) (qj_rrrrlrr df L j b).1 := by
  unfold qj_rrrrlrr
  exact sn_node (sn_leafJ (j := j) (b := b) (k := 243) (show qx_sn (qZ E L) 243 (zp (qZ E L) 243 b) (qm_L_table df L b).1 from tqm_L_table hd b)) (sn_leafJ (j := j) (b := b) (k := 244) (show qx_sn (qZ E L) 244 (zp (qZ E L) 244 b) (qm_L_slot df L b).1 from tqm_L_slot hd b))
theorem tqj_rrrrlr {df : qe_Df} {L : Nat} {E : qe_E} (hd : qe_dok E.2.2.2 df) (j b : Nat) : qx_sn (dp := dp) (qZ E L) j (zp (qZ E L) j b) (qj_rrrrlr df L j b).1 := by
  unfold qj_rrrrlr
  exact sn_node (sn_leafJ (j := j) (b := b) (k := 242) (show qx_sn (qZ E L) 242 (zp (qZ E L) 242 b) (qm_L_trees df L b).1 from tqm_L_trees hd b)) (tqj_rrrrlrr hd j b)
theorem tqj_rrrrl {df : qe_Df} {L : Nat} {E : qe_E} (hd : qe_dok E.2.2.2 df) (j b : Nat) : qx_sn (dp := dp) (qZ E L) j (zp (qZ E L) j b) (qj_rrrrl df L j b).1 := by
  unfold qj_rrrrl
  exact sn_node (tqj_rrrrll hd j b) (tqj_rrrrlr hd j b)
theorem tqj_rrrrrlr {df : qe_Df} {L : Nat} {E : qe_E} (hd : qe_dok E.2.2.2 df) (j b : Nat) : qx_sn (dp := dp) (qZ E L) j (zp (qZ E L) j b) (qj_rrrrrlr df L j b).1 := by
  unfold qj_rrrrrlr
  exact sn_node (sn_leafJ (j := j) (b := b) (k := 246) (show qx_sn (qZ E L) 246 (zp (qZ E L) 246 b) (qm_L_densityBits df L b).1 from tqm_L_densityBits hd b)) (sn_leafJ (j := j) (b := b) (k := 247) (show qx_sn (qZ E L) 247 (zp (qZ E L) 247 b) (qm_L_listing df L b).1 from tqm_L_listing hd b))
theorem tqj_rrrrrl {df : qe_Df} {L : Nat} {E : qe_E} (hd : qe_dok E.2.2.2 df) (j b : Nat) : qx_sn (dp := dp) (qZ E L) j (zp (qZ E L) j b) (qj_rrrrrl df L j b).1 := by
  unfold qj_rrrrrl
  exact sn_node (sn_leafJ (j := j) (b := b) (k := 245) (show qx_sn (qZ E L) 245 (zp (qZ E L) 245 b) (qm_L_displacement df L b).1 from tqm_L_displacement hd b)) (tqj_rrrrrlr hd j b)
theorem tqj_rrrrrrr {df : qe_Df} {L : Nat} {E : qe_E} (hd : qe_dok E.2.2.2 df) (j b : Nat) : qx_sn (dp := dp) (qZ E L) j (zp (qZ E L) j b) (qj_rrrrrrr df L j b).1 := by
  unfold qj_rrrrrrr
  exact sn_node (sn_leafJ (j := j) (b := b) (k := 249) (show qx_sn (qZ E L) 249 (zp (qZ E L) 249 b) (qm_L_law df L b).1 from tqm_L_law hd b)) (sn_leafJ (j := j) (b := b) (k := 250) (show qx_sn (qZ E L) 250 (zp (qZ E L) 250 b) (qm_J6_bitCount_0f7a4 df L b).1 from tqm_J6_bitCount_0f7a4 hd b))
theorem tqj_rrrrrr {df : qe_Df} {L : Nat} {E : qe_E} (hd : qe_dok E.2.2.2 df) (j b : Nat) : qx_sn (dp := dp) (qZ E L) j (zp (qZ E L) j b) (qj_rrrrrr df L j b).1 := by
  unfold qj_rrrrrr
  exact sn_node (sn_leafJ (j := j) (b := b) (k := 248) (show qx_sn (qZ E L) 248 (zp (qZ E L) 248 b) (qm_L_restore df L b).1 from tqm_L_restore hd b)) (tqj_rrrrrrr hd j b)
theorem tqj_rrrrr {df : qe_Df} {L : Nat} {E : qe_E} (hd : qe_dok E.2.2.2 df) (j b : Nat) : qx_sn (dp := dp) (qZ E L) j (zp (qZ E L) j b) (qj_rrrrr df L j b).1 := by
  unfold qj_rrrrr
  exact sn_node (tqj_rrrrrl hd j b) (tqj_rrrrrr hd j b)
theorem tqj_rrrr {df : qe_Df} {L : Nat} {E : qe_E} (hd : qe_dok E.2.2.2 df) (j b : Nat) : qx_sn (dp := dp) (qZ E L) j (zp (qZ E L) j b) (qj_rrrr df L j b).1 := by
  unfold qj_rrrr
  exact sn_node (tqj_rrrrl hd j b) (tqj_rrrrr hd j b)
theorem tqj_rrr {df : qe_Df} {L : Nat} {E : qe_E} (hd : qe_dok E.2.2.2 df) (j b : Nat) : qx_sn (dp := dp) (qZ E L) j (zp (qZ E L) j b) (qj_rrr df L j b).1 := by
  unfold qj_rrr
  exact sn_node (tqj_rrrl hd j b) (tqj_rrrr hd j b)
theorem tqj_rr {df : qe_Df} {L : Nat} {E : qe_E} (hd : qe_dok E.2.2.2 df) (j b : Nat) : qx_sn (dp := dp) (qZ E L) j (zp (qZ E L) j b) (qj_rr df L j b).1 := by
  unfold qj_rr
  exact sn_node (tqj_rrl hd j b) (tqj_rrr hd j b)
theorem tqj_r {df : qe_Df} {L : Nat} {E : qe_E} (hd : qe_dok E.2.2.2 df) (j b : Nat) : qx_sn (dp := dp) (qZ E L) j (zp (qZ E L) j b) (qj_r df L j b).1 := by
  unfold qj_r
  exact sn_node (tqj_rl hd j b) (tqj_rr hd j b)
theorem tqj_ {df : qe_Df} {L : Nat} {E : qe_E} (hd : qe_dok E.2.2.2 df) (j b : Nat) : qx_sn (dp := dp) (qZ E L) j (zp (qZ E L) j b) (qj_ df L j b).1 := by
  unfold qj_
  exact sn_node (tqj_l hd j b) (tqj_r hd j b)
theorem tq_P {df : qe_Df} {L : Nat} {E : qe_E} (hd : qe_dok E.2.2.2 df) (j b : Nat) : qx_sn (dp := dp) (qZ E L) j (zp (qZ E L) j b) (qd_P df L j b).1 := (tqj_ hd j b)
theorem tq_c {b m x y : Nat} (hx : x = 0) (hy : y = 0) : cond (Nat.blt b m) x y = 0 := by
  cases Nat.blt b m
  · exact hy
  · exact hx
theorem tq0_X9_init : qp_X9_init 0 = 0 := by decide +kernel
theorem tq0_X9_append : qp_X9_append 0 = 0 := by decide +kernel
theorem tq0_X9_clear : qp_X9_clear 0 = 0 := by decide +kernel
theorem tq0_X9_add : qp_X9_add 0 = 0 := by decide +kernel
theorem tq0_X9_remove : qp_X9_remove 0 = 0 := by decide +kernel
theorem tq0_X9_setBranch : qp_X9_setBranch 0 = 0 := by decide +kernel
theorem tq0_X9_setWeight : qp_X9_setWeight 0 = 0 := by decide +kernel
theorem tq0_X9_setLoad : qp_X9_setLoad 0 = 0 := by decide +kernel
theorem tq0_X9_execute : qp_X9_execute 0 = 0 := by decide +kernel
theorem tq0_X9_errorPosition : qp_X9_errorPosition 0 = 0 := by decide +kernel
theorem tq0_X9_property : qp_X9_property 0 = 0 := by decide +kernel
theorem tq0_X9_character : qp_X9_character 0 = 0 := by decide +kernel
theorem tq0_X9_difference : qp_X9_difference 0 = 0 := by decide +kernel
theorem tq0_X9_size : qp_X9_size 0 = 0 := by decide +kernel
theorem tq0_X9_find : qp_X9_find 0 = 0 := by decide +kernel
theorem tq0_X9_branch : qp_X9_branch 0 = 0 := by decide +kernel
theorem tq0_X9_examined : qp_X9_examined 0 = 0 := by decide +kernel
theorem tq0_X9_cost : qp_X9_cost 0 = 0 := by decide +kernel
theorem tq0_X9_worst : qp_X9_worst 0 = 0 := by decide +kernel
theorem tq0_X9_meanBits : qp_X9_meanBits 0 = 0 := by decide +kernel
theorem tq0_X9_best : qp_X9_best 0 = 0 := by decide +kernel
theorem tq0_X9_trees : qp_X9_trees 0 = 0 := by decide +kernel
theorem tq0_X9_selected : qp_X9_selected 0 = 0 := by decide +kernel
theorem tq0_X9_hash : qp_X9_hash 0 = 0 := by decide +kernel
theorem tq0_X9_table : qp_X9_table 0 = 0 := by decide +kernel
theorem tq0_X9_slot : qp_X9_slot 0 = 0 := by decide +kernel
theorem tq0_X9_displacement : qp_X9_displacement 0 = 0 := by decide +kernel
theorem tq0_X9_densityBits : qp_X9_densityBits 0 = 0 := by decide +kernel
theorem tq0_X9_listing : qp_X9_listing 0 = 0 := by decide +kernel
theorem tq0_X9_save : qp_X9_save 0 = 0 := by decide +kernel
theorem tq0_X9_restore : qp_X9_restore 0 = 0 := by decide +kernel
theorem tq0_X9_requireKey : qp_X9_requireKey 0 = 0 := by decide +kernel
theorem tq0_X9_requireStrategy : qp_X9_requireStrategy 0 = 0 := by decide +kernel
theorem tq0_X9_requireRunnable : qp_X9_requireRunnable 0 = 0 := by decide +kernel
theorem tq0_X9_requireTable : qp_X9_requireTable 0 = 0 := by decide +kernel
theorem tq0_X9_canRun : qp_X9_canRun 0 = 0 := by decide +kernel
theorem tq0_X9_prepare : qp_X9_prepare 0 = 0 := by decide +kernel
theorem tq0_X9_put : qp_X9_put 0 = 0 := by decide +kernel
theorem tq0_X9_copy : qp_X9_copy 0 = 0 := by decide +kernel
theorem tq0_X9_contains : qp_X9_contains 0 = 0 := by decide +kernel
theorem tq0_X10_init : qp_X10_init 0 = 0 := by decide +kernel
theorem tq0_X10_thrown : qp_X10_thrown 0 = 0 := by decide +kernel
theorem tq0_X10_in : qp_X10_in 0 = 0 := by decide +kernel
theorem tq0_X10_isKey : qp_X10_isKey 0 = 0 := by decide +kernel
theorem tq0_X10_append : qp_X10_append 0 = 0 := by decide +kernel
theorem tq0_X10_clear : qp_X10_clear 0 = 0 := by decide +kernel
theorem tq0_X10_add : qp_X10_add 0 = 0 := by decide +kernel
theorem tq0_X10_remove : qp_X10_remove 0 = 0 := by decide +kernel
theorem tq0_X10_setBranch : qp_X10_setBranch 0 = 0 := by decide +kernel
theorem tq0_X10_setWeight : qp_X10_setWeight 0 = 0 := by decide +kernel
theorem tq0_X10_setLoad : qp_X10_setLoad 0 = 0 := by decide +kernel
theorem tq0_X10_here : qp_X10_here 0 = 0 := by decide +kernel
theorem tq0_X10_isWord : qp_X10_isWord 0 = 0 := by decide +kernel
theorem tq0_X10_word : qp_X10_word 0 = 0 := by decide +kernel
theorem tq0_X10_readCommand : qp_X10_readCommand 0 = 0 := by decide +kernel
theorem tq0_X10_execute : qp_X10_execute 0 = 0 := by decide +kernel
theorem tq0_X10_errorPosition : qp_X10_errorPosition 0 = 0 := by decide +kernel
theorem tq0_X10_property : qp_X10_property 0 = 0 := by decide +kernel
theorem tq0_X10_character : qp_X10_character 0 = 0 := by decide +kernel
theorem tq0_X10_difference : qp_X10_difference 0 = 0 := by decide +kernel
theorem tq0_X10_size : qp_X10_size 0 = 0 := by decide +kernel
theorem tq0_X10_takeBuffer : qp_X10_takeBuffer 0 = 0 := by decide +kernel
theorem tq0_X10_linear : qp_X10_linear 0 = 0 := by decide +kernel
theorem tq0_X10_search : qp_X10_search 0 = 0 := by decide +kernel
theorem tq0_X10_marked : qp_X10_marked 0 = 0 := by decide +kernel
theorem tq0_X10_ofLength : qp_X10_ofLength 0 = 0 := by decide +kernel
theorem tq0_X10_climb : qp_X10_climb 0 = 0 := by decide +kernel
theorem tq0_X10_trees : qp_X10_trees 0 = 0 := by decide +kernel
theorem tq0_X10_separates : qp_X10_separates 0 = 0 := by decide +kernel
theorem tq0_X10_sizeOf : qp_X10_sizeOf 0 = 0 := by decide +kernel
theorem tq0_X10_select : qp_X10_select 0 = 0 := by decide +kernel
theorem tq0_X10_hashOfText : qp_X10_hashOfText 0 = 0 := by decide +kernel
theorem tq0_X10_prepare : qp_X10_prepare 0 = 0 := by decide +kernel
theorem tq0_X10_hashed : qp_X10_hashed 0 = 0 := by decide +kernel
theorem tq0_X10_canRun : qp_X10_canRun 0 = 0 := by decide +kernel
theorem tq0_X10_refusal : qp_X10_refusal 0 = 0 := by decide +kernel
theorem tq0_X10_run : qp_X10_run 0 = 0 := by decide +kernel
theorem tq0_X10_find : qp_X10_find 0 = 0 := by decide +kernel
theorem tq0_X10_branch : qp_X10_branch 0 = 0 := by decide +kernel
theorem tq0_X10_examined : qp_X10_examined 0 = 0 := by decide +kernel
theorem tq0_X10_costOf : qp_X10_costOf 0 = 0 := by decide +kernel
theorem tq0_X10_cost : qp_X10_cost 0 = 0 := by decide +kernel
theorem tq0_X10_worst : qp_X10_worst 0 = 0 := by decide +kernel
theorem tq0_X10_meanBits : qp_X10_meanBits 0 = 0 := by decide +kernel
theorem tq0_X10_best : qp_X10_best 0 = 0 := by decide +kernel
theorem tq0_X10_selected : qp_X10_selected 0 = 0 := by decide +kernel
theorem tq0_X10_hash : qp_X10_hash 0 = 0 := by decide +kernel
theorem tq0_X10_hasTable : qp_X10_hasTable 0 = 0 := by decide +kernel
theorem tq0_X10_table : qp_X10_table 0 = 0 := by decide +kernel
theorem tq0_X10_slot : qp_X10_slot 0 = 0 := by decide +kernel
theorem tq0_X10_displacement : qp_X10_displacement 0 = 0 := by decide +kernel
theorem tq0_X10_densityBits : qp_X10_densityBits 0 = 0 := by decide +kernel
theorem tq0_X10_putTrees : qp_X10_putTrees 0 = 0 := by decide +kernel
theorem tq0_X10_list : qp_X10_list 0 = 0 := by decide +kernel
theorem tq0_X10_listing : qp_X10_listing 0 = 0 := by decide +kernel
theorem tq0_X10_save : qp_X10_save 0 = 0 := by decide +kernel
theorem tq0_X10_restore : qp_X10_restore 0 = 0 := by decide +kernel
theorem tq0_X0_init : qp_X0_init 0 = 0 := by decide +kernel
theorem tq0_X0_read : qp_X0_read 0 = 0 := by decide +kernel
theorem tq0_X0_readCommand : qp_X0_readCommand 0 = 0 := by decide +kernel
theorem tq0_X0_readWord : qp_X0_readWord 0 = 0 := by decide +kernel
theorem tq0_X0_isWord : qp_X0_isWord 0 = 0 := by decide +kernel
theorem tq0_X1_init : qp_X1_init 0 = 0 := by decide +kernel
theorem tq0_X1_grow : qp_X1_grow 0 = 0 := by decide +kernel
theorem tq0_X1_rootWith : qp_X1_rootWith 0 = 0 := by decide +kernel
theorem tq0_X1_treeWith : qp_X1_treeWith 0 = 0 := by decide +kernel
theorem tq0_X1_plantRoots : qp_X1_plantRoots 0 = 0 := by decide +kernel
theorem tq0_X2_init : qp_X2_init 0 = 0 := by decide +kernel
theorem tq0_X2_has : qp_X2_has 0 = 0 := by decide +kernel
theorem tq0_X2_changeLoad : qp_X2_changeLoad 0 = 0 := by decide +kernel
theorem tq0_X2_takeOver : qp_X2_takeOver 0 = 0 := by decide +kernel
theorem tq0_X2_totalWeight : qp_X2_totalWeight 0 = 0 := by decide +kernel
theorem tq0_X3_init : qp_X3_init 0 = 0 := by decide +kernel
theorem tq0_X3_list : qp_X3_list 0 = 0 := by decide +kernel
theorem tq0_X3_listKeys : qp_X3_listKeys 0 = 0 := by decide +kernel
theorem tq0_X3_listForest : qp_X3_listForest 0 = 0 := by decide +kernel
theorem tq0_X4_init : qp_X4_init 0 = 0 := by decide +kernel
theorem tq0_X4_sort : qp_X4_sort 0 = 0 := by decide +kernel
theorem tq0_X5_init : qp_X5_init 0 = 0 := by decide +kernel
theorem tq0_X5_run : qp_X5_run 0 = 0 := by decide +kernel
theorem tq0_X5_measure : qp_X5_measure 0 = 0 := by decide +kernel
theorem tq0_X5_runLinear : qp_X5_runLinear 0 = 0 := by decide +kernel
theorem tq0_X5_runBinary : qp_X5_runBinary 0 = 0 := by decide +kernel
theorem tq0_X5_runTrees : qp_X5_runTrees 0 = 0 := by decide +kernel
theorem tq0_X5_runTable : qp_X5_runTable 0 = 0 := by decide +kernel
theorem tq0_X6_init : qp_X6_init 0 = 0 := by decide +kernel
theorem tq0_X6_choose : qp_X6_choose 0 = 0 := by decide +kernel
theorem tq0_X6_turned : qp_X6_turned 0 = 0 := by decide +kernel
theorem tq0_X6_collectPairs : qp_X6_collectPairs 0 = 0 := by decide +kernel
theorem tq0_X6_separates : qp_X6_separates 0 = 0 := by decide +kernel
theorem tq0_X6_hashOf : qp_X6_hashOf 0 = 0 := by decide +kernel
theorem tq0_X7_init : qp_X7_init 0 = 0 := by decide +kernel
theorem tq0_X7_build : qp_X7_build 0 = 0 := by decide +kernel
theorem tq0_X8_init : qp_X8_init 0 = 0 := by decide +kernel
theorem tq0_X8_empty : qp_X8_empty 0 = 0 := by decide +kernel
theorem tq0_X8_write : qp_X8_write 0 = 0 := by decide +kernel
theorem tq0_X8_isKey : qp_X8_isKey 0 = 0 := by decide +kernel
theorem tq0_L_append : qp_L_append 0 = 0 := by decide +kernel
theorem tq0_L_add : qp_L_add 0 = 0 := by decide +kernel
theorem tq0_L_remove : qp_L_remove 0 = 0 := by decide +kernel
theorem tq0_L_setBranch : qp_L_setBranch 0 = 0 := by decide +kernel
theorem tq0_L_setWeight : qp_L_setWeight 0 = 0 := by decide +kernel
theorem tq0_L_setLoad : qp_L_setLoad 0 = 0 := by decide +kernel
theorem tq0_L_execute : qp_L_execute 0 = 0 := by decide +kernel
theorem tq0_L_property : qp_L_property 0 = 0 := by decide +kernel
theorem tq0_L_character : qp_L_character 0 = 0 := by decide +kernel
theorem tq0_L_difference : qp_L_difference 0 = 0 := by decide +kernel
theorem tq0_L_size : qp_L_size 0 = 0 := by decide +kernel
theorem tq0_L_find : qp_L_find 0 = 0 := by decide +kernel
theorem tq0_L_branch : qp_L_branch 0 = 0 := by decide +kernel
theorem tq0_L_examined : qp_L_examined 0 = 0 := by decide +kernel
theorem tq0_L_cost : qp_L_cost 0 = 0 := by decide +kernel
theorem tq0_L_worst : qp_L_worst 0 = 0 := by decide +kernel
theorem tq0_L_meanBits : qp_L_meanBits 0 = 0 := by decide +kernel
theorem tq0_L_trees : qp_L_trees 0 = 0 := by decide +kernel
theorem tq0_L_table : qp_L_table 0 = 0 := by decide +kernel
theorem tq0_L_slot : qp_L_slot 0 = 0 := by decide +kernel
theorem tq0_L_displacement : qp_L_displacement 0 = 0 := by decide +kernel
theorem tq0_L_densityBits : qp_L_densityBits 0 = 0 := by decide +kernel
theorem tq0_L_listing : qp_L_listing 0 = 0 := by decide +kernel
theorem tq0_L_restore : qp_L_restore 0 = 0 := by decide +kernel
theorem tq0_L_law : qp_L_law 0 = 0 := by decide +kernel
theorem tq0_J6_bitCount_0f7a4 : qp_J6_bitCount_0f7a4 0 = 0 := by decide +kernel
theorem tq_0 (E : qe_E) (L : Nat) (j : Nat) : zp (qZ E L) j 0 = 0 := (tq_c (tq_c (tq_c (tq_c (tq_c (tq_c (tq_c tq0_X9_init tq0_X9_append) (tq_c tq0_X9_clear (tq_c tq0_X9_add tq0_X9_remove))) (tq_c (tq_c tq0_X9_setBranch tq0_X9_setWeight) (tq_c tq0_X9_setLoad (tq_c tq0_X9_execute tq0_X9_errorPosition)))) (tq_c (tq_c (tq_c tq0_X9_property tq0_X9_character) (tq_c tq0_X9_difference (tq_c tq0_X9_size tq0_X9_find))) (tq_c (tq_c tq0_X9_branch tq0_X9_examined) (tq_c tq0_X9_cost (tq_c tq0_X9_worst tq0_X9_meanBits))))) (tq_c (tq_c (tq_c (tq_c tq0_X9_best tq0_X9_trees) (tq_c tq0_X9_selected (tq_c tq0_X9_hash tq0_X9_table))) (tq_c (tq_c tq0_X9_slot tq0_X9_displacement) (tq_c tq0_X9_densityBits (tq_c tq0_X9_listing tq0_X9_save)))) (tq_c (tq_c (tq_c tq0_X9_restore tq0_X9_requireKey) (tq_c tq0_X9_requireStrategy (tq_c tq0_X9_requireRunnable tq0_X9_requireTable))) (tq_c (tq_c tq0_X9_canRun tq0_X9_prepare) (tq_c tq0_X9_put (tq_c tq0_X9_copy tq0_X9_contains)))))) (tq_c (tq_c (tq_c (tq_c (tq_c tq0_X10_init tq0_X10_thrown) (tq_c tq0_X10_in (tq_c tq0_X10_isKey tq0_X10_append))) (tq_c (tq_c tq0_X10_clear tq0_X10_add) (tq_c tq0_X10_remove (tq_c tq0_X10_setBranch tq0_X10_setWeight)))) (tq_c (tq_c (tq_c tq0_X10_setLoad tq0_X10_here) (tq_c tq0_X10_isWord (tq_c tq0_X10_word tq0_X10_readCommand))) (tq_c (tq_c tq0_X10_execute tq0_X10_errorPosition) (tq_c tq0_X10_property (tq_c tq0_X10_character tq0_X10_difference))))) (tq_c (tq_c (tq_c (tq_c tq0_X10_size tq0_X10_takeBuffer) (tq_c tq0_X10_linear (tq_c tq0_X10_search tq0_X10_marked))) (tq_c (tq_c tq0_X10_ofLength tq0_X10_climb) (tq_c tq0_X10_trees (tq_c tq0_X10_separates tq0_X10_sizeOf)))) (tq_c (tq_c (tq_c tq0_X10_select tq0_X10_hashOfText) (tq_c tq0_X10_prepare (tq_c tq0_X10_hashed tq0_X10_canRun))) (tq_c (tq_c tq0_X10_refusal (tq_c tq0_X10_run tq0_X10_find)) (tq_c tq0_X10_branch (tq_c tq0_X10_examined tq0_X10_costOf))))))) (tq_c (tq_c (tq_c (tq_c (tq_c (tq_c tq0_X10_cost tq0_X10_worst) (tq_c tq0_X10_meanBits (tq_c tq0_X10_best tq0_X10_selected))) (tq_c (tq_c tq0_X10_hash tq0_X10_hasTable) (tq_c tq0_X10_table (tq_c tq0_X10_slot tq0_X10_displacement)))) (tq_c (tq_c (tq_c tq0_X10_densityBits tq0_X10_putTrees) (tq_c tq0_X10_list (tq_c tq0_X10_listing tq0_X10_save))) (tq_c (tq_c tq0_X10_restore tq0_X0_init) (tq_c tq0_X0_read (tq_c tq0_X0_readCommand tq0_X0_readWord))))) (tq_c (tq_c (tq_c (tq_c tq0_X0_isWord tq0_X1_init) (tq_c tq0_X1_grow (tq_c tq0_X1_rootWith tq0_X1_treeWith))) (tq_c (tq_c tq0_X1_plantRoots tq0_X2_init) (tq_c tq0_X2_has (tq_c tq0_X2_changeLoad tq0_X2_takeOver)))) (tq_c (tq_c (tq_c tq0_X2_totalWeight tq0_X3_init) (tq_c tq0_X3_list (tq_c tq0_X3_listKeys tq0_X3_listForest))) (tq_c (tq_c tq0_X4_init (tq_c tq0_X4_sort tq0_X5_init)) (tq_c tq0_X5_run (tq_c tq0_X5_measure tq0_X5_runLinear)))))) (tq_c (tq_c (tq_c (tq_c (tq_c tq0_X5_runBinary tq0_X5_runTrees) (tq_c tq0_X5_runTable (tq_c tq0_X6_init tq0_X6_choose))) (tq_c (tq_c tq0_X6_turned tq0_X6_collectPairs) (tq_c tq0_X6_separates (tq_c tq0_X6_hashOf tq0_X7_init)))) (tq_c (tq_c (tq_c tq0_X7_build tq0_X8_init) (tq_c tq0_X8_empty (tq_c tq0_X8_write tq0_X8_isKey))) (tq_c (tq_c tq0_L_append tq0_L_add) (tq_c tq0_L_remove (tq_c tq0_L_setBranch tq0_L_setWeight))))) (tq_c (tq_c (tq_c (tq_c tq0_L_setLoad tq0_L_execute) (tq_c tq0_L_property (tq_c tq0_L_character tq0_L_difference))) (tq_c (tq_c tq0_L_size tq0_L_find) (tq_c tq0_L_branch (tq_c tq0_L_examined tq0_L_cost)))) (tq_c (tq_c (tq_c tq0_L_worst tq0_L_meanBits) (tq_c tq0_L_trees (tq_c tq0_L_table tq0_L_slot))) (tq_c (tq_c tq0_L_displacement (tq_c tq0_L_densityBits tq0_L_listing)) (tq_c tq0_L_restore (tq_c tq0_L_law tq0_J6_bitCount_0f7a4))))))))
theorem tq_main {df : qe_Df} {L : Nat} {E : qe_E} (hd : qe_dok E.2.2.2 df) (fuel d j : Nat) : qx_k (dp := dp) (qZ E L) d j (qe_run (qd_P df L) fuel d j) := qx_main (tq_P hd) (tq_0 E L) fuel d j
end QER2
