/-! STATICS: made by wip/engine/gen21.py -/
section QEY
def qB_X9_init : qe_B := (yX9_init, cX9_init, 1, none, Cond.code yX9_init cX9_init 1 none :: qw_G, RX9)
theorem qi_X9_init : ∀ w ∈ qw_G, w ∈ qB_X9_init.2.2.2.2.1 := fun w h => List.mem_cons_of_mem _ h
def qB_X9_append : qe_B := (yX9_append, cX9_append, 5, (some .int), Cond.code yX9_append cX9_append 5 (some .int) :: qw_G, RX9)
theorem qi_X9_append : ∀ w ∈ qw_G, w ∈ qB_X9_append.2.2.2.2.1 := fun w h => List.mem_cons_of_mem _ h
def qB_X9_add : qe_B := (yX9_add, cX9_add, 2, (some .int), Cond.code yX9_add cX9_add 2 (some .int) :: qw_G, RX9)
theorem qi_X9_add : ∀ w ∈ qw_G, w ∈ qB_X9_add.2.2.2.2.1 := fun w h => List.mem_cons_of_mem _ h
def qB_X9_trees : qe_B := (yX9_trees, cX9_trees, 2, (some .int), Cond.code yX9_trees cX9_trees 2 (some .int) :: qw_G, RX9)
theorem qi_X9_trees : ∀ w ∈ qw_G, w ∈ qB_X9_trees.2.2.2.2.1 := fun w h => List.mem_cons_of_mem _ h
def qB_X9_requireBranch : qe_B := (yX9_requireBranch, cX9_requireBranch, 1, none, Cond.code yX9_requireBranch cX9_requireBranch 1 none :: qw_G, RX9)
theorem qi_X9_requireBranch : ∀ w ∈ qw_G, w ∈ qB_X9_requireBranch.2.2.2.2.1 := fun w h => List.mem_cons_of_mem _ h
def qB_X9_prepare : qe_B := (yX9_prepare, cX9_prepare, 1, none, Cond.code yX9_prepare cX9_prepare 1 none :: qw_G, RX9)
theorem qi_X9_prepare : ∀ w ∈ qw_G, w ∈ qB_X9_prepare.2.2.2.2.1 := fun w h => List.mem_cons_of_mem _ h
def qB_X9_at : qe_B := (yX9_at, cX9_at, 2, (some .int), Cond.code yX9_at cX9_at 2 (some .int) :: qw_G, RX9)
theorem qi_X9_at : ∀ w ∈ qw_G, w ∈ qB_X9_at.2.2.2.2.1 := fun w h => List.mem_cons_of_mem _ h
def qB_X9_put : qe_B := (yX9_put, cX9_put, 3, none, Cond.code yX9_put cX9_put 3 none :: qw_G, RX9)
theorem qi_X9_put : ∀ w ∈ qw_G, w ∈ qB_X9_put.2.2.2.2.1 := fun w h => List.mem_cons_of_mem _ h
def qB_X9_contains : qe_B := (yX9_contains, cX9_contains, 2, (some .boolean), Cond.code yX9_contains cX9_contains 2 (some .boolean) :: qw_G, RX9)
theorem qi_X9_contains : ∀ w ∈ qw_G, w ∈ qB_X9_contains.2.2.2.2.1 := fun w h => List.mem_cons_of_mem _ h
def qB_X9_isLetter : qe_B := (yX9_isLetter, cX9_isLetter, 1, (some .boolean), Cond.code yX9_isLetter cX9_isLetter 1 (some .boolean) :: qw_G, RX9)
theorem qi_X9_isLetter : ∀ w ∈ qw_G, w ∈ qB_X9_isLetter.2.2.2.2.1 := fun w h => List.mem_cons_of_mem _ h
def qB_X10_init : qe_B := (yX10_init, cX10_init, 1, none, Cond.code yX10_init cX10_init 1 none :: qw_G, RX10)
theorem qi_X10_init : ∀ w ∈ qw_G, w ∈ qB_X10_init.2.2.2.2.1 := fun w h => List.mem_cons_of_mem _ h
def qB_X10_in : qe_B := (yX10_in, cX10_in, 6, (some .boolean), Cond.code yX10_in cX10_in 6 (some .boolean) :: qw_G, RX10)
theorem qi_X10_in : ∀ w ∈ qw_G, w ∈ qB_X10_in.2.2.2.2.1 := fun w h => List.mem_cons_of_mem _ h
def qB_X10_isSign : qe_B := (yX10_isSign, cX10_isSign, 1, (some .boolean), Cond.code yX10_isSign cX10_isSign 1 (some .boolean) :: qw_G, RX10)
theorem qi_X10_isSign : ∀ w ∈ qw_G, w ∈ qB_X10_isSign.2.2.2.2.1 := fun w h => List.mem_cons_of_mem _ h
def qB_X10_at : qe_B := (yX10_at, cX10_at, 3, (some .int), Cond.code yX10_at cX10_at 3 (some .int) :: qw_G, RX10)
theorem qi_X10_at : ∀ w ∈ qw_G, w ∈ qB_X10_at.2.2.2.2.1 := fun w h => List.mem_cons_of_mem _ h
def qB_X10_append : qe_B := (yX10_append, cX10_append, 6, (some .int), Cond.code yX10_append cX10_append 6 (some .int) :: qw_G, RX10)
theorem qi_X10_append : ∀ w ∈ qw_G, w ∈ qB_X10_append.2.2.2.2.1 := fun w h => List.mem_cons_of_mem _ h
def qB_X10_keyAt : qe_B := (yX10_keyAt, cX10_keyAt, 6, (some .int), Cond.code yX10_keyAt cX10_keyAt 6 (some .int) :: qw_G, RX10)
theorem qi_X10_keyAt : ∀ w ∈ qw_G, w ∈ qB_X10_keyAt.2.2.2.2.1 := fun w h => List.mem_cons_of_mem _ h
def qB_X10_addKey : qe_B := (yX10_addKey, cX10_addKey, 6, (some .int), Cond.code yX10_addKey cX10_addKey 6 (some .int) :: qw_G, RX10)
theorem qi_X10_addKey : ∀ w ∈ qw_G, w ∈ qB_X10_addKey.2.2.2.2.1 := fun w h => List.mem_cons_of_mem _ h
def qB_X10_add : qe_B := (yX10_add, cX10_add, 4, (some .int), Cond.code yX10_add cX10_add 4 (some .int) :: qw_G, RX10)
theorem qi_X10_add : ∀ w ∈ qw_G, w ∈ qB_X10_add.2.2.2.2.1 := fun w h => List.mem_cons_of_mem _ h
def qB_X10_marked : qe_B := (yX10_marked, cX10_marked, 4, (some .int), Cond.code yX10_marked cX10_marked 4 (some .int) :: qw_G, RX10)
theorem qi_X10_marked : ∀ w ∈ qw_G, w ∈ qB_X10_marked.2.2.2.2.1 := fun w h => List.mem_cons_of_mem _ h
def qB_X10_positionOf : qe_B := (yX10_positionOf, cX10_positionOf, 11, (some .int), Cond.code yX10_positionOf cX10_positionOf 11 (some .int) :: qw_G, RX10)
theorem qi_X10_positionOf : ∀ w ∈ qw_G, w ∈ qB_X10_positionOf.2.2.2.2.1 := fun w h => List.mem_cons_of_mem _ h
def qB_X10_ofLength : qe_B := (yX10_ofLength, cX10_ofLength, 4, (some (.array .boolean)), Cond.code yX10_ofLength cX10_ofLength 4 (some (.array .boolean)) :: qw_G, RX10)
theorem qi_X10_ofLength : ∀ w ∈ qw_G, w ∈ qB_X10_ofLength.2.2.2.2.1 := fun w h => List.mem_cons_of_mem _ h
def qB_X10_child : qe_B := (yX10_child, cX10_child, 6, (some (.array .boolean)), Cond.code yX10_child cX10_child 6 (some (.array .boolean)) :: qw_G, RX10)
theorem qi_X10_child : ∀ w ∈ qw_G, w ∈ qB_X10_child.2.2.2.2.1 := fun w h => List.mem_cons_of_mem _ h
def qB_X10_measure : qe_B := (yX10_measure, cX10_measure, 7, none, Cond.code yX10_measure cX10_measure 7 none :: qw_G, RX10)
theorem qi_X10_measure : ∀ w ∈ qw_G, w ∈ qB_X10_measure.2.2.2.2.1 := fun w h => List.mem_cons_of_mem _ h
def qB_X10_trees : qe_B := (yX10_trees, cX10_trees, 4, (some .int), Cond.code yX10_trees cX10_trees 4 (some .int) :: qw_G, RX10)
theorem qi_X10_trees : ∀ w ∈ qw_G, w ∈ qB_X10_trees.2.2.2.2.1 := fun w h => List.mem_cons_of_mem _ h
def qB_X0_init : qe_B := (yX0_init, cX0_init, 1, none, Cond.code yX0_init cX0_init 1 none :: qw_G, RX0)
theorem qi_X0_init : ∀ w ∈ qw_G, w ∈ qB_X0_init.2.2.2.2.1 := fun w h => List.mem_cons_of_mem _ h
def qB_X1_init : qe_B := (yX1_init, cX1_init, 2, none, Cond.code yX1_init cX1_init 2 none :: qw_G, RX1)
theorem qi_X1_init : ∀ w ∈ qw_G, w ∈ qB_X1_init.2.2.2.2.1 := fun w h => List.mem_cons_of_mem _ h
def qB_X1_grow : qe_B := (yX1_grow, cX1_grow, 2, none, Cond.code yX1_grow cX1_grow 2 none :: qw_G, RX1)
theorem qi_X1_grow : ∀ w ∈ qw_G, w ∈ qB_X1_grow.2.2.2.2.1 := fun w h => List.mem_cons_of_mem _ h
def qB_X1_isLeaf : qe_B := (yX1_isLeaf, cX1_isLeaf, 2, (some .boolean), Cond.code yX1_isLeaf cX1_isLeaf 2 (some .boolean) :: qw_G, RX1)
theorem qi_X1_isLeaf : ∀ w ∈ qw_G, w ∈ qB_X1_isLeaf.2.2.2.2.1 := fun w h => List.mem_cons_of_mem _ h
def qB_X1_keyOf : qe_B := (yX1_keyOf, cX1_keyOf, 2, (some .int), Cond.code yX1_keyOf cX1_keyOf 2 (some .int) :: qw_G, RX1)
theorem qi_X1_keyOf : ∀ w ∈ qw_G, w ∈ qB_X1_keyOf.2.2.2.2.1 := fun w h => List.mem_cons_of_mem _ h
def qB_X1_plant : qe_B := (yX1_plant, cX1_plant, 5, none, Cond.code yX1_plant cX1_plant 5 none :: qw_G, RX1)
theorem qi_X1_plant : ∀ w ∈ qw_G, w ∈ qB_X1_plant.2.2.2.2.1 := fun w h => List.mem_cons_of_mem _ h
def qB_X1_plantRoots : qe_B := (yX1_plantRoots, cX1_plantRoots, 5, none, Cond.code yX1_plantRoots cX1_plantRoots 5 none :: qw_G, RX1)
theorem qi_X1_plantRoots : ∀ w ∈ qw_G, w ∈ qB_X1_plantRoots.2.2.2.2.1 := fun w h => List.mem_cons_of_mem _ h
def qB_X1_split : qe_B := (yX1_split, cX1_split, 8, none, Cond.code yX1_split cX1_split 8 none :: qw_G, RX1)
theorem qi_X1_split : ∀ w ∈ qw_G, w ∈ qB_X1_split.2.2.2.2.1 := fun w h => List.mem_cons_of_mem _ h
def qB_X1_choosePosition : qe_B := (yX1_choosePosition, cX1_choosePosition, 6, (some .int), Cond.code yX1_choosePosition cX1_choosePosition 6 (some .int) :: qw_G, RX1)
theorem qi_X1_choosePosition : ∀ w ∈ qw_G, w ∈ qB_X1_choosePosition.2.2.2.2.1 := fun w h => List.mem_cons_of_mem _ h
def qB_X1_penaltyOf : qe_B := (yX1_penaltyOf, cX1_penaltyOf, 10, (some .int), Cond.code yX1_penaltyOf cX1_penaltyOf 10 (some .int) :: qw_G, RX1)
theorem qi_X1_penaltyOf : ∀ w ∈ qw_G, w ∈ qB_X1_penaltyOf.2.2.2.2.1 := fun w h => List.mem_cons_of_mem _ h
def qB_X1_sortMembers : qe_B := (yX1_sortMembers, cX1_sortMembers, 7, none, Cond.code yX1_sortMembers cX1_sortMembers 7 none :: qw_G, RX1)
theorem qi_X1_sortMembers : ∀ w ∈ qw_G, w ∈ qB_X1_sortMembers.2.2.2.2.1 := fun w h => List.mem_cons_of_mem _ h
def qB_X2_init : qe_B := (yX2_init, cX2_init, 1, none, Cond.code yX2_init cX2_init 1 none :: qw_G, RX2)
theorem qi_X2_init : ∀ w ∈ qw_G, w ∈ qB_X2_init.2.2.2.2.1 := fun w h => List.mem_cons_of_mem _ h
def qB_X2_lengthOf : qe_B := (yX2_lengthOf, cX2_lengthOf, 2, (some .int), Cond.code yX2_lengthOf cX2_lengthOf 2 (some .int) :: qw_G, RX2)
theorem qi_X2_lengthOf : ∀ w ∈ qw_G, w ∈ qB_X2_lengthOf.2.2.2.2.1 := fun w h => List.mem_cons_of_mem _ h
def qB_X2_letterAt : qe_B := (yX2_letterAt, cX2_letterAt, 4, (some .int), Cond.code yX2_letterAt cX2_letterAt 4 (some .int) :: qw_G, RX2)
theorem qi_X2_letterAt : ∀ w ∈ qw_G, w ∈ qB_X2_letterAt.2.2.2.2.1 := fun w h => List.mem_cons_of_mem _ h
def qB_X2_numberOf : qe_B := (yX2_numberOf, cX2_numberOf, 5, (some .int), Cond.code yX2_numberOf cX2_numberOf 5 (some .int) :: qw_G, RX2)
theorem qi_X2_numberOf : ∀ w ∈ qw_G, w ∈ qB_X2_numberOf.2.2.2.2.1 := fun w h => List.mem_cons_of_mem _ h
def qB_X2_beginsAt : qe_B := (yX2_beginsAt, cX2_beginsAt, 5, (some .boolean), Cond.code yX2_beginsAt cX2_beginsAt 5 (some .boolean) :: qw_G, RX2)
theorem qi_X2_beginsAt : ∀ w ∈ qw_G, w ∈ qB_X2_beginsAt.2.2.2.2.1 := fun w h => List.mem_cons_of_mem _ h
def qB_X2_insert : qe_B := (yX2_insert, cX2_insert, 6, (some .boolean), Cond.code yX2_insert cX2_insert 6 (some .boolean) :: qw_G, RX2)
theorem qi_X2_insert : ∀ w ∈ qw_G, w ∈ qB_X2_insert.2.2.2.2.1 := fun w h => List.mem_cons_of_mem _ h
def qB_X2_firstDifference : qe_B := (yX2_firstDifference, cX2_firstDifference, 5, (some .int), Cond.code yX2_firstDifference cX2_firstDifference 5 (some .int) :: qw_G, RX2)
theorem qi_X2_firstDifference : ∀ w ∈ qw_G, w ∈ qB_X2_firstDifference.2.2.2.2.1 := fun w h => List.mem_cons_of_mem _ h
def qB_X2_isLess : qe_B := (yX2_isLess, cX2_isLess, 4, (some .boolean), Cond.code yX2_isLess cX2_isLess 4 (some .boolean) :: qw_G, RX2)
theorem qi_X2_isLess : ∀ w ∈ qw_G, w ∈ qB_X2_isLess.2.2.2.2.1 := fun w h => List.mem_cons_of_mem _ h
def qB_X2_rankOf : qe_B := (yX2_rankOf, cX2_rankOf, 4, (some .int), Cond.code yX2_rankOf cX2_rankOf 4 (some .int) :: qw_G, RX2)
theorem qi_X2_rankOf : ∀ w ∈ qw_G, w ∈ qB_X2_rankOf.2.2.2.2.1 := fun w h => List.mem_cons_of_mem _ h
def qB_X2_differences : qe_B := (yX2_differences, cX2_differences, 5, (some .int), Cond.code yX2_differences cX2_differences 5 (some .int) :: qw_G, RX2)
theorem qi_X2_differences : ∀ w ∈ qw_G, w ∈ qB_X2_differences.2.2.2.2.1 := fun w h => List.mem_cons_of_mem _ h
def qB_X2_writeKey : qe_B := (yX2_writeKey, cX2_writeKey, 4, none, Cond.code yX2_writeKey cX2_writeKey 4 none :: qw_G, RX2)
theorem qi_X2_writeKey : ∀ w ∈ qw_G, w ∈ qB_X2_writeKey.2.2.2.2.1 := fun w h => List.mem_cons_of_mem _ h
def qB_X3_init : qe_B := (yX3_init, cX3_init, 5, none, Cond.code yX3_init cX3_init 5 none :: qw_G, RX3)
theorem qi_X3_init : ∀ w ∈ qw_G, w ∈ qB_X3_init.2.2.2.2.1 := fun w h => List.mem_cons_of_mem _ h
def qB_X4_init : qe_B := (yX4_init, cX4_init, 2, none, Cond.code yX4_init cX4_init 2 none :: qw_G, RX4)
theorem qi_X4_init : ∀ w ∈ qw_G, w ∈ qB_X4_init.2.2.2.2.1 := fun w h => List.mem_cons_of_mem _ h
def qB_X4_sort : qe_B := (yX4_sort, cX4_sort, 2, none, Cond.code yX4_sort cX4_sort 2 none :: qw_G, RX4)
theorem qi_X4_sort : ∀ w ∈ qw_G, w ∈ qB_X4_sort.2.2.2.2.1 := fun w h => List.mem_cons_of_mem _ h
def qB_X5_init : qe_B := (yX5_init, cX5_init, 5, none, Cond.code yX5_init cX5_init 5 none :: qw_G, RX5)
theorem qi_X5_init : ∀ w ∈ qw_G, w ∈ qB_X5_init.2.2.2.2.1 := fun w h => List.mem_cons_of_mem _ h
def qB_X6_init : qe_B := (yX6_init, cX6_init, 2, none, Cond.code yX6_init cX6_init 2 none :: qw_G, RX6)
theorem qi_X6_init : ∀ w ∈ qw_G, w ∈ qB_X6_init.2.2.2.2.1 := fun w h => List.mem_cons_of_mem _ h
def qB_X6_choose : qe_B := (yX6_choose, cX6_choose, 4, none, Cond.code yX6_choose cX6_choose 4 none :: qw_G, RX6)
theorem qi_X6_choose : ∀ w ∈ qw_G, w ∈ qB_X6_choose.2.2.2.2.1 := fun w h => List.mem_cons_of_mem _ h
def qB_X6_turned : qe_B := (yX6_turned, cX6_turned, 3, (some .int), Cond.code yX6_turned cX6_turned 3 (some .int) :: qw_G, RX6)
theorem qi_X6_turned : ∀ w ∈ qw_G, w ∈ qB_X6_turned.2.2.2.2.1 := fun w h => List.mem_cons_of_mem _ h
def qB_X6_collectPairs : qe_B := (yX6_collectPairs, cX6_collectPairs, 3, none, Cond.code yX6_collectPairs cX6_collectPairs 3 none :: qw_G, RX6)
theorem qi_X6_collectPairs : ∀ w ∈ qw_G, w ∈ qB_X6_collectPairs.2.2.2.2.1 := fun w h => List.mem_cons_of_mem _ h
def qB_X6_separates : qe_B := (yX6_separates, cX6_separates, 3, (some .boolean), Cond.code yX6_separates cX6_separates 3 (some .boolean) :: qw_G, RX6)
theorem qi_X6_separates : ∀ w ∈ qw_G, w ∈ qB_X6_separates.2.2.2.2.1 := fun w h => List.mem_cons_of_mem _ h
def qB_X6_hashOf : qe_B := (yX6_hashOf, cX6_hashOf, 5, (some .int), Cond.code yX6_hashOf cX6_hashOf 5 (some .int) :: qw_G, RX6)
theorem qi_X6_hashOf : ∀ w ∈ qw_G, w ∈ qB_X6_hashOf.2.2.2.2.1 := fun w h => List.mem_cons_of_mem _ h
def qB_X7_init : qe_B := (yX7_init, cX7_init, 3, none, Cond.code yX7_init cX7_init 3 none :: qw_G, RX7)
theorem qi_X7_init : ∀ w ∈ qw_G, w ∈ qB_X7_init.2.2.2.2.1 := fun w h => List.mem_cons_of_mem _ h
def qB_X7_build : qe_B := (yX7_build, cX7_build, 2, none, Cond.code yX7_build cX7_build 2 none :: qw_G, RX7)
theorem qi_X7_build : ∀ w ∈ qw_G, w ∈ qB_X7_build.2.2.2.2.1 := fun w h => List.mem_cons_of_mem _ h
def qB_X7_trySeed : qe_B := (yX7_trySeed, cX7_trySeed, 4, (some .boolean), Cond.code yX7_trySeed cX7_trySeed 4 (some .boolean) :: qw_G, RX7)
theorem qi_X7_trySeed : ∀ w ∈ qw_G, w ∈ qB_X7_trySeed.2.2.2.2.1 := fun w h => List.mem_cons_of_mem _ h
def qB_X7_hashKeys : qe_B := (yX7_hashKeys, cX7_hashKeys, 3, none, Cond.code yX7_hashKeys cX7_hashKeys 3 none :: qw_G, RX7)
theorem qi_X7_hashKeys : ∀ w ∈ qw_G, w ∈ qB_X7_hashKeys.2.2.2.2.1 := fun w h => List.mem_cons_of_mem _ h
def qB_X7_place : qe_B := (yX7_place, cX7_place, 3, (some .boolean), Cond.code yX7_place cX7_place 3 (some .boolean) :: qw_G, RX7)
theorem qi_X7_place : ∀ w ∈ qw_G, w ∈ qB_X7_place.2.2.2.2.1 := fun w h => List.mem_cons_of_mem _ h
def qB_X7_takeSlots : qe_B := (yX7_takeSlots, cX7_takeSlots, 8, (some .boolean), Cond.code yX7_takeSlots cX7_takeSlots 8 (some .boolean) :: qw_G, RX7)
theorem qi_X7_takeSlots : ∀ w ∈ qw_G, w ∈ qB_X7_takeSlots.2.2.2.2.1 := fun w h => List.mem_cons_of_mem _ h
def qB_X7_nameOwners : qe_B := (yX7_nameOwners, cX7_nameOwners, 3, none, Cond.code yX7_nameOwners cX7_nameOwners 3 none :: qw_G, RX7)
theorem qi_X7_nameOwners : ∀ w ∈ qw_G, w ∈ qB_X7_nameOwners.2.2.2.2.1 := fun w h => List.mem_cons_of_mem _ h
def qB_X7_slotFor : qe_B := (yX7_slotFor, cX7_slotFor, 4, (some .int), Cond.code yX7_slotFor cX7_slotFor 4 (some .int) :: qw_G, RX7)
theorem qi_X7_slotFor : ∀ w ∈ qw_G, w ∈ qB_X7_slotFor.2.2.2.2.1 := fun w h => List.mem_cons_of_mem _ h
def qB_X7_bucketFor : qe_B := (yX7_bucketFor, cX7_bucketFor, 2, (some .int), Cond.code yX7_bucketFor cX7_bucketFor 2 (some .int) :: qw_G, RX7)
theorem qi_X7_bucketFor : ∀ w ∈ qw_G, w ∈ qB_X7_bucketFor.2.2.2.2.1 := fun w h => List.mem_cons_of_mem _ h
def qB_X8_init : qe_B := (yX8_init, cX8_init, 2, none, Cond.code yX8_init cX8_init 2 none :: qw_G, RX8)
theorem qi_X8_init : ∀ w ∈ qw_G, w ∈ qB_X8_init.2.2.2.2.1 := fun w h => List.mem_cons_of_mem _ h
def qB_X8_empty : qe_B := (yX8_empty, cX8_empty, 1, none, Cond.code yX8_empty cX8_empty 1 none :: qw_G, RX8)
theorem qi_X8_empty : ∀ w ∈ qw_G, w ∈ qB_X8_empty.2.2.2.2.1 := fun w h => List.mem_cons_of_mem _ h
def qB_X8_signAt : qe_B := (yX8_signAt, cX8_signAt, 2, (some .int), Cond.code yX8_signAt cX8_signAt 2 (some .int) :: qw_G, RX8)
theorem qi_X8_signAt : ∀ w ∈ qw_G, w ∈ qB_X8_signAt.2.2.2.2.1 := fun w h => List.mem_cons_of_mem _ h
def qB_X8_write : qe_B := (yX8_write, cX8_write, 2, none, Cond.code yX8_write cX8_write 2 none :: qw_G, RX8)
theorem qi_X8_write : ∀ w ∈ qw_G, w ∈ qB_X8_write.2.2.2.2.1 := fun w h => List.mem_cons_of_mem _ h
def qB_X8_isKeySign : qe_B := (yX8_isKeySign, cX8_isKeySign, 3, (some .boolean), Cond.code yX8_isKeySign cX8_isKeySign 3 (some .boolean) :: qw_G, RX8)
theorem qi_X8_isKeySign : ∀ w ∈ qw_G, w ∈ qB_X8_isKeySign.2.2.2.2.1 := fun w h => List.mem_cons_of_mem _ h
def qB_X8_isKey : qe_B := (yX8_isKey, cX8_isKey, 2, (some .boolean), Cond.code yX8_isKey cX8_isKey 2 (some .boolean) :: qw_G, RX8)
theorem qi_X8_isKey : ∀ w ∈ qw_G, w ∈ qB_X8_isKey.2.2.2.2.1 := fun w h => List.mem_cons_of_mem _ h
def qB_L_append : qe_B := (yL_append, cL_append, 4, (some .int), Cond.codeWith yL_append cL_append 4 (some .int) [(0, 9, 12, 13), (0, 9, 15, 15)] :: qw_G, RL)
theorem qi_L_append : ∀ w ∈ qw_G, w ∈ qB_L_append.2.2.2.2.1 := fun w h => List.mem_cons_of_mem _ h
def qB_L_add : qe_B := (yL_add, cL_add, 4, (some .int), Cond.codeWith yL_add cL_add 4 (some .int) [(0, 9, 12, 13), (0, 9, 15, 15)] :: qw_G, RL)
theorem qi_L_add : ∀ w ∈ qw_G, w ∈ qB_L_add.2.2.2.2.1 := fun w h => List.mem_cons_of_mem _ h
def qB_L_trees : qe_B := (yL_trees, cL_trees, 4, (some .int), Cond.codeWith yL_trees cL_trees 4 (some .int) [(0, 9, 12, 13)] :: qw_G, RL)
theorem qi_L_trees : ∀ w ∈ qw_G, w ∈ qB_L_trees.2.2.2.2.1 := fun w h => List.mem_cons_of_mem _ h
def qB_L_law : qe_B := (yL_law, cL_law, 8, (some .boolean), Cond.initialized RL :: qw_G, RL)
theorem qi_L_law : ∀ w ∈ qw_G, w ∈ qB_L_law.2.2.2.2.1 := fun w h => List.mem_cons_of_mem _ h
def qB_J6_bitCount_0f7a4 : qe_B := (yJ6_bitCount_0f7a4, cJ6_bitCount_0f7a4, 1, (some .int), Cond.code yJ6_bitCount_0f7a4 cJ6_bitCount_0f7a4 1 (some .int) :: qw_G, RJ6)
theorem qi_J6_bitCount_0f7a4 : ∀ w ∈ qw_G, w ∈ qB_J6_bitCount_0f7a4.2.2.2.2.1 := fun w h => List.mem_cons_of_mem _ h
def qw_M (j : Nat) : qe_B := cond (Nat.blt j 169) (cond (Nat.blt j 91) (cond (Nat.blt j 43) (cond (Nat.blt j 32) (cond (Nat.blt j 3) (cond (Nat.blt j 1) (qB_X9_init) (qB_X9_append)) (cond (Nat.blt j 21) (qB_X9_add) (qB_X9_trees))) (cond (Nat.blt j 38) (cond (Nat.blt j 37) (qB_X9_requireBranch) (qB_X9_prepare)) (cond (Nat.blt j 39) (qB_X9_at) (cond (Nat.blt j 42) (qB_X9_put) (qB_X9_contains))))) (cond (Nat.blt j 53) (cond (Nat.blt j 49) (cond (Nat.blt j 47) (qB_X9_isLetter) (qB_X10_init)) (cond (Nat.blt j 51) (qB_X10_in) (cond (Nat.blt j 52) (qB_X10_isSign) (qB_X10_at)))) (cond (Nat.blt j 56) (cond (Nat.blt j 55) (qB_X10_append) (qB_X10_keyAt)) (cond (Nat.blt j 58) (qB_X10_addKey) (cond (Nat.blt j 89) (qB_X10_add) (qB_X10_marked)))))) (cond (Nat.blt j 155) (cond (Nat.blt j 96) (cond (Nat.blt j 93) (cond (Nat.blt j 92) (qB_X10_positionOf) (qB_X10_ofLength)) (cond (Nat.blt j 95) (qB_X10_child) (qB_X10_measure))) (cond (Nat.blt j 152) (cond (Nat.blt j 138) (qB_X10_trees) (qB_X0_init)) (cond (Nat.blt j 153) (qB_X1_init) (cond (Nat.blt j 154) (qB_X1_grow) (qB_X1_isLeaf))))) (cond (Nat.blt j 163) (cond (Nat.blt j 160) (cond (Nat.blt j 159) (qB_X1_keyOf) (qB_X1_plant)) (cond (Nat.blt j 161) (qB_X1_plantRoots) (cond (Nat.blt j 162) (qB_X1_split) (qB_X1_choosePosition)))) (cond (Nat.blt j 165) (cond (Nat.blt j 164) (qB_X1_penaltyOf) (qB_X1_sortMembers)) (cond (Nat.blt j 167) (qB_X2_init) (cond (Nat.blt j 168) (qB_X2_lengthOf) (qB_X2_letterAt))))))) (cond (Nat.blt j 209) (cond (Nat.blt j 190) (cond (Nat.blt j 176) (cond (Nat.blt j 171) (cond (Nat.blt j 170) (qB_X2_numberOf) (qB_X2_beginsAt)) (cond (Nat.blt j 175) (qB_X2_insert) (qB_X2_firstDifference))) (cond (Nat.blt j 178) (cond (Nat.blt j 177) (qB_X2_isLess) (qB_X2_rankOf)) (cond (Nat.blt j 181) (qB_X2_differences) (cond (Nat.blt j 182) (qB_X2_writeKey) (qB_X3_init))))) (cond (Nat.blt j 204) (cond (Nat.blt j 192) (cond (Nat.blt j 191) (qB_X4_init) (qB_X4_sort)) (cond (Nat.blt j 202) (qB_X5_init) (cond (Nat.blt j 203) (qB_X6_init) (qB_X6_choose)))) (cond (Nat.blt j 206) (cond (Nat.blt j 205) (qB_X6_turned) (qB_X6_collectPairs)) (cond (Nat.blt j 207) (qB_X6_separates) (cond (Nat.blt j 208) (qB_X6_hashOf) (qB_X7_init)))))) (cond (Nat.blt j 219) (cond (Nat.blt j 213) (cond (Nat.blt j 211) (cond (Nat.blt j 210) (qB_X7_build) (qB_X7_trySeed)) (cond (Nat.blt j 212) (qB_X7_hashKeys) (qB_X7_place))) (cond (Nat.blt j 215) (cond (Nat.blt j 214) (qB_X7_takeSlots) (qB_X7_nameOwners)) (cond (Nat.blt j 216) (qB_X7_slotFor) (cond (Nat.blt j 218) (qB_X7_bucketFor) (qB_X8_init))))) (cond (Nat.blt j 225) (cond (Nat.blt j 221) (cond (Nat.blt j 220) (qB_X8_empty) (qB_X8_signAt)) (cond (Nat.blt j 223) (qB_X8_write) (cond (Nat.blt j 224) (qB_X8_isKeySign) (qB_X8_isKey)))) (cond (Nat.blt j 242) (cond (Nat.blt j 226) (qB_L_append) (qB_L_add)) (cond (Nat.blt j 249) (qB_L_trees) (cond (Nat.blt j 250) (qB_L_law) (qB_J6_bitCount_0f7a4)))))))
def qw_n (i : Nat) : String := cond (Nat.beq i 0) "java/lang/IllegalArgumentException" (cond (Nat.beq i 1) "java/lang/IllegalStateException" (cond (Nat.beq i 2) "java/lang/IndexOutOfBoundsException" "java/lang/ArithmeticException"))
def qp_X9_init (b : Nat) : Nat := cond (Nat.blt b 3) (cond (Nat.blt b 1) (0) (cond (Nat.blt b 2) (29) (57))) (cond (Nat.blt b 5) (cond (Nat.blt b 4) (87) (115)) (cond (Nat.blt b 6) (145) (175)))
def qp_X9_append (b : Nat) : Nat := cond (Nat.blt b 5) (cond (Nat.blt b 2) (cond (Nat.blt b 1) (0) (5)) (cond (Nat.blt b 3) (32) (cond (Nat.blt b 4) (37) (47)))) (cond (Nat.blt b 8) (cond (Nat.blt b 6) (50) (cond (Nat.blt b 7) (56) (80))) (cond (Nat.blt b 9) (83) (cond (Nat.blt b 10) (110) (116))))
def qp_X9_add (b : Nat) : Nat := cond (Nat.blt b 1) (0) (cond (Nat.blt b 2) (20) (57))
def qp_X9_trees (b : Nat) : Nat := cond (Nat.blt b 3) (cond (Nat.blt b 1) (0) (cond (Nat.blt b 2) (36) (44))) (cond (Nat.blt b 4) (60) (cond (Nat.blt b 5) (68) (76)))
def qp_X9_requireBranch (b : Nat) : Nat := cond (Nat.blt b 1) (0) (cond (Nat.blt b 2) (10) (21))
def qp_X9_prepare (b : Nat) : Nat := cond (Nat.blt b 1) (0) (cond (Nat.blt b 2) (32) (53))
def qp_X9_at (b : Nat) : Nat := cond (Nat.blt b 1) (0) (cond (Nat.blt b 2) (16) (17))
def qp_X9_put (b : Nat) : Nat := cond (Nat.blt b 1) (0) (14)
def qp_X9_contains (b : Nat) : Nat := cond (Nat.blt b 1) (0) (cond (Nat.blt b 2) (12) (13))
def qp_X9_isLetter (b : Nat) : Nat := cond (Nat.blt b 1) (0) (cond (Nat.blt b 2) (16) (17))
def qp_X10_init (b : Nat) : Nat := cond (Nat.blt b 3) (cond (Nat.blt b 1) (0) (cond (Nat.blt b 2) (30) (56))) (cond (Nat.blt b 4) (85) (cond (Nat.blt b 5) (114) (143)))
def qp_X10_in (b : Nat) : Nat := cond (Nat.blt b 1) (0) (cond (Nat.blt b 2) (17) (18))
def qp_X10_isSign (b : Nat) : Nat := cond (Nat.blt b 1) (0) (cond (Nat.blt b 2) (28) (33))
def qp_X10_at (b : Nat) : Nat := 0
def qp_X10_append (b : Nat) : Nat := cond (Nat.blt b 8) (cond (Nat.blt b 4) (cond (Nat.blt b 2) (cond (Nat.blt b 1) (0) (8)) (cond (Nat.blt b 3) (35) (47))) (cond (Nat.blt b 6) (cond (Nat.blt b 5) (51) (52)) (cond (Nat.blt b 7) (63) (64)))) (cond (Nat.blt b 12) (cond (Nat.blt b 10) (cond (Nat.blt b 9) (72) (81)) (cond (Nat.blt b 11) (96) (109))) (cond (Nat.blt b 14) (cond (Nat.blt b 13) (113) (141)) (cond (Nat.blt b 15) (154) (160))))
def qp_X10_keyAt (b : Nat) : Nat := cond (Nat.blt b 6) (cond (Nat.blt b 3) (cond (Nat.blt b 1) (0) (cond (Nat.blt b 2) (2) (24))) (cond (Nat.blt b 4) (28) (cond (Nat.blt b 5) (29) (34)))) (cond (Nat.blt b 9) (cond (Nat.blt b 7) (60) (cond (Nat.blt b 8) (68) (69))) (cond (Nat.blt b 10) (77) (cond (Nat.blt b 11) (84) (90))))
def qp_X10_addKey (b : Nat) : Nat := cond (Nat.blt b 2) (cond (Nat.blt b 1) (0) (22)) (cond (Nat.blt b 3) (43) (cond (Nat.blt b 4) (68) (80)))
def qp_X10_add (b : Nat) : Nat := cond (Nat.blt b 6) (cond (Nat.blt b 3) (cond (Nat.blt b 1) (0) (cond (Nat.blt b 2) (28) (31))) (cond (Nat.blt b 4) (32) (cond (Nat.blt b 5) (35) (63)))) (cond (Nat.blt b 9) (cond (Nat.blt b 7) (64) (cond (Nat.blt b 8) (71) (80))) (cond (Nat.blt b 11) (cond (Nat.blt b 10) (103) (107)) (cond (Nat.blt b 12) (120) (142))))
def qp_X10_marked (b : Nat) : Nat := cond (Nat.blt b 2) (cond (Nat.blt b 1) (0) (4)) (cond (Nat.blt b 3) (25) (cond (Nat.blt b 4) (26) (34)))
def qp_X10_positionOf (b : Nat) : Nat := cond (Nat.blt b 7) (cond (Nat.blt b 3) (cond (Nat.blt b 1) (0) (cond (Nat.blt b 2) (11) (20))) (cond (Nat.blt b 5) (cond (Nat.blt b 4) (42) (51)) (cond (Nat.blt b 6) (77) (95)))) (cond (Nat.blt b 10) (cond (Nat.blt b 8) (96) (cond (Nat.blt b 9) (118) (124))) (cond (Nat.blt b 12) (cond (Nat.blt b 11) (130) (155)) (cond (Nat.blt b 13) (166) (172))))
def qp_X10_ofLength (b : Nat) : Nat := cond (Nat.blt b 3) (cond (Nat.blt b 1) (0) (cond (Nat.blt b 2) (7) (27))) (cond (Nat.blt b 4) (35) (cond (Nat.blt b 5) (36) (43)))
def qp_X10_child (b : Nat) : Nat := cond (Nat.blt b 3) (cond (Nat.blt b 1) (0) (cond (Nat.blt b 2) (9) (34))) (cond (Nat.blt b 4) (46) (cond (Nat.blt b 5) (47) (54)))
def qp_X10_measure (b : Nat) : Nat := cond (Nat.blt b 3) (cond (Nat.blt b 1) (0) (cond (Nat.blt b 2) (24) (32))) (cond (Nat.blt b 5) (cond (Nat.blt b 4) (54) (82)) (cond (Nat.blt b 6) (91) (97)))
def qp_X10_trees (b : Nat) : Nat := cond (Nat.blt b 5) (cond (Nat.blt b 2) (cond (Nat.blt b 1) (0) (17)) (cond (Nat.blt b 3) (18) (cond (Nat.blt b 4) (30) (52)))) (cond (Nat.blt b 7) (cond (Nat.blt b 6) (77) (89)) (cond (Nat.blt b 8) (95) (cond (Nat.blt b 9) (106) (134))))
def qp_X0_init (b : Nat) : Nat := cond (Nat.blt b 1) (0) (cond (Nat.blt b 2) (28) (56))
def qp_X1_init (b : Nat) : Nat := cond (Nat.blt b 2) (cond (Nat.blt b 1) (0) (28)) (cond (Nat.blt b 3) (55) (80))
def qp_X1_grow (b : Nat) : Nat := cond (Nat.blt b 3) (cond (Nat.blt b 1) (0) (cond (Nat.blt b 2) (24) (29))) (cond (Nat.blt b 5) (cond (Nat.blt b 4) (56) (83)) (cond (Nat.blt b 6) (88) (94)))
def qp_X1_isLeaf (b : Nat) : Nat := cond (Nat.blt b 1) (0) (cond (Nat.blt b 2) (25) (26))
def qp_X1_keyOf (b : Nat) : Nat := 0
def qp_X1_plant (b : Nat) : Nat := cond (Nat.blt b 1) (0) (cond (Nat.blt b 2) (28) (57))
def qp_X1_plantRoots (b : Nat) : Nat := cond (Nat.blt b 4) (cond (Nat.blt b 2) (cond (Nat.blt b 1) (0) (4)) (cond (Nat.blt b 3) (15) (45))) (cond (Nat.blt b 6) (cond (Nat.blt b 5) (53) (59)) (cond (Nat.blt b 7) (72) (78)))
def qp_X1_split (b : Nat) : Nat := cond (Nat.blt b 6) (cond (Nat.blt b 3) (cond (Nat.blt b 1) (0) (cond (Nat.blt b 2) (24) (50))) (cond (Nat.blt b 4) (57) (cond (Nat.blt b 5) (86) (113)))) (cond (Nat.blt b 9) (cond (Nat.blt b 7) (116) (cond (Nat.blt b 8) (120) (121))) (cond (Nat.blt b 10) (145) (cond (Nat.blt b 11) (154) (160))))
def qp_X1_choosePosition (b : Nat) : Nat := cond (Nat.blt b 2) (cond (Nat.blt b 1) (0) (12)) (cond (Nat.blt b 3) (40) (cond (Nat.blt b 4) (50) (56)))
def qp_X1_penaltyOf (b : Nat) : Nat := cond (Nat.blt b 6) (cond (Nat.blt b 3) (cond (Nat.blt b 1) (0) (cond (Nat.blt b 2) (15) (45))) (cond (Nat.blt b 4) (63) (cond (Nat.blt b 5) (93) (114)))) (cond (Nat.blt b 9) (cond (Nat.blt b 7) (115) (cond (Nat.blt b 8) (118) (124))) (cond (Nat.blt b 10) (142) (cond (Nat.blt b 11) (143) (152))))
def qp_X1_sortMembers (b : Nat) : Nat := cond (Nat.blt b 3) (cond (Nat.blt b 1) (0) (cond (Nat.blt b 2) (5) (26))) (cond (Nat.blt b 5) (cond (Nat.blt b 4) (52) (81)) (cond (Nat.blt b 6) (90) (107)))
def qp_X2_init (b : Nat) : Nat := cond (Nat.blt b 1) (0) (29)
def qp_X2_lengthOf (b : Nat) : Nat := cond (Nat.blt b 1) (0) (cond (Nat.blt b 2) (22) (23))
def qp_X2_letterAt (b : Nat) : Nat := cond (Nat.blt b 3) (cond (Nat.blt b 1) (0) (cond (Nat.blt b 2) (26) (35))) (cond (Nat.blt b 5) (cond (Nat.blt b 4) (37) (58)) (cond (Nat.blt b 6) (62) (63)))
def qp_X2_numberOf (b : Nat) : Nat := cond (Nat.blt b 2) (cond (Nat.blt b 1) (0) (3)) (cond (Nat.blt b 3) (30) (cond (Nat.blt b 4) (36) (42)))
def qp_X2_beginsAt (b : Nat) : Nat := cond (Nat.blt b 2) (cond (Nat.blt b 1) (0) (3)) (cond (Nat.blt b 3) (28) (cond (Nat.blt b 4) (33) (39)))
def qp_X2_insert (b : Nat) : Nat := cond (Nat.blt b 4) (cond (Nat.blt b 2) (cond (Nat.blt b 1) (0) (26)) (cond (Nat.blt b 3) (28) (31))) (cond (Nat.blt b 6) (cond (Nat.blt b 5) (55) (68)) (cond (Nat.blt b 7) (97) (121)))
def qp_X2_firstDifference (b : Nat) : Nat := cond (Nat.blt b 2) (cond (Nat.blt b 1) (0) (17)) (cond (Nat.blt b 3) (43) (49))
def qp_X2_isLess (b : Nat) : Nat := cond (Nat.blt b 2) (cond (Nat.blt b 1) (0) (22)) (cond (Nat.blt b 3) (26) (27))
def qp_X2_rankOf (b : Nat) : Nat := cond (Nat.blt b 2) (cond (Nat.blt b 1) (0) (4)) (cond (Nat.blt b 3) (24) (30))
def qp_X2_differences (b : Nat) : Nat := cond (Nat.blt b 2) (cond (Nat.blt b 1) (0) (5)) (cond (Nat.blt b 3) (31) (cond (Nat.blt b 4) (36) (42)))
def qp_X2_writeKey (b : Nat) : Nat := cond (Nat.blt b 1) (0) (cond (Nat.blt b 2) (2) (27))
def qp_X3_init (b : Nat) : Nat := cond (Nat.blt b 1) (0) (28)
def qp_X4_init (b : Nat) : Nat := 0
def qp_X4_sort (b : Nat) : Nat := cond (Nat.blt b 2) (cond (Nat.blt b 1) (0) (2)) (cond (Nat.blt b 3) (32) (35))
def qp_X5_init (b : Nat) : Nat := cond (Nat.blt b 1) (0) (cond (Nat.blt b 2) (27) (49))
def qp_X6_init (b : Nat) : Nat := cond (Nat.blt b 1) (0) (25)
def qp_X6_choose (b : Nat) : Nat := cond (Nat.blt b 2) (cond (Nat.blt b 1) (0) (11)) (cond (Nat.blt b 3) (37) (cond (Nat.blt b 4) (46) (52)))
def qp_X6_turned (b : Nat) : Nat := cond (Nat.blt b 2) (cond (Nat.blt b 1) (0) (4)) (cond (Nat.blt b 3) (26) (cond (Nat.blt b 4) (27) (33)))
def qp_X6_collectPairs (b : Nat) : Nat := cond (Nat.blt b 3) (cond (Nat.blt b 1) (0) (cond (Nat.blt b 2) (7) (20))) (cond (Nat.blt b 5) (cond (Nat.blt b 4) (48) (74)) (cond (Nat.blt b 6) (80) (86)))
def qp_X6_separates (b : Nat) : Nat := cond (Nat.blt b 2) (cond (Nat.blt b 1) (0) (2)) (cond (Nat.blt b 3) (25) (31))
def qp_X6_hashOf (b : Nat) : Nat := cond (Nat.blt b 4) (cond (Nat.blt b 2) (cond (Nat.blt b 1) (0) (5)) (cond (Nat.blt b 3) (30) (46))) (cond (Nat.blt b 6) (cond (Nat.blt b 5) (47) (49)) (cond (Nat.blt b 7) (55) (73)))
def qp_X7_init (b : Nat) : Nat := cond (Nat.blt b 2) (cond (Nat.blt b 1) (0) (28)) (cond (Nat.blt b 3) (57) (81))
def qp_X7_build (b : Nat) : Nat := cond (Nat.blt b 3) (cond (Nat.blt b 1) (0) (cond (Nat.blt b 2) (20) (47))) (cond (Nat.blt b 4) (73) (cond (Nat.blt b 5) (78) (107)))
def qp_X7_trySeed (b : Nat) : Nat := cond (Nat.blt b 3) (cond (Nat.blt b 1) (0) (cond (Nat.blt b 2) (22) (28))) (cond (Nat.blt b 5) (cond (Nat.blt b 4) (56) (58)) (cond (Nat.blt b 6) (64) (70)))
def qp_X7_hashKeys (b : Nat) : Nat := cond (Nat.blt b 5) (cond (Nat.blt b 2) (cond (Nat.blt b 1) (0) (2)) (cond (Nat.blt b 3) (28) (cond (Nat.blt b 4) (34) (36)))) (cond (Nat.blt b 7) (cond (Nat.blt b 6) (66) (92)) (cond (Nat.blt b 8) (118) (cond (Nat.blt b 9) (144) (171))))
def qp_X7_place (b : Nat) : Nat := cond (Nat.blt b 2) (cond (Nat.blt b 1) (0) (2)) (cond (Nat.blt b 3) (27) (cond (Nat.blt b 4) (28) (34)))
def qp_X7_takeSlots (b : Nat) : Nat := cond (Nat.blt b 3) (cond (Nat.blt b 1) (0) (cond (Nat.blt b 2) (8) (36))) (cond (Nat.blt b 5) (cond (Nat.blt b 4) (64) (71)) (cond (Nat.blt b 6) (76) (82)))
def qp_X7_nameOwners (b : Nat) : Nat := cond (Nat.blt b 3) (cond (Nat.blt b 1) (0) (cond (Nat.blt b 2) (2) (25))) (cond (Nat.blt b 5) (cond (Nat.blt b 4) (27) (55)) (cond (Nat.blt b 6) (83) (89)))
def qp_X7_slotFor (b : Nat) : Nat := cond (Nat.blt b 1) (0) (11)
def qp_X7_bucketFor (b : Nat) : Nat := cond (Nat.blt b 1) (0) (11)
def qp_X8_init (b : Nat) : Nat := 0
def qp_X8_empty (b : Nat) : Nat := 0
def qp_X8_signAt (b : Nat) : Nat := cond (Nat.blt b 2) (cond (Nat.blt b 1) (0) (26)) (cond (Nat.blt b 3) (30) (31))
def qp_X8_write (b : Nat) : Nat := cond (Nat.blt b 1) (0) (cond (Nat.blt b 2) (28) (39))
def qp_X8_isKeySign (b : Nat) : Nat := cond (Nat.blt b 1) (0) (cond (Nat.blt b 2) (20) (25))
def qp_X8_isKey (b : Nat) : Nat := cond (Nat.blt b 3) (cond (Nat.blt b 1) (0) (cond (Nat.blt b 2) (2) (20))) (cond (Nat.blt b 4) (26) (cond (Nat.blt b 5) (47) (48)))
def qp_L_append (b : Nat) : Nat := cond (Nat.blt b 1) (0) (18)
def qp_L_add (b : Nat) : Nat := cond (Nat.blt b 1) (0) (18)
def qp_L_trees (b : Nat) : Nat := cond (Nat.blt b 1) (0) (15)
def qp_L_law (b : Nat) : Nat := cond (Nat.blt b 18) (cond (Nat.blt b 9) (cond (Nat.blt b 4) (cond (Nat.blt b 2) (cond (Nat.blt b 1) (0) (23)) (cond (Nat.blt b 3) (172) (191))) (cond (Nat.blt b 6) (cond (Nat.blt b 5) (200) (213)) (cond (Nat.blt b 7) (232) (cond (Nat.blt b 8) (241) (269))))) (cond (Nat.blt b 13) (cond (Nat.blt b 11) (cond (Nat.blt b 10) (309) (349)) (cond (Nat.blt b 12) (377) (393))) (cond (Nat.blt b 15) (cond (Nat.blt b 14) (406) (446)) (cond (Nat.blt b 16) (486) (cond (Nat.blt b 17) (526) (554)))))) (cond (Nat.blt b 27) (cond (Nat.blt b 22) (cond (Nat.blt b 20) (cond (Nat.blt b 19) (582) (610)) (cond (Nat.blt b 21) (638) (666))) (cond (Nat.blt b 24) (cond (Nat.blt b 23) (694) (722)) (cond (Nat.blt b 25) (735) (cond (Nat.blt b 26) (754) (763))))) (cond (Nat.blt b 32) (cond (Nat.blt b 29) (cond (Nat.blt b 28) (776) (801)) (cond (Nat.blt b 30) (829) (cond (Nat.blt b 31) (857) (885)))) (cond (Nat.blt b 34) (cond (Nat.blt b 33) (901) (941)) (cond (Nat.blt b 35) (954) (cond (Nat.blt b 36) (998) (1004))))))
def qp_J6_bitCount_0f7a4 (b : Nat) : Nat := cond (Nat.blt b 1) (0) (cond (Nat.blt b 2) (18) (36))
def qw_p (j b : Nat) : Nat := cond (Nat.blt j 169) (cond (Nat.blt j 91) (cond (Nat.blt j 43) (cond (Nat.blt j 32) (cond (Nat.blt j 3) (cond (Nat.blt j 1) (qp_X9_init b) (qp_X9_append b)) (cond (Nat.blt j 21) (qp_X9_add b) (qp_X9_trees b))) (cond (Nat.blt j 38) (cond (Nat.blt j 37) (qp_X9_requireBranch b) (qp_X9_prepare b)) (cond (Nat.blt j 39) (qp_X9_at b) (cond (Nat.blt j 42) (qp_X9_put b) (qp_X9_contains b))))) (cond (Nat.blt j 53) (cond (Nat.blt j 49) (cond (Nat.blt j 47) (qp_X9_isLetter b) (qp_X10_init b)) (cond (Nat.blt j 51) (qp_X10_in b) (cond (Nat.blt j 52) (qp_X10_isSign b) (qp_X10_at b)))) (cond (Nat.blt j 56) (cond (Nat.blt j 55) (qp_X10_append b) (qp_X10_keyAt b)) (cond (Nat.blt j 58) (qp_X10_addKey b) (cond (Nat.blt j 89) (qp_X10_add b) (qp_X10_marked b)))))) (cond (Nat.blt j 155) (cond (Nat.blt j 96) (cond (Nat.blt j 93) (cond (Nat.blt j 92) (qp_X10_positionOf b) (qp_X10_ofLength b)) (cond (Nat.blt j 95) (qp_X10_child b) (qp_X10_measure b))) (cond (Nat.blt j 152) (cond (Nat.blt j 138) (qp_X10_trees b) (qp_X0_init b)) (cond (Nat.blt j 153) (qp_X1_init b) (cond (Nat.blt j 154) (qp_X1_grow b) (qp_X1_isLeaf b))))) (cond (Nat.blt j 163) (cond (Nat.blt j 160) (cond (Nat.blt j 159) (qp_X1_keyOf b) (qp_X1_plant b)) (cond (Nat.blt j 161) (qp_X1_plantRoots b) (cond (Nat.blt j 162) (qp_X1_split b) (qp_X1_choosePosition b)))) (cond (Nat.blt j 165) (cond (Nat.blt j 164) (qp_X1_penaltyOf b) (qp_X1_sortMembers b)) (cond (Nat.blt j 167) (qp_X2_init b) (cond (Nat.blt j 168) (qp_X2_lengthOf b) (qp_X2_letterAt b))))))) (cond (Nat.blt j 209) (cond (Nat.blt j 190) (cond (Nat.blt j 176) (cond (Nat.blt j 171) (cond (Nat.blt j 170) (qp_X2_numberOf b) (qp_X2_beginsAt b)) (cond (Nat.blt j 175) (qp_X2_insert b) (qp_X2_firstDifference b))) (cond (Nat.blt j 178) (cond (Nat.blt j 177) (qp_X2_isLess b) (qp_X2_rankOf b)) (cond (Nat.blt j 181) (qp_X2_differences b) (cond (Nat.blt j 182) (qp_X2_writeKey b) (qp_X3_init b))))) (cond (Nat.blt j 204) (cond (Nat.blt j 192) (cond (Nat.blt j 191) (qp_X4_init b) (qp_X4_sort b)) (cond (Nat.blt j 202) (qp_X5_init b) (cond (Nat.blt j 203) (qp_X6_init b) (qp_X6_choose b)))) (cond (Nat.blt j 206) (cond (Nat.blt j 205) (qp_X6_turned b) (qp_X6_collectPairs b)) (cond (Nat.blt j 207) (qp_X6_separates b) (cond (Nat.blt j 208) (qp_X6_hashOf b) (qp_X7_init b)))))) (cond (Nat.blt j 219) (cond (Nat.blt j 213) (cond (Nat.blt j 211) (cond (Nat.blt j 210) (qp_X7_build b) (qp_X7_trySeed b)) (cond (Nat.blt j 212) (qp_X7_hashKeys b) (qp_X7_place b))) (cond (Nat.blt j 215) (cond (Nat.blt j 214) (qp_X7_takeSlots b) (qp_X7_nameOwners b)) (cond (Nat.blt j 216) (qp_X7_slotFor b) (cond (Nat.blt j 218) (qp_X7_bucketFor b) (qp_X8_init b))))) (cond (Nat.blt j 225) (cond (Nat.blt j 221) (cond (Nat.blt j 220) (qp_X8_empty b) (qp_X8_signAt b)) (cond (Nat.blt j 223) (qp_X8_write b) (cond (Nat.blt j 224) (qp_X8_isKeySign b) (qp_X8_isKey b)))) (cond (Nat.blt j 242) (cond (Nat.blt j 226) (qp_L_append b) (qp_L_add b)) (cond (Nat.blt j 249) (qp_L_trees b) (cond (Nat.blt j 250) (qp_L_law b) (qp_J6_bitCount_0f7a4 b)))))))
def qw_hh (j : Nat) : List (Nat × Nat × Nat × Nat) := cond (Nat.blt j 169) (cond (Nat.blt j 91) (cond (Nat.blt j 43) (cond (Nat.blt j 32) (cond (Nat.blt j 3) (cond (Nat.blt j 1) ([]) ([])) (cond (Nat.blt j 21) ([]) ([]))) (cond (Nat.blt j 38) (cond (Nat.blt j 37) ([]) ([])) (cond (Nat.blt j 39) ([]) (cond (Nat.blt j 42) ([]) ([]))))) (cond (Nat.blt j 53) (cond (Nat.blt j 49) (cond (Nat.blt j 47) ([]) ([])) (cond (Nat.blt j 51) ([]) (cond (Nat.blt j 52) ([]) ([])))) (cond (Nat.blt j 56) (cond (Nat.blt j 55) ([]) ([])) (cond (Nat.blt j 58) ([]) (cond (Nat.blt j 89) ([]) ([])))))) (cond (Nat.blt j 155) (cond (Nat.blt j 96) (cond (Nat.blt j 93) (cond (Nat.blt j 92) ([]) ([])) (cond (Nat.blt j 95) ([]) ([]))) (cond (Nat.blt j 152) (cond (Nat.blt j 138) ([]) ([])) (cond (Nat.blt j 153) ([]) (cond (Nat.blt j 154) ([]) ([]))))) (cond (Nat.blt j 163) (cond (Nat.blt j 160) (cond (Nat.blt j 159) ([]) ([])) (cond (Nat.blt j 161) ([]) (cond (Nat.blt j 162) ([]) ([])))) (cond (Nat.blt j 165) (cond (Nat.blt j 164) ([]) ([])) (cond (Nat.blt j 167) ([]) (cond (Nat.blt j 168) ([]) ([]))))))) (cond (Nat.blt j 209) (cond (Nat.blt j 190) (cond (Nat.blt j 176) (cond (Nat.blt j 171) (cond (Nat.blt j 170) ([]) ([])) (cond (Nat.blt j 175) ([]) ([]))) (cond (Nat.blt j 178) (cond (Nat.blt j 177) ([]) ([])) (cond (Nat.blt j 181) ([]) (cond (Nat.blt j 182) ([]) ([]))))) (cond (Nat.blt j 204) (cond (Nat.blt j 192) (cond (Nat.blt j 191) ([]) ([])) (cond (Nat.blt j 202) ([]) (cond (Nat.blt j 203) ([]) ([])))) (cond (Nat.blt j 206) (cond (Nat.blt j 205) ([]) ([])) (cond (Nat.blt j 207) ([]) (cond (Nat.blt j 208) ([]) ([])))))) (cond (Nat.blt j 219) (cond (Nat.blt j 213) (cond (Nat.blt j 211) (cond (Nat.blt j 210) ([]) ([])) (cond (Nat.blt j 212) ([]) ([]))) (cond (Nat.blt j 215) (cond (Nat.blt j 214) ([]) ([])) (cond (Nat.blt j 216) ([]) (cond (Nat.blt j 218) ([]) ([]))))) (cond (Nat.blt j 225) (cond (Nat.blt j 221) (cond (Nat.blt j 220) ([]) ([])) (cond (Nat.blt j 223) ([]) (cond (Nat.blt j 224) ([]) ([])))) (cond (Nat.blt j 242) (cond (Nat.blt j 226) ([(0, 9, 12, 13), (0, 9, 15, 15)]) ([(0, 9, 12, 13), (0, 9, 15, 15)])) (cond (Nat.blt j 249) ([(0, 9, 12, 13)]) (cond (Nat.blt j 250) ([]) ([])))))))
def qw_T (j : Nat) (c : Code) : Prop := c.exceptionTable.toList = tableOf (qw_hh j)
def qw_nest : List (String × Nat × MethodName × String) := [("TextSwitchCompiler", 20, ⟨"TextSwitchCompiler$Keys", "<init>", "()V"⟩, "TextSwitchCompiler"), ("TextSwitchCompiler", 34, ⟨"TextSwitchCompiler$Commands", "<init>", "()V"⟩, "TextSwitchCompiler"), ("TextSwitchCompiler$Commands", 29, ⟨"TextSwitchCompiler$Keys", "<init>", "()V"⟩, "TextSwitchCompiler"), ("TextSwitchCompiler$Forest", 60, ⟨"TextSwitchCompiler", "at", "([II)I"⟩, "TextSwitchCompiler"), ("TextSwitchCompiler$Forest", 78, ⟨"TextSwitchCompiler", "put", "([III)V"⟩, "TextSwitchCompiler"), ("TextSwitchCompiler$Keys", 55, ⟨"TextSwitchCompiler", "put", "([III)V"⟩, "TextSwitchCompiler"), ("TextSwitchCompiler$Order", 29, ⟨"TextSwitchCompiler", "put", "([III)V"⟩, "TextSwitchCompiler"), ("TextSwitchCompiler$Selection", 42, ⟨"TextSwitchCompiler", "contains", "(II)Z"⟩, "TextSwitchCompiler"), ("TextSwitchCompiler$Selection", 58, ⟨"TextSwitchCompiler", "put", "([III)V"⟩, "TextSwitchCompiler"), ("TextSwitchCompiler$Selection", 62, ⟨"TextSwitchCompiler", "at", "([II)I"⟩, "TextSwitchCompiler"), ("TextSwitchCompiler$Table", 80, ⟨"TextSwitchCompiler", "at", "([II)I"⟩, "TextSwitchCompiler"), ("TextSwitchCompiler$Table", 90, ⟨"TextSwitchCompiler", "put", "([III)V"⟩, "TextSwitchCompiler"), ("TextSwitchCompiler$Text", 33, ⟨"TextSwitchCompiler", "isLetter", "(I)Z"⟩, "TextSwitchCompiler")]
def qw_casts : List (String × String) := [("java/lang/IllegalArgumentException", "java/lang/IllegalArgumentException"), ("java/lang/IllegalStateException", "java/lang/IllegalStateException"), ("java/lang/ArrayIndexOutOfBoundsException", "java/lang/ArrayIndexOutOfBoundsException"), ("java/lang/IndexOutOfBoundsException", "java/lang/IndexOutOfBoundsException"), ("java/lang/ArithmeticException", "java/lang/ArithmeticException"), ("java/lang/ArrayIndexOutOfBoundsException", "java/lang/IndexOutOfBoundsException")]
def qw_decls : List MethodName := [⟨"java/lang/RuntimeException", "<init>", "()V"⟩, ⟨"java/lang/RuntimeException", "<init>", "(Ljava/lang/String;)V"⟩, ⟨"java/lang/Exception", "<init>", "()V"⟩, ⟨"java/lang/Exception", "<init>", "(Ljava/lang/String;)V"⟩, ⟨"java/lang/Throwable", "<init>", "()V"⟩, ⟨"java/lang/Throwable", "<init>", "(Ljava/lang/String;)V"⟩, ⟨"java/lang/IndexOutOfBoundsException", "<init>", "()V"⟩, ⟨"java/lang/IndexOutOfBoundsException", "<init>", "(Ljava/lang/String;)V"⟩]
def qw_ncs : List (String × String) := [("java/lang/IllegalArgumentException", "java/lang/IllegalStateException"), ("java/lang/IllegalArgumentException", "java/lang/IndexOutOfBoundsException"), ("java/lang/IllegalArgumentException", "java/lang/ArithmeticException"), ("java/lang/IllegalStateException", "java/lang/IllegalArgumentException"), ("java/lang/IllegalStateException", "java/lang/IndexOutOfBoundsException"), ("java/lang/IllegalStateException", "java/lang/ArithmeticException"), ("java/lang/IndexOutOfBoundsException", "java/lang/IllegalArgumentException"), ("java/lang/IndexOutOfBoundsException", "java/lang/IllegalStateException"), ("java/lang/IndexOutOfBoundsException", "java/lang/ArithmeticException"), ("java/lang/ArithmeticException", "java/lang/IllegalArgumentException"), ("java/lang/ArithmeticException", "java/lang/IllegalStateException"), ("java/lang/ArithmeticException", "java/lang/IndexOutOfBoundsException")]
def qw_strs : List (String × Nat × String × Nat) := [("TextSwitchCompiler", 96, "a byte is no character", 1), ("TextSwitchCompiler", 106, "the buffer is too short", 2), ("TextSwitchCompiler", 119, "the text cannot be a key", 3), ("TextSwitchCompiler", 128, "the key exists already, or there are too many", 4), ("TextSwitchCompiler", 151, "the weight is out of range", 5), ("TextSwitchCompiler", 156, "the load is out of range", 6), ("TextSwitchCompiler", 175, "a form error", 7), ("TextSwitchCompiler", 177, "an execution error", 8), ("TextSwitchCompiler", 190, "no such property", 9), ("TextSwitchCompiler", 194, "no such position", 10), ("TextSwitchCompiler", 201, "both keys are the same", 11), ("TextSwitchCompiler", 206, "no such size", 12), ("TextSwitchCompiler", 239, "no keys", 13), ("TextSwitchCompiler", 290, "no such slot", 14), ("TextSwitchCompiler", 295, "no such bucket", 15), ("TextSwitchCompiler", 310, "no such index", 16), ("TextSwitchCompiler", 318, "nothing was saved", 17), ("TextSwitchCompiler", 323, "no such key", 18), ("TextSwitchCompiler", 325, "the branch is out of range", 19), ("TextSwitchCompiler", 327, "no such strategy", 20), ("TextSwitchCompiler", 329, "there is no table", 21), ("TextSwitchCompilerModel", 138, "add", 22), ("TextSwitchCompilerModel", 144, "del", 23), ("TextSwitchCompilerModel", 146, "weight", 24), ("TextSwitchCompilerModel", 148, "load", 25), ("TextSwitchCompiler$Commands", 83, "add", 26), ("TextSwitchCompiler$Commands", 89, "del", 27), ("TextSwitchCompiler$Commands", 91, "weight", 28), ("TextSwitchCompiler$Commands", 93, "load", 29)]
def qw_Os : qw_O := (qw_nest, qw_casts, qw_decls, qw_ncs, qw_strs)
def qZ (E : qe_E) (L : Nat) : qe_Z := (vwCl, E, qw_X qw_Os E.2.2.1 L E.2.2.2, qw_M, qw_n, qw_p, qw_T)
theorem qZ_X (E : qe_E) (L : Nat) : zX (qZ E L) = qw_X qw_Os (zE (qZ E L)).2.2.1 L (zE (qZ E L)).2.2.2 := rfl
theorem qZ_ok (E : qe_E) (L : Nat) : qz_ok (qZ E L) := qz_of (O := qw_Os) (qZ_X E L)
def qn_2 : Nat := 0x3000000000000000003000000000000000003000000000000000003000000000000000003000000000000000003
def qfs_2 : List Value := [.null, .null, .null, .null, .null, .null, .int 0, .int 0, .int 0]
theorem qfa_2 : ∀ (E : qe_E) (ad : Nat → Nat), (List.range 9).map (fun k => qe_v E ad (qe_get qn_2 k)) = qfs_2 := fun E ad => rfl
theorem qfb_2 : ∀ j, j < 9 → defaultValue (tyX0 j) = vp_V qfs_2 j := by decide +kernel
theorem qfc_2 : qn_2 < 2 ^ (72 * 9) := by decide +kernel
theorem qfd_2 : ∀ k, k < 9 → qe_is 2 (qe_get qn_2 k) = false := by decide +kernel
def qn_3 : Nat := 0x3000000000000000003000000000000000003000000000000000003000000000000000003000000000000000003000000000000000003000000000000000003000000000000000003
def qfs_3 : List Value := [.null, .null, .null, .null, .null, .null, .null, .null, .null, .int 0, .int 0, .int 0, .int 0]
theorem qfa_3 : ∀ (E : qe_E) (ad : Nat → Nat), (List.range 13).map (fun k => qe_v E ad (qe_get qn_3 k)) = qfs_3 := fun E ad => rfl
theorem qfb_3 : ∀ j, j < 13 → defaultValue (tyX1 j) = vp_V qfs_3 j := by decide +kernel
theorem qfc_3 : qn_3 < 2 ^ (72 * 13) := by decide +kernel
theorem qfd_3 : ∀ k, k < 13 → qe_is 2 (qe_get qn_3 k) = false := by decide +kernel
def qn_4 : Nat := 0x3000000000000000003000000000000000003000000000000000003
def qfs_4 : List Value := [.null, .null, .null, .null, .int 0, .int 0, .int 0]
theorem qfa_4 : ∀ (E : qe_E) (ad : Nat → Nat), (List.range 7).map (fun k => qe_v E ad (qe_get qn_4 k)) = qfs_4 := fun E ad => rfl
theorem qfb_4 : ∀ j, j < 7 → defaultValue (tyX2 j) = vp_V qfs_4 j := by decide +kernel
theorem qfc_4 : qn_4 < 2 ^ (72 * 7) := by decide +kernel
theorem qfd_4 : ∀ k, k < 7 → qe_is 2 (qe_get qn_4 k) = false := by decide +kernel
def qn_5 : Nat := 0x3000000000000000003000000000000000003000000000000000003000000000000000003
def qfs_5 : List Value := [.null, .null, .null, .null, .null]
theorem qfa_5 : ∀ (E : qe_E) (ad : Nat → Nat), (List.range 5).map (fun k => qe_v E ad (qe_get qn_5 k)) = qfs_5 := fun E ad => rfl
theorem qfb_5 : ∀ j, j < 5 → defaultValue (tyX3 j) = vp_V qfs_5 j := by decide +kernel
theorem qfc_5 : qn_5 < 2 ^ (72 * 5) := by decide +kernel
theorem qfd_5 : ∀ k, k < 5 → qe_is 2 (qe_get qn_5 k) = false := by decide +kernel
def qn_6 : Nat := 0x3000000000000000003
def qfs_6 : List Value := [.null, .null]
theorem qfa_6 : ∀ (E : qe_E) (ad : Nat → Nat), (List.range 2).map (fun k => qe_v E ad (qe_get qn_6 k)) = qfs_6 := fun E ad => rfl
theorem qfb_6 : ∀ j, j < 2 → defaultValue (tyX4 j) = vp_V qfs_6 j := by decide +kernel
theorem qfc_6 : qn_6 < 2 ^ (72 * 2) := by decide +kernel
theorem qfd_6 : ∀ k, k < 2 → qe_is 2 (qe_get qn_6 k) = false := by decide +kernel
def qn_7 : Nat := 0x3000000000000000003000000000000000003000000000000000003000000000000000003
def qfs_7 : List Value := [.null, .null, .null, .null, .null, .int 0, .int 0, .int 0, .int 0]
theorem qfa_7 : ∀ (E : qe_E) (ad : Nat → Nat), (List.range 9).map (fun k => qe_v E ad (qe_get qn_7 k)) = qfs_7 := fun E ad => rfl
theorem qfb_7 : ∀ j, j < 9 → defaultValue (tyX5 j) = vp_V qfs_7 j := by decide +kernel
theorem qfc_7 : qn_7 < 2 ^ (72 * 9) := by decide +kernel
theorem qfd_7 : ∀ k, k < 9 → qe_is 2 (qe_get qn_7 k) = false := by decide +kernel
def qn_8 : Nat := 0x3000000000000000003
def qfs_8 : List Value := [.null, .null, .int 0, .int 0]
theorem qfa_8 : ∀ (E : qe_E) (ad : Nat → Nat), (List.range 4).map (fun k => qe_v E ad (qe_get qn_8 k)) = qfs_8 := fun E ad => rfl
theorem qfb_8 : ∀ j, j < 4 → defaultValue (tyX6 j) = vp_V qfs_8 j := by decide +kernel
theorem qfc_8 : qn_8 < 2 ^ (72 * 4) := by decide +kernel
theorem qfd_8 : ∀ k, k < 4 → qe_is 2 (qe_get qn_8 k) = false := by decide +kernel
def qn_9 : Nat := 0x1000000000000000000000000000000000000000000000000000000000000000000000000000000000000000003000000000000000003000000000000000003000000000000000003000000000000000003000000000000000003000000000000000003000000000000000003000000000000000003
def qfs_9 : List Value := [.null, .null, .null, .null, .null, .null, .null, .null, .null, .int 0, .int 0, .int 0, .int 0, .long 0]
theorem qfa_9 : ∀ (E : qe_E) (ad : Nat → Nat), (List.range 14).map (fun k => qe_v E ad (qe_get qn_9 k)) = qfs_9 := fun E ad => rfl
theorem qfb_9 : ∀ j, j < 14 → defaultValue (tyX7 j) = vp_V qfs_9 j := by decide +kernel
theorem qfc_9 : qn_9 < 2 ^ (72 * 14) := by decide +kernel
theorem qfd_9 : ∀ k, k < 14 → qe_is 2 (qe_get qn_9 k) = false := by decide +kernel
def qn_10 : Nat := 0x3
def qfs_10 : List Value := [.null, .int 0]
theorem qfa_10 : ∀ (E : qe_E) (ad : Nat → Nat), (List.range 2).map (fun k => qe_v E ad (qe_get qn_10 k)) = qfs_10 := fun E ad => rfl
theorem qfb_10 : ∀ j, j < 2 → defaultValue (tyX8 j) = vp_V qfs_10 j := by decide +kernel
theorem qfc_10 : qn_10 < 2 ^ (72 * 2) := by decide +kernel
theorem qfd_10 : ∀ k, k < 2 → qe_is 2 (qe_get qn_10 k) = false := by decide +kernel
def qn_11 : Nat := 0x3000000000000000003000000000000000003000000000000000003000000000000000003000000000000000003000000000000000000000000000000000003000000000000000000000000000000000003000000000000000003000000000000000003
def qfs_11 : List Value := [.null, .null, .null, .int 0, .null, .int 0, .null, .null, .null, .null, .null, .null, .int 0]
theorem qfa_11 : ∀ (E : qe_E) (ad : Nat → Nat), (List.range 13).map (fun k => qe_v E ad (qe_get qn_11 k)) = qfs_11 := fun E ad => rfl
theorem qfb_11 : ∀ j, j < 13 → defaultValue (tyX9 j) = vp_V qfs_11 j := by decide +kernel
theorem qfc_11 : qn_11 < 2 ^ (72 * 13) := by decide +kernel
theorem qfd_11 : ∀ k, k < 13 → qe_is 2 (qe_get qn_11 k) = false := by decide +kernel
def qn_12 : Nat := 0x3000000000000000003000000000000000003000000000000000003000000000000000003000000000000000000000000000000000000000000000000000000000000000000000000000000000000000000000000000000000000000000000000000000000000000000000000000000000000000000000000000000000000000000000000000003000000000000000000000000000000000000000000000000000003000000000000000003000000000000000000000000000000000000000000000000000000000000000000000003000000000000000003000000000000000003000000000000000003000000000000000003000000000000000000000000000000000000000000000000000000000000000000000003000000000000000000000000000000000003000000000000000003
def qfs_12 : List Value := [.null, .null, .int 0, .null, .int 0, .int 0, .int 0, .null, .null, .null, .null, .null, .int 0, .int 0, .int 0, .null, .null, .int 0, .int 0, .null, .int 0, .int 0, .int 0, .int 0, .int 0, .int 0, .int 0, .int 0, .int 0, .int 0, .null, .null, .null, .null, .null, .int 0]
theorem qfa_12 : ∀ (E : qe_E) (ad : Nat → Nat), (List.range 36).map (fun k => qe_v E ad (qe_get qn_12 k)) = qfs_12 := fun E ad => rfl
theorem qfb_12 : ∀ j, j < 36 → defaultValue (tyX10 j) = vp_V qfs_12 j := by decide +kernel
theorem qfc_12 : qn_12 < 2 ^ (72 * 36) := by decide +kernel
theorem qfd_12 : ∀ k, k < 36 → qe_is 2 (qe_get qn_12 k) = false := by decide +kernel
theorem qh_X9_init : qw_d yX9_init 0 := ⟨by decide +kernel, by decide +kernel, by decide +kernel⟩
theorem qmb_X9_init (E : qe_E) (L : Nat) : qx_mb (qZ E L) 0 := ⟨show plainName yX9_init.cls = true by decide +kernel, Nat.le_of_ble_eq_true rfl, rfl, Or.inl ⟨qw_G, rfl, fun c h => List.eq_nil_iff_forall_not_mem.mpr h⟩⟩
theorem qh_X9_append : qw_d yX9_append 1 := ⟨by decide +kernel, by decide +kernel, by decide +kernel⟩
theorem qmb_X9_append (E : qe_E) (L : Nat) : qx_mb (qZ E L) 1 := ⟨show plainName yX9_append.cls = true by decide +kernel, Nat.le_of_ble_eq_true rfl, rfl, Or.inl ⟨qw_G, rfl, fun c h => List.eq_nil_iff_forall_not_mem.mpr h⟩⟩
theorem qh_X9_add : qw_d yX9_add 1 := ⟨by decide +kernel, by decide +kernel, by decide +kernel⟩
theorem qmb_X9_add (E : qe_E) (L : Nat) : qx_mb (qZ E L) 3 := ⟨show plainName yX9_add.cls = true by decide +kernel, Nat.le_of_ble_eq_true rfl, rfl, Or.inl ⟨qw_G, rfl, fun c h => List.eq_nil_iff_forall_not_mem.mpr h⟩⟩
theorem qh_X9_trees : qw_d yX9_trees 1 := ⟨by decide +kernel, by decide +kernel, by decide +kernel⟩
theorem qmb_X9_trees (E : qe_E) (L : Nat) : qx_mb (qZ E L) 21 := ⟨show plainName yX9_trees.cls = true by decide +kernel, Nat.le_of_ble_eq_true rfl, rfl, Or.inl ⟨qw_G, rfl, fun c h => List.eq_nil_iff_forall_not_mem.mpr h⟩⟩
theorem qh_X9_requireBranch : qw_d yX9_requireBranch 1 := ⟨by decide +kernel, by decide +kernel, by decide +kernel⟩
theorem qmb_X9_requireBranch (E : qe_E) (L : Nat) : qx_mb (qZ E L) 32 := ⟨show plainName yX9_requireBranch.cls = true by decide +kernel, Nat.le_of_ble_eq_true rfl, rfl, Or.inl ⟨qw_G, rfl, fun c h => List.eq_nil_iff_forall_not_mem.mpr h⟩⟩
theorem qh_X9_prepare : qw_d yX9_prepare 0 := ⟨by decide +kernel, by decide +kernel, by decide +kernel⟩
theorem qmb_X9_prepare (E : qe_E) (L : Nat) : qx_mb (qZ E L) 37 := ⟨show plainName yX9_prepare.cls = true by decide +kernel, Nat.le_of_ble_eq_true rfl, rfl, Or.inl ⟨qw_G, rfl, fun c h => List.eq_nil_iff_forall_not_mem.mpr h⟩⟩
theorem qh_X9_at : qw_d yX9_at 2 := ⟨by decide +kernel, by decide +kernel, by decide +kernel⟩
theorem qmb_X9_at (E : qe_E) (L : Nat) : qx_mb (qZ E L) 38 := ⟨show plainName yX9_at.cls = true by decide +kernel, Nat.le_of_ble_eq_true rfl, rfl, Or.inl ⟨qw_G, rfl, fun c h => List.eq_nil_iff_forall_not_mem.mpr h⟩⟩
theorem qh_X9_put : qw_d yX9_put 3 := ⟨by decide +kernel, by decide +kernel, by decide +kernel⟩
theorem qmb_X9_put (E : qe_E) (L : Nat) : qx_mb (qZ E L) 39 := ⟨show plainName yX9_put.cls = true by decide +kernel, Nat.le_of_ble_eq_true rfl, rfl, Or.inl ⟨qw_G, rfl, fun c h => List.eq_nil_iff_forall_not_mem.mpr h⟩⟩
theorem qh_X9_contains : qw_d yX9_contains 2 := ⟨by decide +kernel, by decide +kernel, by decide +kernel⟩
theorem qmb_X9_contains (E : qe_E) (L : Nat) : qx_mb (qZ E L) 42 := ⟨show plainName yX9_contains.cls = true by decide +kernel, Nat.le_of_ble_eq_true rfl, rfl, Or.inl ⟨qw_G, rfl, fun c h => List.eq_nil_iff_forall_not_mem.mpr h⟩⟩
theorem qh_X9_isLetter : qw_d yX9_isLetter 1 := ⟨by decide +kernel, by decide +kernel, by decide +kernel⟩
theorem qmb_X9_isLetter (E : qe_E) (L : Nat) : qx_mb (qZ E L) 43 := ⟨show plainName yX9_isLetter.cls = true by decide +kernel, Nat.le_of_ble_eq_true rfl, rfl, Or.inl ⟨qw_G, rfl, fun c h => List.eq_nil_iff_forall_not_mem.mpr h⟩⟩
theorem qh_X10_init : qw_d yX10_init 0 := ⟨by decide +kernel, by decide +kernel, by decide +kernel⟩
theorem qmb_X10_init (E : qe_E) (L : Nat) : qx_mb (qZ E L) 47 := ⟨show plainName yX10_init.cls = true by decide +kernel, Nat.le_of_ble_eq_true rfl, rfl, Or.inl ⟨qw_G, rfl, fun c h => List.eq_nil_iff_forall_not_mem.mpr h⟩⟩
theorem qh_X10_in : qw_d yX10_in 3 := ⟨by decide +kernel, by decide +kernel, by decide +kernel⟩
theorem qmb_X10_in (E : qe_E) (L : Nat) : qx_mb (qZ E L) 49 := ⟨show plainName yX10_in.cls = true by decide +kernel, Nat.le_of_ble_eq_true rfl, rfl, Or.inl ⟨qw_G, rfl, fun c h => List.eq_nil_iff_forall_not_mem.mpr h⟩⟩
theorem qh_X10_isSign : qw_d yX10_isSign 1 := ⟨by decide +kernel, by decide +kernel, by decide +kernel⟩
theorem qmb_X10_isSign (E : qe_E) (L : Nat) : qx_mb (qZ E L) 51 := ⟨show plainName yX10_isSign.cls = true by decide +kernel, Nat.le_of_ble_eq_true rfl, rfl, Or.inl ⟨qw_G, rfl, fun c h => List.eq_nil_iff_forall_not_mem.mpr h⟩⟩
theorem qh_X10_at : qw_d yX10_at 2 := ⟨by decide +kernel, by decide +kernel, by decide +kernel⟩
theorem qmb_X10_at (E : qe_E) (L : Nat) : qx_mb (qZ E L) 52 := ⟨show plainName yX10_at.cls = true by decide +kernel, Nat.le_of_ble_eq_true rfl, rfl, Or.inl ⟨qw_G, rfl, fun c h => List.eq_nil_iff_forall_not_mem.mpr h⟩⟩
theorem qh_X10_append : qw_d yX10_append 1 := ⟨by decide +kernel, by decide +kernel, by decide +kernel⟩
theorem qmb_X10_append (E : qe_E) (L : Nat) : qx_mb (qZ E L) 53 := ⟨show plainName yX10_append.cls = true by decide +kernel, Nat.le_of_ble_eq_true rfl, rfl, Or.inl ⟨qw_G, rfl, fun c h => List.eq_nil_iff_forall_not_mem.mpr h⟩⟩
theorem qh_X10_keyAt : qw_d yX10_keyAt 2 := ⟨by decide +kernel, by decide +kernel, by decide +kernel⟩
theorem qmb_X10_keyAt (E : qe_E) (L : Nat) : qx_mb (qZ E L) 55 := ⟨show plainName yX10_keyAt.cls = true by decide +kernel, Nat.le_of_ble_eq_true rfl, rfl, Or.inl ⟨qw_G, rfl, fun c h => List.eq_nil_iff_forall_not_mem.mpr h⟩⟩
theorem qh_X10_addKey : qw_d yX10_addKey 3 := ⟨by decide +kernel, by decide +kernel, by decide +kernel⟩
theorem qmb_X10_addKey (E : qe_E) (L : Nat) : qx_mb (qZ E L) 56 := ⟨show plainName yX10_addKey.cls = true by decide +kernel, Nat.le_of_ble_eq_true rfl, rfl, Or.inl ⟨qw_G, rfl, fun c h => List.eq_nil_iff_forall_not_mem.mpr h⟩⟩
theorem qh_X10_add : qw_d yX10_add 1 := ⟨by decide +kernel, by decide +kernel, by decide +kernel⟩
theorem qmb_X10_add (E : qe_E) (L : Nat) : qx_mb (qZ E L) 58 := ⟨show plainName yX10_add.cls = true by decide +kernel, Nat.le_of_ble_eq_true rfl, rfl, Or.inl ⟨qw_G, rfl, fun c h => List.eq_nil_iff_forall_not_mem.mpr h⟩⟩
theorem qh_X10_marked : qw_d yX10_marked 1 := ⟨by decide +kernel, by decide +kernel, by decide +kernel⟩
theorem qmb_X10_marked (E : qe_E) (L : Nat) : qx_mb (qZ E L) 89 := ⟨show plainName yX10_marked.cls = true by decide +kernel, Nat.le_of_ble_eq_true rfl, rfl, Or.inl ⟨qw_G, rfl, fun c h => List.eq_nil_iff_forall_not_mem.mpr h⟩⟩
theorem qh_X10_positionOf : qw_d yX10_positionOf 2 := ⟨by decide +kernel, by decide +kernel, by decide +kernel⟩
theorem qmb_X10_positionOf (E : qe_E) (L : Nat) : qx_mb (qZ E L) 91 := ⟨show plainName yX10_positionOf.cls = true by decide +kernel, Nat.le_of_ble_eq_true rfl, rfl, Or.inl ⟨qw_G, rfl, fun c h => List.eq_nil_iff_forall_not_mem.mpr h⟩⟩
theorem qh_X10_ofLength : qw_d yX10_ofLength 1 := ⟨by decide +kernel, by decide +kernel, by decide +kernel⟩
theorem qmb_X10_ofLength (E : qe_E) (L : Nat) : qx_mb (qZ E L) 92 := ⟨show plainName yX10_ofLength.cls = true by decide +kernel, Nat.le_of_ble_eq_true rfl, rfl, Or.inl ⟨qw_G, rfl, fun c h => List.eq_nil_iff_forall_not_mem.mpr h⟩⟩
theorem qh_X10_child : qw_d yX10_child 3 := ⟨by decide +kernel, by decide +kernel, by decide +kernel⟩
theorem qmb_X10_child (E : qe_E) (L : Nat) : qx_mb (qZ E L) 93 := ⟨show plainName yX10_child.cls = true by decide +kernel, Nat.le_of_ble_eq_true rfl, rfl, Or.inl ⟨qw_G, rfl, fun c h => List.eq_nil_iff_forall_not_mem.mpr h⟩⟩
theorem qh_X10_measure : qw_d yX10_measure 3 := ⟨by decide +kernel, by decide +kernel, by decide +kernel⟩
theorem qmb_X10_measure (E : qe_E) (L : Nat) : qx_mb (qZ E L) 95 := ⟨show plainName yX10_measure.cls = true by decide +kernel, Nat.le_of_ble_eq_true rfl, rfl, Or.inl ⟨qw_G, rfl, fun c h => List.eq_nil_iff_forall_not_mem.mpr h⟩⟩
theorem qh_X10_trees : qw_d yX10_trees 1 := ⟨by decide +kernel, by decide +kernel, by decide +kernel⟩
theorem qmb_X10_trees (E : qe_E) (L : Nat) : qx_mb (qZ E L) 96 := ⟨show plainName yX10_trees.cls = true by decide +kernel, Nat.le_of_ble_eq_true rfl, rfl, Or.inl ⟨qw_G, rfl, fun c h => List.eq_nil_iff_forall_not_mem.mpr h⟩⟩
theorem qh_X0_init : qw_d yX0_init 0 := ⟨by decide +kernel, by decide +kernel, by decide +kernel⟩
theorem qmb_X0_init (E : qe_E) (L : Nat) : qx_mb (qZ E L) 138 := ⟨show plainName yX0_init.cls = true by decide +kernel, Nat.le_of_ble_eq_true rfl, rfl, Or.inl ⟨qw_G, rfl, fun c h => List.eq_nil_iff_forall_not_mem.mpr h⟩⟩
theorem qh_X1_init : qw_d yX1_init 1 := ⟨by decide +kernel, by decide +kernel, by decide +kernel⟩
theorem qmb_X1_init (E : qe_E) (L : Nat) : qx_mb (qZ E L) 152 := ⟨show plainName yX1_init.cls = true by decide +kernel, Nat.le_of_ble_eq_true rfl, rfl, Or.inl ⟨qw_G, rfl, fun c h => List.eq_nil_iff_forall_not_mem.mpr h⟩⟩
theorem qh_X1_grow : qw_d yX1_grow 0 := ⟨by decide +kernel, by decide +kernel, by decide +kernel⟩
theorem qmb_X1_grow (E : qe_E) (L : Nat) : qx_mb (qZ E L) 153 := ⟨show plainName yX1_grow.cls = true by decide +kernel, Nat.le_of_ble_eq_true rfl, rfl, Or.inl ⟨qw_G, rfl, fun c h => List.eq_nil_iff_forall_not_mem.mpr h⟩⟩
theorem qh_X1_isLeaf : qw_d yX1_isLeaf 1 := ⟨by decide +kernel, by decide +kernel, by decide +kernel⟩
theorem qmb_X1_isLeaf (E : qe_E) (L : Nat) : qx_mb (qZ E L) 154 := ⟨show plainName yX1_isLeaf.cls = true by decide +kernel, Nat.le_of_ble_eq_true rfl, rfl, Or.inl ⟨qw_G, rfl, fun c h => List.eq_nil_iff_forall_not_mem.mpr h⟩⟩
theorem qh_X1_keyOf : qw_d yX1_keyOf 1 := ⟨by decide +kernel, by decide +kernel, by decide +kernel⟩
theorem qmb_X1_keyOf (E : qe_E) (L : Nat) : qx_mb (qZ E L) 155 := ⟨show plainName yX1_keyOf.cls = true by decide +kernel, Nat.le_of_ble_eq_true rfl, rfl, Or.inl ⟨qw_G, rfl, fun c h => List.eq_nil_iff_forall_not_mem.mpr h⟩⟩
theorem qh_X1_plant : qw_d yX1_plant 4 := ⟨by decide +kernel, by decide +kernel, by decide +kernel⟩
theorem qmb_X1_plant (E : qe_E) (L : Nat) : qx_mb (qZ E L) 159 := ⟨show plainName yX1_plant.cls = true by decide +kernel, Nat.le_of_ble_eq_true rfl, rfl, Or.inl ⟨qw_G, rfl, fun c h => List.eq_nil_iff_forall_not_mem.mpr h⟩⟩
theorem qh_X1_plantRoots : qw_d yX1_plantRoots 0 := ⟨by decide +kernel, by decide +kernel, by decide +kernel⟩
theorem qmb_X1_plantRoots (E : qe_E) (L : Nat) : qx_mb (qZ E L) 160 := ⟨show plainName yX1_plantRoots.cls = true by decide +kernel, Nat.le_of_ble_eq_true rfl, rfl, Or.inl ⟨qw_G, rfl, fun c h => List.eq_nil_iff_forall_not_mem.mpr h⟩⟩
theorem qh_X1_split : qw_d yX1_split 1 := ⟨by decide +kernel, by decide +kernel, by decide +kernel⟩
theorem qmb_X1_split (E : qe_E) (L : Nat) : qx_mb (qZ E L) 161 := ⟨show plainName yX1_split.cls = true by decide +kernel, Nat.le_of_ble_eq_true rfl, rfl, Or.inl ⟨qw_G, rfl, fun c h => List.eq_nil_iff_forall_not_mem.mpr h⟩⟩
theorem qh_X1_choosePosition : qw_d yX1_choosePosition 1 := ⟨by decide +kernel, by decide +kernel, by decide +kernel⟩
theorem qmb_X1_choosePosition (E : qe_E) (L : Nat) : qx_mb (qZ E L) 162 := ⟨show plainName yX1_choosePosition.cls = true by decide +kernel, Nat.le_of_ble_eq_true rfl, rfl, Or.inl ⟨qw_G, rfl, fun c h => List.eq_nil_iff_forall_not_mem.mpr h⟩⟩
theorem qh_X1_penaltyOf : qw_d yX1_penaltyOf 2 := ⟨by decide +kernel, by decide +kernel, by decide +kernel⟩
theorem qmb_X1_penaltyOf (E : qe_E) (L : Nat) : qx_mb (qZ E L) 163 := ⟨show plainName yX1_penaltyOf.cls = true by decide +kernel, Nat.le_of_ble_eq_true rfl, rfl, Or.inl ⟨qw_G, rfl, fun c h => List.eq_nil_iff_forall_not_mem.mpr h⟩⟩
theorem qh_X1_sortMembers : qw_d yX1_sortMembers 3 := ⟨by decide +kernel, by decide +kernel, by decide +kernel⟩
theorem qmb_X1_sortMembers (E : qe_E) (L : Nat) : qx_mb (qZ E L) 164 := ⟨show plainName yX1_sortMembers.cls = true by decide +kernel, Nat.le_of_ble_eq_true rfl, rfl, Or.inl ⟨qw_G, rfl, fun c h => List.eq_nil_iff_forall_not_mem.mpr h⟩⟩
theorem qh_X2_init : qw_d yX2_init 0 := ⟨by decide +kernel, by decide +kernel, by decide +kernel⟩
theorem qmb_X2_init (E : qe_E) (L : Nat) : qx_mb (qZ E L) 165 := ⟨show plainName yX2_init.cls = true by decide +kernel, Nat.le_of_ble_eq_true rfl, rfl, Or.inl ⟨qw_G, rfl, fun c h => List.eq_nil_iff_forall_not_mem.mpr h⟩⟩
theorem qh_X2_lengthOf : qw_d yX2_lengthOf 1 := ⟨by decide +kernel, by decide +kernel, by decide +kernel⟩
theorem qmb_X2_lengthOf (E : qe_E) (L : Nat) : qx_mb (qZ E L) 167 := ⟨show plainName yX2_lengthOf.cls = true by decide +kernel, Nat.le_of_ble_eq_true rfl, rfl, Or.inl ⟨qw_G, rfl, fun c h => List.eq_nil_iff_forall_not_mem.mpr h⟩⟩
theorem qh_X2_letterAt : qw_d yX2_letterAt 2 := ⟨by decide +kernel, by decide +kernel, by decide +kernel⟩
theorem qmb_X2_letterAt (E : qe_E) (L : Nat) : qx_mb (qZ E L) 168 := ⟨show plainName yX2_letterAt.cls = true by decide +kernel, Nat.le_of_ble_eq_true rfl, rfl, Or.inl ⟨qw_G, rfl, fun c h => List.eq_nil_iff_forall_not_mem.mpr h⟩⟩
theorem qh_X2_numberOf : qw_d yX2_numberOf 3 := ⟨by decide +kernel, by decide +kernel, by decide +kernel⟩
theorem qmb_X2_numberOf (E : qe_E) (L : Nat) : qx_mb (qZ E L) 169 := ⟨show plainName yX2_numberOf.cls = true by decide +kernel, Nat.le_of_ble_eq_true rfl, rfl, Or.inl ⟨qw_G, rfl, fun c h => List.eq_nil_iff_forall_not_mem.mpr h⟩⟩
theorem qh_X2_beginsAt : qw_d yX2_beginsAt 3 := ⟨by decide +kernel, by decide +kernel, by decide +kernel⟩
theorem qmb_X2_beginsAt (E : qe_E) (L : Nat) : qx_mb (qZ E L) 170 := ⟨show plainName yX2_beginsAt.cls = true by decide +kernel, Nat.le_of_ble_eq_true rfl, rfl, Or.inl ⟨qw_G, rfl, fun c h => List.eq_nil_iff_forall_not_mem.mpr h⟩⟩
theorem qh_X2_insert : qw_d yX2_insert 4 := ⟨by decide +kernel, by decide +kernel, by decide +kernel⟩
theorem qmb_X2_insert (E : qe_E) (L : Nat) : qx_mb (qZ E L) 171 := ⟨show plainName yX2_insert.cls = true by decide +kernel, Nat.le_of_ble_eq_true rfl, rfl, Or.inl ⟨qw_G, rfl, fun c h => List.eq_nil_iff_forall_not_mem.mpr h⟩⟩
theorem qh_X2_firstDifference : qw_d yX2_firstDifference 2 := ⟨by decide +kernel, by decide +kernel, by decide +kernel⟩
theorem qmb_X2_firstDifference (E : qe_E) (L : Nat) : qx_mb (qZ E L) 175 := ⟨show plainName yX2_firstDifference.cls = true by decide +kernel, Nat.le_of_ble_eq_true rfl, rfl, Or.inl ⟨qw_G, rfl, fun c h => List.eq_nil_iff_forall_not_mem.mpr h⟩⟩
theorem qh_X2_isLess : qw_d yX2_isLess 2 := ⟨by decide +kernel, by decide +kernel, by decide +kernel⟩
theorem qmb_X2_isLess (E : qe_E) (L : Nat) : qx_mb (qZ E L) 176 := ⟨show plainName yX2_isLess.cls = true by decide +kernel, Nat.le_of_ble_eq_true rfl, rfl, Or.inl ⟨qw_G, rfl, fun c h => List.eq_nil_iff_forall_not_mem.mpr h⟩⟩
theorem qh_X2_rankOf : qw_d yX2_rankOf 1 := ⟨by decide +kernel, by decide +kernel, by decide +kernel⟩
theorem qmb_X2_rankOf (E : qe_E) (L : Nat) : qx_mb (qZ E L) 177 := ⟨show plainName yX2_rankOf.cls = true by decide +kernel, Nat.le_of_ble_eq_true rfl, rfl, Or.inl ⟨qw_G, rfl, fun c h => List.eq_nil_iff_forall_not_mem.mpr h⟩⟩
theorem qh_X2_differences : qw_d yX2_differences 2 := ⟨by decide +kernel, by decide +kernel, by decide +kernel⟩
theorem qmb_X2_differences (E : qe_E) (L : Nat) : qx_mb (qZ E L) 178 := ⟨show plainName yX2_differences.cls = true by decide +kernel, Nat.le_of_ble_eq_true rfl, rfl, Or.inl ⟨qw_G, rfl, fun c h => List.eq_nil_iff_forall_not_mem.mpr h⟩⟩
theorem qh_X2_writeKey : qw_d yX2_writeKey 2 := ⟨by decide +kernel, by decide +kernel, by decide +kernel⟩
theorem qmb_X2_writeKey (E : qe_E) (L : Nat) : qx_mb (qZ E L) 181 := ⟨show plainName yX2_writeKey.cls = true by decide +kernel, Nat.le_of_ble_eq_true rfl, rfl, Or.inl ⟨qw_G, rfl, fun c h => List.eq_nil_iff_forall_not_mem.mpr h⟩⟩
theorem qh_X3_init : qw_d yX3_init 4 := ⟨by decide +kernel, by decide +kernel, by decide +kernel⟩
theorem qmb_X3_init (E : qe_E) (L : Nat) : qx_mb (qZ E L) 182 := ⟨show plainName yX3_init.cls = true by decide +kernel, Nat.le_of_ble_eq_true rfl, rfl, Or.inl ⟨qw_G, rfl, fun c h => List.eq_nil_iff_forall_not_mem.mpr h⟩⟩
theorem qh_X4_init : qw_d yX4_init 1 := ⟨by decide +kernel, by decide +kernel, by decide +kernel⟩
theorem qmb_X4_init (E : qe_E) (L : Nat) : qx_mb (qZ E L) 190 := ⟨show plainName yX4_init.cls = true by decide +kernel, Nat.le_of_ble_eq_true rfl, rfl, Or.inl ⟨qw_G, rfl, fun c h => List.eq_nil_iff_forall_not_mem.mpr h⟩⟩
theorem qh_X4_sort : qw_d yX4_sort 0 := ⟨by decide +kernel, by decide +kernel, by decide +kernel⟩
theorem qmb_X4_sort (E : qe_E) (L : Nat) : qx_mb (qZ E L) 191 := ⟨show plainName yX4_sort.cls = true by decide +kernel, Nat.le_of_ble_eq_true rfl, rfl, Or.inl ⟨qw_G, rfl, fun c h => List.eq_nil_iff_forall_not_mem.mpr h⟩⟩
theorem qh_X5_init : qw_d yX5_init 4 := ⟨by decide +kernel, by decide +kernel, by decide +kernel⟩
theorem qmb_X5_init (E : qe_E) (L : Nat) : qx_mb (qZ E L) 192 := ⟨show plainName yX5_init.cls = true by decide +kernel, Nat.le_of_ble_eq_true rfl, rfl, Or.inl ⟨qw_G, rfl, fun c h => List.eq_nil_iff_forall_not_mem.mpr h⟩⟩
theorem qh_X6_init : qw_d yX6_init 1 := ⟨by decide +kernel, by decide +kernel, by decide +kernel⟩
theorem qmb_X6_init (E : qe_E) (L : Nat) : qx_mb (qZ E L) 202 := ⟨show plainName yX6_init.cls = true by decide +kernel, Nat.le_of_ble_eq_true rfl, rfl, Or.inl ⟨qw_G, rfl, fun c h => List.eq_nil_iff_forall_not_mem.mpr h⟩⟩
theorem qh_X6_choose : qw_d yX6_choose 0 := ⟨by decide +kernel, by decide +kernel, by decide +kernel⟩
theorem qmb_X6_choose (E : qe_E) (L : Nat) : qx_mb (qZ E L) 203 := ⟨show plainName yX6_choose.cls = true by decide +kernel, Nat.le_of_ble_eq_true rfl, rfl, Or.inl ⟨qw_G, rfl, fun c h => List.eq_nil_iff_forall_not_mem.mpr h⟩⟩
theorem qh_X6_turned : qw_d yX6_turned 1 := ⟨by decide +kernel, by decide +kernel, by decide +kernel⟩
theorem qmb_X6_turned (E : qe_E) (L : Nat) : qx_mb (qZ E L) 204 := ⟨show plainName yX6_turned.cls = true by decide +kernel, Nat.le_of_ble_eq_true rfl, rfl, Or.inl ⟨qw_G, rfl, fun c h => List.eq_nil_iff_forall_not_mem.mpr h⟩⟩
theorem qh_X6_collectPairs : qw_d yX6_collectPairs 0 := ⟨by decide +kernel, by decide +kernel, by decide +kernel⟩
theorem qmb_X6_collectPairs (E : qe_E) (L : Nat) : qx_mb (qZ E L) 205 := ⟨show plainName yX6_collectPairs.cls = true by decide +kernel, Nat.le_of_ble_eq_true rfl, rfl, Or.inl ⟨qw_G, rfl, fun c h => List.eq_nil_iff_forall_not_mem.mpr h⟩⟩
theorem qh_X6_separates : qw_d yX6_separates 1 := ⟨by decide +kernel, by decide +kernel, by decide +kernel⟩
theorem qmb_X6_separates (E : qe_E) (L : Nat) : qx_mb (qZ E L) 206 := ⟨show plainName yX6_separates.cls = true by decide +kernel, Nat.le_of_ble_eq_true rfl, rfl, Or.inl ⟨qw_G, rfl, fun c h => List.eq_nil_iff_forall_not_mem.mpr h⟩⟩
theorem qh_X6_hashOf : qw_d yX6_hashOf 2 := ⟨by decide +kernel, by decide +kernel, by decide +kernel⟩
theorem qmb_X6_hashOf (E : qe_E) (L : Nat) : qx_mb (qZ E L) 207 := ⟨show plainName yX6_hashOf.cls = true by decide +kernel, Nat.le_of_ble_eq_true rfl, rfl, Or.inl ⟨qw_G, rfl, fun c h => List.eq_nil_iff_forall_not_mem.mpr h⟩⟩
theorem qh_X7_init : qw_d yX7_init 2 := ⟨by decide +kernel, by decide +kernel, by decide +kernel⟩
theorem qmb_X7_init (E : qe_E) (L : Nat) : qx_mb (qZ E L) 208 := ⟨show plainName yX7_init.cls = true by decide +kernel, Nat.le_of_ble_eq_true rfl, rfl, Or.inl ⟨qw_G, rfl, fun c h => List.eq_nil_iff_forall_not_mem.mpr h⟩⟩
theorem qh_X7_build : qw_d yX7_build 0 := ⟨by decide +kernel, by decide +kernel, by decide +kernel⟩
theorem qmb_X7_build (E : qe_E) (L : Nat) : qx_mb (qZ E L) 209 := ⟨show plainName yX7_build.cls = true by decide +kernel, Nat.le_of_ble_eq_true rfl, rfl, Or.inl ⟨qw_G, rfl, fun c h => List.eq_nil_iff_forall_not_mem.mpr h⟩⟩
theorem qh_X7_trySeed : qw_d yX7_trySeed 1 := ⟨by decide +kernel, by decide +kernel, by decide +kernel⟩
theorem qmb_X7_trySeed (E : qe_E) (L : Nat) : qx_mb (qZ E L) 210 := ⟨show plainName yX7_trySeed.cls = true by decide +kernel, Nat.le_of_ble_eq_true rfl, rfl, Or.inl ⟨qw_G, rfl, fun c h => List.eq_nil_iff_forall_not_mem.mpr h⟩⟩
theorem qh_X7_hashKeys : qw_d yX7_hashKeys 0 := ⟨by decide +kernel, by decide +kernel, by decide +kernel⟩
theorem qmb_X7_hashKeys (E : qe_E) (L : Nat) : qx_mb (qZ E L) 211 := ⟨show plainName yX7_hashKeys.cls = true by decide +kernel, Nat.le_of_ble_eq_true rfl, rfl, Or.inl ⟨qw_G, rfl, fun c h => List.eq_nil_iff_forall_not_mem.mpr h⟩⟩
theorem qh_X7_place : qw_d yX7_place 1 := ⟨by decide +kernel, by decide +kernel, by decide +kernel⟩
theorem qmb_X7_place (E : qe_E) (L : Nat) : qx_mb (qZ E L) 212 := ⟨show plainName yX7_place.cls = true by decide +kernel, Nat.le_of_ble_eq_true rfl, rfl, Or.inl ⟨qw_G, rfl, fun c h => List.eq_nil_iff_forall_not_mem.mpr h⟩⟩
theorem qh_X7_takeSlots : qw_d yX7_takeSlots 2 := ⟨by decide +kernel, by decide +kernel, by decide +kernel⟩
theorem qmb_X7_takeSlots (E : qe_E) (L : Nat) : qx_mb (qZ E L) 213 := ⟨show plainName yX7_takeSlots.cls = true by decide +kernel, Nat.le_of_ble_eq_true rfl, rfl, Or.inl ⟨qw_G, rfl, fun c h => List.eq_nil_iff_forall_not_mem.mpr h⟩⟩
theorem qh_X7_nameOwners : qw_d yX7_nameOwners 0 := ⟨by decide +kernel, by decide +kernel, by decide +kernel⟩
theorem qmb_X7_nameOwners (E : qe_E) (L : Nat) : qx_mb (qZ E L) 214 := ⟨show plainName yX7_nameOwners.cls = true by decide +kernel, Nat.le_of_ble_eq_true rfl, rfl, Or.inl ⟨qw_G, rfl, fun c h => List.eq_nil_iff_forall_not_mem.mpr h⟩⟩
theorem qh_X7_slotFor : qw_d yX7_slotFor 3 := ⟨by decide +kernel, by decide +kernel, by decide +kernel⟩
theorem qmb_X7_slotFor (E : qe_E) (L : Nat) : qx_mb (qZ E L) 215 := ⟨show plainName yX7_slotFor.cls = true by decide +kernel, Nat.le_of_ble_eq_true rfl, rfl, Or.inl ⟨qw_G, rfl, fun c h => List.eq_nil_iff_forall_not_mem.mpr h⟩⟩
theorem qh_X7_bucketFor : qw_d yX7_bucketFor 1 := ⟨by decide +kernel, by decide +kernel, by decide +kernel⟩
theorem qmb_X7_bucketFor (E : qe_E) (L : Nat) : qx_mb (qZ E L) 216 := ⟨show plainName yX7_bucketFor.cls = true by decide +kernel, Nat.le_of_ble_eq_true rfl, rfl, Or.inl ⟨qw_G, rfl, fun c h => List.eq_nil_iff_forall_not_mem.mpr h⟩⟩
theorem qh_X8_init : qw_d yX8_init 1 := ⟨by decide +kernel, by decide +kernel, by decide +kernel⟩
theorem qmb_X8_init (E : qe_E) (L : Nat) : qx_mb (qZ E L) 218 := ⟨show plainName yX8_init.cls = true by decide +kernel, Nat.le_of_ble_eq_true rfl, rfl, Or.inl ⟨qw_G, rfl, fun c h => List.eq_nil_iff_forall_not_mem.mpr h⟩⟩
theorem qh_X8_empty : qw_d yX8_empty 0 := ⟨by decide +kernel, by decide +kernel, by decide +kernel⟩
theorem qmb_X8_empty (E : qe_E) (L : Nat) : qx_mb (qZ E L) 219 := ⟨show plainName yX8_empty.cls = true by decide +kernel, Nat.le_of_ble_eq_true rfl, rfl, Or.inl ⟨qw_G, rfl, fun c h => List.eq_nil_iff_forall_not_mem.mpr h⟩⟩
theorem qh_X8_signAt : qw_d yX8_signAt 1 := ⟨by decide +kernel, by decide +kernel, by decide +kernel⟩
theorem qmb_X8_signAt (E : qe_E) (L : Nat) : qx_mb (qZ E L) 220 := ⟨show plainName yX8_signAt.cls = true by decide +kernel, Nat.le_of_ble_eq_true rfl, rfl, Or.inl ⟨qw_G, rfl, fun c h => List.eq_nil_iff_forall_not_mem.mpr h⟩⟩
theorem qh_X8_write : qw_d yX8_write 1 := ⟨by decide +kernel, by decide +kernel, by decide +kernel⟩
theorem qmb_X8_write (E : qe_E) (L : Nat) : qx_mb (qZ E L) 221 := ⟨show plainName yX8_write.cls = true by decide +kernel, Nat.le_of_ble_eq_true rfl, rfl, Or.inl ⟨qw_G, rfl, fun c h => List.eq_nil_iff_forall_not_mem.mpr h⟩⟩
theorem qh_X8_isKeySign : qw_d yX8_isKeySign 1 := ⟨by decide +kernel, by decide +kernel, by decide +kernel⟩
theorem qmb_X8_isKeySign (E : qe_E) (L : Nat) : qx_mb (qZ E L) 223 := ⟨show plainName yX8_isKeySign.cls = true by decide +kernel, Nat.le_of_ble_eq_true rfl, rfl, Or.inl ⟨qw_G, rfl, fun c h => List.eq_nil_iff_forall_not_mem.mpr h⟩⟩
theorem qh_X8_isKey : qw_d yX8_isKey 0 := ⟨by decide +kernel, by decide +kernel, by decide +kernel⟩
theorem qmb_X8_isKey (E : qe_E) (L : Nat) : qx_mb (qZ E L) 224 := ⟨show plainName yX8_isKey.cls = true by decide +kernel, Nat.le_of_ble_eq_true rfl, rfl, Or.inl ⟨qw_G, rfl, fun c h => List.eq_nil_iff_forall_not_mem.mpr h⟩⟩
theorem qh_L_append : qw_d yL_append 3 := ⟨by decide +kernel, by decide +kernel, by decide +kernel⟩
theorem qmb_L_append (E : qe_E) (L : Nat) : qx_mb (qZ E L) 225 := ⟨show plainName yL_append.cls = true by decide +kernel, Nat.le_of_ble_eq_true rfl, rfl, Or.inr ⟨qw_G, [(0, 9, 12, 13), (0, 9, 15, 15)], rfl, fun c h => h⟩⟩
theorem qh_L_add : qw_d yL_add 3 := ⟨by decide +kernel, by decide +kernel, by decide +kernel⟩
theorem qmb_L_add (E : qe_E) (L : Nat) : qx_mb (qZ E L) 226 := ⟨show plainName yL_add.cls = true by decide +kernel, Nat.le_of_ble_eq_true rfl, rfl, Or.inr ⟨qw_G, [(0, 9, 12, 13), (0, 9, 15, 15)], rfl, fun c h => h⟩⟩
theorem qh_L_trees : qw_d yL_trees 3 := ⟨by decide +kernel, by decide +kernel, by decide +kernel⟩
theorem qmb_L_trees (E : qe_E) (L : Nat) : qx_mb (qZ E L) 242 := ⟨show plainName yL_trees.cls = true by decide +kernel, Nat.le_of_ble_eq_true rfl, rfl, Or.inr ⟨qw_G, [(0, 9, 12, 13)], rfl, fun c h => h⟩⟩
theorem qh_J6_bitCount_0f7a4 : qw_d yJ6_bitCount_0f7a4 1 := ⟨by decide +kernel, by decide +kernel, by decide +kernel⟩
theorem qmb_J6_bitCount_0f7a4 (E : qe_E) (L : Nat) : qx_mb (qZ E L) 250 := ⟨show plainName yJ6_bitCount_0f7a4.cls = true by decide +kernel, Nat.le_of_ble_eq_true rfl, rfl, Or.inl ⟨qw_G, rfl, fun c h => List.eq_nil_iff_forall_not_mem.mpr h⟩⟩
theorem qo_X9_init (E : qe_E) (L : Nat) : ∀ c : Code, zT (qZ E L) 0 c → ∀ x ∈ c.exceptionTable.toList, False := fun c h x hx => absurd ((show c.exceptionTable.toList = [] from h) ▸ hx) List.not_mem_nil
theorem qo_X9_append (E : qe_E) (L : Nat) : ∀ c : Code, zT (qZ E L) 1 c → ∀ x ∈ c.exceptionTable.toList, False := fun c h x hx => absurd ((show c.exceptionTable.toList = [] from h) ▸ hx) List.not_mem_nil
theorem qo_X9_add (E : qe_E) (L : Nat) : ∀ c : Code, zT (qZ E L) 3 c → ∀ x ∈ c.exceptionTable.toList, False := fun c h x hx => absurd ((show c.exceptionTable.toList = [] from h) ▸ hx) List.not_mem_nil
theorem qo_X9_trees (E : qe_E) (L : Nat) : ∀ c : Code, zT (qZ E L) 21 c → ∀ x ∈ c.exceptionTable.toList, False := fun c h x hx => absurd ((show c.exceptionTable.toList = [] from h) ▸ hx) List.not_mem_nil
theorem qo_X9_requireBranch (E : qe_E) (L : Nat) : ∀ c : Code, zT (qZ E L) 32 c → ∀ x ∈ c.exceptionTable.toList, False := fun c h x hx => absurd ((show c.exceptionTable.toList = [] from h) ▸ hx) List.not_mem_nil
theorem qo_X9_prepare (E : qe_E) (L : Nat) : ∀ c : Code, zT (qZ E L) 37 c → ∀ x ∈ c.exceptionTable.toList, False := fun c h x hx => absurd ((show c.exceptionTable.toList = [] from h) ▸ hx) List.not_mem_nil
theorem qo_X9_at (E : qe_E) (L : Nat) : ∀ c : Code, zT (qZ E L) 38 c → ∀ x ∈ c.exceptionTable.toList, False := fun c h x hx => absurd ((show c.exceptionTable.toList = [] from h) ▸ hx) List.not_mem_nil
theorem qo_X9_put (E : qe_E) (L : Nat) : ∀ c : Code, zT (qZ E L) 39 c → ∀ x ∈ c.exceptionTable.toList, False := fun c h x hx => absurd ((show c.exceptionTable.toList = [] from h) ▸ hx) List.not_mem_nil
theorem qo_X9_contains (E : qe_E) (L : Nat) : ∀ c : Code, zT (qZ E L) 42 c → ∀ x ∈ c.exceptionTable.toList, False := fun c h x hx => absurd ((show c.exceptionTable.toList = [] from h) ▸ hx) List.not_mem_nil
theorem qo_X9_isLetter (E : qe_E) (L : Nat) : ∀ c : Code, zT (qZ E L) 43 c → ∀ x ∈ c.exceptionTable.toList, False := fun c h x hx => absurd ((show c.exceptionTable.toList = [] from h) ▸ hx) List.not_mem_nil
theorem qo_X10_init (E : qe_E) (L : Nat) : ∀ c : Code, zT (qZ E L) 47 c → ∀ x ∈ c.exceptionTable.toList, False := fun c h x hx => absurd ((show c.exceptionTable.toList = [] from h) ▸ hx) List.not_mem_nil
theorem qo_X10_in (E : qe_E) (L : Nat) : ∀ c : Code, zT (qZ E L) 49 c → ∀ x ∈ c.exceptionTable.toList, False := fun c h x hx => absurd ((show c.exceptionTable.toList = [] from h) ▸ hx) List.not_mem_nil
theorem qo_X10_isSign (E : qe_E) (L : Nat) : ∀ c : Code, zT (qZ E L) 51 c → ∀ x ∈ c.exceptionTable.toList, False := fun c h x hx => absurd ((show c.exceptionTable.toList = [] from h) ▸ hx) List.not_mem_nil
theorem qo_X10_at (E : qe_E) (L : Nat) : ∀ c : Code, zT (qZ E L) 52 c → ∀ x ∈ c.exceptionTable.toList, False := fun c h x hx => absurd ((show c.exceptionTable.toList = [] from h) ▸ hx) List.not_mem_nil
theorem qo_X10_append (E : qe_E) (L : Nat) : ∀ c : Code, zT (qZ E L) 53 c → ∀ x ∈ c.exceptionTable.toList, False := fun c h x hx => absurd ((show c.exceptionTable.toList = [] from h) ▸ hx) List.not_mem_nil
theorem qo_X10_keyAt (E : qe_E) (L : Nat) : ∀ c : Code, zT (qZ E L) 55 c → ∀ x ∈ c.exceptionTable.toList, False := fun c h x hx => absurd ((show c.exceptionTable.toList = [] from h) ▸ hx) List.not_mem_nil
theorem qo_X10_addKey (E : qe_E) (L : Nat) : ∀ c : Code, zT (qZ E L) 56 c → ∀ x ∈ c.exceptionTable.toList, False := fun c h x hx => absurd ((show c.exceptionTable.toList = [] from h) ▸ hx) List.not_mem_nil
theorem qo_X10_add (E : qe_E) (L : Nat) : ∀ c : Code, zT (qZ E L) 58 c → ∀ x ∈ c.exceptionTable.toList, False := fun c h x hx => absurd ((show c.exceptionTable.toList = [] from h) ▸ hx) List.not_mem_nil
theorem qo_X10_marked (E : qe_E) (L : Nat) : ∀ c : Code, zT (qZ E L) 89 c → ∀ x ∈ c.exceptionTable.toList, False := fun c h x hx => absurd ((show c.exceptionTable.toList = [] from h) ▸ hx) List.not_mem_nil
theorem qo_X10_positionOf (E : qe_E) (L : Nat) : ∀ c : Code, zT (qZ E L) 91 c → ∀ x ∈ c.exceptionTable.toList, False := fun c h x hx => absurd ((show c.exceptionTable.toList = [] from h) ▸ hx) List.not_mem_nil
theorem qo_X10_ofLength (E : qe_E) (L : Nat) : ∀ c : Code, zT (qZ E L) 92 c → ∀ x ∈ c.exceptionTable.toList, False := fun c h x hx => absurd ((show c.exceptionTable.toList = [] from h) ▸ hx) List.not_mem_nil
theorem qo_X10_child (E : qe_E) (L : Nat) : ∀ c : Code, zT (qZ E L) 93 c → ∀ x ∈ c.exceptionTable.toList, False := fun c h x hx => absurd ((show c.exceptionTable.toList = [] from h) ▸ hx) List.not_mem_nil
theorem qo_X10_measure (E : qe_E) (L : Nat) : ∀ c : Code, zT (qZ E L) 95 c → ∀ x ∈ c.exceptionTable.toList, False := fun c h x hx => absurd ((show c.exceptionTable.toList = [] from h) ▸ hx) List.not_mem_nil
theorem qo_X10_trees (E : qe_E) (L : Nat) : ∀ c : Code, zT (qZ E L) 96 c → ∀ x ∈ c.exceptionTable.toList, False := fun c h x hx => absurd ((show c.exceptionTable.toList = [] from h) ▸ hx) List.not_mem_nil
theorem qo_X0_init (E : qe_E) (L : Nat) : ∀ c : Code, zT (qZ E L) 138 c → ∀ x ∈ c.exceptionTable.toList, False := fun c h x hx => absurd ((show c.exceptionTable.toList = [] from h) ▸ hx) List.not_mem_nil
theorem qo_X1_init (E : qe_E) (L : Nat) : ∀ c : Code, zT (qZ E L) 152 c → ∀ x ∈ c.exceptionTable.toList, False := fun c h x hx => absurd ((show c.exceptionTable.toList = [] from h) ▸ hx) List.not_mem_nil
theorem qo_X1_grow (E : qe_E) (L : Nat) : ∀ c : Code, zT (qZ E L) 153 c → ∀ x ∈ c.exceptionTable.toList, False := fun c h x hx => absurd ((show c.exceptionTable.toList = [] from h) ▸ hx) List.not_mem_nil
theorem qo_X1_isLeaf (E : qe_E) (L : Nat) : ∀ c : Code, zT (qZ E L) 154 c → ∀ x ∈ c.exceptionTable.toList, False := fun c h x hx => absurd ((show c.exceptionTable.toList = [] from h) ▸ hx) List.not_mem_nil
theorem qo_X1_keyOf (E : qe_E) (L : Nat) : ∀ c : Code, zT (qZ E L) 155 c → ∀ x ∈ c.exceptionTable.toList, False := fun c h x hx => absurd ((show c.exceptionTable.toList = [] from h) ▸ hx) List.not_mem_nil
theorem qo_X1_plant (E : qe_E) (L : Nat) : ∀ c : Code, zT (qZ E L) 159 c → ∀ x ∈ c.exceptionTable.toList, False := fun c h x hx => absurd ((show c.exceptionTable.toList = [] from h) ▸ hx) List.not_mem_nil
theorem qo_X1_plantRoots (E : qe_E) (L : Nat) : ∀ c : Code, zT (qZ E L) 160 c → ∀ x ∈ c.exceptionTable.toList, False := fun c h x hx => absurd ((show c.exceptionTable.toList = [] from h) ▸ hx) List.not_mem_nil
theorem qo_X1_split (E : qe_E) (L : Nat) : ∀ c : Code, zT (qZ E L) 161 c → ∀ x ∈ c.exceptionTable.toList, False := fun c h x hx => absurd ((show c.exceptionTable.toList = [] from h) ▸ hx) List.not_mem_nil
theorem qo_X1_choosePosition (E : qe_E) (L : Nat) : ∀ c : Code, zT (qZ E L) 162 c → ∀ x ∈ c.exceptionTable.toList, False := fun c h x hx => absurd ((show c.exceptionTable.toList = [] from h) ▸ hx) List.not_mem_nil
theorem qo_X1_penaltyOf (E : qe_E) (L : Nat) : ∀ c : Code, zT (qZ E L) 163 c → ∀ x ∈ c.exceptionTable.toList, False := fun c h x hx => absurd ((show c.exceptionTable.toList = [] from h) ▸ hx) List.not_mem_nil
theorem qo_X1_sortMembers (E : qe_E) (L : Nat) : ∀ c : Code, zT (qZ E L) 164 c → ∀ x ∈ c.exceptionTable.toList, False := fun c h x hx => absurd ((show c.exceptionTable.toList = [] from h) ▸ hx) List.not_mem_nil
theorem qo_X2_init (E : qe_E) (L : Nat) : ∀ c : Code, zT (qZ E L) 165 c → ∀ x ∈ c.exceptionTable.toList, False := fun c h x hx => absurd ((show c.exceptionTable.toList = [] from h) ▸ hx) List.not_mem_nil
theorem qo_X2_lengthOf (E : qe_E) (L : Nat) : ∀ c : Code, zT (qZ E L) 167 c → ∀ x ∈ c.exceptionTable.toList, False := fun c h x hx => absurd ((show c.exceptionTable.toList = [] from h) ▸ hx) List.not_mem_nil
theorem qo_X2_letterAt (E : qe_E) (L : Nat) : ∀ c : Code, zT (qZ E L) 168 c → ∀ x ∈ c.exceptionTable.toList, False := fun c h x hx => absurd ((show c.exceptionTable.toList = [] from h) ▸ hx) List.not_mem_nil
theorem qo_X2_numberOf (E : qe_E) (L : Nat) : ∀ c : Code, zT (qZ E L) 169 c → ∀ x ∈ c.exceptionTable.toList, False := fun c h x hx => absurd ((show c.exceptionTable.toList = [] from h) ▸ hx) List.not_mem_nil
theorem qo_X2_beginsAt (E : qe_E) (L : Nat) : ∀ c : Code, zT (qZ E L) 170 c → ∀ x ∈ c.exceptionTable.toList, False := fun c h x hx => absurd ((show c.exceptionTable.toList = [] from h) ▸ hx) List.not_mem_nil
theorem qo_X2_insert (E : qe_E) (L : Nat) : ∀ c : Code, zT (qZ E L) 171 c → ∀ x ∈ c.exceptionTable.toList, False := fun c h x hx => absurd ((show c.exceptionTable.toList = [] from h) ▸ hx) List.not_mem_nil
theorem qo_X2_firstDifference (E : qe_E) (L : Nat) : ∀ c : Code, zT (qZ E L) 175 c → ∀ x ∈ c.exceptionTable.toList, False := fun c h x hx => absurd ((show c.exceptionTable.toList = [] from h) ▸ hx) List.not_mem_nil
theorem qo_X2_isLess (E : qe_E) (L : Nat) : ∀ c : Code, zT (qZ E L) 176 c → ∀ x ∈ c.exceptionTable.toList, False := fun c h x hx => absurd ((show c.exceptionTable.toList = [] from h) ▸ hx) List.not_mem_nil
theorem qo_X2_rankOf (E : qe_E) (L : Nat) : ∀ c : Code, zT (qZ E L) 177 c → ∀ x ∈ c.exceptionTable.toList, False := fun c h x hx => absurd ((show c.exceptionTable.toList = [] from h) ▸ hx) List.not_mem_nil
theorem qo_X2_differences (E : qe_E) (L : Nat) : ∀ c : Code, zT (qZ E L) 178 c → ∀ x ∈ c.exceptionTable.toList, False := fun c h x hx => absurd ((show c.exceptionTable.toList = [] from h) ▸ hx) List.not_mem_nil
theorem qo_X2_writeKey (E : qe_E) (L : Nat) : ∀ c : Code, zT (qZ E L) 181 c → ∀ x ∈ c.exceptionTable.toList, False := fun c h x hx => absurd ((show c.exceptionTable.toList = [] from h) ▸ hx) List.not_mem_nil
theorem qo_X3_init (E : qe_E) (L : Nat) : ∀ c : Code, zT (qZ E L) 182 c → ∀ x ∈ c.exceptionTable.toList, False := fun c h x hx => absurd ((show c.exceptionTable.toList = [] from h) ▸ hx) List.not_mem_nil
theorem qo_X4_init (E : qe_E) (L : Nat) : ∀ c : Code, zT (qZ E L) 190 c → ∀ x ∈ c.exceptionTable.toList, False := fun c h x hx => absurd ((show c.exceptionTable.toList = [] from h) ▸ hx) List.not_mem_nil
theorem qo_X4_sort (E : qe_E) (L : Nat) : ∀ c : Code, zT (qZ E L) 191 c → ∀ x ∈ c.exceptionTable.toList, False := fun c h x hx => absurd ((show c.exceptionTable.toList = [] from h) ▸ hx) List.not_mem_nil
theorem qo_X5_init (E : qe_E) (L : Nat) : ∀ c : Code, zT (qZ E L) 192 c → ∀ x ∈ c.exceptionTable.toList, False := fun c h x hx => absurd ((show c.exceptionTable.toList = [] from h) ▸ hx) List.not_mem_nil
theorem qo_X6_init (E : qe_E) (L : Nat) : ∀ c : Code, zT (qZ E L) 202 c → ∀ x ∈ c.exceptionTable.toList, False := fun c h x hx => absurd ((show c.exceptionTable.toList = [] from h) ▸ hx) List.not_mem_nil
theorem qo_X6_choose (E : qe_E) (L : Nat) : ∀ c : Code, zT (qZ E L) 203 c → ∀ x ∈ c.exceptionTable.toList, False := fun c h x hx => absurd ((show c.exceptionTable.toList = [] from h) ▸ hx) List.not_mem_nil
theorem qo_X6_turned (E : qe_E) (L : Nat) : ∀ c : Code, zT (qZ E L) 204 c → ∀ x ∈ c.exceptionTable.toList, False := fun c h x hx => absurd ((show c.exceptionTable.toList = [] from h) ▸ hx) List.not_mem_nil
theorem qo_X6_collectPairs (E : qe_E) (L : Nat) : ∀ c : Code, zT (qZ E L) 205 c → ∀ x ∈ c.exceptionTable.toList, False := fun c h x hx => absurd ((show c.exceptionTable.toList = [] from h) ▸ hx) List.not_mem_nil
theorem qo_X6_separates (E : qe_E) (L : Nat) : ∀ c : Code, zT (qZ E L) 206 c → ∀ x ∈ c.exceptionTable.toList, False := fun c h x hx => absurd ((show c.exceptionTable.toList = [] from h) ▸ hx) List.not_mem_nil
theorem qo_X6_hashOf (E : qe_E) (L : Nat) : ∀ c : Code, zT (qZ E L) 207 c → ∀ x ∈ c.exceptionTable.toList, False := fun c h x hx => absurd ((show c.exceptionTable.toList = [] from h) ▸ hx) List.not_mem_nil
theorem qo_X7_init (E : qe_E) (L : Nat) : ∀ c : Code, zT (qZ E L) 208 c → ∀ x ∈ c.exceptionTable.toList, False := fun c h x hx => absurd ((show c.exceptionTable.toList = [] from h) ▸ hx) List.not_mem_nil
theorem qo_X7_build (E : qe_E) (L : Nat) : ∀ c : Code, zT (qZ E L) 209 c → ∀ x ∈ c.exceptionTable.toList, False := fun c h x hx => absurd ((show c.exceptionTable.toList = [] from h) ▸ hx) List.not_mem_nil
theorem qo_X7_trySeed (E : qe_E) (L : Nat) : ∀ c : Code, zT (qZ E L) 210 c → ∀ x ∈ c.exceptionTable.toList, False := fun c h x hx => absurd ((show c.exceptionTable.toList = [] from h) ▸ hx) List.not_mem_nil
theorem qo_X7_hashKeys (E : qe_E) (L : Nat) : ∀ c : Code, zT (qZ E L) 211 c → ∀ x ∈ c.exceptionTable.toList, False := fun c h x hx => absurd ((show c.exceptionTable.toList = [] from h) ▸ hx) List.not_mem_nil
theorem qo_X7_place (E : qe_E) (L : Nat) : ∀ c : Code, zT (qZ E L) 212 c → ∀ x ∈ c.exceptionTable.toList, False := fun c h x hx => absurd ((show c.exceptionTable.toList = [] from h) ▸ hx) List.not_mem_nil
theorem qo_X7_takeSlots (E : qe_E) (L : Nat) : ∀ c : Code, zT (qZ E L) 213 c → ∀ x ∈ c.exceptionTable.toList, False := fun c h x hx => absurd ((show c.exceptionTable.toList = [] from h) ▸ hx) List.not_mem_nil
theorem qo_X7_nameOwners (E : qe_E) (L : Nat) : ∀ c : Code, zT (qZ E L) 214 c → ∀ x ∈ c.exceptionTable.toList, False := fun c h x hx => absurd ((show c.exceptionTable.toList = [] from h) ▸ hx) List.not_mem_nil
theorem qo_X7_slotFor (E : qe_E) (L : Nat) : ∀ c : Code, zT (qZ E L) 215 c → ∀ x ∈ c.exceptionTable.toList, False := fun c h x hx => absurd ((show c.exceptionTable.toList = [] from h) ▸ hx) List.not_mem_nil
theorem qo_X7_bucketFor (E : qe_E) (L : Nat) : ∀ c : Code, zT (qZ E L) 216 c → ∀ x ∈ c.exceptionTable.toList, False := fun c h x hx => absurd ((show c.exceptionTable.toList = [] from h) ▸ hx) List.not_mem_nil
theorem qo_X8_init (E : qe_E) (L : Nat) : ∀ c : Code, zT (qZ E L) 218 c → ∀ x ∈ c.exceptionTable.toList, False := fun c h x hx => absurd ((show c.exceptionTable.toList = [] from h) ▸ hx) List.not_mem_nil
theorem qo_X8_empty (E : qe_E) (L : Nat) : ∀ c : Code, zT (qZ E L) 219 c → ∀ x ∈ c.exceptionTable.toList, False := fun c h x hx => absurd ((show c.exceptionTable.toList = [] from h) ▸ hx) List.not_mem_nil
theorem qo_X8_signAt (E : qe_E) (L : Nat) : ∀ c : Code, zT (qZ E L) 220 c → ∀ x ∈ c.exceptionTable.toList, False := fun c h x hx => absurd ((show c.exceptionTable.toList = [] from h) ▸ hx) List.not_mem_nil
theorem qo_X8_write (E : qe_E) (L : Nat) : ∀ c : Code, zT (qZ E L) 221 c → ∀ x ∈ c.exceptionTable.toList, False := fun c h x hx => absurd ((show c.exceptionTable.toList = [] from h) ▸ hx) List.not_mem_nil
theorem qo_X8_isKeySign (E : qe_E) (L : Nat) : ∀ c : Code, zT (qZ E L) 223 c → ∀ x ∈ c.exceptionTable.toList, False := fun c h x hx => absurd ((show c.exceptionTable.toList = [] from h) ▸ hx) List.not_mem_nil
theorem qo_X8_isKey (E : qe_E) (L : Nat) : ∀ c : Code, zT (qZ E L) 224 c → ∀ x ∈ c.exceptionTable.toList, False := fun c h x hx => absurd ((show c.exceptionTable.toList = [] from h) ▸ hx) List.not_mem_nil
theorem qo_J6_bitCount_0f7a4 (E : qe_E) (L : Nat) : ∀ c : Code, zT (qZ E L) 250 c → ∀ x ∈ c.exceptionTable.toList, False := fun c h x hx => absurd ((show c.exceptionTable.toList = [] from h) ▸ hx) List.not_mem_nil
end QEY
