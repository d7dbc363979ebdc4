/-! STATICS: made by wip/engine/gen21.py -/
section QEY
def qB_X9_init : qe_B := (yX9_init, cX9_init, 1, none, Cond.code yX9_init cX9_init 1 none :: qw_G, RX9)
theorem qi_X9_init : ∀ w ∈ qw_G, w ∈ qB_X9_init.2.2.2.2.1 := fun w h => List.mem_cons_of_mem _ h
def qB_X9_append : qe_B := (yX9_append, cX9_append, 5, (some .int), Cond.code yX9_append cX9_append 5 (some .int) :: qw_G, RX9)
theorem qi_X9_append : ∀ w ∈ qw_G, w ∈ qB_X9_append.2.2.2.2.1 := fun w h => List.mem_cons_of_mem _ h
def qB_X9_clear : qe_B := (yX9_clear, cX9_clear, 2, (some .int), Cond.code yX9_clear cX9_clear 2 (some .int) :: qw_G, RX9)
theorem qi_X9_clear : ∀ w ∈ qw_G, w ∈ qB_X9_clear.2.2.2.2.1 := fun w h => List.mem_cons_of_mem _ h
def qB_X9_add : qe_B := (yX9_add, cX9_add, 2, (some .int), Cond.code yX9_add cX9_add 2 (some .int) :: qw_G, RX9)
theorem qi_X9_add : ∀ w ∈ qw_G, w ∈ qB_X9_add.2.2.2.2.1 := fun w h => List.mem_cons_of_mem _ h
def qB_X9_remove : qe_B := (yX9_remove, cX9_remove, 2, (some .int), Cond.code yX9_remove cX9_remove 2 (some .int) :: qw_G, RX9)
theorem qi_X9_remove : ∀ w ∈ qw_G, w ∈ qB_X9_remove.2.2.2.2.1 := fun w h => List.mem_cons_of_mem _ h
def qB_X9_setBranch : qe_B := (yX9_setBranch, cX9_setBranch, 4, (some .int), Cond.code yX9_setBranch cX9_setBranch 4 (some .int) :: qw_G, RX9)
theorem qi_X9_setBranch : ∀ w ∈ qw_G, w ∈ qB_X9_setBranch.2.2.2.2.1 := fun w h => List.mem_cons_of_mem _ h
def qB_X9_setWeight : qe_B := (yX9_setWeight, cX9_setWeight, 4, (some .int), Cond.code yX9_setWeight cX9_setWeight 4 (some .int) :: qw_G, RX9)
theorem qi_X9_setWeight : ∀ w ∈ qw_G, w ∈ qB_X9_setWeight.2.2.2.2.1 := fun w h => List.mem_cons_of_mem _ h
def qB_X9_setLoad : qe_B := (yX9_setLoad, cX9_setLoad, 3, (some .int), Cond.code yX9_setLoad cX9_setLoad 3 (some .int) :: qw_G, RX9)
theorem qi_X9_setLoad : ∀ w ∈ qw_G, w ∈ qB_X9_setLoad.2.2.2.2.1 := fun w h => List.mem_cons_of_mem _ h
def qB_X9_execute : qe_B := (yX9_execute, cX9_execute, 3, (some .int), Cond.code yX9_execute cX9_execute 3 (some .int) :: qw_G, RX9)
theorem qi_X9_execute : ∀ w ∈ qw_G, w ∈ qB_X9_execute.2.2.2.2.1 := fun w h => List.mem_cons_of_mem _ h
def qB_X9_errorPosition : qe_B := (yX9_errorPosition, cX9_errorPosition, 1, (some .int), Cond.code yX9_errorPosition cX9_errorPosition 1 (some .int) :: qw_G, RX9)
theorem qi_X9_errorPosition : ∀ w ∈ qw_G, w ∈ qB_X9_errorPosition.2.2.2.2.1 := fun w h => List.mem_cons_of_mem _ h
def qB_X9_property : qe_B := (yX9_property, cX9_property, 3, (some .int), Cond.code yX9_property cX9_property 3 (some .int) :: qw_G, RX9)
theorem qi_X9_property : ∀ w ∈ qw_G, w ∈ qB_X9_property.2.2.2.2.1 := fun w h => List.mem_cons_of_mem _ h
def qB_X9_character : qe_B := (yX9_character, cX9_character, 3, (some .int), Cond.code yX9_character cX9_character 3 (some .int) :: qw_G, RX9)
theorem qi_X9_character : ∀ w ∈ qw_G, w ∈ qB_X9_character.2.2.2.2.1 := fun w h => List.mem_cons_of_mem _ h
def qB_X9_difference : qe_B := (yX9_difference, cX9_difference, 3, (some .int), Cond.code yX9_difference cX9_difference 3 (some .int) :: qw_G, RX9)
theorem qi_X9_difference : ∀ w ∈ qw_G, w ∈ qB_X9_difference.2.2.2.2.1 := fun w h => List.mem_cons_of_mem _ h
def qB_X9_size : qe_B := (yX9_size, cX9_size, 2, (some .int), Cond.code yX9_size cX9_size 2 (some .int) :: qw_G, RX9)
theorem qi_X9_size : ∀ w ∈ qw_G, w ∈ qB_X9_size.2.2.2.2.1 := fun w h => List.mem_cons_of_mem _ h
def qB_X9_find : qe_B := (yX9_find, cX9_find, 2, (some .int), Cond.code yX9_find cX9_find 2 (some .int) :: qw_G, RX9)
theorem qi_X9_find : ∀ w ∈ qw_G, w ∈ qB_X9_find.2.2.2.2.1 := fun w h => List.mem_cons_of_mem _ h
def qB_X9_branch : qe_B := (yX9_branch, cX9_branch, 2, (some .int), Cond.code yX9_branch cX9_branch 2 (some .int) :: qw_G, RX9)
theorem qi_X9_branch : ∀ w ∈ qw_G, w ∈ qB_X9_branch.2.2.2.2.1 := fun w h => List.mem_cons_of_mem _ h
def qB_X9_examined : qe_B := (yX9_examined, cX9_examined, 2, (some .int), Cond.code yX9_examined cX9_examined 2 (some .int) :: qw_G, RX9)
theorem qi_X9_examined : ∀ w ∈ qw_G, w ∈ qB_X9_examined.2.2.2.2.1 := fun w h => List.mem_cons_of_mem _ h
def qB_X9_cost : qe_B := (yX9_cost, cX9_cost, 2, (some .int), Cond.code yX9_cost cX9_cost 2 (some .int) :: qw_G, RX9)
theorem qi_X9_cost : ∀ w ∈ qw_G, w ∈ qB_X9_cost.2.2.2.2.1 := fun w h => List.mem_cons_of_mem _ h
def qB_X9_worst : qe_B := (yX9_worst, cX9_worst, 2, (some .int), Cond.code yX9_worst cX9_worst 2 (some .int) :: qw_G, RX9)
theorem qi_X9_worst : ∀ w ∈ qw_G, w ∈ qB_X9_worst.2.2.2.2.1 := fun w h => List.mem_cons_of_mem _ h
def qB_X9_meanBits : qe_B := (yX9_meanBits, cX9_meanBits, 3, (some .long), Cond.code yX9_meanBits cX9_meanBits 3 (some .long) :: qw_G, RX9)
theorem qi_X9_meanBits : ∀ w ∈ qw_G, w ∈ qB_X9_meanBits.2.2.2.2.1 := fun w h => List.mem_cons_of_mem _ h
def qB_X9_best : qe_B := (yX9_best, cX9_best, 4, (some .int), Cond.code yX9_best cX9_best 4 (some .int) :: qw_G, RX9)
theorem qi_X9_best : ∀ w ∈ qw_G, w ∈ qB_X9_best.2.2.2.2.1 := fun w h => List.mem_cons_of_mem _ h
def qB_X9_trees : qe_B := (yX9_trees, cX9_trees, 2, (some .int), Cond.code yX9_trees cX9_trees 2 (some .int) :: qw_G, RX9)
theorem qi_X9_trees : ∀ w ∈ qw_G, w ∈ qB_X9_trees.2.2.2.2.1 := fun w h => List.mem_cons_of_mem _ h
def qB_X9_selected : qe_B := (yX9_selected, cX9_selected, 1, (some .int), Cond.code yX9_selected cX9_selected 1 (some .int) :: qw_G, RX9)
theorem qi_X9_selected : ∀ w ∈ qw_G, w ∈ qB_X9_selected.2.2.2.2.1 := fun w h => List.mem_cons_of_mem _ h
def qB_X9_hash : qe_B := (yX9_hash, cX9_hash, 2, (some .int), Cond.code yX9_hash cX9_hash 2 (some .int) :: qw_G, RX9)
theorem qi_X9_hash : ∀ w ∈ qw_G, w ∈ qB_X9_hash.2.2.2.2.1 := fun w h => List.mem_cons_of_mem _ h
def qB_X9_table : qe_B := (yX9_table, cX9_table, 2, (some .int), Cond.code yX9_table cX9_table 2 (some .int) :: qw_G, RX9)
theorem qi_X9_table : ∀ w ∈ qw_G, w ∈ qB_X9_table.2.2.2.2.1 := fun w h => List.mem_cons_of_mem _ h
def qB_X9_slot : qe_B := (yX9_slot, cX9_slot, 2, (some .int), Cond.code yX9_slot cX9_slot 2 (some .int) :: qw_G, RX9)
theorem qi_X9_slot : ∀ w ∈ qw_G, w ∈ qB_X9_slot.2.2.2.2.1 := fun w h => List.mem_cons_of_mem _ h
def qB_X9_displacement : qe_B := (yX9_displacement, cX9_displacement, 2, (some .int), Cond.code yX9_displacement cX9_displacement 2 (some .int) :: qw_G, RX9)
theorem qi_X9_displacement : ∀ w ∈ qw_G, w ∈ qB_X9_displacement.2.2.2.2.1 := fun w h => List.mem_cons_of_mem _ h
def qB_X9_densityBits : qe_B := (yX9_densityBits, cX9_densityBits, 2, (some .int), Cond.code yX9_densityBits cX9_densityBits 2 (some .int) :: qw_G, RX9)
theorem qi_X9_densityBits : ∀ w ∈ qw_G, w ∈ qB_X9_densityBits.2.2.2.2.1 := fun w h => List.mem_cons_of_mem _ h
def qB_X9_listing : qe_B := (yX9_listing, cX9_listing, 3, (some .int), Cond.code yX9_listing cX9_listing 3 (some .int) :: qw_G, RX9)
theorem qi_X9_listing : ∀ w ∈ qw_G, w ∈ qB_X9_listing.2.2.2.2.1 := fun w h => List.mem_cons_of_mem _ h
def qB_X9_save : qe_B := (yX9_save, cX9_save, 1, (some .int), Cond.code yX9_save cX9_save 1 (some .int) :: qw_G, RX9)
theorem qi_X9_save : ∀ w ∈ qw_G, w ∈ qB_X9_save.2.2.2.2.1 := fun w h => List.mem_cons_of_mem _ h
def qB_X9_restore : qe_B := (yX9_restore, cX9_restore, 1, (some .int), Cond.code yX9_restore cX9_restore 1 (some .int) :: qw_G, RX9)
theorem qi_X9_restore : ∀ w ∈ qw_G, w ∈ qB_X9_restore.2.2.2.2.1 := fun w h => List.mem_cons_of_mem _ h
def qB_X9_requireKey : qe_B := (yX9_requireKey, cX9_requireKey, 2, none, Cond.code yX9_requireKey cX9_requireKey 2 none :: qw_G, RX9)
theorem qi_X9_requireKey : ∀ w ∈ qw_G, w ∈ qB_X9_requireKey.2.2.2.2.1 := fun w h => List.mem_cons_of_mem _ h
def qB_X9_requireStrategy : qe_B := (yX9_requireStrategy, cX9_requireStrategy, 1, none, Cond.code yX9_requireStrategy cX9_requireStrategy 1 none :: qw_G, RX9)
theorem qi_X9_requireStrategy : ∀ w ∈ qw_G, w ∈ qB_X9_requireStrategy.2.2.2.2.1 := fun w h => List.mem_cons_of_mem _ h
def qB_X9_requireRunnable : qe_B := (yX9_requireRunnable, cX9_requireRunnable, 2, none, Cond.code yX9_requireRunnable cX9_requireRunnable 2 none :: qw_G, RX9)
theorem qi_X9_requireRunnable : ∀ w ∈ qw_G, w ∈ qB_X9_requireRunnable.2.2.2.2.1 := fun w h => List.mem_cons_of_mem _ h
def qB_X9_requireTable : qe_B := (yX9_requireTable, cX9_requireTable, 1, none, Cond.code yX9_requireTable cX9_requireTable 1 none :: qw_G, RX9)
theorem qi_X9_requireTable : ∀ w ∈ qw_G, w ∈ qB_X9_requireTable.2.2.2.2.1 := fun w h => List.mem_cons_of_mem _ h
def qB_X9_canRun : qe_B := (yX9_canRun, cX9_canRun, 2, (some .boolean), Cond.code yX9_canRun cX9_canRun 2 (some .boolean) :: qw_G, RX9)
theorem qi_X9_canRun : ∀ w ∈ qw_G, w ∈ qB_X9_canRun.2.2.2.2.1 := fun w h => List.mem_cons_of_mem _ h
def qB_X9_prepare : qe_B := (yX9_prepare, cX9_prepare, 1, none, Cond.code yX9_prepare cX9_prepare 1 none :: qw_G, RX9)
theorem qi_X9_prepare : ∀ w ∈ qw_G, w ∈ qB_X9_prepare.2.2.2.2.1 := fun w h => List.mem_cons_of_mem _ h
def qB_X9_put : qe_B := (yX9_put, cX9_put, 3, none, Cond.code yX9_put cX9_put 3 none :: qw_G, RX9)
theorem qi_X9_put : ∀ w ∈ qw_G, w ∈ qB_X9_put.2.2.2.2.1 := fun w h => List.mem_cons_of_mem _ h
def qB_X9_copy : qe_B := (yX9_copy, cX9_copy, 3, none, Cond.code yX9_copy cX9_copy 3 none :: qw_G, RX9)
theorem qi_X9_copy : ∀ w ∈ qw_G, w ∈ qB_X9_copy.2.2.2.2.1 := fun w h => List.mem_cons_of_mem _ h
def qB_X9_contains : qe_B := (yX9_contains, cX9_contains, 2, (some .boolean), Cond.code yX9_contains cX9_contains 2 (some .boolean) :: qw_G, RX9)
theorem qi_X9_contains : ∀ w ∈ qw_G, w ∈ qB_X9_contains.2.2.2.2.1 := fun w h => List.mem_cons_of_mem _ h
def qB_X10_init : qe_B := (yX10_init, cX10_init, 1, none, Cond.code yX10_init cX10_init 1 none :: qw_G, RX10)
theorem qi_X10_init : ∀ w ∈ qw_G, w ∈ qB_X10_init.2.2.2.2.1 := fun w h => List.mem_cons_of_mem _ h
def qB_X10_thrown : qe_B := (yX10_thrown, cX10_thrown, 1, (some .int), Cond.code yX10_thrown cX10_thrown 1 (some .int) :: qw_G, RX10)
theorem qi_X10_thrown : ∀ w ∈ qw_G, w ∈ qB_X10_thrown.2.2.2.2.1 := fun w h => List.mem_cons_of_mem _ h
def qB_X10_in : qe_B := (yX10_in, cX10_in, 6, (some .boolean), Cond.code yX10_in cX10_in 6 (some .boolean) :: qw_G, RX10)
theorem qi_X10_in : ∀ w ∈ qw_G, w ∈ qB_X10_in.2.2.2.2.1 := fun w h => List.mem_cons_of_mem _ h
def qB_X10_isKey : qe_B := (yX10_isKey, cX10_isKey, 2, (some .boolean), Cond.code yX10_isKey cX10_isKey 2 (some .boolean) :: qw_G, RX10)
theorem qi_X10_isKey : ∀ w ∈ qw_G, w ∈ qB_X10_isKey.2.2.2.2.1 := fun w h => List.mem_cons_of_mem _ h
def qB_X10_append : qe_B := (yX10_append, cX10_append, 6, (some .int), Cond.code yX10_append cX10_append 6 (some .int) :: qw_G, RX10)
theorem qi_X10_append : ∀ w ∈ qw_G, w ∈ qB_X10_append.2.2.2.2.1 := fun w h => List.mem_cons_of_mem _ h
def qB_X10_clear : qe_B := (yX10_clear, cX10_clear, 2, (some .int), Cond.code yX10_clear cX10_clear 2 (some .int) :: qw_G, RX10)
theorem qi_X10_clear : ∀ w ∈ qw_G, w ∈ qB_X10_clear.2.2.2.2.1 := fun w h => List.mem_cons_of_mem _ h
def qB_X10_add : qe_B := (yX10_add, cX10_add, 4, (some .int), Cond.code yX10_add cX10_add 4 (some .int) :: qw_G, RX10)
theorem qi_X10_add : ∀ w ∈ qw_G, w ∈ qB_X10_add.2.2.2.2.1 := fun w h => List.mem_cons_of_mem _ h
def qB_X10_remove : qe_B := (yX10_remove, cX10_remove, 2, (some .int), Cond.code yX10_remove cX10_remove 2 (some .int) :: qw_G, RX10)
theorem qi_X10_remove : ∀ w ∈ qw_G, w ∈ qB_X10_remove.2.2.2.2.1 := fun w h => List.mem_cons_of_mem _ h
def qB_X10_setBranch : qe_B := (yX10_setBranch, cX10_setBranch, 4, (some .int), Cond.code yX10_setBranch cX10_setBranch 4 (some .int) :: qw_G, RX10)
theorem qi_X10_setBranch : ∀ w ∈ qw_G, w ∈ qB_X10_setBranch.2.2.2.2.1 := fun w h => List.mem_cons_of_mem _ h
def qB_X10_setWeight : qe_B := (yX10_setWeight, cX10_setWeight, 4, (some .int), Cond.code yX10_setWeight cX10_setWeight 4 (some .int) :: qw_G, RX10)
theorem qi_X10_setWeight : ∀ w ∈ qw_G, w ∈ qB_X10_setWeight.2.2.2.2.1 := fun w h => List.mem_cons_of_mem _ h
def qB_X10_setLoad : qe_B := (yX10_setLoad, cX10_setLoad, 3, (some .int), Cond.code yX10_setLoad cX10_setLoad 3 (some .int) :: qw_G, RX10)
theorem qi_X10_setLoad : ∀ w ∈ qw_G, w ∈ qB_X10_setLoad.2.2.2.2.1 := fun w h => List.mem_cons_of_mem _ h
def qB_X10_here : qe_B := (yX10_here, cX10_here, 1, (some .int), Cond.code yX10_here cX10_here 1 (some .int) :: qw_G, RX10)
theorem qi_X10_here : ∀ w ∈ qw_G, w ∈ qB_X10_here.2.2.2.2.1 := fun w h => List.mem_cons_of_mem _ h
def qB_X10_isWord : qe_B := (yX10_isWord, cX10_isWord, 5, (some .boolean), Cond.code yX10_isWord cX10_isWord 5 (some .boolean) :: qw_G, RX10)
theorem qi_X10_isWord : ∀ w ∈ qw_G, w ∈ qB_X10_isWord.2.2.2.2.1 := fun w h => List.mem_cons_of_mem _ h
def qB_X10_word : qe_B := (yX10_word, cX10_word, 3, (some .int), Cond.code yX10_word cX10_word 3 (some .int) :: qw_G, RX10)
theorem qi_X10_word : ∀ w ∈ qw_G, w ∈ qB_X10_word.2.2.2.2.1 := fun w h => List.mem_cons_of_mem _ h
def qB_X10_readCommand : qe_B := (yX10_readCommand, cX10_readCommand, 1, none, Cond.code yX10_readCommand cX10_readCommand 1 none :: qw_G, RX10)
theorem qi_X10_readCommand : ∀ w ∈ qw_G, w ∈ qB_X10_readCommand.2.2.2.2.1 := fun w h => List.mem_cons_of_mem _ h
def qB_X10_execute : qe_B := (yX10_execute, cX10_execute, 3, (some .int), Cond.code yX10_execute cX10_execute 3 (some .int) :: qw_G, RX10)
theorem qi_X10_execute : ∀ w ∈ qw_G, w ∈ qB_X10_execute.2.2.2.2.1 := fun w h => List.mem_cons_of_mem _ h
def qB_X10_errorPosition : qe_B := (yX10_errorPosition, cX10_errorPosition, 1, (some .int), Cond.code yX10_errorPosition cX10_errorPosition 1 (some .int) :: qw_G, RX10)
theorem qi_X10_errorPosition : ∀ w ∈ qw_G, w ∈ qB_X10_errorPosition.2.2.2.2.1 := fun w h => List.mem_cons_of_mem _ h
def qB_X10_property : qe_B := (yX10_property, cX10_property, 3, (some .int), Cond.code yX10_property cX10_property 3 (some .int) :: qw_G, RX10)
theorem qi_X10_property : ∀ w ∈ qw_G, w ∈ qB_X10_property.2.2.2.2.1 := fun w h => List.mem_cons_of_mem _ h
def qB_X10_character : qe_B := (yX10_character, cX10_character, 3, (some .int), Cond.code yX10_character cX10_character 3 (some .int) :: qw_G, RX10)
theorem qi_X10_character : ∀ w ∈ qw_G, w ∈ qB_X10_character.2.2.2.2.1 := fun w h => List.mem_cons_of_mem _ h
def qB_X10_difference : qe_B := (yX10_difference, cX10_difference, 3, (some .int), Cond.code yX10_difference cX10_difference 3 (some .int) :: qw_G, RX10)
theorem qi_X10_difference : ∀ w ∈ qw_G, w ∈ qB_X10_difference.2.2.2.2.1 := fun w h => List.mem_cons_of_mem _ h
def qB_X10_size : qe_B := (yX10_size, cX10_size, 2, (some .int), Cond.code yX10_size cX10_size 2 (some .int) :: qw_G, RX10)
theorem qi_X10_size : ∀ w ∈ qw_G, w ∈ qB_X10_size.2.2.2.2.1 := fun w h => List.mem_cons_of_mem _ h
def qB_X10_takeBuffer : qe_B := (yX10_takeBuffer, cX10_takeBuffer, 1, none, Cond.code yX10_takeBuffer cX10_takeBuffer 1 none :: qw_G, RX10)
theorem qi_X10_takeBuffer : ∀ w ∈ qw_G, w ∈ qB_X10_takeBuffer.2.2.2.2.1 := fun w h => List.mem_cons_of_mem _ h
def qB_X10_linear : qe_B := (yX10_linear, cX10_linear, 2, (some .int), Cond.code yX10_linear cX10_linear 2 (some .int) :: qw_G, RX10)
theorem qi_X10_linear : ∀ w ∈ qw_G, w ∈ qB_X10_linear.2.2.2.2.1 := fun w h => List.mem_cons_of_mem _ h
def qB_X10_search : qe_B := (yX10_search, cX10_search, 6, (some .int), Cond.code yX10_search cX10_search 6 (some .int) :: qw_G, RX10)
theorem qi_X10_search : ∀ w ∈ qw_G, w ∈ qB_X10_search.2.2.2.2.1 := fun w h => List.mem_cons_of_mem _ h
def qB_X10_marked : qe_B := (yX10_marked, cX10_marked, 4, (some .int), Cond.code yX10_marked cX10_marked 4 (some .int) :: qw_G, RX10)
theorem qi_X10_marked : ∀ w ∈ qw_G, w ∈ qB_X10_marked.2.2.2.2.1 := fun w h => List.mem_cons_of_mem _ h
def qB_X10_ofLength : qe_B := (yX10_ofLength, cX10_ofLength, 4, (some (.array .boolean)), Cond.code yX10_ofLength cX10_ofLength 4 (some (.array .boolean)) :: qw_G, RX10)
theorem qi_X10_ofLength : ∀ w ∈ qw_G, w ∈ qB_X10_ofLength.2.2.2.2.1 := fun w h => List.mem_cons_of_mem _ h
def qB_X10_climb : qe_B := (yX10_climb, cX10_climb, 6, (some .int), Cond.code yX10_climb cX10_climb 6 (some .int) :: qw_G, RX10)
theorem qi_X10_climb : ∀ w ∈ qw_G, w ∈ qB_X10_climb.2.2.2.2.1 := fun w h => List.mem_cons_of_mem _ h
def qB_X10_trees : qe_B := (yX10_trees, cX10_trees, 4, (some .int), Cond.code yX10_trees cX10_trees 4 (some .int) :: qw_G, RX10)
theorem qi_X10_trees : ∀ w ∈ qw_G, w ∈ qB_X10_trees.2.2.2.2.1 := fun w h => List.mem_cons_of_mem _ h
def qB_X10_separates : qe_B := (yX10_separates, cX10_separates, 6, (some .boolean), Cond.code yX10_separates cX10_separates 6 (some .boolean) :: qw_G, RX10)
theorem qi_X10_separates : ∀ w ∈ qw_G, w ∈ qB_X10_separates.2.2.2.2.1 := fun w h => List.mem_cons_of_mem _ h
def qB_X10_sizeOf : qe_B := (yX10_sizeOf, cX10_sizeOf, 3, (some .int), Cond.code yX10_sizeOf cX10_sizeOf 3 (some .int) :: qw_G, RX10)
theorem qi_X10_sizeOf : ∀ w ∈ qw_G, w ∈ qB_X10_sizeOf.2.2.2.2.1 := fun w h => List.mem_cons_of_mem _ h
def qB_X10_select : qe_B := (yX10_select, cX10_select, 4, none, Cond.code yX10_select cX10_select 4 none :: qw_G, RX10)
theorem qi_X10_select : ∀ w ∈ qw_G, w ∈ qB_X10_select.2.2.2.2.1 := fun w h => List.mem_cons_of_mem _ h
def qB_X10_hashOfText : qe_B := (yX10_hashOfText, cX10_hashOfText, 4, (some .int), Cond.code yX10_hashOfText cX10_hashOfText 4 (some .int) :: qw_G, RX10)
theorem qi_X10_hashOfText : ∀ w ∈ qw_G, w ∈ qB_X10_hashOfText.2.2.2.2.1 := fun w h => List.mem_cons_of_mem _ h
def qB_X10_prepare : qe_B := (yX10_prepare, cX10_prepare, 2, none, Cond.code yX10_prepare cX10_prepare 2 none :: qw_G, RX10)
theorem qi_X10_prepare : ∀ w ∈ qw_G, w ∈ qB_X10_prepare.2.2.2.2.1 := fun w h => List.mem_cons_of_mem _ h
def qB_X10_hashed : qe_B := (yX10_hashed, cX10_hashed, 2, (some .int), Cond.code yX10_hashed cX10_hashed 2 (some .int) :: qw_G, RX10)
theorem qi_X10_hashed : ∀ w ∈ qw_G, w ∈ qB_X10_hashed.2.2.2.2.1 := fun w h => List.mem_cons_of_mem _ h
def qB_X10_canRun : qe_B := (yX10_canRun, cX10_canRun, 2, (some .boolean), Cond.code yX10_canRun cX10_canRun 2 (some .boolean) :: qw_G, RX10)
theorem qi_X10_canRun : ∀ w ∈ qw_G, w ∈ qB_X10_canRun.2.2.2.2.1 := fun w h => List.mem_cons_of_mem _ h
def qB_X10_refusal : qe_B := (yX10_refusal, cX10_refusal, 2, (some .int), Cond.code yX10_refusal cX10_refusal 2 (some .int) :: qw_G, RX10)
theorem qi_X10_refusal : ∀ w ∈ qw_G, w ∈ qB_X10_refusal.2.2.2.2.1 := fun w h => List.mem_cons_of_mem _ h
def qB_X10_run : qe_B := (yX10_run, cX10_run, 2, (some .int), Cond.code yX10_run cX10_run 2 (some .int) :: qw_G, RX10)
theorem qi_X10_run : ∀ w ∈ qw_G, w ∈ qB_X10_run.2.2.2.2.1 := fun w h => List.mem_cons_of_mem _ h
def qB_X10_find : qe_B := (yX10_find, cX10_find, 2, (some .int), Cond.code yX10_find cX10_find 2 (some .int) :: qw_G, RX10)
theorem qi_X10_find : ∀ w ∈ qw_G, w ∈ qB_X10_find.2.2.2.2.1 := fun w h => List.mem_cons_of_mem _ h
def qB_X10_branch : qe_B := (yX10_branch, cX10_branch, 3, (some .int), Cond.code yX10_branch cX10_branch 3 (some .int) :: qw_G, RX10)
theorem qi_X10_branch : ∀ w ∈ qw_G, w ∈ qB_X10_branch.2.2.2.2.1 := fun w h => List.mem_cons_of_mem _ h
def qB_X10_examined : qe_B := (yX10_examined, cX10_examined, 3, (some .int), Cond.code yX10_examined cX10_examined 3 (some .int) :: qw_G, RX10)
theorem qi_X10_examined : ∀ w ∈ qw_G, w ∈ qB_X10_examined.2.2.2.2.1 := fun w h => List.mem_cons_of_mem _ h
def qB_X10_costOf : qe_B := (yX10_costOf, cX10_costOf, 5, (some .int), Cond.code yX10_costOf cX10_costOf 5 (some .int) :: qw_G, RX10)
theorem qi_X10_costOf : ∀ w ∈ qw_G, w ∈ qB_X10_costOf.2.2.2.2.1 := fun w h => List.mem_cons_of_mem _ h
def qB_X10_cost : qe_B := (yX10_cost, cX10_cost, 2, (some .int), Cond.code yX10_cost cX10_cost 2 (some .int) :: qw_G, RX10)
theorem qi_X10_cost : ∀ w ∈ qw_G, w ∈ qB_X10_cost.2.2.2.2.1 := fun w h => List.mem_cons_of_mem _ h
def qB_X10_worst : qe_B := (yX10_worst, cX10_worst, 5, (some .int), Cond.code yX10_worst cX10_worst 5 (some .int) :: qw_G, RX10)
theorem qi_X10_worst : ∀ w ∈ qw_G, w ∈ qB_X10_worst.2.2.2.2.1 := fun w h => List.mem_cons_of_mem _ h
def qB_X10_meanBits : qe_B := (yX10_meanBits, cX10_meanBits, 4, (some .long), Cond.code yX10_meanBits cX10_meanBits 4 (some .long) :: qw_G, RX10)
theorem qi_X10_meanBits : ∀ w ∈ qw_G, w ∈ qB_X10_meanBits.2.2.2.2.1 := fun w h => List.mem_cons_of_mem _ h
def qB_X10_best : qe_B := (yX10_best, cX10_best, 5, (some .int), Cond.code yX10_best cX10_best 5 (some .int) :: qw_G, RX10)
theorem qi_X10_best : ∀ w ∈ qw_G, w ∈ qB_X10_best.2.2.2.2.1 := fun w h => List.mem_cons_of_mem _ h
def qB_X10_selected : qe_B := (yX10_selected, cX10_selected, 1, (some .int), Cond.code yX10_selected cX10_selected 1 (some .int) :: qw_G, RX10)
theorem qi_X10_selected : ∀ w ∈ qw_G, w ∈ qB_X10_selected.2.2.2.2.1 := fun w h => List.mem_cons_of_mem _ h
def qB_X10_hash : qe_B := (yX10_hash, cX10_hash, 2, (some .int), Cond.code yX10_hash cX10_hash 2 (some .int) :: qw_G, RX10)
theorem qi_X10_hash : ∀ w ∈ qw_G, w ∈ qB_X10_hash.2.2.2.2.1 := fun w h => List.mem_cons_of_mem _ h
def qB_X10_hasTable : qe_B := (yX10_hasTable, cX10_hasTable, 1, (some .boolean), Cond.code yX10_hasTable cX10_hasTable 1 (some .boolean) :: qw_G, RX10)
theorem qi_X10_hasTable : ∀ w ∈ qw_G, w ∈ qB_X10_hasTable.2.2.2.2.1 := fun w h => List.mem_cons_of_mem _ h
def qB_X10_table : qe_B := (yX10_table, cX10_table, 2, (some .int), Cond.code yX10_table cX10_table 2 (some .int) :: qw_G, RX10)
theorem qi_X10_table : ∀ w ∈ qw_G, w ∈ qB_X10_table.2.2.2.2.1 := fun w h => List.mem_cons_of_mem _ h
def qB_X10_slot : qe_B := (yX10_slot, cX10_slot, 2, (some .int), Cond.code yX10_slot cX10_slot 2 (some .int) :: qw_G, RX10)
theorem qi_X10_slot : ∀ w ∈ qw_G, w ∈ qB_X10_slot.2.2.2.2.1 := fun w h => List.mem_cons_of_mem _ h
def qB_X10_displacement : qe_B := (yX10_displacement, cX10_displacement, 2, (some .int), Cond.code yX10_displacement cX10_displacement 2 (some .int) :: qw_G, RX10)
theorem qi_X10_displacement : ∀ w ∈ qw_G, w ∈ qB_X10_displacement.2.2.2.2.1 := fun w h => List.mem_cons_of_mem _ h
def qB_X10_densityBits : qe_B := (yX10_densityBits, cX10_densityBits, 1, (some .int), Cond.code yX10_densityBits cX10_densityBits 1 (some .int) :: qw_G, RX10)
theorem qi_X10_densityBits : ∀ w ∈ qw_G, w ∈ qB_X10_densityBits.2.2.2.2.1 := fun w h => List.mem_cons_of_mem _ h
def qB_X10_putTrees : qe_B := (yX10_putTrees, cX10_putTrees, 3, none, Cond.code yX10_putTrees cX10_putTrees 3 none :: qw_G, RX10)
theorem qi_X10_putTrees : ∀ w ∈ qw_G, w ∈ qB_X10_putTrees.2.2.2.2.1 := fun w h => List.mem_cons_of_mem _ h
def qB_X10_list : qe_B := (yX10_list, cX10_list, 3, none, Cond.code yX10_list cX10_list 3 none :: qw_G, RX10)
theorem qi_X10_list : ∀ w ∈ qw_G, w ∈ qB_X10_list.2.2.2.2.1 := fun w h => List.mem_cons_of_mem _ h
def qB_X10_listing : qe_B := (yX10_listing, cX10_listing, 3, (some .int), Cond.code yX10_listing cX10_listing 3 (some .int) :: qw_G, RX10)
theorem qi_X10_listing : ∀ w ∈ qw_G, w ∈ qB_X10_listing.2.2.2.2.1 := fun w h => List.mem_cons_of_mem _ h
def qB_X10_save : qe_B := (yX10_save, cX10_save, 1, (some .int), Cond.code yX10_save cX10_save 1 (some .int) :: qw_G, RX10)
theorem qi_X10_save : ∀ w ∈ qw_G, w ∈ qB_X10_save.2.2.2.2.1 := fun w h => List.mem_cons_of_mem _ h
def qB_X10_restore : qe_B := (yX10_restore, cX10_restore, 1, (some .int), Cond.code yX10_restore cX10_restore 1 (some .int) :: qw_G, RX10)
theorem qi_X10_restore : ∀ w ∈ qw_G, w ∈ qB_X10_restore.2.2.2.2.1 := fun w h => List.mem_cons_of_mem _ h
def qB_X0_init : qe_B := (yX0_init, cX0_init, 1, none, Cond.code yX0_init cX0_init 1 none :: qw_G, RX0)
theorem qi_X0_init : ∀ w ∈ qw_G, w ∈ qB_X0_init.2.2.2.2.1 := fun w h => List.mem_cons_of_mem _ h
def qB_X0_read : qe_B := (yX0_read, cX0_read, 3, (some .boolean), Cond.code yX0_read cX0_read 3 (some .boolean) :: qw_G, RX0)
theorem qi_X0_read : ∀ w ∈ qw_G, w ∈ qB_X0_read.2.2.2.2.1 := fun w h => List.mem_cons_of_mem _ h
def qB_X0_readCommand : qe_B := (yX0_readCommand, cX0_readCommand, 3, (some .boolean), Cond.code yX0_readCommand cX0_readCommand 3 (some .boolean) :: qw_G, RX0)
theorem qi_X0_readCommand : ∀ w ∈ qw_G, w ∈ qB_X0_readCommand.2.2.2.2.1 := fun w h => List.mem_cons_of_mem _ h
def qB_X0_readWord : qe_B := (yX0_readWord, cX0_readWord, 3, (some .int), Cond.code yX0_readWord cX0_readWord 3 (some .int) :: qw_G, RX0)
theorem qi_X0_readWord : ∀ w ∈ qw_G, w ∈ qB_X0_readWord.2.2.2.2.1 := fun w h => List.mem_cons_of_mem _ h
def qB_X0_isWord : qe_B := (yX0_isWord, cX0_isWord, 5, (some .boolean), Cond.code yX0_isWord cX0_isWord 5 (some .boolean) :: qw_G, RX0)
theorem qi_X0_isWord : ∀ w ∈ qw_G, w ∈ qB_X0_isWord.2.2.2.2.1 := fun w h => List.mem_cons_of_mem _ h
def qB_X1_init : qe_B := (yX1_init, cX1_init, 2, none, Cond.code yX1_init cX1_init 2 none :: qw_G, RX1)
theorem qi_X1_init : ∀ w ∈ qw_G, w ∈ qB_X1_init.2.2.2.2.1 := fun w h => List.mem_cons_of_mem _ h
def qB_X1_grow : qe_B := (yX1_grow, cX1_grow, 2, none, Cond.code yX1_grow cX1_grow 2 none :: qw_G, RX1)
theorem qi_X1_grow : ∀ w ∈ qw_G, w ∈ qB_X1_grow.2.2.2.2.1 := fun w h => List.mem_cons_of_mem _ h
def qB_X1_rootWith : qe_B := (yX1_rootWith, cX1_rootWith, 2, (some .int), Cond.code yX1_rootWith cX1_rootWith 2 (some .int) :: qw_G, RX1)
theorem qi_X1_rootWith : ∀ w ∈ qw_G, w ∈ qB_X1_rootWith.2.2.2.2.1 := fun w h => List.mem_cons_of_mem _ h
def qB_X1_treeWith : qe_B := (yX1_treeWith, cX1_treeWith, 5, (some .int), Cond.code yX1_treeWith cX1_treeWith 5 (some .int) :: qw_G, RX1)
theorem qi_X1_treeWith : ∀ w ∈ qw_G, w ∈ qB_X1_treeWith.2.2.2.2.1 := fun w h => List.mem_cons_of_mem _ h
def qB_X1_plantRoots : qe_B := (yX1_plantRoots, cX1_plantRoots, 5, none, Cond.code yX1_plantRoots cX1_plantRoots 5 none :: qw_G, RX1)
theorem qi_X1_plantRoots : ∀ w ∈ qw_G, w ∈ qB_X1_plantRoots.2.2.2.2.1 := fun w h => List.mem_cons_of_mem _ h
def qB_X2_init : qe_B := (yX2_init, cX2_init, 1, none, Cond.code yX2_init cX2_init 1 none :: qw_G, RX2)
theorem qi_X2_init : ∀ w ∈ qw_G, w ∈ qB_X2_init.2.2.2.2.1 := fun w h => List.mem_cons_of_mem _ h
def qB_X2_has : qe_B := (yX2_has, cX2_has, 2, (some .boolean), Cond.code yX2_has cX2_has 2 (some .boolean) :: qw_G, RX2)
theorem qi_X2_has : ∀ w ∈ qw_G, w ∈ qB_X2_has.2.2.2.2.1 := fun w h => List.mem_cons_of_mem _ h
def qB_X2_changeLoad : qe_B := (yX2_changeLoad, cX2_changeLoad, 2, none, Cond.code yX2_changeLoad cX2_changeLoad 2 none :: qw_G, RX2)
theorem qi_X2_changeLoad : ∀ w ∈ qw_G, w ∈ qB_X2_changeLoad.2.2.2.2.1 := fun w h => List.mem_cons_of_mem _ h
def qB_X2_takeOver : qe_B := (yX2_takeOver, cX2_takeOver, 2, none, Cond.code yX2_takeOver cX2_takeOver 2 none :: qw_G, RX2)
theorem qi_X2_takeOver : ∀ w ∈ qw_G, w ∈ qB_X2_takeOver.2.2.2.2.1 := fun w h => List.mem_cons_of_mem _ h
def qB_X2_totalWeight : qe_B := (yX2_totalWeight, cX2_totalWeight, 3, (some .int), Cond.code yX2_totalWeight cX2_totalWeight 3 (some .int) :: qw_G, RX2)
theorem qi_X2_totalWeight : ∀ w ∈ qw_G, w ∈ qB_X2_totalWeight.2.2.2.2.1 := fun w h => List.mem_cons_of_mem _ h
def qB_X3_init : qe_B := (yX3_init, cX3_init, 5, none, Cond.code yX3_init cX3_init 5 none :: qw_G, RX3)
theorem qi_X3_init : ∀ w ∈ qw_G, w ∈ qB_X3_init.2.2.2.2.1 := fun w h => List.mem_cons_of_mem _ h
def qB_X3_list : qe_B := (yX3_list, cX3_list, 2, none, Cond.code yX3_list cX3_list 2 none :: qw_G, RX3)
theorem qi_X3_list : ∀ w ∈ qw_G, w ∈ qB_X3_list.2.2.2.2.1 := fun w h => List.mem_cons_of_mem _ h
def qB_X3_listKeys : qe_B := (yX3_listKeys, cX3_listKeys, 3, none, Cond.code yX3_listKeys cX3_listKeys 3 none :: qw_G, RX3)
theorem qi_X3_listKeys : ∀ w ∈ qw_G, w ∈ qB_X3_listKeys.2.2.2.2.1 := fun w h => List.mem_cons_of_mem _ h
def qB_X3_listForest : qe_B := (yX3_listForest, cX3_listForest, 2, none, Cond.code yX3_listForest cX3_listForest 2 none :: qw_G, RX3)
theorem qi_X3_listForest : ∀ w ∈ qw_G, w ∈ qB_X3_listForest.2.2.2.2.1 := fun w h => List.mem_cons_of_mem _ h
def qB_X4_init : qe_B := (yX4_init, cX4_init, 2, none, Cond.code yX4_init cX4_init 2 none :: qw_G, RX4)
theorem qi_X4_init : ∀ w ∈ qw_G, w ∈ qB_X4_init.2.2.2.2.1 := fun w h => List.mem_cons_of_mem _ h
def qB_X4_sort : qe_B := (yX4_sort, cX4_sort, 2, none, Cond.code yX4_sort cX4_sort 2 none :: qw_G, RX4)
theorem qi_X4_sort : ∀ w ∈ qw_G, w ∈ qB_X4_sort.2.2.2.2.1 := fun w h => List.mem_cons_of_mem _ h
def qB_X5_init : qe_B := (yX5_init, cX5_init, 5, none, Cond.code yX5_init cX5_init 5 none :: qw_G, RX5)
theorem qi_X5_init : ∀ w ∈ qw_G, w ∈ qB_X5_init.2.2.2.2.1 := fun w h => List.mem_cons_of_mem _ h
def qB_X5_run : qe_B := (yX5_run, cX5_run, 3, none, Cond.code yX5_run cX5_run 3 none :: qw_G, RX5)
theorem qi_X5_run : ∀ w ∈ qw_G, w ∈ qB_X5_run.2.2.2.2.1 := fun w h => List.mem_cons_of_mem _ h
def qB_X5_measure : qe_B := (yX5_measure, cX5_measure, 3, none, Cond.code yX5_measure cX5_measure 3 none :: qw_G, RX5)
theorem qi_X5_measure : ∀ w ∈ qw_G, w ∈ qB_X5_measure.2.2.2.2.1 := fun w h => List.mem_cons_of_mem _ h
def qB_X5_runLinear : qe_B := (yX5_runLinear, cX5_runLinear, 3, none, Cond.code yX5_runLinear cX5_runLinear 3 none :: qw_G, RX5)
theorem qi_X5_runLinear : ∀ w ∈ qw_G, w ∈ qB_X5_runLinear.2.2.2.2.1 := fun w h => List.mem_cons_of_mem _ h
def qB_X5_runBinary : qe_B := (yX5_runBinary, cX5_runBinary, 10, none, Cond.code yX5_runBinary cX5_runBinary 10 none :: qw_G, RX5)
theorem qi_X5_runBinary : ∀ w ∈ qw_G, w ∈ qB_X5_runBinary.2.2.2.2.1 := fun w h => List.mem_cons_of_mem _ h
def qB_X5_runTrees : qe_B := (yX5_runTrees, cX5_runTrees, 6, none, Cond.code yX5_runTrees cX5_runTrees 6 none :: qw_G, RX5)
theorem qi_X5_runTrees : ∀ w ∈ qw_G, w ∈ qB_X5_runTrees.2.2.2.2.1 := fun w h => List.mem_cons_of_mem _ h
def qB_X5_runTable : qe_B := (yX5_runTable, cX5_runTable, 3, none, Cond.code yX5_runTable cX5_runTable 3 none :: qw_G, RX5)
theorem qi_X5_runTable : ∀ w ∈ qw_G, w ∈ qB_X5_runTable.2.2.2.2.1 := fun w h => List.mem_cons_of_mem _ h
def qB_X6_init : qe_B := (yX6_init, cX6_init, 2, none, Cond.code yX6_init cX6_init 2 none :: qw_G, RX6)
theorem qi_X6_init : ∀ w ∈ qw_G, w ∈ qB_X6_init.2.2.2.2.1 := fun w h => List.mem_cons_of_mem _ h
def qB_X6_choose : qe_B := (yX6_choose, cX6_choose, 4, none, Cond.code yX6_choose cX6_choose 4 none :: qw_G, RX6)
theorem qi_X6_choose : ∀ w ∈ qw_G, w ∈ qB_X6_choose.2.2.2.2.1 := fun w h => List.mem_cons_of_mem _ h
def qB_X6_turned : qe_B := (yX6_turned, cX6_turned, 3, (some .int), Cond.code yX6_turned cX6_turned 3 (some .int) :: qw_G, RX6)
theorem qi_X6_turned : ∀ w ∈ qw_G, w ∈ qB_X6_turned.2.2.2.2.1 := fun w h => List.mem_cons_of_mem _ h
def qB_X6_collectPairs : qe_B := (yX6_collectPairs, cX6_collectPairs, 3, none, Cond.code yX6_collectPairs cX6_collectPairs 3 none :: qw_G, RX6)
theorem qi_X6_collectPairs : ∀ w ∈ qw_G, w ∈ qB_X6_collectPairs.2.2.2.2.1 := fun w h => List.mem_cons_of_mem _ h
def qB_X6_separates : qe_B := (yX6_separates, cX6_separates, 3, (some .boolean), Cond.code yX6_separates cX6_separates 3 (some .boolean) :: qw_G, RX6)
theorem qi_X6_separates : ∀ w ∈ qw_G, w ∈ qB_X6_separates.2.2.2.2.1 := fun w h => List.mem_cons_of_mem _ h
def qB_X6_hashOf : qe_B := (yX6_hashOf, cX6_hashOf, 5, (some .int), Cond.code yX6_hashOf cX6_hashOf 5 (some .int) :: qw_G, RX6)
theorem qi_X6_hashOf : ∀ w ∈ qw_G, w ∈ qB_X6_hashOf.2.2.2.2.1 := fun w h => List.mem_cons_of_mem _ h
def qB_X7_init : qe_B := (yX7_init, cX7_init, 3, none, Cond.code yX7_init cX7_init 3 none :: qw_G, RX7)
theorem qi_X7_init : ∀ w ∈ qw_G, w ∈ qB_X7_init.2.2.2.2.1 := fun w h => List.mem_cons_of_mem _ h
def qB_X7_build : qe_B := (yX7_build, cX7_build, 2, none, Cond.code yX7_build cX7_build 2 none :: qw_G, RX7)
theorem qi_X7_build : ∀ w ∈ qw_G, w ∈ qB_X7_build.2.2.2.2.1 := fun w h => List.mem_cons_of_mem _ h
def qB_X8_init : qe_B := (yX8_init, cX8_init, 2, none, Cond.code yX8_init cX8_init 2 none :: qw_G, RX8)
theorem qi_X8_init : ∀ w ∈ qw_G, w ∈ qB_X8_init.2.2.2.2.1 := fun w h => List.mem_cons_of_mem _ h
def qB_X8_empty : qe_B := (yX8_empty, cX8_empty, 1, none, Cond.code yX8_empty cX8_empty 1 none :: qw_G, RX8)
theorem qi_X8_empty : ∀ w ∈ qw_G, w ∈ qB_X8_empty.2.2.2.2.1 := fun w h => List.mem_cons_of_mem _ h
def qB_X8_write : qe_B := (yX8_write, cX8_write, 2, none, Cond.code yX8_write cX8_write 2 none :: qw_G, RX8)
theorem qi_X8_write : ∀ w ∈ qw_G, w ∈ qB_X8_write.2.2.2.2.1 := fun w h => List.mem_cons_of_mem _ h
def qB_X8_isKey : qe_B := (yX8_isKey, cX8_isKey, 2, (some .boolean), Cond.code yX8_isKey cX8_isKey 2 (some .boolean) :: qw_G, RX8)
theorem qi_X8_isKey : ∀ w ∈ qw_G, w ∈ qB_X8_isKey.2.2.2.2.1 := fun w h => List.mem_cons_of_mem _ h
def qB_L_append : qe_B := (yL_append, cL_append, 4, (some .int), Cond.codeWith yL_append cL_append 4 (some .int) [(0, 9, 12, 13), (0, 9, 15, 15)] :: qw_G, RL)
theorem qi_L_append : ∀ w ∈ qw_G, w ∈ qB_L_append.2.2.2.2.1 := fun w h => List.mem_cons_of_mem _ h
def qB_L_add : qe_B := (yL_add, cL_add, 4, (some .int), Cond.codeWith yL_add cL_add 4 (some .int) [(0, 9, 12, 13), (0, 9, 15, 15)] :: qw_G, RL)
theorem qi_L_add : ∀ w ∈ qw_G, w ∈ qB_L_add.2.2.2.2.1 := fun w h => List.mem_cons_of_mem _ h
def qB_L_remove : qe_B := (yL_remove, cL_remove, 4, (some .int), Cond.codeWith yL_remove cL_remove 4 (some .int) [(0, 9, 12, 23)] :: qw_G, RL)
theorem qi_L_remove : ∀ w ∈ qw_G, w ∈ qB_L_remove.2.2.2.2.1 := fun w h => List.mem_cons_of_mem _ h
def qB_L_setBranch : qe_B := (yL_setBranch, cL_setBranch, 5, (some .int), Cond.codeWith yL_setBranch cL_setBranch 5 (some .int) [(0, 10, 13, 23), (0, 10, 17, 13)] :: qw_G, RL)
theorem qi_L_setBranch : ∀ w ∈ qw_G, w ∈ qB_L_setBranch.2.2.2.2.1 := fun w h => List.mem_cons_of_mem _ h
def qB_L_setWeight : qe_B := (yL_setWeight, cL_setWeight, 5, (some .int), Cond.codeWith yL_setWeight cL_setWeight 5 (some .int) [(0, 10, 13, 23), (0, 10, 17, 13)] :: qw_G, RL)
theorem qi_L_setWeight : ∀ w ∈ qw_G, w ∈ qB_L_setWeight.2.2.2.2.1 := fun w h => List.mem_cons_of_mem _ h
def qB_L_setLoad : qe_B := (yL_setLoad, cL_setLoad, 4, (some .int), Cond.codeWith yL_setLoad cL_setLoad 4 (some .int) [(0, 9, 12, 13)] :: qw_G, RL)
theorem qi_L_setLoad : ∀ w ∈ qw_G, w ∈ qB_L_setLoad.2.2.2.2.1 := fun w h => List.mem_cons_of_mem _ h
def qB_L_execute : qe_B := (yL_execute, cL_execute, 3, (some .int), Cond.codeWith yL_execute cL_execute 3 (some .int) [(0, 8, 11, 13), (0, 8, 14, 15)] :: qw_G, RL)
theorem qi_L_execute : ∀ w ∈ qw_G, w ∈ qB_L_execute.2.2.2.2.1 := fun w h => List.mem_cons_of_mem _ h
def qB_L_property : qe_B := (yL_property, cL_property, 5, (some .int), Cond.codeWith yL_property cL_property 5 (some .int) [(0, 10, 13, 23), (0, 10, 17, 13)] :: qw_G, RL)
theorem qi_L_property : ∀ w ∈ qw_G, w ∈ qB_L_property.2.2.2.2.1 := fun w h => List.mem_cons_of_mem _ h
def qB_L_character : qe_B := (yL_character, cL_character, 5, (some .int), Cond.codeWith yL_character cL_character 5 (some .int) [(0, 10, 13, 23)] :: qw_G, RL)
theorem qi_L_character : ∀ w ∈ qw_G, w ∈ qB_L_character.2.2.2.2.1 := fun w h => List.mem_cons_of_mem _ h
def qB_L_difference : qe_B := (yL_difference, cL_difference, 5, (some .int), Cond.codeWith yL_difference cL_difference 5 (some .int) [(0, 10, 13, 23), (0, 10, 17, 13)] :: qw_G, RL)
theorem qi_L_difference : ∀ w ∈ qw_G, w ∈ qB_L_difference.2.2.2.2.1 := fun w h => List.mem_cons_of_mem _ h
def qB_L_size : qe_B := (yL_size, cL_size, 4, (some .int), Cond.codeWith yL_size cL_size 4 (some .int) [(0, 9, 12, 13)] :: qw_G, RL)
theorem qi_L_size : ∀ w ∈ qw_G, w ∈ qB_L_size.2.2.2.2.1 := fun w h => List.mem_cons_of_mem _ h
def qB_L_find : qe_B := (yL_find, cL_find, 4, (some .int), Cond.codeWith yL_find cL_find 4 (some .int) [(0, 9, 12, 13), (0, 9, 15, 15)] :: qw_G, RL)
theorem qi_L_find : ∀ w ∈ qw_G, w ∈ qB_L_find.2.2.2.2.1 := fun w h => List.mem_cons_of_mem _ h
def qB_L_branch : qe_B := (yL_branch, cL_branch, 4, (some .int), Cond.codeWith yL_branch cL_branch 4 (some .int) [(0, 9, 12, 13), (0, 9, 15, 15)] :: qw_G, RL)
theorem qi_L_branch : ∀ w ∈ qw_G, w ∈ qB_L_branch.2.2.2.2.1 := fun w h => List.mem_cons_of_mem _ h
def qB_L_examined : qe_B := (yL_examined, cL_examined, 4, (some .int), Cond.codeWith yL_examined cL_examined 4 (some .int) [(0, 9, 12, 13), (0, 9, 15, 15)] :: qw_G, RL)
theorem qi_L_examined : ∀ w ∈ qw_G, w ∈ qB_L_examined.2.2.2.2.1 := fun w h => List.mem_cons_of_mem _ h
def qB_L_cost : qe_B := (yL_cost, cL_cost, 4, (some .int), Cond.codeWith yL_cost cL_cost 4 (some .int) [(0, 9, 12, 13), (0, 9, 15, 15)] :: qw_G, RL)
theorem qi_L_cost : ∀ w ∈ qw_G, w ∈ qB_L_cost.2.2.2.2.1 := fun w h => List.mem_cons_of_mem _ h
def qB_L_worst : qe_B := (yL_worst, cL_worst, 4, (some .int), Cond.codeWith yL_worst cL_worst 4 (some .int) [(0, 9, 12, 13), (0, 9, 15, 15)] :: qw_G, RL)
theorem qi_L_worst : ∀ w ∈ qw_G, w ∈ qB_L_worst.2.2.2.2.1 := fun w h => List.mem_cons_of_mem _ h
def qB_L_meanBits : qe_B := (yL_meanBits, cL_meanBits, 4, (some .int), Cond.codeWith yL_meanBits cL_meanBits 4 (some .int) [(0, 8, 11, 13), (0, 8, 14, 15), (0, 8, 17, 70)] :: qw_G, RL)
theorem qi_L_meanBits : ∀ w ∈ qw_G, w ∈ qB_L_meanBits.2.2.2.2.1 := fun w h => List.mem_cons_of_mem _ h
def qB_L_trees : qe_B := (yL_trees, cL_trees, 4, (some .int), Cond.codeWith yL_trees cL_trees 4 (some .int) [(0, 9, 12, 13)] :: qw_G, RL)
theorem qi_L_trees : ∀ w ∈ qw_G, w ∈ qB_L_trees.2.2.2.2.1 := fun w h => List.mem_cons_of_mem _ h
def qB_L_table : qe_B := (yL_table, cL_table, 4, (some .int), Cond.codeWith yL_table cL_table 4 (some .int) [(0, 9, 12, 13), (0, 9, 15, 15)] :: qw_G, RL)
theorem qi_L_table : ∀ w ∈ qw_G, w ∈ qB_L_table.2.2.2.2.1 := fun w h => List.mem_cons_of_mem _ h
def qB_L_slot : qe_B := (yL_slot, cL_slot, 4, (some .int), Cond.codeWith yL_slot cL_slot 4 (some .int) [(0, 9, 12, 15), (0, 9, 15, 23)] :: qw_G, RL)
theorem qi_L_slot : ∀ w ∈ qw_G, w ∈ qB_L_slot.2.2.2.2.1 := fun w h => List.mem_cons_of_mem _ h
def qB_L_displacement : qe_B := (yL_displacement, cL_displacement, 4, (some .int), Cond.codeWith yL_displacement cL_displacement 4 (some .int) [(0, 9, 12, 15), (0, 9, 15, 23)] :: qw_G, RL)
theorem qi_L_displacement : ∀ w ∈ qw_G, w ∈ qB_L_displacement.2.2.2.2.1 := fun w h => List.mem_cons_of_mem _ h
def qB_L_densityBits : qe_B := (yL_densityBits, cL_densityBits, 3, (some .int), Cond.codeWith yL_densityBits cL_densityBits 3 (some .int) [(0, 8, 11, 15)] :: qw_G, RL)
theorem qi_L_densityBits : ∀ w ∈ qw_G, w ∈ qB_L_densityBits.2.2.2.2.1 := fun w h => List.mem_cons_of_mem _ h
def qB_L_listing : qe_B := (yL_listing, cL_listing, 5, (some .int), Cond.codeWith yL_listing cL_listing 5 (some .int) [(0, 10, 13, 13), (0, 10, 17, 15), (0, 10, 21, 23)] :: qw_G, RL)
theorem qi_L_listing : ∀ w ∈ qw_G, w ∈ qB_L_listing.2.2.2.2.1 := fun w h => List.mem_cons_of_mem _ h
def qB_L_restore : qe_B := (yL_restore, cL_restore, 3, (some .int), Cond.codeWith yL_restore cL_restore 3 (some .int) [(0, 8, 11, 15)] :: qw_G, RL)
theorem qi_L_restore : ∀ w ∈ qw_G, w ∈ qB_L_restore.2.2.2.2.1 := fun w h => List.mem_cons_of_mem _ h
def qB_L_law : qe_B := (yL_law, cL_law, 8, (some .boolean), Cond.initialized RL :: qw_G, RL)
theorem qi_L_law : ∀ w ∈ qw_G, w ∈ qB_L_law.2.2.2.2.1 := fun w h => List.mem_cons_of_mem _ h
def qB_J6_bitCount_0f7a4 : qe_B := (yJ6_bitCount_0f7a4, cJ6_bitCount_0f7a4, 1, (some .int), Cond.code yJ6_bitCount_0f7a4 cJ6_bitCount_0f7a4 1 (some .int) :: qw_G, RJ6)
theorem qi_J6_bitCount_0f7a4 : ∀ w ∈ qw_G, w ∈ qB_J6_bitCount_0f7a4.2.2.2.2.1 := fun w h => List.mem_cons_of_mem _ h
def qw_M (j : Nat) : qe_B := cond (Nat.blt j 115) (cond (Nat.blt j 47) (cond (Nat.blt j 20) (cond (Nat.blt j 10) (cond (Nat.blt j 5) (cond (Nat.blt j 2) (cond (Nat.blt j 1) (qB_X9_init) (qB_X9_append)) (cond (Nat.blt j 3) (qB_X9_clear) (cond (Nat.blt j 4) (qB_X9_add) (qB_X9_remove)))) (cond (Nat.blt j 7) (cond (Nat.blt j 6) (qB_X9_setBranch) (qB_X9_setWeight)) (cond (Nat.blt j 8) (qB_X9_setLoad) (cond (Nat.blt j 9) (qB_X9_execute) (qB_X9_errorPosition))))) (cond (Nat.blt j 15) (cond (Nat.blt j 12) (cond (Nat.blt j 11) (qB_X9_property) (qB_X9_character)) (cond (Nat.blt j 13) (qB_X9_difference) (cond (Nat.blt j 14) (qB_X9_size) (qB_X9_find)))) (cond (Nat.blt j 17) (cond (Nat.blt j 16) (qB_X9_branch) (qB_X9_examined)) (cond (Nat.blt j 18) (qB_X9_cost) (cond (Nat.blt j 19) (qB_X9_worst) (qB_X9_meanBits)))))) (cond (Nat.blt j 30) (cond (Nat.blt j 25) (cond (Nat.blt j 22) (cond (Nat.blt j 21) (qB_X9_best) (qB_X9_trees)) (cond (Nat.blt j 23) (qB_X9_selected) (cond (Nat.blt j 24) (qB_X9_hash) (qB_X9_table)))) (cond (Nat.blt j 27) (cond (Nat.blt j 26) (qB_X9_slot) (qB_X9_displacement)) (cond (Nat.blt j 28) (qB_X9_densityBits) (cond (Nat.blt j 29) (qB_X9_listing) (qB_X9_save))))) (cond (Nat.blt j 36) (cond (Nat.blt j 33) (cond (Nat.blt j 31) (qB_X9_restore) (qB_X9_requireKey)) (cond (Nat.blt j 34) (qB_X9_requireStrategy) (cond (Nat.blt j 35) (qB_X9_requireRunnable) (qB_X9_requireTable)))) (cond (Nat.blt j 39) (cond (Nat.blt j 37) (qB_X9_canRun) (qB_X9_prepare)) (cond (Nat.blt j 40) (qB_X9_put) (cond (Nat.blt j 42) (qB_X9_copy) (qB_X9_contains))))))) (cond (Nat.blt j 81) (cond (Nat.blt j 62) (cond (Nat.blt j 54) (cond (Nat.blt j 49) (cond (Nat.blt j 48) (qB_X10_init) (qB_X10_thrown)) (cond (Nat.blt j 50) (qB_X10_in) (cond (Nat.blt j 53) (qB_X10_isKey) (qB_X10_append)))) (cond (Nat.blt j 59) (cond (Nat.blt j 58) (qB_X10_clear) (qB_X10_add)) (cond (Nat.blt j 60) (qB_X10_remove) (cond (Nat.blt j 61) (qB_X10_setBranch) (qB_X10_setWeight))))) (cond (Nat.blt j 72) (cond (Nat.blt j 65) (cond (Nat.blt j 63) (qB_X10_setLoad) (qB_X10_here)) (cond (Nat.blt j 66) (qB_X10_isWord) (cond (Nat.blt j 70) (qB_X10_word) (qB_X10_readCommand)))) (cond (Nat.blt j 78) (cond (Nat.blt j 73) (qB_X10_execute) (qB_X10_errorPosition)) (cond (Nat.blt j 79) (qB_X10_property) (cond (Nat.blt j 80) (qB_X10_character) (qB_X10_difference)))))) (cond (Nat.blt j 100) (cond (Nat.blt j 92) (cond (Nat.blt j 85) (cond (Nat.blt j 82) (qB_X10_size) (qB_X10_takeBuffer)) (cond (Nat.blt j 88) (qB_X10_linear) (cond (Nat.blt j 89) (qB_X10_search) (qB_X10_marked)))) (cond (Nat.blt j 96) (cond (Nat.blt j 94) (qB_X10_ofLength) (qB_X10_climb)) (cond (Nat.blt j 97) (qB_X10_trees) (cond (Nat.blt j 98) (qB_X10_separates) (qB_X10_sizeOf))))) (cond (Nat.blt j 109) (cond (Nat.blt j 106) (cond (Nat.blt j 101) (qB_X10_select) (qB_X10_hashOfText)) (cond (Nat.blt j 107) (qB_X10_prepare) (cond (Nat.blt j 108) (qB_X10_hashed) (qB_X10_canRun)))) (cond (Nat.blt j 112) (cond (Nat.blt j 110) (qB_X10_refusal) (cond (Nat.blt j 111) (qB_X10_run) (qB_X10_find))) (cond (Nat.blt j 113) (qB_X10_branch) (cond (Nat.blt j 114) (qB_X10_examined) (qB_X10_costOf)))))))) (cond (Nat.blt j 198) (cond (Nat.blt j 143) (cond (Nat.blt j 126) (cond (Nat.blt j 120) (cond (Nat.blt j 117) (cond (Nat.blt j 116) (qB_X10_cost) (qB_X10_worst)) (cond (Nat.blt j 118) (qB_X10_meanBits) (cond (Nat.blt j 119) (qB_X10_best) (qB_X10_selected)))) (cond (Nat.blt j 123) (cond (Nat.blt j 121) (qB_X10_hash) (qB_X10_hasTable)) (cond (Nat.blt j 124) (qB_X10_table) (cond (Nat.blt j 125) (qB_X10_slot) (qB_X10_displacement))))) (cond (Nat.blt j 137) (cond (Nat.blt j 134) (cond (Nat.blt j 132) (qB_X10_densityBits) (qB_X10_putTrees)) (cond (Nat.blt j 135) (qB_X10_list) (cond (Nat.blt j 136) (qB_X10_listing) (qB_X10_save)))) (cond (Nat.blt j 139) (cond (Nat.blt j 138) (qB_X10_restore) (qB_X0_init)) (cond (Nat.blt j 140) (qB_X0_read) (cond (Nat.blt j 142) (qB_X0_readCommand) (qB_X0_readWord)))))) (cond (Nat.blt j 180) (cond (Nat.blt j 160) (cond (Nat.blt j 153) (cond (Nat.blt j 152) (qB_X0_isWord) (qB_X1_init)) (cond (Nat.blt j 157) (qB_X1_grow) (cond (Nat.blt j 158) (qB_X1_rootWith) (qB_X1_treeWith)))) (cond (Nat.blt j 166) (cond (Nat.blt j 165) (qB_X1_plantRoots) (qB_X2_init)) (cond (Nat.blt j 173) (qB_X2_has) (cond (Nat.blt j 174) (qB_X2_changeLoad) (qB_X2_takeOver))))) (cond (Nat.blt j 190) (cond (Nat.blt j 183) (cond (Nat.blt j 182) (qB_X2_totalWeight) (qB_X3_init)) (cond (Nat.blt j 186) (qB_X3_list) (cond (Nat.blt j 187) (qB_X3_listKeys) (qB_X3_listForest)))) (cond (Nat.blt j 193) (cond (Nat.blt j 191) (qB_X4_init) (cond (Nat.blt j 192) (qB_X4_sort) (qB_X5_init))) (cond (Nat.blt j 194) (qB_X5_run) (cond (Nat.blt j 197) (qB_X5_measure) (qB_X5_runLinear))))))) (cond (Nat.blt j 230) (cond (Nat.blt j 209) (cond (Nat.blt j 204) (cond (Nat.blt j 201) (cond (Nat.blt j 199) (qB_X5_runBinary) (qB_X5_runTrees)) (cond (Nat.blt j 202) (qB_X5_runTable) (cond (Nat.blt j 203) (qB_X6_init) (qB_X6_choose)))) (cond (Nat.blt j 206) (cond (Nat.blt j 205) (qB_X6_turned) (qB_X6_collectPairs)) (cond (Nat.blt j 207) (qB_X6_separates) (cond (Nat.blt j 208) (qB_X6_hashOf) (qB_X7_init))))) (cond (Nat.blt j 225) (cond (Nat.blt j 219) (cond (Nat.blt j 218) (qB_X7_build) (qB_X8_init)) (cond (Nat.blt j 221) (qB_X8_empty) (cond (Nat.blt j 224) (qB_X8_write) (qB_X8_isKey)))) (cond (Nat.blt j 227) (cond (Nat.blt j 226) (qB_L_append) (qB_L_add)) (cond (Nat.blt j 228) (qB_L_remove) (cond (Nat.blt j 229) (qB_L_setBranch) (qB_L_setWeight)))))) (cond (Nat.blt j 240) (cond (Nat.blt j 235) (cond (Nat.blt j 232) (cond (Nat.blt j 231) (qB_L_setLoad) (qB_L_execute)) (cond (Nat.blt j 233) (qB_L_property) (cond (Nat.blt j 234) (qB_L_character) (qB_L_difference)))) (cond (Nat.blt j 237) (cond (Nat.blt j 236) (qB_L_size) (qB_L_find)) (cond (Nat.blt j 238) (qB_L_branch) (cond (Nat.blt j 239) (qB_L_examined) (qB_L_cost))))) (cond (Nat.blt j 245) (cond (Nat.blt j 242) (cond (Nat.blt j 241) (qB_L_worst) (qB_L_meanBits)) (cond (Nat.blt j 243) (qB_L_trees) (cond (Nat.blt j 244) (qB_L_table) (qB_L_slot)))) (cond (Nat.blt j 248) (cond (Nat.blt j 246) (qB_L_displacement) (cond (Nat.blt j 247) (qB_L_densityBits) (qB_L_listing))) (cond (Nat.blt j 249) (qB_L_restore) (cond (Nat.blt j 250) (qB_L_law) (qB_J6_bitCount_0f7a4))))))))
def qw_n (i : Nat) : String := cond (Nat.beq i 0) "java/lang/IllegalArgumentException" (cond (Nat.beq i 1) "java/lang/IllegalStateException" (cond (Nat.beq i 2) "java/lang/IndexOutOfBoundsException" "java/lang/ArithmeticException"))
def qp_X9_init (b : Nat) : Nat := 0
def qp_X9_append (b : Nat) : Nat := cond (Nat.blt b 5) (cond (Nat.blt b 2) (cond (Nat.blt b 1) (0) (5)) (cond (Nat.blt b 3) (37) (cond (Nat.blt b 4) (47) (50)))) (cond (Nat.blt b 7) (cond (Nat.blt b 6) (56) (80)) (cond (Nat.blt b 8) (83) (cond (Nat.blt b 9) (110) (116))))
def qp_X9_clear (b : Nat) : Nat := 0
def qp_X9_add (b : Nat) : Nat := cond (Nat.blt b 1) (0) (20)
def qp_X9_remove (b : Nat) : Nat := 0
def qp_X9_setBranch (b : Nat) : Nat := 0
def qp_X9_setWeight (b : Nat) : Nat := 0
def qp_X9_setLoad (b : Nat) : Nat := cond (Nat.blt b 1) (0) (cond (Nat.blt b 2) (12) (22))
def qp_X9_execute (b : Nat) : Nat := cond (Nat.blt b 1) (0) (cond (Nat.blt b 2) (38) (72))
def qp_X9_errorPosition (b : Nat) : Nat := 0
def qp_X9_property (b : Nat) : Nat := 0
def qp_X9_character (b : Nat) : Nat := 0
def qp_X9_difference (b : Nat) : Nat := 0
def qp_X9_size (b : Nat) : Nat := cond (Nat.blt b 2) (cond (Nat.blt b 1) (0) (28)) (cond (Nat.blt b 3) (36) (cond (Nat.blt b 4) (44) (52)))
def qp_X9_find (b : Nat) : Nat := 0
def qp_X9_branch (b : Nat) : Nat := cond (Nat.blt b 1) (0) (cond (Nat.blt b 2) (36) (53))
def qp_X9_examined (b : Nat) : Nat := 0
def qp_X9_cost (b : Nat) : Nat := 0
def qp_X9_worst (b : Nat) : Nat := 0
def qp_X9_meanBits (b : Nat) : Nat := cond (Nat.blt b 1) (0) (31)
def qp_X9_best (b : Nat) : Nat := cond (Nat.blt b 2) (cond (Nat.blt b 1) (0) (24)) (cond (Nat.blt b 3) (66) (72))
def qp_X9_trees (b : Nat) : Nat := cond (Nat.blt b 3) (cond (Nat.blt b 1) (0) (cond (Nat.blt b 2) (36) (44))) (cond (Nat.blt b 4) (60) (cond (Nat.blt b 5) (68) (76)))
def qp_X9_selected (b : Nat) : Nat := 0
def qp_X9_hash (b : Nat) : Nat := 0
def qp_X9_table (b : Nat) : Nat := cond (Nat.blt b 1) (0) (cond (Nat.blt b 2) (9) (19))
def qp_X9_slot (b : Nat) : Nat := 0
def qp_X9_displacement (b : Nat) : Nat := 0
def qp_X9_densityBits (b : Nat) : Nat := 0
def qp_X9_listing (b : Nat) : Nat := cond (Nat.blt b 2) (cond (Nat.blt b 1) (0) (17)) (cond (Nat.blt b 3) (41) (cond (Nat.blt b 4) (59) (70)))
def qp_X9_save (b : Nat) : Nat := 0
def qp_X9_restore (b : Nat) : Nat := cond (Nat.blt b 1) (0) (18)
def qp_X9_requireKey (b : Nat) : Nat := cond (Nat.blt b 1) (0) (22)
def qp_X9_requireStrategy (b : Nat) : Nat := cond (Nat.blt b 1) (0) (cond (Nat.blt b 2) (9) (20))
def qp_X9_requireRunnable (b : Nat) : Nat := cond (Nat.blt b 1) (0) (23)
def qp_X9_requireTable (b : Nat) : Nat := cond (Nat.blt b 1) (0) (21)
def qp_X9_canRun (b : Nat) : Nat := cond (Nat.blt b 1) (0) (cond (Nat.blt b 2) (25) (30))
def qp_X9_prepare (b : Nat) : Nat := cond (Nat.blt b 1) (0) (53)
def qp_X9_put (b : Nat) : Nat := cond (Nat.blt b 1) (0) (14)
def qp_X9_copy (b : Nat) : Nat := cond (Nat.blt b 1) (0) (cond (Nat.blt b 2) (2) (26))
def qp_X9_contains (b : Nat) : Nat := cond (Nat.blt b 1) (0) (cond (Nat.blt b 2) (12) (13))
def qp_X10_init (b : Nat) : Nat := 0
def qp_X10_thrown (b : Nat) : Nat := 0
def qp_X10_in (b : Nat) : Nat := cond (Nat.blt b 1) (0) (cond (Nat.blt b 2) (17) (18))
def qp_X10_isKey (b : Nat) : Nat := 0
def qp_X10_append (b : Nat) : Nat := cond (Nat.blt b 7) (cond (Nat.blt b 3) (cond (Nat.blt b 1) (0) (cond (Nat.blt b 2) (8) (47))) (cond (Nat.blt b 5) (cond (Nat.blt b 4) (51) (52)) (cond (Nat.blt b 6) (63) (64)))) (cond (Nat.blt b 11) (cond (Nat.blt b 9) (cond (Nat.blt b 8) (72) (81)) (cond (Nat.blt b 10) (96) (97))) (cond (Nat.blt b 13) (cond (Nat.blt b 12) (109) (113)) (cond (Nat.blt b 14) (154) (160))))
def qp_X10_clear (b : Nat) : Nat := 0
def qp_X10_add (b : Nat) : Nat := cond (Nat.blt b 3) (cond (Nat.blt b 1) (0) (cond (Nat.blt b 2) (31) (71))) (cond (Nat.blt b 4) (80) (cond (Nat.blt b 5) (108) (120)))
def qp_X10_remove (b : Nat) : Nat := cond (Nat.blt b 1) (0) (cond (Nat.blt b 2) (13) (26))
def qp_X10_setBranch (b : Nat) : Nat := cond (Nat.blt b 2) (cond (Nat.blt b 1) (0) (13)) (cond (Nat.blt b 3) (30) (42))
def qp_X10_setWeight (b : Nat) : Nat := cond (Nat.blt b 2) (cond (Nat.blt b 1) (0) (13)) (cond (Nat.blt b 3) (30) (42))
def qp_X10_setLoad (b : Nat) : Nat := cond (Nat.blt b 2) (cond (Nat.blt b 1) (0) (19)) (cond (Nat.blt b 3) (20) (32))
def qp_X10_here (b : Nat) : Nat := cond (Nat.blt b 1) (0) (23)
def qp_X10_isWord (b : Nat) : Nat := cond (Nat.blt b 1) (0) (cond (Nat.blt b 2) (17) (65))
def qp_X10_word (b : Nat) : Nat := cond (Nat.blt b 3) (cond (Nat.blt b 1) (0) (cond (Nat.blt b 2) (35) (49))) (cond (Nat.blt b 5) (cond (Nat.blt b 4) (63) (77)) (cond (Nat.blt b 6) (91) (107)))
def qp_X10_readCommand (b : Nat) : Nat := cond (Nat.blt b 1) (0) (34)
def qp_X10_execute (b : Nat) : Nat := cond (Nat.blt b 6) (cond (Nat.blt b 3) (cond (Nat.blt b 1) (0) (cond (Nat.blt b 2) (17) (52))) (cond (Nat.blt b 4) (69) (cond (Nat.blt b 5) (74) (86)))) (cond (Nat.blt b 9) (cond (Nat.blt b 7) (87) (cond (Nat.blt b 8) (105) (106))) (cond (Nat.blt b 10) (187) (cond (Nat.blt b 11) (208) (212))))
def qp_X10_errorPosition (b : Nat) : Nat := 0
def qp_X10_property (b : Nat) : Nat := cond (Nat.blt b 2) (cond (Nat.blt b 1) (0) (13)) (cond (Nat.blt b 3) (30) (42))
def qp_X10_character (b : Nat) : Nat := cond (Nat.blt b 2) (cond (Nat.blt b 1) (0) (33)) (cond (Nat.blt b 3) (48) (54))
def qp_X10_difference (b : Nat) : Nat := cond (Nat.blt b 2) (cond (Nat.blt b 1) (0) (17)) (cond (Nat.blt b 3) (31) (cond (Nat.blt b 4) (45) (51)))
def qp_X10_size (b : Nat) : Nat := cond (Nat.blt b 3) (cond (Nat.blt b 1) (0) (cond (Nat.blt b 2) (17) (18))) (cond (Nat.blt b 4) (32) (cond (Nat.blt b 5) (44) (50)))
def qp_X10_takeBuffer (b : Nat) : Nat := 0
def qp_X10_linear (b : Nat) : Nat := cond (Nat.blt b 1) (0) (28)
def qp_X10_search (b : Nat) : Nat := cond (Nat.blt b 1) (0) (64)
def qp_X10_marked (b : Nat) : Nat := cond (Nat.blt b 1) (0) (34)
def qp_X10_ofLength (b : Nat) : Nat := cond (Nat.blt b 1) (0) (43)
def qp_X10_climb (b : Nat) : Nat := cond (Nat.blt b 1) (0) (cond (Nat.blt b 2) (75) (81))
def qp_X10_trees (b : Nat) : Nat := cond (Nat.blt b 5) (cond (Nat.blt b 2) (cond (Nat.blt b 1) (0) (17)) (cond (Nat.blt b 3) (18) (cond (Nat.blt b 4) (30) (52)))) (cond (Nat.blt b 8) (cond (Nat.blt b 6) (89) (cond (Nat.blt b 7) (95) (106))) (cond (Nat.blt b 9) (118) (cond (Nat.blt b 10) (130) (134))))
def qp_X10_separates (b : Nat) : Nat := cond (Nat.blt b 1) (0) (125)
def qp_X10_sizeOf (b : Nat) : Nat := cond (Nat.blt b 1) (0) (cond (Nat.blt b 2) (4) (24))
def qp_X10_select (b : Nat) : Nat := cond (Nat.blt b 3) (cond (Nat.blt b 1) (0) (cond (Nat.blt b 2) (4) (45))) (cond (Nat.blt b 5) (cond (Nat.blt b 4) (49) (50)) (cond (Nat.blt b 6) (65) (71)))
def qp_X10_hashOfText (b : Nat) : Nat := cond (Nat.blt b 2) (cond (Nat.blt b 1) (0) (4)) (cond (Nat.blt b 3) (46) (52))
def qp_X10_prepare (b : Nat) : Nat := cond (Nat.blt b 2) (cond (Nat.blt b 1) (0) (8)) (cond (Nat.blt b 3) (109) (125))
def qp_X10_hashed (b : Nat) : Nat := cond (Nat.blt b 1) (0) (11)
def qp_X10_canRun (b : Nat) : Nat := cond (Nat.blt b 1) (0) (cond (Nat.blt b 2) (25) (30))
def qp_X10_refusal (b : Nat) : Nat := cond (Nat.blt b 2) (cond (Nat.blt b 1) (0) (16)) (cond (Nat.blt b 3) (28) (29))
def qp_X10_run (b : Nat) : Nat := cond (Nat.blt b 2) (cond (Nat.blt b 1) (0) (16)) (cond (Nat.blt b 3) (28) (cond (Nat.blt b 4) (40) (44)))
def qp_X10_find (b : Nat) : Nat := cond (Nat.blt b 1) (0) (18)
def qp_X10_branch (b : Nat) : Nat := cond (Nat.blt b 2) (cond (Nat.blt b 1) (0) (18)) (cond (Nat.blt b 3) (36) (45))
def qp_X10_examined (b : Nat) : Nat := cond (Nat.blt b 1) (0) (18)
def qp_X10_costOf (b : Nat) : Nat := cond (Nat.blt b 1) (0) (49)
def qp_X10_cost (b : Nat) : Nat := cond (Nat.blt b 1) (0) (cond (Nat.blt b 2) (20) (25))
def qp_X10_worst (b : Nat) : Nat := cond (Nat.blt b 1) (0) (cond (Nat.blt b 2) (18) (59))
def qp_X10_meanBits (b : Nat) : Nat := cond (Nat.blt b 2) (cond (Nat.blt b 1) (0) (30)) (cond (Nat.blt b 3) (34) (46))
def qp_X10_best (b : Nat) : Nat := cond (Nat.blt b 2) (cond (Nat.blt b 1) (0) (15)) (cond (Nat.blt b 3) (45) (cond (Nat.blt b 4) (54) (60)))
def qp_X10_selected (b : Nat) : Nat := 0
def qp_X10_hash (b : Nat) : Nat := 0
def qp_X10_hasTable (b : Nat) : Nat := 0
def qp_X10_table (b : Nat) : Nat := cond (Nat.blt b 2) (cond (Nat.blt b 1) (0) (17)) (cond (Nat.blt b 3) (28) (cond (Nat.blt b 4) (29) (41)))
def qp_X10_slot (b : Nat) : Nat := cond (Nat.blt b 2) (cond (Nat.blt b 1) (0) (12)) (cond (Nat.blt b 3) (33) (cond (Nat.blt b 4) (47) (53)))
def qp_X10_displacement (b : Nat) : Nat := cond (Nat.blt b 2) (cond (Nat.blt b 1) (0) (12)) (cond (Nat.blt b 3) (33) (cond (Nat.blt b 4) (47) (53)))
def qp_X10_densityBits (b : Nat) : Nat := cond (Nat.blt b 2) (cond (Nat.blt b 1) (0) (12)) (cond (Nat.blt b 3) (27) (43))
def qp_X10_putTrees (b : Nat) : Nat := cond (Nat.blt b 2) (cond (Nat.blt b 1) (0) (2)) (cond (Nat.blt b 3) (52) (58))
def qp_X10_list (b : Nat) : Nat := cond (Nat.blt b 2) (cond (Nat.blt b 1) (0) (55)) (cond (Nat.blt b 3) (64) (73))
def qp_X10_listing (b : Nat) : Nat := cond (Nat.blt b 5) (cond (Nat.blt b 2) (cond (Nat.blt b 1) (0) (17)) (cond (Nat.blt b 3) (33) (cond (Nat.blt b 4) (34) (46)))) (cond (Nat.blt b 7) (cond (Nat.blt b 6) (74) (75)) (cond (Nat.blt b 8) (89) (cond (Nat.blt b 9) (101) (107))))
def qp_X10_save (b : Nat) : Nat := 0
def qp_X10_restore (b : Nat) : Nat := cond (Nat.blt b 1) (0) (cond (Nat.blt b 2) (12) (25))
def qp_X0_init (b : Nat) : Nat := 0
def qp_X0_read (b : Nat) : Nat := cond (Nat.blt b 1) (0) (cond (Nat.blt b 2) (40) (83))
def qp_X0_readCommand (b : Nat) : Nat := cond (Nat.blt b 3) (cond (Nat.blt b 1) (0) (cond (Nat.blt b 2) (64) (106))) (cond (Nat.blt b 4) (130) (cond (Nat.blt b 5) (175) (203)))
def qp_X0_readWord (b : Nat) : Nat := cond (Nat.blt b 3) (cond (Nat.blt b 1) (0) (cond (Nat.blt b 2) (43) (56))) (cond (Nat.blt b 4) (69) (cond (Nat.blt b 5) (82) (95)))
def qp_X0_isWord (b : Nat) : Nat := cond (Nat.blt b 1) (0) (15)
def qp_X1_init (b : Nat) : Nat := 0
def qp_X1_grow (b : Nat) : Nat := cond (Nat.blt b 1) (0) (94)
def qp_X1_rootWith (b : Nat) : Nat := 0
def qp_X1_treeWith (b : Nat) : Nat := cond (Nat.blt b 1) (0) (35)
def qp_X1_plantRoots (b : Nat) : Nat := cond (Nat.blt b 2) (cond (Nat.blt b 1) (0) (4)) (cond (Nat.blt b 3) (59) (cond (Nat.blt b 4) (72) (78)))
def qp_X2_init (b : Nat) : Nat := 0
def qp_X2_has (b : Nat) : Nat := cond (Nat.blt b 1) (0) (16)
def qp_X2_changeLoad (b : Nat) : Nat := 0
def qp_X2_takeOver (b : Nat) : Nat := 0
def qp_X2_totalWeight (b : Nat) : Nat := cond (Nat.blt b 1) (0) (29)
def qp_X3_init (b : Nat) : Nat := 0
def qp_X3_list (b : Nat) : Nat := cond (Nat.blt b 3) (cond (Nat.blt b 1) (0) (cond (Nat.blt b 2) (36) (46))) (cond (Nat.blt b 5) (cond (Nat.blt b 4) (47) (53)) (cond (Nat.blt b 6) (60) (64)))
def qp_X3_listKeys (b : Nat) : Nat := cond (Nat.blt b 1) (0) (49)
def qp_X3_listForest (b : Nat) : Nat := cond (Nat.blt b 1) (0) (59)
def qp_X4_init (b : Nat) : Nat := 0
def qp_X4_sort (b : Nat) : Nat := cond (Nat.blt b 1) (0) (35)
def qp_X5_init (b : Nat) : Nat := 0
def qp_X5_run (b : Nat) : Nat := cond (Nat.blt b 3) (cond (Nat.blt b 1) (0) (cond (Nat.blt b 2) (36) (44))) (cond (Nat.blt b 4) (52) (cond (Nat.blt b 5) (60) (65)))
def qp_X5_measure (b : Nat) : Nat := cond (Nat.blt b 1) (0) (97)
def qp_X5_runLinear (b : Nat) : Nat := cond (Nat.blt b 1) (0) (41)
def qp_X5_runBinary (b : Nat) : Nat := cond (Nat.blt b 1) (0) (128)
def qp_X5_runTrees (b : Nat) : Nat := cond (Nat.blt b 1) (0) (cond (Nat.blt b 2) (91) (125))
def qp_X5_runTable (b : Nat) : Nat := cond (Nat.blt b 1) (0) (91)
def qp_X6_init (b : Nat) : Nat := 0
def qp_X6_choose (b : Nat) : Nat := cond (Nat.blt b 2) (cond (Nat.blt b 1) (0) (11)) (cond (Nat.blt b 3) (46) (52))
def qp_X6_turned (b : Nat) : Nat := cond (Nat.blt b 2) (cond (Nat.blt b 1) (0) (4)) (cond (Nat.blt b 3) (27) (33))
def qp_X6_collectPairs (b : Nat) : Nat := cond (Nat.blt b 1) (0) (86)
def qp_X6_separates (b : Nat) : Nat := cond (Nat.blt b 1) (0) (31)
def qp_X6_hashOf (b : Nat) : Nat := cond (Nat.blt b 2) (cond (Nat.blt b 1) (0) (5)) (cond (Nat.blt b 3) (49) (55))
def qp_X7_init (b : Nat) : Nat := 0
def qp_X7_build (b : Nat) : Nat := cond (Nat.blt b 1) (0) (cond (Nat.blt b 2) (20) (107))
def qp_X8_init (b : Nat) : Nat := 0
def qp_X8_empty (b : Nat) : Nat := 0
def qp_X8_write (b : Nat) : Nat := cond (Nat.blt b 1) (0) (39)
def qp_X8_isKey (b : Nat) : Nat := cond (Nat.blt b 1) (0) (cond (Nat.blt b 2) (26) (47))
def qp_L_append (b : Nat) : Nat := cond (Nat.blt b 1) (0) (cond (Nat.blt b 2) (13) (18))
def qp_L_add (b : Nat) : Nat := cond (Nat.blt b 1) (0) (13)
def qp_L_remove (b : Nat) : Nat := cond (Nat.blt b 1) (0) (13)
def qp_L_setBranch (b : Nat) : Nat := cond (Nat.blt b 1) (0) (15)
def qp_L_setWeight (b : Nat) : Nat := cond (Nat.blt b 1) (0) (15)
def qp_L_setLoad (b : Nat) : Nat := cond (Nat.blt b 1) (0) (cond (Nat.blt b 2) (13) (15))
def qp_L_execute (b : Nat) : Nat := cond (Nat.blt b 1) (0) (12)
def qp_L_property (b : Nat) : Nat := cond (Nat.blt b 1) (0) (15)
def qp_L_character (b : Nat) : Nat := cond (Nat.blt b 1) (0) (15)
def qp_L_difference (b : Nat) : Nat := cond (Nat.blt b 1) (0) (15)
def qp_L_size (b : Nat) : Nat := cond (Nat.blt b 1) (0) (cond (Nat.blt b 2) (13) (15))
def qp_L_find (b : Nat) : Nat := cond (Nat.blt b 1) (0) (cond (Nat.blt b 2) (13) (18))
def qp_L_branch (b : Nat) : Nat := cond (Nat.blt b 1) (0) (cond (Nat.blt b 2) (13) (18))
def qp_L_examined (b : Nat) : Nat := cond (Nat.blt b 1) (0) (cond (Nat.blt b 2) (13) (18))
def qp_L_cost (b : Nat) : Nat := cond (Nat.blt b 1) (0) (cond (Nat.blt b 2) (13) (18))
def qp_L_worst (b : Nat) : Nat := cond (Nat.blt b 1) (0) (cond (Nat.blt b 2) (13) (18))
def qp_L_meanBits (b : Nat) : Nat := cond (Nat.blt b 1) (0) (cond (Nat.blt b 2) (12) (18))
def qp_L_trees (b : Nat) : Nat := cond (Nat.blt b 1) (0) (cond (Nat.blt b 2) (13) (15))
def qp_L_table (b : Nat) : Nat := cond (Nat.blt b 1) (0) (cond (Nat.blt b 2) (13) (16))
def qp_L_slot (b : Nat) : Nat := cond (Nat.blt b 1) (0) (13)
def qp_L_displacement (b : Nat) : Nat := cond (Nat.blt b 1) (0) (13)
def qp_L_densityBits (b : Nat) : Nat := cond (Nat.blt b 1) (0) (12)
def qp_L_listing (b : Nat) : Nat := cond (Nat.blt b 2) (cond (Nat.blt b 1) (0) (15)) (cond (Nat.blt b 3) (19) (cond (Nat.blt b 4) (23) (25)))
def qp_L_restore (b : Nat) : Nat := cond (Nat.blt b 1) (0) (12)
def qp_L_law (b : Nat) : Nat := cond (Nat.blt b 41) (cond (Nat.blt b 20) (cond (Nat.blt b 10) (cond (Nat.blt b 5) (cond (Nat.blt b 2) (cond (Nat.blt b 1) (0) (23)) (cond (Nat.blt b 3) (172) (cond (Nat.blt b 4) (208) (225)))) (cond (Nat.blt b 7) (cond (Nat.blt b 6) (228) (241)) (cond (Nat.blt b 8) (277) (cond (Nat.blt b 9) (294) (297))))) (cond (Nat.blt b 15) (cond (Nat.blt b 12) (cond (Nat.blt b 11) (333) (350)) (cond (Nat.blt b 13) (353) (cond (Nat.blt b 14) (401) (418)))) (cond (Nat.blt b 17) (cond (Nat.blt b 16) (421) (469)) (cond (Nat.blt b 18) (486) (cond (Nat.blt b 19) (489) (525)))))) (cond (Nat.blt b 30) (cond (Nat.blt b 25) (cond (Nat.blt b 22) (cond (Nat.blt b 21) (542) (545)) (cond (Nat.blt b 23) (569) (cond (Nat.blt b 24) (586) (589)))) (cond (Nat.blt b 27) (cond (Nat.blt b 26) (602) (650)) (cond (Nat.blt b 28) (667) (cond (Nat.blt b 29) (670) (718))))) (cond (Nat.blt b 35) (cond (Nat.blt b 32) (cond (Nat.blt b 31) (735) (738)) (cond (Nat.blt b 33) (786) (cond (Nat.blt b 34) (803) (806)))) (cond (Nat.blt b 38) (cond (Nat.blt b 36) (842) (cond (Nat.blt b 37) (859) (862))) (cond (Nat.blt b 39) (898) (cond (Nat.blt b 40) (915) (918))))))) (cond (Nat.blt b 61) (cond (Nat.blt b 51) (cond (Nat.blt b 46) (cond (Nat.blt b 43) (cond (Nat.blt b 42) (954) (971)) (cond (Nat.blt b 44) (974) (cond (Nat.blt b 45) (1010) (1027)))) (cond (Nat.blt b 48) (cond (Nat.blt b 47) (1030) (1066)) (cond (Nat.blt b 49) (1083) (cond (Nat.blt b 50) (1086) (1122))))) (cond (Nat.blt b 56) (cond (Nat.blt b 53) (cond (Nat.blt b 52) (1139) (1142)) (cond (Nat.blt b 54) (1178) (cond (Nat.blt b 55) (1194) (1197)))) (cond (Nat.blt b 58) (cond (Nat.blt b 57) (1210) (1246)) (cond (Nat.blt b 59) (1263) (cond (Nat.blt b 60) (1266) (1279)))))) (cond (Nat.blt b 71) (cond (Nat.blt b 66) (cond (Nat.blt b 63) (cond (Nat.blt b 62) (1304) (1340)) (cond (Nat.blt b 64) (1357) (cond (Nat.blt b 65) (1360) (1396)))) (cond (Nat.blt b 68) (cond (Nat.blt b 67) (1413) (1416)) (cond (Nat.blt b 69) (1452) (cond (Nat.blt b 70) (1469) (1472))))) (cond (Nat.blt b 76) (cond (Nat.blt b 73) (cond (Nat.blt b 72) (1496) (1513)) (cond (Nat.blt b 74) (1516) (cond (Nat.blt b 75) (1564) (1581)))) (cond (Nat.blt b 79) (cond (Nat.blt b 77) (1584) (cond (Nat.blt b 78) (1597) (1621))) (cond (Nat.blt b 80) (1638) (cond (Nat.blt b 81) (1641) (1647)))))))
def qp_J6_bitCount_0f7a4 (b : Nat) : Nat := 0
def qw_p (j b : Nat) : Nat := cond (Nat.blt j 115) (cond (Nat.blt j 47) (cond (Nat.blt j 20) (cond (Nat.blt j 10) (cond (Nat.blt j 5) (cond (Nat.blt j 2) (cond (Nat.blt j 1) (qp_X9_init b) (qp_X9_append b)) (cond (Nat.blt j 3) (qp_X9_clear b) (cond (Nat.blt j 4) (qp_X9_add b) (qp_X9_remove b)))) (cond (Nat.blt j 7) (cond (Nat.blt j 6) (qp_X9_setBranch b) (qp_X9_setWeight b)) (cond (Nat.blt j 8) (qp_X9_setLoad b) (cond (Nat.blt j 9) (qp_X9_execute b) (qp_X9_errorPosition b))))) (cond (Nat.blt j 15) (cond (Nat.blt j 12) (cond (Nat.blt j 11) (qp_X9_property b) (qp_X9_character b)) (cond (Nat.blt j 13) (qp_X9_difference b) (cond (Nat.blt j 14) (qp_X9_size b) (qp_X9_find b)))) (cond (Nat.blt j 17) (cond (Nat.blt j 16) (qp_X9_branch b) (qp_X9_examined b)) (cond (Nat.blt j 18) (qp_X9_cost b) (cond (Nat.blt j 19) (qp_X9_worst b) (qp_X9_meanBits b)))))) (cond (Nat.blt j 30) (cond (Nat.blt j 25) (cond (Nat.blt j 22) (cond (Nat.blt j 21) (qp_X9_best b) (qp_X9_trees b)) (cond (Nat.blt j 23) (qp_X9_selected b) (cond (Nat.blt j 24) (qp_X9_hash b) (qp_X9_table b)))) (cond (Nat.blt j 27) (cond (Nat.blt j 26) (qp_X9_slot b) (qp_X9_displacement b)) (cond (Nat.blt j 28) (qp_X9_densityBits b) (cond (Nat.blt j 29) (qp_X9_listing b) (qp_X9_save b))))) (cond (Nat.blt j 36) (cond (Nat.blt j 33) (cond (Nat.blt j 31) (qp_X9_restore b) (qp_X9_requireKey b)) (cond (Nat.blt j 34) (qp_X9_requireStrategy b) (cond (Nat.blt j 35) (qp_X9_requireRunnable b) (qp_X9_requireTable b)))) (cond (Nat.blt j 39) (cond (Nat.blt j 37) (qp_X9_canRun b) (qp_X9_prepare b)) (cond (Nat.blt j 40) (qp_X9_put b) (cond (Nat.blt j 42) (qp_X9_copy b) (qp_X9_contains b))))))) (cond (Nat.blt j 81) (cond (Nat.blt j 62) (cond (Nat.blt j 54) (cond (Nat.blt j 49) (cond (Nat.blt j 48) (qp_X10_init b) (qp_X10_thrown b)) (cond (Nat.blt j 50) (qp_X10_in b) (cond (Nat.blt j 53) (qp_X10_isKey b) (qp_X10_append b)))) (cond (Nat.blt j 59) (cond (Nat.blt j 58) (qp_X10_clear b) (qp_X10_add b)) (cond (Nat.blt j 60) (qp_X10_remove b) (cond (Nat.blt j 61) (qp_X10_setBranch b) (qp_X10_setWeight b))))) (cond (Nat.blt j 72) (cond (Nat.blt j 65) (cond (Nat.blt j 63) (qp_X10_setLoad b) (qp_X10_here b)) (cond (Nat.blt j 66) (qp_X10_isWord b) (cond (Nat.blt j 70) (qp_X10_word b) (qp_X10_readCommand b)))) (cond (Nat.blt j 78) (cond (Nat.blt j 73) (qp_X10_execute b) (qp_X10_errorPosition b)) (cond (Nat.blt j 79) (qp_X10_property b) (cond (Nat.blt j 80) (qp_X10_character b) (qp_X10_difference b)))))) (cond (Nat.blt j 100) (cond (Nat.blt j 92) (cond (Nat.blt j 85) (cond (Nat.blt j 82) (qp_X10_size b) (qp_X10_takeBuffer b)) (cond (Nat.blt j 88) (qp_X10_linear b) (cond (Nat.blt j 89) (qp_X10_search b) (qp_X10_marked b)))) (cond (Nat.blt j 96) (cond (Nat.blt j 94) (qp_X10_ofLength b) (qp_X10_climb b)) (cond (Nat.blt j 97) (qp_X10_trees b) (cond (Nat.blt j 98) (qp_X10_separates b) (qp_X10_sizeOf b))))) (cond (Nat.blt j 109) (cond (Nat.blt j 106) (cond (Nat.blt j 101) (qp_X10_select b) (qp_X10_hashOfText b)) (cond (Nat.blt j 107) (qp_X10_prepare b) (cond (Nat.blt j 108) (qp_X10_hashed b) (qp_X10_canRun b)))) (cond (Nat.blt j 112) (cond (Nat.blt j 110) (qp_X10_refusal b) (cond (Nat.blt j 111) (qp_X10_run b) (qp_X10_find b))) (cond (Nat.blt j 113) (qp_X10_branch b) (cond (Nat.blt j 114) (qp_X10_examined b) (qp_X10_costOf b)))))))) (cond (Nat.blt j 198) (cond (Nat.blt j 143) (cond (Nat.blt j 126) (cond (Nat.blt j 120) (cond (Nat.blt j 117) (cond (Nat.blt j 116) (qp_X10_cost b) (qp_X10_worst b)) (cond (Nat.blt j 118) (qp_X10_meanBits b) (cond (Nat.blt j 119) (qp_X10_best b) (qp_X10_selected b)))) (cond (Nat.blt j 123) (cond (Nat.blt j 121) (qp_X10_hash b) (qp_X10_hasTable b)) (cond (Nat.blt j 124) (qp_X10_table b) (cond (Nat.blt j 125) (qp_X10_slot b) (qp_X10_displacement b))))) (cond (Nat.blt j 137) (cond (Nat.blt j 134) (cond (Nat.blt j 132) (qp_X10_densityBits b) (qp_X10_putTrees b)) (cond (Nat.blt j 135) (qp_X10_list b) (cond (Nat.blt j 136) (qp_X10_listing b) (qp_X10_save b)))) (cond (Nat.blt j 139) (cond (Nat.blt j 138) (qp_X10_restore b) (qp_X0_init b)) (cond (Nat.blt j 140) (qp_X0_read b) (cond (Nat.blt j 142) (qp_X0_readCommand b) (qp_X0_readWord b)))))) (cond (Nat.blt j 180) (cond (Nat.blt j 160) (cond (Nat.blt j 153) (cond (Nat.blt j 152) (qp_X0_isWord b) (qp_X1_init b)) (cond (Nat.blt j 157) (qp_X1_grow b) (cond (Nat.blt j 158) (qp_X1_rootWith b) (qp_X1_treeWith b)))) (cond (Nat.blt j 166) (cond (Nat.blt j 165) (qp_X1_plantRoots b) (qp_X2_init b)) (cond (Nat.blt j 173) (qp_X2_has b) (cond (Nat.blt j 174) (qp_X2_changeLoad b) (qp_X2_takeOver b))))) (cond (Nat.blt j 190) (cond (Nat.blt j 183) (cond (Nat.blt j 182) (qp_X2_totalWeight b) (qp_X3_init b)) (cond (Nat.blt j 186) (qp_X3_list b) (cond (Nat.blt j 187) (qp_X3_listKeys b) (qp_X3_listForest b)))) (cond (Nat.blt j 193) (cond (Nat.blt j 191) (qp_X4_init b) (cond (Nat.blt j 192) (qp_X4_sort b) (qp_X5_init b))) (cond (Nat.blt j 194) (qp_X5_run b) (cond (Nat.blt j 197) (qp_X5_measure b) (qp_X5_runLinear b))))))) (cond (Nat.blt j 230) (cond (Nat.blt j 209) (cond (Nat.blt j 204) (cond (Nat.blt j 201) (cond (Nat.blt j 199) (qp_X5_runBinary b) (qp_X5_runTrees b)) (cond (Nat.blt j 202) (qp_X5_runTable b) (cond (Nat.blt j 203) (qp_X6_init b) (qp_X6_choose b)))) (cond (Nat.blt j 206) (cond (Nat.blt j 205) (qp_X6_turned b) (qp_X6_collectPairs b)) (cond (Nat.blt j 207) (qp_X6_separates b) (cond (Nat.blt j 208) (qp_X6_hashOf b) (qp_X7_init b))))) (cond (Nat.blt j 225) (cond (Nat.blt j 219) (cond (Nat.blt j 218) (qp_X7_build b) (qp_X8_init b)) (cond (Nat.blt j 221) (qp_X8_empty b) (cond (Nat.blt j 224) (qp_X8_write b) (qp_X8_isKey b)))) (cond (Nat.blt j 227) (cond (Nat.blt j 226) (qp_L_append b) (qp_L_add b)) (cond (Nat.blt j 228) (qp_L_remove b) (cond (Nat.blt j 229) (qp_L_setBranch b) (qp_L_setWeight b)))))) (cond (Nat.blt j 240) (cond (Nat.blt j 235) (cond (Nat.blt j 232) (cond (Nat.blt j 231) (qp_L_setLoad b) (qp_L_execute b)) (cond (Nat.blt j 233) (qp_L_property b) (cond (Nat.blt j 234) (qp_L_character b) (qp_L_difference b)))) (cond (Nat.blt j 237) (cond (Nat.blt j 236) (qp_L_size b) (qp_L_find b)) (cond (Nat.blt j 238) (qp_L_branch b) (cond (Nat.blt j 239) (qp_L_examined b) (qp_L_cost b))))) (cond (Nat.blt j 245) (cond (Nat.blt j 242) (cond (Nat.blt j 241) (qp_L_worst b) (qp_L_meanBits b)) (cond (Nat.blt j 243) (qp_L_trees b) (cond (Nat.blt j 244) (qp_L_table b) (qp_L_slot b)))) (cond (Nat.blt j 248) (cond (Nat.blt j 246) (qp_L_displacement b) (cond (Nat.blt j 247) (qp_L_densityBits b) (qp_L_listing b))) (cond (Nat.blt j 249) (qp_L_restore b) (cond (Nat.blt j 250) (qp_L_law b) (qp_J6_bitCount_0f7a4 b))))))))
def qw_hh (j : Nat) : List (Nat × Nat × Nat × Nat) := cond (Nat.blt j 115) (cond (Nat.blt j 47) (cond (Nat.blt j 20) (cond (Nat.blt j 10) (cond (Nat.blt j 5) (cond (Nat.blt j 2) (cond (Nat.blt j 1) ([]) ([])) (cond (Nat.blt j 3) ([]) (cond (Nat.blt j 4) ([]) ([])))) (cond (Nat.blt j 7) (cond (Nat.blt j 6) ([]) ([])) (cond (Nat.blt j 8) ([]) (cond (Nat.blt j 9) ([]) ([]))))) (cond (Nat.blt j 15) (cond (Nat.blt j 12) (cond (Nat.blt j 11) ([]) ([])) (cond (Nat.blt j 13) ([]) (cond (Nat.blt j 14) ([]) ([])))) (cond (Nat.blt j 17) (cond (Nat.blt j 16) ([]) ([])) (cond (Nat.blt j 18) ([]) (cond (Nat.blt j 19) ([]) ([])))))) (cond (Nat.blt j 30) (cond (Nat.blt j 25) (cond (Nat.blt j 22) (cond (Nat.blt j 21) ([]) ([])) (cond (Nat.blt j 23) ([]) (cond (Nat.blt j 24) ([]) ([])))) (cond (Nat.blt j 27) (cond (Nat.blt j 26) ([]) ([])) (cond (Nat.blt j 28) ([]) (cond (Nat.blt j 29) ([]) ([]))))) (cond (Nat.blt j 36) (cond (Nat.blt j 33) (cond (Nat.blt j 31) ([]) ([])) (cond (Nat.blt j 34) ([]) (cond (Nat.blt j 35) ([]) ([])))) (cond (Nat.blt j 39) (cond (Nat.blt j 37) ([]) ([])) (cond (Nat.blt j 40) ([]) (cond (Nat.blt j 42) ([]) ([]))))))) (cond (Nat.blt j 81) (cond (Nat.blt j 62) (cond (Nat.blt j 54) (cond (Nat.blt j 49) (cond (Nat.blt j 48) ([]) ([])) (cond (Nat.blt j 50) ([]) (cond (Nat.blt j 53) ([]) ([])))) (cond (Nat.blt j 59) (cond (Nat.blt j 58) ([]) ([])) (cond (Nat.blt j 60) ([]) (cond (Nat.blt j 61) ([]) ([]))))) (cond (Nat.blt j 72) (cond (Nat.blt j 65) (cond (Nat.blt j 63) ([]) ([])) (cond (Nat.blt j 66) ([]) (cond (Nat.blt j 70) ([]) ([])))) (cond (Nat.blt j 78) (cond (Nat.blt j 73) ([]) ([])) (cond (Nat.blt j 79) ([]) (cond (Nat.blt j 80) ([]) ([])))))) (cond (Nat.blt j 100) (cond (Nat.blt j 92) (cond (Nat.blt j 85) (cond (Nat.blt j 82) ([]) ([])) (cond (Nat.blt j 88) ([]) (cond (Nat.blt j 89) ([]) ([])))) (cond (Nat.blt j 96) (cond (Nat.blt j 94) ([]) ([])) (cond (Nat.blt j 97) ([]) (cond (Nat.blt j 98) ([]) ([]))))) (cond (Nat.blt j 109) (cond (Nat.blt j 106) (cond (Nat.blt j 101) ([]) ([])) (cond (Nat.blt j 107) ([]) (cond (Nat.blt j 108) ([]) ([])))) (cond (Nat.blt j 112) (cond (Nat.blt j 110) ([]) (cond (Nat.blt j 111) ([]) ([]))) (cond (Nat.blt j 113) ([]) (cond (Nat.blt j 114) ([]) ([])))))))) (cond (Nat.blt j 198) (cond (Nat.blt j 143) (cond (Nat.blt j 126) (cond (Nat.blt j 120) (cond (Nat.blt j 117) (cond (Nat.blt j 116) ([]) ([])) (cond (Nat.blt j 118) ([]) (cond (Nat.blt j 119) ([]) ([])))) (cond (Nat.blt j 123) (cond (Nat.blt j 121) ([]) ([])) (cond (Nat.blt j 124) ([]) (cond (Nat.blt j 125) ([]) ([]))))) (cond (Nat.blt j 137) (cond (Nat.blt j 134) (cond (Nat.blt j 132) ([]) ([])) (cond (Nat.blt j 135) ([]) (cond (Nat.blt j 136) ([]) ([])))) (cond (Nat.blt j 139) (cond (Nat.blt j 138) ([]) ([])) (cond (Nat.blt j 140) ([]) (cond (Nat.blt j 142) ([]) ([])))))) (cond (Nat.blt j 180) (cond (Nat.blt j 160) (cond (Nat.blt j 153) (cond (Nat.blt j 152) ([]) ([])) (cond (Nat.blt j 157) ([]) (cond (Nat.blt j 158) ([]) ([])))) (cond (Nat.blt j 166) (cond (Nat.blt j 165) ([]) ([])) (cond (Nat.blt j 173) ([]) (cond (Nat.blt j 174) ([]) ([]))))) (cond (Nat.blt j 190) (cond (Nat.blt j 183) (cond (Nat.blt j 182) ([]) ([])) (cond (Nat.blt j 186) ([]) (cond (Nat.blt j 187) ([]) ([])))) (cond (Nat.blt j 193) (cond (Nat.blt j 191) ([]) (cond (Nat.blt j 192) ([]) ([]))) (cond (Nat.blt j 194) ([]) (cond (Nat.blt j 197) ([]) ([]))))))) (cond (Nat.blt j 230) (cond (Nat.blt j 209) (cond (Nat.blt j 204) (cond (Nat.blt j 201) (cond (Nat.blt j 199) ([]) ([])) (cond (Nat.blt j 202) ([]) (cond (Nat.blt j 203) ([]) ([])))) (cond (Nat.blt j 206) (cond (Nat.blt j 205) ([]) ([])) (cond (Nat.blt j 207) ([]) (cond (Nat.blt j 208) ([]) ([]))))) (cond (Nat.blt j 225) (cond (Nat.blt j 219) (cond (Nat.blt j 218) ([]) ([])) (cond (Nat.blt j 221) ([]) (cond (Nat.blt j 224) ([]) ([])))) (cond (Nat.blt j 227) (cond (Nat.blt j 226) ([(0, 9, 12, 13), (0, 9, 15, 15)]) ([(0, 9, 12, 13), (0, 9, 15, 15)])) (cond (Nat.blt j 228) ([(0, 9, 12, 23)]) (cond (Nat.blt j 229) ([(0, 10, 13, 23), (0, 10, 17, 13)]) ([(0, 10, 13, 23), (0, 10, 17, 13)])))))) (cond (Nat.blt j 240) (cond (Nat.blt j 235) (cond (Nat.blt j 232) (cond (Nat.blt j 231) ([(0, 9, 12, 13)]) ([(0, 8, 11, 13), (0, 8, 14, 15)])) (cond (Nat.blt j 233) ([(0, 10, 13, 23), (0, 10, 17, 13)]) (cond (Nat.blt j 234) ([(0, 10, 13, 23)]) ([(0, 10, 13, 23), (0, 10, 17, 13)])))) (cond (Nat.blt j 237) (cond (Nat.blt j 236) ([(0, 9, 12, 13)]) ([(0, 9, 12, 13), (0, 9, 15, 15)])) (cond (Nat.blt j 238) ([(0, 9, 12, 13), (0, 9, 15, 15)]) (cond (Nat.blt j 239) ([(0, 9, 12, 13), (0, 9, 15, 15)]) ([(0, 9, 12, 13), (0, 9, 15, 15)]))))) (cond (Nat.blt j 245) (cond (Nat.blt j 242) (cond (Nat.blt j 241) ([(0, 9, 12, 13), (0, 9, 15, 15)]) ([(0, 8, 11, 13), (0, 8, 14, 15), (0, 8, 17, 70)])) (cond (Nat.blt j 243) ([(0, 9, 12, 13)]) (cond (Nat.blt j 244) ([(0, 9, 12, 13), (0, 9, 15, 15)]) ([(0, 9, 12, 15), (0, 9, 15, 23)])))) (cond (Nat.blt j 248) (cond (Nat.blt j 246) ([(0, 9, 12, 15), (0, 9, 15, 23)]) (cond (Nat.blt j 247) ([(0, 8, 11, 15)]) ([(0, 10, 13, 13), (0, 10, 17, 15), (0, 10, 21, 23)]))) (cond (Nat.blt j 249) ([(0, 8, 11, 15)]) (cond (Nat.blt j 250) ([]) ([]))))))))
def qw_T (j : Nat) (c : Code) : Prop := c.exceptionTable.toList = tableOf (qw_hh j)
def qw_nest : List (String × Nat × MethodName × String) := [("TextSwitchCompiler", 20, ⟨"TextSwitchCompiler$Keys", "<init>", "()V"⟩, "TextSwitchCompiler"), ("TextSwitchCompiler", 34, ⟨"TextSwitchCompiler$Commands", "<init>", "()V"⟩, "TextSwitchCompiler"), ("TextSwitchCompiler$Commands", 29, ⟨"TextSwitchCompiler$Keys", "<init>", "()V"⟩, "TextSwitchCompiler"), ("TextSwitchCompiler$Commands", 57, ⟨"TextSwitchCompiler", "put", "([III)V"⟩, "TextSwitchCompiler"), ("TextSwitchCompiler$Keys", 63, ⟨"TextSwitchCompiler", "copy", "([I[I)V"⟩, "TextSwitchCompiler"), ("TextSwitchCompiler$Selection", 42, ⟨"TextSwitchCompiler", "contains", "(II)Z"⟩, "TextSwitchCompiler")]
def qw_casts : List (String × String) := [("java/lang/IllegalArgumentException", "java/lang/IllegalArgumentException"), ("java/lang/IllegalStateException", "java/lang/IllegalStateException"), ("java/lang/ArrayIndexOutOfBoundsException", "java/lang/ArrayIndexOutOfBoundsException"), ("java/lang/IndexOutOfBoundsException", "java/lang/IndexOutOfBoundsException"), ("java/lang/ArithmeticException", "java/lang/ArithmeticException"), ("java/lang/ArrayIndexOutOfBoundsException", "java/lang/IndexOutOfBoundsException")]
def qw_decls : List MethodName := [⟨"java/lang/RuntimeException", "<init>", "()V"⟩, ⟨"java/lang/RuntimeException", "<init>", "(Ljava/lang/String;)V"⟩, ⟨"java/lang/Exception", "<init>", "()V"⟩, ⟨"java/lang/Exception", "<init>", "(Ljava/lang/String;)V"⟩, ⟨"java/lang/Throwable", "<init>", "()V"⟩, ⟨"java/lang/Throwable", "<init>", "(Ljava/lang/String;)V"⟩, ⟨"java/lang/IndexOutOfBoundsException", "<init>", "()V"⟩, ⟨"java/lang/IndexOutOfBoundsException", "<init>", "(Ljava/lang/String;)V"⟩]
def qw_ncs : List (String × String) := [("java/lang/IllegalArgumentException", "java/lang/IllegalStateException"), ("java/lang/IllegalArgumentException", "java/lang/IndexOutOfBoundsException"), ("java/lang/IllegalArgumentException", "java/lang/ArithmeticException"), ("java/lang/IllegalStateException", "java/lang/IllegalArgumentException"), ("java/lang/IllegalStateException", "java/lang/IndexOutOfBoundsException"), ("java/lang/IllegalStateException", "java/lang/ArithmeticException"), ("java/lang/IndexOutOfBoundsException", "java/lang/IllegalArgumentException"), ("java/lang/IndexOutOfBoundsException", "java/lang/IllegalStateException"), ("java/lang/IndexOutOfBoundsException", "java/lang/ArithmeticException"), ("java/lang/ArithmeticException", "java/lang/IllegalArgumentException"), ("java/lang/ArithmeticException", "java/lang/IllegalStateException"), ("java/lang/ArithmeticException", "java/lang/IndexOutOfBoundsException")]
def qw_strs : List (String × Nat × String × Nat) := [("TextSwitchCompiler", 96, "a byte is no character", 1), ("TextSwitchCompiler", 106, "the buffer is too short", 2), ("TextSwitchCompiler", 119, "the text cannot be a key", 3), ("TextSwitchCompiler", 128, "the key exists already, or there are too many", 4), ("TextSwitchCompiler", 151, "the weight is out of range", 5), ("TextSwitchCompiler", 156, "the load is out of range", 6), ("TextSwitchCompiler", 175, "a form error", 7), ("TextSwitchCompiler", 177, "an execution error", 8), ("TextSwitchCompiler", 190, "no such property", 9), ("TextSwitchCompiler", 194, "no such position", 10), ("TextSwitchCompiler", 201, "both keys are the same", 11), ("TextSwitchCompiler", 206, "no such size", 12), ("TextSwitchCompiler", 239, "no keys", 13), ("TextSwitchCompiler", 290, "no such slot", 14), ("TextSwitchCompiler", 295, "no such bucket", 15), ("TextSwitchCompiler", 310, "no such index", 16), ("TextSwitchCompiler", 318, "nothing was saved", 17), ("TextSwitchCompiler", 323, "no such key", 18), ("TextSwitchCompiler", 325, "the branch is out of range", 19), ("TextSwitchCompiler", 327, "no such strategy", 20), ("TextSwitchCompiler", 329, "there is no table", 21), ("TextSwitchCompilerModel", 138, "add", 22), ("TextSwitchCompilerModel", 144, "del", 23), ("TextSwitchCompilerModel", 146, "weight", 24), ("TextSwitchCompilerModel", 148, "load", 25), ("TextSwitchCompiler$Commands", 83, "add", 26), ("TextSwitchCompiler$Commands", 89, "del", 27), ("TextSwitchCompiler$Commands", 91, "weight", 28), ("TextSwitchCompiler$Commands", 93, "load", 29)]
def qw_Os : qw_O := (qw_nest, qw_casts, qw_decls, qw_ncs, qw_strs)
def qZ (E : qe_E) (L : Nat) : qe_Z := (vwCl, E, qw_X qw_Os E.2.2.1 L E.2.2.2, qw_M, qw_n, qw_p, qw_T)
theorem qZ_X (E : qe_E) (L : Nat) : zX (qZ E L) = qw_X qw_Os (zE (qZ E L)).2.2.1 L (zE (qZ E L)).2.2.2 := rfl
theorem qZ_ok (E : qe_E) (L : Nat) : qz_ok (qZ E L) := qz_of (O := qw_Os) (qZ_X E L)
def qn_2 : Nat := 0x3000000000000000003000000000000000003000000000000000003000000000000000003000000000000000003
def qfs_2 : List Value := [.null, .null, .null, .null, .null, .null, .int 0, .int 0, .int 0]
theorem qfa_2 : ∀ (E : qe_E) (ad : Nat → Nat), (List.range 9).map (fun k => qe_v E ad (qe_get qn_2 k)) = qfs_2 := fun E ad => rfl
theorem qfb_2 : ∀ j, j < 9 → defaultValue (tyX0 j) = vp_V qfs_2 j := by decide +kernel
theorem qfc_2 : qn_2 < 2 ^ (72 * 9) := by decide +kernel
theorem qfd_2 : ∀ k, k < 9 → qe_is 2 (qe_get qn_2 k) = false := by decide +kernel
def qn_3 : Nat := 0x3000000000000000003000000000000000003000000000000000003000000000000000003000000000000000003000000000000000003000000000000000003000000000000000003
def qfs_3 : List Value := [.null, .null, .null, .null, .null, .null, .null, .null, .null, .int 0, .int 0, .int 0, .int 0]
theorem qfa_3 : ∀ (E : qe_E) (ad : Nat → Nat), (List.range 13).map (fun k => qe_v E ad (qe_get qn_3 k)) = qfs_3 := fun E ad => rfl
theorem qfb_3 : ∀ j, j < 13 → defaultValue (tyX1 j) = vp_V qfs_3 j := by decide +kernel
theorem qfc_3 : qn_3 < 2 ^ (72 * 13) := by decide +kernel
theorem qfd_3 : ∀ k, k < 13 → qe_is 2 (qe_get qn_3 k) = false := by decide +kernel
def qn_4 : Nat := 0x3000000000000000003000000000000000003000000000000000003
def qfs_4 : List Value := [.null, .null, .null, .null, .int 0, .int 0, .int 0]
theorem qfa_4 : ∀ (E : qe_E) (ad : Nat → Nat), (List.range 7).map (fun k => qe_v E ad (qe_get qn_4 k)) = qfs_4 := fun E ad => rfl
theorem qfb_4 : ∀ j, j < 7 → defaultValue (tyX2 j) = vp_V qfs_4 j := by decide +kernel
theorem qfc_4 : qn_4 < 2 ^ (72 * 7) := by decide +kernel
theorem qfd_4 : ∀ k, k < 7 → qe_is 2 (qe_get qn_4 k) = false := by decide +kernel
def qn_5 : Nat := 0x3000000000000000003000000000000000003000000000000000003000000000000000003
def qfs_5 : List Value := [.null, .null, .null, .null, .null]
theorem qfa_5 : ∀ (E : qe_E) (ad : Nat → Nat), (List.range 5).map (fun k => qe_v E ad (qe_get qn_5 k)) = qfs_5 := fun E ad => rfl
theorem qfb_5 : ∀ j, j < 5 → defaultValue (tyX3 j) = vp_V qfs_5 j := by decide +kernel
theorem qfc_5 : qn_5 < 2 ^ (72 * 5) := by decide +kernel
theorem qfd_5 : ∀ k, k < 5 → qe_is 2 (qe_get qn_5 k) = false := by decide +kernel
def qn_6 : Nat := 0x3000000000000000003
def qfs_6 : List Value := [.null, .null]
theorem qfa_6 : ∀ (E : qe_E) (ad : Nat → Nat), (List.range 2).map (fun k => qe_v E ad (qe_get qn_6 k)) = qfs_6 := fun E ad => rfl
theorem qfb_6 : ∀ j, j < 2 → defaultValue (tyX4 j) = vp_V qfs_6 j := by decide +kernel
theorem qfc_6 : qn_6 < 2 ^ (72 * 2) := by decide +kernel
theorem qfd_6 : ∀ k, k < 2 → qe_is 2 (qe_get qn_6 k) = false := by decide +kernel
def qn_7 : Nat := 0x3000000000000000003000000000000000003000000000000000003000000000000000003
def qfs_7 : List Value := [.null, .null, .null, .null, .null, .int 0, .int 0, .int 0, .int 0]
theorem qfa_7 : ∀ (E : qe_E) (ad : Nat → Nat), (List.range 9).map (fun k => qe_v E ad (qe_get qn_7 k)) = qfs_7 := fun E ad => rfl
theorem qfb_7 : ∀ j, j < 9 → defaultValue (tyX5 j) = vp_V qfs_7 j := by decide +kernel
theorem qfc_7 : qn_7 < 2 ^ (72 * 9) := by decide +kernel
theorem qfd_7 : ∀ k, k < 9 → qe_is 2 (qe_get qn_7 k) = false := by decide +kernel
def qn_8 : Nat := 0x3000000000000000003
def qfs_8 : List Value := [.null, .null, .int 0, .int 0]
theorem qfa_8 : ∀ (E : qe_E) (ad : Nat → Nat), (List.range 4).map (fun k => qe_v E ad (qe_get qn_8 k)) = qfs_8 := fun E ad => rfl
theorem qfb_8 : ∀ j, j < 4 → defaultValue (tyX6 j) = vp_V qfs_8 j := by decide +kernel
theorem qfc_8 : qn_8 < 2 ^ (72 * 4) := by decide +kernel
theorem qfd_8 : ∀ k, k < 4 → qe_is 2 (qe_get qn_8 k) = false := by decide +kernel
def qn_9 : Nat := 0x1000000000000000000000000000000000000000000000000000000000000000000000000000000000000000003000000000000000003000000000000000003000000000000000003000000000000000003000000000000000003000000000000000003000000000000000003000000000000000003
def qfs_9 : List Value := [.null, .null, .null, .null, .null, .null, .null, .null, .null, .int 0, .int 0, .int 0, .int 0, .long 0]
theorem qfa_9 : ∀ (E : qe_E) (ad : Nat → Nat), (List.range 14).map (fun k => qe_v E ad (qe_get qn_9 k)) = qfs_9 := fun E ad => rfl
theorem qfb_9 : ∀ j, j < 14 → defaultValue (tyX7 j) = vp_V qfs_9 j := by decide +kernel
theorem qfc_9 : qn_9 < 2 ^ (72 * 14) := by decide +kernel
theorem qfd_9 : ∀ k, k < 14 → qe_is 2 (qe_get qn_9 k) = false := by decide +kernel
def qn_10 : Nat := 0x3
def qfs_10 : List Value := [.null, .int 0]
theorem qfa_10 : ∀ (E : qe_E) (ad : Nat → Nat), (List.range 2).map (fun k => qe_v E ad (qe_get qn_10 k)) = qfs_10 := fun E ad => rfl
theorem qfb_10 : ∀ j, j < 2 → defaultValue (tyX8 j) = vp_V qfs_10 j := by decide +kernel
theorem qfc_10 : qn_10 < 2 ^ (72 * 2) := by decide +kernel
theorem qfd_10 : ∀ k, k < 2 → qe_is 2 (qe_get qn_10 k) = false := by decide +kernel
def qn_11 : Nat := 0x3000000000000000003000000000000000003000000000000000003000000000000000003000000000000000003000000000000000000000000000000000003000000000000000000000000000000000003000000000000000003000000000000000003
def qfs_11 : List Value := [.null, .null, .null, .int 0, .null, .int 0, .null, .null, .null, .null, .null, .null, .int 0]
theorem qfa_11 : ∀ (E : qe_E) (ad : Nat → Nat), (List.range 13).map (fun k => qe_v E ad (qe_get qn_11 k)) = qfs_11 := fun E ad => rfl
theorem qfb_11 : ∀ j, j < 13 → defaultValue (tyX9 j) = vp_V qfs_11 j := by decide +kernel
theorem qfc_11 : qn_11 < 2 ^ (72 * 13) := by decide +kernel
theorem qfd_11 : ∀ k, k < 13 → qe_is 2 (qe_get qn_11 k) = false := by decide +kernel
def qn_12 : Nat := 0x3000000000000000003000000000000000003000000000000000003000000000000000003000000000000000000000000000000000000000000000000000000000000000000000000000000000000000000000000000000000000000000000000000000000000000000000000000000000000000000000000000000000000000000000000000003000000000000000000000000000000000000000000000000000003000000000000000003000000000000000000000000000000000000000000000000000000000000000000000003000000000000000003000000000000000003000000000000000003000000000000000003000000000000000000000000000000000000000000000000000000000000000000000003000000000000000000000000000000000003000000000000000003
def qfs_12 : List Value := [.null, .null, .int 0, .null, .int 0, .int 0, .int 0, .null, .null, .null, .null, .null, .int 0, .int 0, .int 0, .null, .null, .int 0, .int 0, .null, .int 0, .int 0, .int 0, .int 0, .int 0, .int 0, .int 0, .int 0, .int 0, .int 0, .null, .null, .null, .null, .null, .int 0]
theorem qfa_12 : ∀ (E : qe_E) (ad : Nat → Nat), (List.range 36).map (fun k => qe_v E ad (qe_get qn_12 k)) = qfs_12 := fun E ad => rfl
theorem qfb_12 : ∀ j, j < 36 → defaultValue (tyX10 j) = vp_V qfs_12 j := by decide +kernel
theorem qfc_12 : qn_12 < 2 ^ (72 * 36) := by decide +kernel
theorem qfd_12 : ∀ k, k < 36 → qe_is 2 (qe_get qn_12 k) = false := by decide +kernel
theorem qh_X9_init : qw_d yX9_init 0 := ⟨by decide +kernel, by decide +kernel, by decide +kernel⟩
theorem qmb_X9_init (E : qe_E) (L : Nat) : qx_mb (qZ E L) 0 := ⟨show plainName yX9_init.cls = true by decide +kernel, Nat.le_of_ble_eq_true rfl, rfl, Or.inl ⟨qw_G, rfl, fun c h => List.eq_nil_iff_forall_not_mem.mpr h⟩⟩
theorem qh_X9_append : qw_d yX9_append 1 := ⟨by decide +kernel, by decide +kernel, by decide +kernel⟩
theorem qmb_X9_append (E : qe_E) (L : Nat) : qx_mb (qZ E L) 1 := ⟨show plainName yX9_append.cls = true by decide +kernel, Nat.le_of_ble_eq_true rfl, rfl, Or.inl ⟨qw_G, rfl, fun c h => List.eq_nil_iff_forall_not_mem.mpr h⟩⟩
theorem qh_X9_clear : qw_d yX9_clear 0 := ⟨by decide +kernel, by decide +kernel, by decide +kernel⟩
theorem qmb_X9_clear (E : qe_E) (L : Nat) : qx_mb (qZ E L) 2 := ⟨show plainName yX9_clear.cls = true by decide +kernel, Nat.le_of_ble_eq_true rfl, rfl, Or.inl ⟨qw_G, rfl, fun c h => List.eq_nil_iff_forall_not_mem.mpr h⟩⟩
theorem qh_X9_add : qw_d yX9_add 1 := ⟨by decide +kernel, by decide +kernel, by decide +kernel⟩
theorem qmb_X9_add (E : qe_E) (L : Nat) : qx_mb (qZ E L) 3 := ⟨show plainName yX9_add.cls = true by decide +kernel, Nat.le_of_ble_eq_true rfl, rfl, Or.inl ⟨qw_G, rfl, fun c h => List.eq_nil_iff_forall_not_mem.mpr h⟩⟩
theorem qh_X9_remove : qw_d yX9_remove 1 := ⟨by decide +kernel, by decide +kernel, by decide +kernel⟩
theorem qmb_X9_remove (E : qe_E) (L : Nat) : qx_mb (qZ E L) 4 := ⟨show plainName yX9_remove.cls = true by decide +kernel, Nat.le_of_ble_eq_true rfl, rfl, Or.inl ⟨qw_G, rfl, fun c h => List.eq_nil_iff_forall_not_mem.mpr h⟩⟩
theorem qh_X9_setBranch : qw_d yX9_setBranch 2 := ⟨by decide +kernel, by decide +kernel, by decide +kernel⟩
theorem qmb_X9_setBranch (E : qe_E) (L : Nat) : qx_mb (qZ E L) 5 := ⟨show plainName yX9_setBranch.cls = true by decide +kernel, Nat.le_of_ble_eq_true rfl, rfl, Or.inl ⟨qw_G, rfl, fun c h => List.eq_nil_iff_forall_not_mem.mpr h⟩⟩
theorem qh_X9_setWeight : qw_d yX9_setWeight 2 := ⟨by decide +kernel, by decide +kernel, by decide +kernel⟩
theorem qmb_X9_setWeight (E : qe_E) (L : Nat) : qx_mb (qZ E L) 6 := ⟨show plainName yX9_setWeight.cls = true by decide +kernel, Nat.le_of_ble_eq_true rfl, rfl, Or.inl ⟨qw_G, rfl, fun c h => List.eq_nil_iff_forall_not_mem.mpr h⟩⟩
theorem qh_X9_setLoad : qw_d yX9_setLoad 1 := ⟨by decide +kernel, by decide +kernel, by decide +kernel⟩
theorem qmb_X9_setLoad (E : qe_E) (L : Nat) : qx_mb (qZ E L) 7 := ⟨show plainName yX9_setLoad.cls = true by decide +kernel, Nat.le_of_ble_eq_true rfl, rfl, Or.inl ⟨qw_G, rfl, fun c h => List.eq_nil_iff_forall_not_mem.mpr h⟩⟩
theorem qh_X9_execute : qw_d yX9_execute 0 := ⟨by decide +kernel, by decide +kernel, by decide +kernel⟩
theorem qmb_X9_execute (E : qe_E) (L : Nat) : qx_mb (qZ E L) 8 := ⟨show plainName yX9_execute.cls = true by decide +kernel, Nat.le_of_ble_eq_true rfl, rfl, Or.inl ⟨qw_G, rfl, fun c h => List.eq_nil_iff_forall_not_mem.mpr h⟩⟩
theorem qh_X9_errorPosition : qw_d yX9_errorPosition 0 := ⟨by decide +kernel, by decide +kernel, by decide +kernel⟩
theorem qmb_X9_errorPosition (E : qe_E) (L : Nat) : qx_mb (qZ E L) 9 := ⟨show plainName yX9_errorPosition.cls = true by decide +kernel, Nat.le_of_ble_eq_true rfl, rfl, Or.inl ⟨qw_G, rfl, fun c h => List.eq_nil_iff_forall_not_mem.mpr h⟩⟩
theorem qh_X9_property : qw_d yX9_property 2 := ⟨by decide +kernel, by decide +kernel, by decide +kernel⟩
theorem qmb_X9_property (E : qe_E) (L : Nat) : qx_mb (qZ E L) 10 := ⟨show plainName yX9_property.cls = true by decide +kernel, Nat.le_of_ble_eq_true rfl, rfl, Or.inl ⟨qw_G, rfl, fun c h => List.eq_nil_iff_forall_not_mem.mpr h⟩⟩
theorem qh_X9_character : qw_d yX9_character 2 := ⟨by decide +kernel, by decide +kernel, by decide +kernel⟩
theorem qmb_X9_character (E : qe_E) (L : Nat) : qx_mb (qZ E L) 11 := ⟨show plainName yX9_character.cls = true by decide +kernel, Nat.le_of_ble_eq_true rfl, rfl, Or.inl ⟨qw_G, rfl, fun c h => List.eq_nil_iff_forall_not_mem.mpr h⟩⟩
theorem qh_X9_difference : qw_d yX9_difference 2 := ⟨by decide +kernel, by decide +kernel, by decide +kernel⟩
theorem qmb_X9_difference (E : qe_E) (L : Nat) : qx_mb (qZ E L) 12 := ⟨show plainName yX9_difference.cls = true by decide +kernel, Nat.le_of_ble_eq_true rfl, rfl, Or.inl ⟨qw_G, rfl, fun c h => List.eq_nil_iff_forall_not_mem.mpr h⟩⟩
theorem qh_X9_size : qw_d yX9_size 1 := ⟨by decide +kernel, by decide +kernel, by decide +kernel⟩
theorem qmb_X9_size (E : qe_E) (L : Nat) : qx_mb (qZ E L) 13 := ⟨show plainName yX9_size.cls = true by decide +kernel, Nat.le_of_ble_eq_true rfl, rfl, Or.inl ⟨qw_G, rfl, fun c h => List.eq_nil_iff_forall_not_mem.mpr h⟩⟩
theorem qh_X9_find : qw_d yX9_find 1 := ⟨by decide +kernel, by decide +kernel, by decide +kernel⟩
theorem qmb_X9_find (E : qe_E) (L : Nat) : qx_mb (qZ E L) 14 := ⟨show plainName yX9_find.cls = true by decide +kernel, Nat.le_of_ble_eq_true rfl, rfl, Or.inl ⟨qw_G, rfl, fun c h => List.eq_nil_iff_forall_not_mem.mpr h⟩⟩
theorem qh_X9_branch : qw_d yX9_branch 1 := ⟨by decide +kernel, by decide +kernel, by decide +kernel⟩
theorem qmb_X9_branch (E : qe_E) (L : Nat) : qx_mb (qZ E L) 15 := ⟨show plainName yX9_branch.cls = true by decide +kernel, Nat.le_of_ble_eq_true rfl, rfl, Or.inl ⟨qw_G, rfl, fun c h => List.eq_nil_iff_forall_not_mem.mpr h⟩⟩
theorem qh_X9_examined : qw_d yX9_examined 1 := ⟨by decide +kernel, by decide +kernel, by decide +kernel⟩
theorem qmb_X9_examined (E : qe_E) (L : Nat) : qx_mb (qZ E L) 16 := ⟨show plainName yX9_examined.cls = true by decide +kernel, Nat.le_of_ble_eq_true rfl, rfl, Or.inl ⟨qw_G, rfl, fun c h => List.eq_nil_iff_forall_not_mem.mpr h⟩⟩
theorem qh_X9_cost : qw_d yX9_cost 1 := ⟨by decide +kernel, by decide +kernel, by decide +kernel⟩
theorem qmb_X9_cost (E : qe_E) (L : Nat) : qx_mb (qZ E L) 17 := ⟨show plainName yX9_cost.cls = true by decide +kernel, Nat.le_of_ble_eq_true rfl, rfl, Or.inl ⟨qw_G, rfl, fun c h => List.eq_nil_iff_forall_not_mem.mpr h⟩⟩
theorem qh_X9_worst : qw_d yX9_worst 1 := ⟨by decide +kernel, by decide +kernel, by decide +kernel⟩
theorem qmb_X9_worst (E : qe_E) (L : Nat) : qx_mb (qZ E L) 18 := ⟨show plainName yX9_worst.cls = true by decide +kernel, Nat.le_of_ble_eq_true rfl, rfl, Or.inl ⟨qw_G, rfl, fun c h => List.eq_nil_iff_forall_not_mem.mpr h⟩⟩
theorem qh_X9_meanBits : qw_d yX9_meanBits 1 := ⟨by decide +kernel, by decide +kernel, by decide +kernel⟩
theorem qmb_X9_meanBits (E : qe_E) (L : Nat) : qx_mb (qZ E L) 19 := ⟨show plainName yX9_meanBits.cls = true by decide +kernel, Nat.le_of_ble_eq_true rfl, rfl, Or.inl ⟨qw_G, rfl, fun c h => List.eq_nil_iff_forall_not_mem.mpr h⟩⟩
theorem qh_X9_best : qw_d yX9_best 0 := ⟨by decide +kernel, by decide +kernel, by decide +kernel⟩
theorem qmb_X9_best (E : qe_E) (L : Nat) : qx_mb (qZ E L) 20 := ⟨show plainName yX9_best.cls = true by decide +kernel, Nat.le_of_ble_eq_true rfl, rfl, Or.inl ⟨qw_G, rfl, fun c h => List.eq_nil_iff_forall_not_mem.mpr h⟩⟩
theorem qh_X9_trees : qw_d yX9_trees 1 := ⟨by decide +kernel, by decide +kernel, by decide +kernel⟩
theorem qmb_X9_trees (E : qe_E) (L : Nat) : qx_mb (qZ E L) 21 := ⟨show plainName yX9_trees.cls = true by decide +kernel, Nat.le_of_ble_eq_true rfl, rfl, Or.inl ⟨qw_G, rfl, fun c h => List.eq_nil_iff_forall_not_mem.mpr h⟩⟩
theorem qh_X9_selected : qw_d yX9_selected 0 := ⟨by decide +kernel, by decide +kernel, by decide +kernel⟩
theorem qmb_X9_selected (E : qe_E) (L : Nat) : qx_mb (qZ E L) 22 := ⟨show plainName yX9_selected.cls = true by decide +kernel, Nat.le_of_ble_eq_true rfl, rfl, Or.inl ⟨qw_G, rfl, fun c h => List.eq_nil_iff_forall_not_mem.mpr h⟩⟩
theorem qh_X9_hash : qw_d yX9_hash 1 := ⟨by decide +kernel, by decide +kernel, by decide +kernel⟩
theorem qmb_X9_hash (E : qe_E) (L : Nat) : qx_mb (qZ E L) 23 := ⟨show plainName yX9_hash.cls = true by decide +kernel, Nat.le_of_ble_eq_true rfl, rfl, Or.inl ⟨qw_G, rfl, fun c h => List.eq_nil_iff_forall_not_mem.mpr h⟩⟩
theorem qh_X9_table : qw_d yX9_table 1 := ⟨by decide +kernel, by decide +kernel, by decide +kernel⟩
theorem qmb_X9_table (E : qe_E) (L : Nat) : qx_mb (qZ E L) 24 := ⟨show plainName yX9_table.cls = true by decide +kernel, Nat.le_of_ble_eq_true rfl, rfl, Or.inl ⟨qw_G, rfl, fun c h => List.eq_nil_iff_forall_not_mem.mpr h⟩⟩
theorem qh_X9_slot : qw_d yX9_slot 1 := ⟨by decide +kernel, by decide +kernel, by decide +kernel⟩
theorem qmb_X9_slot (E : qe_E) (L : Nat) : qx_mb (qZ E L) 25 := ⟨show plainName yX9_slot.cls = true by decide +kernel, Nat.le_of_ble_eq_true rfl, rfl, Or.inl ⟨qw_G, rfl, fun c h => List.eq_nil_iff_forall_not_mem.mpr h⟩⟩
theorem qh_X9_displacement : qw_d yX9_displacement 1 := ⟨by decide +kernel, by decide +kernel, by decide +kernel⟩
theorem qmb_X9_displacement (E : qe_E) (L : Nat) : qx_mb (qZ E L) 26 := ⟨show plainName yX9_displacement.cls = true by decide +kernel, Nat.le_of_ble_eq_true rfl, rfl, Or.inl ⟨qw_G, rfl, fun c h => List.eq_nil_iff_forall_not_mem.mpr h⟩⟩
theorem qh_X9_densityBits : qw_d yX9_densityBits 0 := ⟨by decide +kernel, by decide +kernel, by decide +kernel⟩
theorem qmb_X9_densityBits (E : qe_E) (L : Nat) : qx_mb (qZ E L) 27 := ⟨show plainName yX9_densityBits.cls = true by decide +kernel, Nat.le_of_ble_eq_true rfl, rfl, Or.inl ⟨qw_G, rfl, fun c h => List.eq_nil_iff_forall_not_mem.mpr h⟩⟩
theorem qh_X9_listing : qw_d yX9_listing 2 := ⟨by decide +kernel, by decide +kernel, by decide +kernel⟩
theorem qmb_X9_listing (E : qe_E) (L : Nat) : qx_mb (qZ E L) 28 := ⟨show plainName yX9_listing.cls = true by decide +kernel, Nat.le_of_ble_eq_true rfl, rfl, Or.inl ⟨qw_G, rfl, fun c h => List.eq_nil_iff_forall_not_mem.mpr h⟩⟩
theorem qh_X9_save : qw_d yX9_save 0 := ⟨by decide +kernel, by decide +kernel, by decide +kernel⟩
theorem qmb_X9_save (E : qe_E) (L : Nat) : qx_mb (qZ E L) 29 := ⟨show plainName yX9_save.cls = true by decide +kernel, Nat.le_of_ble_eq_true rfl, rfl, Or.inl ⟨qw_G, rfl, fun c h => List.eq_nil_iff_forall_not_mem.mpr h⟩⟩
theorem qh_X9_restore : qw_d yX9_restore 0 := ⟨by decide +kernel, by decide +kernel, by decide +kernel⟩
theorem qmb_X9_restore (E : qe_E) (L : Nat) : qx_mb (qZ E L) 30 := ⟨show plainName yX9_restore.cls = true by decide +kernel, Nat.le_of_ble_eq_true rfl, rfl, Or.inl ⟨qw_G, rfl, fun c h => List.eq_nil_iff_forall_not_mem.mpr h⟩⟩
theorem qh_X9_requireKey : qw_d yX9_requireKey 1 := ⟨by decide +kernel, by decide +kernel, by decide +kernel⟩
theorem qmb_X9_requireKey (E : qe_E) (L : Nat) : qx_mb (qZ E L) 31 := ⟨show plainName yX9_requireKey.cls = true by decide +kernel, Nat.le_of_ble_eq_true rfl, rfl, Or.inl ⟨qw_G, rfl, fun c h => List.eq_nil_iff_forall_not_mem.mpr h⟩⟩
theorem qh_X9_requireStrategy : qw_d yX9_requireStrategy 1 := ⟨by decide +kernel, by decide +kernel, by decide +kernel⟩
theorem qmb_X9_requireStrategy (E : qe_E) (L : Nat) : qx_mb (qZ E L) 33 := ⟨show plainName yX9_requireStrategy.cls = true by decide +kernel, Nat.le_of_ble_eq_true rfl, rfl, Or.inl ⟨qw_G, rfl, fun c h => List.eq_nil_iff_forall_not_mem.mpr h⟩⟩
theorem qh_X9_requireRunnable : qw_d yX9_requireRunnable 1 := ⟨by decide +kernel, by decide +kernel, by decide +kernel⟩
theorem qmb_X9_requireRunnable (E : qe_E) (L : Nat) : qx_mb (qZ E L) 34 := ⟨show plainName yX9_requireRunnable.cls = true by decide +kernel, Nat.le_of_ble_eq_true rfl, rfl, Or.inl ⟨qw_G, rfl, fun c h => List.eq_nil_iff_forall_not_mem.mpr h⟩⟩
theorem qh_X9_requireTable : qw_d yX9_requireTable 0 := ⟨by decide +kernel, by decide +kernel, by decide +kernel⟩
theorem qmb_X9_requireTable (E : qe_E) (L : Nat) : qx_mb (qZ E L) 35 := ⟨show plainName yX9_requireTable.cls = true by decide +kernel, Nat.le_of_ble_eq_true rfl, rfl, Or.inl ⟨qw_G, rfl, fun c h => List.eq_nil_iff_forall_not_mem.mpr h⟩⟩
theorem qh_X9_canRun : qw_d yX9_canRun 1 := ⟨by decide +kernel, by decide +kernel, by decide +kernel⟩
theorem qmb_X9_canRun (E : qe_E) (L : Nat) : qx_mb (qZ E L) 36 := ⟨show plainName yX9_canRun.cls = true by decide +kernel, Nat.le_of_ble_eq_true rfl, rfl, Or.inl ⟨qw_G, rfl, fun c h => List.eq_nil_iff_forall_not_mem.mpr h⟩⟩
theorem qh_X9_prepare : qw_d yX9_prepare 0 := ⟨by decide +kernel, by decide +kernel, by decide +kernel⟩
theorem qmb_X9_prepare (E : qe_E) (L : Nat) : qx_mb (qZ E L) 37 := ⟨show plainName yX9_prepare.cls = true by decide +kernel, Nat.le_of_ble_eq_true rfl, rfl, Or.inl ⟨qw_G, rfl, fun c h => List.eq_nil_iff_forall_not_mem.mpr h⟩⟩
theorem qh_X9_put : qw_d yX9_put 3 := ⟨by decide +kernel, by decide +kernel, by decide +kernel⟩
theorem qmb_X9_put (E : qe_E) (L : Nat) : qx_mb (qZ E L) 39 := ⟨show plainName yX9_put.cls = true by decide +kernel, Nat.le_of_ble_eq_true rfl, rfl, Or.inl ⟨qw_G, rfl, fun c h => List.eq_nil_iff_forall_not_mem.mpr h⟩⟩
theorem qh_X9_copy : qw_d yX9_copy 2 := ⟨by decide +kernel, by decide +kernel, by decide +kernel⟩
theorem qmb_X9_copy (E : qe_E) (L : Nat) : qx_mb (qZ E L) 40 := ⟨show plainName yX9_copy.cls = true by decide +kernel, Nat.le_of_ble_eq_true rfl, rfl, Or.inl ⟨qw_G, rfl, fun c h => List.eq_nil_iff_forall_not_mem.mpr h⟩⟩
theorem qh_X9_contains : qw_d yX9_contains 2 := ⟨by decide +kernel, by decide +kernel, by decide +kernel⟩
theorem qmb_X9_contains (E : qe_E) (L : Nat) : qx_mb (qZ E L) 42 := ⟨show plainName yX9_contains.cls = true by decide +kernel, Nat.le_of_ble_eq_true rfl, rfl, Or.inl ⟨qw_G, rfl, fun c h => List.eq_nil_iff_forall_not_mem.mpr h⟩⟩
theorem qh_X10_init : qw_d yX10_init 0 := ⟨by decide +kernel, by decide +kernel, by decide +kernel⟩
theorem qmb_X10_init (E : qe_E) (L : Nat) : qx_mb (qZ E L) 47 := ⟨show plainName yX10_init.cls = true by decide +kernel, Nat.le_of_ble_eq_true rfl, rfl, Or.inl ⟨qw_G, rfl, fun c h => List.eq_nil_iff_forall_not_mem.mpr h⟩⟩
theorem qh_X10_thrown : qw_d yX10_thrown 0 := ⟨by decide +kernel, by decide +kernel, by decide +kernel⟩
theorem qmb_X10_thrown (E : qe_E) (L : Nat) : qx_mb (qZ E L) 48 := ⟨show plainName yX10_thrown.cls = true by decide +kernel, Nat.le_of_ble_eq_true rfl, rfl, Or.inl ⟨qw_G, rfl, fun c h => List.eq_nil_iff_forall_not_mem.mpr h⟩⟩
theorem qh_X10_in : qw_d yX10_in 3 := ⟨by decide +kernel, by decide +kernel, by decide +kernel⟩
theorem qmb_X10_in (E : qe_E) (L : Nat) : qx_mb (qZ E L) 49 := ⟨show plainName yX10_in.cls = true by decide +kernel, Nat.le_of_ble_eq_true rfl, rfl, Or.inl ⟨qw_G, rfl, fun c h => List.eq_nil_iff_forall_not_mem.mpr h⟩⟩
theorem qh_X10_isKey : qw_d yX10_isKey 1 := ⟨by decide +kernel, by decide +kernel, by decide +kernel⟩
theorem qmb_X10_isKey (E : qe_E) (L : Nat) : qx_mb (qZ E L) 50 := ⟨show plainName yX10_isKey.cls = true by decide +kernel, Nat.le_of_ble_eq_true rfl, rfl, Or.inl ⟨qw_G, rfl, fun c h => List.eq_nil_iff_forall_not_mem.mpr h⟩⟩
theorem qh_X10_append : qw_d yX10_append 1 := ⟨by decide +kernel, by decide +kernel, by decide +kernel⟩
theorem qmb_X10_append (E : qe_E) (L : Nat) : qx_mb (qZ E L) 53 := ⟨show plainName yX10_append.cls = true by decide +kernel, Nat.le_of_ble_eq_true rfl, rfl, Or.inl ⟨qw_G, rfl, fun c h => List.eq_nil_iff_forall_not_mem.mpr h⟩⟩
theorem qh_X10_clear : qw_d yX10_clear 0 := ⟨by decide +kernel, by decide +kernel, by decide +kernel⟩
theorem qmb_X10_clear (E : qe_E) (L : Nat) : qx_mb (qZ E L) 54 := ⟨show plainName yX10_clear.cls = true by decide +kernel, Nat.le_of_ble_eq_true rfl, rfl, Or.inl ⟨qw_G, rfl, fun c h => List.eq_nil_iff_forall_not_mem.mpr h⟩⟩
theorem qh_X10_add : qw_d yX10_add 1 := ⟨by decide +kernel, by decide +kernel, by decide +kernel⟩
theorem qmb_X10_add (E : qe_E) (L : Nat) : qx_mb (qZ E L) 58 := ⟨show plainName yX10_add.cls = true by decide +kernel, Nat.le_of_ble_eq_true rfl, rfl, Or.inl ⟨qw_G, rfl, fun c h => List.eq_nil_iff_forall_not_mem.mpr h⟩⟩
theorem qh_X10_remove : qw_d yX10_remove 1 := ⟨by decide +kernel, by decide +kernel, by decide +kernel⟩
theorem qmb_X10_remove (E : qe_E) (L : Nat) : qx_mb (qZ E L) 59 := ⟨show plainName yX10_remove.cls = true by decide +kernel, Nat.le_of_ble_eq_true rfl, rfl, Or.inl ⟨qw_G, rfl, fun c h => List.eq_nil_iff_forall_not_mem.mpr h⟩⟩
theorem qh_X10_setBranch : qw_d yX10_setBranch 2 := ⟨by decide +kernel, by decide +kernel, by decide +kernel⟩
theorem qmb_X10_setBranch (E : qe_E) (L : Nat) : qx_mb (qZ E L) 60 := ⟨show plainName yX10_setBranch.cls = true by decide +kernel, Nat.le_of_ble_eq_true rfl, rfl, Or.inl ⟨qw_G, rfl, fun c h => List.eq_nil_iff_forall_not_mem.mpr h⟩⟩
theorem qh_X10_setWeight : qw_d yX10_setWeight 2 := ⟨by decide +kernel, by decide +kernel, by decide +kernel⟩
theorem qmb_X10_setWeight (E : qe_E) (L : Nat) : qx_mb (qZ E L) 61 := ⟨show plainName yX10_setWeight.cls = true by decide +kernel, Nat.le_of_ble_eq_true rfl, rfl, Or.inl ⟨qw_G, rfl, fun c h => List.eq_nil_iff_forall_not_mem.mpr h⟩⟩
theorem qh_X10_setLoad : qw_d yX10_setLoad 1 := ⟨by decide +kernel, by decide +kernel, by decide +kernel⟩
theorem qmb_X10_setLoad (E : qe_E) (L : Nat) : qx_mb (qZ E L) 62 := ⟨show plainName yX10_setLoad.cls = true by decide +kernel, Nat.le_of_ble_eq_true rfl, rfl, Or.inl ⟨qw_G, rfl, fun c h => List.eq_nil_iff_forall_not_mem.mpr h⟩⟩
theorem qh_X10_here : qw_d yX10_here 0 := ⟨by decide +kernel, by decide +kernel, by decide +kernel⟩
theorem qmb_X10_here (E : qe_E) (L : Nat) : qx_mb (qZ E L) 63 := ⟨show plainName yX10_here.cls = true by decide +kernel, Nat.le_of_ble_eq_true rfl, rfl, Or.inl ⟨qw_G, rfl, fun c h => List.eq_nil_iff_forall_not_mem.mpr h⟩⟩
theorem qh_X10_isWord : qw_d yX10_isWord 2 := ⟨by decide +kernel, by decide +kernel, by decide +kernel⟩
theorem qmb_X10_isWord (E : qe_E) (L : Nat) : qx_mb (qZ E L) 65 := ⟨show plainName yX10_isWord.cls = true by decide +kernel, Nat.le_of_ble_eq_true rfl, rfl, Or.inl ⟨qw_G, rfl, fun c h => List.eq_nil_iff_forall_not_mem.mpr h⟩⟩
theorem qh_X10_word : qw_d yX10_word 0 := ⟨by decide +kernel, by decide +kernel, by decide +kernel⟩
theorem qmb_X10_word (E : qe_E) (L : Nat) : qx_mb (qZ E L) 66 := ⟨show plainName yX10_word.cls = true by decide +kernel, Nat.le_of_ble_eq_true rfl, rfl, Or.inl ⟨qw_G, rfl, fun c h => List.eq_nil_iff_forall_not_mem.mpr h⟩⟩
theorem qh_X10_readCommand : qw_d yX10_readCommand 0 := ⟨by decide +kernel, by decide +kernel, by decide +kernel⟩
theorem qmb_X10_readCommand (E : qe_E) (L : Nat) : qx_mb (qZ E L) 70 := ⟨show plainName yX10_readCommand.cls = true by decide +kernel, Nat.le_of_ble_eq_true rfl, rfl, Or.inl ⟨qw_G, rfl, fun c h => List.eq_nil_iff_forall_not_mem.mpr h⟩⟩
theorem qh_X10_execute : qw_d yX10_execute 0 := ⟨by decide +kernel, by decide +kernel, by decide +kernel⟩
theorem qmb_X10_execute (E : qe_E) (L : Nat) : qx_mb (qZ E L) 72 := ⟨show plainName yX10_execute.cls = true by decide +kernel, Nat.le_of_ble_eq_true rfl, rfl, Or.inl ⟨qw_G, rfl, fun c h => List.eq_nil_iff_forall_not_mem.mpr h⟩⟩
theorem qh_X10_errorPosition : qw_d yX10_errorPosition 0 := ⟨by decide +kernel, by decide +kernel, by decide +kernel⟩
theorem qmb_X10_errorPosition (E : qe_E) (L : Nat) : qx_mb (qZ E L) 73 := ⟨show plainName yX10_errorPosition.cls = true by decide +kernel, Nat.le_of_ble_eq_true rfl, rfl, Or.inl ⟨qw_G, rfl, fun c h => List.eq_nil_iff_forall_not_mem.mpr h⟩⟩
theorem qh_X10_property : qw_d yX10_property 2 := ⟨by decide +kernel, by decide +kernel, by decide +kernel⟩
theorem qmb_X10_property (E : qe_E) (L : Nat) : qx_mb (qZ E L) 78 := ⟨show plainName yX10_property.cls = true by decide +kernel, Nat.le_of_ble_eq_true rfl, rfl, Or.inl ⟨qw_G, rfl, fun c h => List.eq_nil_iff_forall_not_mem.mpr h⟩⟩
theorem qh_X10_character : qw_d yX10_character 2 := ⟨by decide +kernel, by decide +kernel, by decide +kernel⟩
theorem qmb_X10_character (E : qe_E) (L : Nat) : qx_mb (qZ E L) 79 := ⟨show plainName yX10_character.cls = true by decide +kernel, Nat.le_of_ble_eq_true rfl, rfl, Or.inl ⟨qw_G, rfl, fun c h => List.eq_nil_iff_forall_not_mem.mpr h⟩⟩
theorem qh_X10_difference : qw_d yX10_difference 2 := ⟨by decide +kernel, by decide +kernel, by decide +kernel⟩
theorem qmb_X10_difference (E : qe_E) (L : Nat) : qx_mb (qZ E L) 80 := ⟨show plainName yX10_difference.cls = true by decide +kernel, Nat.le_of_ble_eq_true rfl, rfl, Or.inl ⟨qw_G, rfl, fun c h => List.eq_nil_iff_forall_not_mem.mpr h⟩⟩
theorem qh_X10_size : qw_d yX10_size 1 := ⟨by decide +kernel, by decide +kernel, by decide +kernel⟩
theorem qmb_X10_size (E : qe_E) (L : Nat) : qx_mb (qZ E L) 81 := ⟨show plainName yX10_size.cls = true by decide +kernel, Nat.le_of_ble_eq_true rfl, rfl, Or.inl ⟨qw_G, rfl, fun c h => List.eq_nil_iff_forall_not_mem.mpr h⟩⟩
theorem qh_X10_takeBuffer : qw_d yX10_takeBuffer 0 := ⟨by decide +kernel, by decide +kernel, by decide +kernel⟩
theorem qmb_X10_takeBuffer (E : qe_E) (L : Nat) : qx_mb (qZ E L) 82 := ⟨show plainName yX10_takeBuffer.cls = true by decide +kernel, Nat.le_of_ble_eq_true rfl, rfl, Or.inl ⟨qw_G, rfl, fun c h => List.eq_nil_iff_forall_not_mem.mpr h⟩⟩
theorem qh_X10_linear : qw_d yX10_linear 0 := ⟨by decide +kernel, by decide +kernel, by decide +kernel⟩
theorem qmb_X10_linear (E : qe_E) (L : Nat) : qx_mb (qZ E L) 85 := ⟨show plainName yX10_linear.cls = true by decide +kernel, Nat.le_of_ble_eq_true rfl, rfl, Or.inl ⟨qw_G, rfl, fun c h => List.eq_nil_iff_forall_not_mem.mpr h⟩⟩
theorem qh_X10_search : qw_d yX10_search 0 := ⟨by decide +kernel, by decide +kernel, by decide +kernel⟩
theorem qmb_X10_search (E : qe_E) (L : Nat) : qx_mb (qZ E L) 88 := ⟨show plainName yX10_search.cls = true by decide +kernel, Nat.le_of_ble_eq_true rfl, rfl, Or.inl ⟨qw_G, rfl, fun c h => List.eq_nil_iff_forall_not_mem.mpr h⟩⟩
theorem qh_X10_marked : qw_d yX10_marked 1 := ⟨by decide +kernel, by decide +kernel, by decide +kernel⟩
theorem qmb_X10_marked (E : qe_E) (L : Nat) : qx_mb (qZ E L) 89 := ⟨show plainName yX10_marked.cls = true by decide +kernel, Nat.le_of_ble_eq_true rfl, rfl, Or.inl ⟨qw_G, rfl, fun c h => List.eq_nil_iff_forall_not_mem.mpr h⟩⟩
theorem qh_X10_ofLength : qw_d yX10_ofLength 1 := ⟨by decide +kernel, by decide +kernel, by decide +kernel⟩
theorem qmb_X10_ofLength (E : qe_E) (L : Nat) : qx_mb (qZ E L) 92 := ⟨show plainName yX10_ofLength.cls = true by decide +kernel, Nat.le_of_ble_eq_true rfl, rfl, Or.inl ⟨qw_G, rfl, fun c h => List.eq_nil_iff_forall_not_mem.mpr h⟩⟩
theorem qh_X10_climb : qw_d yX10_climb 0 := ⟨by decide +kernel, by decide +kernel, by decide +kernel⟩
theorem qmb_X10_climb (E : qe_E) (L : Nat) : qx_mb (qZ E L) 94 := ⟨show plainName yX10_climb.cls = true by decide +kernel, Nat.le_of_ble_eq_true rfl, rfl, Or.inl ⟨qw_G, rfl, fun c h => List.eq_nil_iff_forall_not_mem.mpr h⟩⟩
theorem qh_X10_trees : qw_d yX10_trees 1 := ⟨by decide +kernel, by decide +kernel, by decide +kernel⟩
theorem qmb_X10_trees (E : qe_E) (L : Nat) : qx_mb (qZ E L) 96 := ⟨show plainName yX10_trees.cls = true by decide +kernel, Nat.le_of_ble_eq_true rfl, rfl, Or.inl ⟨qw_G, rfl, fun c h => List.eq_nil_iff_forall_not_mem.mpr h⟩⟩
theorem qh_X10_separates : qw_d yX10_separates 1 := ⟨by decide +kernel, by decide +kernel, by decide +kernel⟩
theorem qmb_X10_separates (E : qe_E) (L : Nat) : qx_mb (qZ E L) 97 := ⟨show plainName yX10_separates.cls = true by decide +kernel, Nat.le_of_ble_eq_true rfl, rfl, Or.inl ⟨qw_G, rfl, fun c h => List.eq_nil_iff_forall_not_mem.mpr h⟩⟩
theorem qh_X10_sizeOf : qw_d yX10_sizeOf 1 := ⟨by decide +kernel, by decide +kernel, by decide +kernel⟩
theorem qmb_X10_sizeOf (E : qe_E) (L : Nat) : qx_mb (qZ E L) 98 := ⟨show plainName yX10_sizeOf.cls = true by decide +kernel, Nat.le_of_ble_eq_true rfl, rfl, Or.inl ⟨qw_G, rfl, fun c h => List.eq_nil_iff_forall_not_mem.mpr h⟩⟩
theorem qh_X10_select : qw_d yX10_select 0 := ⟨by decide +kernel, by decide +kernel, by decide +kernel⟩
theorem qmb_X10_select (E : qe_E) (L : Nat) : qx_mb (qZ E L) 100 := ⟨show plainName yX10_select.cls = true by decide +kernel, Nat.le_of_ble_eq_true rfl, rfl, Or.inl ⟨qw_G, rfl, fun c h => List.eq_nil_iff_forall_not_mem.mpr h⟩⟩
theorem qh_X10_hashOfText : qw_d yX10_hashOfText 1 := ⟨by decide +kernel, by decide +kernel, by decide +kernel⟩
theorem qmb_X10_hashOfText (E : qe_E) (L : Nat) : qx_mb (qZ E L) 101 := ⟨show plainName yX10_hashOfText.cls = true by decide +kernel, Nat.le_of_ble_eq_true rfl, rfl, Or.inl ⟨qw_G, rfl, fun c h => List.eq_nil_iff_forall_not_mem.mpr h⟩⟩
theorem qh_X10_prepare : qw_d yX10_prepare 0 := ⟨by decide +kernel, by decide +kernel, by decide +kernel⟩
theorem qmb_X10_prepare (E : qe_E) (L : Nat) : qx_mb (qZ E L) 106 := ⟨show plainName yX10_prepare.cls = true by decide +kernel, Nat.le_of_ble_eq_true rfl, rfl, Or.inl ⟨qw_G, rfl, fun c h => List.eq_nil_iff_forall_not_mem.mpr h⟩⟩
theorem qh_X10_hashed : qw_d yX10_hashed 0 := ⟨by decide +kernel, by decide +kernel, by decide +kernel⟩
theorem qmb_X10_hashed (E : qe_E) (L : Nat) : qx_mb (qZ E L) 107 := ⟨show plainName yX10_hashed.cls = true by decide +kernel, Nat.le_of_ble_eq_true rfl, rfl, Or.inl ⟨qw_G, rfl, fun c h => List.eq_nil_iff_forall_not_mem.mpr h⟩⟩
theorem qh_X10_canRun : qw_d yX10_canRun 1 := ⟨by decide +kernel, by decide +kernel, by decide +kernel⟩
theorem qmb_X10_canRun (E : qe_E) (L : Nat) : qx_mb (qZ E L) 108 := ⟨show plainName yX10_canRun.cls = true by decide +kernel, Nat.le_of_ble_eq_true rfl, rfl, Or.inl ⟨qw_G, rfl, fun c h => List.eq_nil_iff_forall_not_mem.mpr h⟩⟩
theorem qh_X10_refusal : qw_d yX10_refusal 1 := ⟨by decide +kernel, by decide +kernel, by decide +kernel⟩
theorem qmb_X10_refusal (E : qe_E) (L : Nat) : qx_mb (qZ E L) 109 := ⟨show plainName yX10_refusal.cls = true by decide +kernel, Nat.le_of_ble_eq_true rfl, rfl, Or.inl ⟨qw_G, rfl, fun c h => List.eq_nil_iff_forall_not_mem.mpr h⟩⟩
theorem qh_X10_run : qw_d yX10_run 1 := ⟨by decide +kernel, by decide +kernel, by decide +kernel⟩
theorem qmb_X10_run (E : qe_E) (L : Nat) : qx_mb (qZ E L) 110 := ⟨show plainName yX10_run.cls = true by decide +kernel, Nat.le_of_ble_eq_true rfl, rfl, Or.inl ⟨qw_G, rfl, fun c h => List.eq_nil_iff_forall_not_mem.mpr h⟩⟩
theorem qh_X10_find : qw_d yX10_find 1 := ⟨by decide +kernel, by decide +kernel, by decide +kernel⟩
theorem qmb_X10_find (E : qe_E) (L : Nat) : qx_mb (qZ E L) 111 := ⟨show plainName yX10_find.cls = true by decide +kernel, Nat.le_of_ble_eq_true rfl, rfl, Or.inl ⟨qw_G, rfl, fun c h => List.eq_nil_iff_forall_not_mem.mpr h⟩⟩
theorem qh_X10_branch : qw_d yX10_branch 1 := ⟨by decide +kernel, by decide +kernel, by decide +kernel⟩
theorem qmb_X10_branch (E : qe_E) (L : Nat) : qx_mb (qZ E L) 112 := ⟨show plainName yX10_branch.cls = true by decide +kernel, Nat.le_of_ble_eq_true rfl, rfl, Or.inl ⟨qw_G, rfl, fun c h => List.eq_nil_iff_forall_not_mem.mpr h⟩⟩
theorem qh_X10_examined : qw_d yX10_examined 1 := ⟨by decide +kernel, by decide +kernel, by decide +kernel⟩
theorem qmb_X10_examined (E : qe_E) (L : Nat) : qx_mb (qZ E L) 113 := ⟨show plainName yX10_examined.cls = true by decide +kernel, Nat.le_of_ble_eq_true rfl, rfl, Or.inl ⟨qw_G, rfl, fun c h => List.eq_nil_iff_forall_not_mem.mpr h⟩⟩
theorem qh_X10_costOf : qw_d yX10_costOf 1 := ⟨by decide +kernel, by decide +kernel, by decide +kernel⟩
theorem qmb_X10_costOf (E : qe_E) (L : Nat) : qx_mb (qZ E L) 114 := ⟨show plainName yX10_costOf.cls = true by decide +kernel, Nat.le_of_ble_eq_true rfl, rfl, Or.inl ⟨qw_G, rfl, fun c h => List.eq_nil_iff_forall_not_mem.mpr h⟩⟩
theorem qh_X10_cost : qw_d yX10_cost 1 := ⟨by decide +kernel, by decide +kernel, by decide +kernel⟩
theorem qmb_X10_cost (E : qe_E) (L : Nat) : qx_mb (qZ E L) 115 := ⟨show plainName yX10_cost.cls = true by decide +kernel, Nat.le_of_ble_eq_true rfl, rfl, Or.inl ⟨qw_G, rfl, fun c h => List.eq_nil_iff_forall_not_mem.mpr h⟩⟩
theorem qh_X10_worst : qw_d yX10_worst 1 := ⟨by decide +kernel, by decide +kernel, by decide +kernel⟩
theorem qmb_X10_worst (E : qe_E) (L : Nat) : qx_mb (qZ E L) 116 := ⟨show plainName yX10_worst.cls = true by decide +kernel, Nat.le_of_ble_eq_true rfl, rfl, Or.inl ⟨qw_G, rfl, fun c h => List.eq_nil_iff_forall_not_mem.mpr h⟩⟩
theorem qh_X10_meanBits : qw_d yX10_meanBits 1 := ⟨by decide +kernel, by decide +kernel, by decide +kernel⟩
theorem qmb_X10_meanBits (E : qe_E) (L : Nat) : qx_mb (qZ E L) 117 := ⟨show plainName yX10_meanBits.cls = true by decide +kernel, Nat.le_of_ble_eq_true rfl, rfl, Or.inl ⟨qw_G, rfl, fun c h => List.eq_nil_iff_forall_not_mem.mpr h⟩⟩
theorem qh_X10_best : qw_d yX10_best 0 := ⟨by decide +kernel, by decide +kernel, by decide +kernel⟩
theorem qmb_X10_best (E : qe_E) (L : Nat) : qx_mb (qZ E L) 118 := ⟨show plainName yX10_best.cls = true by decide +kernel, Nat.le_of_ble_eq_true rfl, rfl, Or.inl ⟨qw_G, rfl, fun c h => List.eq_nil_iff_forall_not_mem.mpr h⟩⟩
theorem qh_X10_selected : qw_d yX10_selected 0 := ⟨by decide +kernel, by decide +kernel, by decide +kernel⟩
theorem qmb_X10_selected (E : qe_E) (L : Nat) : qx_mb (qZ E L) 119 := ⟨show plainName yX10_selected.cls = true by decide +kernel, Nat.le_of_ble_eq_true rfl, rfl, Or.inl ⟨qw_G, rfl, fun c h => List.eq_nil_iff_forall_not_mem.mpr h⟩⟩
theorem qh_X10_hash : qw_d yX10_hash 1 := ⟨by decide +kernel, by decide +kernel, by decide +kernel⟩
theorem qmb_X10_hash (E : qe_E) (L : Nat) : qx_mb (qZ E L) 120 := ⟨show plainName yX10_hash.cls = true by decide +kernel, Nat.le_of_ble_eq_true rfl, rfl, Or.inl ⟨qw_G, rfl, fun c h => List.eq_nil_iff_forall_not_mem.mpr h⟩⟩
theorem qh_X10_hasTable : qw_d yX10_hasTable 0 := ⟨by decide +kernel, by decide +kernel, by decide +kernel⟩
theorem qmb_X10_hasTable (E : qe_E) (L : Nat) : qx_mb (qZ E L) 121 := ⟨show plainName yX10_hasTable.cls = true by decide +kernel, Nat.le_of_ble_eq_true rfl, rfl, Or.inl ⟨qw_G, rfl, fun c h => List.eq_nil_iff_forall_not_mem.mpr h⟩⟩
theorem qh_X10_table : qw_d yX10_table 1 := ⟨by decide +kernel, by decide +kernel, by decide +kernel⟩
theorem qmb_X10_table (E : qe_E) (L : Nat) : qx_mb (qZ E L) 123 := ⟨show plainName yX10_table.cls = true by decide +kernel, Nat.le_of_ble_eq_true rfl, rfl, Or.inl ⟨qw_G, rfl, fun c h => List.eq_nil_iff_forall_not_mem.mpr h⟩⟩
theorem qh_X10_slot : qw_d yX10_slot 1 := ⟨by decide +kernel, by decide +kernel, by decide +kernel⟩
theorem qmb_X10_slot (E : qe_E) (L : Nat) : qx_mb (qZ E L) 124 := ⟨show plainName yX10_slot.cls = true by decide +kernel, Nat.le_of_ble_eq_true rfl, rfl, Or.inl ⟨qw_G, rfl, fun c h => List.eq_nil_iff_forall_not_mem.mpr h⟩⟩
theorem qh_X10_displacement : qw_d yX10_displacement 1 := ⟨by decide +kernel, by decide +kernel, by decide +kernel⟩
theorem qmb_X10_displacement (E : qe_E) (L : Nat) : qx_mb (qZ E L) 125 := ⟨show plainName yX10_displacement.cls = true by decide +kernel, Nat.le_of_ble_eq_true rfl, rfl, Or.inl ⟨qw_G, rfl, fun c h => List.eq_nil_iff_forall_not_mem.mpr h⟩⟩
theorem qh_X10_densityBits : qw_d yX10_densityBits 0 := ⟨by decide +kernel, by decide +kernel, by decide +kernel⟩
theorem qmb_X10_densityBits (E : qe_E) (L : Nat) : qx_mb (qZ E L) 126 := ⟨show plainName yX10_densityBits.cls = true by decide +kernel, Nat.le_of_ble_eq_true rfl, rfl, Or.inl ⟨qw_G, rfl, fun c h => List.eq_nil_iff_forall_not_mem.mpr h⟩⟩
theorem qh_X10_putTrees : qw_d yX10_putTrees 0 := ⟨by decide +kernel, by decide +kernel, by decide +kernel⟩
theorem qmb_X10_putTrees (E : qe_E) (L : Nat) : qx_mb (qZ E L) 132 := ⟨show plainName yX10_putTrees.cls = true by decide +kernel, Nat.le_of_ble_eq_true rfl, rfl, Or.inl ⟨qw_G, rfl, fun c h => List.eq_nil_iff_forall_not_mem.mpr h⟩⟩
theorem qh_X10_list : qw_d yX10_list 1 := ⟨by decide +kernel, by decide +kernel, by decide +kernel⟩
theorem qmb_X10_list (E : qe_E) (L : Nat) : qx_mb (qZ E L) 134 := ⟨show plainName yX10_list.cls = true by decide +kernel, Nat.le_of_ble_eq_true rfl, rfl, Or.inl ⟨qw_G, rfl, fun c h => List.eq_nil_iff_forall_not_mem.mpr h⟩⟩
theorem qh_X10_listing : qw_d yX10_listing 2 := ⟨by decide +kernel, by decide +kernel, by decide +kernel⟩
theorem qmb_X10_listing (E : qe_E) (L : Nat) : qx_mb (qZ E L) 135 := ⟨show plainName yX10_listing.cls = true by decide +kernel, Nat.le_of_ble_eq_true rfl, rfl, Or.inl ⟨qw_G, rfl, fun c h => List.eq_nil_iff_forall_not_mem.mpr h⟩⟩
theorem qh_X10_save : qw_d yX10_save 0 := ⟨by decide +kernel, by decide +kernel, by decide +kernel⟩
theorem qmb_X10_save (E : qe_E) (L : Nat) : qx_mb (qZ E L) 136 := ⟨show plainName yX10_save.cls = true by decide +kernel, Nat.le_of_ble_eq_true rfl, rfl, Or.inl ⟨qw_G, rfl, fun c h => List.eq_nil_iff_forall_not_mem.mpr h⟩⟩
theorem qh_X10_restore : qw_d yX10_restore 0 := ⟨by decide +kernel, by decide +kernel, by decide +kernel⟩
theorem qmb_X10_restore (E : qe_E) (L : Nat) : qx_mb (qZ E L) 137 := ⟨show plainName yX10_restore.cls = true by decide +kernel, Nat.le_of_ble_eq_true rfl, rfl, Or.inl ⟨qw_G, rfl, fun c h => List.eq_nil_iff_forall_not_mem.mpr h⟩⟩
theorem qh_X0_init : qw_d yX0_init 0 := ⟨by decide +kernel, by decide +kernel, by decide +kernel⟩
theorem qmb_X0_init (E : qe_E) (L : Nat) : qx_mb (qZ E L) 138 := ⟨show plainName yX0_init.cls = true by decide +kernel, Nat.le_of_ble_eq_true rfl, rfl, Or.inl ⟨qw_G, rfl, fun c h => List.eq_nil_iff_forall_not_mem.mpr h⟩⟩
theorem qh_X0_read : qw_d yX0_read 1 := ⟨by decide +kernel, by decide +kernel, by decide +kernel⟩
theorem qmb_X0_read (E : qe_E) (L : Nat) : qx_mb (qZ E L) 139 := ⟨show plainName yX0_read.cls = true by decide +kernel, Nat.le_of_ble_eq_true rfl, rfl, Or.inl ⟨qw_G, rfl, fun c h => List.eq_nil_iff_forall_not_mem.mpr h⟩⟩
theorem qh_X0_readCommand : qw_d yX0_readCommand 1 := ⟨by decide +kernel, by decide +kernel, by decide +kernel⟩
theorem qmb_X0_readCommand (E : qe_E) (L : Nat) : qx_mb (qZ E L) 140 := ⟨show plainName yX0_readCommand.cls = true by decide +kernel, Nat.le_of_ble_eq_true rfl, rfl, Or.inl ⟨qw_G, rfl, fun c h => List.eq_nil_iff_forall_not_mem.mpr h⟩⟩
theorem qh_X0_readWord : qw_d yX0_readWord 1 := ⟨by decide +kernel, by decide +kernel, by decide +kernel⟩
theorem qmb_X0_readWord (E : qe_E) (L : Nat) : qx_mb (qZ E L) 142 := ⟨show plainName yX0_readWord.cls = true by decide +kernel, Nat.le_of_ble_eq_true rfl, rfl, Or.inl ⟨qw_G, rfl, fun c h => List.eq_nil_iff_forall_not_mem.mpr h⟩⟩
theorem qh_X0_isWord : qw_d yX0_isWord 3 := ⟨by decide +kernel, by decide +kernel, by decide +kernel⟩
theorem qmb_X0_isWord (E : qe_E) (L : Nat) : qx_mb (qZ E L) 143 := ⟨show plainName yX0_isWord.cls = true by decide +kernel, Nat.le_of_ble_eq_true rfl, rfl, Or.inl ⟨qw_G, rfl, fun c h => List.eq_nil_iff_forall_not_mem.mpr h⟩⟩
theorem qh_X1_init : qw_d yX1_init 1 := ⟨by decide +kernel, by decide +kernel, by decide +kernel⟩
theorem qmb_X1_init (E : qe_E) (L : Nat) : qx_mb (qZ E L) 152 := ⟨show plainName yX1_init.cls = true by decide +kernel, Nat.le_of_ble_eq_true rfl, rfl, Or.inl ⟨qw_G, rfl, fun c h => List.eq_nil_iff_forall_not_mem.mpr h⟩⟩
theorem qh_X1_grow : qw_d yX1_grow 0 := ⟨by decide +kernel, by decide +kernel, by decide +kernel⟩
theorem qmb_X1_grow (E : qe_E) (L : Nat) : qx_mb (qZ E L) 153 := ⟨show plainName yX1_grow.cls = true by decide +kernel, Nat.le_of_ble_eq_true rfl, rfl, Or.inl ⟨qw_G, rfl, fun c h => List.eq_nil_iff_forall_not_mem.mpr h⟩⟩
theorem qh_X1_rootWith : qw_d yX1_rootWith 1 := ⟨by decide +kernel, by decide +kernel, by decide +kernel⟩
theorem qmb_X1_rootWith (E : qe_E) (L : Nat) : qx_mb (qZ E L) 157 := ⟨show plainName yX1_rootWith.cls = true by decide +kernel, Nat.le_of_ble_eq_true rfl, rfl, Or.inl ⟨qw_G, rfl, fun c h => List.eq_nil_iff_forall_not_mem.mpr h⟩⟩
theorem qh_X1_treeWith : qw_d yX1_treeWith 3 := ⟨by decide +kernel, by decide +kernel, by decide +kernel⟩
theorem qmb_X1_treeWith (E : qe_E) (L : Nat) : qx_mb (qZ E L) 158 := ⟨show plainName yX1_treeWith.cls = true by decide +kernel, Nat.le_of_ble_eq_true rfl, rfl, Or.inl ⟨qw_G, rfl, fun c h => List.eq_nil_iff_forall_not_mem.mpr h⟩⟩
theorem qh_X1_plantRoots : qw_d yX1_plantRoots 0 := ⟨by decide +kernel, by decide +kernel, by decide +kernel⟩
theorem qmb_X1_plantRoots (E : qe_E) (L : Nat) : qx_mb (qZ E L) 160 := ⟨show plainName yX1_plantRoots.cls = true by decide +kernel, Nat.le_of_ble_eq_true rfl, rfl, Or.inl ⟨qw_G, rfl, fun c h => List.eq_nil_iff_forall_not_mem.mpr h⟩⟩
theorem qh_X2_init : qw_d yX2_init 0 := ⟨by decide +kernel, by decide +kernel, by decide +kernel⟩
theorem qmb_X2_init (E : qe_E) (L : Nat) : qx_mb (qZ E L) 165 := ⟨show plainName yX2_init.cls = true by decide +kernel, Nat.le_of_ble_eq_true rfl, rfl, Or.inl ⟨qw_G, rfl, fun c h => List.eq_nil_iff_forall_not_mem.mpr h⟩⟩
theorem qh_X2_has : qw_d yX2_has 1 := ⟨by decide +kernel, by decide +kernel, by decide +kernel⟩
theorem qmb_X2_has (E : qe_E) (L : Nat) : qx_mb (qZ E L) 166 := ⟨show plainName yX2_has.cls = true by decide +kernel, Nat.le_of_ble_eq_true rfl, rfl, Or.inl ⟨qw_G, rfl, fun c h => List.eq_nil_iff_forall_not_mem.mpr h⟩⟩
theorem qh_X2_changeLoad : qw_d yX2_changeLoad 1 := ⟨by decide +kernel, by decide +kernel, by decide +kernel⟩
theorem qmb_X2_changeLoad (E : qe_E) (L : Nat) : qx_mb (qZ E L) 173 := ⟨show plainName yX2_changeLoad.cls = true by decide +kernel, Nat.le_of_ble_eq_true rfl, rfl, Or.inl ⟨qw_G, rfl, fun c h => List.eq_nil_iff_forall_not_mem.mpr h⟩⟩
theorem qh_X2_takeOver : qw_d yX2_takeOver 1 := ⟨by decide +kernel, by decide +kernel, by decide +kernel⟩
theorem qmb_X2_takeOver (E : qe_E) (L : Nat) : qx_mb (qZ E L) 174 := ⟨show plainName yX2_takeOver.cls = true by decide +kernel, Nat.le_of_ble_eq_true rfl, rfl, Or.inl ⟨qw_G, rfl, fun c h => List.eq_nil_iff_forall_not_mem.mpr h⟩⟩
theorem qh_X2_totalWeight : qw_d yX2_totalWeight 0 := ⟨by decide +kernel, by decide +kernel, by decide +kernel⟩
theorem qmb_X2_totalWeight (E : qe_E) (L : Nat) : qx_mb (qZ E L) 180 := ⟨show plainName yX2_totalWeight.cls = true by decide +kernel, Nat.le_of_ble_eq_true rfl, rfl, Or.inl ⟨qw_G, rfl, fun c h => List.eq_nil_iff_forall_not_mem.mpr h⟩⟩
theorem qh_X3_init : qw_d yX3_init 4 := ⟨by decide +kernel, by decide +kernel, by decide +kernel⟩
theorem qmb_X3_init (E : qe_E) (L : Nat) : qx_mb (qZ E L) 182 := ⟨show plainName yX3_init.cls = true by decide +kernel, Nat.le_of_ble_eq_true rfl, rfl, Or.inl ⟨qw_G, rfl, fun c h => List.eq_nil_iff_forall_not_mem.mpr h⟩⟩
theorem qh_X3_list : qw_d yX3_list 1 := ⟨by decide +kernel, by decide +kernel, by decide +kernel⟩
theorem qmb_X3_list (E : qe_E) (L : Nat) : qx_mb (qZ E L) 183 := ⟨show plainName yX3_list.cls = true by decide +kernel, Nat.le_of_ble_eq_true rfl, rfl, Or.inl ⟨qw_G, rfl, fun c h => List.eq_nil_iff_forall_not_mem.mpr h⟩⟩
theorem qh_X3_listKeys : qw_d yX3_listKeys 1 := ⟨by decide +kernel, by decide +kernel, by decide +kernel⟩
theorem qmb_X3_listKeys (E : qe_E) (L : Nat) : qx_mb (qZ E L) 186 := ⟨show plainName yX3_listKeys.cls = true by decide +kernel, Nat.le_of_ble_eq_true rfl, rfl, Or.inl ⟨qw_G, rfl, fun c h => List.eq_nil_iff_forall_not_mem.mpr h⟩⟩
theorem qh_X3_listForest : qw_d yX3_listForest 0 := ⟨by decide +kernel, by decide +kernel, by decide +kernel⟩
theorem qmb_X3_listForest (E : qe_E) (L : Nat) : qx_mb (qZ E L) 187 := ⟨show plainName yX3_listForest.cls = true by decide +kernel, Nat.le_of_ble_eq_true rfl, rfl, Or.inl ⟨qw_G, rfl, fun c h => List.eq_nil_iff_forall_not_mem.mpr h⟩⟩
theorem qh_X4_init : qw_d yX4_init 1 := ⟨by decide +kernel, by decide +kernel, by decide +kernel⟩
theorem qmb_X4_init (E : qe_E) (L : Nat) : qx_mb (qZ E L) 190 := ⟨show plainName yX4_init.cls = true by decide +kernel, Nat.le_of_ble_eq_true rfl, rfl, Or.inl ⟨qw_G, rfl, fun c h => List.eq_nil_iff_forall_not_mem.mpr h⟩⟩
theorem qh_X4_sort : qw_d yX4_sort 0 := ⟨by decide +kernel, by decide +kernel, by decide +kernel⟩
theorem qmb_X4_sort (E : qe_E) (L : Nat) : qx_mb (qZ E L) 191 := ⟨show plainName yX4_sort.cls = true by decide +kernel, Nat.le_of_ble_eq_true rfl, rfl, Or.inl ⟨qw_G, rfl, fun c h => List.eq_nil_iff_forall_not_mem.mpr h⟩⟩
theorem qh_X5_init : qw_d yX5_init 4 := ⟨by decide +kernel, by decide +kernel, by decide +kernel⟩
theorem qmb_X5_init (E : qe_E) (L : Nat) : qx_mb (qZ E L) 192 := ⟨show plainName yX5_init.cls = true by decide +kernel, Nat.le_of_ble_eq_true rfl, rfl, Or.inl ⟨qw_G, rfl, fun c h => List.eq_nil_iff_forall_not_mem.mpr h⟩⟩
theorem qh_X5_run : qw_d yX5_run 2 := ⟨by decide +kernel, by decide +kernel, by decide +kernel⟩
theorem qmb_X5_run (E : qe_E) (L : Nat) : qx_mb (qZ E L) 193 := ⟨show plainName yX5_run.cls = true by decide +kernel, Nat.le_of_ble_eq_true rfl, rfl, Or.inl ⟨qw_G, rfl, fun c h => List.eq_nil_iff_forall_not_mem.mpr h⟩⟩
theorem qh_X5_measure : qw_d yX5_measure 1 := ⟨by decide +kernel, by decide +kernel, by decide +kernel⟩
theorem qmb_X5_measure (E : qe_E) (L : Nat) : qx_mb (qZ E L) 194 := ⟨show plainName yX5_measure.cls = true by decide +kernel, Nat.le_of_ble_eq_true rfl, rfl, Or.inl ⟨qw_G, rfl, fun c h => List.eq_nil_iff_forall_not_mem.mpr h⟩⟩
theorem qh_X5_runLinear : qw_d yX5_runLinear 1 := ⟨by decide +kernel, by decide +kernel, by decide +kernel⟩
theorem qmb_X5_runLinear (E : qe_E) (L : Nat) : qx_mb (qZ E L) 197 := ⟨show plainName yX5_runLinear.cls = true by decide +kernel, Nat.le_of_ble_eq_true rfl, rfl, Or.inl ⟨qw_G, rfl, fun c h => List.eq_nil_iff_forall_not_mem.mpr h⟩⟩
theorem qh_X5_runBinary : qw_d yX5_runBinary 1 := ⟨by decide +kernel, by decide +kernel, by decide +kernel⟩
theorem qmb_X5_runBinary (E : qe_E) (L : Nat) : qx_mb (qZ E L) 198 := ⟨show plainName yX5_runBinary.cls = true by decide +kernel, Nat.le_of_ble_eq_true rfl, rfl, Or.inl ⟨qw_G, rfl, fun c h => List.eq_nil_iff_forall_not_mem.mpr h⟩⟩
theorem qh_X5_runTrees : qw_d yX5_runTrees 1 := ⟨by decide +kernel, by decide +kernel, by decide +kernel⟩
theorem qmb_X5_runTrees (E : qe_E) (L : Nat) : qx_mb (qZ E L) 199 := ⟨show plainName yX5_runTrees.cls = true by decide +kernel, Nat.le_of_ble_eq_true rfl, rfl, Or.inl ⟨qw_G, rfl, fun c h => List.eq_nil_iff_forall_not_mem.mpr h⟩⟩
theorem qh_X5_runTable : qw_d yX5_runTable 1 := ⟨by decide +kernel, by decide +kernel, by decide +kernel⟩
theorem qmb_X5_runTable (E : qe_E) (L : Nat) : qx_mb (qZ E L) 201 := ⟨show plainName yX5_runTable.cls = true by decide +kernel, Nat.le_of_ble_eq_true rfl, rfl, Or.inl ⟨qw_G, rfl, fun c h => List.eq_nil_iff_forall_not_mem.mpr h⟩⟩
theorem qh_X6_init : qw_d yX6_init 1 := ⟨by decide +kernel, by decide +kernel, by decide +kernel⟩
theorem qmb_X6_init (E : qe_E) (L : Nat) : qx_mb (qZ E L) 202 := ⟨show plainName yX6_init.cls = true by decide +kernel, Nat.le_of_ble_eq_true rfl, rfl, Or.inl ⟨qw_G, rfl, fun c h => List.eq_nil_iff_forall_not_mem.mpr h⟩⟩
theorem qh_X6_choose : qw_d yX6_choose 0 := ⟨by decide +kernel, by decide +kernel, by decide +kernel⟩
theorem qmb_X6_choose (E : qe_E) (L : Nat) : qx_mb (qZ E L) 203 := ⟨show plainName yX6_choose.cls = true by decide +kernel, Nat.le_of_ble_eq_true rfl, rfl, Or.inl ⟨qw_G, rfl, fun c h => List.eq_nil_iff_forall_not_mem.mpr h⟩⟩
theorem qh_X6_turned : qw_d yX6_turned 1 := ⟨by decide +kernel, by decide +kernel, by decide +kernel⟩
theorem qmb_X6_turned (E : qe_E) (L : Nat) : qx_mb (qZ E L) 204 := ⟨show plainName yX6_turned.cls = true by decide +kernel, Nat.le_of_ble_eq_true rfl, rfl, Or.inl ⟨qw_G, rfl, fun c h => List.eq_nil_iff_forall_not_mem.mpr h⟩⟩
theorem qh_X6_collectPairs : qw_d yX6_collectPairs 0 := ⟨by decide +kernel, by decide +kernel, by decide +kernel⟩
theorem qmb_X6_collectPairs (E : qe_E) (L : Nat) : qx_mb (qZ E L) 205 := ⟨show plainName yX6_collectPairs.cls = true by decide +kernel, Nat.le_of_ble_eq_true rfl, rfl, Or.inl ⟨qw_G, rfl, fun c h => List.eq_nil_iff_forall_not_mem.mpr h⟩⟩
theorem qh_X6_separates : qw_d yX6_separates 1 := ⟨by decide +kernel, by decide +kernel, by decide +kernel⟩
theorem qmb_X6_separates (E : qe_E) (L : Nat) : qx_mb (qZ E L) 206 := ⟨show plainName yX6_separates.cls = true by decide +kernel, Nat.le_of_ble_eq_true rfl, rfl, Or.inl ⟨qw_G, rfl, fun c h => List.eq_nil_iff_forall_not_mem.mpr h⟩⟩
theorem qh_X6_hashOf : qw_d yX6_hashOf 2 := ⟨by decide +kernel, by decide +kernel, by decide +kernel⟩
theorem qmb_X6_hashOf (E : qe_E) (L : Nat) : qx_mb (qZ E L) 207 := ⟨show plainName yX6_hashOf.cls = true by decide +kernel, Nat.le_of_ble_eq_true rfl, rfl, Or.inl ⟨qw_G, rfl, fun c h => List.eq_nil_iff_forall_not_mem.mpr h⟩⟩
theorem qh_X7_init : qw_d yX7_init 2 := ⟨by decide +kernel, by decide +kernel, by decide +kernel⟩
theorem qmb_X7_init (E : qe_E) (L : Nat) : qx_mb (qZ E L) 208 := ⟨show plainName yX7_init.cls = true by decide +kernel, Nat.le_of_ble_eq_true rfl, rfl, Or.inl ⟨qw_G, rfl, fun c h => List.eq_nil_iff_forall_not_mem.mpr h⟩⟩
theorem qh_X7_build : qw_d yX7_build 0 := ⟨by decide +kernel, by decide +kernel, by decide +kernel⟩
theorem qmb_X7_build (E : qe_E) (L : Nat) : qx_mb (qZ E L) 209 := ⟨show plainName yX7_build.cls = true by decide +kernel, Nat.le_of_ble_eq_true rfl, rfl, Or.inl ⟨qw_G, rfl, fun c h => List.eq_nil_iff_forall_not_mem.mpr h⟩⟩
theorem qh_X8_init : qw_d yX8_init 1 := ⟨by decide +kernel, by decide +kernel, by decide +kernel⟩
theorem qmb_X8_init (E : qe_E) (L : Nat) : qx_mb (qZ E L) 218 := ⟨show plainName yX8_init.cls = true by decide +kernel, Nat.le_of_ble_eq_true rfl, rfl, Or.inl ⟨qw_G, rfl, fun c h => List.eq_nil_iff_forall_not_mem.mpr h⟩⟩
theorem qh_X8_empty : qw_d yX8_empty 0 := ⟨by decide +kernel, by decide +kernel, by decide +kernel⟩
theorem qmb_X8_empty (E : qe_E) (L : Nat) : qx_mb (qZ E L) 219 := ⟨show plainName yX8_empty.cls = true by decide +kernel, Nat.le_of_ble_eq_true rfl, rfl, Or.inl ⟨qw_G, rfl, fun c h => List.eq_nil_iff_forall_not_mem.mpr h⟩⟩
theorem qh_X8_write : qw_d yX8_write 1 := ⟨by decide +kernel, by decide +kernel, by decide +kernel⟩
theorem qmb_X8_write (E : qe_E) (L : Nat) : qx_mb (qZ E L) 221 := ⟨show plainName yX8_write.cls = true by decide +kernel, Nat.le_of_ble_eq_true rfl, rfl, Or.inl ⟨qw_G, rfl, fun c h => List.eq_nil_iff_forall_not_mem.mpr h⟩⟩
theorem qh_X8_isKey : qw_d yX8_isKey 0 := ⟨by decide +kernel, by decide +kernel, by decide +kernel⟩
theorem qmb_X8_isKey (E : qe_E) (L : Nat) : qx_mb (qZ E L) 224 := ⟨show plainName yX8_isKey.cls = true by decide +kernel, Nat.le_of_ble_eq_true rfl, rfl, Or.inl ⟨qw_G, rfl, fun c h => List.eq_nil_iff_forall_not_mem.mpr h⟩⟩
theorem qh_L_append : qw_d yL_append 3 := ⟨by decide +kernel, by decide +kernel, by decide +kernel⟩
theorem qmb_L_append (E : qe_E) (L : Nat) : qx_mb (qZ E L) 225 := ⟨show plainName yL_append.cls = true by decide +kernel, Nat.le_of_ble_eq_true rfl, rfl, Or.inr ⟨qw_G, [(0, 9, 12, 13), (0, 9, 15, 15)], rfl, fun c h => h⟩⟩
theorem qh_L_add : qw_d yL_add 3 := ⟨by decide +kernel, by decide +kernel, by decide +kernel⟩
theorem qmb_L_add (E : qe_E) (L : Nat) : qx_mb (qZ E L) 226 := ⟨show plainName yL_add.cls = true by decide +kernel, Nat.le_of_ble_eq_true rfl, rfl, Or.inr ⟨qw_G, [(0, 9, 12, 13), (0, 9, 15, 15)], rfl, fun c h => h⟩⟩
theorem qh_L_remove : qw_d yL_remove 3 := ⟨by decide +kernel, by decide +kernel, by decide +kernel⟩
theorem qmb_L_remove (E : qe_E) (L : Nat) : qx_mb (qZ E L) 227 := ⟨show plainName yL_remove.cls = true by decide +kernel, Nat.le_of_ble_eq_true rfl, rfl, Or.inr ⟨qw_G, [(0, 9, 12, 23)], rfl, fun c h => h⟩⟩
theorem qh_L_setBranch : qw_d yL_setBranch 4 := ⟨by decide +kernel, by decide +kernel, by decide +kernel⟩
theorem qmb_L_setBranch (E : qe_E) (L : Nat) : qx_mb (qZ E L) 228 := ⟨show plainName yL_setBranch.cls = true by decide +kernel, Nat.le_of_ble_eq_true rfl, rfl, Or.inr ⟨qw_G, [(0, 10, 13, 23), (0, 10, 17, 13)], rfl, fun c h => h⟩⟩
theorem qh_L_setWeight : qw_d yL_setWeight 4 := ⟨by decide +kernel, by decide +kernel, by decide +kernel⟩
theorem qmb_L_setWeight (E : qe_E) (L : Nat) : qx_mb (qZ E L) 229 := ⟨show plainName yL_setWeight.cls = true by decide +kernel, Nat.le_of_ble_eq_true rfl, rfl, Or.inr ⟨qw_G, [(0, 10, 13, 23), (0, 10, 17, 13)], rfl, fun c h => h⟩⟩
theorem qh_L_setLoad : qw_d yL_setLoad 3 := ⟨by decide +kernel, by decide +kernel, by decide +kernel⟩
theorem qmb_L_setLoad (E : qe_E) (L : Nat) : qx_mb (qZ E L) 230 := ⟨show plainName yL_setLoad.cls = true by decide +kernel, Nat.le_of_ble_eq_true rfl, rfl, Or.inr ⟨qw_G, [(0, 9, 12, 13)], rfl, fun c h => h⟩⟩
theorem qh_L_execute : qw_d yL_execute 2 := ⟨by decide +kernel, by decide +kernel, by decide +kernel⟩
theorem qmb_L_execute (E : qe_E) (L : Nat) : qx_mb (qZ E L) 231 := ⟨show plainName yL_execute.cls = true by decide +kernel, Nat.le_of_ble_eq_true rfl, rfl, Or.inr ⟨qw_G, [(0, 8, 11, 13), (0, 8, 14, 15)], rfl, fun c h => h⟩⟩
theorem qh_L_property : qw_d yL_property 4 := ⟨by decide +kernel, by decide +kernel, by decide +kernel⟩
theorem qmb_L_property (E : qe_E) (L : Nat) : qx_mb (qZ E L) 232 := ⟨show plainName yL_property.cls = true by decide +kernel, Nat.le_of_ble_eq_true rfl, rfl, Or.inr ⟨qw_G, [(0, 10, 13, 23), (0, 10, 17, 13)], rfl, fun c h => h⟩⟩
theorem qh_L_character : qw_d yL_character 4 := ⟨by decide +kernel, by decide +kernel, by decide +kernel⟩
theorem qmb_L_character (E : qe_E) (L : Nat) : qx_mb (qZ E L) 233 := ⟨show plainName yL_character.cls = true by decide +kernel, Nat.le_of_ble_eq_true rfl, rfl, Or.inr ⟨qw_G, [(0, 10, 13, 23)], rfl, fun c h => h⟩⟩
theorem qh_L_difference : qw_d yL_difference 4 := ⟨by decide +kernel, by decide +kernel, by decide +kernel⟩
theorem qmb_L_difference (E : qe_E) (L : Nat) : qx_mb (qZ E L) 234 := ⟨show plainName yL_difference.cls = true by decide +kernel, Nat.le_of_ble_eq_true rfl, rfl, Or.inr ⟨qw_G, [(0, 10, 13, 23), (0, 10, 17, 13)], rfl, fun c h => h⟩⟩
theorem qh_L_size : qw_d yL_size 3 := ⟨by decide +kernel, by decide +kernel, by decide +kernel⟩
theorem qmb_L_size (E : qe_E) (L : Nat) : qx_mb (qZ E L) 235 := ⟨show plainName yL_size.cls = true by decide +kernel, Nat.le_of_ble_eq_true rfl, rfl, Or.inr ⟨qw_G, [(0, 9, 12, 13)], rfl, fun c h => h⟩⟩
theorem qh_L_find : qw_d yL_find 3 := ⟨by decide +kernel, by decide +kernel, by decide +kernel⟩
theorem qmb_L_find (E : qe_E) (L : Nat) : qx_mb (qZ E L) 236 := ⟨show plainName yL_find.cls = true by decide +kernel, Nat.le_of_ble_eq_true rfl, rfl, Or.inr ⟨qw_G, [(0, 9, 12, 13), (0, 9, 15, 15)], rfl, fun c h => h⟩⟩
theorem qh_L_branch : qw_d yL_branch 3 := ⟨by decide +kernel, by decide +kernel, by decide +kernel⟩
theorem qmb_L_branch (E : qe_E) (L : Nat) : qx_mb (qZ E L) 237 := ⟨show plainName yL_branch.cls = true by decide +kernel, Nat.le_of_ble_eq_true rfl, rfl, Or.inr ⟨qw_G, [(0, 9, 12, 13), (0, 9, 15, 15)], rfl, fun c h => h⟩⟩
theorem qh_L_examined : qw_d yL_examined 3 := ⟨by decide +kernel, by decide +kernel, by decide +kernel⟩
theorem qmb_L_examined (E : qe_E) (L : Nat) : qx_mb (qZ E L) 238 := ⟨show plainName yL_examined.cls = true by decide +kernel, Nat.le_of_ble_eq_true rfl, rfl, Or.inr ⟨qw_G, [(0, 9, 12, 13), (0, 9, 15, 15)], rfl, fun c h => h⟩⟩
theorem qh_L_cost : qw_d yL_cost 3 := ⟨by decide +kernel, by decide +kernel, by decide +kernel⟩
theorem qmb_L_cost (E : qe_E) (L : Nat) : qx_mb (qZ E L) 239 := ⟨show plainName yL_cost.cls = true by decide +kernel, Nat.le_of_ble_eq_true rfl, rfl, Or.inr ⟨qw_G, [(0, 9, 12, 13), (0, 9, 15, 15)], rfl, fun c h => h⟩⟩
theorem qh_L_worst : qw_d yL_worst 3 := ⟨by decide +kernel, by decide +kernel, by decide +kernel⟩
theorem qmb_L_worst (E : qe_E) (L : Nat) : qx_mb (qZ E L) 240 := ⟨show plainName yL_worst.cls = true by decide +kernel, Nat.le_of_ble_eq_true rfl, rfl, Or.inr ⟨qw_G, [(0, 9, 12, 13), (0, 9, 15, 15)], rfl, fun c h => h⟩⟩
theorem qh_L_meanBits : qw_d yL_meanBits 3 := ⟨by decide +kernel, by decide +kernel, by decide +kernel⟩
theorem qmb_L_meanBits (E : qe_E) (L : Nat) : qx_mb (qZ E L) 241 := ⟨show plainName yL_meanBits.cls = true by decide +kernel, Nat.le_of_ble_eq_true rfl, rfl, Or.inr ⟨qw_G, [(0, 8, 11, 13), (0, 8, 14, 15), (0, 8, 17, 70)], rfl, fun c h => h⟩⟩
theorem qh_L_trees : qw_d yL_trees 3 := ⟨by decide +kernel, by decide +kernel, by decide +kernel⟩
theorem qmb_L_trees (E : qe_E) (L : Nat) : qx_mb (qZ E L) 242 := ⟨show plainName yL_trees.cls = true by decide +kernel, Nat.le_of_ble_eq_true rfl, rfl, Or.inr ⟨qw_G, [(0, 9, 12, 13)], rfl, fun c h => h⟩⟩
theorem qh_L_table : qw_d yL_table 3 := ⟨by decide +kernel, by decide +kernel, by decide +kernel⟩
theorem qmb_L_table (E : qe_E) (L : Nat) : qx_mb (qZ E L) 243 := ⟨show plainName yL_table.cls = true by decide +kernel, Nat.le_of_ble_eq_true rfl, rfl, Or.inr ⟨qw_G, [(0, 9, 12, 13), (0, 9, 15, 15)], rfl, fun c h => h⟩⟩
theorem qh_L_slot : qw_d yL_slot 3 := ⟨by decide +kernel, by decide +kernel, by decide +kernel⟩
theorem qmb_L_slot (E : qe_E) (L : Nat) : qx_mb (qZ E L) 244 := ⟨show plainName yL_slot.cls = true by decide +kernel, Nat.le_of_ble_eq_true rfl, rfl, Or.inr ⟨qw_G, [(0, 9, 12, 15), (0, 9, 15, 23)], rfl, fun c h => h⟩⟩
theorem qh_L_displacement : qw_d yL_displacement 3 := ⟨by decide +kernel, by decide +kernel, by decide +kernel⟩
theorem qmb_L_displacement (E : qe_E) (L : Nat) : qx_mb (qZ E L) 245 := ⟨show plainName yL_displacement.cls = true by decide +kernel, Nat.le_of_ble_eq_true rfl, rfl, Or.inr ⟨qw_G, [(0, 9, 12, 15), (0, 9, 15, 23)], rfl, fun c h => h⟩⟩
theorem qh_L_densityBits : qw_d yL_densityBits 2 := ⟨by decide +kernel, by decide +kernel, by decide +kernel⟩
theorem qmb_L_densityBits (E : qe_E) (L : Nat) : qx_mb (qZ E L) 246 := ⟨show plainName yL_densityBits.cls = true by decide +kernel, Nat.le_of_ble_eq_true rfl, rfl, Or.inr ⟨qw_G, [(0, 8, 11, 15)], rfl, fun c h => h⟩⟩
theorem qh_L_listing : qw_d yL_listing 4 := ⟨by decide +kernel, by decide +kernel, by decide +kernel⟩
theorem qmb_L_listing (E : qe_E) (L : Nat) : qx_mb (qZ E L) 247 := ⟨show plainName yL_listing.cls = true by decide +kernel, Nat.le_of_ble_eq_true rfl, rfl, Or.inr ⟨qw_G, [(0, 10, 13, 13), (0, 10, 17, 15), (0, 10, 21, 23)], rfl, fun c h => h⟩⟩
theorem qh_L_restore : qw_d yL_restore 2 := ⟨by decide +kernel, by decide +kernel, by decide +kernel⟩
theorem qmb_L_restore (E : qe_E) (L : Nat) : qx_mb (qZ E L) 248 := ⟨show plainName yL_restore.cls = true by decide +kernel, Nat.le_of_ble_eq_true rfl, rfl, Or.inr ⟨qw_G, [(0, 8, 11, 15)], rfl, fun c h => h⟩⟩
theorem qh_J6_bitCount_0f7a4 : qw_d yJ6_bitCount_0f7a4 1 := ⟨by decide +kernel, by decide +kernel, by decide +kernel⟩
theorem qmb_J6_bitCount_0f7a4 (E : qe_E) (L : Nat) : qx_mb (qZ E L) 250 := ⟨show plainName yJ6_bitCount_0f7a4.cls = true by decide +kernel, Nat.le_of_ble_eq_true rfl, rfl, Or.inl ⟨qw_G, rfl, fun c h => List.eq_nil_iff_forall_not_mem.mpr h⟩⟩
theorem qo_X9_init (E : qe_E) (L : Nat) : ∀ c : Code, zT (qZ E L) 0 c → ∀ x ∈ c.exceptionTable.toList, False := fun c h x hx => absurd ((show c.exceptionTable.toList = [] from h) ▸ hx) List.not_mem_nil
theorem qo_X9_append (E : qe_E) (L : Nat) : ∀ c : Code, zT (qZ E L) 1 c → ∀ x ∈ c.exceptionTable.toList, False := fun c h x hx => absurd ((show c.exceptionTable.toList = [] from h) ▸ hx) List.not_mem_nil
theorem qo_X9_clear (E : qe_E) (L : Nat) : ∀ c : Code, zT (qZ E L) 2 c → ∀ x ∈ c.exceptionTable.toList, False := fun c h x hx => absurd ((show c.exceptionTable.toList = [] from h) ▸ hx) List.not_mem_nil
theorem qo_X9_add (E : qe_E) (L : Nat) : ∀ c : Code, zT (qZ E L) 3 c → ∀ x ∈ c.exceptionTable.toList, False := fun c h x hx => absurd ((show c.exceptionTable.toList = [] from h) ▸ hx) List.not_mem_nil
theorem qo_X9_remove (E : qe_E) (L : Nat) : ∀ c : Code, zT (qZ E L) 4 c → ∀ x ∈ c.exceptionTable.toList, False := fun c h x hx => absurd ((show c.exceptionTable.toList = [] from h) ▸ hx) List.not_mem_nil
theorem qo_X9_setBranch (E : qe_E) (L : Nat) : ∀ c : Code, zT (qZ E L) 5 c → ∀ x ∈ c.exceptionTable.toList, False := fun c h x hx => absurd ((show c.exceptionTable.toList = [] from h) ▸ hx) List.not_mem_nil
theorem qo_X9_setWeight (E : qe_E) (L : Nat) : ∀ c : Code, zT (qZ E L) 6 c → ∀ x ∈ c.exceptionTable.toList, False := fun c h x hx => absurd ((show c.exceptionTable.toList = [] from h) ▸ hx) List.not_mem_nil
theorem qo_X9_setLoad (E : qe_E) (L : Nat) : ∀ c : Code, zT (qZ E L) 7 c → ∀ x ∈ c.exceptionTable.toList, False := fun c h x hx => absurd ((show c.exceptionTable.toList = [] from h) ▸ hx) List.not_mem_nil
theorem qo_X9_execute (E : qe_E) (L : Nat) : ∀ c : Code, zT (qZ E L) 8 c → ∀ x ∈ c.exceptionTable.toList, False := fun c h x hx => absurd ((show c.exceptionTable.toList = [] from h) ▸ hx) List.not_mem_nil
theorem qo_X9_errorPosition (E : qe_E) (L : Nat) : ∀ c : Code, zT (qZ E L) 9 c → ∀ x ∈ c.exceptionTable.toList, False := fun c h x hx => absurd ((show c.exceptionTable.toList = [] from h) ▸ hx) List.not_mem_nil
theorem qo_X9_property (E : qe_E) (L : Nat) : ∀ c : Code, zT (qZ E L) 10 c → ∀ x ∈ c.exceptionTable.toList, False := fun c h x hx => absurd ((show c.exceptionTable.toList = [] from h) ▸ hx) List.not_mem_nil
theorem qo_X9_character (E : qe_E) (L : Nat) : ∀ c : Code, zT (qZ E L) 11 c → ∀ x ∈ c.exceptionTable.toList, False := fun c h x hx => absurd ((show c.exceptionTable.toList = [] from h) ▸ hx) List.not_mem_nil
theorem qo_X9_difference (E : qe_E) (L : Nat) : ∀ c : Code, zT (qZ E L) 12 c → ∀ x ∈ c.exceptionTable.toList, False := fun c h x hx => absurd ((show c.exceptionTable.toList = [] from h) ▸ hx) List.not_mem_nil
theorem qo_X9_size (E : qe_E) (L : Nat) : ∀ c : Code, zT (qZ E L) 13 c → ∀ x ∈ c.exceptionTable.toList, False := fun c h x hx => absurd ((show c.exceptionTable.toList = [] from h) ▸ hx) List.not_mem_nil
theorem qo_X9_find (E : qe_E) (L : Nat) : ∀ c : Code, zT (qZ E L) 14 c → ∀ x ∈ c.exceptionTable.toList, False := fun c h x hx => absurd ((show c.exceptionTable.toList = [] from h) ▸ hx) List.not_mem_nil
theorem qo_X9_branch (E : qe_E) (L : Nat) : ∀ c : Code, zT (qZ E L) 15 c → ∀ x ∈ c.exceptionTable.toList, False := fun c h x hx => absurd ((show c.exceptionTable.toList = [] from h) ▸ hx) List.not_mem_nil
theorem qo_X9_examined (E : qe_E) (L : Nat) : ∀ c : Code, zT (qZ E L) 16 c → ∀ x ∈ c.exceptionTable.toList, False := fun c h x hx => absurd ((show c.exceptionTable.toList = [] from h) ▸ hx) List.not_mem_nil
theorem qo_X9_cost (E : qe_E) (L : Nat) : ∀ c : Code, zT (qZ E L) 17 c → ∀ x ∈ c.exceptionTable.toList, False := fun c h x hx => absurd ((show c.exceptionTable.toList = [] from h) ▸ hx) List.not_mem_nil
theorem qo_X9_worst (E : qe_E) (L : Nat) : ∀ c : Code, zT (qZ E L) 18 c → ∀ x ∈ c.exceptionTable.toList, False := fun c h x hx => absurd ((show c.exceptionTable.toList = [] from h) ▸ hx) List.not_mem_nil
theorem qo_X9_meanBits (E : qe_E) (L : Nat) : ∀ c : Code, zT (qZ E L) 19 c → ∀ x ∈ c.exceptionTable.toList, False := fun c h x hx => absurd ((show c.exceptionTable.toList = [] from h) ▸ hx) List.not_mem_nil
theorem qo_X9_best (E : qe_E) (L : Nat) : ∀ c : Code, zT (qZ E L) 20 c → ∀ x ∈ c.exceptionTable.toList, False := fun c h x hx => absurd ((show c.exceptionTable.toList = [] from h) ▸ hx) List.not_mem_nil
theorem qo_X9_trees (E : qe_E) (L : Nat) : ∀ c : Code, zT (qZ E L) 21 c → ∀ x ∈ c.exceptionTable.toList, False := fun c h x hx => absurd ((show c.exceptionTable.toList = [] from h) ▸ hx) List.not_mem_nil
theorem qo_X9_selected (E : qe_E) (L : Nat) : ∀ c : Code, zT (qZ E L) 22 c → ∀ x ∈ c.exceptionTable.toList, False := fun c h x hx => absurd ((show c.exceptionTable.toList = [] from h) ▸ hx) List.not_mem_nil
theorem qo_X9_hash (E : qe_E) (L : Nat) : ∀ c : Code, zT (qZ E L) 23 c → ∀ x ∈ c.exceptionTable.toList, False := fun c h x hx => absurd ((show c.exceptionTable.toList = [] from h) ▸ hx) List.not_mem_nil
theorem qo_X9_table (E : qe_E) (L : Nat) : ∀ c : Code, zT (qZ E L) 24 c → ∀ x ∈ c.exceptionTable.toList, False := fun c h x hx => absurd ((show c.exceptionTable.toList = [] from h) ▸ hx) List.not_mem_nil
theorem qo_X9_slot (E : qe_E) (L : Nat) : ∀ c : Code, zT (qZ E L) 25 c → ∀ x ∈ c.exceptionTable.toList, False := fun c h x hx => absurd ((show c.exceptionTable.toList = [] from h) ▸ hx) List.not_mem_nil
theorem qo_X9_displacement (E : qe_E) (L : Nat) : ∀ c : Code, zT (qZ E L) 26 c → ∀ x ∈ c.exceptionTable.toList, False := fun c h x hx => absurd ((show c.exceptionTable.toList = [] from h) ▸ hx) List.not_mem_nil
theorem qo_X9_densityBits (E : qe_E) (L : Nat) : ∀ c : Code, zT (qZ E L) 27 c → ∀ x ∈ c.exceptionTable.toList, False := fun c h x hx => absurd ((show c.exceptionTable.toList = [] from h) ▸ hx) List.not_mem_nil
theorem qo_X9_listing (E : qe_E) (L : Nat) : ∀ c : Code, zT (qZ E L) 28 c → ∀ x ∈ c.exceptionTable.toList, False := fun c h x hx => absurd ((show c.exceptionTable.toList = [] from h) ▸ hx) List.not_mem_nil
theorem qo_X9_save (E : qe_E) (L : Nat) : ∀ c : Code, zT (qZ E L) 29 c → ∀ x ∈ c.exceptionTable.toList, False := fun c h x hx => absurd ((show c.exceptionTable.toList = [] from h) ▸ hx) List.not_mem_nil
theorem qo_X9_restore (E : qe_E) (L : Nat) : ∀ c : Code, zT (qZ E L) 30 c → ∀ x ∈ c.exceptionTable.toList, False := fun c h x hx => absurd ((show c.exceptionTable.toList = [] from h) ▸ hx) List.not_mem_nil
theorem qo_X9_requireKey (E : qe_E) (L : Nat) : ∀ c : Code, zT (qZ E L) 31 c → ∀ x ∈ c.exceptionTable.toList, False := fun c h x hx => absurd ((show c.exceptionTable.toList = [] from h) ▸ hx) List.not_mem_nil
theorem qo_X9_requireStrategy (E : qe_E) (L : Nat) : ∀ c : Code, zT (qZ E L) 33 c → ∀ x ∈ c.exceptionTable.toList, False := fun c h x hx => absurd ((show c.exceptionTable.toList = [] from h) ▸ hx) List.not_mem_nil
theorem qo_X9_requireRunnable (E : qe_E) (L : Nat) : ∀ c : Code, zT (qZ E L) 34 c → ∀ x ∈ c.exceptionTable.toList, False := fun c h x hx => absurd ((show c.exceptionTable.toList = [] from h) ▸ hx) List.not_mem_nil
theorem qo_X9_requireTable (E : qe_E) (L : Nat) : ∀ c : Code, zT (qZ E L) 35 c → ∀ x ∈ c.exceptionTable.toList, False := fun c h x hx => absurd ((show c.exceptionTable.toList = [] from h) ▸ hx) List.not_mem_nil
theorem qo_X9_canRun (E : qe_E) (L : Nat) : ∀ c : Code, zT (qZ E L) 36 c → ∀ x ∈ c.exceptionTable.toList, False := fun c h x hx => absurd ((show c.exceptionTable.toList = [] from h) ▸ hx) List.not_mem_nil
theorem qo_X9_prepare (E : qe_E) (L : Nat) : ∀ c : Code, zT (qZ E L) 37 c → ∀ x ∈ c.exceptionTable.toList, False := fun c h x hx => absurd ((show c.exceptionTable.toList = [] from h) ▸ hx) List.not_mem_nil
theorem qo_X9_put (E : qe_E) (L : Nat) : ∀ c : Code, zT (qZ E L) 39 c → ∀ x ∈ c.exceptionTable.toList, False := fun c h x hx => absurd ((show c.exceptionTable.toList = [] from h) ▸ hx) List.not_mem_nil
theorem qo_X9_copy (E : qe_E) (L : Nat) : ∀ c : Code, zT (qZ E L) 40 c → ∀ x ∈ c.exceptionTable.toList, False := fun c h x hx => absurd ((show c.exceptionTable.toList = [] from h) ▸ hx) List.not_mem_nil
theorem qo_X9_contains (E : qe_E) (L : Nat) : ∀ c : Code, zT (qZ E L) 42 c → ∀ x ∈ c.exceptionTable.toList, False := fun c h x hx => absurd ((show c.exceptionTable.toList = [] from h) ▸ hx) List.not_mem_nil
theorem qo_X10_init (E : qe_E) (L : Nat) : ∀ c : Code, zT (qZ E L) 47 c → ∀ x ∈ c.exceptionTable.toList, False := fun c h x hx => absurd ((show c.exceptionTable.toList = [] from h) ▸ hx) List.not_mem_nil
theorem qo_X10_thrown (E : qe_E) (L : Nat) : ∀ c : Code, zT (qZ E L) 48 c → ∀ x ∈ c.exceptionTable.toList, False := fun c h x hx => absurd ((show c.exceptionTable.toList = [] from h) ▸ hx) List.not_mem_nil
theorem qo_X10_in (E : qe_E) (L : Nat) : ∀ c : Code, zT (qZ E L) 49 c → ∀ x ∈ c.exceptionTable.toList, False := fun c h x hx => absurd ((show c.exceptionTable.toList = [] from h) ▸ hx) List.not_mem_nil
theorem qo_X10_isKey (E : qe_E) (L : Nat) : ∀ c : Code, zT (qZ E L) 50 c → ∀ x ∈ c.exceptionTable.toList, False := fun c h x hx => absurd ((show c.exceptionTable.toList = [] from h) ▸ hx) List.not_mem_nil
theorem qo_X10_append (E : qe_E) (L : Nat) : ∀ c : Code, zT (qZ E L) 53 c → ∀ x ∈ c.exceptionTable.toList, False := fun c h x hx => absurd ((show c.exceptionTable.toList = [] from h) ▸ hx) List.not_mem_nil
theorem qo_X10_clear (E : qe_E) (L : Nat) : ∀ c : Code, zT (qZ E L) 54 c → ∀ x ∈ c.exceptionTable.toList, False := fun c h x hx => absurd ((show c.exceptionTable.toList = [] from h) ▸ hx) List.not_mem_nil
theorem qo_X10_add (E : qe_E) (L : Nat) : ∀ c : Code, zT (qZ E L) 58 c → ∀ x ∈ c.exceptionTable.toList, False := fun c h x hx => absurd ((show c.exceptionTable.toList = [] from h) ▸ hx) List.not_mem_nil
theorem qo_X10_remove (E : qe_E) (L : Nat) : ∀ c : Code, zT (qZ E L) 59 c → ∀ x ∈ c.exceptionTable.toList, False := fun c h x hx => absurd ((show c.exceptionTable.toList = [] from h) ▸ hx) List.not_mem_nil
theorem qo_X10_setBranch (E : qe_E) (L : Nat) : ∀ c : Code, zT (qZ E L) 60 c → ∀ x ∈ c.exceptionTable.toList, False := fun c h x hx => absurd ((show c.exceptionTable.toList = [] from h) ▸ hx) List.not_mem_nil
theorem qo_X10_setWeight (E : qe_E) (L : Nat) : ∀ c : Code, zT (qZ E L) 61 c → ∀ x ∈ c.exceptionTable.toList, False := fun c h x hx => absurd ((show c.exceptionTable.toList = [] from h) ▸ hx) List.not_mem_nil
theorem qo_X10_setLoad (E : qe_E) (L : Nat) : ∀ c : Code, zT (qZ E L) 62 c → ∀ x ∈ c.exceptionTable.toList, False := fun c h x hx => absurd ((show c.exceptionTable.toList = [] from h) ▸ hx) List.not_mem_nil
theorem qo_X10_here (E : qe_E) (L : Nat) : ∀ c : Code, zT (qZ E L) 63 c → ∀ x ∈ c.exceptionTable.toList, False := fun c h x hx => absurd ((show c.exceptionTable.toList = [] from h) ▸ hx) List.not_mem_nil
theorem qo_X10_isWord (E : qe_E) (L : Nat) : ∀ c : Code, zT (qZ E L) 65 c → ∀ x ∈ c.exceptionTable.toList, False := fun c h x hx => absurd ((show c.exceptionTable.toList = [] from h) ▸ hx) List.not_mem_nil
theorem qo_X10_word (E : qe_E) (L : Nat) : ∀ c : Code, zT (qZ E L) 66 c → ∀ x ∈ c.exceptionTable.toList, False := fun c h x hx => absurd ((show c.exceptionTable.toList = [] from h) ▸ hx) List.not_mem_nil
theorem qo_X10_readCommand (E : qe_E) (L : Nat) : ∀ c : Code, zT (qZ E L) 70 c → ∀ x ∈ c.exceptionTable.toList, False := fun c h x hx => absurd ((show c.exceptionTable.toList = [] from h) ▸ hx) List.not_mem_nil
theorem qo_X10_execute (E : qe_E) (L : Nat) : ∀ c : Code, zT (qZ E L) 72 c → ∀ x ∈ c.exceptionTable.toList, False := fun c h x hx => absurd ((show c.exceptionTable.toList = [] from h) ▸ hx) List.not_mem_nil
theorem qo_X10_errorPosition (E : qe_E) (L : Nat) : ∀ c : Code, zT (qZ E L) 73 c → ∀ x ∈ c.exceptionTable.toList, False := fun c h x hx => absurd ((show c.exceptionTable.toList = [] from h) ▸ hx) List.not_mem_nil
theorem qo_X10_property (E : qe_E) (L : Nat) : ∀ c : Code, zT (qZ E L) 78 c → ∀ x ∈ c.exceptionTable.toList, False := fun c h x hx => absurd ((show c.exceptionTable.toList = [] from h) ▸ hx) List.not_mem_nil
theorem qo_X10_character (E : qe_E) (L : Nat) : ∀ c : Code, zT (qZ E L) 79 c → ∀ x ∈ c.exceptionTable.toList, False := fun c h x hx => absurd ((show c.exceptionTable.toList = [] from h) ▸ hx) List.not_mem_nil
theorem qo_X10_difference (E : qe_E) (L : Nat) : ∀ c : Code, zT (qZ E L) 80 c → ∀ x ∈ c.exceptionTable.toList, False := fun c h x hx => absurd ((show c.exceptionTable.toList = [] from h) ▸ hx) List.not_mem_nil
theorem qo_X10_size (E : qe_E) (L : Nat) : ∀ c : Code, zT (qZ E L) 81 c → ∀ x ∈ c.exceptionTable.toList, False := fun c h x hx => absurd ((show c.exceptionTable.toList = [] from h) ▸ hx) List.not_mem_nil
theorem qo_X10_takeBuffer (E : qe_E) (L : Nat) : ∀ c : Code, zT (qZ E L) 82 c → ∀ x ∈ c.exceptionTable.toList, False := fun c h x hx => absurd ((show c.exceptionTable.toList = [] from h) ▸ hx) List.not_mem_nil
theorem qo_X10_linear (E : qe_E) (L : Nat) : ∀ c : Code, zT (qZ E L) 85 c → ∀ x ∈ c.exceptionTable.toList, False := fun c h x hx => absurd ((show c.exceptionTable.toList = [] from h) ▸ hx) List.not_mem_nil
theorem qo_X10_search (E : qe_E) (L : Nat) : ∀ c : Code, zT (qZ E L) 88 c → ∀ x ∈ c.exceptionTable.toList, False := fun c h x hx => absurd ((show c.exceptionTable.toList = [] from h) ▸ hx) List.not_mem_nil
theorem qo_X10_marked (E : qe_E) (L : Nat) : ∀ c : Code, zT (qZ E L) 89 c → ∀ x ∈ c.exceptionTable.toList, False := fun c h x hx => absurd ((show c.exceptionTable.toList = [] from h) ▸ hx) List.not_mem_nil
theorem qo_X10_ofLength (E : qe_E) (L : Nat) : ∀ c : Code, zT (qZ E L) 92 c → ∀ x ∈ c.exceptionTable.toList, False := fun c h x hx => absurd ((show c.exceptionTable.toList = [] from h) ▸ hx) List.not_mem_nil
theorem qo_X10_climb (E : qe_E) (L : Nat) : ∀ c : Code, zT (qZ E L) 94 c → ∀ x ∈ c.exceptionTable.toList, False := fun c h x hx => absurd ((show c.exceptionTable.toList = [] from h) ▸ hx) List.not_mem_nil
theorem qo_X10_trees (E : qe_E) (L : Nat) : ∀ c : Code, zT (qZ E L) 96 c → ∀ x ∈ c.exceptionTable.toList, False := fun c h x hx => absurd ((show c.exceptionTable.toList = [] from h) ▸ hx) List.not_mem_nil
theorem qo_X10_separates (E : qe_E) (L : Nat) : ∀ c : Code, zT (qZ E L) 97 c → ∀ x ∈ c.exceptionTable.toList, False := fun c h x hx => absurd ((show c.exceptionTable.toList = [] from h) ▸ hx) List.not_mem_nil
theorem qo_X10_sizeOf (E : qe_E) (L : Nat) : ∀ c : Code, zT (qZ E L) 98 c → ∀ x ∈ c.exceptionTable.toList, False := fun c h x hx => absurd ((show c.exceptionTable.toList = [] from h) ▸ hx) List.not_mem_nil
theorem qo_X10_select (E : qe_E) (L : Nat) : ∀ c : Code, zT (qZ E L) 100 c → ∀ x ∈ c.exceptionTable.toList, False := fun c h x hx => absurd ((show c.exceptionTable.toList = [] from h) ▸ hx) List.not_mem_nil
theorem qo_X10_hashOfText (E : qe_E) (L : Nat) : ∀ c : Code, zT (qZ E L) 101 c → ∀ x ∈ c.exceptionTable.toList, False := fun c h x hx => absurd ((show c.exceptionTable.toList = [] from h) ▸ hx) List.not_mem_nil
theorem qo_X10_prepare (E : qe_E) (L : Nat) : ∀ c : Code, zT (qZ E L) 106 c → ∀ x ∈ c.exceptionTable.toList, False := fun c h x hx => absurd ((show c.exceptionTable.toList = [] from h) ▸ hx) List.not_mem_nil
theorem qo_X10_hashed (E : qe_E) (L : Nat) : ∀ c : Code, zT (qZ E L) 107 c → ∀ x ∈ c.exceptionTable.toList, False := fun c h x hx => absurd ((show c.exceptionTable.toList = [] from h) ▸ hx) List.not_mem_nil
theorem qo_X10_canRun (E : qe_E) (L : Nat) : ∀ c : Code, zT (qZ E L) 108 c → ∀ x ∈ c.exceptionTable.toList, False := fun c h x hx => absurd ((show c.exceptionTable.toList = [] from h) ▸ hx) List.not_mem_nil
theorem qo_X10_refusal (E : qe_E) (L : Nat) : ∀ c : Code, zT (qZ E L) 109 c → ∀ x ∈ c.exceptionTable.toList, False := fun c h x hx => absurd ((show c.exceptionTable.toList = [] from h) ▸ hx) List.not_mem_nil
theorem qo_X10_run (E : qe_E) (L : Nat) : ∀ c : Code, zT (qZ E L) 110 c → ∀ x ∈ c.exceptionTable.toList, False := fun c h x hx => absurd ((show c.exceptionTable.toList = [] from h) ▸ hx) List.not_mem_nil
theorem qo_X10_find (E : qe_E) (L : Nat) : ∀ c : Code, zT (qZ E L) 111 c → ∀ x ∈ c.exceptionTable.toList, False := fun c h x hx => absurd ((show c.exceptionTable.toList = [] from h) ▸ hx) List.not_mem_nil
theorem qo_X10_branch (E : qe_E) (L : Nat) : ∀ c : Code, zT (qZ E L) 112 c → ∀ x ∈ c.exceptionTable.toList, False := fun c h x hx => absurd ((show c.exceptionTable.toList = [] from h) ▸ hx) List.not_mem_nil
theorem qo_X10_examined (E : qe_E) (L : Nat) : ∀ c : Code, zT (qZ E L) 113 c → ∀ x ∈ c.exceptionTable.toList, False := fun c h x hx => absurd ((show c.exceptionTable.toList = [] from h) ▸ hx) List.not_mem_nil
theorem qo_X10_costOf (E : qe_E) (L : Nat) : ∀ c : Code, zT (qZ E L) 114 c → ∀ x ∈ c.exceptionTable.toList, False := fun c h x hx => absurd ((show c.exceptionTable.toList = [] from h) ▸ hx) List.not_mem_nil
theorem qo_X10_cost (E : qe_E) (L : Nat) : ∀ c : Code, zT (qZ E L) 115 c → ∀ x ∈ c.exceptionTable.toList, False := fun c h x hx => absurd ((show c.exceptionTable.toList = [] from h) ▸ hx) List.not_mem_nil
theorem qo_X10_worst (E : qe_E) (L : Nat) : ∀ c : Code, zT (qZ E L) 116 c → ∀ x ∈ c.exceptionTable.toList, False := fun c h x hx => absurd ((show c.exceptionTable.toList = [] from h) ▸ hx) List.not_mem_nil
theorem qo_X10_meanBits (E : qe_E) (L : Nat) : ∀ c : Code, zT (qZ E L) 117 c → ∀ x ∈ c.exceptionTable.toList, False := fun c h x hx => absurd ((show c.exceptionTable.toList = [] from h) ▸ hx) List.not_mem_nil
theorem qo_X10_best (E : qe_E) (L : Nat) : ∀ c : Code, zT (qZ E L) 118 c → ∀ x ∈ c.exceptionTable.toList, False := fun c h x hx => absurd ((show c.exceptionTable.toList = [] from h) ▸ hx) List.not_mem_nil
theorem qo_X10_selected (E : qe_E) (L : Nat) : ∀ c : Code, zT (qZ E L) 119 c → ∀ x ∈ c.exceptionTable.toList, False := fun c h x hx => absurd ((show c.exceptionTable.toList = [] from h) ▸ hx) List.not_mem_nil
theorem qo_X10_hash (E : qe_E) (L : Nat) : ∀ c : Code, zT (qZ E L) 120 c → ∀ x ∈ c.exceptionTable.toList, False := fun c h x hx => absurd ((show c.exceptionTable.toList = [] from h) ▸ hx) List.not_mem_nil
theorem qo_X10_hasTable (E : qe_E) (L : Nat) : ∀ c : Code, zT (qZ E L) 121 c → ∀ x ∈ c.exceptionTable.toList, False := fun c h x hx => absurd ((show c.exceptionTable.toList = [] from h) ▸ hx) List.not_mem_nil
theorem qo_X10_table (E : qe_E) (L : Nat) : ∀ c : Code, zT (qZ E L) 123 c → ∀ x ∈ c.exceptionTable.toList, False := fun c h x hx => absurd ((show c.exceptionTable.toList = [] from h) ▸ hx) List.not_mem_nil
theorem qo_X10_slot (E : qe_E) (L : Nat) : ∀ c : Code, zT (qZ E L) 124 c → ∀ x ∈ c.exceptionTable.toList, False := fun c h x hx => absurd ((show c.exceptionTable.toList = [] from h) ▸ hx) List.not_mem_nil
theorem qo_X10_displacement (E : qe_E) (L : Nat) : ∀ c : Code, zT (qZ E L) 125 c → ∀ x ∈ c.exceptionTable.toList, False := fun c h x hx => absurd ((show c.exceptionTable.toList = [] from h) ▸ hx) List.not_mem_nil
theorem qo_X10_densityBits (E : qe_E) (L : Nat) : ∀ c : Code, zT (qZ E L) 126 c → ∀ x ∈ c.exceptionTable.toList, False := fun c h x hx => absurd ((show c.exceptionTable.toList = [] from h) ▸ hx) List.not_mem_nil
theorem qo_X10_putTrees (E : qe_E) (L : Nat) : ∀ c : Code, zT (qZ E L) 132 c → ∀ x ∈ c.exceptionTable.toList, False := fun c h x hx => absurd ((show c.exceptionTable.toList = [] from h) ▸ hx) List.not_mem_nil
theorem qo_X10_list (E : qe_E) (L : Nat) : ∀ c : Code, zT (qZ E L) 134 c → ∀ x ∈ c.exceptionTable.toList, False := fun c h x hx => absurd ((show c.exceptionTable.toList = [] from h) ▸ hx) List.not_mem_nil
theorem qo_X10_listing (E : qe_E) (L : Nat) : ∀ c : Code, zT (qZ E L) 135 c → ∀ x ∈ c.exceptionTable.toList, False := fun c h x hx => absurd ((show c.exceptionTable.toList = [] from h) ▸ hx) List.not_mem_nil
theorem qo_X10_save (E : qe_E) (L : Nat) : ∀ c : Code, zT (qZ E L) 136 c → ∀ x ∈ c.exceptionTable.toList, False := fun c h x hx => absurd ((show c.exceptionTable.toList = [] from h) ▸ hx) List.not_mem_nil
theorem qo_X10_restore (E : qe_E) (L : Nat) : ∀ c : Code, zT (qZ E L) 137 c → ∀ x ∈ c.exceptionTable.toList, False := fun c h x hx => absurd ((show c.exceptionTable.toList = [] from h) ▸ hx) List.not_mem_nil
theorem qo_X0_init (E : qe_E) (L : Nat) : ∀ c : Code, zT (qZ E L) 138 c → ∀ x ∈ c.exceptionTable.toList, False := fun c h x hx => absurd ((show c.exceptionTable.toList = [] from h) ▸ hx) List.not_mem_nil
theorem qo_X0_read (E : qe_E) (L : Nat) : ∀ c : Code, zT (qZ E L) 139 c → ∀ x ∈ c.exceptionTable.toList, False := fun c h x hx => absurd ((show c.exceptionTable.toList = [] from h) ▸ hx) List.not_mem_nil
theorem qo_X0_readCommand (E : qe_E) (L : Nat) : ∀ c : Code, zT (qZ E L) 140 c → ∀ x ∈ c.exceptionTable.toList, False := fun c h x hx => absurd ((show c.exceptionTable.toList = [] from h) ▸ hx) List.not_mem_nil
theorem qo_X0_readWord (E : qe_E) (L : Nat) : ∀ c : Code, zT (qZ E L) 142 c → ∀ x ∈ c.exceptionTable.toList, False := fun c h x hx => absurd ((show c.exceptionTable.toList = [] from h) ▸ hx) List.not_mem_nil
theorem qo_X0_isWord (E : qe_E) (L : Nat) : ∀ c : Code, zT (qZ E L) 143 c → ∀ x ∈ c.exceptionTable.toList, False := fun c h x hx => absurd ((show c.exceptionTable.toList = [] from h) ▸ hx) List.not_mem_nil
theorem qo_X1_init (E : qe_E) (L : Nat) : ∀ c : Code, zT (qZ E L) 152 c → ∀ x ∈ c.exceptionTable.toList, False := fun c h x hx => absurd ((show c.exceptionTable.toList = [] from h) ▸ hx) List.not_mem_nil
theorem qo_X1_grow (E : qe_E) (L : Nat) : ∀ c : Code, zT (qZ E L) 153 c → ∀ x ∈ c.exceptionTable.toList, False := fun c h x hx => absurd ((show c.exceptionTable.toList = [] from h) ▸ hx) List.not_mem_nil
theorem qo_X1_rootWith (E : qe_E) (L : Nat) : ∀ c : Code, zT (qZ E L) 157 c → ∀ x ∈ c.exceptionTable.toList, False := fun c h x hx => absurd ((show c.exceptionTable.toList = [] from h) ▸ hx) List.not_mem_nil
theorem qo_X1_treeWith (E : qe_E) (L : Nat) : ∀ c : Code, zT (qZ E L) 158 c → ∀ x ∈ c.exceptionTable.toList, False := fun c h x hx => absurd ((show c.exceptionTable.toList = [] from h) ▸ hx) List.not_mem_nil
theorem qo_X1_plantRoots (E : qe_E) (L : Nat) : ∀ c : Code, zT (qZ E L) 160 c → ∀ x ∈ c.exceptionTable.toList, False := fun c h x hx => absurd ((show c.exceptionTable.toList = [] from h) ▸ hx) List.not_mem_nil
theorem qo_X2_init (E : qe_E) (L : Nat) : ∀ c : Code, zT (qZ E L) 165 c → ∀ x ∈ c.exceptionTable.toList, False := fun c h x hx => absurd ((show c.exceptionTable.toList = [] from h) ▸ hx) List.not_mem_nil
theorem qo_X2_has (E : qe_E) (L : Nat) : ∀ c : Code, zT (qZ E L) 166 c → ∀ x ∈ c.exceptionTable.toList, False := fun c h x hx => absurd ((show c.exceptionTable.toList = [] from h) ▸ hx) List.not_mem_nil
theorem qo_X2_changeLoad (E : qe_E) (L : Nat) : ∀ c : Code, zT (qZ E L) 173 c → ∀ x ∈ c.exceptionTable.toList, False := fun c h x hx => absurd ((show c.exceptionTable.toList = [] from h) ▸ hx) List.not_mem_nil
theorem qo_X2_takeOver (E : qe_E) (L : Nat) : ∀ c : Code, zT (qZ E L) 174 c → ∀ x ∈ c.exceptionTable.toList, False := fun c h x hx => absurd ((show c.exceptionTable.toList = [] from h) ▸ hx) List.not_mem_nil
theorem qo_X2_totalWeight (E : qe_E) (L : Nat) : ∀ c : Code, zT (qZ E L) 180 c → ∀ x ∈ c.exceptionTable.toList, False := fun c h x hx => absurd ((show c.exceptionTable.toList = [] from h) ▸ hx) List.not_mem_nil
theorem qo_X3_init (E : qe_E) (L : Nat) : ∀ c : Code, zT (qZ E L) 182 c → ∀ x ∈ c.exceptionTable.toList, False := fun c h x hx => absurd ((show c.exceptionTable.toList = [] from h) ▸ hx) List.not_mem_nil
theorem qo_X3_list (E : qe_E) (L : Nat) : ∀ c : Code, zT (qZ E L) 183 c → ∀ x ∈ c.exceptionTable.toList, False := fun c h x hx => absurd ((show c.exceptionTable.toList = [] from h) ▸ hx) List.not_mem_nil
theorem qo_X3_listKeys (E : qe_E) (L : Nat) : ∀ c : Code, zT (qZ E L) 186 c → ∀ x ∈ c.exceptionTable.toList, False := fun c h x hx => absurd ((show c.exceptionTable.toList = [] from h) ▸ hx) List.not_mem_nil
theorem qo_X3_listForest (E : qe_E) (L : Nat) : ∀ c : Code, zT (qZ E L) 187 c → ∀ x ∈ c.exceptionTable.toList, False := fun c h x hx => absurd ((show c.exceptionTable.toList = [] from h) ▸ hx) List.not_mem_nil
theorem qo_X4_init (E : qe_E) (L : Nat) : ∀ c : Code, zT (qZ E L) 190 c → ∀ x ∈ c.exceptionTable.toList, False := fun c h x hx => absurd ((show c.exceptionTable.toList = [] from h) ▸ hx) List.not_mem_nil
theorem qo_X4_sort (E : qe_E) (L : Nat) : ∀ c : Code, zT (qZ E L) 191 c → ∀ x ∈ c.exceptionTable.toList, False := fun c h x hx => absurd ((show c.exceptionTable.toList = [] from h) ▸ hx) List.not_mem_nil
theorem qo_X5_init (E : qe_E) (L : Nat) : ∀ c : Code, zT (qZ E L) 192 c → ∀ x ∈ c.exceptionTable.toList, False := fun c h x hx => absurd ((show c.exceptionTable.toList = [] from h) ▸ hx) List.not_mem_nil
theorem qo_X5_run (E : qe_E) (L : Nat) : ∀ c : Code, zT (qZ E L) 193 c → ∀ x ∈ c.exceptionTable.toList, False := fun c h x hx => absurd ((show c.exceptionTable.toList = [] from h) ▸ hx) List.not_mem_nil
theorem qo_X5_measure (E : qe_E) (L : Nat) : ∀ c : Code, zT (qZ E L) 194 c → ∀ x ∈ c.exceptionTable.toList, False := fun c h x hx => absurd ((show c.exceptionTable.toList = [] from h) ▸ hx) List.not_mem_nil
theorem qo_X5_runLinear (E : qe_E) (L : Nat) : ∀ c : Code, zT (qZ E L) 197 c → ∀ x ∈ c.exceptionTable.toList, False := fun c h x hx => absurd ((show c.exceptionTable.toList = [] from h) ▸ hx) List.not_mem_nil
theorem qo_X5_runBinary (E : qe_E) (L : Nat) : ∀ c : Code, zT (qZ E L) 198 c → ∀ x ∈ c.exceptionTable.toList, False := fun c h x hx => absurd ((show c.exceptionTable.toList = [] from h) ▸ hx) List.not_mem_nil
theorem qo_X5_runTrees (E : qe_E) (L : Nat) : ∀ c : Code, zT (qZ E L) 199 c → ∀ x ∈ c.exceptionTable.toList, False := fun c h x hx => absurd ((show c.exceptionTable.toList = [] from h) ▸ hx) List.not_mem_nil
theorem qo_X5_runTable (E : qe_E) (L : Nat) : ∀ c : Code, zT (qZ E L) 201 c → ∀ x ∈ c.exceptionTable.toList, False := fun c h x hx => absurd ((show c.exceptionTable.toList = [] from h) ▸ hx) List.not_mem_nil
theorem qo_X6_init (E : qe_E) (L : Nat) : ∀ c : Code, zT (qZ E L) 202 c → ∀ x ∈ c.exceptionTable.toList, False := fun c h x hx => absurd ((show c.exceptionTable.toList = [] from h) ▸ hx) List.not_mem_nil
theorem qo_X6_choose (E : qe_E) (L : Nat) : ∀ c : Code, zT (qZ E L) 203 c → ∀ x ∈ c.exceptionTable.toList, False := fun c h x hx => absurd ((show c.exceptionTable.toList = [] from h) ▸ hx) List.not_mem_nil
theorem qo_X6_turned (E : qe_E) (L : Nat) : ∀ c : Code, zT (qZ E L) 204 c → ∀ x ∈ c.exceptionTable.toList, False := fun c h x hx => absurd ((show c.exceptionTable.toList = [] from h) ▸ hx) List.not_mem_nil
theorem qo_X6_collectPairs (E : qe_E) (L : Nat) : ∀ c : Code, zT (qZ E L) 205 c → ∀ x ∈ c.exceptionTable.toList, False := fun c h x hx => absurd ((show c.exceptionTable.toList = [] from h) ▸ hx) List.not_mem_nil
theorem qo_X6_separates (E : qe_E) (L : Nat) : ∀ c : Code, zT (qZ E L) 206 c → ∀ x ∈ c.exceptionTable.toList, False := fun c h x hx => absurd ((show c.exceptionTable.toList = [] from h) ▸ hx) List.not_mem_nil
theorem qo_X6_hashOf (E : qe_E) (L : Nat) : ∀ c : Code, zT (qZ E L) 207 c → ∀ x ∈ c.exceptionTable.toList, False := fun c h x hx => absurd ((show c.exceptionTable.toList = [] from h) ▸ hx) List.not_mem_nil
theorem qo_X7_init (E : qe_E) (L : Nat) : ∀ c : Code, zT (qZ E L) 208 c → ∀ x ∈ c.exceptionTable.toList, False := fun c h x hx => absurd ((show c.exceptionTable.toList = [] from h) ▸ hx) List.not_mem_nil
theorem qo_X7_build (E : qe_E) (L : Nat) : ∀ c : Code, zT (qZ E L) 209 c → ∀ x ∈ c.exceptionTable.toList, False := fun c h x hx => absurd ((show c.exceptionTable.toList = [] from h) ▸ hx) List.not_mem_nil
theorem qo_X8_init (E : qe_E) (L : Nat) : ∀ c : Code, zT (qZ E L) 218 c → ∀ x ∈ c.exceptionTable.toList, False := fun c h x hx => absurd ((show c.exceptionTable.toList = [] from h) ▸ hx) List.not_mem_nil
theorem qo_X8_empty (E : qe_E) (L : Nat) : ∀ c : Code, zT (qZ E L) 219 c → ∀ x ∈ c.exceptionTable.toList, False := fun c h x hx => absurd ((show c.exceptionTable.toList = [] from h) ▸ hx) List.not_mem_nil
theorem qo_X8_write (E : qe_E) (L : Nat) : ∀ c : Code, zT (qZ E L) 221 c → ∀ x ∈ c.exceptionTable.toList, False := fun c h x hx => absurd ((show c.exceptionTable.toList = [] from h) ▸ hx) List.not_mem_nil
theorem qo_X8_isKey (E : qe_E) (L : Nat) : ∀ c : Code, zT (qZ E L) 224 c → ∀ x ∈ c.exceptionTable.toList, False := fun c h x hx => absurd ((show c.exceptionTable.toList = [] from h) ▸ hx) List.not_mem_nil
theorem qo_J6_bitCount_0f7a4 (E : qe_E) (L : Nat) : ∀ c : Code, zT (qZ E L) 250 c → ∀ x ∈ c.exceptionTable.toList, False := fun c h x hx => absurd ((show c.exceptionTable.toList = [] from h) ▸ hx) List.not_mem_nil
end QEY
