section
-- ===== PART A: goes FIRST, ahead of the names: the tables' words, and 'selects' of the private methods out of them =====
/-- a private method of a class that the tables say can be made, by its rows of tables_1 -/
def lw_okq (q : MethodName × Nat) : Prop := (q.1.cls ≠ "java/lang/invoke/MethodHandle" ∧ q.1.cls ≠ "java/lang/invoke/VarHandle") ∧ Cond.instantiable q.1.cls q.2 ∈ tables_1 ∧ Cond.privateMethod q.1 ∈ tables_1 ∧ Cond.instanceMethod q.1 ∈ tables_1
theorem lw_p0 : lw_okq (⟨"TextSwitchCompiler", "prepare", "()V"⟩, 13) := ⟨⟨by decide +kernel, by decide +kernel⟩, List.mem_of_getElem? (i := 30) (by decide +kernel), List.mem_of_getElem? (i := 420) (by decide +kernel), List.mem_of_getElem? (i := 421) (by decide +kernel)⟩
theorem lw_p1 : lw_okq (⟨"TextSwitchCompiler$Forest", "plantRoots", "()V"⟩, 13) := ⟨⟨by decide +kernel, by decide +kernel⟩, List.mem_of_getElem? (i := 155) (by decide +kernel), List.mem_of_getElem? (i := 458) (by decide +kernel), List.mem_of_getElem? (i := 459) (by decide +kernel)⟩
theorem lw_p2 : lw_okq (⟨"TextSwitchCompiler$Forest", "plant", "(IIII)V"⟩, 13) := ⟨⟨by decide +kernel, by decide +kernel⟩, List.mem_of_getElem? (i := 155) (by decide +kernel), List.mem_of_getElem? (i := 464) (by decide +kernel), List.mem_of_getElem? (i := 465) (by decide +kernel)⟩
theorem lw_p3 : lw_okq (⟨"TextSwitchCompiler$Forest", "split", "(I)V"⟩, 13) := ⟨⟨by decide +kernel, by decide +kernel⟩, List.mem_of_getElem? (i := 155) (by decide +kernel), List.mem_of_getElem? (i := 476) (by decide +kernel), List.mem_of_getElem? (i := 477) (by decide +kernel)⟩
theorem lw_p4 : lw_okq (⟨"TextSwitchCompiler$Forest", "choosePosition", "(I)I"⟩, 13) := ⟨⟨by decide +kernel, by decide +kernel⟩, List.mem_of_getElem? (i := 155) (by decide +kernel), List.mem_of_getElem? (i := 480) (by decide +kernel), List.mem_of_getElem? (i := 481) (by decide +kernel)⟩
theorem lw_p5 : lw_okq (⟨"TextSwitchCompiler$Forest", "penaltyOf", "(II)I"⟩, 13) := ⟨⟨by decide +kernel, by decide +kernel⟩, List.mem_of_getElem? (i := 155) (by decide +kernel), List.mem_of_getElem? (i := 484) (by decide +kernel), List.mem_of_getElem? (i := 485) (by decide +kernel)⟩
theorem lw_p6 : lw_okq (⟨"TextSwitchCompiler$Forest", "sortMembers", "(III)V"⟩, 13) := ⟨⟨by decide +kernel, by decide +kernel⟩, List.mem_of_getElem? (i := 155) (by decide +kernel), List.mem_of_getElem? (i := 493) (by decide +kernel), List.mem_of_getElem? (i := 494) (by decide +kernel)⟩
theorem lw_p7 : lw_okq (⟨"TextSwitchCompiler$Selection", "collectPairs", "()V"⟩, 4) := ⟨⟨by decide +kernel, by decide +kernel⟩, List.mem_of_getElem? (i := 211) (by decide +kernel), List.mem_of_getElem? (i := 501) (by decide +kernel), List.mem_of_getElem? (i := 502) (by decide +kernel)⟩
theorem lw_p8 : lw_okq (⟨"TextSwitchCompiler$Selection", "separates", "(I)Z"⟩, 4) := ⟨⟨by decide +kernel, by decide +kernel⟩, List.mem_of_getElem? (i := 211) (by decide +kernel), List.mem_of_getElem? (i := 523) (by decide +kernel), List.mem_of_getElem? (i := 524) (by decide +kernel)⟩
theorem lw_p9 : lw_okq (⟨"TextSwitchCompiler$Table", "trySeed", "(I)Z"⟩, 14) := ⟨⟨by decide +kernel, by decide +kernel⟩, List.mem_of_getElem? (i := 233) (by decide +kernel), List.mem_of_getElem? (i := 532) (by decide +kernel), List.mem_of_getElem? (i := 533) (by decide +kernel)⟩
theorem lw_p10 : lw_okq (⟨"TextSwitchCompiler$Table", "hashKeys", "()V"⟩, 14) := ⟨⟨by decide +kernel, by decide +kernel⟩, List.mem_of_getElem? (i := 233) (by decide +kernel), List.mem_of_getElem? (i := 536) (by decide +kernel), List.mem_of_getElem? (i := 537) (by decide +kernel)⟩
theorem lw_p11 : lw_okq (⟨"TextSwitchCompiler$Table", "bucketFor", "(I)I"⟩, 14) := ⟨⟨by decide +kernel, by decide +kernel⟩, List.mem_of_getElem? (i := 233) (by decide +kernel), List.mem_of_getElem? (i := 559) (by decide +kernel), List.mem_of_getElem? (i := 560) (by decide +kernel)⟩
theorem lw_p12 : lw_okq (⟨"TextSwitchCompiler$Table", "place", "(I)Z"⟩, 14) := ⟨⟨by decide +kernel, by decide +kernel⟩, List.mem_of_getElem? (i := 233) (by decide +kernel), List.mem_of_getElem? (i := 567) (by decide +kernel), List.mem_of_getElem? (i := 568) (by decide +kernel)⟩
theorem lw_p13 : lw_okq (⟨"TextSwitchCompiler$Table", "takeSlots", "(II)Z"⟩, 14) := ⟨⟨by decide +kernel, by decide +kernel⟩, List.mem_of_getElem? (i := 233) (by decide +kernel), List.mem_of_getElem? (i := 571) (by decide +kernel), List.mem_of_getElem? (i := 572) (by decide +kernel)⟩
theorem lw_p14 : lw_okq (⟨"TextSwitchCompiler$Table", "slotFor", "(III)I"⟩, 14) := ⟨⟨by decide +kernel, by decide +kernel⟩, List.mem_of_getElem? (i := 233) (by decide +kernel), List.mem_of_getElem? (i := 575) (by decide +kernel), List.mem_of_getElem? (i := 576) (by decide +kernel)⟩
theorem lw_p15 : lw_okq (⟨"TextSwitchCompiler$Table", "nameOwners", "()V"⟩, 14) := ⟨⟨by decide +kernel, by decide +kernel⟩, List.mem_of_getElem? (i := 233) (by decide +kernel), List.mem_of_getElem? (i := 579) (by decide +kernel), List.mem_of_getElem? (i := 580) (by decide +kernel)⟩
def lw_privs_1 : List (MethodName × Nat) := [(⟨"TextSwitchCompiler", "prepare", "()V"⟩, 13), (⟨"TextSwitchCompiler$Forest", "plantRoots", "()V"⟩, 13), (⟨"TextSwitchCompiler$Forest", "plant", "(IIII)V"⟩, 13), (⟨"TextSwitchCompiler$Forest", "split", "(I)V"⟩, 13), (⟨"TextSwitchCompiler$Forest", "choosePosition", "(I)I"⟩, 13), (⟨"TextSwitchCompiler$Forest", "penaltyOf", "(II)I"⟩, 13), (⟨"TextSwitchCompiler$Forest", "sortMembers", "(III)V"⟩, 13), (⟨"TextSwitchCompiler$Selection", "collectPairs", "()V"⟩, 4), (⟨"TextSwitchCompiler$Selection", "separates", "(I)Z"⟩, 4), (⟨"TextSwitchCompiler$Table", "trySeed", "(I)Z"⟩, 14), (⟨"TextSwitchCompiler$Table", "hashKeys", "()V"⟩, 14), (⟨"TextSwitchCompiler$Table", "bucketFor", "(I)I"⟩, 14), (⟨"TextSwitchCompiler$Table", "place", "(I)Z"⟩, 14), (⟨"TextSwitchCompiler$Table", "takeSlots", "(II)Z"⟩, 14), (⟨"TextSwitchCompiler$Table", "slotFor", "(III)I"⟩, 14), (⟨"TextSwitchCompiler$Table", "nameOwners", "()V"⟩, 14)]
theorem lw_r1 : ∀ q ∈ lw_privs_1, lw_okq q := List.forall_mem_cons.mpr ⟨lw_p0, List.forall_mem_cons.mpr ⟨lw_p1, List.forall_mem_cons.mpr ⟨lw_p2, List.forall_mem_cons.mpr ⟨lw_p3, List.forall_mem_cons.mpr ⟨lw_p4, List.forall_mem_cons.mpr ⟨lw_p5, List.forall_mem_cons.mpr ⟨lw_p6, List.forall_mem_cons.mpr ⟨lw_p7, List.forall_mem_cons.mpr ⟨lw_p8, List.forall_mem_cons.mpr ⟨lw_p9, List.forall_mem_cons.mpr ⟨lw_p10, List.forall_mem_cons.mpr ⟨lw_p11, List.forall_mem_cons.mpr ⟨lw_p12, List.forall_mem_cons.mpr ⟨lw_p13, List.forall_mem_cons.mpr ⟨lw_p14, List.forall_mem_cons.mpr ⟨lw_p15, fun _ h => absurd h List.not_mem_nil⟩⟩⟩⟩⟩⟩⟩⟩⟩⟩⟩⟩⟩⟩⟩⟩
theorem lw_p16 : lw_okq (⟨"TextSwitchCompiler$Runner", "runLinear", "(LTextSwitchCompiler$Text;)V"⟩, 9) := ⟨⟨by decide +kernel, by decide +kernel⟩, List.mem_of_getElem? (i := 299) (by decide +kernel), List.mem_of_getElem? (i := 593) (by decide +kernel), List.mem_of_getElem? (i := 594) (by decide +kernel)⟩
theorem lw_p17 : lw_okq (⟨"TextSwitchCompiler$Runner", "matches", "(LTextSwitchCompiler$Text;I)Z"⟩, 9) := ⟨⟨by decide +kernel, by decide +kernel⟩, List.mem_of_getElem? (i := 299) (by decide +kernel), List.mem_of_getElem? (i := 597) (by decide +kernel), List.mem_of_getElem? (i := 598) (by decide +kernel)⟩
theorem lw_p18 : lw_okq (⟨"TextSwitchCompiler$Runner", "examineBoth", "(LTextSwitchCompiler$Text;I)I"⟩, 9) := ⟨⟨by decide +kernel, by decide +kernel⟩, List.mem_of_getElem? (i := 299) (by decide +kernel), List.mem_of_getElem? (i := 602) (by decide +kernel), List.mem_of_getElem? (i := 603) (by decide +kernel)⟩
theorem lw_p19 : lw_okq (⟨"TextSwitchCompiler$Runner", "runBinary", "(LTextSwitchCompiler$Text;)V"⟩, 9) := ⟨⟨by decide +kernel, by decide +kernel⟩, List.mem_of_getElem? (i := 299) (by decide +kernel), List.mem_of_getElem? (i := 609) (by decide +kernel), List.mem_of_getElem? (i := 610) (by decide +kernel)⟩
theorem lw_p20 : lw_okq (⟨"TextSwitchCompiler$Runner", "runTrees", "(LTextSwitchCompiler$Text;)V"⟩, 9) := ⟨⟨by decide +kernel, by decide +kernel⟩, List.mem_of_getElem? (i := 299) (by decide +kernel), List.mem_of_getElem? (i := 614) (by decide +kernel), List.mem_of_getElem? (i := 615) (by decide +kernel)⟩
theorem lw_p21 : lw_okq (⟨"TextSwitchCompiler$Forest", "treeWith", "(III)I"⟩, 13) := ⟨⟨by decide +kernel, by decide +kernel⟩, List.mem_of_getElem? (i := 155) (by decide +kernel), List.mem_of_getElem? (i := 622) (by decide +kernel), List.mem_of_getElem? (i := 623) (by decide +kernel)⟩
theorem lw_p22 : lw_okq (⟨"TextSwitchCompiler$Runner", "matchesUnseen", "(LTextSwitchCompiler$Text;II)Z"⟩, 9) := ⟨⟨by decide +kernel, by decide +kernel⟩, List.mem_of_getElem? (i := 299) (by decide +kernel), List.mem_of_getElem? (i := 632) (by decide +kernel), List.mem_of_getElem? (i := 633) (by decide +kernel)⟩
theorem lw_p23 : lw_okq (⟨"TextSwitchCompiler$Runner", "runTable", "(LTextSwitchCompiler$Text;)V"⟩, 9) := ⟨⟨by decide +kernel, by decide +kernel⟩, List.mem_of_getElem? (i := 299) (by decide +kernel), List.mem_of_getElem? (i := 637) (by decide +kernel), List.mem_of_getElem? (i := 638) (by decide +kernel)⟩
theorem lw_p24 : lw_okq (⟨"TextSwitchCompiler", "canRun", "(I)Z"⟩, 13) := ⟨⟨by decide +kernel, by decide +kernel⟩, List.mem_of_getElem? (i := 30) (by decide +kernel), List.mem_of_getElem? (i := 646) (by decide +kernel), List.mem_of_getElem? (i := 647) (by decide +kernel)⟩
theorem lw_p25 : lw_okq (⟨"java/lang/Throwable", "fillInStackTrace", "(I)Ljava/lang/Throwable;"⟩, 6) := ⟨⟨by decide +kernel, by decide +kernel⟩, List.mem_of_getElem? (i := 719) (by decide +kernel), List.mem_of_getElem? (i := 717) (by decide +kernel), List.mem_of_getElem? (i := 718) (by decide +kernel)⟩
theorem lw_p26 : lw_okq (⟨"TextSwitchCompiler$Keys", "beginsAt", "(ILTextSwitchCompiler$Text;I)Z"⟩, 7) := ⟨⟨by decide +kernel, by decide +kernel⟩, List.mem_of_getElem? (i := 59) (by decide +kernel), List.mem_of_getElem? (i := 801) (by decide +kernel), List.mem_of_getElem? (i := 802) (by decide +kernel)⟩
theorem lw_p27 : lw_okq (⟨"TextSwitchCompiler", "requireKey", "(I)V"⟩, 13) := ⟨⟨by decide +kernel, by decide +kernel⟩, List.mem_of_getElem? (i := 30) (by decide +kernel), List.mem_of_getElem? (i := 839) (by decide +kernel), List.mem_of_getElem? (i := 840) (by decide +kernel)⟩
theorem lw_p28 : lw_okq (⟨"TextSwitchCompiler$Commands", "readCommand", "(LTextSwitchCompiler$Text;)Z"⟩, 9) := ⟨⟨by decide +kernel, by decide +kernel⟩, List.mem_of_getElem? (i := 102) (by decide +kernel), List.mem_of_getElem? (i := 905) (by decide +kernel), List.mem_of_getElem? (i := 906) (by decide +kernel)⟩
theorem lw_p29 : lw_okq (⟨"TextSwitchCompiler$Commands", "readWord", "(LTextSwitchCompiler$Text;)I"⟩, 9) := ⟨⟨by decide +kernel, by decide +kernel⟩, List.mem_of_getElem? (i := 102) (by decide +kernel), List.mem_of_getElem? (i := 910) (by decide +kernel), List.mem_of_getElem? (i := 911) (by decide +kernel)⟩
theorem lw_p30 : lw_okq (⟨"TextSwitchCompiler$Commands", "isWord", "(LTextSwitchCompiler$Text;ILjava/lang/String;)Z"⟩, 9) := ⟨⟨by decide +kernel, by decide +kernel⟩, List.mem_of_getElem? (i := 102) (by decide +kernel), List.mem_of_getElem? (i := 917) (by decide +kernel), List.mem_of_getElem? (i := 918) (by decide +kernel)⟩
theorem lw_p31 : lw_okq (⟨"TextSwitchCompiler$Commands", "readSign", "(LTextSwitchCompiler$Text;I)Z"⟩, 9) := ⟨⟨by decide +kernel, by decide +kernel⟩, List.mem_of_getElem? (i := 102) (by decide +kernel), List.mem_of_getElem? (i := 972) (by decide +kernel), List.mem_of_getElem? (i := 973) (by decide +kernel)⟩
def lw_privs_2 : List (MethodName × Nat) := [(⟨"TextSwitchCompiler$Runner", "runLinear", "(LTextSwitchCompiler$Text;)V"⟩, 9), (⟨"TextSwitchCompiler$Runner", "matches", "(LTextSwitchCompiler$Text;I)Z"⟩, 9), (⟨"TextSwitchCompiler$Runner", "examineBoth", "(LTextSwitchCompiler$Text;I)I"⟩, 9), (⟨"TextSwitchCompiler$Runner", "runBinary", "(LTextSwitchCompiler$Text;)V"⟩, 9), (⟨"TextSwitchCompiler$Runner", "runTrees", "(LTextSwitchCompiler$Text;)V"⟩, 9), (⟨"TextSwitchCompiler$Forest", "treeWith", "(III)I"⟩, 13), (⟨"TextSwitchCompiler$Runner", "matchesUnseen", "(LTextSwitchCompiler$Text;II)Z"⟩, 9), (⟨"TextSwitchCompiler$Runner", "runTable", "(LTextSwitchCompiler$Text;)V"⟩, 9), (⟨"TextSwitchCompiler", "canRun", "(I)Z"⟩, 13), (⟨"java/lang/Throwable", "fillInStackTrace", "(I)Ljava/lang/Throwable;"⟩, 6), (⟨"TextSwitchCompiler$Keys", "beginsAt", "(ILTextSwitchCompiler$Text;I)Z"⟩, 7), (⟨"TextSwitchCompiler", "requireKey", "(I)V"⟩, 13), (⟨"TextSwitchCompiler$Commands", "readCommand", "(LTextSwitchCompiler$Text;)Z"⟩, 9), (⟨"TextSwitchCompiler$Commands", "readWord", "(LTextSwitchCompiler$Text;)I"⟩, 9), (⟨"TextSwitchCompiler$Commands", "isWord", "(LTextSwitchCompiler$Text;ILjava/lang/String;)Z"⟩, 9), (⟨"TextSwitchCompiler$Commands", "readSign", "(LTextSwitchCompiler$Text;I)Z"⟩, 9)]
theorem lw_r2 : ∀ q ∈ lw_privs_2, lw_okq q := List.forall_mem_cons.mpr ⟨lw_p16, List.forall_mem_cons.mpr ⟨lw_p17, List.forall_mem_cons.mpr ⟨lw_p18, List.forall_mem_cons.mpr ⟨lw_p19, List.forall_mem_cons.mpr ⟨lw_p20, List.forall_mem_cons.mpr ⟨lw_p21, List.forall_mem_cons.mpr ⟨lw_p22, List.forall_mem_cons.mpr ⟨lw_p23, List.forall_mem_cons.mpr ⟨lw_p24, List.forall_mem_cons.mpr ⟨lw_p25, List.forall_mem_cons.mpr ⟨lw_p26, List.forall_mem_cons.mpr ⟨lw_p27, List.forall_mem_cons.mpr ⟨lw_p28, List.forall_mem_cons.mpr ⟨lw_p29, List.forall_mem_cons.mpr ⟨lw_p30, List.forall_mem_cons.mpr ⟨lw_p31, fun _ h => absurd h List.not_mem_nil⟩⟩⟩⟩⟩⟩⟩⟩⟩⟩⟩⟩⟩⟩⟩⟩
theorem lw_p32 : lw_okq (⟨"TextSwitchCompiler$Commands", "fail", "(I)Z"⟩, 9) := ⟨⟨by decide +kernel, by decide +kernel⟩, List.mem_of_getElem? (i := 102) (by decide +kernel), List.mem_of_getElem? (i := 976) (by decide +kernel), List.mem_of_getElem? (i := 977) (by decide +kernel)⟩
theorem lw_p33 : lw_okq (⟨"TextSwitchCompiler$Commands", "readKey", "(LTextSwitchCompiler$Text;)Z"⟩, 9) := ⟨⟨by decide +kernel, by decide +kernel⟩, List.mem_of_getElem? (i := 102) (by decide +kernel), List.mem_of_getElem? (i := 980) (by decide +kernel), List.mem_of_getElem? (i := 981) (by decide +kernel)⟩
theorem lw_p34 : lw_okq (⟨"TextSwitchCompiler$Commands", "readBranch", "(LTextSwitchCompiler$Text;)Z"⟩, 9) := ⟨⟨by decide +kernel, by decide +kernel⟩, List.mem_of_getElem? (i := 102) (by decide +kernel), List.mem_of_getElem? (i := 985) (by decide +kernel), List.mem_of_getElem? (i := 986) (by decide +kernel)⟩
theorem lw_p35 : lw_okq (⟨"TextSwitchCompiler$Commands", "readNumber", "(LTextSwitchCompiler$Text;II)Z"⟩, 9) := ⟨⟨by decide +kernel, by decide +kernel⟩, List.mem_of_getElem? (i := 102) (by decide +kernel), List.mem_of_getElem? (i := 990) (by decide +kernel), List.mem_of_getElem? (i := 991) (by decide +kernel)⟩
theorem lw_p36 : lw_okq (⟨"TextSwitchCompiler$Commands", "carryOutOne", "(LTextSwitchCompiler$Text;I)Z"⟩, 9) := ⟨⟨by decide +kernel, by decide +kernel⟩, List.mem_of_getElem? (i := 102) (by decide +kernel), List.mem_of_getElem? (i := 999) (by decide +kernel), List.mem_of_getElem? (i := 1000) (by decide +kernel)⟩
theorem lw_p37 : lw_okq (⟨"TextSwitchCompiler$Commands", "dropKey", "(I)Z"⟩, 9) := ⟨⟨by decide +kernel, by decide +kernel⟩, List.mem_of_getElem? (i := 102) (by decide +kernel), List.mem_of_getElem? (i := 1006) (by decide +kernel), List.mem_of_getElem? (i := 1007) (by decide +kernel)⟩
theorem lw_p38 : lw_okq (⟨"TextSwitchCompiler$Commands", "weighKey", "(II)Z"⟩, 9) := ⟨⟨by decide +kernel, by decide +kernel⟩, List.mem_of_getElem? (i := 102) (by decide +kernel), List.mem_of_getElem? (i := 1011) (by decide +kernel), List.mem_of_getElem? (i := 1012) (by decide +kernel)⟩
theorem lw_p39 : lw_okq (⟨"TextSwitchCompiler", "requireRunnable", "(I)V"⟩, 13) := ⟨⟨by decide +kernel, by decide +kernel⟩, List.mem_of_getElem? (i := 30) (by decide +kernel), List.mem_of_getElem? (i := 1067) (by decide +kernel), List.mem_of_getElem? (i := 1068) (by decide +kernel)⟩
theorem lw_p40 : lw_okq (⟨"TextSwitchCompiler", "requireTable", "()V"⟩, 13) := ⟨⟨by decide +kernel, by decide +kernel⟩, List.mem_of_getElem? (i := 30) (by decide +kernel), List.mem_of_getElem? (i := 1153) (by decide +kernel), List.mem_of_getElem? (i := 1154) (by decide +kernel)⟩
theorem lw_p41 : lw_okq (⟨"TextSwitchCompiler$Lister", "listKeys", "(Z)V"⟩, 5) := ⟨⟨by decide +kernel, by decide +kernel⟩, List.mem_of_getElem? (i := 339) (by decide +kernel), List.mem_of_getElem? (i := 1200) (by decide +kernel), List.mem_of_getElem? (i := 1201) (by decide +kernel)⟩
theorem lw_p42 : lw_okq (⟨"TextSwitchCompiler$Lister", "separate", "(II)V"⟩, 5) := ⟨⟨by decide +kernel, by decide +kernel⟩, List.mem_of_getElem? (i := 339) (by decide +kernel), List.mem_of_getElem? (i := 1204) (by decide +kernel), List.mem_of_getElem? (i := 1205) (by decide +kernel)⟩
theorem lw_p43 : lw_okq (⟨"TextSwitchCompiler$Lister", "writeEntry", "(I)V"⟩, 5) := ⟨⟨by decide +kernel, by decide +kernel⟩, List.mem_of_getElem? (i := 339) (by decide +kernel), List.mem_of_getElem? (i := 1210) (by decide +kernel), List.mem_of_getElem? (i := 1211) (by decide +kernel)⟩
theorem lw_p44 : lw_okq (⟨"TextSwitchCompiler$Lister", "listForest", "()V"⟩, 5) := ⟨⟨by decide +kernel, by decide +kernel⟩, List.mem_of_getElem? (i := 339) (by decide +kernel), List.mem_of_getElem? (i := 1220) (by decide +kernel), List.mem_of_getElem? (i := 1221) (by decide +kernel)⟩
theorem lw_p45 : lw_okq (⟨"TextSwitchCompiler$Lister", "listTable", "()V"⟩, 5) := ⟨⟨by decide +kernel, by decide +kernel⟩, List.mem_of_getElem? (i := 339) (by decide +kernel), List.mem_of_getElem? (i := 1229) (by decide +kernel), List.mem_of_getElem? (i := 1230) (by decide +kernel)⟩
theorem lw_p46 : lw_okq (⟨"TextSwitchCompilerModel", "keyAt", "(II)I"⟩, 36) := ⟨⟨by decide +kernel, by decide +kernel⟩, List.mem_of_getElem? (i := 1244) (by decide +kernel), List.mem_of_getElem? (i := 1389) (by decide +kernel), List.mem_of_getElem? (i := 1390) (by decide +kernel)⟩
theorem lw_p47 : lw_okq (⟨"TextSwitchCompilerModel", "at", "(II)I"⟩, 36) := ⟨⟨by decide +kernel, by decide +kernel⟩, List.mem_of_getElem? (i := 1244) (by decide +kernel), List.mem_of_getElem? (i := 1393) (by decide +kernel), List.mem_of_getElem? (i := 1394) (by decide +kernel)⟩
def lw_privs_3 : List (MethodName × Nat) := [(⟨"TextSwitchCompiler$Commands", "fail", "(I)Z"⟩, 9), (⟨"TextSwitchCompiler$Commands", "readKey", "(LTextSwitchCompiler$Text;)Z"⟩, 9), (⟨"TextSwitchCompiler$Commands", "readBranch", "(LTextSwitchCompiler$Text;)Z"⟩, 9), (⟨"TextSwitchCompiler$Commands", "readNumber", "(LTextSwitchCompiler$Text;II)Z"⟩, 9), (⟨"TextSwitchCompiler$Commands", "carryOutOne", "(LTextSwitchCompiler$Text;I)Z"⟩, 9), (⟨"TextSwitchCompiler$Commands", "dropKey", "(I)Z"⟩, 9), (⟨"TextSwitchCompiler$Commands", "weighKey", "(II)Z"⟩, 9), (⟨"TextSwitchCompiler", "requireRunnable", "(I)V"⟩, 13), (⟨"TextSwitchCompiler", "requireTable", "()V"⟩, 13), (⟨"TextSwitchCompiler$Lister", "listKeys", "(Z)V"⟩, 5), (⟨"TextSwitchCompiler$Lister", "separate", "(II)V"⟩, 5), (⟨"TextSwitchCompiler$Lister", "writeEntry", "(I)V"⟩, 5), (⟨"TextSwitchCompiler$Lister", "listForest", "()V"⟩, 5), (⟨"TextSwitchCompiler$Lister", "listTable", "()V"⟩, 5), (⟨"TextSwitchCompilerModel", "keyAt", "(II)I"⟩, 36), (⟨"TextSwitchCompilerModel", "at", "(II)I"⟩, 36)]
theorem lw_r3 : ∀ q ∈ lw_privs_3, lw_okq q := List.forall_mem_cons.mpr ⟨lw_p32, List.forall_mem_cons.mpr ⟨lw_p33, List.forall_mem_cons.mpr ⟨lw_p34, List.forall_mem_cons.mpr ⟨lw_p35, List.forall_mem_cons.mpr ⟨lw_p36, List.forall_mem_cons.mpr ⟨lw_p37, List.forall_mem_cons.mpr ⟨lw_p38, List.forall_mem_cons.mpr ⟨lw_p39, List.forall_mem_cons.mpr ⟨lw_p40, List.forall_mem_cons.mpr ⟨lw_p41, List.forall_mem_cons.mpr ⟨lw_p42, List.forall_mem_cons.mpr ⟨lw_p43, List.forall_mem_cons.mpr ⟨lw_p44, List.forall_mem_cons.mpr ⟨lw_p45, List.forall_mem_cons.mpr ⟨lw_p46, List.forall_mem_cons.mpr ⟨lw_p47, fun _ h => absurd h List.not_mem_nil⟩⟩⟩⟩⟩⟩⟩⟩⟩⟩⟩⟩⟩⟩⟩⟩
theorem lw_p48 : lw_okq (⟨"TextSwitchCompilerModel", "addKey", "(III)I"⟩, 36) := ⟨⟨by decide +kernel, by decide +kernel⟩, List.mem_of_getElem? (i := 1244) (by decide +kernel), List.mem_of_getElem? (i := 1397) (by decide +kernel), List.mem_of_getElem? (i := 1398) (by decide +kernel)⟩
theorem lw_p49 : lw_okq (⟨"TextSwitchCompilerModel", "isKey", "(I)Z"⟩, 36) := ⟨⟨by decide +kernel, by decide +kernel⟩, List.mem_of_getElem? (i := 1244) (by decide +kernel), List.mem_of_getElem? (i := 1405) (by decide +kernel), List.mem_of_getElem? (i := 1406) (by decide +kernel)⟩
theorem lw_p50 : lw_okq (⟨"TextSwitchCompilerModel", "removeKey", "(I)V"⟩, 36) := ⟨⟨by decide +kernel, by decide +kernel⟩, List.mem_of_getElem? (i := 1244) (by decide +kernel), List.mem_of_getElem? (i := 1409) (by decide +kernel), List.mem_of_getElem? (i := 1410) (by decide +kernel)⟩
theorem lw_p51 : lw_okq (⟨"TextSwitchCompilerModel", "readCommand", "()V"⟩, 36) := ⟨⟨by decide +kernel, by decide +kernel⟩, List.mem_of_getElem? (i := 1244) (by decide +kernel), List.mem_of_getElem? (i := 1432) (by decide +kernel), List.mem_of_getElem? (i := 1433) (by decide +kernel)⟩
theorem lw_p52 : lw_okq (⟨"TextSwitchCompilerModel", "word", "()I"⟩, 36) := ⟨⟨by decide +kernel, by decide +kernel⟩, List.mem_of_getElem? (i := 1244) (by decide +kernel), List.mem_of_getElem? (i := 1436) (by decide +kernel), List.mem_of_getElem? (i := 1437) (by decide +kernel)⟩
theorem lw_p53 : lw_okq (⟨"TextSwitchCompilerModel", "here", "()I"⟩, 36) := ⟨⟨by decide +kernel, by decide +kernel⟩, List.mem_of_getElem? (i := 1244) (by decide +kernel), List.mem_of_getElem? (i := 1440) (by decide +kernel), List.mem_of_getElem? (i := 1441) (by decide +kernel)⟩
theorem lw_p54 : lw_okq (⟨"TextSwitchCompilerModel", "isWord", "(ILjava/lang/String;)Z"⟩, 36) := ⟨⟨by decide +kernel, by decide +kernel⟩, List.mem_of_getElem? (i := 1244) (by decide +kernel), List.mem_of_getElem? (i := 1445) (by decide +kernel), List.mem_of_getElem? (i := 1446) (by decide +kernel)⟩
theorem lw_p55 : lw_okq (⟨"TextSwitchCompilerModel", "wants", "(I)V"⟩, 36) := ⟨⟨by decide +kernel, by decide +kernel⟩, List.mem_of_getElem? (i := 1244) (by decide +kernel), List.mem_of_getElem? (i := 1454) (by decide +kernel), List.mem_of_getElem? (i := 1455) (by decide +kernel)⟩
theorem lw_p56 : lw_okq (⟨"TextSwitchCompilerModel", "key", "()V"⟩, 36) := ⟨⟨by decide +kernel, by decide +kernel⟩, List.mem_of_getElem? (i := 1244) (by decide +kernel), List.mem_of_getElem? (i := 1458) (by decide +kernel), List.mem_of_getElem? (i := 1459) (by decide +kernel)⟩
theorem lw_p57 : lw_okq (⟨"TextSwitchCompilerModel", "branchDigit", "()I"⟩, 36) := ⟨⟨by decide +kernel, by decide +kernel⟩, List.mem_of_getElem? (i := 1244) (by decide +kernel), List.mem_of_getElem? (i := 1462) (by decide +kernel), List.mem_of_getElem? (i := 1463) (by decide +kernel)⟩
theorem lw_p58 : lw_okq (⟨"TextSwitchCompilerModel", "number", "(II)I"⟩, 36) := ⟨⟨by decide +kernel, by decide +kernel⟩, List.mem_of_getElem? (i := 1244) (by decide +kernel), List.mem_of_getElem? (i := 1466) (by decide +kernel), List.mem_of_getElem? (i := 1467) (by decide +kernel)⟩
theorem lw_p59 : lw_okq (⟨"TextSwitchCompilerModel", "does", "(I)Z"⟩, 36) := ⟨⟨by decide +kernel, by decide +kernel⟩, List.mem_of_getElem? (i := 1244) (by decide +kernel), List.mem_of_getElem? (i := 1474) (by decide +kernel), List.mem_of_getElem? (i := 1475) (by decide +kernel)⟩
theorem lw_p60 : lw_okq (⟨"TextSwitchCompilerModel", "rank", "(I)I"⟩, 36) := ⟨⟨by decide +kernel, by decide +kernel⟩, List.mem_of_getElem? (i := 1244) (by decide +kernel), List.mem_of_getElem? (i := 1487) (by decide +kernel), List.mem_of_getElem? (i := 1488) (by decide +kernel)⟩
theorem lw_p61 : lw_okq (⟨"TextSwitchCompilerModel", "isLess", "(II)Z"⟩, 36) := ⟨⟨by decide +kernel, by decide +kernel⟩, List.mem_of_getElem? (i := 1244) (by decide +kernel), List.mem_of_getElem? (i := 1491) (by decide +kernel), List.mem_of_getElem? (i := 1492) (by decide +kernel)⟩
theorem lw_p62 : lw_okq (⟨"TextSwitchCompilerModel", "differ", "(II)I"⟩, 36) := ⟨⟨by decide +kernel, by decide +kernel⟩, List.mem_of_getElem? (i := 1244) (by decide +kernel), List.mem_of_getElem? (i := 1495) (by decide +kernel), List.mem_of_getElem? (i := 1496) (by decide +kernel)⟩
theorem lw_p63 : lw_okq (⟨"TextSwitchCompilerModel", "neighbours", "(I)I"⟩, 36) := ⟨⟨by decide +kernel, by decide +kernel⟩, List.mem_of_getElem? (i := 1244) (by decide +kernel), List.mem_of_getElem? (i := 1500) (by decide +kernel), List.mem_of_getElem? (i := 1501) (by decide +kernel)⟩
def lw_privs_4 : List (MethodName × Nat) := [(⟨"TextSwitchCompilerModel", "addKey", "(III)I"⟩, 36), (⟨"TextSwitchCompilerModel", "isKey", "(I)Z"⟩, 36), (⟨"TextSwitchCompilerModel", "removeKey", "(I)V"⟩, 36), (⟨"TextSwitchCompilerModel", "readCommand", "()V"⟩, 36), (⟨"TextSwitchCompilerModel", "word", "()I"⟩, 36), (⟨"TextSwitchCompilerModel", "here", "()I"⟩, 36), (⟨"TextSwitchCompilerModel", "isWord", "(ILjava/lang/String;)Z"⟩, 36), (⟨"TextSwitchCompilerModel", "wants", "(I)V"⟩, 36), (⟨"TextSwitchCompilerModel", "key", "()V"⟩, 36), (⟨"TextSwitchCompilerModel", "branchDigit", "()I"⟩, 36), (⟨"TextSwitchCompilerModel", "number", "(II)I"⟩, 36), (⟨"TextSwitchCompilerModel", "does", "(I)Z"⟩, 36), (⟨"TextSwitchCompilerModel", "rank", "(I)I"⟩, 36), (⟨"TextSwitchCompilerModel", "isLess", "(II)Z"⟩, 36), (⟨"TextSwitchCompilerModel", "differ", "(II)I"⟩, 36), (⟨"TextSwitchCompilerModel", "neighbours", "(I)I"⟩, 36)]
theorem lw_r4 : ∀ q ∈ lw_privs_4, lw_okq q := List.forall_mem_cons.mpr ⟨lw_p48, List.forall_mem_cons.mpr ⟨lw_p49, List.forall_mem_cons.mpr ⟨lw_p50, List.forall_mem_cons.mpr ⟨lw_p51, List.forall_mem_cons.mpr ⟨lw_p52, List.forall_mem_cons.mpr ⟨lw_p53, List.forall_mem_cons.mpr ⟨lw_p54, List.forall_mem_cons.mpr ⟨lw_p55, List.forall_mem_cons.mpr ⟨lw_p56, List.forall_mem_cons.mpr ⟨lw_p57, List.forall_mem_cons.mpr ⟨lw_p58, List.forall_mem_cons.mpr ⟨lw_p59, List.forall_mem_cons.mpr ⟨lw_p60, List.forall_mem_cons.mpr ⟨lw_p61, List.forall_mem_cons.mpr ⟨lw_p62, List.forall_mem_cons.mpr ⟨lw_p63, fun _ h => absurd h List.not_mem_nil⟩⟩⟩⟩⟩⟩⟩⟩⟩⟩⟩⟩⟩⟩⟩⟩
theorem lw_p64 : lw_okq (⟨"TextSwitchCompilerModel", "ofLength", "(I)[Z"⟩, 36) := ⟨⟨by decide +kernel, by decide +kernel⟩, List.mem_of_getElem? (i := 1244) (by decide +kernel), List.mem_of_getElem? (i := 1522) (by decide +kernel), List.mem_of_getElem? (i := 1523) (by decide +kernel)⟩
theorem lw_p65 : lw_okq (⟨"TextSwitchCompilerModel", "marked", "([Z)I"⟩, 36) := ⟨⟨by decide +kernel, by decide +kernel⟩, List.mem_of_getElem? (i := 1244) (by decide +kernel), List.mem_of_getElem? (i := 1526) (by decide +kernel), List.mem_of_getElem? (i := 1527) (by decide +kernel)⟩
theorem lw_p66 : lw_okq (⟨"TextSwitchCompilerModel", "measure", "([ZII)V"⟩, 36) := ⟨⟨by decide +kernel, by decide +kernel⟩, List.mem_of_getElem? (i := 1244) (by decide +kernel), List.mem_of_getElem? (i := 1530) (by decide +kernel), List.mem_of_getElem? (i := 1531) (by decide +kernel)⟩
theorem lw_p67 : lw_okq (⟨"TextSwitchCompilerModel", "positionOf", "([ZI)I"⟩, 36) := ⟨⟨by decide +kernel, by decide +kernel⟩, List.mem_of_getElem? (i := 1244) (by decide +kernel), List.mem_of_getElem? (i := 1535) (by decide +kernel), List.mem_of_getElem? (i := 1536) (by decide +kernel)⟩
theorem lw_p68 : lw_okq (⟨"TextSwitchCompilerModel", "child", "([ZII)[Z"⟩, 36) := ⟨⟨by decide +kernel, by decide +kernel⟩, List.mem_of_getElem? (i := 1244) (by decide +kernel), List.mem_of_getElem? (i := 1539) (by decide +kernel), List.mem_of_getElem? (i := 1540) (by decide +kernel)⟩
theorem lw_p69 : lw_okq (⟨"TextSwitchCompilerModel", "refusal", "(I)I"⟩, 36) := ⟨⟨by decide +kernel, by decide +kernel⟩, List.mem_of_getElem? (i := 1244) (by decide +kernel), List.mem_of_getElem? (i := 1548) (by decide +kernel), List.mem_of_getElem? (i := 1549) (by decide +kernel)⟩
theorem lw_p70 : lw_okq (⟨"TextSwitchCompilerModel", "canRun", "(I)Z"⟩, 36) := ⟨⟨by decide +kernel, by decide +kernel⟩, List.mem_of_getElem? (i := 1244) (by decide +kernel), List.mem_of_getElem? (i := 1552) (by decide +kernel), List.mem_of_getElem? (i := 1553) (by decide +kernel)⟩
theorem lw_p71 : lw_okq (⟨"TextSwitchCompilerModel", "prepare", "()V"⟩, 36) := ⟨⟨by decide +kernel, by decide +kernel⟩, List.mem_of_getElem? (i := 1244) (by decide +kernel), List.mem_of_getElem? (i := 1556) (by decide +kernel), List.mem_of_getElem? (i := 1557) (by decide +kernel)⟩
theorem lw_p72 : lw_okq (⟨"TextSwitchCompilerModel", "select", "()V"⟩, 36) := ⟨⟨by decide +kernel, by decide +kernel⟩, List.mem_of_getElem? (i := 1244) (by decide +kernel), List.mem_of_getElem? (i := 1560) (by decide +kernel), List.mem_of_getElem? (i := 1561) (by decide +kernel)⟩
theorem lw_p73 : lw_okq (⟨"TextSwitchCompilerModel", "separates", "(I)Z"⟩, 36) := ⟨⟨by decide +kernel, by decide +kernel⟩, List.mem_of_getElem? (i := 1244) (by decide +kernel), List.mem_of_getElem? (i := 1570) (by decide +kernel), List.mem_of_getElem? (i := 1571) (by decide +kernel)⟩
theorem lw_p74 : lw_okq (⟨"TextSwitchCompilerModel", "fillsTable", "()Z"⟩, 36) := ⟨⟨by decide +kernel, by decide +kernel⟩, List.mem_of_getElem? (i := 1244) (by decide +kernel), List.mem_of_getElem? (i := 1574) (by decide +kernel), List.mem_of_getElem? (i := 1575) (by decide +kernel)⟩
theorem lw_p75 : lw_okq (⟨"TextSwitchCompilerModel", "takeKey", "(I)V"⟩, 36) := ⟨⟨by decide +kernel, by decide +kernel⟩, List.mem_of_getElem? (i := 1244) (by decide +kernel), List.mem_of_getElem? (i := 1578) (by decide +kernel), List.mem_of_getElem? (i := 1579) (by decide +kernel)⟩
theorem lw_p76 : lw_okq (⟨"TextSwitchCompilerModel", "hashOfText", "(I)I"⟩, 36) := ⟨⟨by decide +kernel, by decide +kernel⟩, List.mem_of_getElem? (i := 1244) (by decide +kernel), List.mem_of_getElem? (i := 1582) (by decide +kernel), List.mem_of_getElem? (i := 1583) (by decide +kernel)⟩
theorem lw_p77 : lw_okq (⟨"TextSwitchCompilerModel", "findsDisplacement", "(I)Z"⟩, 36) := ⟨⟨by decide +kernel, by decide +kernel⟩, List.mem_of_getElem? (i := 1244) (by decide +kernel), List.mem_of_getElem? (i := 1588) (by decide +kernel), List.mem_of_getElem? (i := 1589) (by decide +kernel)⟩
theorem lw_p78 : lw_okq (⟨"TextSwitchCompilerModel", "takes", "(II)Z"⟩, 36) := ⟨⟨by decide +kernel, by decide +kernel⟩, List.mem_of_getElem? (i := 1244) (by decide +kernel), List.mem_of_getElem? (i := 1592) (by decide +kernel), List.mem_of_getElem? (i := 1593) (by decide +kernel)⟩
theorem lw_p79 : lw_okq (⟨"TextSwitchCompilerModel", "slotOfText", "(I)I"⟩, 36) := ⟨⟨by decide +kernel, by decide +kernel⟩, List.mem_of_getElem? (i := 1244) (by decide +kernel), List.mem_of_getElem? (i := 1596) (by decide +kernel), List.mem_of_getElem? (i := 1597) (by decide +kernel)⟩
def lw_privs_5 : List (MethodName × Nat) := [(⟨"TextSwitchCompilerModel", "ofLength", "(I)[Z"⟩, 36), (⟨"TextSwitchCompilerModel", "marked", "([Z)I"⟩, 36), (⟨"TextSwitchCompilerModel", "measure", "([ZII)V"⟩, 36), (⟨"TextSwitchCompilerModel", "positionOf", "([ZI)I"⟩, 36), (⟨"TextSwitchCompilerModel", "child", "([ZII)[Z"⟩, 36), (⟨"TextSwitchCompilerModel", "refusal", "(I)I"⟩, 36), (⟨"TextSwitchCompilerModel", "canRun", "(I)Z"⟩, 36), (⟨"TextSwitchCompilerModel", "prepare", "()V"⟩, 36), (⟨"TextSwitchCompilerModel", "select", "()V"⟩, 36), (⟨"TextSwitchCompilerModel", "separates", "(I)Z"⟩, 36), (⟨"TextSwitchCompilerModel", "fillsTable", "()Z"⟩, 36), (⟨"TextSwitchCompilerModel", "takeKey", "(I)V"⟩, 36), (⟨"TextSwitchCompilerModel", "hashOfText", "(I)I"⟩, 36), (⟨"TextSwitchCompilerModel", "findsDisplacement", "(I)Z"⟩, 36), (⟨"TextSwitchCompilerModel", "takes", "(II)Z"⟩, 36), (⟨"TextSwitchCompilerModel", "slotOfText", "(I)I"⟩, 36)]
theorem lw_r5 : ∀ q ∈ lw_privs_5, lw_okq q := List.forall_mem_cons.mpr ⟨lw_p64, List.forall_mem_cons.mpr ⟨lw_p65, List.forall_mem_cons.mpr ⟨lw_p66, List.forall_mem_cons.mpr ⟨lw_p67, List.forall_mem_cons.mpr ⟨lw_p68, List.forall_mem_cons.mpr ⟨lw_p69, List.forall_mem_cons.mpr ⟨lw_p70, List.forall_mem_cons.mpr ⟨lw_p71, List.forall_mem_cons.mpr ⟨lw_p72, List.forall_mem_cons.mpr ⟨lw_p73, List.forall_mem_cons.mpr ⟨lw_p74, List.forall_mem_cons.mpr ⟨lw_p75, List.forall_mem_cons.mpr ⟨lw_p76, List.forall_mem_cons.mpr ⟨lw_p77, List.forall_mem_cons.mpr ⟨lw_p78, List.forall_mem_cons.mpr ⟨lw_p79, fun _ h => absurd h List.not_mem_nil⟩⟩⟩⟩⟩⟩⟩⟩⟩⟩⟩⟩⟩⟩⟩⟩
theorem lw_p80 : lw_okq (⟨"TextSwitchCompilerModel", "takeBuffer", "()V"⟩, 36) := ⟨⟨by decide +kernel, by decide +kernel⟩, List.mem_of_getElem? (i := 1244) (by decide +kernel), List.mem_of_getElem? (i := 1600) (by decide +kernel), List.mem_of_getElem? (i := 1601) (by decide +kernel)⟩
theorem lw_p81 : lw_okq (⟨"TextSwitchCompilerModel", "run", "(I)I"⟩, 36) := ⟨⟨by decide +kernel, by decide +kernel⟩, List.mem_of_getElem? (i := 1244) (by decide +kernel), List.mem_of_getElem? (i := 1604) (by decide +kernel), List.mem_of_getElem? (i := 1605) (by decide +kernel)⟩
theorem lw_p82 : lw_okq (⟨"TextSwitchCompilerModel", "linear", "()I"⟩, 36) := ⟨⟨by decide +kernel, by decide +kernel⟩, List.mem_of_getElem? (i := 1244) (by decide +kernel), List.mem_of_getElem? (i := 1608) (by decide +kernel), List.mem_of_getElem? (i := 1609) (by decide +kernel)⟩
theorem lw_p83 : lw_okq (⟨"TextSwitchCompilerModel", "matches", "(I)Z"⟩, 36) := ⟨⟨by decide +kernel, by decide +kernel⟩, List.mem_of_getElem? (i := 1244) (by decide +kernel), List.mem_of_getElem? (i := 1612) (by decide +kernel), List.mem_of_getElem? (i := 1613) (by decide +kernel)⟩
theorem lw_p84 : lw_okq (⟨"TextSwitchCompilerModel", "search", "()I"⟩, 36) := ⟨⟨by decide +kernel, by decide +kernel⟩, List.mem_of_getElem? (i := 1244) (by decide +kernel), List.mem_of_getElem? (i := 1616) (by decide +kernel), List.mem_of_getElem? (i := 1617) (by decide +kernel)⟩
theorem lw_p85 : lw_okq (⟨"TextSwitchCompilerModel", "keyOfRank", "(I)I"⟩, 36) := ⟨⟨by decide +kernel, by decide +kernel⟩, List.mem_of_getElem? (i := 1244) (by decide +kernel), List.mem_of_getElem? (i := 1620) (by decide +kernel), List.mem_of_getElem? (i := 1621) (by decide +kernel)⟩
theorem lw_p86 : lw_okq (⟨"TextSwitchCompilerModel", "compares", "(I)I"⟩, 36) := ⟨⟨by decide +kernel, by decide +kernel⟩, List.mem_of_getElem? (i := 1244) (by decide +kernel), List.mem_of_getElem? (i := 1624) (by decide +kernel), List.mem_of_getElem? (i := 1625) (by decide +kernel)⟩
theorem lw_p87 : lw_okq (⟨"TextSwitchCompilerModel", "climb", "()I"⟩, 36) := ⟨⟨by decide +kernel, by decide +kernel⟩, List.mem_of_getElem? (i := 1244) (by decide +kernel), List.mem_of_getElem? (i := 1628) (by decide +kernel), List.mem_of_getElem? (i := 1629) (by decide +kernel)⟩
theorem lw_p88 : lw_okq (⟨"TextSwitchCompilerModel", "onlyOne", "([Z)I"⟩, 36) := ⟨⟨by decide +kernel, by decide +kernel⟩, List.mem_of_getElem? (i := 1244) (by decide +kernel), List.mem_of_getElem? (i := 1632) (by decide +kernel), List.mem_of_getElem? (i := 1633) (by decide +kernel)⟩
theorem lw_p89 : lw_okq (⟨"TextSwitchCompilerModel", "hashed", "()I"⟩, 36) := ⟨⟨by decide +kernel, by decide +kernel⟩, List.mem_of_getElem? (i := 1244) (by decide +kernel), List.mem_of_getElem? (i := 1636) (by decide +kernel), List.mem_of_getElem? (i := 1637) (by decide +kernel)⟩
theorem lw_p90 : lw_okq (⟨"TextSwitchCompilerModel", "costOf", "(I)I"⟩, 36) := ⟨⟨by decide +kernel, by decide +kernel⟩, List.mem_of_getElem? (i := 1244) (by decide +kernel), List.mem_of_getElem? (i := 1652) (by decide +kernel), List.mem_of_getElem? (i := 1653) (by decide +kernel)⟩
theorem lw_p91 : lw_okq (⟨"TextSwitchCompilerModel", "hasTable", "()Z"⟩, 36) := ⟨⟨by decide +kernel, by decide +kernel⟩, List.mem_of_getElem? (i := 1244) (by decide +kernel), List.mem_of_getElem? (i := 1690) (by decide +kernel), List.mem_of_getElem? (i := 1691) (by decide +kernel)⟩
theorem lw_p92 : lw_okq (⟨"TextSwitchCompilerModel", "list", "(I)V"⟩, 36) := ⟨⟨by decide +kernel, by decide +kernel⟩, List.mem_of_getElem? (i := 1244) (by decide +kernel), List.mem_of_getElem? (i := 1723) (by decide +kernel), List.mem_of_getElem? (i := 1724) (by decide +kernel)⟩
theorem lw_p93 : lw_okq (⟨"TextSwitchCompilerModel", "put", "(I)V"⟩, 36) := ⟨⟨by decide +kernel, by decide +kernel⟩, List.mem_of_getElem? (i := 1244) (by decide +kernel), List.mem_of_getElem? (i := 1727) (by decide +kernel), List.mem_of_getElem? (i := 1728) (by decide +kernel)⟩
theorem lw_p94 : lw_okq (⟨"TextSwitchCompilerModel", "putEntry", "(I)V"⟩, 36) := ⟨⟨by decide +kernel, by decide +kernel⟩, List.mem_of_getElem? (i := 1244) (by decide +kernel), List.mem_of_getElem? (i := 1731) (by decide +kernel), List.mem_of_getElem? (i := 1732) (by decide +kernel)⟩
theorem lw_p95 : lw_okq (⟨"TextSwitchCompilerModel", "putText", "(I)V"⟩, 36) := ⟨⟨by decide +kernel, by decide +kernel⟩, List.mem_of_getElem? (i := 1244) (by decide +kernel), List.mem_of_getElem? (i := 1735) (by decide +kernel), List.mem_of_getElem? (i := 1736) (by decide +kernel)⟩
def lw_privs_6 : List (MethodName × Nat) := [(⟨"TextSwitchCompilerModel", "takeBuffer", "()V"⟩, 36), (⟨"TextSwitchCompilerModel", "run", "(I)I"⟩, 36), (⟨"TextSwitchCompilerModel", "linear", "()I"⟩, 36), (⟨"TextSwitchCompilerModel", "matches", "(I)Z"⟩, 36), (⟨"TextSwitchCompilerModel", "search", "()I"⟩, 36), (⟨"TextSwitchCompilerModel", "keyOfRank", "(I)I"⟩, 36), (⟨"TextSwitchCompilerModel", "compares", "(I)I"⟩, 36), (⟨"TextSwitchCompilerModel", "climb", "()I"⟩, 36), (⟨"TextSwitchCompilerModel", "onlyOne", "([Z)I"⟩, 36), (⟨"TextSwitchCompilerModel", "hashed", "()I"⟩, 36), (⟨"TextSwitchCompilerModel", "costOf", "(I)I"⟩, 36), (⟨"TextSwitchCompilerModel", "hasTable", "()Z"⟩, 36), (⟨"TextSwitchCompilerModel", "list", "(I)V"⟩, 36), (⟨"TextSwitchCompilerModel", "put", "(I)V"⟩, 36), (⟨"TextSwitchCompilerModel", "putEntry", "(I)V"⟩, 36), (⟨"TextSwitchCompilerModel", "putText", "(I)V"⟩, 36)]
theorem lw_r6 : ∀ q ∈ lw_privs_6, lw_okq q := List.forall_mem_cons.mpr ⟨lw_p80, List.forall_mem_cons.mpr ⟨lw_p81, List.forall_mem_cons.mpr ⟨lw_p82, List.forall_mem_cons.mpr ⟨lw_p83, List.forall_mem_cons.mpr ⟨lw_p84, List.forall_mem_cons.mpr ⟨lw_p85, List.forall_mem_cons.mpr ⟨lw_p86, List.forall_mem_cons.mpr ⟨lw_p87, List.forall_mem_cons.mpr ⟨lw_p88, List.forall_mem_cons.mpr ⟨lw_p89, List.forall_mem_cons.mpr ⟨lw_p90, List.forall_mem_cons.mpr ⟨lw_p91, List.forall_mem_cons.mpr ⟨lw_p92, List.forall_mem_cons.mpr ⟨lw_p93, List.forall_mem_cons.mpr ⟨lw_p94, List.forall_mem_cons.mpr ⟨lw_p95, fun _ h => absurd h List.not_mem_nil⟩⟩⟩⟩⟩⟩⟩⟩⟩⟩⟩⟩⟩⟩⟩⟩
theorem lw_p96 : lw_okq (⟨"TextSwitchCompilerModel", "putTrees", "()V"⟩, 36) := ⟨⟨by decide +kernel, by decide +kernel⟩, List.mem_of_getElem? (i := 1244) (by decide +kernel), List.mem_of_getElem? (i := 1739) (by decide +kernel), List.mem_of_getElem? (i := 1740) (by decide +kernel)⟩
theorem lw_p97 : lw_okq (⟨"TextSwitchCompilerModel", "putNumber", "(I)V"⟩, 36) := ⟨⟨by decide +kernel, by decide +kernel⟩, List.mem_of_getElem? (i := 1244) (by decide +kernel), List.mem_of_getElem? (i := 1743) (by decide +kernel), List.mem_of_getElem? (i := 1744) (by decide +kernel)⟩
theorem lw_p98 : lw_okq (⟨"TextSwitchCompilerModel", "putTree", "([ZI)V"⟩, 36) := ⟨⟨by decide +kernel, by decide +kernel⟩, List.mem_of_getElem? (i := 1244) (by decide +kernel), List.mem_of_getElem? (i := 1747) (by decide +kernel), List.mem_of_getElem? (i := 1748) (by decide +kernel)⟩
theorem lw_p99 : lw_okq (⟨"TextSwitchCompilerModel", "putTable", "()V"⟩, 36) := ⟨⟨by decide +kernel, by decide +kernel⟩, List.mem_of_getElem? (i := 1244) (by decide +kernel), List.mem_of_getElem? (i := 1751) (by decide +kernel), List.mem_of_getElem? (i := 1752) (by decide +kernel)⟩
def lw_privs_7 : List (MethodName × Nat) := [(⟨"TextSwitchCompilerModel", "putTrees", "()V"⟩, 36), (⟨"TextSwitchCompilerModel", "putNumber", "(I)V"⟩, 36), (⟨"TextSwitchCompilerModel", "putTree", "([ZI)V"⟩, 36), (⟨"TextSwitchCompilerModel", "putTable", "()V"⟩, 36)]
theorem lw_r7 : ∀ q ∈ lw_privs_7, lw_okq q := List.forall_mem_cons.mpr ⟨lw_p96, List.forall_mem_cons.mpr ⟨lw_p97, List.forall_mem_cons.mpr ⟨lw_p98, List.forall_mem_cons.mpr ⟨lw_p99, fun _ h => absurd h List.not_mem_nil⟩⟩⟩⟩
def lw_privs : List (MethodName × Nat) := lw_privs_1 ++ (lw_privs_2 ++ (lw_privs_3 ++ (lw_privs_4 ++ (lw_privs_5 ++ (lw_privs_6 ++ (lw_privs_7))))))
def lw_tbl : List Cond := k2_sels lw_privs ++ tables_1
theorem lw_privs_ok : ∀ q ∈ lw_privs, lw_okq q := by
  show ∀ q ∈ lw_privs_1 ++ (lw_privs_2 ++ (lw_privs_3 ++ (lw_privs_4 ++ (lw_privs_5 ++ (lw_privs_6 ++ (lw_privs_7)))))), lw_okq q
  exact List.forall_mem_append.mpr ⟨lw_r1, List.forall_mem_append.mpr ⟨lw_r2, List.forall_mem_append.mpr ⟨lw_r3, List.forall_mem_append.mpr ⟨lw_r4, List.forall_mem_append.mpr ⟨lw_r5, List.forall_mem_append.mpr ⟨lw_r6, lw_r7⟩⟩⟩⟩⟩⟩
/-- the streams that the claim lets the run draw from -/
abbrev lw_cs : List Choice := [Jvm.Choice.named "NaN.bits"]
theorem lw_bits : nanBits ∈ lw_cs := by first | decide | exact List.mem_cons_self | simp [lw_cs, nanBits]
-- ===== end of PART A; then your names; then what follows =====
end
section
/-! ===== BEGIN words of one list among another's, by their places ===== -/
theorem goodIn_r {big : List Cond} (ws : List Cond) (ps : List Nat) (hp : ws = ps.filterMap (fun i => big[i]?)) (h : ws.all goodWord = true) : GoodIn big ws := by
  intro w hw
  have h1 := List.all_eq_true.mp h w hw
  rw [hp] at hw
  obtain ⟨i, -, hi⟩ := List.mem_filterMap.mp hw
  have hm : w ∈ big := by first | exact List.mem_of_getElem? hi | exact List.getElem?_mem hi
  exact ⟨hm, good_of_word h1⟩
theorem goodIn_app {big a b : List Cond} (ha : GoodIn big a) (hb : GoodIn big b) : GoodIn big (a ++ b) := fun w h => (List.mem_append.mp h).elim (ha w) (hb w)
theorem goodIn_ca {big a b : List Cond} {c : Cond} (ha : GoodIn big (c :: a)) (hb : GoodIn big b) : GoodIn big (c :: (a ++ b)) := fun w h => (List.mem_cons.mp h).elim (fun e => ha w (List.mem_cons.mpr (Or.inl e))) (fun h => (List.mem_append.mp h).elim (fun h => ha w (List.mem_cons.mpr (Or.inr h))) (hb w))
theorem goodIn_sub {big ws : List Cond} (hm : ∀ w ∈ ws, w ∈ big) (h : ws.all goodWord = true) : GoodIn big ws := fun w hw => ⟨hm w hw, good_of_word (List.all_eq_true.mp h w hw)⟩
/-! ===== END ===== -/
/-! ===== BEGIN exceptions that leave a method, and their catching by the caller (launches without stack traces) ===== -/
section VXA
/-! The laws vx_back, vx_callV, vx_callS, vx_callSW, vx_throw0, vx_throwS follow proofs of the library, with one case more: JvmDerived/Free/Laws.lean (Back.of_free), Shelf42/LK1.lean (callV, callS), Shelf/KitTraced.lean (throwNew0V, throwNewS). -/
/-- where a method has thrown q: the class by its name, the cell, what was written, the world -/
def vx_T (XC : String → State → State → Prop) (st : State) (q : Addr) (t : State) (mc ms : Nat) (free : Addr → Prop) : Prop :=
  ∃ (E : String) (ce : Cell) (L : List Loc), XC E st t ∧ t.heap[q]? = some ce ∧ ce.vm = .none ∧ st.vm.findClass E = some ce.cls ∧ st.WarmedH t.vm ∧ st.sameButNew ({ t with vm := st.vm } : State) L mc ms ∧ ∀ z ∈ L, free z.base
def vx_Q (Qc : Array Value → State → Outcome → State → Prop) (XC : String → State → State → Prop) (mc ms : Nat) (free : Addr → Prop) : Array Value → State → Outcome → State → Prop := fun a st o t =>
  (Qc a st o t ∧ ∃ L, FrameEnd st o t L mc ms ∧ ∀ q ∈ L, free q.base) ∨ ∃ q, o = .threw q ∧ vx_T XC st q t mc ms free
/-- a callee that returns or throws -/
def vx_Met (l : Launch) (y : MethodName) (ws : List Cond) (rm : Room) (Pc : Array Value → State → Prop) (Qc : Array Value → State → Outcome → State → Prop) (XC : String → State → State → Prop) (mc ms : Nat) (free : Addr → Prop) : Prop :=
  MetFree l y (headSpec ws rm) Pc (fun _ _ _ _ _ => True) (vx_Q Qc XC mc ms free)
def vx_Post (XC : String → State → State → Prop) (mc ms : Nat) (free : Addr → Prop) : Pt → Array Value → Addr → Pt → Prop := fun A a q B =>
  ∃ (g : JFrame) (mk : MethodId) (t : State) (L : List Loc) (E : String) (ce : Cell), B.U.heap = t.heap ∧ B.U.vm = t.vm ∧ XC E (A.U.calling g mk a) t ∧ t.heap[q]? = some ce ∧ ce.vm = .none ∧ A.U.vm.findClass E = some ce.cls ∧ B.locs = A.locs ++ L ∧ (∀ z ∈ L, free z.base) ∧ B.cells = A.cells + mc ∧ B.slots = A.slots + ms
def vx_Back (l : Launch) (R : Room) (p : Program) (e : Env) (below : List Frame) (s : State) (sargs : Array Value) (y : MethodName) (len W9 : Nat)
    (Pre : Pt → Array Value → Prop) (Post : Pt → Array Value → Option Value → Pt → Prop) (PostX : Pt → Array Value → Addr → Pt → Prop) : Prop :=
  ∀ (m : MethodId) (meth : Method) (c : Code) (A : Pt) (g : JFrame) (ig : Instr) (mk : MethodId) (a : Array Value),
    Stand p l e R s m sargs below meth c A.U A.locs A.cells A.slots → g.method = m → g.locals.size = c.maxLocals → decode c.code g.pc = .ok (ig, len) →
    2 * g.monitorRoom + (g.stack.map fun v => v.category).sum ≤ W9 → A.U.methodNamed? y = some mk → Pre A a →
    (∃ (v : Option Value) (B : Pt), Stand p l e R s m sargs below meth c B.U B.locs B.cells B.slots ∧ Post A a v B ∧
      Steps p.tables e below (doInvoke e (A.U.setTop g) [] mk a).1 (B.U.setTop { g with pc := g.pc + len, stack := v.toList ++ g.stack })) ∨
    (∃ (q : Addr) (B : Pt), Stand p l e R s m sargs below meth c B.U B.locs B.cells B.slots ∧ PostX A a q B ∧
      Steps p.tables e below (doInvoke e (A.U.setTop g) [] mk a).1 ((B.U.setTop g).pushFrame (.throwing q)))
section Payer
variable {l : Launch} {R : Room} {p : Program} {e : Env} {below : List Frame} {s : State} {sargs : Array Value} {y : MethodName} {len W9 : Nat}
theorem vx_back {ws : List Cond} {rm : Room} {Pc : Array Value → State → Prop} {Qc : Array Value → State → Outcome → State → Prop} {XC : String → State → State → Prop} {mc ms : Nat} {free : Addr → Prop} {bytes : ByteArray} {maxL : Nat} {ret : Option FieldType}
    (hM : vx_Met l y ws rm Pc Qc XC mc ms free) (hblind : FrameBlind Pc) (hrc : rm.cells = mc) (hrs : rm.slots = ms)
    (hframes : rm.frames + 1 ≤ R.frames) (hlocals : W9 + (maxL + 11) + rm.locals ≤ R.locals)
    (hws : ∀ w ∈ ws, ∀ a' U, s.WarmedH U.vm → w.before a' U = true) (hcode : Cond.code y bytes maxL ret ∈ ws) (hinit : ∀ a' U, s.WarmedH U.vm → (Cond.initialized y.cls).before a' U = true) :
    vx_Back l R p e below s sargs y len W9 (PreOf R mc ms Pc) (PostOf Qc mc ms free) (vx_Post XC mc ms free) := by
  intro m meth c A g ig mk a X hg hsize hdg hW hn hp
  have h1 : (headSpec ws rm).pre.before a A.U = true := atoms_intro fun w hw => hws w hw _ _ X.warmed
  have h2 : (Cond.code y bytes maxL ret).before a A.U = true := hws _ hcode _ _ X.warmed
  have h3 : (Cond.initialized y.cls).before a A.U = true := hinit _ _ X.warmed
  have h4 : A.cells + (headSpec ws rm).room.cells ≤ R.cells := by rw [show (headSpec ws rm).room.cells = mc from hrc]; exact hp.1
  have h5 : A.slots + (headSpec ws rm).room.slots ≤ R.slots := by rw [show (headSpec ws rm).room.slots = ms from hrs]; exact hp.2.1
  have hPc : Pc a (A.U.calling g mk a) := hblind _ _ _ _ hp.2.2
  obtain ⟨U, Ls, c0, s0⟩ := A
  dsimp only [Pt.U, Pt.locs, Pt.cells, Pt.slots] at h1 h2 h3 h4 h5 X hn hPc ⊢
  obtain ⟨methY, cY, hmY, hcY, -, hlY, -, -, -, -⟩ := Cond.code_spec hn h2
  obtain ⟨kY, hkY, -⟩ := className_of_methodNamed hn
  have hinitY : kY.init = .initialized := Cond.initialized_spec (findClass_of_methodNamed hn) hkY h3
  have h : At U g.method c below := by rw [hg]; exact X.here
  have hlocals9 : W9 + (maxL + 11) + (headSpec ws rm).room.locals ≤ R.locals := hlocals
  have happ : (headSpec ws rm).appliesLoose y e.platform (U.calling g mk a) = true :=
    Spec.appliesLoose_calling (g := g) h hdg hn hkY hinitY
      (X.room_calling (g := g) (R' := (headSpec ws rm).room) hsize hmY hcY hframes (by rw [hlY]; omega) h4 h5) h1
  obtain ⟨mid, hmid⟩ := h.above
  have hfr : (U.setTop g).frames = (.java g :: mid) ++ below := by rw [State.frames_setTop' g h.top, hmid]; rfl
  obtain ⟨o, s₂, hsteps, -, hend, hq⟩ := Steps.callFree hM p X.admits X.cas X.clock (acts := []) hfr happ hPc trivial
  have hq' : vx_Q Qc XC mc ms free a (U.calling g mk a) o s₂ := hq
  rw [State.frames_setTop' g h.top] at hend
  obtain ⟨g₀, hg0⟩ := Option.isSome_iff_exists.mp h.top
  obtain ⟨r, hr⟩ := State.topJava?_eq_some.mp hg0
  have hr' : (({ U with heap := s₂.heap, slotsUsed := s₂.slotsUsed } : State).setVm s₂.vm).frames = .java g₀ :: r := hr
  rcases hq' with ⟨hqc, L, hfe, hL⟩ | ⟨q, rfl, E, ce, L, hx, hce, hcv, hcl, hW₂, hsm, hL⟩
  · obtain ⟨⟨v, rfl⟩, hW₂, e2, q2, q3, q4, q5, q6⟩ := id hfe
    have e3 : s₂ = ({ (U.calling g mk a).setFrames s₂.frames with heap := s₂.heap, slotsUsed := s₂.slotsUsed } : State).setVm s₂.vm := by
      have : s₂ = ({ s₂ with vm := (U.calling g mk a).vm } : State).setVm s₂.vm := rfl
      rw [e2] at this
      exact this
    obtain ⟨c₂, i₂, len₂, hc₂, hd₂, hf₂⟩ := hend
    have hW' : U.WarmedH s₂.vm := hW₂
    have hcc : c₂ = c := by
      have h1 : s₂.code? g.method = U.code? g.method := by
        rw [State.code?_eq, State.code?_eq, hW'.alike.method?]
      exact Option.some.inj (hc₂.symm.trans (h1.trans h.code))
    subst hcc
    have hlen : len₂ = len := by rw [hdg] at hd₂; cases hd₂; rfl
    subst hlen
    have hs₂ : s₂ = (({ U with heap := s₂.heap, slotsUsed := s₂.slotsUsed } : State).setVm s₂.vm).setTop { g with pc := g.pc + len₂, stack := v.toList ++ g.stack } := by
      refine e3.trans ?_
      rw [hf₂, State.calling_eq h.top, State.setFrames_setFrames, State.setTop_of_frames _ hr', hr]
      rfl
    have hsame : U.sameButNew ({ U with heap := s₂.heap, slotsUsed := s₂.slotsUsed } : State) L mc ms := by
      refine ⟨?_, q2, q3, q4, q5, q6⟩
      obtain ⟨t, ht, -⟩ := State.frames_cons hr
      show ({ U with heap := s₂.heap, slotsUsed := s₂.slotsUsed } : State) = { U.setFrames U.frames with heap := s₂.heap, slotsUsed := s₂.slotsUsed }
      rw [State.setFrames_self ht]
    subst hg
    refine Or.inl ⟨v, ⟨(({ U with heap := s₂.heap, slotsUsed := s₂.slotsUsed } : State).setVm s₂.vm), Ls ++ L, c0 + mc, s0 + ms⟩,
      ⟨X.admits, X.cas, X.clock, X.frames, X.room, X.hears, X.method, X.code, (X.here.setHeapUsed s₂.heap s₂.slotsUsed).setVm hW'.alike, X.tail, State.WarmedH.trans X.warmed hW', X.limits, X.bytes, X.same.trans (hsame.setVm s.vm)⟩,
      ⟨g, mk, s₂, L, rfl, rfl, hqc, rfl, hL, rfl, rfl⟩, ?_⟩
    show Steps p.tables e below _ ((({ U with heap := s₂.heap, slotsUsed := s₂.slotsUsed } : State).setVm s₂.vm).setTop { g with pc := g.pc + len₂, stack := v.toList ++ g.stack })
    rw [← hs₂]
    exact hsteps
  · obtain ⟨e2, q2, q3, q4, q5, q6⟩ := id hsm
    have e3 : s₂ = ({ (U.calling g mk a).setFrames s₂.frames with heap := s₂.heap, slotsUsed := s₂.slotsUsed } : State).setVm s₂.vm := by
      have : s₂ = ({ s₂ with vm := (U.calling g mk a).vm } : State).setVm s₂.vm := rfl
      rw [e2] at this
      exact this
    have hf₂ : s₂.frames = .throwing q :: .java g :: U.frames.tail := hend
    have hW' : U.WarmedH s₂.vm := hW₂
    have hs₂ : s₂ = ((({ U with heap := s₂.heap, slotsUsed := s₂.slotsUsed } : State).setVm s₂.vm).setTop g).pushFrame (.throwing q) := by
      refine e3.trans ?_
      rw [hf₂, State.calling_eq h.top, State.setFrames_setFrames, State.pushFrame, State.frames_setTop _ hr', State.setTop_of_frames _ hr', State.setFrames_setFrames, hr]
      rfl
    have hsame : U.sameButNew ({ U with heap := s₂.heap, slotsUsed := s₂.slotsUsed } : State) L mc ms := by
      refine ⟨?_, q2, q3, q4, q5, q6⟩
      obtain ⟨t, ht, -⟩ := State.frames_cons hr
      show ({ U with heap := s₂.heap, slotsUsed := s₂.slotsUsed } : State) = { U.setFrames U.frames with heap := s₂.heap, slotsUsed := s₂.slotsUsed }
      rw [State.setFrames_self ht]
    subst hg
    refine Or.inr ⟨q, ⟨(({ U with heap := s₂.heap, slotsUsed := s₂.slotsUsed } : State).setVm s₂.vm), Ls ++ L, c0 + mc, s0 + ms⟩,
      ⟨X.admits, X.cas, X.clock, X.frames, X.room, X.hears, X.method, X.code, (X.here.setHeapUsed s₂.heap s₂.slotsUsed).setVm hW'.alike, X.tail, State.WarmedH.trans X.warmed hW', X.limits, X.bytes, X.same.trans (hsame.setVm s.vm)⟩,
      ⟨g, mk, s₂, L, E, ce, rfl, rfl, hx, hce, hcv, hcl, rfl, hL, rfl, rfl⟩, ?_⟩
    show Steps p.tables e below _ (((({ U with heap := s₂.heap, slotsUsed := s₂.slotsUsed } : State).setVm s₂.vm).setTop g).pushFrame (.throwing q))
    rw [← hs₂]
    exact hsteps
end Payer
section Calls
variable {p : Program} {l : Launch} {e : Env} {R : Room} {s : State} {m : MethodId} {args : Array Value} {below : List Frame} {meth : Method} {c : Code} {T : State} {locs : List Loc} {cells slots : Nat}
theorem vx_callV (X : Stand p l e R s m args below meth c T locs cells slots) (hexec : p.tables.exec = Jvm.exec) {own C : String} {index : Nat} {y : MethodName} {bytes : ByteArray} {maxL : Nat} {ret : Option FieldType}
    (hown : s.vm.findClass own = some m.cls) (hlink : (Cond.methodLink own index y).before args s = true) (hinst : (Cond.instanceMethod y).before args s = true) (hsel : (Cond.selects C y y).before args s = true)
    (hcode : (Cond.code y bytes maxL ret).before args s = true) (hy : y.cls ≠ "java/lang/invoke/MethodHandle" ∧ y.cls ≠ "java/lang/invoke/VarHandle")
    {W9 : Nat} {Pre : Pt → Array Value → Prop} {Post : Pt → Array Value → Option Value → Pt → Prop} {PostX : Pt → Array Value → Addr → Pt → Prop} (hK : vx_Back l R p e below s args y 3 W9 Pre Post PostX)
    {b : Addr} {cellB : Cell} (hcell : T.heap[b]? = some cellB) (hobj : cellB.vm.isStatics = false) (hcls : s.vm.findClass C = some cellB.cls)
    {g : JFrame} (hg : g.method = m) (hsize : g.locals.size = c.maxLocals) {argsL rest : List Value} (hlen : ∀ sig, parseMethodDescriptor y.desc = some sig → argsL.length = sig.parameters.length)
    (hstack : g.stack = argsL.reverse ++ .ref b :: rest) (hW : 2 * g.monitorRoom + (rest.map fun v => v.category).sum ≤ W9) (hdg : decode c.code g.pc = .ok (.invokevirtual index, 3))
    (hpre : ∀ vm₁, s.WarmedH vm₁ → Pre ⟨T.setVm vm₁, locs, cells, slots⟩ (Value.ref b :: argsL).toArray) :
    (∃ (v : Option Value) (vm₁ : Vm) (B : Pt), s.WarmedH vm₁ ∧ Stand p l e R s m args below meth c B.U B.locs B.cells B.slots ∧ Post ⟨T.setVm vm₁, locs, cells, slots⟩ (Value.ref b :: argsL).toArray v B ∧
      ∀ target, Steps p.tables e below (B.U.setTop { g with pc := g.pc + 3, stack := v.toList ++ rest }) target → Steps p.tables e below (T.setTop g) target) ∨
    (∃ (q : Addr) (vm₁ : Vm) (B : Pt), s.WarmedH vm₁ ∧ Stand p l e R s m args below meth c B.U B.locs B.cells B.slots ∧ PostX ⟨T.setVm vm₁, locs, cells, slots⟩ (Value.ref b :: argsL).toArray q B ∧
      Steps p.tables e below (T.setTop g) ((B.U.setTop { g with stack := rest }).pushFrame (.throwing q))) := by
  obtain ⟨mk, methM, hnamed, hmethM, hstM, habM⟩ := Cond.instanceMethod_spec hinst
  obtain ⟨methM', cM, hmethM', -, -, -, -, -, -, hsigM⟩ := Cond.code_spec hnamed hcode
  cases hmethM.symm.trans hmethM'
  obtain ⟨c2, r2, m2, q1, q2, q3, q4, kP, hkP, hkPi⟩ := Cond.selects_spec hsel
  cases hcls.symm.trans q1
  cases (State.methodFound?_of_named hnamed hy).symm.trans q2
  cases hnamed.symm.trans q3
  have hselP : selectMethod e.platform s.vm cellB.cls mk = .method mk := by rw [Launch.admits_selectMethod X.admits]; exact q4
  obtain ⟨vm₁, X₁, hstep₁⟩ := X.invokevirtual hexec hown hlink hnamed hmethM hstM hkP hkPi hy (a := b) (cell := cellB) hcell
    (fun z h => by rw [h] at hobj; cases hobj) hselP hmethM habM hkP hkPi (g := g) hg (argsL := argsL) (rest := rest) (hlen _ hsigM) hstack hdg
  rcases hK m meth c ⟨T.setVm vm₁, locs, cells, slots⟩ { g with stack := rest } (.invokevirtual index) mk (Value.ref b :: argsL).toArray X₁ hg hsize hdg hW (X₁.named hnamed) (hpre vm₁ X₁.warmed) with ⟨v, B, X', hpost, hsteps⟩ | ⟨q, B, X', hpost, hsteps⟩
  · exact Or.inl ⟨v, vm₁, B, X₁.warmed, X', hpost, fun target h => hstep₁ _ fun acts => by rw [doInvoke_state]; exact hsteps.trans h⟩
  · exact Or.inr ⟨q, vm₁, B, X₁.warmed, X', hpost, hstep₁ _ fun acts => by rw [doInvoke_state]; exact hsteps⟩
theorem vx_callS (X : Stand p l e R s m args below meth c T locs cells slots) (hexec : p.tables.exec = Jvm.exec) {own : String} {index : Nat} {y : MethodName} {bytes : ByteArray} {maxL : Nat} {ret : Option FieldType}
    (hown : s.vm.findClass own = some m.cls) (hlink : (Cond.methodLink own index y).before args s = true) (hstat : (Cond.static y).before args s = true) (hinit : (Cond.initialized y.cls).before args s = true)
    (hcode : (Cond.code y bytes maxL ret).before args s = true) (hy : y.cls ≠ "java/lang/invoke/MethodHandle" ∧ y.cls ≠ "java/lang/invoke/VarHandle")
    {W9 : Nat} {Pre : Pt → Array Value → Prop} {Post : Pt → Array Value → Option Value → Pt → Prop} {PostX : Pt → Array Value → Addr → Pt → Prop} (hK : vx_Back l R p e below s args y 3 W9 Pre Post PostX)
    {g : JFrame} (hg : g.method = m) (hsize : g.locals.size = c.maxLocals) {argsL rest : List Value} (hlen : ∀ sig, parseMethodDescriptor y.desc = some sig → argsL.length = sig.parameters.length)
    (hstack : g.stack = argsL.reverse ++ rest) (hW : 2 * g.monitorRoom + (rest.map fun v => v.category).sum ≤ W9) (hdg : decode c.code g.pc = .ok (.invokestatic index, 3))
    (hpre : ∀ vm₁, s.WarmedH vm₁ → Pre ⟨T.setVm vm₁, locs, cells, slots⟩ argsL.toArray) :
    (∃ (v : Option Value) (vm₁ : Vm) (B : Pt), s.WarmedH vm₁ ∧ Stand p l e R s m args below meth c B.U B.locs B.cells B.slots ∧ Post ⟨T.setVm vm₁, locs, cells, slots⟩ argsL.toArray v B ∧
      ∀ target, Steps p.tables e below (B.U.setTop { g with pc := g.pc + 3, stack := v.toList ++ rest }) target → Steps p.tables e below (T.setTop g) target) ∨
    (∃ (q : Addr) (vm₁ : Vm) (B : Pt), s.WarmedH vm₁ ∧ Stand p l e R s m args below meth c B.U B.locs B.cells B.slots ∧ PostX ⟨T.setVm vm₁, locs, cells, slots⟩ argsL.toArray q B ∧
      Steps p.tables e below (T.setTop g) ((B.U.setTop { g with stack := rest }).pushFrame (.throwing q))) := by
  obtain ⟨mk, hnamed⟩ := Cond.code_named hcode
  obtain ⟨methM, cM, hmethM, -, -, -, -, -, -, hsigM⟩ := Cond.code_spec hnamed hcode
  have hstatic : methM.isStatic = true := Cond.static_spec hnamed hmethM hstat
  obtain ⟨kP, hkP, -⟩ := className_of_methodNamed hnamed
  have hinitP : kP.init = .initialized := Cond.initialized_spec (findClass_of_methodNamed hnamed) hkP hinit
  obtain ⟨vm₁, X₁, hstep₁⟩ := X.invokestatic hexec hown hlink hnamed hmethM hstatic hkP hinitP hy (g := g) hg (argsL := argsL) (rest := rest) (hlen _ hsigM) hstack hdg
  rcases hK m meth c ⟨T.setVm vm₁, locs, cells, slots⟩ { g with stack := rest } (.invokestatic index) mk argsL.toArray X₁ hg hsize hdg hW (X₁.named hnamed) (hpre vm₁ X₁.warmed) with ⟨v, B, X', hpost, hsteps⟩ | ⟨q, B, X', hpost, hsteps⟩
  · exact Or.inl ⟨v, vm₁, B, X₁.warmed, X', hpost, fun target h => hstep₁ _ fun acts => by rw [doInvoke_state]; exact hsteps.trans h⟩
  · exact Or.inr ⟨q, vm₁, B, X₁.warmed, X', hpost, hstep₁ _ fun acts => by rw [doInvoke_state]; exact hsteps⟩
end Calls
theorem vx_cls {s : State} {T : State} {vm₁ : Vm} {E : String} {k : ClassId} (hW : s.WarmedH vm₁) (h : (T.setVm vm₁).vm.findClass E = some k) : s.vm.findClass E = some k := by
  have h1 : vm₁.findClass E = some k := h
  rw [hW.alike.findClass] at h1
  exact h1
/-- the method's frame g, with q thrown over it -/
def vx_W (p : Program) (l : Launch) (e : Env) (R : Room) (s : State) (m : MethodId) (args : Array Value) (below : List Frame) (meth : Method) (c : Code) (H : Heap) (locs : List Loc) (cells slots : Nat) (Q : State → Prop) (g : JFrame) (q : Addr) : Prop :=
  ∀ T : State, T.heap = H → Stand p l e R s m args below meth c T locs cells slots → ∃ t, Steps p.tables e below ((T.setTop g).pushFrame (.throwing q)) t ∧ Q t
def vx_Run (p : Program) (l : Launch) (e : Env) (R : Room) (s : State) (m : MethodId) (args : Array Value) (below : List Frame) (meth : Method) (c : Code) (H : Heap) (locs : List Loc) (cells slots mc ms : Nat) (g : JFrame) (rest : List Value) (Qa : State → Outcome → State → Prop) (XC : String → State → State → Prop) (free : Addr → Prop) : Prop :=
  ∀ T : State, T.heap = H → Stand p l e R s m args below meth c T locs cells slots →
    (∃ (v : Option Value) (st₀ t T' : State) (L : List Loc), st₀.heap = H ∧ Stand p l e R s m args below meth c T' (locs ++ L) (cells + mc) (slots + ms) ∧ (∀ q ∈ L, free q.base) ∧ T'.heap = t.heap ∧ T'.vm = t.vm ∧ Qa st₀ (.returned v) t ∧
      Goes p e below T g T' { g with pc := g.pc + 3, stack := v.toList ++ rest }) ∨
    (∃ (q : Addr) (st₀ t T' : State) (L : List Loc) (E : String) (ce : Cell), st₀.heap = H ∧ Stand p l e R s m args below meth c T' (locs ++ L) (cells + mc) (slots + ms) ∧ (∀ z ∈ L, free z.base) ∧ T'.heap = t.heap ∧ T'.vm = t.vm ∧ XC E st₀ t ∧ t.heap[q]? = some ce ∧ ce.vm = .none ∧ s.vm.findClass E = some ce.cls ∧
      Steps p.tables e below (T.setTop g) ((T'.setTop { g with stack := rest }).pushFrame (.throwing q)))
def vx_X {S : Type} (px : S → Prop) (B : String → S → State → Prop) (A : Nat → Prop) : String → State → State → Prop := fun E st t => ∃ u : S, px u ∧ B E u t ∧ va_F A st t
section Runs
variable {p : Program} {l : Launch} {e : Env} {R : Room} {s : State} {m : MethodId} {args : Array Value} {below : List Frame} {meth : Method} {c : Code} {H : Heap} {locs : List Loc} {cells slots : Nat}
variable {y : MethodName} {bytes cc : ByteArray} {maxL nL mc ms n index : Nat} {ret : Option FieldType} {ws : List Cond} {rm : Room} {Pc : Array Value → State → Prop} {Qc : Array Value → State → Outcome → State → Prop} {XC : String → State → State → Prop} {free : Addr → Prop} {Ts : List Cond} {own C : String} {b : Addr} {As rest : List Value} {g : JFrame}
theorem vx_callBack (cb : CallB R s args own index y bytes maxL ret ws rm mc ms n) (hM : vx_Met l y ws rm Pc Qc XC mc ms free) (hbl : FrameBlind Pc) : vx_Back l R p e below s args y 3 8 (PreOf R mc ms Pc) (PostOf Qc mc ms free) (vx_Post XC mc ms free) := by
  obtain ⟨hrc, hrs, hfr, hlo, hws, hcw, -, hini, -⟩ := cb
  exact vx_back (bytes := bytes) (maxL := maxL) (ret := ret) hM hbl hrc hrs hfr hlo hws hcw (fun a' U hW => word_at hW (Or.inl (by first | rfl | simp [Cond.onTables, Cond.keeps, Cond.steady])) hini)
theorem vx_runV (S : CallFix p m c cc nL s args Ts own) (hM : vx_Met l y ws rm Pc Qc XC mc ms free) (cw : CallW R s args own C index y bytes maxL ret ws rm mc ms n) (hp : PreV s H C b Pc As)
    (hg : g.method = m) (hn : As.length = n) (hsize : g.locals.size = nL) (hstack : g.stack = As.reverse ++ .ref b :: rest) (hW : 2 * g.monitorRoom + (rest.map fun v => v.category).sum ≤ 8) (hdg : decode cc g.pc = .ok (.invokevirtual index, 3)) (hf : cells + mc ≤ R.cells ∧ slots + ms ≤ R.slots) :
    vx_Run p l e R s m args below meth c H locs cells slots mc ms g rest (Qc (Value.ref b :: As).toArray) XC free := by
  have hK : vx_Back l R p e below s args y 3 8 (PreOf R mc ms Pc) (PostOf Qc mc ms free) (vx_Post XC mc ms free) := vx_callBack cw.1 hM hp.1
  obtain ⟨⟨-, -, -, -, -, -, hcode, -, hy, hlen, hl⟩, hin, hse⟩ := cw
  obtain ⟨hx, hb, hml, ho, -⟩ := S
  obtain ⟨-, ⟨cellB, hcB, hoB, hclB⟩, hPc⟩ := hp
  intro T hT X
  rcases vx_callV X hx (C := C) (bytes := bytes) (maxL := maxL) (ret := ret) ho hl hin hse hcode hy hK (by rw [hT]; exact hcB) hoB hclB hg (hsize.trans hml.symm) (argsL := As) (rest := rest) (fun sig h => hn.trans (hlen sig h)) hstack hW (by rw [hb]; exact hdg)
    (fun vm₁ hW₁ => ⟨hf.1, hf.2, hPc (T.setVm vm₁) hT hW₁⟩) with ⟨v, vm₁, ⟨U', l2, c2, s2⟩, hW₁, X', ⟨g', mk, t, L, e1, e2, hq, h1, hL, h2, h3⟩, st⟩ | ⟨q, vm₁, ⟨U', l2, c2, s2⟩, hW₁, X', ⟨g', mk, t, L, E, ce, e1, e2, hq, hce, hcv, hcl, h1, hL, h2, h3⟩, st⟩
  · dsimp only [Pt.U, Pt.locs, Pt.cells, Pt.slots] at X' e1 e2 h1 h2 h3 st
    subst h1; subst h2; subst h3
    exact Or.inl ⟨v, (T.setVm vm₁).calling g' mk (Value.ref b :: As).toArray, t, U', L, hT, X', hL, e1, e2, hq, st⟩
  · dsimp only [Pt.U, Pt.locs, Pt.cells, Pt.slots] at X' e1 e2 h1 h2 h3 st hcl
    subst h1; subst h2; subst h3
    exact Or.inr ⟨q, (T.setVm vm₁).calling g' mk (Value.ref b :: As).toArray, t, U', L, E, ce, hT, X', hL, e1, e2, hq, hce, hcv, vx_cls hW₁ hcl, st⟩
theorem vx_runS (S : CallFix p m c cc nL s args Ts own) (hM : vx_Met l y ws rm Pc Qc XC mc ms free) (cw : CallB R s args own index y bytes maxL ret ws rm mc ms n ∧ (Cond.static y).before args s = true) (hp : PreS s H Pc As)
    (hg : g.method = m) (hn : As.length = n) (hsize : g.locals.size = nL) (hstack : g.stack = As.reverse ++ rest) (hW : 2 * g.monitorRoom + (rest.map fun v => v.category).sum ≤ 8) (hdg : decode cc g.pc = .ok (.invokestatic index, 3)) (hf : cells + mc ≤ R.cells ∧ slots + ms ≤ R.slots) :
    vx_Run p l e R s m args below meth c H locs cells slots mc ms g rest (Qc As.toArray) XC free := by
  have hK : vx_Back l R p e below s args y 3 8 (PreOf R mc ms Pc) (PostOf Qc mc ms free) (vx_Post XC mc ms free) := vx_callBack cw.1 hM hp.1
  obtain ⟨⟨-, -, -, -, -, -, hcode, hini, hy, hlen, hl⟩, hstt⟩ := cw
  obtain ⟨hx, hb, hml, ho, -⟩ := S
  intro T hT X
  rcases vx_callS X hx (bytes := bytes) (maxL := maxL) (ret := ret) ho hl hstt hini hcode hy hK hg (hsize.trans hml.symm) (argsL := As) (rest := rest) (fun sig h => hn.trans (hlen sig h)) hstack hW (by rw [hb]; exact hdg)
    (fun vm₁ hW₁ => ⟨hf.1, hf.2, hp.2 (T.setVm vm₁) hT hW₁⟩) with ⟨v, vm₁, ⟨U', l2, c2, s2⟩, hW₁, X', ⟨g', mk, t, L, e1, e2, hq, h1, hL, h2, h3⟩, st⟩ | ⟨q, vm₁, ⟨U', l2, c2, s2⟩, hW₁, X', ⟨g', mk, t, L, E, ce, e1, e2, hq, hce, hcv, hcl, h1, hL, h2, h3⟩, st⟩
  · dsimp only [Pt.U, Pt.locs, Pt.cells, Pt.slots] at X' e1 e2 h1 h2 h3 st
    subst h1; subst h2; subst h3
    exact Or.inl ⟨v, (T.setVm vm₁).calling g' mk As.toArray, t, U', L, hT, X', hL, e1, e2, hq, st⟩
  · dsimp only [Pt.U, Pt.locs, Pt.cells, Pt.slots] at X' e1 e2 h1 h2 h3 st hcl
    subst h1; subst h2; subst h3
    exact Or.inr ⟨q, (T.setVm vm₁).calling g' mk As.toArray, t, U', L, E, ce, hT, X', hL, e1, e2, hq, hce, hcv, vx_cls hW₁ hcl, st⟩
end Runs
section Rows
variable {p : Program} {l : Launch} {e : Env} {R : Room} {s : State} {m : MethodId} {args : Array Value} {below : List Frame} {meth : Method} {c : Code} {H : Heap} {locs : List Loc} {cells slots : Nat} {Q : State → Prop}
variable {mc ms : Nat} {free : Addr → Prop} {A0 A1 : Nat → Prop} {H0 : Heap} {a : Array Value} {pc : Nat} {ls : Array Slot} {st0 rest : List Value}
theorem vx_keep {st₀ t T' : State} {L : List Loc} (h0 : st₀.heap = H) (e1 : T'.heap = t.heap) (hS : va_S A0 H0 H locs) (hA : ∀ q, q < H.size → A1 q → A0 q) (hf : ∀ q, free q → A0 q) (hL : ∀ q ∈ L, free q.base) (hF : va_F A1 st₀ t) :
    H.size ≤ T'.heap.size ∧ (∀ q : Nat, q < H.size → ¬ A1 q → T'.heap[q]? = H[q]?) ∧ va_S A0 H0 T'.heap (locs ++ L) := by
  obtain ⟨hz, hk⟩ := hF
  rw [h0] at hz hk
  exact ⟨by rw [e1]; exact hz, fun q h1 h2 => by rw [e1]; exact hk q h1 h2,
    ⟨Nat.le_trans hS.1 (by rw [e1]; exact hz), fun q h1 h2 => by rw [e1, hk q (Nat.lt_of_lt_of_le h1 hS.1) (fun z => h2 (hA q (Nat.lt_of_lt_of_le h1 hS.1) z))]; exact hS.2.1 q h1 h2, fun q hq => by
      rcases List.mem_append.mp hq with h | h
      · exact hS.2.2 q h
      · exact hf _ (hL q h)⟩⟩
theorem vx_calli {S SX : Type} {post : Int32 → S → Prop} {px : SX → Prop} {B : S → State → Prop} {BX : String → SX → State → Prop} {AX : Nat → Prop} (hr : vx_Run p l e R s m args below meth c H locs cells slots mc ms (F0 m pc ls st0) rest (va_Qi post B A1 a) (vx_X px BX AX) free) (hS : va_S A0 H0 H locs) (hA : ∀ q, q < H.size → A1 q → A0 q) (hf : ∀ q, free q → A0 q) (hAX : ∀ q, q < H.size → AX q → A0 q)
    (kx : ∀ (E : String) (ce : Cell) (q9 : Addr) (u : SX) (t : State) (H1 : Heap) (locs1 : List Loc), t.heap = H1 → s.vm.Alike t.vm → px u → BX E u t → H.size ≤ H1.size → (∀ q : Nat, q < H.size → ¬ AX q → H1[q]? = H[q]?) → va_S A0 H0 H1 locs1 → H1[q9]? = some ce → ce.vm = .none → s.vm.findClass E = some ce.cls → vx_W p l e R s m args below meth c H1 locs1 (cells + mc) (slots + ms) Q (F0 m pc ls rest) q9)
    (kk : ∀ (r : Int32) (u : S) (t : State) (H1 : Heap) (locs1 : List Loc), t.heap = H1 → s.vm.Alike t.vm → post r u → B u t → H.size ≤ H1.size → (∀ q : Nat, q < H.size → ¬ A1 q → H1[q]? = H[q]?) → va_S A0 H0 H1 locs1 → W p l e R s m args below meth c H1 locs1 (cells + mc) (slots + ms) Q (F0 m (pc + 3) ls (.int r :: rest))) : W p l e R s m args below meth c H locs cells slots Q (F0 m pc ls st0) := by
  intro T hT X
  rcases hr T hT X with ⟨v, st₀, t, T', L, h0, X', hL, e1, e2, ⟨⟨r, u, hv, hp, hb⟩, hF⟩, st⟩ | ⟨q, st₀, t, T', L, E, ce, h0, X', hL, e1, e2, ⟨u, hp, hb, hF⟩, hce, hcv, hcl, st⟩
  · cases hv
    obtain ⟨k1, k2, k3⟩ := vx_keep h0 e1 hS hA hf hL hF
    obtain ⟨t2, a1, b1⟩ := kk r u t T'.heap (locs ++ L) e1.symm (by rw [← e2]; exact X'.warmed.alike) hp hb k1 k2 k3 T' rfl X'
    exact ⟨t2, st t2 a1, b1⟩
  · obtain ⟨k1, k2, k3⟩ := vx_keep h0 e1 hS hAX hf hL hF
    obtain ⟨t2, a1, b1⟩ := kx E ce q u t T'.heap (locs ++ L) e1.symm (by rw [← e2]; exact X'.warmed.alike) hp hb k1 k2 k3 (by rw [e1]; exact hce) hcv hcl T' rfl X'
    exact ⟨t2, st.trans a1, b1⟩
theorem vx_calll {S SX : Type} {post : Int64 → S → Prop} {px : SX → Prop} {B : S → State → Prop} {BX : String → SX → State → Prop} {AX : Nat → Prop} (hr : vx_Run p l e R s m args below meth c H locs cells slots mc ms (F0 m pc ls st0) rest (va_Ql post B A1 a) (vx_X px BX AX) free) (hS : va_S A0 H0 H locs) (hA : ∀ q, q < H.size → A1 q → A0 q) (hf : ∀ q, free q → A0 q) (hAX : ∀ q, q < H.size → AX q → A0 q)
    (kx : ∀ (E : String) (ce : Cell) (q9 : Addr) (u : SX) (t : State) (H1 : Heap) (locs1 : List Loc), t.heap = H1 → s.vm.Alike t.vm → px u → BX E u t → H.size ≤ H1.size → (∀ q : Nat, q < H.size → ¬ AX q → H1[q]? = H[q]?) → va_S A0 H0 H1 locs1 → H1[q9]? = some ce → ce.vm = .none → s.vm.findClass E = some ce.cls → vx_W p l e R s m args below meth c H1 locs1 (cells + mc) (slots + ms) Q (F0 m pc ls rest) q9)
    (kk : ∀ (r : Int64) (u : S) (t : State) (H1 : Heap) (locs1 : List Loc), t.heap = H1 → s.vm.Alike t.vm → post r u → B u t → H.size ≤ H1.size → (∀ q : Nat, q < H.size → ¬ A1 q → H1[q]? = H[q]?) → va_S A0 H0 H1 locs1 → W p l e R s m args below meth c H1 locs1 (cells + mc) (slots + ms) Q (F0 m (pc + 3) ls (.long r :: rest))) : W p l e R s m args below meth c H locs cells slots Q (F0 m pc ls st0) := by
  intro T hT X
  rcases hr T hT X with ⟨v, st₀, t, T', L, h0, X', hL, e1, e2, ⟨⟨r, u, hv, hp, hb⟩, hF⟩, st⟩ | ⟨q, st₀, t, T', L, E, ce, h0, X', hL, e1, e2, ⟨u, hp, hb, hF⟩, hce, hcv, hcl, st⟩
  · cases hv
    obtain ⟨k1, k2, k3⟩ := vx_keep h0 e1 hS hA hf hL hF
    obtain ⟨t2, a1, b1⟩ := kk r u t T'.heap (locs ++ L) e1.symm (by rw [← e2]; exact X'.warmed.alike) hp hb k1 k2 k3 T' rfl X'
    exact ⟨t2, st t2 a1, b1⟩
  · obtain ⟨k1, k2, k3⟩ := vx_keep h0 e1 hS hAX hf hL hF
    obtain ⟨t2, a1, b1⟩ := kx E ce q u t T'.heap (locs ++ L) e1.symm (by rw [← e2]; exact X'.warmed.alike) hp hb k1 k2 k3 (by rw [e1]; exact hce) hcv hcl T' rfl X'
    exact ⟨t2, st.trans a1, b1⟩
theorem vx_callf {S SX : Type} {post : UInt32 → S → Prop} {px : SX → Prop} {B : S → State → Prop} {BX : String → SX → State → Prop} {AX : Nat → Prop} (hr : vx_Run p l e R s m args below meth c H locs cells slots mc ms (F0 m pc ls st0) rest (va_Qf post B A1 a) (vx_X px BX AX) free) (hS : va_S A0 H0 H locs) (hA : ∀ q, q < H.size → A1 q → A0 q) (hf : ∀ q, free q → A0 q) (hAX : ∀ q, q < H.size → AX q → A0 q)
    (kx : ∀ (E : String) (ce : Cell) (q9 : Addr) (u : SX) (t : State) (H1 : Heap) (locs1 : List Loc), t.heap = H1 → s.vm.Alike t.vm → px u → BX E u t → H.size ≤ H1.size → (∀ q : Nat, q < H.size → ¬ AX q → H1[q]? = H[q]?) → va_S A0 H0 H1 locs1 → H1[q9]? = some ce → ce.vm = .none → s.vm.findClass E = some ce.cls → vx_W p l e R s m args below meth c H1 locs1 (cells + mc) (slots + ms) Q (F0 m pc ls rest) q9)
    (kk : ∀ (r : UInt32) (u : S) (t : State) (H1 : Heap) (locs1 : List Loc), t.heap = H1 → s.vm.Alike t.vm → post r u → B u t → H.size ≤ H1.size → (∀ q : Nat, q < H.size → ¬ A1 q → H1[q]? = H[q]?) → va_S A0 H0 H1 locs1 → W p l e R s m args below meth c H1 locs1 (cells + mc) (slots + ms) Q (F0 m (pc + 3) ls (.float r :: rest))) : W p l e R s m args below meth c H locs cells slots Q (F0 m pc ls st0) := by
  intro T hT X
  rcases hr T hT X with ⟨v, st₀, t, T', L, h0, X', hL, e1, e2, ⟨⟨r, u, hv, hp, hb⟩, hF⟩, st⟩ | ⟨q, st₀, t, T', L, E, ce, h0, X', hL, e1, e2, ⟨u, hp, hb, hF⟩, hce, hcv, hcl, st⟩
  · cases hv
    obtain ⟨k1, k2, k3⟩ := vx_keep h0 e1 hS hA hf hL hF
    obtain ⟨t2, a1, b1⟩ := kk r u t T'.heap (locs ++ L) e1.symm (by rw [← e2]; exact X'.warmed.alike) hp hb k1 k2 k3 T' rfl X'
    exact ⟨t2, st t2 a1, b1⟩
  · obtain ⟨k1, k2, k3⟩ := vx_keep h0 e1 hS hAX hf hL hF
    obtain ⟨t2, a1, b1⟩ := kx E ce q u t T'.heap (locs ++ L) e1.symm (by rw [← e2]; exact X'.warmed.alike) hp hb k1 k2 k3 (by rw [e1]; exact hce) hcv hcl T' rfl X'
    exact ⟨t2, st.trans a1, b1⟩
theorem vx_calld {S SX : Type} {post : UInt64 → S → Prop} {px : SX → Prop} {B : S → State → Prop} {BX : String → SX → State → Prop} {AX : Nat → Prop} (hr : vx_Run p l e R s m args below meth c H locs cells slots mc ms (F0 m pc ls st0) rest (va_Qd post B A1 a) (vx_X px BX AX) free) (hS : va_S A0 H0 H locs) (hA : ∀ q, q < H.size → A1 q → A0 q) (hf : ∀ q, free q → A0 q) (hAX : ∀ q, q < H.size → AX q → A0 q)
    (kx : ∀ (E : String) (ce : Cell) (q9 : Addr) (u : SX) (t : State) (H1 : Heap) (locs1 : List Loc), t.heap = H1 → s.vm.Alike t.vm → px u → BX E u t → H.size ≤ H1.size → (∀ q : Nat, q < H.size → ¬ AX q → H1[q]? = H[q]?) → va_S A0 H0 H1 locs1 → H1[q9]? = some ce → ce.vm = .none → s.vm.findClass E = some ce.cls → vx_W p l e R s m args below meth c H1 locs1 (cells + mc) (slots + ms) Q (F0 m pc ls rest) q9)
    (kk : ∀ (r : UInt64) (u : S) (t : State) (H1 : Heap) (locs1 : List Loc), t.heap = H1 → s.vm.Alike t.vm → post r u → B u t → H.size ≤ H1.size → (∀ q : Nat, q < H.size → ¬ A1 q → H1[q]? = H[q]?) → va_S A0 H0 H1 locs1 → W p l e R s m args below meth c H1 locs1 (cells + mc) (slots + ms) Q (F0 m (pc + 3) ls (.double r :: rest))) : W p l e R s m args below meth c H locs cells slots Q (F0 m pc ls st0) := by
  intro T hT X
  rcases hr T hT X with ⟨v, st₀, t, T', L, h0, X', hL, e1, e2, ⟨⟨r, u, hv, hp, hb⟩, hF⟩, st⟩ | ⟨q, st₀, t, T', L, E, ce, h0, X', hL, e1, e2, ⟨u, hp, hb, hF⟩, hce, hcv, hcl, st⟩
  · cases hv
    obtain ⟨k1, k2, k3⟩ := vx_keep h0 e1 hS hA hf hL hF
    obtain ⟨t2, a1, b1⟩ := kk r u t T'.heap (locs ++ L) e1.symm (by rw [← e2]; exact X'.warmed.alike) hp hb k1 k2 k3 T' rfl X'
    exact ⟨t2, st t2 a1, b1⟩
  · obtain ⟨k1, k2, k3⟩ := vx_keep h0 e1 hS hAX hf hL hF
    obtain ⟨t2, a1, b1⟩ := kx E ce q u t T'.heap (locs ++ L) e1.symm (by rw [← e2]; exact X'.warmed.alike) hp hb k1 k2 k3 (by rw [e1]; exact hce) hcv hcl T' rfl X'
    exact ⟨t2, st.trans a1, b1⟩
theorem vx_callv {S SX : Type} {post : S → Prop} {px : SX → Prop} {B : S → State → Prop} {BX : String → SX → State → Prop} {AX : Nat → Prop} (hr : vx_Run p l e R s m args below meth c H locs cells slots mc ms (F0 m pc ls st0) rest (va_Qv post B A1 a) (vx_X px BX AX) free) (hS : va_S A0 H0 H locs) (hA : ∀ q, q < H.size → A1 q → A0 q) (hf : ∀ q, free q → A0 q) (hAX : ∀ q, q < H.size → AX q → A0 q)
    (kx : ∀ (E : String) (ce : Cell) (q9 : Addr) (u : SX) (t : State) (H1 : Heap) (locs1 : List Loc), t.heap = H1 → s.vm.Alike t.vm → px u → BX E u t → H.size ≤ H1.size → (∀ q : Nat, q < H.size → ¬ AX q → H1[q]? = H[q]?) → va_S A0 H0 H1 locs1 → H1[q9]? = some ce → ce.vm = .none → s.vm.findClass E = some ce.cls → vx_W p l e R s m args below meth c H1 locs1 (cells + mc) (slots + ms) Q (F0 m pc ls rest) q9)
    (kk : ∀ (u : S) (t : State) (H1 : Heap) (locs1 : List Loc), t.heap = H1 → s.vm.Alike t.vm → post u → B u t → H.size ≤ H1.size → (∀ q : Nat, q < H.size → ¬ A1 q → H1[q]? = H[q]?) → va_S A0 H0 H1 locs1 → W p l e R s m args below meth c H1 locs1 (cells + mc) (slots + ms) Q (F0 m (pc + 3) ls (rest))) : W p l e R s m args below meth c H locs cells slots Q (F0 m pc ls st0) := by
  intro T hT X
  rcases hr T hT X with ⟨v, st₀, t, T', L, h0, X', hL, e1, e2, ⟨⟨u, hv, hp, hb⟩, hF⟩, st⟩ | ⟨q, st₀, t, T', L, E, ce, h0, X', hL, e1, e2, ⟨u, hp, hb, hF⟩, hce, hcv, hcl, st⟩
  · cases hv
    obtain ⟨k1, k2, k3⟩ := vx_keep h0 e1 hS hA hf hL hF
    obtain ⟨t2, a1, b1⟩ := kk u t T'.heap (locs ++ L) e1.symm (by rw [← e2]; exact X'.warmed.alike) hp hb k1 k2 k3 T' rfl X'
    exact ⟨t2, st t2 a1, b1⟩
  · obtain ⟨k1, k2, k3⟩ := vx_keep h0 e1 hS hAX hf hL hF
    obtain ⟨t2, a1, b1⟩ := kx E ce q u t T'.heap (locs ++ L) e1.symm (by rw [← e2]; exact X'.warmed.alike) hp hb k1 k2 k3 (by rw [e1]; exact hce) hcv hcl T' rfl X'
    exact ⟨t2, st.trans a1, b1⟩
/-- caught by the row x of this method's table; the rows ahead don't take it -/
theorem vx_catch {own name : String} {E : String} {ce : Cell} {q : Addr} (hown : s.vm.findClass own = some m.cls) (pre : List ExceptionTableEntry) (x : ExceptionTableEntry) (suf : List ExceptionTableEntry) (hsplit : c.exceptionTable.toList = pre ++ x :: suf)
    (hpass : ∀ z ∈ pre, covers z pc = false ∨ (z.catchType ≠ 0 ∧ ∃ nm : String, (Cond.classLink own z.catchType nm).before args s = true ∧ va_Nc E nm s)) (hx : covers x pc = true) (h0 : x.catchType ≠ 0)
    (hlink : (Cond.classLink own x.catchType name).before args s = true) (hcast : (Cond.castable E name).before args s = true) (hcell : H[q]? = some ce) (hv : ce.vm = .none) (hcl : s.vm.findClass E = some ce.cls)
    (kk : W p l e R s m args below meth c H locs cells slots Q (F0 m x.handlerPc ls [.ref q])) : vx_W p l e R s m args below meth c H locs cells slots Q (F0 m pc ls rest) q := by
  intro T hT X
  have hpl : e.platform.magicAccessors = ({} : Platform).magicAccessors := by rw [X.admits.platform]
  obtain ⟨c3, c4, hc3, hc4, hasg⟩ := Cond.castable_spec hcast
  cases Option.some.inj (hc3.symm.trans hcl)
  obtain ⟨c5, hc5, hcl5⟩ := Cond.classLink_spec hown hlink e.platform hpl
  cases Option.some.inj (hc4.symm.trans hc5)
  obtain ⟨vm', X', st⟩ := X.thenCaughtThrough q (g := F0 m pc ls rest) rfl (Steps.refl _) (by rw [hT]; exact hcell) (by rw [hv]; rfl) (by obtain ⟨k9, h9, -⟩ := Vm.findClass_spec hcl; exact ⟨k9, h9⟩) pre x suf hsplit
    (fun z hz => by
      rcases hpass z hz with h | ⟨hz0, nm, hl1, hn1⟩
      · exact Or.inl h
      · obtain ⟨c6, hc6, hcl6⟩ := Cond.classLink_spec hown hl1 e.platform hpl
        obtain ⟨a8, b8, h1, h2, h3⟩ := hn1
        cases Option.some.inj (h1.symm.trans hcl)
        cases Option.some.inj (h2.symm.trans hc6)
        exact Or.inr ⟨hz0, _, hcl6, h3⟩) hx (Or.inr ⟨h0, c4, hcl5, hasg⟩)
  obtain ⟨t, a1, b1⟩ := kk (T.setVm vm') hT X'
  exact ⟨t, st.trans a1, b1⟩
end Rows
section Ends
variable {p : Program} {l : Launch} {e : Env} {R : Room} {s : State} {m : MethodId} {args : Array Value} {below : List Frame} {meth : Method} {c : Code} {H : Heap} {locs : List Loc} {cells slots : Nat} {Q : State → Prop}
variable {mc ms : Nat} {free : Addr → Prop} {A0 A1 : Nat → Prop} {H0 : Heap} {a : Array Value} {ls : Array Slot} {st0 rest : List Value}
variable {Qc : Array Value → State → Outcome → State → Prop} {XC : String → State → State → Prop}
/-- what a body that may throw owes at its end -/
def vx_MQ (below : List Frame) (Qc : Array Value → State → Outcome → State → Prop) (XC : String → State → State → Prop) (a : Array Value) (s : State) (mc ms : Nat) (free : Addr → Prop) : State → Prop := fun t =>
  ∃ o, t.status = .running ∧ Ended t below o ∧ vx_Q Qc XC mc ms free a s o t
theorem vx_ret {g : JFrame} {mc ms : Nat} (k : W p l e R s m args below meth c H locs cells slots (MQ below Qc args s mc ms free) g) : W p l e R s m args below meth c H locs cells slots (vx_MQ below Qc XC args s mc ms free) g := by
  intro T hT X
  obtain ⟨t, a1, o, b1, b2, b3, b4⟩ := k T hT X
  exact ⟨t, a1, o, b1, b2, Or.inl ⟨b3, b4⟩⟩
/-- not caught here: it goes on to the caller -/
theorem vx_widen {g : JFrame} {q : Addr} {k n : Nat} (h1 : cells ≤ k) (h2 : slots ≤ n) (kk : vx_W p l e R s m args below meth c H locs k n Q g q) : vx_W p l e R s m args below meth c H locs cells slots Q g q := fun T hT X => kk T hT (stand_widen X h1 h2)
theorem vx_out {pc : Nat} {E : String} {ce : Cell} {q : Addr} {mc ms : Nat} (hout : ∀ x ∈ c.exceptionTable.toList, covers x pc = false) (hlocks : meth.locks = false) (hcell : H[q]? = some ce) (hv : ce.vm = .none) (hcl : s.vm.findClass E = some ce.cls)
    (hx : ∀ t : State, t.heap = H → s.vm.Alike t.vm → XC E s t) (hf : ∀ z ∈ locs, free z.base) (hc : cells ≤ mc) (hs : slots ≤ ms) :
    vx_W p l e R s m args below meth c H locs cells slots (vx_MQ below Qc XC args s mc ms free) (F0 m pc ls rest) q := by
  intro T hT X
  obtain ⟨st1, hrun, hend, hW, hsm⟩ := X.leaveThrown q (g := F0 m pc ls rest) rfl rfl rfl hout hlocks
  have hcell9 : (T.setFrames (.throwing q :: below)).heap[q]? = some ce := by
    show T.heap[q]? = some ce
    rw [hT]; exact hcell
  exact ⟨_, st1, .threw q, hrun, hend, Or.inr ⟨q, rfl, E, ce, locs, hx _ hT hW.alike, hcell9, hv, hcl, hW, hsm.mono hc hs, hf⟩⟩
theorem vx_frame {U : State} {k n : Nat} (h : s.sameButNew ({ U with vm := s.vm } : State) locs k n) : s.heap.size ≤ U.heap.size ∧ ∀ q : Nat, q < s.heap.size → (∀ z ∈ locs, z.base ≠ q) → U.heap[q]? = s.heap[q]? := by
  obtain ⟨-, h2, -, -, -, h6⟩ := h
  refine ⟨h2, fun q hq hz => ?_⟩
  obtain ⟨c9, e1, e2, e3, e4⟩ := h6 q _ (Array.getElem?_eq_getElem hq)
  have hs : c9.slots = (s.heap[q]).slots := Array.ext_getElem? fun i => e4 i fun hm => hz _ hm rfl
  have h9 : c9 = s.heap[q] := by
    rw [hs] at e2
    exact e2
  have e5 : U.heap[q]? = some c9 := e1
  rw [e5, h9, Array.getElem?_eq_getElem hq]
/-- the words of a throw but the four that speak of the heap -/
def vx_no (w : Cond) : Bool := decide (w ≠ .isRef (.static Bundle.tN "UNASSIGNED_STACK" Bundle.steD)) && decide (w ≠ .isRef (.static Bundle.tN "SUPPRESSED_SENTINEL" Bundle.listD)) && decide (w ≠ .laysStatic Bundle.tN "UNASSIGNED_STACK" Bundle.steD) && decide (w ≠ .laysStatic Bundle.tN "SUPPRESSED_SENTINEL" Bundle.listD)
def vx_at0 (own : String) (ic : Nat) (X : String) (names : List String) : List Cond := (Bundle.ownAtoms0 own ic X names).filter vx_no
def vx_atS (own : String) (ic : Nat) (X : String) (names : List String) : List Cond := (Bundle.ownAtoms own ic X names).filter vx_no
/-- a word that the tables alone decide, or a good one -/
def vx_ot (w : Cond) : Bool := w.onTables || goodWord w
theorem vx_ot_at {args a' : Array Value} {s U : State} {w : Cond} (hW : s.WarmedH U.vm) (hvm : s.vm = U.vm) (hg : vx_ot w = true) (h : w.before args s = true) : w.before a' U = true := by
  simp only [vx_ot, Bool.or_eq_true] at hg
  rcases hg with hg | hg
  · exact va_tabs hg hvm h
  · exact word_at hW (good_of_word hg) h
/-- a list's words: the good ones out of the method's own list, the others by premises of their own -/
theorem vx_hat {args : Array Value} {s : State} {L B : List Cond} (h1 : ∀ w ∈ L.filter goodWord, w.before args s = true) (h2 : ∀ w ∈ L.filter (fun w => !goodWord w), w ∈ B) (h3 : ∀ w ∈ B, w.before args s = true) : ∀ w ∈ L, w.before args s = true := by
  intro w hw
  by_cases g : goodWord w = true
  · exact h1 w (List.mem_filter.mpr ⟨hw, g⟩)
  · refine h3 w (h2 w (List.mem_filter.mpr ⟨hw, ?_⟩))
    show (!goodWord w) = true
    cases hgw : goodWord w
    · rfl
    · exact absurd hgw g
theorem vx_c {args : Array Value} {s : State} {w : Cond} {B : List Cond} (h : w.before args s = true) (t : ∀ w ∈ B, w.before args s = true) : ∀ w' ∈ w :: B, w'.before args s = true := fun w' h' => (List.mem_cons.mp h').elim (fun e => by rw [e]; exact h) (t w')
theorem vx_n {args : Array Value} {s : State} : ∀ w ∈ ([] : List Cond), w.before args s = true := fun _ h => nomatch h
theorem vx_own {args : Array Value} {s : State} {L : List Cond} (h1 : ∀ w ∈ L.filter vx_no, w.before args s = true)
    (hU : (Cond.isRef (.static Bundle.tN "UNASSIGNED_STACK" Bundle.steD)).before args s = true) (hN : (Cond.isRef (.static Bundle.tN "SUPPRESSED_SENTINEL" Bundle.listD)).before args s = true)
    (lU : (Cond.laysStatic Bundle.tN "UNASSIGNED_STACK" Bundle.steD).before args s = true) (lN : (Cond.laysStatic Bundle.tN "SUPPRESSED_SENTINEL" Bundle.listD).before args s = true) : ∀ w ∈ L, w.before args s = true := by
  intro w hw
  by_cases e1 : w = .isRef (.static Bundle.tN "UNASSIGNED_STACK" Bundle.steD)
  · rw [e1]; exact hU
  · by_cases e2 : w = .isRef (.static Bundle.tN "SUPPRESSED_SENTINEL" Bundle.listD)
    · rw [e2]; exact hN
    · by_cases e3 : w = .laysStatic Bundle.tN "UNASSIGNED_STACK" Bundle.steD
      · rw [e3]; exact lU
      · by_cases e4 : w = .laysStatic Bundle.tN "SUPPRESSED_SENTINEL" Bundle.listD
        · rw [e4]; exact lN
        · exact h1 w (List.mem_filter.mpr ⟨hw, by unfold vx_no; rw [decide_eq_true e1, decide_eq_true e2, decide_eq_true e3, decide_eq_true e4]; rfl⟩)
/-- where a static field lies, its class's statics cell in H -/
def vx_L (C n d : String) (A : Nat → Prop) (U : State) (H : Heap) : Prop := ∃ (c : ClassId) (k : Class) (i : Nat) (f : Field) (a : Nat) (cell : Cell), U.vm.findClass C = some c ∧ U.fieldFound? C n d = some (c, k, i, f) ∧ f.isStatic = true ∧ k.statics = some a ∧ H[a]? = some cell ∧ cell.vm.isStatics = true ∧ cell.cls = c ∧ f.slot < cell.slots.size ∧ k.staticTypes[f.slot]? = some f.type ∧ ¬ A a
theorem vx_L.moved {C n d : String} {A : Nat → Prop} {u U : State} {H : Heap} (hvm : u.vm.Alike U.vm) (h : vx_L C n d A u H) : vx_L C n d A U H := by
  obtain ⟨c, k, i, f, a, cell, h1, h2, h3, h4, h5, h6, h7, h8, h9, h10⟩ := h
  obtain ⟨k', hi', he⟩ := State.fieldFound?_setVm hvm h2
  exact ⟨c, k', i, f, a, cell, by rw [hvm.findClass]; exact h1, hi', h3, by rw [he]; exact h4, h5, h6, h7, h8, by rw [he]; exact h9, h10⟩
theorem vx_L.kept {C n d : String} {A : Nat → Prop} {U : State} {H H1 : Heap} (h : vx_L C n d A U H) (hq : ∀ a : Nat, a < H.size → ¬ A a → H1[a]? = H[a]?) : vx_L C n d A U H1 := by
  obtain ⟨c, k, i, f, a, cell, h1, h2, h3, h4, h5, h6, h7, h8, h9, h10⟩ := h
  exact ⟨c, k, i, f, a, cell, h1, h2, h3, h4, by rw [hq a (Array.getElem?_eq_some_iff.mp h5).1 h10]; exact h5, h6, h7, h8, h9, h10⟩
theorem vx_L.narrow {C n d : String} {A B : Nat → Prop} {U : State} {H : Heap} (h : vx_L C n d A U H) (hAB : ∀ q, B q → A q) : vx_L C n d B U H := by
  obtain ⟨c, k, i, f, a, cell, h1, h2, h3, h4, h5, h6, h7, h8, h9, h10⟩ := h
  exact ⟨c, k, i, f, a, cell, h1, h2, h3, h4, h5, h6, h7, h8, h9, fun z => h10 (hAB _ z)⟩
theorem vx_L.word {C n d : String} {A : Nat → Prop} {s : State} {args : Array Value} (h : vx_L C n d A s s.heap) : (Cond.laysStatic C n d).before args s = true := by
  obtain ⟨c, k, i, f, a, cell, h1, h2, h3, h4, h5, h6, h7, h8, h9, -⟩ := h
  show (Cond.laysStatic C n d).holds args s none s [] = true
  exact Cond.laysStatic_of h1 h2 h3 h4 h5 h6 h7 h8 h9
/-- .. and what it holds: null or some reference -/
def vx_Zq (C n d : String) (A : Nat → Prop) (U : State) (H : Heap) : Prop := va_Zq C n d A U H ∧ vx_L C n d A U H
theorem vx_Zq.moved {C n d : String} {A : Nat → Prop} {u U : State} {H : Heap} (hvm : u.vm.Alike U.vm) (h : vx_Zq C n d A u H) : vx_Zq C n d A U H := ⟨va_Zq.moved hvm h.1, vx_L.moved hvm h.2⟩
theorem vx_Zq.kept {C n d : String} {A : Nat → Prop} {U : State} {H H1 : Heap} (h : vx_Zq C n d A U H) (hq : ∀ a : Nat, a < H.size → ¬ A a → H1[a]? = H[a]?) : vx_Zq C n d A U H1 := ⟨va_Zq.kept h.1 hq, vx_L.kept h.2 hq⟩
theorem vx_Zq.narrow {C n d : String} {A B : Nat → Prop} {U : State} {H : Heap} (h : vx_Zq C n d A U H) (hAB : ∀ q, B q → A q) : vx_Zq C n d B U H := ⟨va_Zq.narrow h.1 hAB, vx_L.narrow h.2 hAB⟩
theorem vx_Zqof {args : Array Value} {s : State} {C n d : String} {A : Nat → Prop} (hl : (Cond.laysStatic C n d).before args s = true) (hini : (Cond.initialized C).before args s = true) (h : (Cond.isRef (.static C n d)).before args s = true) (hA : ∀ a : Nat, a < s.heap.size → ¬ A a) : vx_Zq C n d A s s.heap := by
  refine ⟨va_Zqof hl hini h hA, ?_⟩
  obtain ⟨c, k, i, f, a, cell, h1, h2, h3, h4, h5, h6, h7, h8, h9⟩ := Cond.laysStatic_spec hl
  exact ⟨c, k, i, f, a, cell, h1, h2, h3, h4, h5, h6, h7, h8, h9, hA a (Array.getElem?_eq_some_iff.mp h5).1⟩
theorem vx_isRef {C n d : String} {v : Value} {A : Nat → Prop} {s : State} {args : Array Value} (h : va_Z C n d v A s s.heap) (hv : v.isRef = true) : (Cond.isRef (.static C n d)).before args s = true := by
  obtain ⟨cf, kf, fi, f, a, cell, h1, h2, h3, h4, h5, h6, h7, -⟩ := h
  have he : (Term.static C n d).eval args s none [] s = some v := by
    simp [Term.eval, State.fieldNamed?, h1, h2, h4, h5, h6, h7]
  simp only [Cond.before, Cond.holds, Cond.value, he]
  cases v <;> simp_all [Value.isRef]
theorem vx_isRefq {C n d : String} {A : Nat → Prop} {s : State} {args : Array Value} (h : va_Zq C n d A s s.heap) : (Cond.isRef (.static C n d)).before args s = true := by
  rcases h with h | ⟨t, h⟩
  · exact vx_isRef h rfl
  · exact vx_isRef h rfl
/-- the same frame, seen from here: as if the method were called anew in this heap -/
theorem vx_rebase {T : State} (X : Stand p l e R s m args below meth c T locs cells slots) {R' : Room} (hf : R'.frames ≤ R.frames) (hl : R'.locals ≤ R.locals) (hc : cells + R'.cells ≤ R.cells) (hs : slots + R'.slots ≤ R.slots) :
    Stand p l e R' ((T.setVm s.vm).setFrames (.invoking m args :: below)) m args below meth c T [] 0 0 := by
  have htop : (T.setVm s.vm).topJava?.isSome := X.here.top
  have hF : ((T.setVm s.vm).setFrames (.invoking m args :: below)).frames = .invoking m args :: below := State.frames_setFrames _ (State.cur_lt_of_top htop)
  obtain ⟨g₀, hg0⟩ := Option.isSome_iff_exists.mp htop
  obtain ⟨r, hr⟩ := State.topJava?_eq_some.mp hg0
  have hl9 : e.platform.stackLimits (T.setVm s.vm).me = e.platform.stackLimits s.me := X.limits
  have hb9 : (T.setVm s.vm).me.stackBytes = s.me.stackBytes := X.bytes
  refine ⟨X.admits, X.cas, X.clock, hF, ?_, X.hears, X.method, X.code, X.here, X.tail, X.warmed, ?_, ?_, ?_⟩
  · have h := X.room
    have hU : ((T.setVm s.vm).setFrames (.invoking m args :: below)).localsInUse = s.localsInUse := by
      rw [State.localsInUse_invoking hF (meth := meth) (c := c) X.method X.code, State.localsInUse_invoking X.frames X.method X.code]
    simp only [State.hasRoom, Bool.and_eq_true, decide_eq_true_eq] at h ⊢
    obtain ⟨⟨⟨⟨h1, h2, h3, h4, h5, h6⟩, h7⟩, h8⟩, h9⟩ := h
    rw [X.frames, List.length_cons] at h2 h3
    have q1 := X.heapSize
    have q2 := X.used
    simp only [hF, hU, List.length_cons, State.stackLimits_setFrames, State.stackBytes_setFrames, hl9, hb9]
    refine ⟨⟨⟨⟨by omega, by omega, by omega, by omega, by omega, h6⟩, ?_⟩, ?_⟩, X.book⟩
    · show T.heap.size + R'.cells ≤ e.platform.maxCells
      omega
    · show T.slotsUsed + R'.slots ≤ e.platform.maxSlots
      omega
  · rw [State.stackLimits_setFrames]; rfl
  · rw [State.stackBytes_setFrames]; rfl
  · refine ⟨?_, Nat.le_refl _, Nat.le_refl _, ?_, ?_, fun a c9 h9 => ⟨c9, h9, rfl, rfl, fun _ _ => rfl⟩⟩
    · obtain ⟨t, ht, -⟩ := State.frames_cons hr
      show T.setVm s.vm = { ((T.setVm s.vm).setFrames (.invoking m args :: below)).setFrames (T.setVm s.vm).frames with heap := T.heap, slotsUsed := T.slotsUsed }
      rw [State.setFrames_setFrames, State.setFrames_self ht]
      rfl
    · show T.slotsUsed = T.slotsUsed + ((T.heap.toList.drop T.heap.size).map (·.slots.size)).sum
      rw [List.drop_eq_nil_of_le (Nat.le_of_eq Array.length_toList)]
      rfl
    · show ((T.heap.toList.drop T.heap.size).map (·.slots.size)).sum ≤ 0
      rw [List.drop_eq_nil_of_le (Nat.le_of_eq Array.length_toList)]
      exact Nat.le_refl _
/-- 'throw new E()': new; dup; invokespecial; athrow -/
theorem vx_throw0 {cc : ByteArray} {pc : Nat} (hexec : p.tables.exec = Jvm.exec) (hb : c.code = cc) (hl : l.stackTraces = false) {own cls : String} {names : List String} {ik ic mc ms : Nat} {A : Nat → Prop}
    (hown : s.vm.findClass own = some m.cls) (hcls : Bundle.fit cls = true) (hnames : ∀ n ∈ names, Bundle.fit n = true)
    (hk : (Cond.classLink own ik cls).before args s = true) (hini : (Cond.initialized cls).before args s = true) (hat : ∀ w ∈ vx_at0 own ic cls names, w.before args s = true)
    (hgood : ∀ w ∈ Cond.classLink own ik cls :: Cond.initialized cls :: vx_at0 own ic cls names, vx_ot w = true)
    (hU : vx_Zq Bundle.tN "UNASSIGNED_STACK" Bundle.steD A s s.heap) (hN : vx_Zq Bundle.tN "SUPPRESSED_SENTINEL" Bundle.listD A s s.heap) (hS : va_S A s.heap H locs) (hsize : ls.size = c.maxLocals)
    (d0 : decode cc pc = .ok (.new ik, 3)) (d3 : decode cc (pc + 3) = .ok (.dup, 1)) (d4 : decode cc (pc + 4) = .ok (.invokespecial ic, 3)) (d7 : decode cc (pc + 7) = .ok (.athrow, 1))
    (hout : ∀ x ∈ c.exceptionTable.toList, covers x (pc + 7) = false)
    (hRframes : names.length + 3 < R.frames) (hRlocals : (rest.map fun v => v.category).sum + (13 * (names.length + 1) + 42) ≤ R.locals) (hRcells : cells + 1 ≤ R.cells) (hRslots : slots + 6 ≤ R.slots) (hlocks : meth.locks = false)
    (hx : ∀ t : State, s.vm.Alike t.vm → H.size ≤ t.heap.size → (∀ q : Nat, q < H.size → t.heap[q]? = H[q]?) → XC cls s t)
    (hf : ∀ z ∈ locs, free z.base) (hc : cells + 1 ≤ mc) (hs : slots + 6 ≤ ms) :
    W p l e R s m args below meth c H locs cells slots (vx_MQ below Qc XC args s mc ms free) (F0 m pc ls rest) := by
  intro T hT X
  have htr : e.platform.stackTraces = false := (show e.platform.stackTraces = l.stackTraces by rw [X.admits.platform]).trans hl
  have Y := vx_rebase X (R' := { frames := R.frames, locals := R.locals, cells := 1, slots := 6 }) (Nat.le_refl _) (Nat.le_refl _) hRcells hRslots
  obtain ⟨s', hA⟩ : ∃ z, z = (T.setVm s.vm).setFrames (.invoking m args :: below) := ⟨_, rfl⟩
  rw [← hA] at Y
  have hvm : s'.vm = s.vm := by rw [hA]; rfl
  have hhp : s'.heap = H := by rw [hA]; exact hT
  have hW0 : s.WarmedH s'.vm := by rw [hvm]; exact State.WarmedH.refl s
  have hat' : ∀ w ∈ vx_at0 own ic cls names, w.before args s' = true := fun w hw => vx_ot_at hW0 hvm.symm (hgood w (List.mem_cons_of_mem _ (List.mem_cons_of_mem _ hw))) (hat w hw)
  have hk' : (Cond.classLink own ik cls).before args s' = true := vx_ot_at hW0 hvm.symm (hgood _ List.mem_cons_self) hk
  have hini' : (Cond.initialized cls).before args s' = true := vx_ot_at hW0 hvm.symm (hgood _ (List.mem_cons_of_mem _ List.mem_cons_self)) hini
  have hU' : vx_Zq Bundle.tN "UNASSIGNED_STACK" Bundle.steD A s' s'.heap := by rw [hhp]; exact vx_Zq.moved hW0.alike (hU.kept hS.2.1)
  have hN' : vx_Zq Bundle.tN "SUPPRESSED_SENTINEL" Bundle.listD A s' s'.heap := by rw [hhp]; exact vx_Zq.moved hW0.alike (hN.kept hS.2.1)
  have h : ∀ w ∈ Bundle.ownAtoms0 own ic cls names, w.before args s' = true := vx_own hat' (vx_isRefq hU'.1) (vx_isRefq hN'.1) hU'.2.word hN'.2.word
  have hown' : s'.vm.findClass own = some m.cls := by rw [hvm]; exact hown
  have hins : (Cond.instantiable cls 6).before args s' = true := h _ (by simp [Bundle.ownAtoms0])
  obtain ⟨vm₁, cX, kX, hfX, hkX, -, -, X₁, st1⟩ := Y.newCold hexec (own := own) (C := cls) (index := ik) (n := 6) hown' hk' hins hini'
    (g := F0 m pc ls rest) rfl (by rw [hb]; exact d0) (Nat.le_refl _) (Nat.le_refl _)
  generalize hT1 : (T.setVm vm₁).pushCell { cls := cX, slots := kX.instanceTypes.map defaultValue, vm := .none } = T1 at X₁ st1
  have hcat : (Value.ref T.heap.size).category = 1 := rfl
  have hcellA : T1.heap[T.heap.size]? = some (freshCell cX kX) := by rw [← hT1]; exact State.heap_pushCell_size _ _
  have d3' : decode c.code (pc + 3) = .ok (.dup, 1) := by rw [hb]; exact d3
  obtain ⟨U, hsteps, hrun, hend, hW, hsame, ce, hce, hO⟩ := X₁.ctorThrow0 hexec htr (own := own) (cls := cls) (names := names) (ic := ic) hown' hcls hnames h (fun x hx => nomatch hx) hfX hkX hcellA (by rw [hhp, hT]; exact Nat.le_refl _)
    (g := { method := m, pc := pc + 4, locals := ls, stack := .ref T.heap.size :: .ref T.heap.size :: rest, locked := none }) rfl hsize rfl rfl (rest := rest) rfl
    (by rw [hb]; exact d4) (by rw [hb]; exact d7) hout hRframes (by simp only [List.map_cons, List.sum_cons, hcat]; omega) hlocks
  obtain ⟨f1, f2⟩ := vx_frame hsame
  rw [hhp] at f1 f2
  have hWs : s.WarmedH U.vm := State.WarmedH.trans hW0 hW
  have hcl : s.vm.findClass cls = some ce.cls := by
    have h9 := hO.cls
    rw [hvm] at h9
    exact h9
  have hall : s.sameButNew ({ U with vm := s.vm } : State) locs mc ms := by
    subst hA
    obtain ⟨e1, e2⟩ := hsame
    rw [State.setFrames_setFrames] at e1
    have h2 : (T.setVm s.vm).sameButNew ({ U with vm := s.vm } : State) [] (0 + 1) (0 + 6) := ⟨e1, e2⟩
    have h3 := X.same.trans h2
    rw [List.append_nil] at h3
    exact h3.mono hc hs
  refine ⟨U, ?_, .threw T.heap.size, hrun, hend, Or.inr ⟨T.heap.size, rfl, cls, ce, locs, hx U hWs.alike f1 (fun q hq => f2 q hq (fun z hz => nomatch hz)), hce, hO.vm, hcl, hWs, hall, hf⟩⟩
  refine st1 _ ?_
  show Steps p.tables e below (T1.setTop { method := m, pc := pc + 3, locals := ls, stack := .ref T.heap.size :: rest, locked := none }) _
  jvm_step X₁.here [X₁.here.top, hexec, d3', Value.category]
  exact hsteps
/-- 'throw new E("text")': new; dup; ldc; invokespecial; athrow -/
theorem vx_throwS {cc : ByteArray} {pc : Nat} (hexec : p.tables.exec = Jvm.exec) (hb : c.code = cc) (hl : l.stackTraces = false) {own cls text : String} {names : List String} {ik is ic mc ms sa : Nat} {A : Nat → Prop}
    (hown : s.vm.findClass own = some m.cls) (hcls : Bundle.fit cls = true) (hnames : ∀ n ∈ names, Bundle.fit n = true)
    (hk : (Cond.classLink own ik cls).before args s = true) (hini : (Cond.initialized cls).before args s = true) (hstr : vk_R own is text sa s) (hat : ∀ w ∈ vx_atS own ic cls names, w.before args s = true)
    (hgood : ∀ w ∈ Cond.classLink own ik cls :: Cond.initialized cls :: vx_atS own ic cls names, vx_ot w = true)
    (hU : vx_Zq Bundle.tN "UNASSIGNED_STACK" Bundle.steD A s s.heap) (hN : vx_Zq Bundle.tN "SUPPRESSED_SENTINEL" Bundle.listD A s s.heap) (hS : va_S A s.heap H locs) (hsize : ls.size = c.maxLocals)
    (d0 : decode cc pc = .ok (.new ik, 3)) (d3 : decode cc (pc + 3) = .ok (.dup, 1)) (d4 : decode cc (pc + 4) = .ok (.ldc is, 2)) (d6 : decode cc (pc + 6) = .ok (.invokespecial ic, 3)) (d9 : decode cc (pc + 9) = .ok (.athrow, 1))
    (hout : ∀ x ∈ c.exceptionTable.toList, covers x (pc + 9) = false)
    (hRframes : names.length + 3 < R.frames) (hRlocals : (rest.map fun v => v.category).sum + (13 * (names.length + 1) + 43) ≤ R.locals) (hRcells : cells + 1 ≤ R.cells) (hRslots : slots + 6 ≤ R.slots) (hlocks : meth.locks = false)
    (hx : ∀ t : State, s.vm.Alike t.vm → H.size ≤ t.heap.size → (∀ q : Nat, q < H.size → t.heap[q]? = H[q]?) → XC cls s t)
    (hf : ∀ z ∈ locs, free z.base) (hc : cells + 1 ≤ mc) (hs : slots + 6 ≤ ms) :
    W p l e R s m args below meth c H locs cells slots (vx_MQ below Qc XC args s mc ms free) (F0 m pc ls rest) := by
  intro T hT X
  have htr : e.platform.stackTraces = false := (show e.platform.stackTraces = l.stackTraces by rw [X.admits.platform]).trans hl
  have Y := vx_rebase X (R' := { frames := R.frames, locals := R.locals, cells := 1, slots := 6 }) (Nat.le_refl _) (Nat.le_refl _) hRcells hRslots
  obtain ⟨s', hA⟩ : ∃ z, z = (T.setVm s.vm).setFrames (.invoking m args :: below) := ⟨_, rfl⟩
  rw [← hA] at Y
  have hvm : s'.vm = s.vm := by rw [hA]; rfl
  have hhp : s'.heap = H := by rw [hA]; exact hT
  have hW0 : s.WarmedH s'.vm := by rw [hvm]; exact State.WarmedH.refl s
  have hat' : ∀ w ∈ vx_atS own ic cls names, w.before args s' = true := fun w hw => vx_ot_at hW0 hvm.symm (hgood w (List.mem_cons_of_mem _ (List.mem_cons_of_mem _ hw))) (hat w hw)
  have hk' : (Cond.classLink own ik cls).before args s' = true := vx_ot_at hW0 hvm.symm (hgood _ List.mem_cons_self) hk
  have hini' : (Cond.initialized cls).before args s' = true := vx_ot_at hW0 hvm.symm (hgood _ (List.mem_cons_of_mem _ List.mem_cons_self)) hini
  have hU' : vx_Zq Bundle.tN "UNASSIGNED_STACK" Bundle.steD A s' s'.heap := by rw [hhp]; exact vx_Zq.moved hW0.alike (hU.kept hS.2.1)
  have hN' : vx_Zq Bundle.tN "SUPPRESSED_SENTINEL" Bundle.listD A s' s'.heap := by rw [hhp]; exact vx_Zq.moved hW0.alike (hN.kept hS.2.1)
  have h : ∀ w ∈ Bundle.ownAtoms own ic cls names, w.before args s' = true := vx_own hat' (vx_isRefq hU'.1) (vx_isRefq hN'.1) hU'.2.word hN'.2.word
  have hown' : s'.vm.findClass own = some m.cls := by rw [hvm]; exact hown
  have hins : (Cond.instantiable cls 6).before args s' = true := h _ (by simp [Bundle.ownAtoms])
  obtain ⟨vm₁, cX, kX, hfX, hkX, -, -, X₁, st1⟩ := Y.newCold hexec (own := own) (C := cls) (index := ik) (n := 6) hown' hk' hins hini'
    (g := F0 m pc ls rest) rfl (by rw [hb]; exact d0) (Nat.le_refl _) (Nat.le_refl _)
  generalize hT1 : (T.setVm vm₁).pushCell { cls := cX, slots := kX.instanceTypes.map defaultValue, vm := .none } = T1 at X₁ st1
  have hcat : (Value.ref T.heap.size).category = 1 := rfl
  have hcellA : T1.heap[T.heap.size]? = some (freshCell cX kX) := by rw [← hT1]; exact State.heap_pushCell_size _ _
  have d3' : decode c.code (pc + 3) = .ok (.dup, 1) := by rw [hb]; exact d3
  have d4' : decode c.code (pc + 4) = .ok (.ldc is, 2) := by rw [hb]; exact d4
  have hstr' : vk_R own is text sa s' := vk_R.warm hW0 hstr
  obtain ⟨U, hsteps, hrun, hend, hW, hsame, ce, hce, hO⟩ := X₁.ctorThrowS hexec htr (own := own) (cls := cls) (names := names) (ic := ic) hown' hcls hnames h (fun x hx => nomatch hx) hfX hkX hcellA (by rw [hhp, hT]; exact Nat.le_refl _) (msg := .ref sa) rfl
    (g := { method := m, pc := pc + 6, locals := ls, stack := .ref sa :: .ref T.heap.size :: .ref T.heap.size :: rest, locked := none }) rfl hsize rfl rfl (rest := rest) rfl
    (by rw [hb]; exact d6) (by rw [hb]; exact d9) hout hRframes (by simp only [List.map_cons, List.sum_cons, hcat]; omega) hlocks
  obtain ⟨f1, f2⟩ := vx_frame hsame
  rw [hhp] at f1 f2
  have hWs : s.WarmedH U.vm := State.WarmedH.trans hW0 hW
  have hcl : s.vm.findClass cls = some ce.cls := by
    have h9 := hO.cls
    rw [hvm] at h9
    exact h9
  have hall : s.sameButNew ({ U with vm := s.vm } : State) locs mc ms := by
    subst hA
    obtain ⟨e1, e2⟩ := hsame
    rw [State.setFrames_setFrames] at e1
    have h2 : (T.setVm s.vm).sameButNew ({ U with vm := s.vm } : State) [] (0 + 1) (0 + 6) := ⟨e1, e2⟩
    have h3 := X.same.trans h2
    rw [List.append_nil] at h3
    exact h3.mono hc hs
  refine ⟨U, ?_, .threw T.heap.size, hrun, hend, Or.inr ⟨T.heap.size, rfl, cls, ce, locs, hx U hWs.alike f1 (fun q hq => f2 q hq (fun z hz => nomatch hz)), hce, hO.vm, hcl, hWs, hall, hf⟩⟩
  refine st1 _ ?_
  show Steps p.tables e below (T1.setTop { method := m, pc := pc + 3, locals := ls, stack := .ref T.heap.size :: rest, locked := none }) _
  jvm_step X₁.here [X₁.here.top, hexec, d3', Value.category]
  exact X₁.ldcString hexec (own := own) (text := text) (index := is) (a := sa) hown' hstr'.1 hstr'.2
    (g := { method := m, pc := pc + 4, locals := ls, stack := .ref T.heap.size :: .ref T.heap.size :: rest, locked := none }) rfl d4' _ hsteps
/-- 'throw new E("text")', the text by a wide index -/
theorem vx_throwSW {cc : ByteArray} {pc : Nat} (hexec : p.tables.exec = Jvm.exec) (hb : c.code = cc) (hl : l.stackTraces = false) {own cls text : String} {names : List String} {ik is ic mc ms sa : Nat} {A : Nat → Prop}
    (hown : s.vm.findClass own = some m.cls) (hcls : Bundle.fit cls = true) (hnames : ∀ n ∈ names, Bundle.fit n = true)
    (hk : (Cond.classLink own ik cls).before args s = true) (hini : (Cond.initialized cls).before args s = true) (hstr : vk_R own is text sa s) (hat : ∀ w ∈ vx_atS own ic cls names, w.before args s = true)
    (hgood : ∀ w ∈ Cond.classLink own ik cls :: Cond.initialized cls :: vx_atS own ic cls names, vx_ot w = true)
    (hU : vx_Zq Bundle.tN "UNASSIGNED_STACK" Bundle.steD A s s.heap) (hN : vx_Zq Bundle.tN "SUPPRESSED_SENTINEL" Bundle.listD A s s.heap) (hS : va_S A s.heap H locs) (hsize : ls.size = c.maxLocals)
    (d0 : decode cc pc = .ok (.new ik, 3)) (d3 : decode cc (pc + 3) = .ok (.dup, 1)) (d4 : decode cc (pc + 4) = .ok (.ldc_w is, 3)) (d7 : decode cc (pc + 7) = .ok (.invokespecial ic, 3)) (d10 : decode cc (pc + 10) = .ok (.athrow, 1))
    (hout : ∀ x ∈ c.exceptionTable.toList, covers x (pc + 10) = false)
    (hRframes : names.length + 3 < R.frames) (hRlocals : (rest.map fun v => v.category).sum + (13 * (names.length + 1) + 43) ≤ R.locals) (hRcells : cells + 1 ≤ R.cells) (hRslots : slots + 6 ≤ R.slots) (hlocks : meth.locks = false)
    (hx : ∀ t : State, s.vm.Alike t.vm → H.size ≤ t.heap.size → (∀ q : Nat, q < H.size → t.heap[q]? = H[q]?) → XC cls s t)
    (hf : ∀ z ∈ locs, free z.base) (hc : cells + 1 ≤ mc) (hs : slots + 6 ≤ ms) :
    W p l e R s m args below meth c H locs cells slots (vx_MQ below Qc XC args s mc ms free) (F0 m pc ls rest) := by
  intro T hT X
  have htr : e.platform.stackTraces = false := (show e.platform.stackTraces = l.stackTraces by rw [X.admits.platform]).trans hl
  have Y := vx_rebase X (R' := { frames := R.frames, locals := R.locals, cells := 1, slots := 6 }) (Nat.le_refl _) (Nat.le_refl _) hRcells hRslots
  obtain ⟨s', hA⟩ : ∃ z, z = (T.setVm s.vm).setFrames (.invoking m args :: below) := ⟨_, rfl⟩
  rw [← hA] at Y
  have hvm : s'.vm = s.vm := by rw [hA]; rfl
  have hhp : s'.heap = H := by rw [hA]; exact hT
  have hW0 : s.WarmedH s'.vm := by rw [hvm]; exact State.WarmedH.refl s
  have hat' : ∀ w ∈ vx_atS own ic cls names, w.before args s' = true := fun w hw => vx_ot_at hW0 hvm.symm (hgood w (List.mem_cons_of_mem _ (List.mem_cons_of_mem _ hw))) (hat w hw)
  have hk' : (Cond.classLink own ik cls).before args s' = true := vx_ot_at hW0 hvm.symm (hgood _ List.mem_cons_self) hk
  have hini' : (Cond.initialized cls).before args s' = true := vx_ot_at hW0 hvm.symm (hgood _ (List.mem_cons_of_mem _ List.mem_cons_self)) hini
  have hU' : vx_Zq Bundle.tN "UNASSIGNED_STACK" Bundle.steD A s' s'.heap := by rw [hhp]; exact vx_Zq.moved hW0.alike (hU.kept hS.2.1)
  have hN' : vx_Zq Bundle.tN "SUPPRESSED_SENTINEL" Bundle.listD A s' s'.heap := by rw [hhp]; exact vx_Zq.moved hW0.alike (hN.kept hS.2.1)
  have h : ∀ w ∈ Bundle.ownAtoms own ic cls names, w.before args s' = true := vx_own hat' (vx_isRefq hU'.1) (vx_isRefq hN'.1) hU'.2.word hN'.2.word
  have hown' : s'.vm.findClass own = some m.cls := by rw [hvm]; exact hown
  have hins : (Cond.instantiable cls 6).before args s' = true := h _ (by simp [Bundle.ownAtoms])
  obtain ⟨vm₁, cX, kX, hfX, hkX, -, -, X₁, st1⟩ := Y.newCold hexec (own := own) (C := cls) (index := ik) (n := 6) hown' hk' hins hini'
    (g := F0 m pc ls rest) rfl (by rw [hb]; exact d0) (Nat.le_refl _) (Nat.le_refl _)
  generalize hT1 : (T.setVm vm₁).pushCell { cls := cX, slots := kX.instanceTypes.map defaultValue, vm := .none } = T1 at X₁ st1
  have hcat : (Value.ref T.heap.size).category = 1 := rfl
  have hcellA : T1.heap[T.heap.size]? = some (freshCell cX kX) := by rw [← hT1]; exact State.heap_pushCell_size _ _
  have d3' : decode c.code (pc + 3) = .ok (.dup, 1) := by rw [hb]; exact d3
  have d4' : decode c.code (pc + 4) = .ok (.ldc_w is, 3) := by rw [hb]; exact d4
  have hstr' : vk_R own is text sa s' := vk_R.warm hW0 hstr
  obtain ⟨U, hsteps, hrun, hend, hW, hsame, ce, hce, hO⟩ := X₁.ctorThrowS hexec htr (own := own) (cls := cls) (names := names) (ic := ic) hown' hcls hnames h (fun x hx => nomatch hx) hfX hkX hcellA (by rw [hhp, hT]; exact Nat.le_refl _) (msg := .ref sa) rfl
    (g := { method := m, pc := pc + 7, locals := ls, stack := .ref sa :: .ref T.heap.size :: .ref T.heap.size :: rest, locked := none }) rfl hsize rfl rfl (rest := rest) rfl
    (by rw [hb]; exact d7) (by rw [hb]; exact d10) hout hRframes (by simp only [List.map_cons, List.sum_cons, hcat]; omega) hlocks
  obtain ⟨f1, f2⟩ := vx_frame hsame
  rw [hhp] at f1 f2
  have hWs : s.WarmedH U.vm := State.WarmedH.trans hW0 hW
  have hcl : s.vm.findClass cls = some ce.cls := by
    have h9 := hO.cls
    rw [hvm] at h9
    exact h9
  have hall : s.sameButNew ({ U with vm := s.vm } : State) locs mc ms := by
    subst hA
    obtain ⟨e1, e2⟩ := hsame
    rw [State.setFrames_setFrames] at e1
    have h2 : (T.setVm s.vm).sameButNew ({ U with vm := s.vm } : State) [] (0 + 1) (0 + 6) := ⟨e1, e2⟩
    have h3 := X.same.trans h2
    rw [List.append_nil] at h3
    exact h3.mono hc hs
  refine ⟨U, ?_, .threw T.heap.size, hrun, hend, Or.inr ⟨T.heap.size, rfl, cls, ce, locs, hx U hWs.alike f1 (fun q hq => f2 q hq (fun z hz => nomatch hz)), hce, hO.vm, hcl, hWs, hall, hf⟩⟩
  refine st1 _ ?_
  show Steps p.tables e below (T1.setTop { method := m, pc := pc + 3, locals := ls, stack := .ref T.heap.size :: rest, locked := none }) _
  jvm_step X₁.here [X₁.here.top, hexec, d3', Value.category]
  exact X₁.ldcStringW hexec (own := own) (text := text) (index := is) (a := sa) hown' hstr'.1 hstr'.2
    (g := { method := m, pc := pc + 4, locals := ls, stack := .ref T.heap.size :: .ref T.heap.size :: rest, locked := none }) rfl d4' _ hsteps
end Ends
section Bodies
variable {l : Launch}
theorem vx_ofW {y : MethodName} {ws ws' : List Cond} {rm : Room} {Pc : Array Value → State → Prop} {Qc : Array Value → State → Outcome → State → Prop} {XC : String → State → State → Prop} {mc ms : Nat} {free : Addr → Prop} {cc : ByteArray} {maxL : Nat} {ret : Option FieldType}
    (hy : plainName y.cls = true) (hw : ws = Cond.code y cc maxL ret :: ws')
    (body : ∀ p e s m args below meth c s₁, BodyLoose p l y (headSpec ws rm) cc maxL ret e s m args below meth c s₁ → c.maxLocals = maxL → (∀ x ∈ c.exceptionTable.toList, False) → Pc args s →
      W p l e (headSpec ws rm).room s m args below meth c s.heap [] 0 0 (vx_MQ below Qc XC args s mc ms free) (entryFrame m args maxL)) : vx_Met l y ws rm Pc Qc XC mc ms free := by
  refine MetFree.of_bodyS (code := cc) (maxLocals := maxL) (ret := ret) hy ?_ ?_
  · intro args s m h hn
    obtain ⟨meth, c, h1, h2, h3, h4, h5, h6, -, -⟩ := Cond.code_spec hn (atoms_spec (ws := ws) h _ (by rw [hw]; exact List.mem_cons_self))
    exact ⟨meth, c, h1, h2, h3, h4, h5, h6⟩
  · intro p e s m args below meth c s₁ B hml hP _
    have hh0 : s₁.heap = s.heap := by rw [B.state]; rfl
    have ht : ∀ x ∈ c.exceptionTable.toList, False := by
      obtain ⟨meth9, c9, h1, h2, -, -, -, -, h7, -⟩ := Cond.code_spec B.named (atoms_spec (ws := ws) B.pre _ (by rw [hw]; exact List.mem_cons_self))
      cases Option.some.inj (h1.symm.trans B.method)
      cases Option.some.inj (h2.symm.trans (Stand.of_body B).code)
      intro x hx
      rw [Array.isEmpty_iff.mp h7] at hx
      cases hx
    obtain ⟨t, a1, o, b1, b2, b3⟩ := body p e s m args below meth c s₁ B hml ht hP s₁ hh0 (Stand.of_body B)
    exact ⟨t, o, a1, b1, b2, b3⟩
/-- the table of a body with handlers -/
theorem vx_table {p : Program} {x y : MethodName} {S : Spec} {cc bytes : ByteArray} {maxL maxL' : Nat} {ret ret' : Option FieldType} {e : Env} {s s₁ : State} {m : MethodId} {args : Array Value} {below : List Frame} {meth : Method} {c : Code} {hh : List (Nat × Nat × Nat × Nat)}
    (B : BodyLoose p l y S cc maxL ret e s m args below meth c s₁) (h : (Cond.codeWith y bytes maxL' ret' hh).before args s = true) : c.exceptionTable.toList = tableOf hh := by
  obtain ⟨m9, meth9, c9, hn9, h1, h2, -, -, h6, -⟩ := Cond.codeWith_spec h
  cases Option.some.inj (hn9.symm.trans B.named)
  cases Option.some.inj (h1.symm.trans B.method)
  cases Option.some.inj (h2.symm.trans (Stand.of_body B).code)
  rw [← h6, table_eq]
end Bodies
end VXA
/-! ===== END ===== -/
/-! ===== BEGIN a static call of a method with an exception table ===== -/
section VXS
variable {p : Program} {l : Launch} {e : Env} {R : Room} {s : State} {m : MethodId} {args : Array Value} {below : List Frame} {meth : Method} {c : Code} {T : State} {H : Heap} {locs : List Loc} {cells slots : Nat}
abbrev vx_CSW (R : Room) (s : State) (args : Array Value) (own : String) (index : Nat) (y : MethodName) (bytes : ByteArray) (maxL : Nat) (ret : Option FieldType) (hh : List (Nat × Nat × Nat × Nat)) (ws : List Cond) (rm : Room) (mc ms n : Nat) : Prop :=
  (rm.cells = mc ∧ rm.slots = ms ∧ rm.frames + 1 ≤ R.frames ∧ 8 + (maxL + 11) + rm.locals ≤ R.locals ∧ (∀ w ∈ ws, ∀ (a' : Array Value) (U : State), s.WarmedH U.vm → w.before a' U = true) ∧ Cond.codeWith y bytes maxL ret hh ∈ ws) ∧
  (Cond.codeWith y bytes maxL ret hh).before args s = true ∧ (Cond.initialized y.cls).before args s = true ∧ (y.cls ≠ "java/lang/invoke/MethodHandle" ∧ y.cls ≠ "java/lang/invoke/VarHandle") ∧
  (∀ sig, parseMethodDescriptor y.desc = some sig → n = sig.parameters.length) ∧ (Cond.methodLink own index y).before args s = true ∧ (Cond.static y).before args s = true
theorem vx_cwSW {own : String} {index maxL mc ms : Nat} {y : MethodName} {bytes : ByteArray} {ret : Option FieldType} {hh : List (Nat × Nat × Nat × Nat)} {Ts ws ws' : List Cond} {rm : Room} (n : Nat) (ht : ∀ w ∈ Ts, w.before args s = true) (hT : GoodIn Ts (va_wsS own index y ws)) (hw : ws = Cond.codeWith y bytes maxL ret hh :: ws') (hrc : rm.cells = mc) (hrs : rm.slots = ms)
    (hd : y.cls ≠ "java/lang/invoke/MethodHandle" ∧ y.cls ≠ "java/lang/invoke/VarHandle" ∧ (parseMethodDescriptor y.desc).map (fun d => d.parameters.length) = some n) (hR : rm.frames + 1 ≤ R.frames ∧ 8 + (maxL + 11) + rm.locals ≤ R.locals) :
    vx_CSW R s args own index y bytes maxL ret hh ws rm mc ms n := by
  have ok : ∀ w ∈ va_wsS own index y ws, w.before args s = true := fun w h => ht w (hT w h).1
  have hG : GoodIn Ts ws := fun w h => hT w (by unfold va_wsS; exact List.mem_append_right _ h)
  have hc : Cond.codeWith y bytes maxL ret hh ∈ ws := by rw [hw]; exact List.mem_cons_self
  refine ⟨⟨hrc, hrs, hR.1, hR.2, pay_in ht hG, hc⟩, ht _ (hG _ hc).1, ok _ (by simp [va_wsS]), ⟨hd.1, hd.2.1⟩, fun sig h => ?_, ok _ (by simp [va_wsS]), ok _ (by simp [va_wsS])⟩
  have h2 := hd.2.2
  rw [h] at h2
  exact (Option.some.inj h2).symm
theorem vx_callSW (X : Stand p l e R s m args below meth c T locs cells slots) (hexec : p.tables.exec = Jvm.exec) {own : String} {index : Nat} {y : MethodName} {bytes : ByteArray} {maxL : Nat} {ret : Option FieldType} {hh : List (Nat × Nat × Nat × Nat)}
    (hown : s.vm.findClass own = some m.cls) (hlink : (Cond.methodLink own index y).before args s = true) (hstat : (Cond.static y).before args s = true) (hinit : (Cond.initialized y.cls).before args s = true)
    (hcode : (Cond.codeWith y bytes maxL ret hh).before args s = true) (hy : y.cls ≠ "java/lang/invoke/MethodHandle" ∧ y.cls ≠ "java/lang/invoke/VarHandle")
    {W9 : Nat} {Pre : Pt → Array Value → Prop} {Post : Pt → Array Value → Option Value → Pt → Prop} (hK : Back l R p e below s args y 3 W9 Pre Post)
    {g : JFrame} (hg : g.method = m) (hsize : g.locals.size = c.maxLocals) {argsL rest : List Value} (hlen : ∀ sig, parseMethodDescriptor y.desc = some sig → argsL.length = sig.parameters.length)
    (hstack : g.stack = argsL.reverse ++ rest) (hW : 2 * g.monitorRoom + (rest.map fun v => v.category).sum ≤ W9) (hdg : decode c.code g.pc = .ok (.invokestatic index, 3))
    (hpre : ∀ vm₁, s.WarmedH vm₁ → Pre ⟨T.setVm vm₁, locs, cells, slots⟩ argsL.toArray) :
    ∃ (v : Option Value) (vm₁ : Vm) (B : Pt), s.WarmedH vm₁ ∧ Stand p l e R s m args below meth c B.U B.locs B.cells B.slots ∧ Post ⟨T.setVm vm₁, locs, cells, slots⟩ argsL.toArray v B ∧
      ∀ target, Steps p.tables e below (B.U.setTop { g with pc := g.pc + 3, stack := v.toList ++ rest }) target → Steps p.tables e below (T.setTop g) target := by
  obtain ⟨mk, methM, cM, hnamed, hmethM, -, -, -, -, -, -, hsigM⟩ := Cond.codeWith_spec hcode
  have hstatic : methM.isStatic = true := Cond.static_spec hnamed hmethM hstat
  obtain ⟨kP, hkP, -⟩ := className_of_methodNamed hnamed
  have hinitP : kP.init = .initialized := Cond.initialized_spec (findClass_of_methodNamed hnamed) hkP hinit
  obtain ⟨vm₁, X₁, hstep₁⟩ := X.invokestatic hexec hown hlink hnamed hmethM hstatic hkP hinitP hy (g := g) hg (argsL := argsL) (rest := rest) (hlen _ hsigM) hstack hdg
  obtain ⟨v, B, X', hpost, hsteps⟩ := hK m meth c ⟨T.setVm vm₁, locs, cells, slots⟩ { g with stack := rest } (.invokestatic index) mk argsL.toArray X₁ hg hsize hdg hW (X₁.named hnamed) (hpre vm₁ X₁.warmed)
  exact ⟨v, vm₁, B, X₁.warmed, X', hpost, fun target h => hstep₁ _ fun acts => by rw [doInvoke_state]; exact hsteps.trans h⟩
theorem vx_runSW {y : MethodName} {bytes cc : ByteArray} {maxL nL mc ms n index : Nat} {ret : Option FieldType} {hh : List (Nat × Nat × Nat × Nat)} {ws : List Cond} {rm : Room} {Pc : Array Value → State → Prop} {Qc : Array Value → State → Outcome → State → Prop} {free : Addr → Prop} {Ts : List Cond} {own : String} {As rest : List Value} {g : JFrame}
    (S : CallFix p m c cc nL s args Ts own) (hM : Met l y ws rm Pc Qc mc ms free) (cw : vx_CSW R s args own index y bytes maxL ret hh ws rm mc ms n) (hp : PreS s H Pc As)
    (hg : g.method = m) (hn : As.length = n) (hsize : g.locals.size = nL) (hstack : g.stack = As.reverse ++ rest) (hW : 2 * g.monitorRoom + (rest.map fun v => v.category).sum ≤ 8) (hdg : decode cc g.pc = .ok (.invokestatic index, 3)) (hf : cells + mc ≤ R.cells ∧ slots + ms ≤ R.slots) :
    va_Run p l e R s m args below meth c H locs cells slots mc ms g rest (Qc As.toArray) (free) := by
  obtain ⟨⟨hrc, hrs, hfr, hlo, hws, hcw⟩, hcode, hini, hy, hlen, hl, hstt⟩ := cw
  have hK : Back l R p e below s args y 3 8 (PreOf R mc ms Pc) (PostOf Qc mc ms free) := va_backW (hh := hh) (bytes := bytes) (maxL := maxL) (ret := ret) hM hp.1 hrc hrs hfr hlo hws hcw (fun a' U hW => word_at hW (Or.inl (by first | rfl | simp [Cond.onTables, Cond.keeps, Cond.steady])) hini)
  obtain ⟨hx, hb, hml, ho, -⟩ := S
  intro T hT X
  obtain ⟨v, vm₁, ⟨U', l2, c2, s2⟩, hW₁, X', ⟨g', mk, t, L, e1, e2, hq, h1, hL, h2, h3⟩, st⟩ := vx_callSW X hx (hh := hh) (bytes := bytes) (maxL := maxL) (ret := ret) ho hl hstt hini hcode hy hK hg (hsize.trans hml.symm) (argsL := As) (rest := rest) (fun sig h => hn.trans (hlen sig h)) hstack hW (by rw [hb]; exact hdg)
    (fun vm₁ hW₁ => ⟨hf.1, hf.2, hp.2 (T.setVm vm₁) hT hW₁⟩)
  dsimp only [Pt.U, Pt.locs, Pt.cells, Pt.slots] at X' e1 e2 h1 h2 h3 st
  subst h1; subst h2; subst h3
  exact ⟨v, (T.setVm vm₁).calling g' mk As.toArray, t, U', L, hT, X', hL, e1, e2, hq, st⟩
/-- not caught here, past rows that name other classes: it goes on to the caller -/
theorem vx_outP {p : Program} {l : Launch} {e : Env} {R : Room} {s : State} {m : MethodId} {args : Array Value} {below : List Frame} {meth : Method} {c : Code} {H : Heap} {locs : List Loc} {cells slots : Nat} {free : Addr → Prop} {ls : Array Slot} {rest : List Value} {Qc : Array Value → State → Outcome → State → Prop} {XC : String → State → State → Prop}
    {pc : Nat} {own E : String} {ce : Cell} {q : Addr} {mc ms : Nat} (hown : s.vm.findClass own = some m.cls) (hlocks : meth.locks = false)
    (hpass : ∀ z ∈ c.exceptionTable.toList, covers z pc = false ∨ (z.catchType ≠ 0 ∧ ∃ nm : String, (Cond.classLink own z.catchType nm).before args s = true ∧ va_Nc E nm s)) (hcell : H[q]? = some ce) (hv : ce.vm = .none) (hcl : s.vm.findClass E = some ce.cls)
    (hx : ∀ t : State, t.heap = H → s.vm.Alike t.vm → XC E s t) (hf : ∀ z ∈ locs, free z.base) (hc : cells ≤ mc) (hs : slots ≤ ms) :
    vx_W p l e R s m args below meth c H locs cells slots (vx_MQ below Qc XC args s mc ms free) (F0 m pc ls rest) q := by
  intro T hT X
  have hpl : e.platform.magicAccessors = ({} : Platform).magicAccessors := by rw [X.admits.platform]
  obtain ⟨vm', hW', X', st⟩ := X.outThrough hlocks q (g := F0 m pc ls rest) rfl rfl rfl (cell := ce) (by rw [hT]; exact hcell) (by rw [hv]; rfl)
    (by obtain ⟨k9, h9, -⟩ := Vm.findClass_spec hcl; exact ⟨k9, h9⟩) (fun z hz => by
      rcases hpass z hz with h | ⟨hz0, nm, hl1, hn1⟩
      · exact Or.inl h
      · obtain ⟨c6, hc6, hcl6⟩ := Cond.classLink_spec hown hl1 e.platform hpl
        obtain ⟨a8, b8, h1, h2, h3⟩ := hn1
        cases Option.some.inj (h1.symm.trans hcl)
        cases Option.some.inj (h2.symm.trans hc6)
        exact Or.inr ⟨hz0, _, hcl6, h3⟩)
  obtain ⟨g₀, hfr⟩ := X'.frames_eq
  have hcell9 : ((T.setVm vm').setFrames (.throwing q :: below)).heap[q]? = some ce := by
    show T.heap[q]? = some ce
    rw [hT]; exact hcell
  have hend : Ended ((T.setVm vm').setFrames (.throwing q :: below)) below (.threw q) := State.frames_setFrames _ (State.cur_lt_of_frames hfr)
  refine ⟨(T.setVm vm').setFrames (.throwing q :: below), ?_, .threw q, X'.here.running, hend, Or.inr ⟨q, rfl, E, ce, locs, hx _ hT (X'.ends _).1.alike, hcell9, hv, hcl, (X'.ends _).1, (X'.ends _).2.mono hc hs, hf⟩⟩
  rw [X.pushThrowing_eq]
  exact st
/-- a thing of a world lies in the heap -/
theorem vx_lt {D : va_G} {cl : List vw_C} {ws : va_W} {H1 : Heap} (h : va_P D cl ws H1) {k : Nat} {q : Nat × va_E} (hk : ws[k]? = some q) : q.1 < H1.size := (h k q hk).lt
end VXS
/-! ===== END ===== -/
/-! ===== BEGIN methods with a table of their own: called by a name, returning or throwing ===== -/
section VXH
/-! vx_backW, vx_callVX, vx_callSX, vx_callVW, vx_runVW, vx_runVX, vx_runSX, vx_ofWH follow the same proofs as their sisters above (Free/Laws.lean, Shelf42/LK1.lean); vx_outP calls Shelf42/NT130.lean (outThrough). -/
section
variable {l : Launch} {R : Room} {p : Program} {e : Env} {below : List Frame} {s : State} {sargs : Array Value} {y : MethodName} {len W9 : Nat}
theorem vx_backW {ws : List Cond} {rm : Room} {Pc : Array Value → State → Prop} {Qc : Array Value → State → Outcome → State → Prop} {XC : String → State → State → Prop} {mc ms : Nat} {free : Addr → Prop} {bytes : ByteArray} {maxL : Nat} {ret : Option FieldType} {hh : List (Nat × Nat × Nat × Nat)}
    (hM : vx_Met l y ws rm Pc Qc XC mc ms free) (hblind : FrameBlind Pc) (hrc : rm.cells = mc) (hrs : rm.slots = ms)
    (hframes : rm.frames + 1 ≤ R.frames) (hlocals : W9 + (maxL + 11) + rm.locals ≤ R.locals)
    (hws : ∀ w ∈ ws, ∀ a' U, s.WarmedH U.vm → w.before a' U = true) (hcode : Cond.codeWith y bytes maxL ret hh ∈ ws) (hinit : ∀ a' U, s.WarmedH U.vm → (Cond.initialized y.cls).before a' U = true) :
    vx_Back l R p e below s sargs y len W9 (PreOf R mc ms Pc) (PostOf Qc mc ms free) (vx_Post XC mc ms free) := by
  intro m meth c A g ig mk a X hg hsize hdg hW hn hp
  have h1 : (headSpec ws rm).pre.before a A.U = true := atoms_intro fun w hw => hws w hw _ _ X.warmed
  have h2 : (Cond.codeWith y bytes maxL ret hh).before a A.U = true := hws _ hcode _ _ X.warmed
  have h3 : (Cond.initialized y.cls).before a A.U = true := hinit _ _ X.warmed
  have h4 : A.cells + (headSpec ws rm).room.cells ≤ R.cells := by rw [show (headSpec ws rm).room.cells = mc from hrc]; exact hp.1
  have h5 : A.slots + (headSpec ws rm).room.slots ≤ R.slots := by rw [show (headSpec ws rm).room.slots = ms from hrs]; exact hp.2.1
  have hPc : Pc a (A.U.calling g mk a) := hblind _ _ _ _ hp.2.2
  obtain ⟨U, Ls, c0, s0⟩ := A
  dsimp only [Pt.U, Pt.locs, Pt.cells, Pt.slots] at h1 h2 h3 h4 h5 X hn hPc ⊢
  obtain ⟨m9, methY, cY, hn9, hmY, hcY, -, hlY, -⟩ := Cond.codeWith_spec h2
  cases Option.some.inj (hn9.symm.trans hn)
  obtain ⟨kY, hkY, -⟩ := className_of_methodNamed hn
  have hinitY : kY.init = .initialized := Cond.initialized_spec (findClass_of_methodNamed hn) hkY h3
  have h : At U g.method c below := by rw [hg]; exact X.here
  have hlocals9 : W9 + (maxL + 11) + (headSpec ws rm).room.locals ≤ R.locals := hlocals
  have happ : (headSpec ws rm).appliesLoose y e.platform (U.calling g mk a) = true :=
    Spec.appliesLoose_calling (g := g) h hdg hn hkY hinitY
      (X.room_calling (g := g) (R' := (headSpec ws rm).room) hsize hmY hcY hframes (by rw [hlY]; omega) h4 h5) h1
  obtain ⟨mid, hmid⟩ := h.above
  have hfr : (U.setTop g).frames = (.java g :: mid) ++ below := by rw [State.frames_setTop' g h.top, hmid]; rfl
  obtain ⟨o, s₂, hsteps, -, hend, hq⟩ := Steps.callFree hM p X.admits X.cas X.clock (acts := []) hfr happ hPc trivial
  have hq' : vx_Q Qc XC mc ms free a (U.calling g mk a) o s₂ := hq
  rw [State.frames_setTop' g h.top] at hend
  obtain ⟨g₀, hg0⟩ := Option.isSome_iff_exists.mp h.top
  obtain ⟨r, hr⟩ := State.topJava?_eq_some.mp hg0
  have hr' : (({ U with heap := s₂.heap, slotsUsed := s₂.slotsUsed } : State).setVm s₂.vm).frames = .java g₀ :: r := hr
  rcases hq' with ⟨hqc, L, hfe, hL⟩ | ⟨q, rfl, E, ce, L, hx, hce, hcv, hcl, hW₂, hsm, hL⟩
  · obtain ⟨⟨v, rfl⟩, hW₂, e2, q2, q3, q4, q5, q6⟩ := id hfe
    have e3 : s₂ = ({ (U.calling g mk a).setFrames s₂.frames with heap := s₂.heap, slotsUsed := s₂.slotsUsed } : State).setVm s₂.vm := by
      have : s₂ = ({ s₂ with vm := (U.calling g mk a).vm } : State).setVm s₂.vm := rfl
      rw [e2] at this
      exact this
    obtain ⟨c₂, i₂, len₂, hc₂, hd₂, hf₂⟩ := hend
    have hW' : U.WarmedH s₂.vm := hW₂
    have hcc : c₂ = c := by
      have h1 : s₂.code? g.method = U.code? g.method := by
        rw [State.code?_eq, State.code?_eq, hW'.alike.method?]
      exact Option.some.inj (hc₂.symm.trans (h1.trans h.code))
    subst hcc
    have hlen : len₂ = len := by rw [hdg] at hd₂; cases hd₂; rfl
    subst hlen
    have hs₂ : s₂ = (({ U with heap := s₂.heap, slotsUsed := s₂.slotsUsed } : State).setVm s₂.vm).setTop { g with pc := g.pc + len₂, stack := v.toList ++ g.stack } := by
      refine e3.trans ?_
      rw [hf₂, State.calling_eq h.top, State.setFrames_setFrames, State.setTop_of_frames _ hr', hr]
      rfl
    have hsame : U.sameButNew ({ U with heap := s₂.heap, slotsUsed := s₂.slotsUsed } : State) L mc ms := by
      refine ⟨?_, q2, q3, q4, q5, q6⟩
      obtain ⟨t, ht, -⟩ := State.frames_cons hr
      show ({ U with heap := s₂.heap, slotsUsed := s₂.slotsUsed } : State) = { U.setFrames U.frames with heap := s₂.heap, slotsUsed := s₂.slotsUsed }
      rw [State.setFrames_self ht]
    subst hg
    refine Or.inl ⟨v, ⟨(({ U with heap := s₂.heap, slotsUsed := s₂.slotsUsed } : State).setVm s₂.vm), Ls ++ L, c0 + mc, s0 + ms⟩,
      ⟨X.admits, X.cas, X.clock, X.frames, X.room, X.hears, X.method, X.code, (X.here.setHeapUsed s₂.heap s₂.slotsUsed).setVm hW'.alike, X.tail, State.WarmedH.trans X.warmed hW', X.limits, X.bytes, X.same.trans (hsame.setVm s.vm)⟩,
      ⟨g, mk, s₂, L, rfl, rfl, hqc, rfl, hL, rfl, rfl⟩, ?_⟩
    show Steps p.tables e below _ ((({ U with heap := s₂.heap, slotsUsed := s₂.slotsUsed } : State).setVm s₂.vm).setTop { g with pc := g.pc + len₂, stack := v.toList ++ g.stack })
    rw [← hs₂]
    exact hsteps
  · obtain ⟨e2, q2, q3, q4, q5, q6⟩ := id hsm
    have e3 : s₂ = ({ (U.calling g mk a).setFrames s₂.frames with heap := s₂.heap, slotsUsed := s₂.slotsUsed } : State).setVm s₂.vm := by
      have : s₂ = ({ s₂ with vm := (U.calling g mk a).vm } : State).setVm s₂.vm := rfl
      rw [e2] at this
      exact this
    have hf₂ : s₂.frames = .throwing q :: .java g :: U.frames.tail := hend
    have hW' : U.WarmedH s₂.vm := hW₂
    have hs₂ : s₂ = ((({ U with heap := s₂.heap, slotsUsed := s₂.slotsUsed } : State).setVm s₂.vm).setTop g).pushFrame (.throwing q) := by
      refine e3.trans ?_
      rw [hf₂, State.calling_eq h.top, State.setFrames_setFrames, State.pushFrame, State.frames_setTop _ hr', State.setTop_of_frames _ hr', State.setFrames_setFrames, hr]
      rfl
    have hsame : U.sameButNew ({ U with heap := s₂.heap, slotsUsed := s₂.slotsUsed } : State) L mc ms := by
      refine ⟨?_, q2, q3, q4, q5, q6⟩
      obtain ⟨t, ht, -⟩ := State.frames_cons hr
      show ({ U with heap := s₂.heap, slotsUsed := s₂.slotsUsed } : State) = { U.setFrames U.frames with heap := s₂.heap, slotsUsed := s₂.slotsUsed }
      rw [State.setFrames_self ht]
    subst hg
    refine Or.inr ⟨q, ⟨(({ U with heap := s₂.heap, slotsUsed := s₂.slotsUsed } : State).setVm s₂.vm), Ls ++ L, c0 + mc, s0 + ms⟩,
      ⟨X.admits, X.cas, X.clock, X.frames, X.room, X.hears, X.method, X.code, (X.here.setHeapUsed s₂.heap s₂.slotsUsed).setVm hW'.alike, X.tail, State.WarmedH.trans X.warmed hW', X.limits, X.bytes, X.same.trans (hsame.setVm s.vm)⟩,
      ⟨g, mk, s₂, L, E, ce, rfl, rfl, hx, hce, hcv, hcl, rfl, hL, rfl, rfl⟩, ?_⟩
    show Steps p.tables e below _ (((({ U with heap := s₂.heap, slotsUsed := s₂.slotsUsed } : State).setVm s₂.vm).setTop g).pushFrame (.throwing q))
    rw [← hs₂]
    exact hsteps
end
variable {p : Program} {l : Launch} {e : Env} {R : Room} {s : State} {m : MethodId} {args : Array Value} {below : List Frame} {meth : Method} {c : Code} {T : State} {H : Heap} {locs : List Loc} {cells slots : Nat}
theorem vx_callVX (X : Stand p l e R s m args below meth c T locs cells slots) (hexec : p.tables.exec = Jvm.exec) {own C : String} {index : Nat} {y : MethodName} {bytes : ByteArray} {maxL : Nat} {ret : Option FieldType} {hh : List (Nat × Nat × Nat × Nat)}
    (hown : s.vm.findClass own = some m.cls) (hlink : (Cond.methodLink own index y).before args s = true) (hinst : (Cond.instanceMethod y).before args s = true) (hsel : (Cond.selects C y y).before args s = true)
    (hcode : (Cond.codeWith y bytes maxL ret hh).before args s = true) (hy : y.cls ≠ "java/lang/invoke/MethodHandle" ∧ y.cls ≠ "java/lang/invoke/VarHandle")
    {W9 : Nat} {Pre : Pt → Array Value → Prop} {Post : Pt → Array Value → Option Value → Pt → Prop} {PostX : Pt → Array Value → Addr → Pt → Prop} (hK : vx_Back l R p e below s args y 3 W9 Pre Post PostX)
    {b : Addr} {cellB : Cell} (hcell : T.heap[b]? = some cellB) (hobj : cellB.vm.isStatics = false) (hcls : s.vm.findClass C = some cellB.cls)
    {g : JFrame} (hg : g.method = m) (hsize : g.locals.size = c.maxLocals) {argsL rest : List Value} (hlen : ∀ sig, parseMethodDescriptor y.desc = some sig → argsL.length = sig.parameters.length)
    (hstack : g.stack = argsL.reverse ++ .ref b :: rest) (hW : 2 * g.monitorRoom + (rest.map fun v => v.category).sum ≤ W9) (hdg : decode c.code g.pc = .ok (.invokevirtual index, 3))
    (hpre : ∀ vm₁, s.WarmedH vm₁ → Pre ⟨T.setVm vm₁, locs, cells, slots⟩ (Value.ref b :: argsL).toArray) :
    (∃ (v : Option Value) (vm₁ : Vm) (B : Pt), s.WarmedH vm₁ ∧ Stand p l e R s m args below meth c B.U B.locs B.cells B.slots ∧ Post ⟨T.setVm vm₁, locs, cells, slots⟩ (Value.ref b :: argsL).toArray v B ∧
      ∀ target, Steps p.tables e below (B.U.setTop { g with pc := g.pc + 3, stack := v.toList ++ rest }) target → Steps p.tables e below (T.setTop g) target) ∨
    (∃ (q : Addr) (vm₁ : Vm) (B : Pt), s.WarmedH vm₁ ∧ Stand p l e R s m args below meth c B.U B.locs B.cells B.slots ∧ PostX ⟨T.setVm vm₁, locs, cells, slots⟩ (Value.ref b :: argsL).toArray q B ∧
      Steps p.tables e below (T.setTop g) ((B.U.setTop { g with stack := rest }).pushFrame (.throwing q))) := by
  obtain ⟨mk, methM, hnamed, hmethM, hstM, habM⟩ := Cond.instanceMethod_spec hinst
  obtain ⟨m8, methM', cM, hn8, hmethM', -, -, -, -, -, -, hsigM⟩ := Cond.codeWith_spec hcode
  cases Option.some.inj (hn8.symm.trans hnamed)
  cases hmethM.symm.trans hmethM'
  obtain ⟨c2, r2, m2, q1, q2, q3, q4, kP, hkP, hkPi⟩ := Cond.selects_spec hsel
  cases hcls.symm.trans q1
  cases (State.methodFound?_of_named hnamed hy).symm.trans q2
  cases hnamed.symm.trans q3
  have hselP : selectMethod e.platform s.vm cellB.cls mk = .method mk := by rw [Launch.admits_selectMethod X.admits]; exact q4
  obtain ⟨vm₁, X₁, hstep₁⟩ := X.invokevirtual hexec hown hlink hnamed hmethM hstM hkP hkPi hy (a := b) (cell := cellB) hcell
    (fun z h => by rw [h] at hobj; cases hobj) hselP hmethM habM hkP hkPi (g := g) hg (argsL := argsL) (rest := rest) (hlen _ hsigM) hstack hdg
  rcases hK m meth c ⟨T.setVm vm₁, locs, cells, slots⟩ { g with stack := rest } (.invokevirtual index) mk (Value.ref b :: argsL).toArray X₁ hg hsize hdg hW (X₁.named hnamed) (hpre vm₁ X₁.warmed) with ⟨v, B, X', hpost, hsteps⟩ | ⟨q, B, X', hpost, hsteps⟩
  · exact Or.inl ⟨v, vm₁, B, X₁.warmed, X', hpost, fun target h => hstep₁ _ fun acts => by rw [doInvoke_state]; exact hsteps.trans h⟩
  · exact Or.inr ⟨q, vm₁, B, X₁.warmed, X', hpost, hstep₁ _ fun acts => by rw [doInvoke_state]; exact hsteps⟩
theorem vx_callSX (X : Stand p l e R s m args below meth c T locs cells slots) (hexec : p.tables.exec = Jvm.exec) {own : String} {index : Nat} {y : MethodName} {bytes : ByteArray} {maxL : Nat} {ret : Option FieldType} {hh : List (Nat × Nat × Nat × Nat)}
    (hown : s.vm.findClass own = some m.cls) (hlink : (Cond.methodLink own index y).before args s = true) (hstat : (Cond.static y).before args s = true) (hinit : (Cond.initialized y.cls).before args s = true)
    (hcode : (Cond.codeWith y bytes maxL ret hh).before args s = true) (hy : y.cls ≠ "java/lang/invoke/MethodHandle" ∧ y.cls ≠ "java/lang/invoke/VarHandle")
    {W9 : Nat} {Pre : Pt → Array Value → Prop} {Post : Pt → Array Value → Option Value → Pt → Prop} {PostX : Pt → Array Value → Addr → Pt → Prop} (hK : vx_Back l R p e below s args y 3 W9 Pre Post PostX)
    {g : JFrame} (hg : g.method = m) (hsize : g.locals.size = c.maxLocals) {argsL rest : List Value} (hlen : ∀ sig, parseMethodDescriptor y.desc = some sig → argsL.length = sig.parameters.length)
    (hstack : g.stack = argsL.reverse ++ rest) (hW : 2 * g.monitorRoom + (rest.map fun v => v.category).sum ≤ W9) (hdg : decode c.code g.pc = .ok (.invokestatic index, 3))
    (hpre : ∀ vm₁, s.WarmedH vm₁ → Pre ⟨T.setVm vm₁, locs, cells, slots⟩ argsL.toArray) :
    (∃ (v : Option Value) (vm₁ : Vm) (B : Pt), s.WarmedH vm₁ ∧ Stand p l e R s m args below meth c B.U B.locs B.cells B.slots ∧ Post ⟨T.setVm vm₁, locs, cells, slots⟩ argsL.toArray v B ∧
      ∀ target, Steps p.tables e below (B.U.setTop { g with pc := g.pc + 3, stack := v.toList ++ rest }) target → Steps p.tables e below (T.setTop g) target) ∨
    (∃ (q : Addr) (vm₁ : Vm) (B : Pt), s.WarmedH vm₁ ∧ Stand p l e R s m args below meth c B.U B.locs B.cells B.slots ∧ PostX ⟨T.setVm vm₁, locs, cells, slots⟩ argsL.toArray q B ∧
      Steps p.tables e below (T.setTop g) ((B.U.setTop { g with stack := rest }).pushFrame (.throwing q))) := by
  obtain ⟨mk, methM, cM, hnamed, hmethM, -, -, -, -, -, -, hsigM⟩ := Cond.codeWith_spec hcode
  have hstatic : methM.isStatic = true := Cond.static_spec hnamed hmethM hstat
  obtain ⟨kP, hkP, -⟩ := className_of_methodNamed hnamed
  have hinitP : kP.init = .initialized := Cond.initialized_spec (findClass_of_methodNamed hnamed) hkP hinit
  obtain ⟨vm₁, X₁, hstep₁⟩ := X.invokestatic hexec hown hlink hnamed hmethM hstatic hkP hinitP hy (g := g) hg (argsL := argsL) (rest := rest) (hlen _ hsigM) hstack hdg
  rcases hK m meth c ⟨T.setVm vm₁, locs, cells, slots⟩ { g with stack := rest } (.invokestatic index) mk argsL.toArray X₁ hg hsize hdg hW (X₁.named hnamed) (hpre vm₁ X₁.warmed) with ⟨v, B, X', hpost, hsteps⟩ | ⟨q, B, X', hpost, hsteps⟩
  · exact Or.inl ⟨v, vm₁, B, X₁.warmed, X', hpost, fun target h => hstep₁ _ fun acts => by rw [doInvoke_state]; exact hsteps.trans h⟩
  · exact Or.inr ⟨q, vm₁, B, X₁.warmed, X', hpost, hstep₁ _ fun acts => by rw [doInvoke_state]; exact hsteps⟩
theorem vx_callVW (X : Stand p l e R s m args below meth c T locs cells slots) (hexec : p.tables.exec = Jvm.exec) {own C : String} {index : Nat} {y : MethodName} {bytes : ByteArray} {maxL : Nat} {ret : Option FieldType} {hh : List (Nat × Nat × Nat × Nat)}
    (hown : s.vm.findClass own = some m.cls) (hlink : (Cond.methodLink own index y).before args s = true) (hinst : (Cond.instanceMethod y).before args s = true) (hsel : (Cond.selects C y y).before args s = true)
    (hcode : (Cond.codeWith y bytes maxL ret hh).before args s = true) (hy : y.cls ≠ "java/lang/invoke/MethodHandle" ∧ y.cls ≠ "java/lang/invoke/VarHandle")
    {W9 : Nat} {Pre : Pt → Array Value → Prop} {Post : Pt → Array Value → Option Value → Pt → Prop} (hK : Back l R p e below s args y 3 W9 Pre Post)
    {b : Addr} {cellB : Cell} (hcell : T.heap[b]? = some cellB) (hobj : cellB.vm.isStatics = false) (hcls : s.vm.findClass C = some cellB.cls)
    {g : JFrame} (hg : g.method = m) (hsize : g.locals.size = c.maxLocals) {argsL rest : List Value} (hlen : ∀ sig, parseMethodDescriptor y.desc = some sig → argsL.length = sig.parameters.length)
    (hstack : g.stack = argsL.reverse ++ .ref b :: rest) (hW : 2 * g.monitorRoom + (rest.map fun v => v.category).sum ≤ W9) (hdg : decode c.code g.pc = .ok (.invokevirtual index, 3))
    (hpre : ∀ vm₁, s.WarmedH vm₁ → Pre ⟨T.setVm vm₁, locs, cells, slots⟩ (Value.ref b :: argsL).toArray) :
    ∃ (v : Option Value) (vm₁ : Vm) (B : Pt), s.WarmedH vm₁ ∧ Stand p l e R s m args below meth c B.U B.locs B.cells B.slots ∧ Post ⟨T.setVm vm₁, locs, cells, slots⟩ (Value.ref b :: argsL).toArray v B ∧
      ∀ target, Steps p.tables e below (B.U.setTop { g with pc := g.pc + 3, stack := v.toList ++ rest }) target → Steps p.tables e below (T.setTop g) target := by
  obtain ⟨mk, methM, hnamed, hmethM, hstM, habM⟩ := Cond.instanceMethod_spec hinst
  obtain ⟨m8, methM', cM, hn8, hmethM', -, -, -, -, -, -, hsigM⟩ := Cond.codeWith_spec hcode
  cases Option.some.inj (hn8.symm.trans hnamed)
  cases hmethM.symm.trans hmethM'
  obtain ⟨c2, r2, m2, q1, q2, q3, q4, kP, hkP, hkPi⟩ := Cond.selects_spec hsel
  cases hcls.symm.trans q1
  cases (State.methodFound?_of_named hnamed hy).symm.trans q2
  cases hnamed.symm.trans q3
  have hselP : selectMethod e.platform s.vm cellB.cls mk = .method mk := by rw [Launch.admits_selectMethod X.admits]; exact q4
  obtain ⟨vm₁, X₁, hstep₁⟩ := X.invokevirtual hexec hown hlink hnamed hmethM hstM hkP hkPi hy (a := b) (cell := cellB) hcell
    (fun z h => by rw [h] at hobj; cases hobj) hselP hmethM habM hkP hkPi (g := g) hg (argsL := argsL) (rest := rest) (hlen _ hsigM) hstack hdg
  obtain ⟨v, B, X', hpost, hsteps⟩ := hK m meth c ⟨T.setVm vm₁, locs, cells, slots⟩ { g with stack := rest } (.invokevirtual index) mk (Value.ref b :: argsL).toArray X₁ hg hsize hdg hW (X₁.named hnamed) (hpre vm₁ X₁.warmed)
  exact ⟨v, vm₁, B, X₁.warmed, X', hpost, fun target h => hstep₁ _ fun acts => by rw [doInvoke_state]; exact hsteps.trans h⟩
abbrev vx_CVW (R : Room) (s : State) (args : Array Value) (own C : String) (index : Nat) (y : MethodName) (bytes : ByteArray) (maxL : Nat) (ret : Option FieldType) (hh : List (Nat × Nat × Nat × Nat)) (ws : List Cond) (rm : Room) (mc ms n : Nat) : Prop :=
  (rm.cells = mc ∧ rm.slots = ms ∧ rm.frames + 1 ≤ R.frames ∧ 8 + (maxL + 11) + rm.locals ≤ R.locals ∧ (∀ w ∈ ws, ∀ (a' : Array Value) (U : State), s.WarmedH U.vm → w.before a' U = true) ∧ Cond.codeWith y bytes maxL ret hh ∈ ws) ∧
  (Cond.codeWith y bytes maxL ret hh).before args s = true ∧ (Cond.initialized y.cls).before args s = true ∧ (y.cls ≠ "java/lang/invoke/MethodHandle" ∧ y.cls ≠ "java/lang/invoke/VarHandle") ∧
  (∀ sig, parseMethodDescriptor y.desc = some sig → n = sig.parameters.length) ∧ (Cond.methodLink own index y).before args s = true ∧ (Cond.instanceMethod y).before args s = true ∧ (Cond.selects C y y).before args s = true
theorem vx_cwVW {own C : String} {index maxL mc ms : Nat} {y : MethodName} {bytes : ByteArray} {ret : Option FieldType} {hh : List (Nat × Nat × Nat × Nat)} {Ts ws ws' : List Cond} {rm : Room} (n : Nat) (ht : ∀ w ∈ Ts, w.before args s = true) (hT : GoodIn Ts (wsV own index C y ws)) (hw : ws = Cond.codeWith y bytes maxL ret hh :: ws') (hrc : rm.cells = mc) (hrs : rm.slots = ms)
    (hd : y.cls = C ∧ y.cls ≠ "java/lang/invoke/MethodHandle" ∧ y.cls ≠ "java/lang/invoke/VarHandle" ∧ (parseMethodDescriptor y.desc).map (fun d => d.parameters.length) = some n) (hR : rm.frames + 1 ≤ R.frames ∧ 8 + (maxL + 11) + rm.locals ≤ R.locals) :
    vx_CVW R s args own C index y bytes maxL ret hh ws rm mc ms n := by
  obtain ⟨hC, hd⟩ := hd
  subst hC
  have ok : ∀ w ∈ wsV own index y.cls y ws, w.before args s = true := fun w h => ht w (hT w h).1
  have hG : GoodIn Ts ws := fun w h => hT w (by unfold wsV; exact List.mem_append_right _ h)
  have hc : Cond.codeWith y bytes maxL ret hh ∈ ws := by rw [hw]; exact List.mem_cons_self
  refine ⟨⟨hrc, hrs, hR.1, hR.2, pay_in ht hG, hc⟩, ht _ (hG _ hc).1, ok _ (by simp [wsV]), ⟨hd.1, hd.2.1⟩, fun sig h => ?_, ok _ (by simp [wsV]), ok _ (by simp [wsV]), ok _ (by simp [wsV])⟩
  have h2 := hd.2.2
  rw [h] at h2
  exact (Option.some.inj h2).symm
theorem vx_runVW {y : MethodName} {bytes cc : ByteArray} {maxL nL mc ms n index : Nat} {ret : Option FieldType} {hh : List (Nat × Nat × Nat × Nat)} {ws : List Cond} {rm : Room} {Pc : Array Value → State → Prop} {Qc : Array Value → State → Outcome → State → Prop} {free : Addr → Prop} {Ts : List Cond} {own C : String} {b : Addr} {As rest : List Value} {g : JFrame}
    (S : CallFix p m c cc nL s args Ts own) (hM : Met l y ws rm Pc Qc mc ms free) (cw : vx_CVW R s args own C index y bytes maxL ret hh ws rm mc ms n) (hp : PreV s H C b Pc As)
    (hg : g.method = m) (hn : As.length = n) (hsize : g.locals.size = nL) (hstack : g.stack = As.reverse ++ .ref b :: rest) (hW : 2 * g.monitorRoom + (rest.map fun v => v.category).sum ≤ 8) (hdg : decode cc g.pc = .ok (.invokevirtual index, 3)) (hf : cells + mc ≤ R.cells ∧ slots + ms ≤ R.slots) :
    va_Run p l e R s m args below meth c H locs cells slots mc ms g rest (Qc (Value.ref b :: As).toArray) free := by
  obtain ⟨⟨hrc, hrs, hfr, hlo, hws, hcw⟩, hcode, hini, hy, hlen, hl, hin, hse⟩ := cw
  have hK : Back l R p e below s args y 3 8 (PreOf R mc ms Pc) (PostOf Qc mc ms free) := va_backW (hh := hh) (bytes := bytes) (maxL := maxL) (ret := ret) hM hp.1 hrc hrs hfr hlo hws hcw (fun a' U hW => word_at hW (Or.inl (by first | rfl | simp [Cond.onTables, Cond.keeps, Cond.steady])) hini)
  obtain ⟨hx, hb, hml, ho, -⟩ := S
  obtain ⟨-, ⟨cellB, hcB, hoB, hclB⟩, hPc⟩ := hp
  intro T hT X
  obtain ⟨v, vm₁, ⟨U', l2, c2, s2⟩, hW₁, X', ⟨g', mk, t, L, e1, e2, hq, h1, hL, h2, h3⟩, st⟩ := vx_callVW X hx (C := C) (hh := hh) (bytes := bytes) (maxL := maxL) (ret := ret) ho hl hin hse hcode hy hK (by rw [hT]; exact hcB) hoB hclB hg (hsize.trans hml.symm) (argsL := As) (rest := rest) (fun sig h => hn.trans (hlen sig h)) hstack hW (by rw [hb]; exact hdg)
    (fun vm₁ hW₁ => ⟨hf.1, hf.2, hPc (T.setVm vm₁) hT hW₁⟩)
  dsimp only [Pt.U, Pt.locs, Pt.cells, Pt.slots] at X' e1 e2 h1 h2 h3 st
  subst h1; subst h2; subst h3
  exact ⟨v, (T.setVm vm₁).calling g' mk (Value.ref b :: As).toArray, t, U', L, hT, X', hL, e1, e2, hq, st⟩
section
variable {y : MethodName} {bytes cc : ByteArray} {maxL nL mc ms n index : Nat} {ret : Option FieldType} {ws : List Cond} {rm : Room} {Pc : Array Value → State → Prop} {Qc : Array Value → State → Outcome → State → Prop} {XC : String → State → State → Prop} {free : Addr → Prop} {Ts : List Cond} {own C : String} {b : Addr} {As rest : List Value} {g : JFrame}
theorem vx_runVX {hh : List (Nat × Nat × Nat × Nat)} (S : CallFix p m c cc nL s args Ts own) (hM : vx_Met l y ws rm Pc Qc XC mc ms free) (cw : vx_CVW R s args own C index y bytes maxL ret hh ws rm mc ms n) (hp : PreV s H C b Pc As)
    (hg : g.method = m) (hn : As.length = n) (hsize : g.locals.size = nL) (hstack : g.stack = As.reverse ++ .ref b :: rest) (hW : 2 * g.monitorRoom + (rest.map fun v => v.category).sum ≤ 8) (hdg : decode cc g.pc = .ok (.invokevirtual index, 3)) (hf : cells + mc ≤ R.cells ∧ slots + ms ≤ R.slots) :
    vx_Run p l e R s m args below meth c H locs cells slots mc ms g rest (Qc (Value.ref b :: As).toArray) XC free := by
  obtain ⟨⟨hrc, hrs, hfr, hlo, hws, hcw⟩, hcode, hini, hy, hlen, hl, hin, hse⟩ := cw
  have hK : vx_Back l R p e below s args y 3 8 (PreOf R mc ms Pc) (PostOf Qc mc ms free) (vx_Post XC mc ms free) := vx_backW (hh := hh) (bytes := bytes) (maxL := maxL) (ret := ret) hM hp.1 hrc hrs hfr hlo hws hcw (fun a' U hW => word_at hW (Or.inl (by first | rfl | simp [Cond.onTables, Cond.keeps, Cond.steady])) hini)
  obtain ⟨hx, hb, hml, ho, -⟩ := S
  obtain ⟨-, ⟨cellB, hcB, hoB, hclB⟩, hPc⟩ := hp
  intro T hT X
  rcases vx_callVX X hx (C := C) (hh := hh) (bytes := bytes) (maxL := maxL) (ret := ret) ho hl hin hse hcode hy hK (by rw [hT]; exact hcB) hoB hclB hg (hsize.trans hml.symm) (argsL := As) (rest := rest) (fun sig h => hn.trans (hlen sig h)) hstack hW (by rw [hb]; exact hdg)
    (fun vm₁ hW₁ => ⟨hf.1, hf.2, hPc (T.setVm vm₁) hT hW₁⟩) with ⟨v, vm₁, ⟨U', l2, c2, s2⟩, hW₁, X', ⟨g', mk, t, L, e1, e2, hq, h1, hL, h2, h3⟩, st⟩ | ⟨q, vm₁, ⟨U', l2, c2, s2⟩, hW₁, X', ⟨g', mk, t, L, E, ce, e1, e2, hq, hce, hcv, hcl, h1, hL, h2, h3⟩, st⟩
  · dsimp only [Pt.U, Pt.locs, Pt.cells, Pt.slots] at X' e1 e2 h1 h2 h3 st
    subst h1; subst h2; subst h3
    exact Or.inl ⟨v, (T.setVm vm₁).calling g' mk (Value.ref b :: As).toArray, t, U', L, hT, X', hL, e1, e2, hq, st⟩
  · dsimp only [Pt.U, Pt.locs, Pt.cells, Pt.slots] at X' e1 e2 h1 h2 h3 st hcl
    subst h1; subst h2; subst h3
    exact Or.inr ⟨q, (T.setVm vm₁).calling g' mk (Value.ref b :: As).toArray, t, U', L, E, ce, hT, X', hL, e1, e2, hq, hce, hcv, vx_cls hW₁ hcl, st⟩
theorem vx_runSX {hh : List (Nat × Nat × Nat × Nat)} (S : CallFix p m c cc nL s args Ts own) (hM : vx_Met l y ws rm Pc Qc XC mc ms free) (cw : vx_CSW R s args own index y bytes maxL ret hh ws rm mc ms n) (hp : PreS s H Pc As)
    (hg : g.method = m) (hn : As.length = n) (hsize : g.locals.size = nL) (hstack : g.stack = As.reverse ++ rest) (hW : 2 * g.monitorRoom + (rest.map fun v => v.category).sum ≤ 8) (hdg : decode cc g.pc = .ok (.invokestatic index, 3)) (hf : cells + mc ≤ R.cells ∧ slots + ms ≤ R.slots) :
    vx_Run p l e R s m args below meth c H locs cells slots mc ms g rest (Qc As.toArray) XC free := by
  obtain ⟨⟨hrc, hrs, hfr, hlo, hws, hcw⟩, hcode, hini, hy, hlen, hl, hstt⟩ := cw
  have hK : vx_Back l R p e below s args y 3 8 (PreOf R mc ms Pc) (PostOf Qc mc ms free) (vx_Post XC mc ms free) := vx_backW (hh := hh) (bytes := bytes) (maxL := maxL) (ret := ret) hM hp.1 hrc hrs hfr hlo hws hcw (fun a' U hW => word_at hW (Or.inl (by first | rfl | simp [Cond.onTables, Cond.keeps, Cond.steady])) hini)
  obtain ⟨hx, hb, hml, ho, -⟩ := S
  intro T hT X
  rcases vx_callSX X hx (hh := hh) (bytes := bytes) (maxL := maxL) (ret := ret) ho hl hstt hini hcode hy hK hg (hsize.trans hml.symm) (argsL := As) (rest := rest) (fun sig h => hn.trans (hlen sig h)) hstack hW (by rw [hb]; exact hdg)
    (fun vm₁ hW₁ => ⟨hf.1, hf.2, hp.2 (T.setVm vm₁) hT hW₁⟩) with ⟨v, vm₁, ⟨U', l2, c2, s2⟩, hW₁, X', ⟨g', mk, t, L, e1, e2, hq, h1, hL, h2, h3⟩, st⟩ | ⟨q, vm₁, ⟨U', l2, c2, s2⟩, hW₁, X', ⟨g', mk, t, L, E, ce, e1, e2, hq, hce, hcv, hcl, h1, hL, h2, h3⟩, st⟩
  · dsimp only [Pt.U, Pt.locs, Pt.cells, Pt.slots] at X' e1 e2 h1 h2 h3 st
    subst h1; subst h2; subst h3
    exact Or.inl ⟨v, (T.setVm vm₁).calling g' mk As.toArray, t, U', L, hT, X', hL, e1, e2, hq, st⟩
  · dsimp only [Pt.U, Pt.locs, Pt.cells, Pt.slots] at X' e1 e2 h1 h2 h3 st hcl
    subst h1; subst h2; subst h3
    exact Or.inr ⟨q, (T.setVm vm₁).calling g' mk As.toArray, t, U', L, E, ce, hT, X', hL, e1, e2, hq, hce, hcv, vx_cls hW₁ hcl, st⟩
end
end VXH
theorem vx_ofWH {l : Launch} {y : MethodName} {ws ws' : List Cond} {rm : Room} {Pc : Array Value → State → Prop} {Qc : Array Value → State → Outcome → State → Prop} {XC : String → State → State → Prop} {mc ms : Nat} {free : Addr → Prop} {cc : ByteArray} {maxL : Nat} {ret : Option FieldType} {hh : List (Nat × Nat × Nat × Nat)}
    (hy : plainName y.cls = true) (hw : ws = Cond.codeWith y cc maxL ret hh :: ws')
    (body : ∀ p e s m args below meth c s₁, BodyLoose p l y (headSpec ws rm) cc maxL ret e s m args below meth c s₁ → c.maxLocals = maxL → Pc args s →
      W p l e (headSpec ws rm).room s m args below meth c s.heap [] 0 0 (vx_MQ below Qc XC args s mc ms free) (entryFrame m args maxL)) : vx_Met l y ws rm Pc Qc XC mc ms free := by
  refine MetFree.of_bodyS (code := cc) (maxLocals := maxL) (ret := ret) hy ?_ ?_
  · intro args s m h hn
    obtain ⟨m9, meth, c, hn9, h1, h2, h3, h4, -, h5, h6, -⟩ := Cond.codeWith_spec (atoms_spec (ws := ws) h _ (by rw [hw]; exact List.mem_cons_self))
    cases hn.symm.trans hn9
    exact ⟨meth, c, h1, h2, h3, h4, h5, h6⟩
  · intro p e s m args below meth c s₁ B hml hP _
    have hh0 : s₁.heap = s.heap := by rw [B.state]; rfl
    obtain ⟨t, a1, o, b1, b2, b3⟩ := body p e s m args below meth c s₁ B hml hP s₁ hh0 (Stand.of_body B)
    exact ⟨t, o, a1, b1, b2, b3⟩
/-! ===== END ===== -/
/-! ===== BEGIN what the machine throws by itself, no traces kept ===== -/
section VXM
set_option maxHeartbeats 1000000 in
/-- the machine throws cls with the message text, no traces kept: from its note over the frame g to 'throwing' over the same frame (follows the proofs of Stand.vmThrowsMessage, Shelf/KitTracedVmS.lean, and Stand.throwsMessageColdBareV, StandMessageColdV.lean, without the step out of the frame) -/
theorem vx_vmAt {p : Program} {l : Launch} {e : Env} {R : Room} {s : State} {m₀ : MethodId} {args : Array Value} {below : List Frame} {meth : Method} {c : Code} {W : State} {locs : List Loc} {cells slots : Nat}
    (X : Stand p l e R s m₀ args below meth c W locs cells slots) (hexec : p.tables.exec = Jvm.exec) (htr : e.platform.stackTraces = false) {cls : String} {names : List String} {text : String}
    (hcls : Bundle.fit cls = true) (hnames : ∀ n ∈ names, Bundle.fit n = true) (hsoe : (cls == "java/lang/StackOverflowError") = false) (hoom : (cls == "java/lang/OutOfMemoryError") = false)
    (h : ∀ a ∈ Bundle.messageArmAtoms cls names, a.before args s = true)
    (hlocs : ∀ x ∈ locs, ∀ cell, s.heap[x.base]? = some cell → cell.vm.isStatics = false)
    (htext : (text == notModelled) = false) (hlimit : ¬ (stringBytes (stringToUtf16 text)).size > e.platform.arrayLengthLimit) (hheap : ¬ (stringBytes (stringToUtf16 text)).size * componentBytes .byte > e.platform.maxHeapBytes)
    {g : JFrame} (hg : g.method = m₀) (hsize : g.locals.size = c.maxLocals)
    (hRframes : names.length + 4 < R.frames) (hRlocals : 2 * g.monitorRoom + (g.stack.map fun v => v.category).sum + 10240 ≤ R.locals) (hshort : 13 * names.length + 55 ≤ 10240)
    (hRcells : cells + 3 ≤ R.cells) (hRslots : slots + ((stringBytes (stringToUtf16 text)).size + 4 + 6) ≤ R.slots) (hlocks : meth.locks = false) :
    ∃ (S : State) (q : Addr) (ce : Cell), (∀ target, Steps p.tables e below ((S.setTop g).pushFrame (.throwing q)) target → Steps p.tables e below ((W.setTop g).pushFrame (.throwNew cls (some text) none)) target) ∧
      Stand p l e R s m₀ args below meth c S locs (cells + 3) (slots + ((stringBytes (stringToUtf16 text)).size + 4 + 6)) ∧ S.heap[q]? = some ce ∧ s.vm.findClass cls = some ce.cls ∧ ce.vm = .none := by
  have howns : e.platform.frameOwnsMonitors = true := by rw [X.admits.platform]
  have hfin : e.platform.finalization = false := by rw [X.admits.platform]
  have hpl : e.platform.magicAccessors = ({} : Platform).magicAccessors := by rw [X.admits.platform]
  have a : ∀ x, x ∈ Bundle.messageArmAtoms cls names → x.holds args s none s [] = true := fun x hx => h x hx
  obtain ⟨T, Z0, L, -, Y⟩ := ThrowableC.of_atoms (args := args) howns hfin hpl (fun x hx => h x (by simp [Bundle.messageArmAtoms, hx]))
  obtain ⟨Z, M, LZ, LM, hnZ⟩ := Init0T.ofS_atoms (args := args) hpl L Y (fun x hx => h x (by simp [Bundle.messageArmAtoms, hx]))
  obtain ⟨P1, Ps, hlen, L1, hL, hP1m, hlink1, hlink⟩ := Bundle.chainS (args := args) hpl hnZ names cls hcls hnames (fun x hx => h x (by simp [Bundle.messageArmAtoms, hx]))
  obtain ⟨Zs, LZs, hn4, hfitv, hfitc⟩ := StringT.of_atoms (args := args) (fun x hx => h x (by simp [Bundle.messageArmAtoms, hx]))
  have hfound : s.vm.findClass cls = some P1.m.cls := findClass_of_methodNamed hP1m
  obtain ⟨c1, kX, hc1, hk, hord, -, -, hn6⟩ := Cond.instantiable_spec (a (.instantiable cls 6) (by simp [Bundle.messageArmAtoms]))
  cases Option.some.inj (hc1.symm.trans hfound)
  have hinit := Cond.initialized_spec hfound hk (a (.initialized cls) (by simp [Bundle.messageArmAtoms]))
  have hctor : kX.findMethod "<init>" "(Ljava/lang/String;)V" = some P1.m.idx := findMethod_of_methodNamed hP1m hk
  have hsel0 : selectMethod e.platform s.vm P1.m.cls T.fill0 = .method T.fill0 := by
    obtain ⟨c2, r2, m2, q1, q2, q3, q4, -⟩ := Cond.selects_spec (a (.selects cls Bundle.tFill0 Bundle.tFill0) (by simp [Bundle.messageArmAtoms]))
    cases Option.some.inj (q1.symm.trans hfound)
    cases Option.some.inj (q2.symm.trans (State.methodFound?_of_named Y.fill0 (by decide)))
    cases Option.some.inj (q3.symm.trans Y.fill0)
    rw [Launch.admits_selectMethod X.admits]; exact q4
  have hselF : selectMethod e.platform s.vm P1.m.cls T.fill = .method T.fill := by
    obtain ⟨c2, r2, m2, q1, q2, q3, q4, -⟩ := Cond.selects_spec (a (.selects cls Bundle.tFill Bundle.tFill) (by simp [Bundle.messageArmAtoms]))
    cases Option.some.inj (q1.symm.trans hfound)
    cases Option.some.inj (q2.symm.trans (State.methodFound?_of_named Y.fill (by decide)))
    cases Option.some.inj (q3.symm.trans Y.fill)
    rw [Launch.admits_selectMethod X.admits]; exact q4
  obtain ⟨cellS0, hcS0, hiss⟩ := Y.statics
  obtain ⟨u0, hu0⟩ := Cond.staticRefV Y.unassigned L.unassignedStatic L.statics hcS0 hiss (a (.isRef (.static Bundle.tN "UNASSIGNED_STACK" Bundle.steD)) (by simp [Bundle.messageArmAtoms]))
  obtain ⟨sen, hsen⟩ := Cond.staticRefV Y.sentinel L.sentinelStatic L.statics hcS0 hiss (a (.isRef (.static Bundle.tN "SUPPRESSED_SENTINEL" Bundle.listD)) (by simp [Bundle.messageArmAtoms]))
  obtain ⟨ci198, i198, fB, hk198, hg198, ha198, hsB, -, hnB, htB, hffB⟩ := Cond.ownField (t := .object "java/lang/Object") Y.found L.cls (by decide +kernel) (a (.fieldLink Bundle.tN 198 Bundle.tN "backtrace" "Ljava/lang/Object;") (by simp [Bundle.messageArmAtoms])) (a (.lays Bundle.tN Bundle.tN "backtrace" "Ljava/lang/Object;") (by simp [Bundle.messageArmAtoms])) e.platform hpl
  obtain ⟨cellS, hcS', heS, -, hkeep⟩ := X.same.2.2.2.2.2 T.aS cellS0 hcS0
  have hcellS : W.heap[T.aS]? = some cellS := hcS'
  have hout' : ∀ i, (⟨T.aS, i⟩ : Loc) ∉ locs := fun i hmem => by
    have := hlocs _ hmem cellS0 hcS0
    rw [hiss] at this; cases this
  have hknownS : cellS.vm ≠ .unknown := by
    rw [heS]; intro hu
    rw [show cellS0.vm = .unknown from hu] at hiss
    cases hiss
  have hvU : cellS.slots[T.fUnassigned.slot]? = some u0.v := by rw [hkeep _ (hout' _)]; exact hu0
  have hvSen : cellS.slots[T.fSentinel.slot]? = some sen.v := by rw [hkeep _ (hout' _)]; exact hsen
  obtain ⟨iM, hffM⟩ := Y.msg
  obtain ⟨tyC, dC, hdC, hdnC⟩ := Cond.laysAt hfound hk Y.cause (a (.lays cls Bundle.tN "cause" "Ljava/lang/Throwable;") (by simp [Bundle.messageArmAtoms]))
  obtain ⟨tyS, dS, hdS, hdnS⟩ := Cond.laysAt hfound hk Y.stack (a (.lays cls Bundle.tN "stackTrace" Bundle.steD) (by simp [Bundle.messageArmAtoms]))
  obtain ⟨tyP, dP, hdP, hdnP⟩ := Cond.laysAt hfound hk Y.supp (a (.lays cls Bundle.tN "suppressedExceptions" Bundle.listD) (by simp [Bundle.messageArmAtoms]))
  obtain ⟨tyM, dM, hdM, hdnM⟩ := Cond.laysAt hfound hk hffM (a (.lays cls Bundle.tN "detailMessage" "Ljava/lang/String;") (by simp [Bundle.messageArmAtoms]))
  obtain ⟨tyB, dB, hdB, hdnB⟩ := Cond.laysAt hfound hk hffB (a (.lays cls Bundle.tN "backtrace" "Ljava/lang/Object;") (by simp [Bundle.messageArmAtoms]))
  have bC := Cond.laysApart hdB hdC hdnB hdnC (by rw [hnB, Y.causeName]; decide)
  have bS := Cond.laysApart hdB hdS hdnB hdnS (by rw [hnB, Y.stackName]; decide)
  have bP := Cond.laysApart hdB hdP hdnB hdnP (by rw [hnB, Y.suppName]; decide)
  have hbk : ((preparedCellV T.toThrowableT (freshCell P1.m.cls kX) (W.heap.size + 2) u0 sen).withEntry W.cur).slots[fB.slot]? = some .null := by
    have := fresh_default (c := P1.m.cls) tyB
    rw [htB] at this
    simpa [preparedCellV, Cell.setSlot, Cell.withEntry, Array.getElem?_setIfInBounds, bC, bS, bP, bC.symm, bS.symm, bP.symm, defaultValue] using this
  have tkC := Takes.of_laid (v := .ref (W.heap.size + 2)) hk hord tyC (by rw [Y.causeType]; rfl)
  have tkS := Takes.of_laid (v := u0.v) hk hord tyS (by rw [Y.stackType]; exact fits_refV_array _ u0)
  have tkP := Takes.of_laid (v := sen.v) hk hord tyP (by rw [Y.suppType]; exact fits_refV_object _ sen)
  have tkM := Takes.of_laid (v := .ref (W.heap.size + 1)) hk hord tyM (by rw [Y.msgType]; rfl)
  have hskip : SkipFacts T e.platform s (fun u => u) u0 ((preparedCellV T.toThrowableT (freshCell P1.m.cls kX) (W.heap.size + 2) u0 sen).withEntry W.cur) := ⟨{ ci198 := ci198, i198 := i198, fBack := fB }, ⟨hk198, hg198, ha198, hsB⟩, hbk, fun _ _ => rfl⟩
  have h0 : At W g.method c below := by rw [hg]; exact X.here
  obtain ⟨hbeyond, hfreeW⟩ := X.vmMayThrow hsize (.throwNew cls (some text) none) (fun f hf => by cases hf) rfl hRlocals
  have hfr' : W.frames.length + Ps.length + 4 < (e.platform.stackLimits W.me).1 := by have := X.framesAbove hRframes; omega
  have hwd' : (stackUse (.java g :: W.frames.tail)).2 + 13 * Ps.length + 55 ≤ (e.platform.stackLimits W.me).2 := by have := X.stackAbove hsize (K := 13 * Ps.length + 55) (by omega); omega
  have hslots : W.slotsUsed + (stringBytes (stringToUtf16 text)).size + Zs.kS.instanceTypes.size + kX.instanceTypes.size ≤ e.platform.maxSlots := by
    have := X.slotsAbove hRslots
    rw [hn4, hn6]
    omega
  obtain ⟨vm', hW', st⟩ := Steps.vmThrowsMessageColdByV p (s₀ := s) (S := W) (g := g) h0 hexec T L Z LZ M LM X.warmed (t := W.cur) rfl Zs LZs P1 L1 Ps hL hlink1 hlink hsoe hoom hfound hk hinit hord hctor
    (Launch.admits_hotImplicitExceptions X.admits) hbeyond hfreeW htext hlimit hheap (X.cellsAbove hRcells) hslots (hfitv _) (hfitc _)
    (Nn := fun u => u) heapOnly_id (fun _ _ => rfl) (fun _ => rfl) (fun u x y => setCell_twice _ _ _ _) (fun _ => Nat.le_refl _) (cN := ((preparedCellV T.toThrowableT (freshCell P1.m.cls kX) (W.heap.size + 2) u0 sen).withEntry W.cur))
    hsel0 hcellS hknownS hvU tkS (fun _ hu => hu) (fun _ hu => hu) rfl rfl rfl (by simp [preparedCellV, Cell.setSlot, Cell.withEntry]) hskip (fun _ _ hA hW _ hroom _ hrest => L.nativeOff p htr hA hW hroom hrest) hselF hvSen tkC tkP tkM Y.objLocals rfl hfr' hwd'
  rw [plainBareV_eq T.toThrowableT (W.heap.size + 2) u0 sen (.ref (W.heap.size + 1)) W.cur rfl rfl] at st
  obtain ⟨-, -, w3, w4, -, -, -⟩ := withThrown_facts e.platform W Zs text P1.m.cls kX
  have X3 := ((X.pushed (bytesOf Zs.cB (stringToUtf16 text))).pushed (stringAt Zs.cS Zs.kS Zs.fv Zs.fc (stringToUtf16 text) W.heap.size)).pushed (freshCell P1.m.cls kX)
  rw [← withString_eq] at X3
  have X4 := X3.noted hW'
  have ha : (W.heap.size + 2) < ((withThrown W Zs text P1.m.cls kX).setVm vm').heap.size := by show _ < (withThrown W Zs text P1.m.cls kX).heap.size; rw [w3]; omega
  have hcell : ((withThrown W Zs text P1.m.cls kX).setVm vm').heap[(W.heap.size + 2)]? = some (freshCell P1.m.cls kX) := w4
  have X5 := ((((X4.stored hcell T.fCause.slot (.ref (W.heap.size + 2))).storedAgain ha T.fStack.slot u0.v).storedAgain ha T.fSupp.slot sen.v).storedAgain ha T.fStack.slot u0.v).storedAgain ha T.fMsg.slot (.ref (W.heap.size + 1))
  obtain ⟨g₁, hfrM⟩ := X5.frames_eq
  have hU : ((((withThrown W Zs text P1.m.cls kX).setVm vm').setCell (W.heap.size + 2) (plainBareV T.toThrowableT (freshCell P1.m.cls kX) (W.heap.size + 2) u0 sen (.ref (W.heap.size + 1)))).setTop g).pushFrame (.throwing (W.heap.size + 2)) = (((withThrown W Zs text P1.m.cls kX).setVm vm').setCell (W.heap.size + 2) (plainBareV T.toThrowableT (freshCell P1.m.cls kX) (W.heap.size + 2) u0 sen (.ref (W.heap.size + 1)))).setFrames (.throwing (W.heap.size + 2) :: .java g :: below) := by
    rw [State.pushFrame, State.frames_setTop _ hfrM, State.setTop_of_frames _ hfrM, State.setFrames_setFrames]
  have b1 : (bytesOf Zs.cB (stringToUtf16 text)).slots.size = (stringBytes (stringToUtf16 text)).size := by
    rw [(Cell.writeAll_facts _ _).2.2]; simp [bytes0]
  have b2 : (stringAt Zs.cS Zs.kS Zs.fv Zs.fc (stringToUtf16 text) W.heap.size).slots.size = 4 := by simp [string0, Cell.setSlot, hn4]
  have b3 : (freshCell P1.m.cls kX).slots.size = 6 := by simp [hn6]
  rw [b1, b2, b3] at X5
  have e9 : slots + (stringBytes (stringToUtf16 text)).size + 4 + 6 = slots + ((stringBytes (stringToUtf16 text)).size + 4 + 6) := by omega
  rw [e9] at X5
  simp only [List.append_assoc, List.cons_append, List.nil_append] at X5
  refine ⟨((withThrown W Zs text P1.m.cls kX).setVm vm').setCell (W.heap.size + 2) (plainBareV T.toThrowableT (freshCell P1.m.cls kX) (W.heap.size + 2) u0 sen (.ref (W.heap.size + 1))), W.heap.size + 2, _, fun target ht => st _ (by rw [X.tail, ← hU]; exact ht),
    X5.forget (fun y hy => ?_), heapAt_setCell_self _ ha, hfound, rfl⟩
  simp only [List.mem_cons, List.not_mem_nil, or_false] at hy
  have hge : s.heap.size ≤ W.heap.size := X.same.2.1
  rcases hy with rfl | rfl | rfl | rfl | rfl <;> exact Nat.le_trans hge (Nat.le_add_right _ 2)
set_option maxHeartbeats 1000000 in
/-- the machine throws NullPointerException, no traces kept: from its note over the frame g to 'throwing' over the same frame (follows the proof of Stand.vmThrowsNpe, Shelf42/KT2.lean; throwsNpeColdBareVAt, Shelf42/NT91.lean, called) -/
theorem vx_npeAt {p : Program} {l : Launch} {e : Env} {R : Room} {s : State} {m₀ : MethodId} {args : Array Value} {below : List Frame} {meth : Method} {c : Code} {W : State} {locs : List Loc} {cells slots : Nat}
    (X : Stand p l e R s m₀ args below meth c W locs cells slots) (hexec : p.tables.exec = Jvm.exec) (htr : e.platform.stackTraces = false) {n : Nat}
    (h : ∀ a ∈ Bundle.npeArmAtoms n, a.before args s = true)
    (hlocs : ∀ x ∈ locs, ∀ cell, s.heap[x.base]? = some cell → cell.vm.isStatics = false)
    {g : JFrame} (hg : g.method = m₀) (hsize : g.locals.size = c.maxLocals)
    (hRframes : 7 < R.frames) (hRlocals : 2 * g.monitorRoom + (g.stack.map fun v => v.category).sum + 10240 ≤ R.locals)
    (hRcells : cells + 1 ≤ R.cells) (hRslots : slots + n ≤ R.slots) (hlocks : meth.locks = false) :
    ∃ (S : State) (q : Addr) (ce : Cell), (∀ target, Steps p.tables e below ((S.setTop g).pushFrame (.throwing q)) target → Steps p.tables e below ((W.setTop g).pushFrame (.throwNew "java/lang/NullPointerException" none none)) target) ∧
      Stand p l e R s m₀ args below meth c S locs (cells + 1) (slots + n) ∧ S.heap[q]? = some ce ∧ s.vm.findClass "java/lang/NullPointerException" = some ce.cls ∧ ce.vm = .none := by
  have howns : e.platform.frameOwnsMonitors = true := by rw [X.admits.platform]
  have hfin : e.platform.finalization = false := by rw [X.admits.platform]
  have hpl : e.platform.magicAccessors = ({} : Platform).magicAccessors := by rw [X.admits.platform]
  have hpl2 : e.platform.arrayCloneIsPublic = true := by rw [X.admits.platform]
  have a' : ∀ x, x ∈ Bundle.npeArmAtoms n → x.holds args s none s [] = true := fun x hx => h x hx
  obtain ⟨T, Z, L, LZ, Y⟩ := ThrowableC.of_atoms (args := args) howns hfin hpl (fun x hx => h x (by simp [Bundle.npeArmAtoms, hx]))
  obtain ⟨N, LN, hcN, hnNF, hordN, hffS⟩ := NpeC.of_atoms (args := args) hpl hpl2 L Y (fun x hx => h x (by simp [Bundle.npeArmAtoms, hx]))
  obtain ⟨P1, L1, hP1m, hP1s⟩ := PassC.of_atoms (args := args) (s := s) hpl (X := Bundle.nN) (Y := Bundle.rN) (by decide) (by decide) LibCode.NullPointerException.Init0.at_0 LibCode.NullPointerException.Init0.at_1 LibCode.NullPointerException.Init0.at_4 (fun x hx => h x (by simp [Bundle.npeArmAtoms, hx]))
  obtain ⟨PR, LR, hPRm, hPRs⟩ := PassC.of_atoms (args := args) (s := s) hpl (X := Bundle.rN) (Y := Bundle.eN) (by decide) (by decide) LibCode.RuntimeException.Init0.at_0 LibCode.RuntimeException.Init0.at_1 LibCode.RuntimeException.Init0.at_4 (fun x hx => h x (by simp [Bundle.npeArmAtoms, hx]))
  obtain ⟨PE, LEx, hPEm, hPEs⟩ := PassC.of_atoms (args := args) (s := s) hpl (X := Bundle.eN) (Y := Bundle.tN) (by decide) (by decide) LibCode.Exception.Init0.at_0 LibCode.Exception.Init0.at_1 LibCode.Exception.Init0.at_4 (fun x hx => h x (by simp [Bundle.npeArmAtoms, hx]))
  have hfound : s.vm.findClass Bundle.nN = some P1.m.cls := findClass_of_methodNamed hP1m
  have ecls : N.cN = P1.m.cls := Option.some.inj (hcN.symm.trans hfound)
  have hk : s.vm.classes[P1.m.cls]? = some N.kN := by rw [← ecls]; exact LN.cls
  have hinit := Cond.initialized_spec hfound hk (a' (.initialized Bundle.nN) (by simp [Bundle.npeArmAtoms]))
  have hctor : N.kN.findMethod "<init>" "()V" = some P1.m.idx := findMethod_of_methodNamed hP1m hk
  obtain ⟨c1, k1, hc1, hk1, -, -, -, hn⟩ := Cond.instantiable_spec (a' (.instantiable Bundle.nN n) (by simp [Bundle.npeArmAtoms]))
  cases Option.some.inj (hc1.symm.trans hfound)
  cases Option.some.inj (hk1.symm.trans hk)
  have hfsz : (freshCell P1.m.cls N.kN).slots.size = n := by simp [hn]
  have hlink1 : P1.sup = PR.m := Option.some.inj (hP1s.symm.trans hPRm)
  have hlinkR : PR.sup = PE.m := Option.some.inj (hPRs.symm.trans hPEm)
  have hlinkE : PE.sup = Z.m T.toThrowableT := Option.some.inj (hPEs.symm.trans Y.init0)
  have hLs : ∀ P, P ∈ [PR, PE] → P.Links0 e.platform s := fun P hP => by
    simp only [List.mem_cons, List.not_mem_nil, or_false] at hP
    rcases hP with rfl | rfl
    · exact LR
    · exact LEx
  have hsel0 : selectMethod e.platform s.vm P1.m.cls T.fill0 = .method T.fill0 := by
    obtain ⟨c2, r2, m2, q1, q2, q3, q4, -⟩ := Cond.selects_spec (a' (.selects Bundle.nN Bundle.tFill0 Bundle.tFill0) (by simp [Bundle.npeArmAtoms]))
    cases Option.some.inj (q1.symm.trans hfound)
    cases Option.some.inj (q2.symm.trans (State.methodFound?_of_named Y.fill0 (by decide)))
    cases Option.some.inj (q3.symm.trans Y.fill0)
    rw [Launch.admits_selectMethod X.admits]; exact q4
  have hselF : selectMethod e.platform s.vm P1.m.cls T.fill = .method N.fill := by
    obtain ⟨c2, r2, m2, q1, q2, q3, q4, -⟩ := Cond.selects_spec (a' (.selects Bundle.nN Bundle.tFill Bundle.nFill) (by simp [Bundle.npeArmAtoms]))
    cases Option.some.inj (q1.symm.trans hfound)
    cases Option.some.inj (q2.symm.trans (State.methodFound?_of_named Y.fill (by decide)))
    cases Option.some.inj (q3.symm.trans hnNF)
    rw [Launch.admits_selectMethod X.admits]; exact q4
  obtain ⟨cellS0, hcS0, hiss⟩ := Y.statics
  obtain ⟨u0, hu0⟩ := Cond.staticRefV Y.unassigned L.unassignedStatic L.statics hcS0 hiss (a' (.isRef (.static Bundle.tN "UNASSIGNED_STACK" Bundle.steD)) (by simp [Bundle.npeArmAtoms]))
  obtain ⟨sen, hsen⟩ := Cond.staticRefV Y.sentinel L.sentinelStatic L.statics hcS0 hiss (a' (.isRef (.static Bundle.tN "SUPPRESSED_SENTINEL" Bundle.listD)) (by simp [Bundle.npeArmAtoms]))
  obtain ⟨ci198, i198, fB, hk198, hg198, ha198, hsB, -, hnB, htB, hffB⟩ := Cond.ownField (t := .object "java/lang/Object") Y.found L.cls (by decide +kernel) (a' (.fieldLink Bundle.tN 198 Bundle.tN "backtrace" Bundle.objD) (by simp [Bundle.npeArmAtoms])) (a' (.lays Bundle.tN Bundle.tN "backtrace" Bundle.objD) (by simp [Bundle.npeArmAtoms])) e.platform hpl
  obtain ⟨cellS, hcS', heS, -, hkeep⟩ := X.same.2.2.2.2.2 T.aS cellS0 hcS0
  have hcellS : W.heap[T.aS]? = some cellS := hcS'
  have hout' : ∀ i, (⟨T.aS, i⟩ : Loc) ∉ locs := fun i hmem => by
    have := hlocs _ hmem cellS0 hcS0
    rw [hiss] at this; cases this
  have hknownS : cellS.vm ≠ .unknown := by
    rw [heS]; intro hu
    rw [show cellS0.vm = .unknown from hu] at hiss
    cases hiss
  have hvU : cellS.slots[T.fUnassigned.slot]? = some u0.v := by rw [hkeep _ (hout' _)]; exact hu0
  have hvSen : cellS.slots[T.fSentinel.slot]? = some sen.v := by rw [hkeep _ (hout' _)]; exact hsen
  obtain ⟨tyC, dC, hdC, hdnC⟩ := Cond.laysAt hfound hk Y.cause (a' (.lays Bundle.nN Bundle.tN "cause" "Ljava/lang/Throwable;") (by simp [Bundle.npeArmAtoms]))
  obtain ⟨tyS, dS, hdS, hdnS⟩ := Cond.laysAt hfound hk Y.stack (a' (.lays Bundle.nN Bundle.tN "stackTrace" Bundle.steD) (by simp [Bundle.npeArmAtoms]))
  obtain ⟨tyP, dP, hdP, hdnP⟩ := Cond.laysAt hfound hk Y.supp (a' (.lays Bundle.nN Bundle.tN "suppressedExceptions" Bundle.listD) (by simp [Bundle.npeArmAtoms]))
  obtain ⟨tyX, dX, hdX, hdnX⟩ := Cond.laysAt hfound hk hffS (a' (.lays Bundle.nN Bundle.nN "extendedMessageState" "I") (by simp [Bundle.npeArmAtoms, Bundle.npeAtoms]))
  obtain ⟨hnX, htX⟩ := State.fieldFound?_type hffS (t := .int) (by decide +kernel)
  have xC := Cond.laysApart hdC hdX hdnC hdnX (by rw [hnX, Y.causeName]; decide)
  have xS := Cond.laysApart hdS hdX hdnS hdnX (by rw [hnX, Y.stackName]; decide)
  have xP := Cond.laysApart hdP hdX hdnP hdnX (by rw [hnX, Y.suppName]; decide)
  have hv0 : (freshCell P1.m.cls N.kN).slots[N.fState.slot]? = some (.int 0) := by
    have := fresh_default (c := P1.m.cls) tyX
    rw [htX] at this; exact this
  obtain ⟨tyB, dB, hdB, hdnB⟩ := Cond.laysAt hfound hk hffB (a' (.lays Bundle.nN Bundle.tN "backtrace" Bundle.objD) (by simp [Bundle.npeArmAtoms]))
  have bC := Cond.laysApart hdB hdC hdnB hdnC (by rw [hnB, Y.causeName]; decide)
  have bS := Cond.laysApart hdB hdS hdnB hdnS (by rw [hnB, Y.stackName]; decide)
  have bP := Cond.laysApart hdB hdP hdnB hdnP (by rw [hnB, Y.suppName]; decide)
  have bX := Cond.laysApart hdB hdX hdnB hdnX (by rw [hnB, hnX]; decide)
  have hbk : ((npeCell N.toNpeT (preparedCellV T.toThrowableT (freshCell P1.m.cls N.kN) W.heap.size u0 sen) W.cur).withEntry W.cur).slots[fB.slot]? = some .null := by
    have := fresh_default (c := P1.m.cls) tyB
    rw [htB] at this
    simpa [npeCell, preparedCellV, Cell.setSlot, Cell.withEntry, Array.getElem?_setIfInBounds, bC, bS, bP, bX, bC.symm, bS.symm, bP.symm, bX.symm, defaultValue] using this
  have tkC := Takes.of_laid (v := .ref W.heap.size) hk hordN tyC (by rw [Y.causeType]; rfl)
  have tkS := Takes.of_laid (v := u0.v) hk hordN tyS (by rw [Y.stackType]; exact fits_refV_array _ u0)
  have tkP := Takes.of_laid (v := sen.v) hk hordN tyP (by rw [Y.suppType]; exact fits_refV_object _ sen)
  have tkX := Takes.of_laid (v := .int 1) hk hordN tyX (by rw [htX]; rfl)
  have hskip : SkipFacts T e.platform s (fun u => u) u0 ((npeCell N.toNpeT (preparedCellV T.toThrowableT (freshCell P1.m.cls N.kN) W.heap.size u0 sen) W.cur).withEntry W.cur) := ⟨{ ci198 := ci198, i198 := i198, fBack := fB }, ⟨hk198, hg198, ha198, hsB⟩, hbk, fun _ _ => rfl⟩
  obtain ⟨vm', X3, st, -⟩ := X.throwsNpeColdBareVAt hexec hg hsize T L Z LZ N LN P1 L1 [PR, PE] hLs hlink1 ⟨hlinkR, hlinkE, trivial⟩ hfound hk hinit hordN hctor hsel0 hselF hcellS hknownS hvU hvSen
    hv0 xC xS xP tkC tkS tkP tkX Y.objLocals hskip (fun _ _ hA hW _ hroom _ hrest => L.nativeOff p htr hA hW hroom hrest) (by simpa using hRframes) hRlocals (by simp) hRcells (by rw [hn]; exact hRslots)
  have hlt : W.heap.size < ((W.pushCell (freshCell P1.m.cls N.kN)).setVm vm').heap.size := by
    show W.heap.size < (W.pushCell (freshCell P1.m.cls N.kN)).heap.size
    rw [State.heap_size_pushCell]; omega
  rw [hfsz] at X3
  obtain ⟨g₁, hfrM⟩ := X3.frames_eq
  have hU : ((((W.pushCell (freshCell P1.m.cls N.kN)).setVm vm').setCell W.heap.size (npeBareV T.toThrowableT N.toNpeT (freshCell P1.m.cls N.kN) W.heap.size u0 sen)).setTop g).pushFrame (.throwing W.heap.size) = (((W.pushCell (freshCell P1.m.cls N.kN)).setVm vm').setCell W.heap.size (npeBareV T.toThrowableT N.toNpeT (freshCell P1.m.cls N.kN) W.heap.size u0 sen)).setFrames (.throwing W.heap.size :: .java g :: below) := by
    rw [State.pushFrame, State.frames_setTop _ hfrM, State.setTop_of_frames _ hfrM, State.setFrames_setFrames]
  refine ⟨_, W.heap.size, _, fun target ht => st.trans (by rw [← hU]; exact ht), X3.forget (fun y hy => ?_), heapAt_setCell_self _ hlt, hfound, rfl⟩
  simp only [List.mem_cons, List.not_mem_nil, or_false] at hy
  have hge : s.heap.size ≤ W.heap.size := X.same.2.1
  rcases hy with rfl | rfl | rfl | rfl | rfl <;> exact hge
/-- the words of a machine's NullPointerException, but the four that speak of the heap -/
def vx_atN (n : Nat) : List Cond := (Bundle.npeArmAtoms n).filter vx_no
/-- the words of a machine's throw with a message, but the four that speak of the heap -/
def vx_atM (X : String) (names : List String) : List Cond := (Bundle.messageArmAtoms X names).filter vx_no
section
variable {p : Program} {l : Launch} {e : Env} {R : Room} {s : State} {m : MethodId} {args : Array Value} {below : List Frame} {meth : Method} {c : Code} {H : Heap} {locs : List Loc} {cells slots : Nat}
/-- a frame seen from a rebased start, seen from the first start again -/
theorem vx_back9 {T S : State} {R' : Room} {k n : Nat} (X : Stand p l e R s m args below meth c T locs cells slots) (Y : Stand p l e R' ((T.setVm s.vm).setFrames (.invoking m args :: below)) m args below meth c T [] 0 0) (Z : Stand p l e R' ((T.setVm s.vm).setFrames (.invoking m args :: below)) m args below meth c S [] k n) :
    Stand p l e R s m args below meth c S locs (cells + k) (slots + n) := by
  have hW0 : s.WarmedH ((T.setVm s.vm).setFrames (.invoking m args :: below)).vm := State.WarmedH.refl s
  refine { admits := X.admits, cas := X.cas, clock := X.clock, frames := X.frames, room := X.room, hears := X.hears, method := X.method, code := X.code, here := Z.here, tail := Z.tail, warmed := State.WarmedH.trans hW0 Z.warmed, limits := Z.limits.trans (Y.limits.symm.trans X.limits), bytes := Z.bytes.trans (Y.bytes.symm.trans X.bytes), same := ?_ }
  obtain ⟨e1, e2⟩ := Z.same
  rw [State.setFrames_setFrames] at e1
  have h2 : (T.setVm s.vm).sameButNew (S.setVm s.vm) [] k n := ⟨e1, e2⟩
  have h3 := X.same.trans h2
  rw [List.append_nil] at h3
  exact h3
/-- from the machine's note that E is thrown here with this text -/
def vx_Note (p : Program) (l : Launch) (e : Env) (R : Room) (s : State) (m : MethodId) (args : Array Value) (below : List Frame) (meth : Method) (c : Code) (H : Heap) (locs : List Loc) (cells slots : Nat) (Q : State → Prop) (g : JFrame) (E text : String) : Prop :=
  ∀ T : State, T.heap = H → Stand p l e R s m args below meth c T locs cells slots → ∃ t, Steps p.tables e below ((T.setTop g).pushFrame (.throwNew E (some text) none)) t ∧ Q t
theorem vx_vm {pc : Nat} {ls : Array Slot} {rest : List Value} {Q : State → Prop} (hexec : p.tables.exec = Jvm.exec) (hl : l.stackTraces = false) {cls text : String} {names : List String} {nb : Nat} {A : Nat → Prop}
    (hcls : Bundle.fit cls = true) (hnames : ∀ n ∈ names, Bundle.fit n = true) (hsoe : (cls == "java/lang/StackOverflowError") = false) (hoom : (cls == "java/lang/OutOfMemoryError") = false)
    (hat : ∀ w ∈ vx_atM cls names, w.before args s = true) (hgood : ∀ w ∈ vx_atM cls names, vx_ot w = true)
    (hU : vx_Zq Bundle.tN "UNASSIGNED_STACK" Bundle.steD A s s.heap) (hN : vx_Zq Bundle.tN "SUPPRESSED_SENTINEL" Bundle.listD A s s.heap) (hS : va_S A s.heap H locs) (hsize : ls.size = c.maxLocals)
    (htext : (text == notModelled) = false) (hnb : (stringBytes (stringToUtf16 text)).size ≤ nb) (hnb1 : nb ≤ 1000)
    (hRframes : names.length + 4 < R.frames) (hRlocals : (rest.map fun v => v.category).sum + 10240 ≤ R.locals) (hshort : 13 * names.length + 55 ≤ 10240) (hRcells : cells + 3 ≤ R.cells) (hRslots : slots + (nb + 10) ≤ R.slots) (hlocks : meth.locks = false)
    (k : ∀ (H1 : Heap) (q9 : Addr) (ce : Cell), H.size ≤ H1.size → (∀ q : Nat, q < H.size → H1[q]? = H[q]?) → va_S A s.heap H1 locs → H1[q9]? = some ce → ce.vm = .none → s.vm.findClass cls = some ce.cls → vx_W p l e R s m args below meth c H1 locs (cells + 3) (slots + (nb + 10)) Q (F0 m pc ls rest) q9) :
    vx_Note p l e R s m args below meth c H locs cells slots Q (F0 m pc ls rest) cls text := by
  intro T hT X
  have htr : e.platform.stackTraces = false := (show e.platform.stackTraces = l.stackTraces by rw [X.admits.platform]).trans hl
  have Y := vx_rebase X (R' := { frames := R.frames, locals := R.locals, cells := 3, slots := nb + 10 }) (Nat.le_refl _) (Nat.le_refl _) hRcells hRslots
  have hhp : ((T.setVm s.vm).setFrames (.invoking m args :: below)).heap = H := hT
  have hW0 : s.WarmedH ((T.setVm s.vm).setFrames (.invoking m args :: below)).vm := State.WarmedH.refl s
  have hat' : ∀ w ∈ vx_atM cls names, w.before args ((T.setVm s.vm).setFrames (.invoking m args :: below)) = true := fun w hw => vx_ot_at hW0 rfl (hgood w hw) (hat w hw)
  have hU' : vx_Zq Bundle.tN "UNASSIGNED_STACK" Bundle.steD A ((T.setVm s.vm).setFrames (.invoking m args :: below)) ((T.setVm s.vm).setFrames (.invoking m args :: below)).heap := by rw [hhp]; exact vx_Zq.moved hW0.alike (hU.kept hS.2.1)
  have hN' : vx_Zq Bundle.tN "SUPPRESSED_SENTINEL" Bundle.listD A ((T.setVm s.vm).setFrames (.invoking m args :: below)) ((T.setVm s.vm).setFrames (.invoking m args :: below)).heap := by rw [hhp]; exact vx_Zq.moved hW0.alike (hN.kept hS.2.1)
  obtain ⟨S, q, ce, st, Z, hce, hcl', hv⟩ := vx_vmAt Y hexec htr (cls := cls) (names := names) (text := text) hcls hnames hsoe hoom (vx_own hat' (vx_isRefq hU'.1) (vx_isRefq hN'.1) hU'.2.word hN'.2.word) (fun x hx => nomatch hx) htext
    (by rw [Launch.admits_arrayLengthLimit X.admits]; omega) (by rw [Launch.admits_maxHeapBytes X.admits]; simp only [componentBytes]; omega)
    (g := F0 m pc ls rest) rfl hsize hRframes (by show 2 * 0 + (rest.map fun v => v.category).sum + 10240 ≤ R.locals; omega) hshort (by show 0 + 3 ≤ 3; omega) (by show 0 + (_ + 4 + 6) ≤ nb + 10; omega) hlocks
  obtain ⟨f1, f2⟩ := vx_frame Z.same
  have f1' : H.size ≤ S.heap.size := by rw [← hT]; exact f1
  have f2' : ∀ q : Nat, q < H.size → S.heap[q]? = H[q]? := fun q hq => by
    rw [← hT]
    exact f2 q (by rw [← hT] at hq; exact hq) (fun z hz => nomatch hz)
  have X5 := vx_back9 X Y Z
  have X6 : Stand p l e R s m args below meth c S locs (cells + 3) (slots + (nb + 10)) := { X5 with same := X5.same.mono (by omega) (by omega) }
  obtain ⟨t, a1, b1⟩ := k S.heap q ce f1' f2' ⟨Nat.le_trans hS.1 f1', fun q h1 h2 => (f2' q (Nat.lt_of_lt_of_le h1 hS.1)).trans (hS.2.1 q h1 h2), hS.2.2⟩ hce hv hcl' S rfl X6
  exact ⟨t, st t a1, b1⟩
/-- from the machine's note that NullPointerException is thrown here -/
def vx_NoteN (p : Program) (l : Launch) (e : Env) (R : Room) (s : State) (m : MethodId) (args : Array Value) (below : List Frame) (meth : Method) (c : Code) (H : Heap) (locs : List Loc) (cells slots : Nat) (Q : State → Prop) (g : JFrame) : Prop :=
  ∀ T : State, T.heap = H → Stand p l e R s m args below meth c T locs cells slots → ∃ t, Steps p.tables e below ((T.setTop g).pushFrame (.throwNew "java/lang/NullPointerException" none none)) t ∧ Q t
theorem vx_npe {pc : Nat} {ls : Array Slot} {rest : List Value} {Q : State → Prop} (hexec : p.tables.exec = Jvm.exec) (hl : l.stackTraces = false) {nb : Nat} {A : Nat → Prop}
    (hat : ∀ w ∈ vx_atN nb, w.before args s = true) (hgood : ∀ w ∈ vx_atN nb, vx_ot w = true)
    (hU : vx_Zq Bundle.tN "UNASSIGNED_STACK" Bundle.steD A s s.heap) (hN : vx_Zq Bundle.tN "SUPPRESSED_SENTINEL" Bundle.listD A s s.heap) (hS : va_S A s.heap H locs) (hsize : ls.size = c.maxLocals)
    (hRframes : 7 < R.frames) (hRlocals : (rest.map fun v => v.category).sum + 10240 ≤ R.locals) (hRcells : cells + 1 ≤ R.cells) (hRslots : slots + nb ≤ R.slots) (hlocks : meth.locks = false)
    (k : ∀ (H1 : Heap) (q9 : Addr) (ce : Cell), H.size ≤ H1.size → (∀ q : Nat, q < H.size → H1[q]? = H[q]?) → va_S A s.heap H1 locs → H1[q9]? = some ce → ce.vm = .none → s.vm.findClass "java/lang/NullPointerException" = some ce.cls → vx_W p l e R s m args below meth c H1 locs (cells + 1) (slots + nb) Q (F0 m pc ls rest) q9) :
    vx_NoteN p l e R s m args below meth c H locs cells slots Q (F0 m pc ls rest) := by
  intro T hT X
  have htr : e.platform.stackTraces = false := (show e.platform.stackTraces = l.stackTraces by rw [X.admits.platform]).trans hl
  have Y := vx_rebase X (R' := { frames := R.frames, locals := R.locals, cells := 1, slots := nb }) (Nat.le_refl _) (Nat.le_refl _) hRcells hRslots
  have hhp : ((T.setVm s.vm).setFrames (.invoking m args :: below)).heap = H := hT
  have hW0 : s.WarmedH ((T.setVm s.vm).setFrames (.invoking m args :: below)).vm := State.WarmedH.refl s
  have hat' : ∀ w ∈ vx_atN nb, w.before args ((T.setVm s.vm).setFrames (.invoking m args :: below)) = true := fun w hw => vx_ot_at hW0 rfl (hgood w hw) (hat w hw)
  have hU' : vx_Zq Bundle.tN "UNASSIGNED_STACK" Bundle.steD A ((T.setVm s.vm).setFrames (.invoking m args :: below)) ((T.setVm s.vm).setFrames (.invoking m args :: below)).heap := by rw [hhp]; exact vx_Zq.moved hW0.alike (hU.kept hS.2.1)
  have hN' : vx_Zq Bundle.tN "SUPPRESSED_SENTINEL" Bundle.listD A ((T.setVm s.vm).setFrames (.invoking m args :: below)) ((T.setVm s.vm).setFrames (.invoking m args :: below)).heap := by rw [hhp]; exact vx_Zq.moved hW0.alike (hN.kept hS.2.1)
  obtain ⟨S, q, ce, st, Z, hce, hcl', hv⟩ := vx_npeAt Y hexec htr (n := nb) (vx_own hat' (vx_isRefq hU'.1) (vx_isRefq hN'.1) hU'.2.word hN'.2.word) (fun x hx => nomatch hx)
    (g := F0 m pc ls rest) rfl hsize hRframes (by show 2 * 0 + (rest.map fun v => v.category).sum + 10240 ≤ R.locals; omega) (by show 0 + 1 ≤ 1; omega) (by show 0 + nb ≤ nb; omega) hlocks
  obtain ⟨f1, f2⟩ := vx_frame Z.same
  have f1' : H.size ≤ S.heap.size := by rw [← hT]; exact f1
  have f2' : ∀ q : Nat, q < H.size → S.heap[q]? = H[q]? := fun q hq => by
    rw [← hT]
    exact f2 q (by rw [← hT] at hq; exact hq) (fun z hz => nomatch hz)
  have X5 := vx_back9 X Y Z
  have X6 : Stand p l e R s m args below meth c S locs (cells + 1) (slots + nb) := { X5 with same := X5.same.mono (by omega) (by omega) }
  obtain ⟨t, a1, b1⟩ := k S.heap q ce f1' f2' ⟨Nat.le_trans hS.1 f1', fun q h1 h2 => (f2' q (Nat.lt_of_lt_of_le h1 hS.1)).trans (hS.2.1 q h1 h2), hS.2.2⟩ hce hv hcl' S rfl X6
  exact ⟨t, st t a1, b1⟩
variable {Q : State → Prop} {cc : ByteArray} {pc : Nat} {ls : Array Slot} {rest : List Value}
theorem vx_idivZ (hexec : p.tables.exec = Jvm.exec) (hb : c.code = cc) {a b : Int32} (h0 : b = 0) (d : decode cc pc = .ok (.idiv, 1)) (k : vx_Note p l e R s m args below meth c H locs cells slots Q (F0 m pc ls rest) "java/lang/ArithmeticException" "/ by zero") :
    W p l e R s m args below meth c H locs cells slots Q (F0 m pc ls (.int b :: .int a :: rest)) := by
  intro T hT X
  obtain ⟨t, st, q⟩ := k T hT X
  exact ⟨t, X.idivZero hexec (g := F0 m pc ls (.int b :: .int a :: rest)) rfl (a := a) (rest := rest) (by rw [h0]) (by rw [hb]; exact d) t st, q⟩
theorem vx_iremZ (hexec : p.tables.exec = Jvm.exec) (hb : c.code = cc) {a b : Int32} (h0 : b = 0) (d : decode cc pc = .ok (.irem, 1)) (k : vx_Note p l e R s m args below meth c H locs cells slots Q (F0 m pc ls rest) "java/lang/ArithmeticException" "/ by zero") :
    W p l e R s m args below meth c H locs cells slots Q (F0 m pc ls (.int b :: .int a :: rest)) := by
  intro T hT X
  obtain ⟨t, st, q⟩ := k T hT X
  exact ⟨t, X.iremZero hexec (g := F0 m pc ls (.int b :: .int a :: rest)) rfl (a := a) (rest := rest) (by rw [h0]) (by rw [hb]; exact d) t st, q⟩
theorem vx_ldivZ (hexec : p.tables.exec = Jvm.exec) (hb : c.code = cc) {a b : Int64} (h0 : b = 0) (d : decode cc pc = .ok (.ldiv, 1)) (k : vx_Note p l e R s m args below meth c H locs cells slots Q (F0 m pc ls rest) "java/lang/ArithmeticException" "/ by zero") :
    W p l e R s m args below meth c H locs cells slots Q (F0 m pc ls (.long b :: .long a :: rest)) := by
  intro T hT X
  obtain ⟨t, st, q⟩ := k T hT X
  exact ⟨t, X.ldivZero hexec (g := F0 m pc ls (.long b :: .long a :: rest)) rfl (a := a) (rest := rest) (by rw [h0]) (by rw [hb]; exact d) t st, q⟩
theorem vx_lremZ (hexec : p.tables.exec = Jvm.exec) (hb : c.code = cc) {a b : Int64} (h0 : b = 0) (d : decode cc pc = .ok (.lrem, 1)) (k : vx_Note p l e R s m args below meth c H locs cells slots Q (F0 m pc ls rest) "java/lang/ArithmeticException" "/ by zero") :
    W p l e R s m args below meth c H locs cells slots Q (F0 m pc ls (.long b :: .long a :: rest)) := by
  intro T hT X
  obtain ⟨t, st, q⟩ := k T hT X
  exact ⟨t, X.lremZero hexec (g := F0 m pc ls (.long b :: .long a :: rest)) rfl (a := a) (rest := rest) (by rw [h0]) (by rw [hb]; exact d) t st, q⟩
theorem vx_ialdZ {D : va_G} {cl : List vw_C} {ws : va_W} {tys : List (ClassId × FieldType)} {a : Nat} (hexec : p.tables.exec = Jvm.exec) (hb : c.code = cc) (hK : va_K D cl tys s) (hP : va_P D cl ws H) (q0 t0 : Nat) {cA : ClassId} {n : Nat} {f : Nat → Int32} (ha : ws[q0]? = some (a, .inl (cA, n, .inl f))) (ht : tys[t0]? = some (cA, .int)) {i : Int32} (hout : ¬ vp_in i n) (hdg : decode cc pc = .ok (.iaload, 1))
    (k : ∀ tx : String, tx = (toString "Index " ++ toString i ++ toString " out of bounds for length " ++ toString n : String) → vx_Note p l e R s m args below meth c H locs cells slots Q (F0 m pc ls rest) "java/lang/ArrayIndexOutOfBoundsException" tx) : W p l e R s m args below meth c H locs cells slots Q (F0 m pc ls (.int i :: .ref a :: rest)) := by
  intro T hT X
  obtain ⟨t, st, q⟩ := k _ rfl T hT X
  refine ⟨t, ?_, q⟩
  have h1 := X.ialoadOut hexec (by rw [hT]; exact hP q0 _ ha) ((hK.2 t0 _ ht).1 n (fun j => .int (f j))) (j := i) (by show (i < 0 ∨ (arrV _ _ _).slots.size ≤ _); rw [arrV_size]; exact Classical.byContradiction hout) (g := F0 m pc ls (.int i :: .ref a :: rest)) rfl (rest := rest) rfl (by rw [hb]; exact hdg) t
  simp only [arrV_size] at h1
  exact h1 st
theorem vx_iastZ {D : va_G} {cl : List vw_C} {ws : va_W} {tys : List (ClassId × FieldType)} {a : Nat} (hexec : p.tables.exec = Jvm.exec) (hb : c.code = cc) (hK : va_K D cl tys s) (hP : va_P D cl ws H) (q0 t0 : Nat) {cA : ClassId} {n : Nat} {f : Nat → Int32} (ha : ws[q0]? = some (a, .inl (cA, n, .inl f))) (ht : tys[t0]? = some (cA, .int)) {i : Int32} {x : Int32} (hout : ¬ vp_in i n) (hdg : decode cc pc = .ok (.iastore, 1))
    (k : ∀ tx : String, tx = (toString "Index " ++ toString i ++ toString " out of bounds for length " ++ toString n : String) → vx_Note p l e R s m args below meth c H locs cells slots Q (F0 m pc ls rest) "java/lang/ArrayIndexOutOfBoundsException" tx) : W p l e R s m args below meth c H locs cells slots Q (F0 m pc ls (.int x :: .int i :: .ref a :: rest)) := by
  intro T hT X
  obtain ⟨t, st, q⟩ := k _ rfl T hT X
  refine ⟨t, ?_, q⟩
  have h1 := X.iastoreOut hexec (by rw [hT]; exact hP q0 _ ha) ((hK.2 t0 _ ht).1 n (fun j => .int (f j))) (j := i) (by show (i < 0 ∨ (arrV _ _ _).slots.size ≤ _); rw [arrV_size]; exact Classical.byContradiction hout) (g := F0 m pc ls (.int x :: .int i :: .ref a :: rest)) rfl (rest := rest) rfl (by rw [hb]; exact hdg) t
  simp only [arrV_size] at h1
  exact h1 st
theorem vx_baldZ {D : va_G} {cl : List vw_C} {ws : va_W} {tys : List (ClassId × FieldType)} {a : Nat} (hexec : p.tables.exec = Jvm.exec) (hb : c.code = cc) (hK : va_K D cl tys s) (hP : va_P D cl ws H) (q0 t0 : Nat) {cA : ClassId} {n : Nat} {f : Nat → Int32} (ha : ws[q0]? = some (a, .inl (cA, n, .inl f))) (ht : tys[t0]? = some (cA, .byte)) {i : Int32} (hout : ¬ vp_in i n) (hdg : decode cc pc = .ok (.baload, 1))
    (k : ∀ tx : String, tx = (toString "Index " ++ toString i ++ toString " out of bounds for length " ++ toString n : String) → vx_Note p l e R s m args below meth c H locs cells slots Q (F0 m pc ls rest) "java/lang/ArrayIndexOutOfBoundsException" tx) : W p l e R s m args below meth c H locs cells slots Q (F0 m pc ls (.int i :: .ref a :: rest)) := by
  intro T hT X
  obtain ⟨t, st, q⟩ := k _ rfl T hT X
  refine ⟨t, ?_, q⟩
  have h1 := X.baloadOut hexec (by rw [hT]; exact hP q0 _ ha) ((hK.2 t0 _ ht).1 n (fun j => .int (f j))) (j := i) (by show (i < 0 ∨ (arrV _ _ _).slots.size ≤ _); rw [arrV_size]; exact Classical.byContradiction hout) (g := F0 m pc ls (.int i :: .ref a :: rest)) rfl (rest := rest) rfl (by rw [hb]; exact hdg) t
  simp only [arrV_size] at h1
  exact h1 st
theorem vx_bastZ {D : va_G} {cl : List vw_C} {ws : va_W} {tys : List (ClassId × FieldType)} {a : Nat} (hexec : p.tables.exec = Jvm.exec) (hb : c.code = cc) (hK : va_K D cl tys s) (hP : va_P D cl ws H) (q0 t0 : Nat) {cA : ClassId} {n : Nat} {f : Nat → Int32} (ha : ws[q0]? = some (a, .inl (cA, n, .inl f))) (ht : tys[t0]? = some (cA, .byte)) {i : Int32} {x : Int32} (hout : ¬ vp_in i n) (hdg : decode cc pc = .ok (.bastore, 1))
    (k : ∀ tx : String, tx = (toString "Index " ++ toString i ++ toString " out of bounds for length " ++ toString n : String) → vx_Note p l e R s m args below meth c H locs cells slots Q (F0 m pc ls rest) "java/lang/ArrayIndexOutOfBoundsException" tx) : W p l e R s m args below meth c H locs cells slots Q (F0 m pc ls (.int x :: .int i :: .ref a :: rest)) := by
  intro T hT X
  obtain ⟨t, st, q⟩ := k _ rfl T hT X
  refine ⟨t, ?_, q⟩
  have h1 := X.bastoreOut hexec (by rw [hT]; exact hP q0 _ ha) ((hK.2 t0 _ ht).1 n (fun j => .int (f j))) (j := i) (by show (i < 0 ∨ (arrV _ _ _).slots.size ≤ _); rw [arrV_size]; exact Classical.byContradiction hout) (g := F0 m pc ls (.int x :: .int i :: .ref a :: rest)) rfl (rest := rest) rfl (by rw [hb]; exact hdg) t
  simp only [arrV_size] at h1
  exact h1 st
theorem vx_zaldZ {D : va_G} {cl : List vw_C} {ws : va_W} {tys : List (ClassId × FieldType)} {a : Nat} (hexec : p.tables.exec = Jvm.exec) (hb : c.code = cc) (hK : va_K D cl tys s) (hP : va_P D cl ws H) (q0 t0 : Nat) {cA : ClassId} {n : Nat} {f : Nat → Int32} (ha : ws[q0]? = some (a, .inl (cA, n, .inl f))) (ht : tys[t0]? = some (cA, .boolean)) {i : Int32} (hout : ¬ vp_in i n) (hdg : decode cc pc = .ok (.baload, 1))
    (k : ∀ tx : String, tx = (toString "Index " ++ toString i ++ toString " out of bounds for length " ++ toString n : String) → vx_Note p l e R s m args below meth c H locs cells slots Q (F0 m pc ls rest) "java/lang/ArrayIndexOutOfBoundsException" tx) : W p l e R s m args below meth c H locs cells slots Q (F0 m pc ls (.int i :: .ref a :: rest)) := by
  intro T hT X
  obtain ⟨t, st, q⟩ := k _ rfl T hT X
  refine ⟨t, ?_, q⟩
  have h1 := X.baloadOut hexec (by rw [hT]; exact hP q0 _ ha) ((hK.2 t0 _ ht).1 n (fun j => .int (f j))) (j := i) (by show (i < 0 ∨ (arrV _ _ _).slots.size ≤ _); rw [arrV_size]; exact Classical.byContradiction hout) (g := F0 m pc ls (.int i :: .ref a :: rest)) rfl (rest := rest) rfl (by rw [hb]; exact hdg) t
  simp only [arrV_size] at h1
  exact h1 st
theorem vx_zastZ {D : va_G} {cl : List vw_C} {ws : va_W} {tys : List (ClassId × FieldType)} {a : Nat} (hexec : p.tables.exec = Jvm.exec) (hb : c.code = cc) (hK : va_K D cl tys s) (hP : va_P D cl ws H) (q0 t0 : Nat) {cA : ClassId} {n : Nat} {f : Nat → Int32} (ha : ws[q0]? = some (a, .inl (cA, n, .inl f))) (ht : tys[t0]? = some (cA, .boolean)) {i : Int32} {x : Int32} (hout : ¬ vp_in i n) (hdg : decode cc pc = .ok (.bastore, 1))
    (k : ∀ tx : String, tx = (toString "Index " ++ toString i ++ toString " out of bounds for length " ++ toString n : String) → vx_Note p l e R s m args below meth c H locs cells slots Q (F0 m pc ls rest) "java/lang/ArrayIndexOutOfBoundsException" tx) : W p l e R s m args below meth c H locs cells slots Q (F0 m pc ls (.int x :: .int i :: .ref a :: rest)) := by
  intro T hT X
  obtain ⟨t, st, q⟩ := k _ rfl T hT X
  refine ⟨t, ?_, q⟩
  have h1 := X.bastoreOut hexec (by rw [hT]; exact hP q0 _ ha) ((hK.2 t0 _ ht).1 n (fun j => .int (f j))) (j := i) (by show (i < 0 ∨ (arrV _ _ _).slots.size ≤ _); rw [arrV_size]; exact Classical.byContradiction hout) (g := F0 m pc ls (.int x :: .int i :: .ref a :: rest)) rfl (rest := rest) rfl (by rw [hb]; exact hdg) t
  simp only [arrV_size] at h1
  exact h1 st
theorem vx_caldZ {D : va_G} {cl : List vw_C} {ws : va_W} {tys : List (ClassId × FieldType)} {a : Nat} (hexec : p.tables.exec = Jvm.exec) (hb : c.code = cc) (hK : va_K D cl tys s) (hP : va_P D cl ws H) (q0 t0 : Nat) {cA : ClassId} {n : Nat} {f : Nat → Int32} (ha : ws[q0]? = some (a, .inl (cA, n, .inl f))) (ht : tys[t0]? = some (cA, .char)) {i : Int32} (hout : ¬ vp_in i n) (hdg : decode cc pc = .ok (.caload, 1))
    (k : ∀ tx : String, tx = (toString "Index " ++ toString i ++ toString " out of bounds for length " ++ toString n : String) → vx_Note p l e R s m args below meth c H locs cells slots Q (F0 m pc ls rest) "java/lang/ArrayIndexOutOfBoundsException" tx) : W p l e R s m args below meth c H locs cells slots Q (F0 m pc ls (.int i :: .ref a :: rest)) := by
  intro T hT X
  obtain ⟨t, st, q⟩ := k _ rfl T hT X
  refine ⟨t, ?_, q⟩
  have h1 := X.caloadOut hexec (by rw [hT]; exact hP q0 _ ha) ((hK.2 t0 _ ht).1 n (fun j => .int (f j))) (j := i) (by show (i < 0 ∨ (arrV _ _ _).slots.size ≤ _); rw [arrV_size]; exact Classical.byContradiction hout) (g := F0 m pc ls (.int i :: .ref a :: rest)) rfl (rest := rest) rfl (by rw [hb]; exact hdg) t
  simp only [arrV_size] at h1
  exact h1 st
theorem vx_castZ {D : va_G} {cl : List vw_C} {ws : va_W} {tys : List (ClassId × FieldType)} {a : Nat} (hexec : p.tables.exec = Jvm.exec) (hb : c.code = cc) (hK : va_K D cl tys s) (hP : va_P D cl ws H) (q0 t0 : Nat) {cA : ClassId} {n : Nat} {f : Nat → Int32} (ha : ws[q0]? = some (a, .inl (cA, n, .inl f))) (ht : tys[t0]? = some (cA, .char)) {i : Int32} {x : Int32} (hout : ¬ vp_in i n) (hdg : decode cc pc = .ok (.castore, 1))
    (k : ∀ tx : String, tx = (toString "Index " ++ toString i ++ toString " out of bounds for length " ++ toString n : String) → vx_Note p l e R s m args below meth c H locs cells slots Q (F0 m pc ls rest) "java/lang/ArrayIndexOutOfBoundsException" tx) : W p l e R s m args below meth c H locs cells slots Q (F0 m pc ls (.int x :: .int i :: .ref a :: rest)) := by
  intro T hT X
  obtain ⟨t, st, q⟩ := k _ rfl T hT X
  refine ⟨t, ?_, q⟩
  have h1 := X.castoreOut hexec (by rw [hT]; exact hP q0 _ ha) ((hK.2 t0 _ ht).1 n (fun j => .int (f j))) (j := i) (by show (i < 0 ∨ (arrV _ _ _).slots.size ≤ _); rw [arrV_size]; exact Classical.byContradiction hout) (g := F0 m pc ls (.int x :: .int i :: .ref a :: rest)) rfl (rest := rest) rfl (by rw [hb]; exact hdg) t
  simp only [arrV_size] at h1
  exact h1 st
theorem vx_saldZ {D : va_G} {cl : List vw_C} {ws : va_W} {tys : List (ClassId × FieldType)} {a : Nat} (hexec : p.tables.exec = Jvm.exec) (hb : c.code = cc) (hK : va_K D cl tys s) (hP : va_P D cl ws H) (q0 t0 : Nat) {cA : ClassId} {n : Nat} {f : Nat → Int32} (ha : ws[q0]? = some (a, .inl (cA, n, .inl f))) (ht : tys[t0]? = some (cA, .short)) {i : Int32} (hout : ¬ vp_in i n) (hdg : decode cc pc = .ok (.saload, 1))
    (k : ∀ tx : String, tx = (toString "Index " ++ toString i ++ toString " out of bounds for length " ++ toString n : String) → vx_Note p l e R s m args below meth c H locs cells slots Q (F0 m pc ls rest) "java/lang/ArrayIndexOutOfBoundsException" tx) : W p l e R s m args below meth c H locs cells slots Q (F0 m pc ls (.int i :: .ref a :: rest)) := by
  intro T hT X
  obtain ⟨t, st, q⟩ := k _ rfl T hT X
  refine ⟨t, ?_, q⟩
  have h1 := X.saloadOut hexec (by rw [hT]; exact hP q0 _ ha) ((hK.2 t0 _ ht).1 n (fun j => .int (f j))) (j := i) (by show (i < 0 ∨ (arrV _ _ _).slots.size ≤ _); rw [arrV_size]; exact Classical.byContradiction hout) (g := F0 m pc ls (.int i :: .ref a :: rest)) rfl (rest := rest) rfl (by rw [hb]; exact hdg) t
  simp only [arrV_size] at h1
  exact h1 st
theorem vx_sastZ {D : va_G} {cl : List vw_C} {ws : va_W} {tys : List (ClassId × FieldType)} {a : Nat} (hexec : p.tables.exec = Jvm.exec) (hb : c.code = cc) (hK : va_K D cl tys s) (hP : va_P D cl ws H) (q0 t0 : Nat) {cA : ClassId} {n : Nat} {f : Nat → Int32} (ha : ws[q0]? = some (a, .inl (cA, n, .inl f))) (ht : tys[t0]? = some (cA, .short)) {i : Int32} {x : Int32} (hout : ¬ vp_in i n) (hdg : decode cc pc = .ok (.sastore, 1))
    (k : ∀ tx : String, tx = (toString "Index " ++ toString i ++ toString " out of bounds for length " ++ toString n : String) → vx_Note p l e R s m args below meth c H locs cells slots Q (F0 m pc ls rest) "java/lang/ArrayIndexOutOfBoundsException" tx) : W p l e R s m args below meth c H locs cells slots Q (F0 m pc ls (.int x :: .int i :: .ref a :: rest)) := by
  intro T hT X
  obtain ⟨t, st, q⟩ := k _ rfl T hT X
  refine ⟨t, ?_, q⟩
  have h1 := X.sastoreOut hexec (by rw [hT]; exact hP q0 _ ha) ((hK.2 t0 _ ht).1 n (fun j => .int (f j))) (j := i) (by show (i < 0 ∨ (arrV _ _ _).slots.size ≤ _); rw [arrV_size]; exact Classical.byContradiction hout) (g := F0 m pc ls (.int x :: .int i :: .ref a :: rest)) rfl (rest := rest) rfl (by rw [hb]; exact hdg) t
  simp only [arrV_size] at h1
  exact h1 st
theorem vx_laldZ {D : va_G} {cl : List vw_C} {ws : va_W} {tys : List (ClassId × FieldType)} {a : Nat} (hexec : p.tables.exec = Jvm.exec) (hb : c.code = cc) (hK : va_K D cl tys s) (hP : va_P D cl ws H) (q0 t0 : Nat) {cA : ClassId} {n : Nat} {f : Nat → Int64} (ha : ws[q0]? = some (a, .inl (cA, n, .inr (.inl f)))) (ht : tys[t0]? = some (cA, .long)) {i : Int32} (hout : ¬ vp_in i n) (hdg : decode cc pc = .ok (.laload, 1))
    (k : ∀ tx : String, tx = (toString "Index " ++ toString i ++ toString " out of bounds for length " ++ toString n : String) → vx_Note p l e R s m args below meth c H locs cells slots Q (F0 m pc ls rest) "java/lang/ArrayIndexOutOfBoundsException" tx) : W p l e R s m args below meth c H locs cells slots Q (F0 m pc ls (.int i :: .ref a :: rest)) := by
  intro T hT X
  obtain ⟨t, st, q⟩ := k _ rfl T hT X
  refine ⟨t, ?_, q⟩
  have h1 := X.laloadOut hexec (by rw [hT]; exact hP q0 _ ha) ((hK.2 t0 _ ht).1 n (fun j => .long (f j))) (j := i) (by show (i < 0 ∨ (arrV _ _ _).slots.size ≤ _); rw [arrV_size]; exact Classical.byContradiction hout) (g := F0 m pc ls (.int i :: .ref a :: rest)) rfl (rest := rest) rfl (by rw [hb]; exact hdg) t
  simp only [arrV_size] at h1
  exact h1 st
theorem vx_lastZ {D : va_G} {cl : List vw_C} {ws : va_W} {tys : List (ClassId × FieldType)} {a : Nat} (hexec : p.tables.exec = Jvm.exec) (hb : c.code = cc) (hK : va_K D cl tys s) (hP : va_P D cl ws H) (q0 t0 : Nat) {cA : ClassId} {n : Nat} {f : Nat → Int64} (ha : ws[q0]? = some (a, .inl (cA, n, .inr (.inl f)))) (ht : tys[t0]? = some (cA, .long)) {i : Int32} {x : Int64} (hout : ¬ vp_in i n) (hdg : decode cc pc = .ok (.lastore, 1))
    (k : ∀ tx : String, tx = (toString "Index " ++ toString i ++ toString " out of bounds for length " ++ toString n : String) → vx_Note p l e R s m args below meth c H locs cells slots Q (F0 m pc ls rest) "java/lang/ArrayIndexOutOfBoundsException" tx) : W p l e R s m args below meth c H locs cells slots Q (F0 m pc ls (.long x :: .int i :: .ref a :: rest)) := by
  intro T hT X
  obtain ⟨t, st, q⟩ := k _ rfl T hT X
  refine ⟨t, ?_, q⟩
  have h1 := X.lastoreOut hexec (by rw [hT]; exact hP q0 _ ha) ((hK.2 t0 _ ht).1 n (fun j => .long (f j))) (j := i) (by show (i < 0 ∨ (arrV _ _ _).slots.size ≤ _); rw [arrV_size]; exact Classical.byContradiction hout) (g := F0 m pc ls (.long x :: .int i :: .ref a :: rest)) rfl (rest := rest) rfl (by rw [hb]; exact hdg) t
  simp only [arrV_size] at h1
  exact h1 st
theorem vx_faldZ {D : va_G} {cl : List vw_C} {ws : va_W} {tys : List (ClassId × FieldType)} {a : Nat} (hexec : p.tables.exec = Jvm.exec) (hb : c.code = cc) (hK : va_K D cl tys s) (hP : va_P D cl ws H) (q0 t0 : Nat) {cA : ClassId} {n : Nat} {f : Nat → UInt32} (ha : ws[q0]? = some (a, .inl (cA, n, .inr (.inr (.inl f))))) (ht : tys[t0]? = some (cA, .float)) {i : Int32} (hout : ¬ vp_in i n) (hdg : decode cc pc = .ok (.faload, 1))
    (k : ∀ tx : String, tx = (toString "Index " ++ toString i ++ toString " out of bounds for length " ++ toString n : String) → vx_Note p l e R s m args below meth c H locs cells slots Q (F0 m pc ls rest) "java/lang/ArrayIndexOutOfBoundsException" tx) : W p l e R s m args below meth c H locs cells slots Q (F0 m pc ls (.int i :: .ref a :: rest)) := by
  intro T hT X
  obtain ⟨t, st, q⟩ := k _ rfl T hT X
  refine ⟨t, ?_, q⟩
  have h1 := X.faloadOut hexec (by rw [hT]; exact hP q0 _ ha) ((hK.2 t0 _ ht).1 n (fun j => .float (f j))) (j := i) (by show (i < 0 ∨ (arrV _ _ _).slots.size ≤ _); rw [arrV_size]; exact Classical.byContradiction hout) (g := F0 m pc ls (.int i :: .ref a :: rest)) rfl (rest := rest) rfl (by rw [hb]; exact hdg) t
  simp only [arrV_size] at h1
  exact h1 st
theorem vx_fastZ {D : va_G} {cl : List vw_C} {ws : va_W} {tys : List (ClassId × FieldType)} {a : Nat} (hexec : p.tables.exec = Jvm.exec) (hb : c.code = cc) (hK : va_K D cl tys s) (hP : va_P D cl ws H) (q0 t0 : Nat) {cA : ClassId} {n : Nat} {f : Nat → UInt32} (ha : ws[q0]? = some (a, .inl (cA, n, .inr (.inr (.inl f))))) (ht : tys[t0]? = some (cA, .float)) {i : Int32} {x : UInt32} (hout : ¬ vp_in i n) (hdg : decode cc pc = .ok (.fastore, 1))
    (k : ∀ tx : String, tx = (toString "Index " ++ toString i ++ toString " out of bounds for length " ++ toString n : String) → vx_Note p l e R s m args below meth c H locs cells slots Q (F0 m pc ls rest) "java/lang/ArrayIndexOutOfBoundsException" tx) : W p l e R s m args below meth c H locs cells slots Q (F0 m pc ls (.float x :: .int i :: .ref a :: rest)) := by
  intro T hT X
  obtain ⟨t, st, q⟩ := k _ rfl T hT X
  refine ⟨t, ?_, q⟩
  have h1 := X.fastoreOut hexec (by rw [hT]; exact hP q0 _ ha) ((hK.2 t0 _ ht).1 n (fun j => .float (f j))) (j := i) (by show (i < 0 ∨ (arrV _ _ _).slots.size ≤ _); rw [arrV_size]; exact Classical.byContradiction hout) (g := F0 m pc ls (.float x :: .int i :: .ref a :: rest)) rfl (rest := rest) rfl (by rw [hb]; exact hdg) t
  simp only [arrV_size] at h1
  exact h1 st
theorem vx_daldZ {D : va_G} {cl : List vw_C} {ws : va_W} {tys : List (ClassId × FieldType)} {a : Nat} (hexec : p.tables.exec = Jvm.exec) (hb : c.code = cc) (hK : va_K D cl tys s) (hP : va_P D cl ws H) (q0 t0 : Nat) {cA : ClassId} {n : Nat} {f : Nat → UInt64} (ha : ws[q0]? = some (a, .inl (cA, n, .inr (.inr (.inr (.inl f)))))) (ht : tys[t0]? = some (cA, .double)) {i : Int32} (hout : ¬ vp_in i n) (hdg : decode cc pc = .ok (.daload, 1))
    (k : ∀ tx : String, tx = (toString "Index " ++ toString i ++ toString " out of bounds for length " ++ toString n : String) → vx_Note p l e R s m args below meth c H locs cells slots Q (F0 m pc ls rest) "java/lang/ArrayIndexOutOfBoundsException" tx) : W p l e R s m args below meth c H locs cells slots Q (F0 m pc ls (.int i :: .ref a :: rest)) := by
  intro T hT X
  obtain ⟨t, st, q⟩ := k _ rfl T hT X
  refine ⟨t, ?_, q⟩
  have h1 := X.daloadOut hexec (by rw [hT]; exact hP q0 _ ha) ((hK.2 t0 _ ht).1 n (fun j => .double (f j))) (j := i) (by show (i < 0 ∨ (arrV _ _ _).slots.size ≤ _); rw [arrV_size]; exact Classical.byContradiction hout) (g := F0 m pc ls (.int i :: .ref a :: rest)) rfl (rest := rest) rfl (by rw [hb]; exact hdg) t
  simp only [arrV_size] at h1
  exact h1 st
theorem vx_dastZ {D : va_G} {cl : List vw_C} {ws : va_W} {tys : List (ClassId × FieldType)} {a : Nat} (hexec : p.tables.exec = Jvm.exec) (hb : c.code = cc) (hK : va_K D cl tys s) (hP : va_P D cl ws H) (q0 t0 : Nat) {cA : ClassId} {n : Nat} {f : Nat → UInt64} (ha : ws[q0]? = some (a, .inl (cA, n, .inr (.inr (.inr (.inl f)))))) (ht : tys[t0]? = some (cA, .double)) {i : Int32} {x : UInt64} (hout : ¬ vp_in i n) (hdg : decode cc pc = .ok (.dastore, 1))
    (k : ∀ tx : String, tx = (toString "Index " ++ toString i ++ toString " out of bounds for length " ++ toString n : String) → vx_Note p l e R s m args below meth c H locs cells slots Q (F0 m pc ls rest) "java/lang/ArrayIndexOutOfBoundsException" tx) : W p l e R s m args below meth c H locs cells slots Q (F0 m pc ls (.double x :: .int i :: .ref a :: rest)) := by
  intro T hT X
  obtain ⟨t, st, q⟩ := k _ rfl T hT X
  refine ⟨t, ?_, q⟩
  have h1 := X.dastoreOut hexec (by rw [hT]; exact hP q0 _ ha) ((hK.2 t0 _ ht).1 n (fun j => .double (f j))) (j := i) (by show (i < 0 ∨ (arrV _ _ _).slots.size ≤ _); rw [arrV_size]; exact Classical.byContradiction hout) (g := F0 m pc ls (.double x :: .int i :: .ref a :: rest)) rfl (rest := rest) rfl (by rw [hb]; exact hdg) t
  simp only [arrV_size] at h1
  exact h1 st
theorem vx_arraylengthN (hexec : p.tables.exec = Jvm.exec) (hb : c.code = cc) (hdg : decode cc pc = .ok (.arraylength, 1)) (k : vx_NoteN p l e R s m args below meth c H locs cells slots Q (F0 m pc ls rest)) : W p l e R s m args below meth c H locs cells slots Q (F0 m pc ls (.null :: rest)) := by
  intro T hT X
  obtain ⟨t, st, q⟩ := k T hT X
  exact ⟨t, X.arraylengthNull hexec (g := F0 m pc ls (.null :: rest)) rfl (rest := rest) rfl (by rw [hb]; exact hdg) t st, q⟩
theorem vx_ialoadN (hexec : p.tables.exec = Jvm.exec) (hb : c.code = cc) {i : Int32} (hdg : decode cc pc = .ok (.iaload, 1)) (k : vx_NoteN p l e R s m args below meth c H locs cells slots Q (F0 m pc ls rest)) : W p l e R s m args below meth c H locs cells slots Q (F0 m pc ls (.int i :: .null :: rest)) := by
  intro T hT X
  obtain ⟨t, st, q⟩ := k T hT X
  exact ⟨t, X.ialoadNull hexec (g := F0 m pc ls (.int i :: .null :: rest)) rfl (rest := rest) rfl (by rw [hb]; exact hdg) t st, q⟩
theorem vx_laloadN (hexec : p.tables.exec = Jvm.exec) (hb : c.code = cc) {i : Int32} (hdg : decode cc pc = .ok (.laload, 1)) (k : vx_NoteN p l e R s m args below meth c H locs cells slots Q (F0 m pc ls rest)) : W p l e R s m args below meth c H locs cells slots Q (F0 m pc ls (.int i :: .null :: rest)) := by
  intro T hT X
  obtain ⟨t, st, q⟩ := k T hT X
  exact ⟨t, X.laloadNull hexec (g := F0 m pc ls (.int i :: .null :: rest)) rfl (rest := rest) rfl (by rw [hb]; exact hdg) t st, q⟩
theorem vx_faloadN (hexec : p.tables.exec = Jvm.exec) (hb : c.code = cc) {i : Int32} (hdg : decode cc pc = .ok (.faload, 1)) (k : vx_NoteN p l e R s m args below meth c H locs cells slots Q (F0 m pc ls rest)) : W p l e R s m args below meth c H locs cells slots Q (F0 m pc ls (.int i :: .null :: rest)) := by
  intro T hT X
  obtain ⟨t, st, q⟩ := k T hT X
  exact ⟨t, X.faloadNull hexec (g := F0 m pc ls (.int i :: .null :: rest)) rfl (rest := rest) rfl (by rw [hb]; exact hdg) t st, q⟩
theorem vx_daloadN (hexec : p.tables.exec = Jvm.exec) (hb : c.code = cc) {i : Int32} (hdg : decode cc pc = .ok (.daload, 1)) (k : vx_NoteN p l e R s m args below meth c H locs cells slots Q (F0 m pc ls rest)) : W p l e R s m args below meth c H locs cells slots Q (F0 m pc ls (.int i :: .null :: rest)) := by
  intro T hT X
  obtain ⟨t, st, q⟩ := k T hT X
  exact ⟨t, X.daloadNull hexec (g := F0 m pc ls (.int i :: .null :: rest)) rfl (rest := rest) rfl (by rw [hb]; exact hdg) t st, q⟩
theorem vx_aaloadN (hexec : p.tables.exec = Jvm.exec) (hb : c.code = cc) {i : Int32} (hdg : decode cc pc = .ok (.aaload, 1)) (k : vx_NoteN p l e R s m args below meth c H locs cells slots Q (F0 m pc ls rest)) : W p l e R s m args below meth c H locs cells slots Q (F0 m pc ls (.int i :: .null :: rest)) := by
  intro T hT X
  obtain ⟨t, st, q⟩ := k T hT X
  exact ⟨t, X.aaloadNull hexec (g := F0 m pc ls (.int i :: .null :: rest)) rfl (rest := rest) rfl (by rw [hb]; exact hdg) t st, q⟩
theorem vx_baloadN (hexec : p.tables.exec = Jvm.exec) (hb : c.code = cc) {i : Int32} (hdg : decode cc pc = .ok (.baload, 1)) (k : vx_NoteN p l e R s m args below meth c H locs cells slots Q (F0 m pc ls rest)) : W p l e R s m args below meth c H locs cells slots Q (F0 m pc ls (.int i :: .null :: rest)) := by
  intro T hT X
  obtain ⟨t, st, q⟩ := k T hT X
  exact ⟨t, X.baloadNull hexec (g := F0 m pc ls (.int i :: .null :: rest)) rfl (rest := rest) rfl (by rw [hb]; exact hdg) t st, q⟩
theorem vx_caloadN (hexec : p.tables.exec = Jvm.exec) (hb : c.code = cc) {i : Int32} (hdg : decode cc pc = .ok (.caload, 1)) (k : vx_NoteN p l e R s m args below meth c H locs cells slots Q (F0 m pc ls rest)) : W p l e R s m args below meth c H locs cells slots Q (F0 m pc ls (.int i :: .null :: rest)) := by
  intro T hT X
  obtain ⟨t, st, q⟩ := k T hT X
  exact ⟨t, X.caloadNull hexec (g := F0 m pc ls (.int i :: .null :: rest)) rfl (rest := rest) rfl (by rw [hb]; exact hdg) t st, q⟩
theorem vx_saloadN (hexec : p.tables.exec = Jvm.exec) (hb : c.code = cc) {i : Int32} (hdg : decode cc pc = .ok (.saload, 1)) (k : vx_NoteN p l e R s m args below meth c H locs cells slots Q (F0 m pc ls rest)) : W p l e R s m args below meth c H locs cells slots Q (F0 m pc ls (.int i :: .null :: rest)) := by
  intro T hT X
  obtain ⟨t, st, q⟩ := k T hT X
  exact ⟨t, X.saloadNull hexec (g := F0 m pc ls (.int i :: .null :: rest)) rfl (rest := rest) rfl (by rw [hb]; exact hdg) t st, q⟩
theorem vx_iastoreN (hexec : p.tables.exec = Jvm.exec) (hb : c.code = cc) {x : Int32} {i : Int32} (hdg : decode cc pc = .ok (.iastore, 1)) (k : vx_NoteN p l e R s m args below meth c H locs cells slots Q (F0 m pc ls rest)) : W p l e R s m args below meth c H locs cells slots Q (F0 m pc ls (.int x :: .int i :: .null :: rest)) := by
  intro T hT X
  obtain ⟨t, st, q⟩ := k T hT X
  exact ⟨t, X.iastoreNull hexec (g := F0 m pc ls (.int x :: .int i :: .null :: rest)) rfl (rest := rest) rfl (by rw [hb]; exact hdg) t st, q⟩
theorem vx_lastoreN (hexec : p.tables.exec = Jvm.exec) (hb : c.code = cc) {x : Int64} {i : Int32} (hdg : decode cc pc = .ok (.lastore, 1)) (k : vx_NoteN p l e R s m args below meth c H locs cells slots Q (F0 m pc ls rest)) : W p l e R s m args below meth c H locs cells slots Q (F0 m pc ls (.long x :: .int i :: .null :: rest)) := by
  intro T hT X
  obtain ⟨t, st, q⟩ := k T hT X
  exact ⟨t, X.lastoreNull hexec (g := F0 m pc ls (.long x :: .int i :: .null :: rest)) rfl (rest := rest) rfl (by rw [hb]; exact hdg) t st, q⟩
theorem vx_fastoreN (hexec : p.tables.exec = Jvm.exec) (hb : c.code = cc) {x : UInt32} {i : Int32} (hdg : decode cc pc = .ok (.fastore, 1)) (k : vx_NoteN p l e R s m args below meth c H locs cells slots Q (F0 m pc ls rest)) : W p l e R s m args below meth c H locs cells slots Q (F0 m pc ls (.float x :: .int i :: .null :: rest)) := by
  intro T hT X
  obtain ⟨t, st, q⟩ := k T hT X
  exact ⟨t, X.fastoreNull hexec (g := F0 m pc ls (.float x :: .int i :: .null :: rest)) rfl (rest := rest) rfl (by rw [hb]; exact hdg) t st, q⟩
theorem vx_dastoreN (hexec : p.tables.exec = Jvm.exec) (hb : c.code = cc) {x : UInt64} {i : Int32} (hdg : decode cc pc = .ok (.dastore, 1)) (k : vx_NoteN p l e R s m args below meth c H locs cells slots Q (F0 m pc ls rest)) : W p l e R s m args below meth c H locs cells slots Q (F0 m pc ls (.double x :: .int i :: .null :: rest)) := by
  intro T hT X
  obtain ⟨t, st, q⟩ := k T hT X
  exact ⟨t, X.dastoreNull hexec (g := F0 m pc ls (.double x :: .int i :: .null :: rest)) rfl (rest := rest) rfl (by rw [hb]; exact hdg) t st, q⟩
theorem vx_bastoreN (hexec : p.tables.exec = Jvm.exec) (hb : c.code = cc) {x : Int32} {i : Int32} (hdg : decode cc pc = .ok (.bastore, 1)) (k : vx_NoteN p l e R s m args below meth c H locs cells slots Q (F0 m pc ls rest)) : W p l e R s m args below meth c H locs cells slots Q (F0 m pc ls (.int x :: .int i :: .null :: rest)) := by
  intro T hT X
  obtain ⟨t, st, q⟩ := k T hT X
  exact ⟨t, X.bastoreNull hexec (g := F0 m pc ls (.int x :: .int i :: .null :: rest)) rfl (rest := rest) rfl (by rw [hb]; exact hdg) t st, q⟩
theorem vx_castoreN (hexec : p.tables.exec = Jvm.exec) (hb : c.code = cc) {x : Int32} {i : Int32} (hdg : decode cc pc = .ok (.castore, 1)) (k : vx_NoteN p l e R s m args below meth c H locs cells slots Q (F0 m pc ls rest)) : W p l e R s m args below meth c H locs cells slots Q (F0 m pc ls (.int x :: .int i :: .null :: rest)) := by
  intro T hT X
  obtain ⟨t, st, q⟩ := k T hT X
  exact ⟨t, X.castoreNull hexec (g := F0 m pc ls (.int x :: .int i :: .null :: rest)) rfl (rest := rest) rfl (by rw [hb]; exact hdg) t st, q⟩
theorem vx_sastoreN (hexec : p.tables.exec = Jvm.exec) (hb : c.code = cc) {x : Int32} {i : Int32} (hdg : decode cc pc = .ok (.sastore, 1)) (k : vx_NoteN p l e R s m args below meth c H locs cells slots Q (F0 m pc ls rest)) : W p l e R s m args below meth c H locs cells slots Q (F0 m pc ls (.int x :: .int i :: .null :: rest)) := by
  intro T hT X
  obtain ⟨t, st, q⟩ := k T hT X
  exact ⟨t, X.sastoreNull hexec (g := F0 m pc ls (.int x :: .int i :: .null :: rest)) rfl (rest := rest) rfl (by rw [hb]; exact hdg) t st, q⟩
theorem vx_invokeN {own C : String} {index maxL : Nat} {y : MethodName} {bytes : ByteArray} {ret : Option FieldType} (hexec : p.tables.exec = Jvm.exec) (hb : c.code = cc) (hown : s.vm.findClass own = some m.cls) (hlink : (Cond.methodLink own index y).before args s = true) (hinst : (Cond.instanceMethod y).before args s = true) (hcode : (Cond.code y bytes maxL ret).before args s = true) (hsel : (Cond.selects C y y).before args s = true)
    (hx : y.cls ≠ "java/lang/invoke/MethodHandle" ∧ y.cls ≠ "java/lang/invoke/VarHandle") {As : List Value} (hlen : (parseMethodDescriptor y.desc).map (fun d => d.parameters.length) = some As.length) (hdg : decode cc pc = .ok (.invokevirtual index, 3))
    (k : vx_NoteN p l e R s m args below meth c H locs cells slots Q (F0 m pc ls rest)) {st0 : List Value} (hst : st0 = As.reverse ++ .null :: rest) : W p l e R s m args below meth c H locs cells slots Q (F0 m pc ls st0) := by
  intro T hT X
  obtain ⟨r0, r, hn, hrm, hstR, hsigR⟩ := va_Decl.of hinst hcode
  obtain ⟨c2, r2, m2, q1, q2, q3, q4, kP, hkP, hkPi⟩ := Cond.selects_spec hsel
  cases hn.symm.trans q3
  have hl9 : As.length = r.sig.parameters.length := by
    rw [hsigR] at hlen
    exact (Option.some.inj hlen).symm
  obtain ⟨vm', X1, st1⟩ := X.invokevirtualNull hexec hown hlink hn hrm hstR hkP hkPi hx (g := F0 m pc ls st0) rfl (argsL := As) (rest := rest) hl9 hst (by rw [hb]; exact hdg)
  obtain ⟨t, st, q⟩ := k (T.setVm vm') hT X1
  exact ⟨t, st1 t st, q⟩
theorem vx_newarrayZ {atype : ArrayType} (hexec : p.tables.exec = Jvm.exec) (hb : c.code = cc) {n : Int32} (h0 : n < 0) (hdg : decode cc pc = .ok (.newarray atype, 2)) (k : ∀ tx : String, tx = toString n → vx_Note p l e R s m args below meth c H locs cells slots Q (F0 m pc ls rest) "java/lang/NegativeArraySizeException" tx) : W p l e R s m args below meth c H locs cells slots Q (F0 m pc ls (.int n :: rest)) := by
  intro T hT X
  obtain ⟨t, st, q⟩ := k _ rfl T hT X
  exact ⟨t, X.newarrayNegative hexec (g := F0 m pc ls (.int n :: rest)) rfl h0 (rest := rest) rfl (by rw [hb]; exact hdg) t st, q⟩
end
end VXM
/-! ===== END ===== -/
/-! ===== BEGIN an exception as an object: made, kept, thrown later (no traces kept) ===== -/
section VXK
variable {p : Program} {l : Launch} {e : Env} {R : Room} {s : State} {m₀ : MethodId} {args : Array Value} {below : List Frame} {meth : Method} {c : Code} {W : State} {locs : List Loc} {cells slots : Nat}
set_option maxHeartbeats 1000000 in
theorem vx_ctorMadeS (X : Stand p l e R s m₀ args below meth c W locs cells slots) (hexec : p.tables.exec = Jvm.exec) (htr : e.platform.stackTraces = false) {own cls : String} {names : List String} {ic : Nat}
    (hown : s.vm.findClass own = some m₀.cls) (hcls : Bundle.fit cls = true) (hnames : ∀ n ∈ names, Bundle.fit n = true)
    (h : ∀ a ∈ Bundle.ownAtoms own ic cls names, a.before args s = true)
    (hlocs : ∀ x ∈ locs, ∀ cell, s.heap[x.base]? = some cell → cell.vm.isStatics = false)
    {a : Addr} {cX : ClassId} {kX : Class} (hfoundX : s.vm.findClass cls = some cX) (hkX : s.vm.classes[cX]? = some kX) (hcell : W.heap[a]? = some (freshCell cX kX)) (hnew : s.heap.size ≤ a)
    {msg : Value} (hmsg : msg.isRef = true)
    {g : JFrame} (hg : g.method = m₀) (hsize : g.locals.size = c.maxLocals) {rest : List Value} (hstack : g.stack = msg :: .ref a :: .ref a :: rest)
    (hd6 : decode c.code g.pc = .ok (.invokespecial ic, 3))
    (hRframes : names.length + 3 < R.frames) (hRlocals : 2 * g.monitorRoom + ((Value.ref a :: rest).map fun v => v.category).sum + (13 * (names.length + 1) + 42) ≤ R.locals) :
    ∃ (V : State) (ce : Cell) (L : List Loc), Stand p l e R s m₀ args below meth c (V.setCell a ce) (locs ++ L) cells slots ∧ (∀ y ∈ L, y.base = a) ∧ a < V.heap.size ∧ ce.cls = cX ∧ ce.vm = .none ∧
      ∀ target, Steps p.tables e below ((V.setCell a ce).setTop { g with stack := .ref a :: rest, pc := g.pc + 3 }) target → Steps p.tables e below (W.setTop g) target := by
  have howns : e.platform.frameOwnsMonitors = true := by rw [X.admits.platform]
  have hfin : e.platform.finalization = false := by rw [X.admits.platform]
  have hpl : e.platform.magicAccessors = ({} : Platform).magicAccessors := by rw [X.admits.platform]
  have a' : ∀ x, x ∈ Bundle.ownAtoms own ic cls names → x.holds args s none s [] = true := fun x hx => h x hx
  obtain ⟨T, Z0, L, -, Y⟩ := ThrowableC.of_atoms (args := args) howns hfin hpl (fun x hx => h x (by simp [Bundle.ownAtoms, hx]))
  obtain ⟨Z, M, LZ, LM, hnZ⟩ := Init0T.ofS_atoms (args := args) hpl L Y (fun x hx => h x (by simp [Bundle.ownAtoms, hx]))
  obtain ⟨P1, Ps, hlen, L1, hL, hP1m, hlink1, hlink⟩ := Bundle.chainS (args := args) hpl hnZ names cls hcls hnames (fun x hx => h x (by simp [Bundle.ownAtoms, hx]))
  have hfound : s.vm.findClass cls = some P1.m.cls := findClass_of_methodNamed hP1m
  cases Option.some.inj (hfoundX.symm.trans hfound)
  obtain ⟨c1, kX', hc1, hk, hord, -, -, hn6⟩ := Cond.instantiable_spec (a' (.instantiable cls 6) (by simp [Bundle.ownAtoms]))
  cases Option.some.inj (hc1.symm.trans hfound)
  cases Option.some.inj (hkX.symm.trans hk)
  have hsel0 : selectMethod e.platform s.vm P1.m.cls T.fill0 = .method T.fill0 := by
    obtain ⟨c2, r2, m2, q1, q2, q3, q4, -⟩ := Cond.selects_spec (a' (.selects cls Bundle.tFill0 Bundle.tFill0) (by simp [Bundle.ownAtoms]))
    cases Option.some.inj (q1.symm.trans hfound)
    cases Option.some.inj (q2.symm.trans (State.methodFound?_of_named Y.fill0 (by decide)))
    cases Option.some.inj (q3.symm.trans Y.fill0)
    rw [Launch.admits_selectMethod X.admits]; exact q4
  have hselF : selectMethod e.platform s.vm P1.m.cls T.fill = .method T.fill := by
    obtain ⟨c2, r2, m2, q1, q2, q3, q4, -⟩ := Cond.selects_spec (a' (.selects cls Bundle.tFill Bundle.tFill) (by simp [Bundle.ownAtoms]))
    cases Option.some.inj (q1.symm.trans hfound)
    cases Option.some.inj (q2.symm.trans (State.methodFound?_of_named Y.fill (by decide)))
    cases Option.some.inj (q3.symm.trans Y.fill)
    rw [Launch.admits_selectMethod X.admits]; exact q4
  obtain ⟨cellS0, hcS0, hiss⟩ := Y.statics
  obtain ⟨u0, hu0⟩ := Cond.staticRefV Y.unassigned L.unassignedStatic L.statics hcS0 hiss (a' (.isRef (.static Bundle.tN "UNASSIGNED_STACK" Bundle.steD)) (by simp [Bundle.ownAtoms]))
  obtain ⟨sen, hsen⟩ := Cond.staticRefV Y.sentinel L.sentinelStatic L.statics hcS0 hiss (a' (.isRef (.static Bundle.tN "SUPPRESSED_SENTINEL" Bundle.listD)) (by simp [Bundle.ownAtoms]))
  obtain ⟨ci198, i198, fB, hk198, hg198, ha198, hsB, -, hnB, htB, hffB⟩ := Cond.ownField (t := .object "java/lang/Object") Y.found L.cls (by decide +kernel) (a' (.fieldLink Bundle.tN 198 Bundle.tN "backtrace" "Ljava/lang/Object;") (by simp [Bundle.ownAtoms])) (a' (.lays Bundle.tN Bundle.tN "backtrace" "Ljava/lang/Object;") (by simp [Bundle.ownAtoms])) e.platform hpl
  obtain ⟨cellS, hcS', heS, -, hkeep⟩ := X.same.2.2.2.2.2 T.aS cellS0 hcS0
  have hcellS : W.heap[T.aS]? = some cellS := hcS'
  have hout' : ∀ i, (⟨T.aS, i⟩ : Loc) ∉ locs := fun i hmem => by
    have := hlocs _ hmem cellS0 hcS0
    rw [hiss] at this; cases this
  have hknownS : cellS.vm ≠ .unknown := by
    rw [heS]; intro hu
    rw [show cellS0.vm = .unknown from hu] at hiss
    cases hiss
  have hneS : T.aS ≠ a := Nat.ne_of_lt (Nat.lt_of_lt_of_le (Array.getElem?_eq_some_iff.mp hcS0).1 hnew)
  obtain ⟨iM, hffM⟩ := Y.msg
  obtain ⟨tyC, dC, hdC, hdnC⟩ := Cond.laysAt hfound hk Y.cause (a' (.lays cls Bundle.tN "cause" "Ljava/lang/Throwable;") (by simp [Bundle.ownAtoms]))
  obtain ⟨tyS, dS, hdS, hdnS⟩ := Cond.laysAt hfound hk Y.stack (a' (.lays cls Bundle.tN "stackTrace" Bundle.steD) (by simp [Bundle.ownAtoms]))
  obtain ⟨tyP, dP, hdP, hdnP⟩ := Cond.laysAt hfound hk Y.supp (a' (.lays cls Bundle.tN "suppressedExceptions" Bundle.listD) (by simp [Bundle.ownAtoms]))
  obtain ⟨tyM, dM, hdM, hdnM⟩ := Cond.laysAt hfound hk hffM (a' (.lays cls Bundle.tN "detailMessage" "Ljava/lang/String;") (by simp [Bundle.ownAtoms]))
  obtain ⟨tyB, dB, hdB, hdnB⟩ := Cond.laysAt hfound hk hffB (a' (.lays cls Bundle.tN "backtrace" "Ljava/lang/Object;") (by simp [Bundle.ownAtoms]))
  have bC := Cond.laysApart hdB hdC hdnB hdnC (by rw [hnB, Y.causeName]; decide)
  have bS := Cond.laysApart hdB hdS hdnB hdnS (by rw [hnB, Y.stackName]; decide)
  have bP := Cond.laysApart hdB hdP hdnB hdnP (by rw [hnB, Y.suppName]; decide)
  have hskip : SkipFacts T e.platform s (fun u => u) u0 ((preparedCellV T.toThrowableT (freshCell P1.m.cls kX) a u0 sen).withEntry W.cur) :=
    ⟨{ ci198 := ci198, i198 := i198, fBack := fB }, ⟨hk198, hg198, ha198, hsB⟩, by
      have := fresh_default (c := P1.m.cls) tyB
      rw [htB] at this
      simpa [preparedCellV, Cell.setSlot, Cell.withEntry, Array.getElem?_setIfInBounds, bC, bS, bP, bC.symm, bS.symm, bP.symm, defaultValue] using this, fun _ _ => rfl⟩
  obtain ⟨tm, methC, cdC, kC, vm₁, hnC, -, -, -, -, -, -, -, hW₁, st1⟩ := Steps.initColdS (tb := p.tables) (e := e) (below := below) (s := s) (U := W) X.here hexec X.warmed hpl hown (t := Bundle.initS cls) rfl rfl (Bundle.fit_spec hcls).2
    (a' (.methodLink own ic (Bundle.initS cls)) (by simp [Bundle.ownAtoms])) (h (.instanceMethod (Bundle.initS cls)) (by cases names <;> simp [Bundle.ownAtoms, Bundle.chainSAtoms, Bundle.passSAtoms])) (bytes := Bundle.six) (maxL := 2) (h (.code (Bundle.initS cls) Bundle.six 2 none) (by cases names <;> simp [Bundle.ownAtoms, Bundle.chainSAtoms, Bundle.passSAtoms]))
    (f := g) hg (a := a) (msg := msg) (rest := .ref a :: rest) hstack hd6
  cases Option.some.inj (hnC.symm.trans hP1m)
  have X₁ := X.noted hW₁
  obtain ⟨vm₂, X₂, st2⟩ := X₁.ctorMessageOffV hexec (g := { g with stack := .ref a :: rest }) hg hsize T L Z LZ M LM (P1 :: Ps)
    (fun P hP => by rcases List.mem_cons.mp hP with rfl | hP; exact L1; exact hL P hP) ⟨hlink1, hlink⟩ (u0 := u0) (sen := sen) (self := a) hmsg (cell := freshCell P1.m.cls kX) (cellS := cellS)
    hcell (fun _ => by simp) (by simp) rfl rfl hsel0 hselF hcellS hneS hknownS (by rw [hkeep _ (hout' _)]; exact hu0) (by rw [hkeep _ (hout' _)]; exact hsen)
    (Takes.of_laid hk hord tyC (by rw [Y.causeType]; rfl)) (Takes.of_laid hk hord tyS (by rw [Y.stackType]; exact fits_refV_array _ u0)) (Takes.of_laid hk hord tyP (by rw [Y.suppType]; exact fits_refV_object _ sen))
    (Takes.of_laid hk hord tyM (by rw [Y.msgType]; exact fits_refV_object _ ⟨msg, hmsg⟩)) Y.objLocals hskip htr [] hd6
    (by simp only [List.length_cons, hlen]; omega) (by simp only [List.length_cons, hlen]; exact hRlocals)
  have hlt : a < ((W.setVm vm₁).setVm vm₂).heap.size := (Array.getElem?_eq_some_iff.mp hcell).1
  refine ⟨(W.setVm vm₁).setVm vm₂, _, _, X₂, fun y hy => ?_, hlt, rfl, rfl, fun target hwalk => st1 _ (fun acts => ?_)⟩
  · simp only [List.mem_cons, List.not_mem_nil, or_false] at hy
    rcases hy with rfl | rfl | rfl | rfl | rfl <;> rfl
  · rw [doInvoke_state]
    exact st2 _ hwalk
set_option maxHeartbeats 1000000 in
theorem vx_ctorMade0 (X : Stand p l e R s m₀ args below meth c W locs cells slots) (hexec : p.tables.exec = Jvm.exec) (htr : e.platform.stackTraces = false) {own cls : String} {names : List String} {ic : Nat}
    (hown : s.vm.findClass own = some m₀.cls) (hcls : Bundle.fit cls = true) (hnames : ∀ n ∈ names, Bundle.fit n = true)
    (h : ∀ a ∈ Bundle.ownAtoms0 own ic cls names, a.before args s = true)
    (hlocs : ∀ x ∈ locs, ∀ cell, s.heap[x.base]? = some cell → cell.vm.isStatics = false)
    {a : Addr} {cX : ClassId} {kX : Class} (hfoundX : s.vm.findClass cls = some cX) (hkX : s.vm.classes[cX]? = some kX) (hcell : W.heap[a]? = some (freshCell cX kX)) (hnew : s.heap.size ≤ a)
    {g : JFrame} (hg : g.method = m₀) (hsize : g.locals.size = c.maxLocals) {rest : List Value} (hstack : g.stack = .ref a :: .ref a :: rest)
    (hd6 : decode c.code g.pc = .ok (.invokespecial ic, 3))
    (hRframes : names.length + 3 < R.frames) (hRlocals : 2 * g.monitorRoom + ((Value.ref a :: rest).map fun v => v.category).sum + (13 * (names.length + 1) + 41) ≤ R.locals) :
    ∃ (V : State) (ce : Cell) (L : List Loc), Stand p l e R s m₀ args below meth c (V.setCell a ce) (locs ++ L) cells slots ∧ (∀ y ∈ L, y.base = a) ∧ a < V.heap.size ∧ ce.cls = cX ∧ ce.vm = .none ∧
      ∀ target, Steps p.tables e below ((V.setCell a ce).setTop { g with stack := .ref a :: rest, pc := g.pc + 3 }) target → Steps p.tables e below (W.setTop g) target := by
  have howns : e.platform.frameOwnsMonitors = true := by rw [X.admits.platform]
  have hfin : e.platform.finalization = false := by rw [X.admits.platform]
  have hpl : e.platform.magicAccessors = ({} : Platform).magicAccessors := by rw [X.admits.platform]
  have a' : ∀ x, x ∈ Bundle.ownAtoms0 own ic cls names → x.holds args s none s [] = true := fun x hx => h x hx
  obtain ⟨T, Z, L, LZ, Y⟩ := ThrowableC.of_atoms (args := args) howns hfin hpl (fun x hx => h x (by simp [Bundle.ownAtoms0, hx]))
  obtain ⟨P1, Ps, hlen, L1, hL, hP1m, hlink1, hlink⟩ := Bundle.chain0 (args := args) hpl Y.init0 names cls hcls hnames (fun x hx => h x (by simp [Bundle.ownAtoms0, hx]))
  have hfound : s.vm.findClass cls = some P1.m.cls := findClass_of_methodNamed hP1m
  cases Option.some.inj (hfoundX.symm.trans hfound)
  obtain ⟨c1, kX', hc1, hk, hord, -, -, hn6⟩ := Cond.instantiable_spec (a' (.instantiable cls 6) (by simp [Bundle.ownAtoms0]))
  cases Option.some.inj (hc1.symm.trans hfound)
  cases Option.some.inj (hkX.symm.trans hk)
  have hsel0 : selectMethod e.platform s.vm P1.m.cls T.fill0 = .method T.fill0 := by
    obtain ⟨c2, r2, m2, q1, q2, q3, q4, -⟩ := Cond.selects_spec (a' (.selects cls Bundle.tFill0 Bundle.tFill0) (by simp [Bundle.ownAtoms0]))
    cases Option.some.inj (q1.symm.trans hfound)
    cases Option.some.inj (q2.symm.trans (State.methodFound?_of_named Y.fill0 (by decide)))
    cases Option.some.inj (q3.symm.trans Y.fill0)
    rw [Launch.admits_selectMethod X.admits]; exact q4
  have hselF : selectMethod e.platform s.vm P1.m.cls T.fill = .method T.fill := by
    obtain ⟨c2, r2, m2, q1, q2, q3, q4, -⟩ := Cond.selects_spec (a' (.selects cls Bundle.tFill Bundle.tFill) (by simp [Bundle.ownAtoms0]))
    cases Option.some.inj (q1.symm.trans hfound)
    cases Option.some.inj (q2.symm.trans (State.methodFound?_of_named Y.fill (by decide)))
    cases Option.some.inj (q3.symm.trans Y.fill)
    rw [Launch.admits_selectMethod X.admits]; exact q4
  obtain ⟨cellS0, hcS0, hiss⟩ := Y.statics
  obtain ⟨u0, hu0⟩ := Cond.staticRefV Y.unassigned L.unassignedStatic L.statics hcS0 hiss (a' (.isRef (.static Bundle.tN "UNASSIGNED_STACK" Bundle.steD)) (by simp [Bundle.ownAtoms0]))
  obtain ⟨sen, hsen⟩ := Cond.staticRefV Y.sentinel L.sentinelStatic L.statics hcS0 hiss (a' (.isRef (.static Bundle.tN "SUPPRESSED_SENTINEL" Bundle.listD)) (by simp [Bundle.ownAtoms0]))
  obtain ⟨ci198, i198, fB, hk198, hg198, ha198, hsB, -, hnB, htB, hffB⟩ := Cond.ownField (t := .object "java/lang/Object") Y.found L.cls (by decide +kernel) (a' (.fieldLink Bundle.tN 198 Bundle.tN "backtrace" "Ljava/lang/Object;") (by simp [Bundle.ownAtoms0])) (a' (.lays Bundle.tN Bundle.tN "backtrace" "Ljava/lang/Object;") (by simp [Bundle.ownAtoms0])) e.platform hpl
  obtain ⟨cellS, hcS', heS, -, hkeep⟩ := X.same.2.2.2.2.2 T.aS cellS0 hcS0
  have hcellS : W.heap[T.aS]? = some cellS := hcS'
  have hout' : ∀ i, (⟨T.aS, i⟩ : Loc) ∉ locs := fun i hmem => by
    have := hlocs _ hmem cellS0 hcS0
    rw [hiss] at this; cases this
  have hknownS : cellS.vm ≠ .unknown := by
    rw [heS]; intro hu
    rw [show cellS0.vm = .unknown from hu] at hiss
    cases hiss
  have hneS : T.aS ≠ a := Nat.ne_of_lt (Nat.lt_of_lt_of_le (Array.getElem?_eq_some_iff.mp hcS0).1 hnew)
  obtain ⟨iM, hffM⟩ := Y.msg
  obtain ⟨tyC, dC, hdC, hdnC⟩ := Cond.laysAt hfound hk Y.cause (a' (.lays cls Bundle.tN "cause" "Ljava/lang/Throwable;") (by simp [Bundle.ownAtoms0]))
  obtain ⟨tyS, dS, hdS, hdnS⟩ := Cond.laysAt hfound hk Y.stack (a' (.lays cls Bundle.tN "stackTrace" Bundle.steD) (by simp [Bundle.ownAtoms0]))
  obtain ⟨tyP, dP, hdP, hdnP⟩ := Cond.laysAt hfound hk Y.supp (a' (.lays cls Bundle.tN "suppressedExceptions" Bundle.listD) (by simp [Bundle.ownAtoms0]))
  obtain ⟨tyM, dM, hdM, hdnM⟩ := Cond.laysAt hfound hk hffM (a' (.lays cls Bundle.tN "detailMessage" "Ljava/lang/String;") (by simp [Bundle.ownAtoms0]))
  obtain ⟨tyB, dB, hdB, hdnB⟩ := Cond.laysAt hfound hk hffB (a' (.lays cls Bundle.tN "backtrace" "Ljava/lang/Object;") (by simp [Bundle.ownAtoms0]))
  have bC := Cond.laysApart hdB hdC hdnB hdnC (by rw [hnB, Y.causeName]; decide)
  have bS := Cond.laysApart hdB hdS hdnB hdnS (by rw [hnB, Y.stackName]; decide)
  have bP := Cond.laysApart hdB hdP hdnB hdnP (by rw [hnB, Y.suppName]; decide)
  have hskip : SkipFacts T e.platform s (fun u => u) u0 ((preparedCellV T.toThrowableT (freshCell P1.m.cls kX) a u0 sen).withEntry W.cur) :=
    ⟨{ ci198 := ci198, i198 := i198, fBack := fB }, ⟨hk198, hg198, ha198, hsB⟩, by
      have := fresh_default (c := P1.m.cls) tyB
      rw [htB] at this
      simpa [preparedCellV, Cell.setSlot, Cell.withEntry, Array.getElem?_setIfInBounds, bC, bS, bP, bC.symm, bS.symm, bP.symm, defaultValue] using this, fun _ _ => rfl⟩
  obtain ⟨tm, methC, cdC, kC, vm₁, hnC, -, -, -, -, -, -, -, hW₁, st1⟩ := Steps.initCold (tb := p.tables) (e := e) (below := below) (s := s) (U := W) X.here hexec X.warmed hpl hown (t := Bundle.init0 cls) rfl rfl (Bundle.fit_spec hcls).2
    (a' (.methodLink own ic (Bundle.init0 cls)) (by simp [Bundle.ownAtoms0])) (h (.instanceMethod (Bundle.init0 cls)) (by cases names <;> simp [Bundle.ownAtoms0, Bundle.chain0Atoms, Bundle.passAtoms])) (bytes := Bundle.five) (maxL := 1) (h (.code (Bundle.init0 cls) Bundle.five 1 none) (by cases names <;> simp [Bundle.ownAtoms0, Bundle.chain0Atoms, Bundle.passAtoms]))
    (f := g) hg (a := a) (rest := .ref a :: rest) hstack hd6
  cases Option.some.inj (hnC.symm.trans hP1m)
  have X₁ := X.noted hW₁
  obtain ⟨vm₂, X₂, st2⟩ := X₁.ctorPlainOffV hexec (g := { g with stack := .ref a :: rest }) hg hsize T L Z LZ (P1 :: Ps)
    (fun P hP => by rcases List.mem_cons.mp hP with rfl | hP; exact L1; exact hL P hP) ⟨hlink1, hlink⟩ (u0 := u0) (sen := sen) (self := a) (cell := freshCell P1.m.cls kX) (cellS := cellS)
    hcell (fun _ => by simp) (by simp) rfl rfl hsel0 hselF hcellS hneS hknownS (by rw [hkeep _ (hout' _)]; exact hu0) (by rw [hkeep _ (hout' _)]; exact hsen)
    (Takes.of_laid hk hord tyC (by rw [Y.causeType]; rfl)) (Takes.of_laid hk hord tyS (by rw [Y.stackType]; exact fits_refV_array _ u0)) (Takes.of_laid hk hord tyP (by rw [Y.suppType]; exact fits_refV_object _ sen)) Y.objLocals hskip htr [] hd6
    (by simp only [List.length_cons, hlen]; omega) (by simp only [List.length_cons, hlen]; exact hRlocals)
  have hlt : a < ((W.setVm vm₁).setVm vm₂).heap.size := (Array.getElem?_eq_some_iff.mp hcell).1
  refine ⟨(W.setVm vm₁).setVm vm₂, _, _, X₂, fun y hy => ?_, hlt, rfl, rfl, fun target hwalk => st1 _ (fun acts => ?_)⟩
  · simp only [List.mem_cons, List.not_mem_nil, or_false] at hy
    rcases hy with rfl | rfl | rfl | rfl <;> rfl
  · rw [doInvoke_state]
    exact st2 _ hwalk
end VXK
section VXK2
variable {p : Program} {l : Launch} {e : Env} {R : Room} {s : State} {m : MethodId} {args : Array Value} {below : List Frame} {meth : Method} {c : Code} {H : Heap} {locs : List Loc} {cells slots : Nat} {Q : State → Prop}
variable {ls : Array Slot} {rest : List Value} {D : va_G} {cl : List vw_C} {tys : List (ClassId × FieldType)} {ws : va_W}
/-- 'new E("text")' that isn't thrown at once: the object goes on the stack -/
theorem vx_makeS {cc : ByteArray} {pc : Nat} (hexec : p.tables.exec = Jvm.exec) (hb : c.code = cc) (hl : l.stackTraces = false) {own cls text : String} {names : List String} {ik is ic sa ci : Nat} {A : Nat → Prop} {T0 : u_T}
    (hown : s.vm.findClass own = some m.cls) (hcls : Bundle.fit cls = true) (hnames : ∀ n ∈ names, Bundle.fit n = true)
    (hk : (Cond.classLink own ik cls).before args s = true) (hini : (Cond.initialized cls).before args s = true) (hstr : vk_R own is text sa s) (hat : ∀ w ∈ vx_atS own ic cls names, w.before args s = true)
    (hgood : ∀ w ∈ Cond.classLink own ik cls :: Cond.initialized cls :: vx_atS own ic cls names, vx_ot w = true)
    (hU : vx_Zq Bundle.tN "UNASSIGNED_STACK" Bundle.steD A s s.heap) (hN : vx_Zq Bundle.tN "SUPPRESSED_SENTINEL" Bundle.listD A s s.heap) (hS : va_S A s.heap H locs) (hsize : ls.size = c.maxLocals)
    (d0 : decode cc pc = .ok (.new ik, 3)) (d3 : decode cc (pc + 3) = .ok (.dup, 1)) (d4 : decode cc (pc + 4) = .ok (.ldc is, 2)) (d6 : decode cc (pc + 6) = .ok (.invokespecial ic, 3))
    (hK : va_K D cl tys s) (hP : va_P D cl ws H) (hD : va_D A ws) (hA : ∀ q, s.heap.size ≤ q → A q) (hc : cl[ci]? = some (cls, T0, 0))
    (hRframes : names.length + 3 < R.frames) (hRlocals : (rest.map fun v => v.category).sum + (13 * (names.length + 1) + 43) ≤ R.locals) (hRcells : cells + 1 ≤ R.cells) (hRslots : slots + 6 ≤ R.slots)
    (kk : ∀ (q : Nat) (H1 : Heap), va_P D cl (ws ++ [(q, .inr (ci, []))]) H1 → va_D A (ws ++ [(q, .inr (ci, []))]) → va_S A s.heap H1 locs → W p l e R s m args below meth c H1 locs (cells + 1) (slots + 6) Q (F0 m (pc + 9) ls (.ref q :: rest))) :
    W p l e R s m args below meth c H locs cells slots Q (F0 m pc ls rest) := by
  intro T hT X
  subst hT
  have htr : e.platform.stackTraces = false := (show e.platform.stackTraces = l.stackTraces by rw [X.admits.platform]).trans hl
  have Y := vx_rebase X (R' := { frames := R.frames, locals := R.locals, cells := 1, slots := 6 }) (Nat.le_refl _) (Nat.le_refl _) hRcells hRslots
  obtain ⟨s', hA'⟩ : ∃ z, z = (T.setVm s.vm).setFrames (.invoking m args :: below) := ⟨_, rfl⟩
  rw [← hA'] at Y
  have hvm : s'.vm = s.vm := by rw [hA']; rfl
  have hhp : s'.heap = T.heap := by rw [hA']; rfl
  have hW0 : s.WarmedH s'.vm := by rw [hvm]; exact State.WarmedH.refl s
  have hat' : ∀ w ∈ vx_atS own ic cls names, w.before args s' = true := fun w hw => vx_ot_at hW0 hvm.symm (hgood w (List.mem_cons_of_mem _ (List.mem_cons_of_mem _ hw))) (hat w hw)
  have hk' : (Cond.classLink own ik cls).before args s' = true := vx_ot_at hW0 hvm.symm (hgood _ List.mem_cons_self) hk
  have hini' : (Cond.initialized cls).before args s' = true := vx_ot_at hW0 hvm.symm (hgood _ (List.mem_cons_of_mem _ List.mem_cons_self)) hini
  have hU' : vx_Zq Bundle.tN "UNASSIGNED_STACK" Bundle.steD A s' s'.heap := by rw [hhp]; exact vx_Zq.moved hW0.alike (hU.kept hS.2.1)
  have hN' : vx_Zq Bundle.tN "SUPPRESSED_SENTINEL" Bundle.listD A s' s'.heap := by rw [hhp]; exact vx_Zq.moved hW0.alike (hN.kept hS.2.1)
  have h : ∀ w ∈ Bundle.ownAtoms own ic cls names, w.before args s' = true := vx_own hat' (vx_isRefq hU'.1) (vx_isRefq hN'.1) hU'.2.word hN'.2.word
  have hown' : s'.vm.findClass own = some m.cls := by rw [hvm]; exact hown
  have hins : (Cond.instantiable cls 6).before args s' = true := h _ (by simp [Bundle.ownAtoms])
  obtain ⟨vm₁, cX, kX, hfX, hkX, -, -, X₁, st1⟩ := Y.newCold hexec (own := own) (C := cls) (index := ik) (n := 6) hown' hk' hins hini'
    (g := F0 m pc ls rest) rfl (by rw [hb]; exact d0) (Nat.le_refl _) (Nat.le_refl _)
  generalize hT1 : (T.setVm vm₁).pushCell { cls := cX, slots := kX.instanceTypes.map defaultValue, vm := .none } = T1 at X₁ st1
  have hcat : (Value.ref T.heap.size).category = 1 := rfl
  have hcellA : T1.heap[T.heap.size]? = some (freshCell cX kX) := by rw [← hT1]; exact State.heap_pushCell_size _ _
  have d3' : decode c.code (pc + 3) = .ok (.dup, 1) := by rw [hb]; exact d3
  have d4' : decode c.code (pc + 4) = .ok (.ldc is, 2) := by rw [hb]; exact d4
  have hstr' : vk_R own is text sa s' := vk_R.warm hW0 hstr
  obtain ⟨V, ce, L, Z, hL, hlt, hcl9, hvm9, st⟩ := vx_ctorMadeS X₁ hexec htr (own := own) (cls := cls) (names := names) (ic := ic) hown' hcls hnames h (fun x hx => nomatch hx) hfX hkX hcellA (by rw [hhp]; exact Nat.le_refl _) (msg := .ref sa) rfl
    (g := { method := m, pc := pc + 6, locals := ls, stack := .ref sa :: .ref T.heap.size :: .ref T.heap.size :: rest, locked := none }) rfl hsize (rest := rest) rfl
    (by rw [hb]; exact d6) hRframes (by simp only [List.map_cons, List.sum_cons, hcat]; omega)
  have Z0 := Stand.forget (locs := []) Z (fun y hy => by rw [hL y hy, hhp]; exact Nat.le_refl _)
  obtain ⟨f1, f2⟩ := vx_frame Z0.same
  rw [hhp] at f1 f2
  have hcid : ce.cls = D.1 ci := by
    rw [hcl9]
    have h1 := (hK.1 ci _ hc).2.1
    rw [hvm] at hfX
    exact Option.some.inj (hfX.symm.trans h1)
  have hh : (V.setCell T.heap.size ce).heap[T.heap.size]? = some ce := heapAt_setCell_self (s := V) ce hlt
  subst hA'
  have X5 := vx_back9 X Y Z0
  have X6 : Stand p l e R s m args below meth c (V.setCell T.heap.size ce) locs (cells + 1) (slots + 6) := { X5 with same := X5.same.mono (by omega) (by omega) }
  have hk9 : ∀ (k : Nat) (x : Nat × va_E), ws[k]? = some x → (V.setCell T.heap.size ce).heap[x.1]? = T.heap[x.1]? := fun k x hx => f2 x.1 ((hP k x hx).lt) (fun z hz => nomatch hz)
  obtain ⟨t, a1, b1⟩ := kk T.heap.size (V.setCell T.heap.size ce).heap ((hP.kept hk9).app (fun k x hx => by
      have hz : k < 1 := (List.getElem?_eq_some_iff.mp hx).1
      rw [show k = 0 by omega] at hx
      cases hx
      exact ⟨_, hc, ce, hh, hcid, hvm9, fun k hk => absurd hk (Nat.not_lt_zero k)⟩)) (hD.push hP rfl (hA _ hS.1)) ⟨Nat.le_trans hS.1 f1, fun q h1 h2 => (f2 q (Nat.lt_of_lt_of_le h1 hS.1) (fun z hz => nomatch hz)).trans (hS.2.1 q h1 h2), hS.2.2⟩ _ rfl X6
  refine ⟨t, st1 _ ?_, b1⟩
  show Steps p.tables e below (T1.setTop { method := m, pc := pc + 3, locals := ls, stack := .ref T.heap.size :: rest, locked := none }) _
  jvm_step X₁.here [X₁.here.top, hexec, d3', Value.category]
  exact X₁.ldcString hexec (own := own) (text := text) (index := is) (a := sa) hown' hstr'.1 hstr'.2
    (g := { method := m, pc := pc + 4, locals := ls, stack := .ref T.heap.size :: .ref T.heap.size :: rest, locked := none }) rfl d4' _ (st _ a1)
/-- 'new E()' that isn't thrown at once: the object goes on the stack -/
theorem vx_make0 {cc : ByteArray} {pc : Nat} (hexec : p.tables.exec = Jvm.exec) (hb : c.code = cc) (hl : l.stackTraces = false) {own cls : String} {names : List String} {ik ic ci : Nat} {A : Nat → Prop} {T0 : u_T}
    (hown : s.vm.findClass own = some m.cls) (hcls : Bundle.fit cls = true) (hnames : ∀ n ∈ names, Bundle.fit n = true)
    (hk : (Cond.classLink own ik cls).before args s = true) (hini : (Cond.initialized cls).before args s = true) (hat : ∀ w ∈ vx_at0 own ic cls names, w.before args s = true)
    (hgood : ∀ w ∈ Cond.classLink own ik cls :: Cond.initialized cls :: vx_at0 own ic cls names, vx_ot w = true)
    (hU : vx_Zq Bundle.tN "UNASSIGNED_STACK" Bundle.steD A s s.heap) (hN : vx_Zq Bundle.tN "SUPPRESSED_SENTINEL" Bundle.listD A s s.heap) (hS : va_S A s.heap H locs) (hsize : ls.size = c.maxLocals)
    (d0 : decode cc pc = .ok (.new ik, 3)) (d3 : decode cc (pc + 3) = .ok (.dup, 1)) (d4 : decode cc (pc + 4) = .ok (.invokespecial ic, 3))
    (hK : va_K D cl tys s) (hP : va_P D cl ws H) (hD : va_D A ws) (hA : ∀ q, s.heap.size ≤ q → A q) (hc : cl[ci]? = some (cls, T0, 0))
    (hRframes : names.length + 3 < R.frames) (hRlocals : (rest.map fun v => v.category).sum + (13 * (names.length + 1) + 42) ≤ R.locals) (hRcells : cells + 1 ≤ R.cells) (hRslots : slots + 6 ≤ R.slots)
    (kk : ∀ (q : Nat) (H1 : Heap), va_P D cl (ws ++ [(q, .inr (ci, []))]) H1 → va_D A (ws ++ [(q, .inr (ci, []))]) → va_S A s.heap H1 locs → W p l e R s m args below meth c H1 locs (cells + 1) (slots + 6) Q (F0 m (pc + 7) ls (.ref q :: rest))) :
    W p l e R s m args below meth c H locs cells slots Q (F0 m pc ls rest) := by
  intro T hT X
  subst hT
  have htr : e.platform.stackTraces = false := (show e.platform.stackTraces = l.stackTraces by rw [X.admits.platform]).trans hl
  have Y := vx_rebase X (R' := { frames := R.frames, locals := R.locals, cells := 1, slots := 6 }) (Nat.le_refl _) (Nat.le_refl _) hRcells hRslots
  obtain ⟨s', hA'⟩ : ∃ z, z = (T.setVm s.vm).setFrames (.invoking m args :: below) := ⟨_, rfl⟩
  rw [← hA'] at Y
  have hvm : s'.vm = s.vm := by rw [hA']; rfl
  have hhp : s'.heap = T.heap := by rw [hA']; rfl
  have hW0 : s.WarmedH s'.vm := by rw [hvm]; exact State.WarmedH.refl s
  have hat' : ∀ w ∈ vx_at0 own ic cls names, w.before args s' = true := fun w hw => vx_ot_at hW0 hvm.symm (hgood w (List.mem_cons_of_mem _ (List.mem_cons_of_mem _ hw))) (hat w hw)
  have hk' : (Cond.classLink own ik cls).before args s' = true := vx_ot_at hW0 hvm.symm (hgood _ List.mem_cons_self) hk
  have hini' : (Cond.initialized cls).before args s' = true := vx_ot_at hW0 hvm.symm (hgood _ (List.mem_cons_of_mem _ List.mem_cons_self)) hini
  have hU' : vx_Zq Bundle.tN "UNASSIGNED_STACK" Bundle.steD A s' s'.heap := by rw [hhp]; exact vx_Zq.moved hW0.alike (hU.kept hS.2.1)
  have hN' : vx_Zq Bundle.tN "SUPPRESSED_SENTINEL" Bundle.listD A s' s'.heap := by rw [hhp]; exact vx_Zq.moved hW0.alike (hN.kept hS.2.1)
  have h : ∀ w ∈ Bundle.ownAtoms0 own ic cls names, w.before args s' = true := vx_own hat' (vx_isRefq hU'.1) (vx_isRefq hN'.1) hU'.2.word hN'.2.word
  have hown' : s'.vm.findClass own = some m.cls := by rw [hvm]; exact hown
  have hins : (Cond.instantiable cls 6).before args s' = true := h _ (by simp [Bundle.ownAtoms0])
  obtain ⟨vm₁, cX, kX, hfX, hkX, -, -, X₁, st1⟩ := Y.newCold hexec (own := own) (C := cls) (index := ik) (n := 6) hown' hk' hins hini'
    (g := F0 m pc ls rest) rfl (by rw [hb]; exact d0) (Nat.le_refl _) (Nat.le_refl _)
  generalize hT1 : (T.setVm vm₁).pushCell { cls := cX, slots := kX.instanceTypes.map defaultValue, vm := .none } = T1 at X₁ st1
  have hcat : (Value.ref T.heap.size).category = 1 := rfl
  have hcellA : T1.heap[T.heap.size]? = some (freshCell cX kX) := by rw [← hT1]; exact State.heap_pushCell_size _ _
  have d3' : decode c.code (pc + 3) = .ok (.dup, 1) := by rw [hb]; exact d3
  obtain ⟨V, ce, L, Z, hL, hlt, hcl9, hvm9, st⟩ := vx_ctorMade0 X₁ hexec htr (own := own) (cls := cls) (names := names) (ic := ic) hown' hcls hnames h (fun x hx => nomatch hx) hfX hkX hcellA (by rw [hhp]; exact Nat.le_refl _)
    (g := { method := m, pc := pc + 4, locals := ls, stack := .ref T.heap.size :: .ref T.heap.size :: rest, locked := none }) rfl hsize (rest := rest) rfl
    (by rw [hb]; exact d4) hRframes (by simp only [List.map_cons, List.sum_cons, hcat]; omega)
  have Z0 := Stand.forget (locs := []) Z (fun y hy => by rw [hL y hy, hhp]; exact Nat.le_refl _)
  obtain ⟨f1, f2⟩ := vx_frame Z0.same
  rw [hhp] at f1 f2
  have hcid : ce.cls = D.1 ci := by
    rw [hcl9]
    have h1 := (hK.1 ci _ hc).2.1
    rw [hvm] at hfX
    exact Option.some.inj (hfX.symm.trans h1)
  have hh : (V.setCell T.heap.size ce).heap[T.heap.size]? = some ce := heapAt_setCell_self (s := V) ce hlt
  subst hA'
  have X5 := vx_back9 X Y Z0
  have X6 : Stand p l e R s m args below meth c (V.setCell T.heap.size ce) locs (cells + 1) (slots + 6) := { X5 with same := X5.same.mono (by omega) (by omega) }
  have hk9 : ∀ (k : Nat) (x : Nat × va_E), ws[k]? = some x → (V.setCell T.heap.size ce).heap[x.1]? = T.heap[x.1]? := fun k x hx => f2 x.1 ((hP k x hx).lt) (fun z hz => nomatch hz)
  obtain ⟨t, a1, b1⟩ := kk T.heap.size (V.setCell T.heap.size ce).heap ((hP.kept hk9).app (fun k x hx => by
      have hz : k < 1 := (List.getElem?_eq_some_iff.mp hx).1
      rw [show k = 0 by omega] at hx
      cases hx
      exact ⟨_, hc, ce, hh, hcid, hvm9, fun k hk => absurd hk (Nat.not_lt_zero k)⟩)) (hD.push hP rfl (hA _ hS.1)) ⟨Nat.le_trans hS.1 f1, fun q h1 h2 => (f2 q (Nat.lt_of_lt_of_le h1 hS.1) (fun z hz => nomatch hz)).trans (hS.2.1 q h1 h2), hS.2.2⟩ _ rfl X6
  refine ⟨t, st1 _ ?_, b1⟩
  show Steps p.tables e below (T1.setTop { method := m, pc := pc + 3, locals := ls, stack := .ref T.heap.size :: rest, locked := none }) _
  jvm_step X₁.here [X₁.here.top, hexec, d3', Value.category]
  exact st _ a1
/-- 'throw x' of an object that was made before -/
theorem vx_athrow {cc : ByteArray} {pc : Nat} (hexec : p.tables.exec = Jvm.exec) (hb : c.code = cc) {q : Addr} (hdg : decode cc pc = .ok (.athrow, 1)) (k : vx_W p l e R s m args below meth c H locs cells slots Q (F0 m pc ls rest) q) : W p l e R s m args below meth c H locs cells slots Q (F0 m pc ls (.ref q :: rest)) := by
  intro T hT X
  obtain ⟨t, st, hq⟩ := k T hT X
  refine ⟨t, ?_, hq⟩
  have hdg' : decode c.code pc = .ok (.athrow, 1) := by rw [hb]; exact hdg
  jvm_step X.here [X.here.top, hexec, hdg', athrow.wp_sem]
  exact st
end VXK2
/-! ===== END ===== -/
/-! ===== BEGIN a constructor that throws (launches without stack traces) ===== -/
section VXIA
variable {p : Program} {l : Launch} {e : Env} {R : Room} {s : State} {m : MethodId} {args : Array Value} {below : List Frame} {meth : Method} {c : Code} {T : State} {locs : List Loc} {cells slots : Nat}
theorem vx_callI (X : Stand p l e R s m args below meth c T locs cells slots) (hexec : p.tables.exec = Jvm.exec) {own : String} {index : Nat} {y : MethodName} {bytes : ByteArray} {maxL : Nat}
    (hown : s.vm.findClass own = some m.cls) (hy1 : y.name = "<init>") (hlink : (Cond.methodLink own index y).before args s = true) (hinst : (Cond.instanceMethod y).before args s = true)
    (hcode : (Cond.code y bytes maxL none).before args s = true) (hy : y.cls ≠ "java/lang/invoke/MethodHandle" ∧ y.cls ≠ "java/lang/invoke/VarHandle")
    {W9 : Nat} {Pre : Pt → Array Value → Prop} {Post : Pt → Array Value → Option Value → Pt → Prop} {PostX : Pt → Array Value → Addr → Pt → Prop} (hK : vx_Back l R p e below s args y 3 W9 Pre Post PostX)
    {g : JFrame} (hg : g.method = m) (hsize : g.locals.size = c.maxLocals) {a : Addr} {argsL rest : List Value} (hlen : ∀ sig, parseMethodDescriptor y.desc = some sig → argsL.length = sig.parameters.length)
    (hstack : g.stack = argsL.reverse ++ .ref a :: rest) (hW : 2 * g.monitorRoom + (rest.map fun v => v.category).sum ≤ W9) (hdg : decode c.code g.pc = .ok (.invokespecial index, 3))
    (hpre : ∀ vm₁, s.WarmedH vm₁ → Pre ⟨T.setVm vm₁, locs, cells, slots⟩ (Value.ref a :: argsL).toArray) :
    (∃ (v : Option Value) (vm₁ : Vm) (B : Pt), s.WarmedH vm₁ ∧ Stand p l e R s m args below meth c B.U B.locs B.cells B.slots ∧ Post ⟨T.setVm vm₁, locs, cells, slots⟩ (Value.ref a :: argsL).toArray v B ∧
      ∀ target, Steps p.tables e below (B.U.setTop { g with pc := g.pc + 3, stack := v.toList ++ rest }) target → Steps p.tables e below (T.setTop g) target) ∨
    (∃ (q : Addr) (vm₁ : Vm) (B : Pt), s.WarmedH vm₁ ∧ Stand p l e R s m args below meth c B.U B.locs B.cells B.slots ∧ PostX ⟨T.setVm vm₁, locs, cells, slots⟩ (Value.ref a :: argsL).toArray q B ∧
      Steps p.tables e below (T.setTop g) ((B.U.setTop { g with stack := rest }).pushFrame (.throwing q))) := by
  subst hg
  have hpl : e.platform.magicAccessors = ({} : Platform).magicAccessors := by rw [X.admits.platform]
  obtain ⟨mk, methM, cM, kP, vm₁, hnamed, hmethM, hcodeM, -, hlocalsM, -, hkP, -, hW₁, hstep₁⟩ := Steps.initColdArgs (e := e) X.here hexec X.warmed hpl hown hy1 hy hlink hinst hcode (f := g) rfl hlen hstack hdg
  have X₁ := X.noted hW₁
  rcases hK g.method meth c ⟨T.setVm vm₁, locs, cells, slots⟩ { g with stack := rest } (.invokespecial index) mk (Value.ref a :: argsL).toArray X₁ rfl hsize hdg hW (X₁.named hnamed) (hpre vm₁ X₁.warmed) with ⟨v, B, X', hpost, hsteps⟩ | ⟨q, B, X', hpost, hsteps⟩
  · exact Or.inl ⟨v, vm₁, B, X₁.warmed, X', hpost, fun target h => hstep₁ _ fun acts => by rw [doInvoke_state]; exact hsteps.trans h⟩
  · exact Or.inr ⟨q, vm₁, B, X₁.warmed, X', hpost, hstep₁ _ fun acts => by rw [doInvoke_state]; exact hsteps⟩
end VXIA
section VXIB
variable {p : Program} {l : Launch} {e : Env} {R : Room} {s : State} {m : MethodId} {args : Array Value} {below : List Frame} {meth : Method} {c : Code} {H : Heap} {locs : List Loc} {cells slots : Nat}
variable {y : MethodName} {bytes cc : ByteArray} {maxL nL mc ms n index : Nat} {ret : Option FieldType} {ws : List Cond} {rm : Room} {Pc : Array Value → State → Prop} {Qc : Array Value → State → Outcome → State → Prop} {XC : String → State → State → Prop} {free : Addr → Prop} {Ts : List Cond} {own C : String} {b : Addr} {As rest : List Value} {g : JFrame}
theorem vx_runI (S : CallFix p m c cc nL s args Ts own) (hM : vx_Met l y ws rm Pc Qc XC mc ms free) (cw : CallB R s args own index y bytes maxL none ws rm mc ms n ∧ y.name = "<init>" ∧ (Cond.instanceMethod y).before args s = true) (hp : PreS s H Pc (.ref b :: As))
    (hg : g.method = m) (hn : As.length = n) (hsize : g.locals.size = nL) (hstack : g.stack = As.reverse ++ .ref b :: rest) (hW : 2 * g.monitorRoom + (rest.map fun v => v.category).sum ≤ 8) (hdg : decode cc g.pc = .ok (.invokespecial index, 3)) (hf : cells + mc ≤ R.cells ∧ slots + ms ≤ R.slots) :
    vx_Run p l e R s m args below meth c H locs cells slots mc ms g rest (Qc (Value.ref b :: As).toArray) XC free := by
  have hK : vx_Back l R p e below s args y 3 8 (PreOf R mc ms Pc) (PostOf Qc mc ms free) (vx_Post XC mc ms free) := vx_callBack cw.1 hM hp.1
  obtain ⟨⟨-, -, -, -, -, -, hcode, -, hy, hlen, hl⟩, hy1, hin⟩ := cw
  obtain ⟨hx, hb, hml, ho, -⟩ := S
  have hPc := hp.2
  intro T hT X
  rcases vx_callI X hx (bytes := bytes) (maxL := maxL) ho hy1 hl hin hcode hy hK hg (hsize.trans hml.symm) (a := b) (argsL := As) (rest := rest) (fun sig h => hn.trans (hlen sig h)) hstack hW (by rw [hb]; exact hdg)
    (fun vm₁ hW₁ => ⟨hf.1, hf.2, hPc (T.setVm vm₁) hT hW₁⟩) with ⟨v, vm₁, ⟨U', l2, c2, s2⟩, hW₁, X', ⟨g', mk, t, L, e1, e2, hq, h1, hL, h2, h3⟩, st⟩ | ⟨q, vm₁, ⟨U', l2, c2, s2⟩, hW₁, X', ⟨g', mk, t, L, E, ce, e1, e2, hq, hce, hcv, hcl, h1, hL, h2, h3⟩, st⟩
  · dsimp only [Pt.U, Pt.locs, Pt.cells, Pt.slots] at X' e1 e2 h1 h2 h3 st
    subst h1; subst h2; subst h3
    exact Or.inl ⟨v, (T.setVm vm₁).calling g' mk (Value.ref b :: As).toArray, t, U', L, hT, X', hL, e1, e2, hq, st⟩
  · dsimp only [Pt.U, Pt.locs, Pt.cells, Pt.slots] at X' e1 e2 h1 h2 h3 st hcl
    subst h1; subst h2; subst h3
    exact Or.inr ⟨q, (T.setVm vm₁).calling g' mk (Value.ref b :: As).toArray, t, U', L, E, ce, hT, X', hL, e1, e2, hq, hce, hcv, vx_cls hW₁ hcl, st⟩
end VXIB
/-! ===== END ===== -/
/-! ===== BEGIN a private constructor of a nest mate that throws ===== -/
section VXIC
variable {p : Program} {l : Launch} {e : Env} {R : Room} {s : State} {m : MethodId} {args : Array Value} {below : List Frame} {meth : Method} {c : Code} {T : State} {locs : List Loc} {cells slots : Nat}
theorem vx_callIN (X : Stand p l e R s m args below meth c T locs cells slots) (hexec : p.tables.exec = Jvm.exec) {own : String} {index : Nat} {host : String} {y : MethodName} {bytes : ByteArray} {maxL : Nat}
    (hown : s.vm.findClass own = some m.cls) (hy1 : y.name = "<init>") (hlink : (Cond.methodLinkNest own index y host).before args s = true) (hinst : (Cond.instanceMethod y).before args s = true)
    (hcode : (Cond.code y bytes maxL none).before args s = true) (hy : y.cls ≠ "java/lang/invoke/MethodHandle" ∧ y.cls ≠ "java/lang/invoke/VarHandle")
    {W9 : Nat} {Pre : Pt → Array Value → Prop} {Post : Pt → Array Value → Option Value → Pt → Prop} {PostX : Pt → Array Value → Addr → Pt → Prop} (hK : vx_Back l R p e below s args y 3 W9 Pre Post PostX)
    {g : JFrame} (hg : g.method = m) (hsize : g.locals.size = c.maxLocals) {a : Addr} {argsL rest : List Value} (hlen : ∀ sig, parseMethodDescriptor y.desc = some sig → argsL.length = sig.parameters.length)
    (hstack : g.stack = argsL.reverse ++ .ref a :: rest) (hW : 2 * g.monitorRoom + (rest.map fun v => v.category).sum ≤ W9) (hdg : decode c.code g.pc = .ok (.invokespecial index, 3))
    (hpre : ∀ vm₁, s.WarmedH vm₁ → Pre ⟨T.setVm vm₁, locs, cells, slots⟩ (Value.ref a :: argsL).toArray) :
    (∃ (v : Option Value) (vm₁ : Vm) (B : Pt), s.WarmedH vm₁ ∧ Stand p l e R s m args below meth c B.U B.locs B.cells B.slots ∧ Post ⟨T.setVm vm₁, locs, cells, slots⟩ (Value.ref a :: argsL).toArray v B ∧
      ∀ target, Steps p.tables e below (B.U.setTop { g with pc := g.pc + 3, stack := v.toList ++ rest }) target → Steps p.tables e below (T.setTop g) target) ∨
    (∃ (q : Addr) (vm₁ : Vm) (B : Pt), s.WarmedH vm₁ ∧ Stand p l e R s m args below meth c B.U B.locs B.cells B.slots ∧ PostX ⟨T.setVm vm₁, locs, cells, slots⟩ (Value.ref a :: argsL).toArray q B ∧
      Steps p.tables e below (T.setTop g) ((B.U.setTop { g with stack := rest }).pushFrame (.throwing q))) := by
  subst hg
  have hpl : e.platform.magicAccessors = ({} : Platform).magicAccessors := by rw [X.admits.platform]
  obtain ⟨mk, methM, cM, kP, vm₁, hnamed, hmethM, hcodeM, -, hlocalsM, -, hkP, -, hW₁, hstep₁⟩ := Steps.initColdArgsNest (e := e) X.here hexec X.warmed hpl hown hy1 hy hlink hinst hcode (f := g) rfl hlen hstack hdg
  have X₁ := X.noted hW₁
  rcases hK g.method meth c ⟨T.setVm vm₁, locs, cells, slots⟩ { g with stack := rest } (.invokespecial index) mk (Value.ref a :: argsL).toArray X₁ rfl hsize hdg hW (X₁.named hnamed) (hpre vm₁ X₁.warmed) with ⟨v, B, X', hpost, hsteps⟩ | ⟨q, B, X', hpost, hsteps⟩
  · exact Or.inl ⟨v, vm₁, B, X₁.warmed, X', hpost, fun target h => hstep₁ _ fun acts => by rw [doInvoke_state]; exact hsteps.trans h⟩
  · exact Or.inr ⟨q, vm₁, B, X₁.warmed, X', hpost, hstep₁ _ fun acts => by rw [doInvoke_state]; exact hsteps⟩
end VXIC
section VXID
variable {p : Program} {l : Launch} {e : Env} {R : Room} {s : State} {m : MethodId} {args : Array Value} {below : List Frame} {meth : Method} {c : Code} {H : Heap} {locs : List Loc} {cells slots : Nat}
theorem vx_runIN {y : MethodName} {bytes cc : ByteArray} {maxL nL mc ms n index : Nat} {ws : List Cond} {rm : Room} {Pc : Array Value → State → Prop} {Qc : Array Value → State → Outcome → State → Prop} {XC : String → State → State → Prop} {free : Addr → Prop} {Ts : List Cond} {own host : String} {b : Addr} {As rest : List Value} {g : JFrame}
    (S : CallFix p m c cc nL s args Ts own) (hM : vx_Met l y ws rm Pc Qc XC mc ms free) (cw : va_CN R s args own index y host bytes maxL none ws rm mc ms n ∧ y.name = "<init>" ∧ (Cond.instanceMethod y).before args s = true) (hp : PreS s H Pc (.ref b :: As))
    (hg : g.method = m) (hn : As.length = n) (hsize : g.locals.size = nL) (hstack : g.stack = As.reverse ++ .ref b :: rest) (hW : 2 * g.monitorRoom + (rest.map fun v => v.category).sum ≤ 8) (hdg : decode cc g.pc = .ok (.invokespecial index, 3)) (hf : cells + mc ≤ R.cells ∧ slots + ms ≤ R.slots) :
    vx_Run p l e R s m args below meth c H locs cells slots mc ms g rest (Qc (Value.ref b :: As).toArray) XC free := by
  obtain ⟨⟨⟨hrc, hrs, hfr, hlo, hws, hcw⟩, hcode, hini, hy, hlen, hl⟩, hx1, hx2⟩ := cw
  have hK : vx_Back l R p e below s args y 3 8 (PreOf R mc ms Pc) (PostOf Qc mc ms free) (vx_Post XC mc ms free) := vx_back (bytes := bytes) (maxL := maxL) (ret := none) hM hp.1 hrc hrs hfr hlo hws hcw (fun a' U hW => word_at hW (Or.inl (by first | rfl | simp [Cond.onTables, Cond.keeps, Cond.steady])) hini)
  obtain ⟨hx, hb, hml, ho, -⟩ := S
  have hPc := hp.2
  intro T hT X
  rcases vx_callIN X hx (bytes := bytes) (maxL := maxL) ho hx1 hl hx2 hcode hy hK hg (hsize.trans hml.symm) (a := b) (argsL := As) (rest := rest) (fun sig h => hn.trans (hlen sig h)) hstack hW (by rw [hb]; exact hdg)
    (fun vm₁ hW₁ => ⟨hf.1, hf.2, hPc (T.setVm vm₁) hT hW₁⟩) with ⟨v, vm₁, ⟨U', l2, c2, s2⟩, hW₁, X', ⟨g', mk, t, L, e1, e2, hq, h1, hL, h2, h3⟩, st⟩ | ⟨q, vm₁, ⟨U', l2, c2, s2⟩, hW₁, X', ⟨g', mk, t, L, E, ce, e1, e2, hq, hce, hcv, hcl, h1, hL, h2, h3⟩, st⟩
  · dsimp only [Pt.U, Pt.locs, Pt.cells, Pt.slots] at X' e1 e2 h1 h2 h3 st
    subst h1; subst h2; subst h3
    exact Or.inl ⟨v, (T.setVm vm₁).calling g' mk (Value.ref b :: As).toArray, t, U', L, hT, X', hL, e1, e2, hq, st⟩
  · dsimp only [Pt.U, Pt.locs, Pt.cells, Pt.slots] at X' e1 e2 h1 h2 h3 st hcl
    subst h1; subst h2; subst h3
    exact Or.inr ⟨q, (T.setVm vm₁).calling g' mk (Value.ref b :: As).toArray, t, U', L, E, ce, hT, X', hL, e1, e2, hq, hce, hcv, vx_cls hW₁ hcl, st⟩
end VXID
/-! ===== END ===== -/
/-! ===== BEGIN a method of a class above, found by the receiver, that may throw (follows va_callVU, va_runU of this kit) ===== -/
section
variable {p : Program} {l : Launch} {e : Env} {R : Room} {s : State} {m : MethodId} {args : Array Value} {below : List Frame} {meth : Method} {c : Code} {H : Heap} {locs : List Loc} {cells slots : Nat}
theorem vx_callVU {T : State} {locs : List Loc} {cells slots : Nat} (X : Stand p l e R s m args below meth c T locs cells slots) (hexec : p.tables.exec = Jvm.exec) {own C owner : String} {index : Nat} {x y : MethodName} {bytes : ByteArray} {maxL : Nat} {ret : Option FieldType}
    (hown : s.vm.findClass own = some m.cls) (hlink : (Cond.methodLink own index x).before args s = true) (hsame : (Cond.sameMethod x.cls owner x.name x.desc).before args s = true)
    (hd0 : va_Decl s ⟨owner, x.name, x.desc⟩) (howner : owner ≠ "java/lang/invoke/MethodHandle" ∧ owner ≠ "java/lang/invoke/VarHandle")
    (hsel : (Cond.selects C x y).before args s = true) (hinst : (Cond.instanceMethod y).before args s = true) (hcode : (Cond.code y bytes maxL ret).before args s = true)
    {W : Nat} {Pre : Pt → Array Value → Prop} {Post : Pt → Array Value → Option Value → Pt → Prop} {PostX : Pt → Array Value → Addr → Pt → Prop} (hK : vx_Back l R p e below s args y 3 W Pre Post PostX)
    {b : Addr} {cellB : Cell} (hcell : T.heap[b]? = some cellB) (hobj : cellB.vm.isStatics = false) (hcls : s.vm.findClass C = some cellB.cls)
    {g : JFrame} (hg : g.method = m) (hsize : g.locals.size = c.maxLocals) {argsL rest : List Value} (hlen : ∀ sig, parseMethodDescriptor x.desc = some sig → argsL.length = sig.parameters.length)
    (hstack : g.stack = argsL.reverse ++ .ref b :: rest) (hW : 2 * g.monitorRoom + (rest.map fun v => v.category).sum ≤ W) (hdg : decode c.code g.pc = .ok (.invokevirtual index, 3))
    (hpre : ∀ vm₁, s.WarmedH vm₁ → Pre ⟨T.setVm vm₁, locs, cells, slots⟩ (Value.ref b :: argsL).toArray) :
    (∃ (v : Option Value) (vm₁ : Vm) (B : Pt), s.WarmedH vm₁ ∧ Stand p l e R s m args below meth c B.U B.locs B.cells B.slots ∧ Post ⟨T.setVm vm₁, locs, cells, slots⟩ (Value.ref b :: argsL).toArray v B ∧
      ∀ target, Steps p.tables e below (B.U.setTop { g with pc := g.pc + 3, stack := v.toList ++ rest }) target → Steps p.tables e below (T.setTop g) target) ∨
    (∃ (q : Addr) (vm₁ : Vm) (B : Pt), s.WarmedH vm₁ ∧ Stand p l e R s m args below meth c B.U B.locs B.cells B.slots ∧ PostX ⟨T.setVm vm₁, locs, cells, slots⟩ (Value.ref b :: argsL).toArray q B ∧
      Steps p.tables e below (T.setTop g) ((B.U.setTop { g with stack := rest }).pushFrame (.throwing q))) := by
  obtain ⟨r0, r, hn, hrm, hstR, hsigR⟩ := hd0
  obtain ⟨cn, ck, r1, hcn, hck, hni, hf, hn1⟩ := Cond.sameMethod_found hsame
  cases hn.symm.trans hn1
  obtain ⟨mk, methM, hnamed, hmethM, -, habM⟩ := Cond.instanceMethod_spec hinst
  obtain ⟨c2, r2, m2, q1, q2, q3, q4, kP, hkP, hkPi⟩ := Cond.selects_spec hsel
  cases hcls.symm.trans q1
  cases hf.symm.trans q2
  cases hnamed.symm.trans q3
  have hselP : selectMethod e.platform s.vm cellB.cls r0 = .method mk := by rw [Launch.admits_selectMethod X.admits]; exact q4
  obtain ⟨vm₁, X₁, hstep₁⟩ := X.invokevirtualUp hexec hown hlink hsame howner hn hrm hstR (a := b) (cell := cellB) hcell
    (fun z h => by rw [h] at hobj; cases hobj) hselP hmethM habM hkP hkPi (g := g) hg (argsL := argsL) (rest := rest) (hlen _ hsigR) hstack hdg
  rcases hK m meth c ⟨T.setVm vm₁, locs, cells, slots⟩ { g with stack := rest } (.invokevirtual index) mk (Value.ref b :: argsL).toArray X₁ hg hsize hdg hW (X₁.named hnamed) (hpre vm₁ X₁.warmed) with ⟨v, B, X', hpost, hsteps⟩ | ⟨q, B, X', hpost, hsteps⟩
  · exact Or.inl ⟨v, vm₁, B, X₁.warmed, X', hpost, fun target h => hstep₁ _ fun acts => by rw [doInvoke_state]; exact hsteps.trans h⟩
  · exact Or.inr ⟨q, vm₁, B, X₁.warmed, X', hpost, hstep₁ _ fun acts => by rw [doInvoke_state]; exact hsteps⟩
theorem vx_runU {x y : MethodName} {bytes cc : ByteArray} {maxL nL mc ms n index : Nat} {ret : Option FieldType} {ws : List Cond} {rm : Room} {Pc : Array Value → State → Prop} {Qc : Array Value → State → Outcome → State → Prop} {XC : String → State → State → Prop} {free : Addr → Prop} {Ts : List Cond} {own C owner : String} {b : Addr} {As rest : List Value} {g : JFrame}
    (S : CallFix p m c cc nL s args Ts own) (hM : vx_Met l y ws rm Pc Qc XC mc ms free) (cw : va_CU R s args own C owner index x y bytes maxL ret ws rm mc ms n) (hp : PreV s H C b Pc As)
    (hg : g.method = m) (hn : As.length = n) (hsize : g.locals.size = nL) (hstack : g.stack = As.reverse ++ .ref b :: rest) (hW : 2 * g.monitorRoom + (rest.map fun v => v.category).sum ≤ 8) (hdg : decode cc g.pc = .ok (.invokevirtual index, 3)) (hf : cells + mc ≤ R.cells ∧ slots + ms ≤ R.slots) :
    vx_Run p l e R s m args below meth c H locs cells slots mc ms g rest (Qc (Value.ref b :: As).toArray) XC free := by
  obtain ⟨hrc, hrs, hfr, hlo, hws, hcw⟩ := cw.back
  have hini := cw.init
  have hK : vx_Back l R p e below s args y 3 8 (PreOf R mc ms Pc) (PostOf Qc mc ms free) (vx_Post XC mc ms free) := vx_back (bytes := bytes) (maxL := maxL) (ret := ret) hM hp.1 hrc hrs hfr hlo hws hcw (fun a' U hW => word_at hW (Or.inl (by first | rfl | simp [Cond.onTables, Cond.keeps, Cond.steady])) hini)
  obtain ⟨hx, hb, hml, ho, -⟩ := S
  obtain ⟨-, ⟨cellB, hcB, hoB, hclB⟩, hPc⟩ := hp
  intro T hT X
  rcases vx_callVU X hx (C := C) (owner := owner) (bytes := bytes) (maxL := maxL) (ret := ret) ho cw.link cw.same cw.decl cw.notMH cw.sel cw.inst cw.code hK (by rw [hT]; exact hcB) hoB hclB hg (hsize.trans hml.symm) (argsL := As) (rest := rest) (fun sig h => hn.trans (cw.len sig h)) hstack hW (by rw [hb]; exact hdg)
    (fun vm₁ hW₁ => ⟨hf.1, hf.2, hPc (T.setVm vm₁) hT hW₁⟩) with ⟨v, vm₁, ⟨U', l2, c2, s2⟩, hW₁, X', ⟨g', mk, t, L, e1, e2, hq, h1, hL, h2, h3⟩, st⟩ | ⟨q, vm₁, ⟨U', l2, c2, s2⟩, hW₁, X', ⟨g', mk, t, L, E, ce, e1, e2, hq, hce, hcv, hcl, h1, hL, h2, h3⟩, st⟩
  · dsimp only [Pt.U, Pt.locs, Pt.cells, Pt.slots] at X' e1 e2 h1 h2 h3 st
    subst h1; subst h2; subst h3
    exact Or.inl ⟨v, (T.setVm vm₁).calling g' mk (Value.ref b :: As).toArray, t, U', L, hT, X', hL, e1, e2, hq, st⟩
  · dsimp only [Pt.U, Pt.locs, Pt.cells, Pt.slots] at X' e1 e2 h1 h2 h3 st hcl
    subst h1; subst h2; subst h3
    exact Or.inr ⟨q, (T.setVm vm₁).calling g' mk (Value.ref b :: As).toArray, t, U', L, E, ce, hT, X', hL, e1, e2, hq, hce, hcv, vx_cls hW₁ hcl, st⟩
end
/-! ===== END ===== -/
/-! ===== BEGIN super.m(..) that may throw (follows va_callSU, va_runSU) ===== -/
section
variable {p : Program} {l : Launch} {e : Env} {R : Room} {s : State} {m : MethodId} {args : Array Value} {below : List Frame} {meth : Method} {c : Code} {H : Heap} {locs : List Loc} {cells slots : Nat}
theorem vx_callSU {T : State} {locs : List Loc} {cells slots : Nat} (X : Stand p l e R s m args below meth c T locs cells slots) (hexec : p.tables.exec = Jvm.exec) {own : String} {index : Nat} {y : MethodName} {bytes : ByteArray} {maxL : Nat} {ret : Option FieldType}
    (hown : s.vm.findClass own = some m.cls) (hlink : (Cond.methodLink own index y).before args s = true) (hsame : (Cond.sameMethod y.cls y.cls y.name y.desc).before args s = true) (hsup : (Cond.superclass own y.cls).before args s = true)
    (hinst : (Cond.instanceMethod y).before args s = true) (hcode : (Cond.code y bytes maxL ret).before args s = true) (hno : y.name ≠ "<init>")
    {W : Nat} {Pre : Pt → Array Value → Prop} {Post : Pt → Array Value → Option Value → Pt → Prop} {PostX : Pt → Array Value → Addr → Pt → Prop} (hK : vx_Back l R p e below s args y 3 W Pre Post PostX)
    {b : Addr} {cellB : Cell} {kB : Class} (hcell : T.heap[b]? = some cellB) (hobj : cellB.vm.isStatics = false) (hkB : s.vm.classes[cellB.cls]? = some kB)
    {g : JFrame} (hg : g.method = m) (hsize : g.locals.size = c.maxLocals) {argsL rest : List Value} (hlen : ∀ sig, parseMethodDescriptor y.desc = some sig → argsL.length = sig.parameters.length)
    (hstack : g.stack = argsL.reverse ++ .ref b :: rest) (hW : 2 * g.monitorRoom + (rest.map fun v => v.category).sum ≤ W) (hdg : decode c.code g.pc = .ok (.invokespecial index, 3))
    (hpre : ∀ vm₁, s.WarmedH vm₁ → Pre ⟨T.setVm vm₁, locs, cells, slots⟩ (Value.ref b :: argsL).toArray) :
    (∃ (v : Option Value) (vm₁ : Vm) (B : Pt), s.WarmedH vm₁ ∧ Stand p l e R s m args below meth c B.U B.locs B.cells B.slots ∧ Post ⟨T.setVm vm₁, locs, cells, slots⟩ (Value.ref b :: argsL).toArray v B ∧
      ∀ target, Steps p.tables e below (B.U.setTop { g with pc := g.pc + 3, stack := v.toList ++ rest }) target → Steps p.tables e below (T.setTop g) target) ∨
    (∃ (q : Addr) (vm₁ : Vm) (B : Pt), s.WarmedH vm₁ ∧ Stand p l e R s m args below meth c B.U B.locs B.cells B.slots ∧ PostX ⟨T.setVm vm₁, locs, cells, slots⟩ (Value.ref b :: argsL).toArray q B ∧
      Steps p.tables e below (T.setTop g) ((B.U.setTop { g with stack := rest }).pushFrame (.throwing q))) := by
  obtain ⟨mk, methM, hnamed, hmethM, hstM, habM⟩ := Cond.instanceMethod_spec hinst
  obtain ⟨methM', cM, hmethM', -, -, -, -, -, -, hsigM⟩ := Cond.code_spec hnamed hcode
  cases hmethM.symm.trans hmethM'
  obtain ⟨ps, dk, kp, hps, hdk, hkp, hsuper, -, -, hnid⟩ := Cond.superclass_spec hown hsup
  have hn : s.methodNamed? ⟨y.cls, y.name, y.desc⟩ = some mk := hnamed
  have hpm : ps = mk.cls := Option.some.inj (hps.symm.trans (findClass_of_methodNamed hnamed))
  have hsub : s.vm.isSubclass ps mk.cls = true := by rw [hpm]; simp [Vm.isSubclass, Vm.isSubclassAux]
  obtain ⟨vm₁, X₁, hstep₁⟩ := X.invokespecialUp hexec hown hlink hsame hn hmethM hstM habM hno hdk hnid hps hsuper hsub (a := b) (cell := cellB) hcell
    (fun z h => by rw [h] at hobj; cases hobj) hkB (g := g) hg (argsL := argsL) (rest := rest) (hlen _ hsigM) hstack hdg
  rcases hK m meth c ⟨T.setVm vm₁, locs, cells, slots⟩ { g with stack := rest } (.invokespecial index) mk (Value.ref b :: argsL).toArray X₁ hg hsize hdg hW (X₁.named hnamed) (hpre vm₁ X₁.warmed) with ⟨v, B, X', hpost, hsteps⟩ | ⟨q, B, X', hpost, hsteps⟩
  · exact Or.inl ⟨v, vm₁, B, X₁.warmed, X', hpost, fun target h => hstep₁ _ (by rw [doInvoke_state]; exact hsteps.trans h)⟩
  · exact Or.inr ⟨q, vm₁, B, X₁.warmed, X', hpost, hstep₁ _ (by rw [doInvoke_state]; exact hsteps)⟩
theorem vx_runSU {y : MethodName} {bytes cc : ByteArray} {maxL nL mc ms n index : Nat} {ret : Option FieldType} {ws : List Cond} {rm : Room} {Pc : Array Value → State → Prop} {Qc : Array Value → State → Outcome → State → Prop} {XC : String → State → State → Prop} {free : Addr → Prop} {Ts : List Cond} {own C : String} {cC : ClassId} {b : Addr} {As rest : List Value} {g : JFrame}
    (hat : ClassAt s C cC) (S : CallFix p m c cc nL s args Ts own) (hM : vx_Met l y ws rm Pc Qc XC mc ms free) (cw : va_CS R s args own index y bytes maxL ret ws rm mc ms n) (hp : PreV s H C b Pc As)
    (hg : g.method = m) (hn : As.length = n) (hsize : g.locals.size = nL) (hstack : g.stack = As.reverse ++ .ref b :: rest) (hW : 2 * g.monitorRoom + (rest.map fun v => v.category).sum ≤ 8) (hdg : decode cc g.pc = .ok (.invokespecial index, 3)) (hf : cells + mc ≤ R.cells ∧ slots + ms ≤ R.slots) :
    vx_Run p l e R s m args below meth c H locs cells slots mc ms g rest (Qc (Value.ref b :: As).toArray) XC free := by
  obtain ⟨⟨hrc, hrs, hfr, hlo, hws, hcw⟩, hl1, hl2, hl3, hl4, hini, hcode, hno, hlen⟩ := cw
  have hK : vx_Back l R p e below s args y 3 8 (PreOf R mc ms Pc) (PostOf Qc mc ms free) (vx_Post XC mc ms free) := vx_back (bytes := bytes) (maxL := maxL) (ret := ret) hM hp.1 hrc hrs hfr hlo hws hcw (fun a' U hW => word_at hW (Or.inl (by first | rfl | simp [Cond.onTables, Cond.keeps, Cond.steady])) hini)
  obtain ⟨hx, hb, hml, ho, -⟩ := S
  obtain ⟨-, ⟨cellB, hcB, hoB, hclB⟩, hPc⟩ := hp
  obtain ⟨hfc, kB, hkB, -⟩ := hat
  cases hfc.symm.trans hclB
  intro T hT X
  rcases vx_callSU X hx (bytes := bytes) (maxL := maxL) (ret := ret) ho hl1 hl2 hl3 hl4 hcode hno hK (by rw [hT]; exact hcB) hoB hkB hg (hsize.trans hml.symm) (argsL := As) (rest := rest) (fun sig h => hn.trans (hlen sig h)) hstack hW (by rw [hb]; exact hdg)
    (fun vm₁ hW₁ => ⟨hf.1, hf.2, hPc (T.setVm vm₁) hT hW₁⟩) with ⟨v, vm₁, ⟨U', l2, c2, s2⟩, hW₁, X', ⟨g', mk, t, L, e1, e2, hq, h1, hL, h2, h3⟩, st⟩ | ⟨q, vm₁, ⟨U', l2, c2, s2⟩, hW₁, X', ⟨g', mk, t, L, E, ce, e1, e2, hq, hce, hcv, hcl, h1, hL, h2, h3⟩, st⟩
  · dsimp only [Pt.U, Pt.locs, Pt.cells, Pt.slots] at X' e1 e2 h1 h2 h3 st
    subst h1; subst h2; subst h3
    exact Or.inl ⟨v, (T.setVm vm₁).calling g' mk (Value.ref b :: As).toArray, t, U', L, hT, X', hL, e1, e2, hq, st⟩
  · dsimp only [Pt.U, Pt.locs, Pt.cells, Pt.slots] at X' e1 e2 h1 h2 h3 st hcl
    subst h1; subst h2; subst h3
    exact Or.inr ⟨q, (T.setVm vm₁).calling g' mk (Value.ref b :: As).toArray, t, U', L, E, ce, hT, X', hL, e1, e2, hq, hce, hcv, vx_cls hW₁ hcl, st⟩
end
/-! ===== END ===== -/
/-! ===== BEGIN a private method of a nest mate that may throw (follows va_callVN, va_callSN, va_runVN, va_runSN) ===== -/
section
variable {p : Program} {l : Launch} {e : Env} {R : Room} {s : State} {m : MethodId} {args : Array Value} {below : List Frame} {meth : Method} {c : Code} {H : Heap} {locs : List Loc} {cells slots : Nat}
variable {T : State}
theorem vx_callVN (X : Stand p l e R s m args below meth c T locs cells slots) (hexec : p.tables.exec = Jvm.exec) {own C : String} {index : Nat} {host : String} {y : MethodName} {bytes : ByteArray} {maxL : Nat} {ret : Option FieldType}
    (hown : s.vm.findClass own = some m.cls) (hlink : (Cond.methodLinkNest own index y host).before args s = true) (hinst : (Cond.instanceMethod y).before args s = true) (hsel : (Cond.selects C y y).before args s = true)
    (hcode : (Cond.code y bytes maxL ret).before args s = true) (hy : y.cls ≠ "java/lang/invoke/MethodHandle" ∧ y.cls ≠ "java/lang/invoke/VarHandle")
    {W : Nat} {Pre : Pt → Array Value → Prop} {Post : Pt → Array Value → Option Value → Pt → Prop} {PostX : Pt → Array Value → Addr → Pt → Prop} (hK : vx_Back l R p e below s args y 3 W Pre Post PostX)
    {b : Addr} {cellB : Cell} (hcell : T.heap[b]? = some cellB) (hobj : cellB.vm.isStatics = false) (hcls : s.vm.findClass C = some cellB.cls)
    {g : JFrame} (hg : g.method = m) (hsize : g.locals.size = c.maxLocals) {argsL rest : List Value} (hlen : ∀ sig, parseMethodDescriptor y.desc = some sig → argsL.length = sig.parameters.length)
    (hstack : g.stack = argsL.reverse ++ .ref b :: rest) (hW : 2 * g.monitorRoom + (rest.map fun v => v.category).sum ≤ W) (hdg : decode c.code g.pc = .ok (.invokevirtual index, 3))
    (hpre : ∀ vm₁, s.WarmedH vm₁ → Pre ⟨T.setVm vm₁, locs, cells, slots⟩ (Value.ref b :: argsL).toArray) :
    (∃ (v : Option Value) (vm₁ : Vm) (B : Pt), s.WarmedH vm₁ ∧ Stand p l e R s m args below meth c B.U B.locs B.cells B.slots ∧ Post ⟨T.setVm vm₁, locs, cells, slots⟩ (Value.ref b :: argsL).toArray v B ∧
      ∀ target, Steps p.tables e below (B.U.setTop { g with pc := g.pc + 3, stack := v.toList ++ rest }) target → Steps p.tables e below (T.setTop g) target) ∨
    (∃ (q : Addr) (vm₁ : Vm) (B : Pt), s.WarmedH vm₁ ∧ Stand p l e R s m args below meth c B.U B.locs B.cells B.slots ∧ PostX ⟨T.setVm vm₁, locs, cells, slots⟩ (Value.ref b :: argsL).toArray q B ∧
      Steps p.tables e below (T.setTop g) ((B.U.setTop { g with stack := rest }).pushFrame (.throwing q))) := by
  obtain ⟨mk, methM, hnamed, hmethM, hstM, habM⟩ := Cond.instanceMethod_spec hinst
  obtain ⟨methM', cM, hmethM', -, -, -, -, -, -, hsigM⟩ := Cond.code_spec hnamed hcode
  cases hmethM.symm.trans hmethM'
  obtain ⟨c2, r2, m2, q1, q2, q3, q4, kP, hkP, hkPi⟩ := Cond.selects_spec hsel
  cases hcls.symm.trans q1
  cases (State.methodFound?_of_named hnamed hy).symm.trans q2
  cases hnamed.symm.trans q3
  have hselP : selectMethod e.platform s.vm cellB.cls mk = .method mk := by rw [Launch.admits_selectMethod X.admits]; exact q4
  obtain ⟨vm₁, X₁, hstep₁⟩ := X.invokevirtualNest hexec hown hlink hnamed hmethM hstM hkP hkPi hy (a := b) (cell := cellB) hcell
    (fun z h => by rw [h] at hobj; cases hobj) hselP hmethM habM hkP hkPi (g := g) hg (argsL := argsL) (rest := rest) (hlen _ hsigM) hstack hdg
  rcases hK m meth c ⟨T.setVm vm₁, locs, cells, slots⟩ { g with stack := rest } (.invokevirtual index) mk (Value.ref b :: argsL).toArray X₁ hg hsize hdg hW (X₁.named hnamed) (hpre vm₁ X₁.warmed) with ⟨v, B, X', hpost, hsteps⟩ | ⟨q, B, X', hpost, hsteps⟩
  · exact Or.inl ⟨v, vm₁, B, X₁.warmed, X', hpost, fun target h => hstep₁ _ fun acts => by rw [doInvoke_state]; exact hsteps.trans h⟩
  · exact Or.inr ⟨q, vm₁, B, X₁.warmed, X', hpost, hstep₁ _ fun acts => by rw [doInvoke_state]; exact hsteps⟩
theorem vx_callSN (X : Stand p l e R s m args below meth c T locs cells slots) (hexec : p.tables.exec = Jvm.exec) {own : String} {index : Nat} {host : String} {y : MethodName} {bytes : ByteArray} {maxL : Nat} {ret : Option FieldType}
    (hown : s.vm.findClass own = some m.cls) (hlink : (Cond.methodLinkNest own index y host).before args s = true) (hstat : (Cond.static y).before args s = true) (hinit : (Cond.initialized y.cls).before args s = true)
    (hcode : (Cond.code y bytes maxL ret).before args s = true) (hy : y.cls ≠ "java/lang/invoke/MethodHandle" ∧ y.cls ≠ "java/lang/invoke/VarHandle")
    {W : Nat} {Pre : Pt → Array Value → Prop} {Post : Pt → Array Value → Option Value → Pt → Prop} {PostX : Pt → Array Value → Addr → Pt → Prop} (hK : vx_Back l R p e below s args y 3 W Pre Post PostX)
    {g : JFrame} (hg : g.method = m) (hsize : g.locals.size = c.maxLocals) {argsL rest : List Value} (hlen : ∀ sig, parseMethodDescriptor y.desc = some sig → argsL.length = sig.parameters.length)
    (hstack : g.stack = argsL.reverse ++ rest) (hW : 2 * g.monitorRoom + (rest.map fun v => v.category).sum ≤ W) (hdg : decode c.code g.pc = .ok (.invokestatic index, 3))
    (hpre : ∀ vm₁, s.WarmedH vm₁ → Pre ⟨T.setVm vm₁, locs, cells, slots⟩ argsL.toArray) :
    (∃ (v : Option Value) (vm₁ : Vm) (B : Pt), s.WarmedH vm₁ ∧ Stand p l e R s m args below meth c B.U B.locs B.cells B.slots ∧ Post ⟨T.setVm vm₁, locs, cells, slots⟩ argsL.toArray v B ∧
      ∀ target, Steps p.tables e below (B.U.setTop { g with pc := g.pc + 3, stack := v.toList ++ rest }) target → Steps p.tables e below (T.setTop g) target) ∨
    (∃ (q : Addr) (vm₁ : Vm) (B : Pt), s.WarmedH vm₁ ∧ Stand p l e R s m args below meth c B.U B.locs B.cells B.slots ∧ PostX ⟨T.setVm vm₁, locs, cells, slots⟩ argsL.toArray q B ∧
      Steps p.tables e below (T.setTop g) ((B.U.setTop { g with stack := rest }).pushFrame (.throwing q))) := by
  obtain ⟨mk, hnamed⟩ := Cond.code_named hcode
  obtain ⟨methM, cM, hmethM, -, -, -, -, -, -, hsigM⟩ := Cond.code_spec hnamed hcode
  have hstatic : methM.isStatic = true := Cond.static_spec hnamed hmethM hstat
  obtain ⟨kP, hkP, -⟩ := className_of_methodNamed hnamed
  have hinitP : kP.init = .initialized := Cond.initialized_spec (findClass_of_methodNamed hnamed) hkP hinit
  obtain ⟨vm₁, X₁, hstep₁⟩ := X.invokestaticNest hexec hown hlink hnamed hmethM hstatic hkP hinitP hy (g := g) hg (argsL := argsL) (rest := rest) (hlen _ hsigM) hstack hdg
  rcases hK m meth c ⟨T.setVm vm₁, locs, cells, slots⟩ { g with stack := rest } (.invokestatic index) mk argsL.toArray X₁ hg hsize hdg hW (X₁.named hnamed) (hpre vm₁ X₁.warmed) with ⟨v, B, X', hpost, hsteps⟩ | ⟨q, B, X', hpost, hsteps⟩
  · exact Or.inl ⟨v, vm₁, B, X₁.warmed, X', hpost, fun target h => hstep₁ _ fun acts => by rw [doInvoke_state]; exact hsteps.trans h⟩
  · exact Or.inr ⟨q, vm₁, B, X₁.warmed, X', hpost, hstep₁ _ fun acts => by rw [doInvoke_state]; exact hsteps⟩
theorem vx_runVN {y : MethodName} {bytes cc : ByteArray} {maxL nL mc ms n index : Nat} {ret : Option FieldType} {ws : List Cond} {rm : Room} {Pc : Array Value → State → Prop} {Qc : Array Value → State → Outcome → State → Prop} {XC : String → State → State → Prop} {free : Addr → Prop} {Ts : List Cond} {own C host : String} {b : Addr} {As rest : List Value} {g : JFrame}
    (S : CallFix p m c cc nL s args Ts own) (hM : vx_Met l y ws rm Pc Qc XC mc ms free) (cw : va_CN R s args own index y host bytes maxL ret ws rm mc ms n ∧ (Cond.instanceMethod y).before args s = true ∧ (Cond.selects C y y).before args s = true) (hp : PreV s H C b Pc As)
    (hg : g.method = m) (hn : As.length = n) (hsize : g.locals.size = nL) (hstack : g.stack = As.reverse ++ .ref b :: rest) (hW : 2 * g.monitorRoom + (rest.map fun v => v.category).sum ≤ 8) (hdg : decode cc g.pc = .ok (.invokevirtual index, 3)) (hf : cells + mc ≤ R.cells ∧ slots + ms ≤ R.slots) :
    vx_Run p l e R s m args below meth c H locs cells slots mc ms g rest (Qc (Value.ref b :: As).toArray) XC free := by
  obtain ⟨⟨⟨hrc, hrs, hfr, hlo, hws, hcw⟩, hcode, hini, hy, hlen, hl⟩, hx1, hx2⟩ := cw
  have hK : vx_Back l R p e below s args y 3 8 (PreOf R mc ms Pc) (PostOf Qc mc ms free) (vx_Post XC mc ms free) := vx_back (bytes := bytes) (maxL := maxL) (ret := ret) hM hp.1 hrc hrs hfr hlo hws hcw (fun a' U hW => word_at hW (Or.inl (by first | rfl | simp [Cond.onTables, Cond.keeps, Cond.steady])) hini)
  obtain ⟨hx, hb, hml, ho, -⟩ := S
  obtain ⟨-, ⟨cellB, hcB, hoB, hclB⟩, hPc⟩ := hp
  intro T hT X
  rcases vx_callVN X hx (C := C) (bytes := bytes) (maxL := maxL) (ret := ret) ho hl hx1 hx2 hcode hy hK (by rw [hT]; exact hcB) hoB hclB hg (hsize.trans hml.symm) (argsL := As) (rest := rest) (fun sig h => hn.trans (hlen sig h)) hstack hW (by rw [hb]; exact hdg)
    (fun vm₁ hW₁ => ⟨hf.1, hf.2, hPc (T.setVm vm₁) hT hW₁⟩) with ⟨v, vm₁, ⟨U', l2, c2, s2⟩, hW₁, X', ⟨g', mk, t, L, e1, e2, hq, h1, hL, h2, h3⟩, st⟩ | ⟨q, vm₁, ⟨U', l2, c2, s2⟩, hW₁, X', ⟨g', mk, t, L, E, ce, e1, e2, hq, hce, hcv, hcl, h1, hL, h2, h3⟩, st⟩
  · dsimp only [Pt.U, Pt.locs, Pt.cells, Pt.slots] at X' e1 e2 h1 h2 h3 st
    subst h1; subst h2; subst h3
    exact Or.inl ⟨v, (T.setVm vm₁).calling g' mk (Value.ref b :: As).toArray, t, U', L, hT, X', hL, e1, e2, hq, st⟩
  · dsimp only [Pt.U, Pt.locs, Pt.cells, Pt.slots] at X' e1 e2 h1 h2 h3 st hcl
    subst h1; subst h2; subst h3
    exact Or.inr ⟨q, (T.setVm vm₁).calling g' mk (Value.ref b :: As).toArray, t, U', L, E, ce, hT, X', hL, e1, e2, hq, hce, hcv, vx_cls hW₁ hcl, st⟩
theorem vx_runSN {y : MethodName} {bytes cc : ByteArray} {maxL nL mc ms n index : Nat} {ret : Option FieldType} {ws : List Cond} {rm : Room} {Pc : Array Value → State → Prop} {Qc : Array Value → State → Outcome → State → Prop} {XC : String → State → State → Prop} {free : Addr → Prop} {Ts : List Cond} {own host : String} {As rest : List Value} {g : JFrame}
    (S : CallFix p m c cc nL s args Ts own) (hM : vx_Met l y ws rm Pc Qc XC mc ms free) (cw : va_CN R s args own index y host bytes maxL ret ws rm mc ms n ∧ (Cond.static y).before args s = true ∧ True) (hp : PreS s H Pc As)
    (hg : g.method = m) (hn : As.length = n) (hsize : g.locals.size = nL) (hstack : g.stack = As.reverse ++ rest) (hW : 2 * g.monitorRoom + (rest.map fun v => v.category).sum ≤ 8) (hdg : decode cc g.pc = .ok (.invokestatic index, 3)) (hf : cells + mc ≤ R.cells ∧ slots + ms ≤ R.slots) :
    vx_Run p l e R s m args below meth c H locs cells slots mc ms g rest (Qc As.toArray) XC free := by
  obtain ⟨⟨⟨hrc, hrs, hfr, hlo, hws, hcw⟩, hcode, hini, hy, hlen, hl⟩, hx1, hx2⟩ := cw
  have hK : vx_Back l R p e below s args y 3 8 (PreOf R mc ms Pc) (PostOf Qc mc ms free) (vx_Post XC mc ms free) := vx_back (bytes := bytes) (maxL := maxL) (ret := ret) hM hp.1 hrc hrs hfr hlo hws hcw (fun a' U hW => word_at hW (Or.inl (by first | rfl | simp [Cond.onTables, Cond.keeps, Cond.steady])) hini)
  obtain ⟨hx, hb, hml, ho, -⟩ := S
  have hPc := hp.2
  intro T hT X
  rcases vx_callSN X hx (bytes := bytes) (maxL := maxL) (ret := ret) ho hl hx1 hini hcode hy hK hg (hsize.trans hml.symm) (argsL := As) (rest := rest) (fun sig h => hn.trans (hlen sig h)) hstack hW (by rw [hb]; exact hdg)
    (fun vm₁ hW₁ => ⟨hf.1, hf.2, hPc (T.setVm vm₁) hT hW₁⟩) with ⟨v, vm₁, ⟨U', l2, c2, s2⟩, hW₁, X', ⟨g', mk, t, L, e1, e2, hq, h1, hL, h2, h3⟩, st⟩ | ⟨q, vm₁, ⟨U', l2, c2, s2⟩, hW₁, X', ⟨g', mk, t, L, E, ce, e1, e2, hq, hce, hcv, hcl, h1, hL, h2, h3⟩, st⟩
  · dsimp only [Pt.U, Pt.locs, Pt.cells, Pt.slots] at X' e1 e2 h1 h2 h3 st
    subst h1; subst h2; subst h3
    exact Or.inl ⟨v, (T.setVm vm₁).calling g' mk As.toArray, t, U', L, hT, X', hL, e1, e2, hq, st⟩
  · dsimp only [Pt.U, Pt.locs, Pt.cells, Pt.slots] at X' e1 e2 h1 h2 h3 st hcl
    subst h1; subst h2; subst h3
    exact Or.inr ⟨q, (T.setVm vm₁).calling g' mk As.toArray, t, U', L, E, ce, hT, X', hL, e1, e2, hq, hce, hcv, vx_cls hW₁ hcl, st⟩
end
/-! ===== END ===== -/
/-! ===== BEGIN calls by an interface of methods that may throw (vx_callIF, vx_runF follow va_callIF, va_runF of this kit) ===== -/
section
variable {p : Program} {l : Launch} {e : Env} {R : Room} {s : State} {m : MethodId} {args : Array Value} {below : List Frame} {meth : Method} {c : Code} {H : Heap} {locs : List Loc} {cells slots : Nat} {Q : State → Prop}
variable {mc ms : Nat} {free : Addr → Prop} {A0 A1 : Nat → Prop} {H0 : Heap} {a : Array Value} {pc : Nat} {ls : Array Slot} {st0 rest : List Value}
def vx_Run5 (p : Program) (l : Launch) (e : Env) (R : Room) (s : State) (m : MethodId) (args : Array Value) (below : List Frame) (meth : Method) (c : Code) (H : Heap) (locs : List Loc) (cells slots mc ms : Nat) (g : JFrame) (rest : List Value) (Qa : State → Outcome → State → Prop) (XC : String → State → State → Prop) (free : Addr → Prop) : Prop :=
  ∀ T : State, T.heap = H → Stand p l e R s m args below meth c T locs cells slots →
    (∃ (v : Option Value) (st₀ t T' : State) (L : List Loc), st₀.heap = H ∧ Stand p l e R s m args below meth c T' (locs ++ L) (cells + mc) (slots + ms) ∧ (∀ q ∈ L, free q.base) ∧ T'.heap = t.heap ∧ T'.vm = t.vm ∧ Qa st₀ (.returned v) t ∧
      Goes p e below T g T' { g with pc := g.pc + 5, stack := v.toList ++ rest }) ∨
    (∃ (q : Addr) (st₀ t T' : State) (L : List Loc) (E : String) (ce : Cell), st₀.heap = H ∧ Stand p l e R s m args below meth c T' (locs ++ L) (cells + mc) (slots + ms) ∧ (∀ z ∈ L, free z.base) ∧ T'.heap = t.heap ∧ T'.vm = t.vm ∧ XC E st₀ t ∧ t.heap[q]? = some ce ∧ ce.vm = .none ∧ s.vm.findClass E = some ce.cls ∧
      Steps p.tables e below (T.setTop g) ((T'.setTop { g with stack := rest }).pushFrame (.throwing q)))
theorem vx_callIF {T : State} (X : Stand p l e R s m args below meth c T locs cells slots) (hexec : p.tables.exec = Jvm.exec) {own C : String} {index count : Nat} {x y : MethodName} {bytes : ByteArray} {maxL : Nat} {ret : Option FieldType}
    (hown : s.vm.findClass own = some m.cls) (hlink : (Cond.methodLink own index x).before args s = true) (hdecl : (Cond.declares x).before args s = true) (hface : (Cond.interfaceMethod x.cls x.cls x.name x.desc).before args s = true)
    (hsel : (Cond.selects C x y).before args s = true) (hinst : (Cond.instanceMethod y).before args s = true) (hpub : (Cond.publicMethod y).before args s = true) (hunh : (Cond.unhidden C x.name x.desc).before args s = true)
    (hcast : (Cond.castable C x.cls).before args s = true) (hcode : (Cond.code y bytes maxL ret).before args s = true) (hx : x.cls ≠ "java/lang/invoke/MethodHandle" ∧ x.cls ≠ "java/lang/invoke/VarHandle")
    {W9 : Nat} {Pre : Pt → Array Value → Prop} {Post : Pt → Array Value → Option Value → Pt → Prop} {PostX : Pt → Array Value → Addr → Pt → Prop} (hK : vx_Back l R p e below s args y 5 W9 Pre Post PostX)
    {b : Addr} {cellB : Cell} {kB : Class} (hcell : T.heap[b]? = some cellB) (hobj : cellB.vm.isStatics = false) (hcls : s.vm.findClass C = some cellB.cls) (hkB : s.vm.classes[cellB.cls]? = some kB)
    {g : JFrame} (hg : g.method = m) (hsize : g.locals.size = c.maxLocals) {argsL rest : List Value} (hlen : ∀ sig, parseMethodDescriptor x.desc = some sig → argsL.length = sig.parameters.length)
    (hstack : g.stack = argsL.reverse ++ .ref b :: rest) (hW : 2 * g.monitorRoom + (rest.map fun v => v.category).sum ≤ W9) (hdg : decode c.code g.pc = .ok (.invokeinterface index count, 5))
    (hpre : ∀ vm₁, s.WarmedH vm₁ → Pre ⟨T.setVm vm₁, locs, cells, slots⟩ (Value.ref b :: argsL).toArray) :
    (∃ (v : Option Value) (vm₁ : Vm) (B : Pt), s.WarmedH vm₁ ∧ Stand p l e R s m args below meth c B.U B.locs B.cells B.slots ∧ Post ⟨T.setVm vm₁, locs, cells, slots⟩ (Value.ref b :: argsL).toArray v B ∧
      ∀ target, Steps p.tables e below (B.U.setTop { g with pc := g.pc + 5, stack := v.toList ++ rest }) target → Steps p.tables e below (T.setTop g) target) ∨
    (∃ (q : Addr) (vm₁ : Vm) (B : Pt), s.WarmedH vm₁ ∧ Stand p l e R s m args below meth c B.U B.locs B.cells B.slots ∧ PostX ⟨T.setVm vm₁, locs, cells, slots⟩ (Value.ref b :: argsL).toArray q B ∧
      Steps p.tables e below (T.setTop g) ((B.U.setTop { g with stack := rest }).pushFrame (.throwing q))) := by
  obtain ⟨r0, r, hn, hrm, hstR, hsigR⟩ := Cond.declares_spec hdecl
  obtain ⟨cL, kL, r1, hcL, hkL, hiL, hfoundL, hn1⟩ := Cond.interfaceMethod_spec hface
  cases hn.symm.trans hn1
  have hr0cls : r0.cls = cL := Option.some.inj ((findClass_of_methodNamed hn).symm.trans hcL)
  obtain ⟨hnameR, hdescR⟩ := name_of_methodNamed hn hrm
  obtain ⟨mk, methM, hnamed, hmethM, -, habM⟩ := Cond.instanceMethod_spec hinst
  obtain ⟨c2, r2, m2, q1, q2, q3, q4, -⟩ := Cond.selects_spec hsel
  cases hcls.symm.trans q1
  cases hfoundL.symm.trans q2
  cases hnamed.symm.trans q3
  have hselP : selectMethod e.platform s.vm cellB.cls r0 = .method mk := by rw [Launch.admits_selectMethod X.admits]; exact q4
  have hpubM : hasFlag methM.accessFlags Acc.public_ = true := Cond.publicMethod_spec hnamed hmethM hpub
  have hway : ((cellB.cls :: s.vm.superclasses cellB.cls).any fun k => (declaredIn s.vm r.name r.desc k).any fun (_, z) => z.isPrivate || z.isStatic) = false := by
    rw [hnameR, hdescR]; exact Cond.unhidden_spec hcls hunh
  obtain ⟨c3, t3, w1, w2, w3⟩ := Cond.castable_spec hcast
  cases hcls.symm.trans w1
  cases hcL.symm.trans w2
  obtain ⟨vm₁, X₁, hstep₁⟩ := X.invokeinterface hexec hown hlink hn hrm hstR (by rw [hr0cls]; exact hkL) hiL hx (a := b) (cell := cellB) (kcell := kB) hcell
    (fun z h => by rw [h] at hobj; cases hobj) hkB (by rw [hr0cls]; exact w3) hselP hmethM hway hpubM habM (g := g) hg (argsL := argsL) (rest := rest) (hlen _ hsigR) hstack hdg
  rcases hK m meth c ⟨T.setVm vm₁, locs, cells, slots⟩ { g with stack := rest } (.invokeinterface index count) mk (Value.ref b :: argsL).toArray X₁ hg hsize hdg hW (X₁.named hnamed) (hpre vm₁ X₁.warmed) with ⟨v, B, X', hpost, hsteps⟩ | ⟨q, B, X', hpost, hsteps⟩
  · exact Or.inl ⟨v, vm₁, B, X₁.warmed, X', hpost, fun target h => hstep₁ _ fun acts => by rw [doInvoke_state]; exact hsteps.trans h⟩
  · exact Or.inr ⟨q, vm₁, B, X₁.warmed, X', hpost, hstep₁ _ fun acts => by rw [doInvoke_state]; exact hsteps⟩
theorem vx_runF {x y : MethodName} {bytes cc : ByteArray} {maxL nL mc ms n index count : Nat} {ret : Option FieldType} {ws : List Cond} {rm : Room} {Pc : Array Value → State → Prop} {Qc : Array Value → State → Outcome → State → Prop} {XC : String → State → State → Prop} {free : Addr → Prop} {Ts : List Cond} {own C : String} {cC : ClassId} {b : Addr} {As rest : List Value} {g : JFrame}
    (hat : ClassAt s C cC) (S : CallFix p m c cc nL s args Ts own) (hM : vx_Met l y ws rm Pc Qc XC mc ms free) (cw : va_CI R s args own C index x y bytes maxL ret ws rm mc ms n) (hp : PreV s H C b Pc As)
    (hg : g.method = m) (hn : As.length = n) (hsize : g.locals.size = nL) (hstack : g.stack = As.reverse ++ .ref b :: rest) (hW : 2 * g.monitorRoom + (rest.map fun v => v.category).sum ≤ 8) (hdg : decode cc g.pc = .ok (.invokeinterface index count, 5)) (hf : cells + mc ≤ R.cells ∧ slots + ms ≤ R.slots) :
    vx_Run5 p l e R s m args below meth c H locs cells slots mc ms g rest (Qc (Value.ref b :: As).toArray) XC free := by
  obtain ⟨hrc, hrs, hfr, hlo, hws, hcw⟩ := cw.back
  have hini := cw.init
  have hK : vx_Back l R p e below s args y 5 8 (PreOf R mc ms Pc) (PostOf Qc mc ms free) (vx_Post XC mc ms free) := vx_back (bytes := bytes) (maxL := maxL) (ret := ret) hM hp.1 hrc hrs hfr hlo hws hcw (fun a' U hW => word_at hW (Or.inl (by first | rfl | simp [Cond.onTables, Cond.keeps, Cond.steady])) hini)
  obtain ⟨hx, hb, hml, ho, -⟩ := S
  obtain ⟨-, ⟨cellB, hcB, hoB, hclB⟩, hPc⟩ := hp
  obtain ⟨hfc, kB, hkB, -⟩ := hat
  cases hfc.symm.trans hclB
  intro T hT X
  rcases vx_callIF X hx (C := C) (bytes := bytes) (maxL := maxL) (ret := ret) ho cw.link cw.decl cw.face cw.sel cw.inst cw.pub cw.unh cw.cast cw.code cw.notMH hK (by rw [hT]; exact hcB) hoB hclB hkB hg (hsize.trans hml.symm) (argsL := As) (rest := rest) (fun sig h => hn.trans (cw.len sig h)) hstack hW (by rw [hb]; exact hdg)
    (fun vm₁ hW₁ => ⟨hf.1, hf.2, hPc (T.setVm vm₁) hT hW₁⟩) with ⟨v, vm₁, ⟨U', l2, c2, s2⟩, hW₁, X', ⟨g', mk, t, L, e1, e2, hq, h1, hL, h2, h3⟩, st⟩ | ⟨q, vm₁, ⟨U', l2, c2, s2⟩, hW₁, X', ⟨g', mk, t, L, E, ce, e1, e2, hq, hce, hcv, hcl, h1, hL, h2, h3⟩, st⟩
  · dsimp only [Pt.U, Pt.locs, Pt.cells, Pt.slots] at X' e1 e2 h1 h2 h3 st
    subst h1; subst h2; subst h3
    exact Or.inl ⟨v, (T.setVm vm₁).calling g' mk (Value.ref b :: As).toArray, t, U', L, hT, X', hL, e1, e2, hq, st⟩
  · dsimp only [Pt.U, Pt.locs, Pt.cells, Pt.slots] at X' e1 e2 h1 h2 h3 st hcl
    subst h1; subst h2; subst h3
    exact Or.inr ⟨q, (T.setVm vm₁).calling g' mk (Value.ref b :: As).toArray, t, U', L, E, ce, hT, X', hL, e1, e2, hq, hce, hcv, vx_cls hW₁ hcl, st⟩
theorem vx_callFv {S SX : Type} {post : S → Prop} {px : SX → Prop} {B : S → State → Prop} {BX : String → SX → State → Prop} {AX : Nat → Prop} (hr : vx_Run5 p l e R s m args below meth c H locs cells slots mc ms (F0 m pc ls st0) rest (va_Qv post B A1 a) (vx_X px BX AX) free) (hS : va_S A0 H0 H locs) (hA : ∀ q, q < H.size → A1 q → A0 q) (hf : ∀ q, free q → A0 q) (hAX : ∀ q, q < H.size → AX q → A0 q)
    (kx : ∀ (E : String) (ce : Cell) (q9 : Addr) (u : SX) (t : State) (H1 : Heap) (locs1 : List Loc), t.heap = H1 → s.vm.Alike t.vm → px u → BX E u t → H.size ≤ H1.size → (∀ q : Nat, q < H.size → ¬ AX q → H1[q]? = H[q]?) → va_S A0 H0 H1 locs1 → H1[q9]? = some ce → ce.vm = .none → s.vm.findClass E = some ce.cls → vx_W p l e R s m args below meth c H1 locs1 (cells + mc) (slots + ms) Q (F0 m pc ls rest) q9)
    (kk : ∀ (u : S) (t : State) (H1 : Heap) (locs1 : List Loc), t.heap = H1 → s.vm.Alike t.vm → post u → B u t → H.size ≤ H1.size → (∀ q : Nat, q < H.size → ¬ A1 q → H1[q]? = H[q]?) → va_S A0 H0 H1 locs1 → W p l e R s m args below meth c H1 locs1 (cells + mc) (slots + ms) Q (F0 m (pc + 5) ls (rest))) : W p l e R s m args below meth c H locs cells slots Q (F0 m pc ls st0) := by
  intro T hT X
  rcases hr T hT X with ⟨v, st₀, t, T', L, h0, X', hL, e1, e2, ⟨⟨u, hv, hp, hb⟩, hF⟩, st⟩ | ⟨q, st₀, t, T', L, E, ce, h0, X', hL, e1, e2, ⟨u, hp, hb, hF⟩, hce, hcv, hcl, st⟩
  · cases hv
    obtain ⟨k1, k2, k3⟩ := vx_keep h0 e1 hS hA hf hL hF
    obtain ⟨t2, a1, b1⟩ := kk u t T'.heap (locs ++ L) e1.symm (by rw [← e2]; exact X'.warmed.alike) hp hb k1 k2 k3 T' rfl X'
    exact ⟨t2, st t2 a1, b1⟩
  · obtain ⟨k1, k2, k3⟩ := vx_keep h0 e1 hS hAX hf hL hF
    obtain ⟨t2, a1, b1⟩ := kx E ce q u t T'.heap (locs ++ L) e1.symm (by rw [← e2]; exact X'.warmed.alike) hp hb k1 k2 k3 (by rw [e1]; exact hce) hcv hcl T' rfl X'
    exact ⟨t2, st.trans a1, b1⟩
theorem vx_callFi {S SX : Type} {post : Int32 → S → Prop} {px : SX → Prop} {B : S → State → Prop} {BX : String → SX → State → Prop} {AX : Nat → Prop} (hr : vx_Run5 p l e R s m args below meth c H locs cells slots mc ms (F0 m pc ls st0) rest (va_Qi post B A1 a) (vx_X px BX AX) free) (hS : va_S A0 H0 H locs) (hA : ∀ q, q < H.size → A1 q → A0 q) (hf : ∀ q, free q → A0 q) (hAX : ∀ q, q < H.size → AX q → A0 q)
    (kx : ∀ (E : String) (ce : Cell) (q9 : Addr) (u : SX) (t : State) (H1 : Heap) (locs1 : List Loc), t.heap = H1 → s.vm.Alike t.vm → px u → BX E u t → H.size ≤ H1.size → (∀ q : Nat, q < H.size → ¬ AX q → H1[q]? = H[q]?) → va_S A0 H0 H1 locs1 → H1[q9]? = some ce → ce.vm = .none → s.vm.findClass E = some ce.cls → vx_W p l e R s m args below meth c H1 locs1 (cells + mc) (slots + ms) Q (F0 m pc ls rest) q9)
    (kk : ∀ (r : Int32) (u : S) (t : State) (H1 : Heap) (locs1 : List Loc), t.heap = H1 → s.vm.Alike t.vm → post r u → B u t → H.size ≤ H1.size → (∀ q : Nat, q < H.size → ¬ A1 q → H1[q]? = H[q]?) → va_S A0 H0 H1 locs1 → W p l e R s m args below meth c H1 locs1 (cells + mc) (slots + ms) Q (F0 m (pc + 5) ls (.int r :: rest))) : W p l e R s m args below meth c H locs cells slots Q (F0 m pc ls st0) := by
  intro T hT X
  rcases hr T hT X with ⟨v, st₀, t, T', L, h0, X', hL, e1, e2, ⟨⟨r, u, hv, hp, hb⟩, hF⟩, st⟩ | ⟨q, st₀, t, T', L, E, ce, h0, X', hL, e1, e2, ⟨u, hp, hb, hF⟩, hce, hcv, hcl, st⟩
  · cases hv
    obtain ⟨k1, k2, k3⟩ := vx_keep h0 e1 hS hA hf hL hF
    obtain ⟨t2, a1, b1⟩ := kk r u t T'.heap (locs ++ L) e1.symm (by rw [← e2]; exact X'.warmed.alike) hp hb k1 k2 k3 T' rfl X'
    exact ⟨t2, st t2 a1, b1⟩
  · obtain ⟨k1, k2, k3⟩ := vx_keep h0 e1 hS hAX hf hL hF
    obtain ⟨t2, a1, b1⟩ := kx E ce q u t T'.heap (locs ++ L) e1.symm (by rw [← e2]; exact X'.warmed.alike) hp hb k1 k2 k3 (by rw [e1]; exact hce) hcv hcl T' rfl X'
    exact ⟨t2, st.trans a1, b1⟩
theorem vx_callFl {S SX : Type} {post : Int64 → S → Prop} {px : SX → Prop} {B : S → State → Prop} {BX : String → SX → State → Prop} {AX : Nat → Prop} (hr : vx_Run5 p l e R s m args below meth c H locs cells slots mc ms (F0 m pc ls st0) rest (va_Ql post B A1 a) (vx_X px BX AX) free) (hS : va_S A0 H0 H locs) (hA : ∀ q, q < H.size → A1 q → A0 q) (hf : ∀ q, free q → A0 q) (hAX : ∀ q, q < H.size → AX q → A0 q)
    (kx : ∀ (E : String) (ce : Cell) (q9 : Addr) (u : SX) (t : State) (H1 : Heap) (locs1 : List Loc), t.heap = H1 → s.vm.Alike t.vm → px u → BX E u t → H.size ≤ H1.size → (∀ q : Nat, q < H.size → ¬ AX q → H1[q]? = H[q]?) → va_S A0 H0 H1 locs1 → H1[q9]? = some ce → ce.vm = .none → s.vm.findClass E = some ce.cls → vx_W p l e R s m args below meth c H1 locs1 (cells + mc) (slots + ms) Q (F0 m pc ls rest) q9)
    (kk : ∀ (r : Int64) (u : S) (t : State) (H1 : Heap) (locs1 : List Loc), t.heap = H1 → s.vm.Alike t.vm → post r u → B u t → H.size ≤ H1.size → (∀ q : Nat, q < H.size → ¬ A1 q → H1[q]? = H[q]?) → va_S A0 H0 H1 locs1 → W p l e R s m args below meth c H1 locs1 (cells + mc) (slots + ms) Q (F0 m (pc + 5) ls (.long r :: rest))) : W p l e R s m args below meth c H locs cells slots Q (F0 m pc ls st0) := by
  intro T hT X
  rcases hr T hT X with ⟨v, st₀, t, T', L, h0, X', hL, e1, e2, ⟨⟨r, u, hv, hp, hb⟩, hF⟩, st⟩ | ⟨q, st₀, t, T', L, E, ce, h0, X', hL, e1, e2, ⟨u, hp, hb, hF⟩, hce, hcv, hcl, st⟩
  · cases hv
    obtain ⟨k1, k2, k3⟩ := vx_keep h0 e1 hS hA hf hL hF
    obtain ⟨t2, a1, b1⟩ := kk r u t T'.heap (locs ++ L) e1.symm (by rw [← e2]; exact X'.warmed.alike) hp hb k1 k2 k3 T' rfl X'
    exact ⟨t2, st t2 a1, b1⟩
  · obtain ⟨k1, k2, k3⟩ := vx_keep h0 e1 hS hAX hf hL hF
    obtain ⟨t2, a1, b1⟩ := kx E ce q u t T'.heap (locs ++ L) e1.symm (by rw [← e2]; exact X'.warmed.alike) hp hb k1 k2 k3 (by rw [e1]; exact hce) hcv hcl T' rfl X'
    exact ⟨t2, st.trans a1, b1⟩
theorem vx_callFf {S SX : Type} {post : UInt32 → S → Prop} {px : SX → Prop} {B : S → State → Prop} {BX : String → SX → State → Prop} {AX : Nat → Prop} (hr : vx_Run5 p l e R s m args below meth c H locs cells slots mc ms (F0 m pc ls st0) rest (va_Qf post B A1 a) (vx_X px BX AX) free) (hS : va_S A0 H0 H locs) (hA : ∀ q, q < H.size → A1 q → A0 q) (hf : ∀ q, free q → A0 q) (hAX : ∀ q, q < H.size → AX q → A0 q)
    (kx : ∀ (E : String) (ce : Cell) (q9 : Addr) (u : SX) (t : State) (H1 : Heap) (locs1 : List Loc), t.heap = H1 → s.vm.Alike t.vm → px u → BX E u t → H.size ≤ H1.size → (∀ q : Nat, q < H.size → ¬ AX q → H1[q]? = H[q]?) → va_S A0 H0 H1 locs1 → H1[q9]? = some ce → ce.vm = .none → s.vm.findClass E = some ce.cls → vx_W p l e R s m args below meth c H1 locs1 (cells + mc) (slots + ms) Q (F0 m pc ls rest) q9)
    (kk : ∀ (r : UInt32) (u : S) (t : State) (H1 : Heap) (locs1 : List Loc), t.heap = H1 → s.vm.Alike t.vm → post r u → B u t → H.size ≤ H1.size → (∀ q : Nat, q < H.size → ¬ A1 q → H1[q]? = H[q]?) → va_S A0 H0 H1 locs1 → W p l e R s m args below meth c H1 locs1 (cells + mc) (slots + ms) Q (F0 m (pc + 5) ls (.float r :: rest))) : W p l e R s m args below meth c H locs cells slots Q (F0 m pc ls st0) := by
  intro T hT X
  rcases hr T hT X with ⟨v, st₀, t, T', L, h0, X', hL, e1, e2, ⟨⟨r, u, hv, hp, hb⟩, hF⟩, st⟩ | ⟨q, st₀, t, T', L, E, ce, h0, X', hL, e1, e2, ⟨u, hp, hb, hF⟩, hce, hcv, hcl, st⟩
  · cases hv
    obtain ⟨k1, k2, k3⟩ := vx_keep h0 e1 hS hA hf hL hF
    obtain ⟨t2, a1, b1⟩ := kk r u t T'.heap (locs ++ L) e1.symm (by rw [← e2]; exact X'.warmed.alike) hp hb k1 k2 k3 T' rfl X'
    exact ⟨t2, st t2 a1, b1⟩
  · obtain ⟨k1, k2, k3⟩ := vx_keep h0 e1 hS hAX hf hL hF
    obtain ⟨t2, a1, b1⟩ := kx E ce q u t T'.heap (locs ++ L) e1.symm (by rw [← e2]; exact X'.warmed.alike) hp hb k1 k2 k3 (by rw [e1]; exact hce) hcv hcl T' rfl X'
    exact ⟨t2, st.trans a1, b1⟩
theorem vx_callFd {S SX : Type} {post : UInt64 → S → Prop} {px : SX → Prop} {B : S → State → Prop} {BX : String → SX → State → Prop} {AX : Nat → Prop} (hr : vx_Run5 p l e R s m args below meth c H locs cells slots mc ms (F0 m pc ls st0) rest (va_Qd post B A1 a) (vx_X px BX AX) free) (hS : va_S A0 H0 H locs) (hA : ∀ q, q < H.size → A1 q → A0 q) (hf : ∀ q, free q → A0 q) (hAX : ∀ q, q < H.size → AX q → A0 q)
    (kx : ∀ (E : String) (ce : Cell) (q9 : Addr) (u : SX) (t : State) (H1 : Heap) (locs1 : List Loc), t.heap = H1 → s.vm.Alike t.vm → px u → BX E u t → H.size ≤ H1.size → (∀ q : Nat, q < H.size → ¬ AX q → H1[q]? = H[q]?) → va_S A0 H0 H1 locs1 → H1[q9]? = some ce → ce.vm = .none → s.vm.findClass E = some ce.cls → vx_W p l e R s m args below meth c H1 locs1 (cells + mc) (slots + ms) Q (F0 m pc ls rest) q9)
    (kk : ∀ (r : UInt64) (u : S) (t : State) (H1 : Heap) (locs1 : List Loc), t.heap = H1 → s.vm.Alike t.vm → post r u → B u t → H.size ≤ H1.size → (∀ q : Nat, q < H.size → ¬ A1 q → H1[q]? = H[q]?) → va_S A0 H0 H1 locs1 → W p l e R s m args below meth c H1 locs1 (cells + mc) (slots + ms) Q (F0 m (pc + 5) ls (.double r :: rest))) : W p l e R s m args below meth c H locs cells slots Q (F0 m pc ls st0) := by
  intro T hT X
  rcases hr T hT X with ⟨v, st₀, t, T', L, h0, X', hL, e1, e2, ⟨⟨r, u, hv, hp, hb⟩, hF⟩, st⟩ | ⟨q, st₀, t, T', L, E, ce, h0, X', hL, e1, e2, ⟨u, hp, hb, hF⟩, hce, hcv, hcl, st⟩
  · cases hv
    obtain ⟨k1, k2, k3⟩ := vx_keep h0 e1 hS hA hf hL hF
    obtain ⟨t2, a1, b1⟩ := kk r u t T'.heap (locs ++ L) e1.symm (by rw [← e2]; exact X'.warmed.alike) hp hb k1 k2 k3 T' rfl X'
    exact ⟨t2, st t2 a1, b1⟩
  · obtain ⟨k1, k2, k3⟩ := vx_keep h0 e1 hS hAX hf hL hF
    obtain ⟨t2, a1, b1⟩ := kx E ce q u t T'.heap (locs ++ L) e1.symm (by rw [← e2]; exact X'.warmed.alike) hp hb k1 k2 k3 (by rw [e1]; exact hce) hcv hcl T' rfl X'
    exact ⟨t2, st.trans a1, b1⟩
end
/-! ===== END ===== -/
/-! ===== BEGIN by an interface, a method with a table of its own that may throw (follows va_callIFW, va_runFW) ===== -/
section
variable {p : Program} {l : Launch} {e : Env} {R : Room} {s : State} {m : MethodId} {args : Array Value} {below : List Frame} {meth : Method} {c : Code} {H : Heap} {locs : List Loc} {cells slots : Nat}
theorem vx_callIFW {T : State} (X : Stand p l e R s m args below meth c T locs cells slots) (hexec : p.tables.exec = Jvm.exec) {own C : String} {index count : Nat} {x y : MethodName} {bytes : ByteArray} {maxL : Nat} {ret : Option FieldType} {hh : List (Nat × Nat × Nat × Nat)}
    (hown : s.vm.findClass own = some m.cls) (hlink : (Cond.methodLink own index x).before args s = true) (hdecl : (Cond.declares x).before args s = true) (hface : (Cond.interfaceMethod x.cls x.cls x.name x.desc).before args s = true)
    (hsel : (Cond.selects C x y).before args s = true) (hinst : (Cond.instanceMethod y).before args s = true) (hpub : (Cond.publicMethod y).before args s = true) (hunh : (Cond.unhidden C x.name x.desc).before args s = true)
    (hcast : (Cond.castable C x.cls).before args s = true) (hcode : (Cond.codeWith y bytes maxL ret hh).before args s = true) (hx : x.cls ≠ "java/lang/invoke/MethodHandle" ∧ x.cls ≠ "java/lang/invoke/VarHandle")
    {W : Nat} {Pre : Pt → Array Value → Prop} {Post : Pt → Array Value → Option Value → Pt → Prop} {PostX : Pt → Array Value → Addr → Pt → Prop} (hK : vx_Back l R p e below s args y 5 W Pre Post PostX)
    {b : Addr} {cellB : Cell} {kB : Class} (hcell : T.heap[b]? = some cellB) (hobj : cellB.vm.isStatics = false) (hcls : s.vm.findClass C = some cellB.cls) (hkB : s.vm.classes[cellB.cls]? = some kB)
    {g : JFrame} (hg : g.method = m) (hsize : g.locals.size = c.maxLocals) {argsL rest : List Value} (hlen : ∀ sig, parseMethodDescriptor x.desc = some sig → argsL.length = sig.parameters.length)
    (hstack : g.stack = argsL.reverse ++ .ref b :: rest) (hW : 2 * g.monitorRoom + (rest.map fun v => v.category).sum ≤ W) (hdg : decode c.code g.pc = .ok (.invokeinterface index count, 5))
    (hpre : ∀ vm₁, s.WarmedH vm₁ → Pre ⟨T.setVm vm₁, locs, cells, slots⟩ (Value.ref b :: argsL).toArray) :
    (∃ (v : Option Value) (vm₁ : Vm) (B : Pt), s.WarmedH vm₁ ∧ Stand p l e R s m args below meth c B.U B.locs B.cells B.slots ∧ Post ⟨T.setVm vm₁, locs, cells, slots⟩ (Value.ref b :: argsL).toArray v B ∧
      ∀ target, Steps p.tables e below (B.U.setTop { g with pc := g.pc + 5, stack := v.toList ++ rest }) target → Steps p.tables e below (T.setTop g) target) ∨
    (∃ (q : Addr) (vm₁ : Vm) (B : Pt), s.WarmedH vm₁ ∧ Stand p l e R s m args below meth c B.U B.locs B.cells B.slots ∧ PostX ⟨T.setVm vm₁, locs, cells, slots⟩ (Value.ref b :: argsL).toArray q B ∧
      Steps p.tables e below (T.setTop g) ((B.U.setTop { g with stack := rest }).pushFrame (.throwing q))) := by
  obtain ⟨r0, r, hn, hrm, hstR, hsigR⟩ := Cond.declares_spec hdecl
  obtain ⟨cL, kL, r1, hcL, hkL, hiL, hfoundL, hn1⟩ := Cond.interfaceMethod_spec hface
  cases hn.symm.trans hn1
  have hr0cls : r0.cls = cL := Option.some.inj ((findClass_of_methodNamed hn).symm.trans hcL)
  obtain ⟨hnameR, hdescR⟩ := name_of_methodNamed hn hrm
  obtain ⟨mk, methM, hnamed, hmethM, -, habM⟩ := Cond.instanceMethod_spec hinst
  obtain ⟨c2, r2, m2, q1, q2, q3, q4, -⟩ := Cond.selects_spec hsel
  cases hcls.symm.trans q1
  cases hfoundL.symm.trans q2
  cases hnamed.symm.trans q3
  have hselP : selectMethod e.platform s.vm cellB.cls r0 = .method mk := by rw [Launch.admits_selectMethod X.admits]; exact q4
  have hpubM : hasFlag methM.accessFlags Acc.public_ = true := Cond.publicMethod_spec hnamed hmethM hpub
  have hway : ((cellB.cls :: s.vm.superclasses cellB.cls).any fun k => (declaredIn s.vm r.name r.desc k).any fun (_, z) => z.isPrivate || z.isStatic) = false := by
    rw [hnameR, hdescR]; exact Cond.unhidden_spec hcls hunh
  obtain ⟨c3, t3, w1, w2, w3⟩ := Cond.castable_spec hcast
  cases hcls.symm.trans w1
  cases hcL.symm.trans w2
  obtain ⟨vm₁, X₁, hstep₁⟩ := X.invokeinterface hexec hown hlink hn hrm hstR (by rw [hr0cls]; exact hkL) hiL hx (a := b) (cell := cellB) (kcell := kB) hcell
    (fun z h => by rw [h] at hobj; cases hobj) hkB (by rw [hr0cls]; exact w3) hselP hmethM hway hpubM habM (g := g) hg (argsL := argsL) (rest := rest) (hlen _ hsigR) hstack hdg
  rcases hK m meth c ⟨T.setVm vm₁, locs, cells, slots⟩ { g with stack := rest } (.invokeinterface index count) mk (Value.ref b :: argsL).toArray X₁ hg hsize hdg hW (X₁.named hnamed) (hpre vm₁ X₁.warmed) with ⟨v, B, X', hpost, hsteps⟩ | ⟨q, B, X', hpost, hsteps⟩
  · exact Or.inl ⟨v, vm₁, B, X₁.warmed, X', hpost, fun target h => hstep₁ _ fun acts => by rw [doInvoke_state]; exact hsteps.trans h⟩
  · exact Or.inr ⟨q, vm₁, B, X₁.warmed, X', hpost, hstep₁ _ fun acts => by rw [doInvoke_state]; exact hsteps⟩
theorem vx_runFW {x y : MethodName} {bytes cc : ByteArray} {maxL nL mc ms n index count : Nat} {ret : Option FieldType} {hh : List (Nat × Nat × Nat × Nat)} {ws : List Cond} {rm : Room} {Pc : Array Value → State → Prop} {Qc : Array Value → State → Outcome → State → Prop} {XC : String → State → State → Prop} {free : Addr → Prop} {Ts : List Cond} {own C : String} {cC : ClassId} {b : Addr} {As rest : List Value} {g : JFrame}
    (hat : ClassAt s C cC) (S : CallFix p m c cc nL s args Ts own) (hM : vx_Met l y ws rm Pc Qc XC mc ms free) (cw : va_CIW R s args own C index x y bytes maxL ret hh ws rm mc ms n) (hp : PreV s H C b Pc As)
    (hg : g.method = m) (hn : As.length = n) (hsize : g.locals.size = nL) (hstack : g.stack = As.reverse ++ .ref b :: rest) (hW : 2 * g.monitorRoom + (rest.map fun v => v.category).sum ≤ 8) (hdg : decode cc g.pc = .ok (.invokeinterface index count, 5)) (hf : cells + mc ≤ R.cells ∧ slots + ms ≤ R.slots) :
    vx_Run5 p l e R s m args below meth c H locs cells slots mc ms g rest (Qc (Value.ref b :: As).toArray) XC free := by
  obtain ⟨hrc, hrs, hfr, hlo, hws, hcw⟩ := cw.back
  have hini := cw.init
  have hK : vx_Back l R p e below s args y 5 8 (PreOf R mc ms Pc) (PostOf Qc mc ms free) (vx_Post XC mc ms free) := vx_backW (hh := hh) (bytes := bytes) (maxL := maxL) (ret := ret) hM hp.1 hrc hrs hfr hlo hws hcw (fun a' U hW => word_at hW (Or.inl (by first | rfl | simp [Cond.onTables, Cond.keeps, Cond.steady])) hini)
  obtain ⟨hx, hb, hml, ho, -⟩ := S
  obtain ⟨-, ⟨cellB, hcB, hoB, hclB⟩, hPc⟩ := hp
  obtain ⟨hfc, kB, hkB, -⟩ := hat
  cases hfc.symm.trans hclB
  intro T hT X
  rcases vx_callIFW X hx (C := C) (hh := hh) (bytes := bytes) (maxL := maxL) (ret := ret) ho cw.link cw.decl cw.face cw.sel cw.inst cw.pub cw.unh cw.cast cw.code cw.notMH hK (by rw [hT]; exact hcB) hoB hclB hkB hg (hsize.trans hml.symm) (argsL := As) (rest := rest) (fun sig h => hn.trans (cw.len sig h)) hstack hW (by rw [hb]; exact hdg)
    (fun vm₁ hW₁ => ⟨hf.1, hf.2, hPc (T.setVm vm₁) hT hW₁⟩) with ⟨v, vm₁, ⟨U', l2, c2, s2⟩, hW₁, X', ⟨g', mk, t, L, e1, e2, hq, h1, hL, h2, h3⟩, st⟩ | ⟨q, vm₁, ⟨U', l2, c2, s2⟩, hW₁, X', ⟨g', mk, t, L, E, ce, e1, e2, hq, hce, hcv, hcl, h1, hL, h2, h3⟩, st⟩
  · dsimp only [Pt.U, Pt.locs, Pt.cells, Pt.slots] at X' e1 e2 h1 h2 h3 st
    subst h1; subst h2; subst h3
    exact Or.inl ⟨v, (T.setVm vm₁).calling g' mk (Value.ref b :: As).toArray, t, U', L, hT, X', hL, e1, e2, hq, st⟩
  · dsimp only [Pt.U, Pt.locs, Pt.cells, Pt.slots] at X' e1 e2 h1 h2 h3 st hcl
    subst h1; subst h2; subst h3
    exact Or.inr ⟨q, (T.setVm vm₁).calling g' mk (Value.ref b :: As).toArray, t, U', L, E, ce, hT, X', hL, e1, e2, hq, hce, hcv, vx_cls hW₁ hcl, st⟩
end
/-! ===== END ===== -/
/-! ===== BEGIN .. of methods that hand back an object of the pool ===== -/
section
variable {p : Program} {l : Launch} {e : Env} {R : Room} {s : State} {m : MethodId} {args : Array Value} {below : List Frame} {meth : Method} {c : Code} {H : Heap} {locs : List Loc} {cells slots : Nat} {Q : State → Prop}
variable {mc ms : Nat} {free : Addr → Prop} {A0 A1 : Nat → Prop} {H0 : Heap} {a : Array Value} {pc : Nat} {ls : Array Slot} {st0 rest : List Value}
theorem vx_callq {S SX : Type} {post : Option Nat → S → Prop} {px : SX → Prop} {B : S → State → Prop} {BX : String → SX → State → Prop} {AX : Nat → Prop} (hr : vx_Run p l e R s m args below meth c H locs cells slots mc ms (F0 m pc ls st0) rest (va_Qq post B A1 a) (vx_X px BX AX) free) (hS : va_S A0 H0 H locs) (hA : ∀ q, q < H.size → A1 q → A0 q) (hf : ∀ q, free q → A0 q) (hAX : ∀ q, q < H.size → AX q → A0 q)
    (kx : ∀ (E : String) (ce : Cell) (q9 : Addr) (u : SX) (t : State) (H1 : Heap) (locs1 : List Loc), t.heap = H1 → s.vm.Alike t.vm → px u → BX E u t → H.size ≤ H1.size → (∀ q : Nat, q < H.size → ¬ AX q → H1[q]? = H[q]?) → va_S A0 H0 H1 locs1 → H1[q9]? = some ce → ce.vm = .none → s.vm.findClass E = some ce.cls → vx_W p l e R s m args below meth c H1 locs1 (cells + mc) (slots + ms) Q (F0 m pc ls rest) q9)
    (kk : ∀ (r : Option Nat) (u : S) (t : State) (H1 : Heap) (locs1 : List Loc), t.heap = H1 → s.vm.Alike t.vm → post r u → B u t → H.size ≤ H1.size → (∀ q : Nat, q < H.size → ¬ A1 q → H1[q]? = H[q]?) → va_S A0 H0 H1 locs1 → W p l e R s m args below meth c H1 locs1 (cells + mc) (slots + ms) Q (F0 m (pc + 3) ls (va_rf r :: rest))) : W p l e R s m args below meth c H locs cells slots Q (F0 m pc ls st0) := by
  intro T hT X
  rcases hr T hT X with ⟨v, st₀, t, T', L, h0, X', hL, e1, e2, ⟨⟨r, u, hv, hp, hb⟩, hF⟩, st⟩ | ⟨q, st₀, t, T', L, E, ce, h0, X', hL, e1, e2, ⟨u, hp, hb, hF⟩, hce, hcv, hcl, st⟩
  · cases hv
    obtain ⟨k1, k2, k3⟩ := vx_keep h0 e1 hS hA hf hL hF
    obtain ⟨t2, a1, b1⟩ := kk r u t T'.heap (locs ++ L) e1.symm (by rw [← e2]; exact X'.warmed.alike) hp hb k1 k2 k3 T' rfl X'
    exact ⟨t2, st t2 a1, b1⟩
  · obtain ⟨k1, k2, k3⟩ := vx_keep h0 e1 hS hAX hf hL hF
    obtain ⟨t2, a1, b1⟩ := kx E ce q u t T'.heap (locs ++ L) e1.symm (by rw [← e2]; exact X'.warmed.alike) hp hb k1 k2 k3 (by rw [e1]; exact hce) hcv hcl T' rfl X'
    exact ⟨t2, st.trans a1, b1⟩
end
/-! ===== END ===== -/
/-! ===== BEGIN .. a constant ===== -/
section
variable {p : Program} {l : Launch} {e : Env} {R : Room} {s : State} {m : MethodId} {args : Array Value} {below : List Frame} {meth : Method} {c : Code} {H : Heap} {locs : List Loc} {cells slots : Nat} {Q : State → Prop}
variable {mc ms : Nat} {free : Addr → Prop} {A0 A1 : Nat → Prop} {H0 : Heap} {a : Array Value} {pc : Nat} {ls : Array Slot} {st0 rest : List Value}
theorem vx_calle {ad : Nat → Nat} {S SX : Type} {post : Option Nat → S → Prop} {px : SX → Prop} {B : S → State → Prop} {BX : String → SX → State → Prop} {AX : Nat → Prop} (hr : vx_Run p l e R s m args below meth c H locs cells slots mc ms (F0 m pc ls st0) rest (va_Qe ad post B A1 a) (vx_X px BX AX) free) (hS : va_S A0 H0 H locs) (hA : ∀ q, q < H.size → A1 q → A0 q) (hf : ∀ q, free q → A0 q) (hAX : ∀ q, q < H.size → AX q → A0 q)
    (kx : ∀ (E : String) (ce : Cell) (q9 : Addr) (u : SX) (t : State) (H1 : Heap) (locs1 : List Loc), t.heap = H1 → s.vm.Alike t.vm → px u → BX E u t → H.size ≤ H1.size → (∀ q : Nat, q < H.size → ¬ AX q → H1[q]? = H[q]?) → va_S A0 H0 H1 locs1 → H1[q9]? = some ce → ce.vm = .none → s.vm.findClass E = some ce.cls → vx_W p l e R s m args below meth c H1 locs1 (cells + mc) (slots + ms) Q (F0 m pc ls rest) q9)
    (kk : ∀ (r : Option Nat) (u : S) (t : State) (H1 : Heap) (locs1 : List Loc), t.heap = H1 → s.vm.Alike t.vm → post r u → B u t → H.size ≤ H1.size → (∀ q : Nat, q < H.size → ¬ A1 q → H1[q]? = H[q]?) → va_S A0 H0 H1 locs1 → W p l e R s m args below meth c H1 locs1 (cells + mc) (slots + ms) Q (F0 m (pc + 3) ls (va_re ad r :: rest))) : W p l e R s m args below meth c H locs cells slots Q (F0 m pc ls st0) := by
  intro T hT X
  rcases hr T hT X with ⟨v, st₀, t, T', L, h0, X', hL, e1, e2, ⟨⟨r, u, hv, hp, hb⟩, hF⟩, st⟩ | ⟨q, st₀, t, T', L, E, ce, h0, X', hL, e1, e2, ⟨u, hp, hb, hF⟩, hce, hcv, hcl, st⟩
  · cases hv
    obtain ⟨k1, k2, k3⟩ := vx_keep h0 e1 hS hA hf hL hF
    obtain ⟨t2, a1, b1⟩ := kk r u t T'.heap (locs ++ L) e1.symm (by rw [← e2]; exact X'.warmed.alike) hp hb k1 k2 k3 T' rfl X'
    exact ⟨t2, st t2 a1, b1⟩
  · obtain ⟨k1, k2, k3⟩ := vx_keep h0 e1 hS hAX hf hL hF
    obtain ⟨t2, a1, b1⟩ := kx E ce q u t T'.heap (locs ++ L) e1.symm (by rw [← e2]; exact X'.warmed.alike) hp hb k1 k2 k3 (by rw [e1]; exact hce) hcv hcl T' rfl X'
    exact ⟨t2, st.trans a1, b1⟩
end
/-! ===== END ===== -/
/-! ===== BEGIN .. by an interface, an object ===== -/
section
variable {p : Program} {l : Launch} {e : Env} {R : Room} {s : State} {m : MethodId} {args : Array Value} {below : List Frame} {meth : Method} {c : Code} {H : Heap} {locs : List Loc} {cells slots : Nat} {Q : State → Prop}
variable {mc ms : Nat} {free : Addr → Prop} {A0 A1 : Nat → Prop} {H0 : Heap} {a : Array Value} {pc : Nat} {ls : Array Slot} {st0 rest : List Value}
theorem vx_callFq {S SX : Type} {post : Option Nat → S → Prop} {px : SX → Prop} {B : S → State → Prop} {BX : String → SX → State → Prop} {AX : Nat → Prop} (hr : vx_Run5 p l e R s m args below meth c H locs cells slots mc ms (F0 m pc ls st0) rest (va_Qq post B A1 a) (vx_X px BX AX) free) (hS : va_S A0 H0 H locs) (hA : ∀ q, q < H.size → A1 q → A0 q) (hf : ∀ q, free q → A0 q) (hAX : ∀ q, q < H.size → AX q → A0 q)
    (kx : ∀ (E : String) (ce : Cell) (q9 : Addr) (u : SX) (t : State) (H1 : Heap) (locs1 : List Loc), t.heap = H1 → s.vm.Alike t.vm → px u → BX E u t → H.size ≤ H1.size → (∀ q : Nat, q < H.size → ¬ AX q → H1[q]? = H[q]?) → va_S A0 H0 H1 locs1 → H1[q9]? = some ce → ce.vm = .none → s.vm.findClass E = some ce.cls → vx_W p l e R s m args below meth c H1 locs1 (cells + mc) (slots + ms) Q (F0 m pc ls rest) q9)
    (kk : ∀ (r : Option Nat) (u : S) (t : State) (H1 : Heap) (locs1 : List Loc), t.heap = H1 → s.vm.Alike t.vm → post r u → B u t → H.size ≤ H1.size → (∀ q : Nat, q < H.size → ¬ A1 q → H1[q]? = H[q]?) → va_S A0 H0 H1 locs1 → W p l e R s m args below meth c H1 locs1 (cells + mc) (slots + ms) Q (F0 m (pc + 5) ls (va_rf r :: rest))) : W p l e R s m args below meth c H locs cells slots Q (F0 m pc ls st0) := by
  intro T hT X
  rcases hr T hT X with ⟨v, st₀, t, T', L, h0, X', hL, e1, e2, ⟨⟨r, u, hv, hp, hb⟩, hF⟩, st⟩ | ⟨q, st₀, t, T', L, E, ce, h0, X', hL, e1, e2, ⟨u, hp, hb, hF⟩, hce, hcv, hcl, st⟩
  · cases hv
    obtain ⟨k1, k2, k3⟩ := vx_keep h0 e1 hS hA hf hL hF
    obtain ⟨t2, a1, b1⟩ := kk r u t T'.heap (locs ++ L) e1.symm (by rw [← e2]; exact X'.warmed.alike) hp hb k1 k2 k3 T' rfl X'
    exact ⟨t2, st t2 a1, b1⟩
  · obtain ⟨k1, k2, k3⟩ := vx_keep h0 e1 hS hAX hf hL hF
    obtain ⟨t2, a1, b1⟩ := kx E ce q u t T'.heap (locs ++ L) e1.symm (by rw [← e2]; exact X'.warmed.alike) hp hb k1 k2 k3 (by rw [e1]; exact hce) hcv hcl T' rfl X'
    exact ⟨t2, st.trans a1, b1⟩
end
/-! ===== END ===== -/
/-! ===== BEGIN .. by an interface, a constant ===== -/
section
variable {p : Program} {l : Launch} {e : Env} {R : Room} {s : State} {m : MethodId} {args : Array Value} {below : List Frame} {meth : Method} {c : Code} {H : Heap} {locs : List Loc} {cells slots : Nat} {Q : State → Prop}
variable {mc ms : Nat} {free : Addr → Prop} {A0 A1 : Nat → Prop} {H0 : Heap} {a : Array Value} {pc : Nat} {ls : Array Slot} {st0 rest : List Value}
theorem vx_callFe {ad : Nat → Nat} {S SX : Type} {post : Option Nat → S → Prop} {px : SX → Prop} {B : S → State → Prop} {BX : String → SX → State → Prop} {AX : Nat → Prop} (hr : vx_Run5 p l e R s m args below meth c H locs cells slots mc ms (F0 m pc ls st0) rest (va_Qe ad post B A1 a) (vx_X px BX AX) free) (hS : va_S A0 H0 H locs) (hA : ∀ q, q < H.size → A1 q → A0 q) (hf : ∀ q, free q → A0 q) (hAX : ∀ q, q < H.size → AX q → A0 q)
    (kx : ∀ (E : String) (ce : Cell) (q9 : Addr) (u : SX) (t : State) (H1 : Heap) (locs1 : List Loc), t.heap = H1 → s.vm.Alike t.vm → px u → BX E u t → H.size ≤ H1.size → (∀ q : Nat, q < H.size → ¬ AX q → H1[q]? = H[q]?) → va_S A0 H0 H1 locs1 → H1[q9]? = some ce → ce.vm = .none → s.vm.findClass E = some ce.cls → vx_W p l e R s m args below meth c H1 locs1 (cells + mc) (slots + ms) Q (F0 m pc ls rest) q9)
    (kk : ∀ (r : Option Nat) (u : S) (t : State) (H1 : Heap) (locs1 : List Loc), t.heap = H1 → s.vm.Alike t.vm → post r u → B u t → H.size ≤ H1.size → (∀ q : Nat, q < H.size → ¬ A1 q → H1[q]? = H[q]?) → va_S A0 H0 H1 locs1 → W p l e R s m args below meth c H1 locs1 (cells + mc) (slots + ms) Q (F0 m (pc + 5) ls (va_re ad r :: rest))) : W p l e R s m args below meth c H locs cells slots Q (F0 m pc ls st0) := by
  intro T hT X
  rcases hr T hT X with ⟨v, st₀, t, T', L, h0, X', hL, e1, e2, ⟨⟨r, u, hv, hp, hb⟩, hF⟩, st⟩ | ⟨q, st₀, t, T', L, E, ce, h0, X', hL, e1, e2, ⟨u, hp, hb, hF⟩, hce, hcv, hcl, st⟩
  · cases hv
    obtain ⟨k1, k2, k3⟩ := vx_keep h0 e1 hS hA hf hL hF
    obtain ⟨t2, a1, b1⟩ := kk r u t T'.heap (locs ++ L) e1.symm (by rw [← e2]; exact X'.warmed.alike) hp hb k1 k2 k3 T' rfl X'
    exact ⟨t2, st t2 a1, b1⟩
  · obtain ⟨k1, k2, k3⟩ := vx_keep h0 e1 hS hAX hf hL hF
    obtain ⟨t2, a1, b1⟩ := kx E ce q u t T'.heap (locs ++ L) e1.symm (by rw [← e2]; exact X'.warmed.alike) hp hb k1 k2 k3 (by rw [e1]; exact hce) hcv hcl T' rfl X'
    exact ⟨t2, st.trans a1, b1⟩
end
/-! ===== END ===== -/
/-! ===== BEGIN what the machine throws by itself: null at a field, at athrow ===== -/
section VXM2
variable {p : Program} {l : Launch} {e : Env} {R : Room} {s : State} {m : MethodId} {args : Array Value} {below : List Frame} {meth : Method} {c : Code} {H : Heap} {locs : List Loc} {cells slots : Nat}
variable {Q : State → Prop} {cc : ByteArray} {pc : Nat} {ls : Array Slot} {rest : List Value}
theorem vx_getfN {D cl tys} {own ref C : String} {T : u_T} {N ci index : Nat} {Ts : List Cond} (hexec : p.tables.exec = Jvm.exec) (hb : c.code = cc) (hts : ∀ w ∈ Ts, w.before args s = true) (hin : ∀ w ∈ u_ws C T N, w ∈ Ts) (hown : s.vm.findClass own = some m.cls) (hK : va_K D cl tys s) (hc : cl[ci]? = some (C, T, N)) (k : Nat) (hk : k < N) (hlink : (Cond.fieldLink own index ref (T k).2.1 (T k).2.2.1).before args s = true) (hsame : ∀ x, s.fieldFound? (T k).1 (T k).2.1 (T k).2.2.1 = some x → s.fieldFound? ref (T k).2.1 (T k).2.2.1 = some x) (hdg : decode cc pc = .ok (.getfield index, 3)) (kk : vx_NoteN p l e R s m args below meth c H locs cells slots Q (F0 m pc ls rest)) : W p l e R s m args below meth c H locs cells slots Q (F0 m pc ls (.null :: rest)) := by
  obtain ⟨hS, hfc, kC, hkC, -⟩ := hK.1 ci _ hc
  obtain ⟨cf, kf, fi, f, hi, -⟩ := hS k hk
  intro U hU X
  obtain ⟨vm', X1, st1⟩ := X.getfieldNull hexec hown hlink (hsame _ hi) (u_facts hfc hkC (u_lays hts hin hk) hi).1 (g := F0 m pc ls (.null :: rest)) rfl (rest := rest) rfl (by rw [hb]; exact hdg)
  obtain ⟨t, st, q⟩ := kk (U.setVm vm') hU X1
  exact ⟨t, st1 t st, q⟩
theorem vx_getfNN {D cl tys} {own ref C host : String} {T : u_T} {N ci index : Nat} {Ts : List Cond} (hexec : p.tables.exec = Jvm.exec) (hb : c.code = cc) (hts : ∀ w ∈ Ts, w.before args s = true) (hin : ∀ w ∈ u_ws C T N, w ∈ Ts) (hown : s.vm.findClass own = some m.cls) (hK : va_K D cl tys s) (hc : cl[ci]? = some (C, T, N)) (k : Nat) (hk : k < N) (hlink : (Cond.fieldLinkNest own index ref (T k).2.1 (T k).2.2.1 host).before args s = true) (hsame : ∀ x, s.fieldFound? (T k).1 (T k).2.1 (T k).2.2.1 = some x → s.fieldFound? ref (T k).2.1 (T k).2.2.1 = some x) (hdg : decode cc pc = .ok (.getfield index, 3)) (kk : vx_NoteN p l e R s m args below meth c H locs cells slots Q (F0 m pc ls rest)) : W p l e R s m args below meth c H locs cells slots Q (F0 m pc ls (.null :: rest)) := by
  obtain ⟨hS, hfc, kC, hkC, -⟩ := hK.1 ci _ hc
  obtain ⟨cf, kf, fi, f, hi, -⟩ := hS k hk
  intro U hU X
  obtain ⟨vm', X1, st1⟩ := X.getfieldNullNest hexec hown hlink (hsame _ hi) (u_facts hfc hkC (u_lays hts hin hk) hi).1 (g := F0 m pc ls (.null :: rest)) rfl (rest := rest) rfl (by rw [hb]; exact hdg)
  obtain ⟨t, st, q⟩ := kk (U.setVm vm') hU X1
  exact ⟨t, st1 t st, q⟩
theorem vx_putfN {D cl tys} {own ref C : String} {T : u_T} {N ci index : Nat} {Ts : List Cond} (hexec : p.tables.exec = Jvm.exec) (hb : c.code = cc) (hts : ∀ w ∈ Ts, w.before args s = true) (hin : ∀ w ∈ u_ws C T N, w ∈ Ts) (hown : s.vm.findClass own = some m.cls) (hK : va_K D cl tys s) (hc : cl[ci]? = some (C, T, N)) (k : Nat) (hk : k < N) (hlink : (Cond.fieldLink own index ref (T k).2.1 (T k).2.2.1).before args s = true) (hsame : ∀ x, s.fieldFound? (T k).1 (T k).2.1 (T k).2.2.1 = some x → s.fieldFound? ref (T k).2.1 (T k).2.2.1 = some x) (hfin : (T k).2.2.2 = false) {v : Value} (hdg : decode cc pc = .ok (.putfield index, 3)) (kk : vx_NoteN p l e R s m args below meth c H locs cells slots Q (F0 m pc ls rest)) : W p l e R s m args below meth c H locs cells slots Q (F0 m pc ls (v :: .null :: rest)) := by
  obtain ⟨hS, hfc, kC, hkC, -⟩ := hK.1 ci _ hc
  obtain ⟨cf, kf, fi, f, hi, -⟩ := hS k hk
  have hlay := hts _ (hin _ (u_in_lay hk))
  unfold u_lay at hlay
  rw [if_neg (by rw [hfin]; decide)] at hlay
  obtain ⟨c9, k9, cf9, kf9, fi9, f9, -, -, hi9, hst9, hnf9, -⟩ := Cond.lays_spec hlay
  cases hi.symm.trans hi9
  intro U hU X
  obtain ⟨vm', X1, st1⟩ := X.putfieldNull hexec hown hlink (hsame _ hi) hst9 hnf9 (g := F0 m pc ls (v :: .null :: rest)) rfl (v := v) (rest := rest) rfl (by rw [hb]; exact hdg)
  obtain ⟨t, st, q⟩ := kk (U.setVm vm') hU X1
  exact ⟨t, st1 t st, q⟩
theorem vx_putfNN {D cl tys} {own ref C host : String} {T : u_T} {N ci index : Nat} {Ts : List Cond} (hexec : p.tables.exec = Jvm.exec) (hb : c.code = cc) (hts : ∀ w ∈ Ts, w.before args s = true) (hin : ∀ w ∈ u_ws C T N, w ∈ Ts) (hown : s.vm.findClass own = some m.cls) (hK : va_K D cl tys s) (hc : cl[ci]? = some (C, T, N)) (k : Nat) (hk : k < N) (hlink : (Cond.fieldLinkNest own index ref (T k).2.1 (T k).2.2.1 host).before args s = true) (hsame : ∀ x, s.fieldFound? (T k).1 (T k).2.1 (T k).2.2.1 = some x → s.fieldFound? ref (T k).2.1 (T k).2.2.1 = some x) (hfin : (T k).2.2.2 = false) {v : Value} (hdg : decode cc pc = .ok (.putfield index, 3)) (kk : vx_NoteN p l e R s m args below meth c H locs cells slots Q (F0 m pc ls rest)) : W p l e R s m args below meth c H locs cells slots Q (F0 m pc ls (v :: .null :: rest)) := by
  obtain ⟨hS, hfc, kC, hkC, -⟩ := hK.1 ci _ hc
  obtain ⟨cf, kf, fi, f, hi, -⟩ := hS k hk
  have hlay := hts _ (hin _ (u_in_lay hk))
  unfold u_lay at hlay
  rw [if_neg (by rw [hfin]; decide)] at hlay
  obtain ⟨c9, k9, cf9, kf9, fi9, f9, -, -, hi9, hst9, hnf9, -⟩ := Cond.lays_spec hlay
  cases hi.symm.trans hi9
  intro U hU X
  obtain ⟨vm', X1, st1⟩ := X.putfieldNullNest hexec hown hlink (hsame _ hi) hst9 hnf9 (g := F0 m pc ls (v :: .null :: rest)) rfl (v := v) (rest := rest) rfl (by rw [hb]; exact hdg)
  obtain ⟨t, st, q⟩ := kk (U.setVm vm') hU X1
  exact ⟨t, st1 t st, q⟩
theorem vx_athrowN (hexec : p.tables.exec = Jvm.exec) (hb : c.code = cc) (hdg : decode cc pc = .ok (.athrow, 1)) (k : vx_NoteN p l e R s m args below meth c H locs cells slots Q (F0 m pc ls rest)) : W p l e R s m args below meth c H locs cells slots Q (F0 m pc ls (.null :: rest)) := by
  intro T hT X
  obtain ⟨t, st, q⟩ := k T hT X
  exact ⟨t, X.athrowNull hexec (g := F0 m pc ls (.null :: rest)) rfl (rest := rest) rfl (by rw [hb]; exact hdg) t st, q⟩
end VXM2
/-! ===== END ===== -/
end
section
/-! ENGINE, part 1: values, rows of values and worlds as numbers that the kernel counts with -/
section QEN
/-- the i-th place of 72 bits -/
def qe_get (d i : Nat) : Nat := Nat.mod (Nat.shiftRight d (Nat.mul 72 i)) 4722366482869645213696
def qe_set (d i v : Nat) : Nat := Nat.xor d (Nat.shiftLeft (Nat.xor (qe_get d i) v) (Nat.mul 72 i))
theorem qe_get_bit (d i k : Nat) : (qe_get d i).testBit k = (decide (k < 72) && d.testBit (72 * i + k)) := by
  show ((d >>> (72 * i)) % 2 ^ 72).testBit k = _
  rw [Nat.testBit_mod_two_pow, Nat.testBit_shiftRight]
theorem qe_get_lt (d i : Nat) : qe_get d i < 4722366482869645213696 := Nat.mod_lt _ (by decide)
theorem qe_small_bit {v k : Nat} (h : v < 4722366482869645213696) (hk : 72 ≤ k) : v.testBit k = false :=
  Nat.testBit_lt_two_pow (Nat.lt_of_lt_of_le (show v < 2 ^ 72 from h) (Nat.pow_le_pow_right (by decide) hk))
theorem qe_get_set (d i v j : Nat) (h : v < 4722366482869645213696) : qe_get (qe_set d i v) j = if j = i then v else qe_get d j := by
  refine Nat.eq_of_testBit_eq fun k => ?_
  rw [qe_get_bit]
  show (decide (k < 72) && (d ^^^ ((qe_get d i ^^^ v) <<< (72 * i))).testBit (72 * j + k)) = _
  rw [Nat.testBit_xor, Nat.testBit_shiftLeft, Nat.testBit_xor, qe_get_bit]
  by_cases hk : k < 72
  · by_cases hj : j = i
    · subst hj
      rw [if_pos rfl, show 72 * j + k - 72 * j = k by omega]
      simp [hk]
    · rw [if_neg hj, qe_get_bit]
      by_cases hlt : 72 * j + k < 72 * i
      · have : ¬ (72 * j + k ≥ 72 * i) := by omega
        simp [this]
      · have h2 : 72 ≤ 72 * j + k - 72 * i := by omega
        have h3 : ¬ (72 * j + k - 72 * i < 72) := by omega
        simp [qe_small_bit h h2, h3]
  · have hk2 : 72 ≤ k := by omega
    by_cases hj : j = i
    · rw [if_pos hj, qe_small_bit h hk2]; simp [hk]
    · rw [if_neg hj, qe_get_bit]; simp [hk]
theorem qe_get_zero (i : Nat) : qe_get 0 i = 0 := by
  show (0 >>> (72 * i)) % 2 ^ 72 = 0
  simp
/-- the cells of a world: a tree of 2 ^ d places; a cell: kind, length, places -/
def qe_T (d : Nat) : Type := Nat.rec (motive := fun _ => Type) (Nat × Nat × Nat) (fun _ t => t × t) d
def qe_b (i d : Nat) : Bool := Nat.beq (Nat.land (Nat.shiftRight i d) 1) 1
noncomputable def qe_rd (d : Nat) : qe_T d → Nat → Nat × Nat × Nat := Nat.rec (motive := fun d => qe_T d → Nat → Nat × Nat × Nat) (fun t _ => t) (fun d ih t i => cond (qe_b i d) (ih (Prod.snd t) i) (ih (Prod.fst t) i)) d
noncomputable def qe_wr (d : Nat) : qe_T d → Nat → Nat × Nat × Nat → qe_T d := Nat.rec (motive := fun d => qe_T d → Nat → Nat × Nat × Nat → qe_T d) (fun _ _ c => c) (fun d ih t i c => cond (qe_b i d) (Prod.fst t, ih (Prod.snd t) i c) (ih (Prod.fst t) i c, Prod.snd t)) d
noncomputable def qe_nil (d : Nat) : qe_T d := Nat.rec (motive := fun d => qe_T d) ((0, 0, 0) : Nat × Nat × Nat) (fun _ t => (t, t)) d
theorem qe_b_eq (i d : Nat) : qe_b i d = i.testBit d := by
  show Nat.beq ((i >>> d) &&& 1) 1 = _
  rw [Nat.testBit, Nat.and_comm]
  rcases Nat.mod_two_eq_zero_or_one (i >>> d) with h | h
  · rw [show (1 &&& i >>> d) = 0 by rw [Nat.and_comm, Nat.and_one_is_mod, h]]; rfl
  · rw [show (1 &&& i >>> d) = 1 by rw [Nat.and_comm, Nat.and_one_is_mod, h]]; rfl
theorem qe_mod_bit (i j d : Nat) : i % 2 ^ (d + 1) = j % 2 ^ (d + 1) ↔ (i.testBit d = j.testBit d ∧ i % 2 ^ d = j % 2 ^ d) := by
  constructor
  · intro h
    have hb : ∀ k, (i % 2 ^ (d + 1)).testBit k = (j % 2 ^ (d + 1)).testBit k := fun k => by rw [h]
    simp only [Nat.testBit_mod_two_pow] at hb
    refine ⟨by simpa using hb d, Nat.eq_of_testBit_eq fun k => ?_⟩
    rw [Nat.testBit_mod_two_pow, Nat.testBit_mod_two_pow]
    by_cases hk : k < d
    · have := hb k
      simp [show k < d + 1 by omega] at this
      simp [hk, this]
    · simp [hk]
  · rintro ⟨h1, h2⟩
    have hb : ∀ k, (i % 2 ^ d).testBit k = (j % 2 ^ d).testBit k := fun k => by rw [h2]
    simp only [Nat.testBit_mod_two_pow] at hb
    refine Nat.eq_of_testBit_eq fun k => ?_
    rw [Nat.testBit_mod_two_pow, Nat.testBit_mod_two_pow]
    by_cases hk : k < d
    · have := hb k
      simp [hk] at this
      simp [this]
    · by_cases hkd : k = d
      · subst hkd; simp [h1]
      · simp [show ¬ k < d + 1 by omega]
theorem qe_rd_wr : ∀ (d : Nat) (t : qe_T d) (i : Nat) (c : Nat × Nat × Nat) (j : Nat), qe_rd d (qe_wr d t i c) j = if j % 2 ^ d = i % 2 ^ d then c else qe_rd d t j
  | 0, t, i, c, j => by
    rw [if_pos (by simp [Nat.mod_one])]
    rfl
  | d + 1, t, i, c, j => by
    show cond (qe_b j d) (qe_rd d (Prod.snd (cond (qe_b i d) (Prod.fst t, qe_wr d (Prod.snd t) i c) (qe_wr d (Prod.fst t) i c, Prod.snd t))) j) (qe_rd d (Prod.fst (cond (qe_b i d) (Prod.fst t, qe_wr d (Prod.snd t) i c) (qe_wr d (Prod.fst t) i c, Prod.snd t))) j) = if _ then c else cond (qe_b j d) (qe_rd d (Prod.snd t) j) (qe_rd d (Prod.fst t) j)
    have e := qe_mod_bit j i d
    rw [← qe_b_eq, ← qe_b_eq] at e
    cases hj : qe_b j d <;> cases hi : qe_b i d <;> simp only [cond_true, cond_false, qe_rd_wr d, e, hi, hj] <;> simp
theorem qe_mod_ne {i j d : Nat} (hi : i < 2 ^ d) (hj : j < 2 ^ d) : (j % 2 ^ d = i % 2 ^ d) ↔ j = i := by
  rw [Nat.mod_eq_of_lt hi, Nat.mod_eq_of_lt hj]
end QEN
end
section
/-! ENGINE, part 2: what a number stands for, and counting with it. v % 4: 0 int, 1 long, 2 reference, 3 null (or no value at all); v / 4 % 2 = 1: a name whose number rho (or ext) tells; v / 8: the number or the name -/
section QEV
def qe_sym (v : Nat) : Bool := Nat.beq (Nat.mod (Nat.div v 4) 2) 1
def qe_int (rho : Nat → Int32) (v : Nat) : Int32 := cond (qe_sym v) (rho (Nat.div v 8)) (Int32.ofNat (Nat.div v 8))
def qe_lng (rho : Nat → Int32) (v : Nat) : Int64 := cond (qe_sym v) (rho (Nat.div v 8)).toInt64 (Int64.ofNat (Nat.div v 8))
def qe_adr (ad ext : Nat → Nat) (v : Nat) : Nat := cond (qe_sym v) (ext (Nat.div v 8)) (ad (Nat.div v 8))
def qe_is (k v : Nat) : Bool := Nat.beq (Nat.mod v 4) k
def qe_val (ad ext : Nat → Nat) (rho : Nat → Int32) (v : Nat) : Value := cond (qe_is 0 v) (.int (qe_int rho v)) (cond (qe_is 1 v) (.long (qe_lng rho v)) (cond (qe_is 2 v) (.ref (qe_adr ad ext v)) .null))
theorem qe_val_int {ad ext : Nat → Nat} {rho : Nat → Int32} {v : Nat} (h : qe_is 0 v = true) : qe_val ad ext rho v = .int (qe_int rho v) := by unfold qe_val; rw [h]; rfl
theorem qe_is_eq {k v : Nat} (h : qe_is k v = true) : v % 4 = k := Nat.eq_of_beq_eq_true h
theorem qe_val_lng {ad ext : Nat → Nat} {rho : Nat → Int32} {v : Nat} (h : qe_is 1 v = true) : qe_val ad ext rho v = .long (qe_lng rho v) := by
  have h0 : qe_is 0 v = false := by
    have := qe_is_eq h
    show Nat.beq (v % 4) 0 = false
    rw [this]; rfl
  unfold qe_val; rw [h0, h]; rfl
theorem qe_val_ref {ad ext : Nat → Nat} {rho : Nat → Int32} {v : Nat} (h : qe_is 2 v = true) : qe_val ad ext rho v = .ref (qe_adr ad ext v) := by
  have e := qe_is_eq h
  have h0 : qe_is 0 v = false := by
    show Nat.beq (v % 4) 0 = false
    rw [e]; rfl
  have h1 : qe_is 1 v = false := by
    show Nat.beq (v % 4) 1 = false
    rw [e]; rfl
  unfold qe_val; rw [h0, h1, h]; rfl
theorem qe_val_null {ad ext : Nat → Nat} {rho : Nat → Int32} : qe_val ad ext rho 3 = .null := rfl
/-- a number as an int, a long, a place of the world -/
def qe_I (n : Nat) : Nat := Nat.mul 8 n
def qe_L (n : Nat) : Nat := Nat.add (Nat.mul 8 n) 1
def qe_R (n : Nat) : Nat := Nat.add (Nat.mul 8 n) 2
theorem qe_I_is (n : Nat) : qe_is 0 (qe_I n) = true := by
  show Nat.beq (8 * n % 4) 0 = true
  rw [show 8 * n % 4 = 0 by omega]; rfl
theorem qe_I_int (rho : Nat → Int32) (n : Nat) : qe_int rho (qe_I n) = Int32.ofNat n := by
  unfold qe_int
  have h : qe_sym (qe_I n) = false := by
    show Nat.beq (8 * n / 4 % 2) 1 = false
    rw [show 8 * n / 4 % 2 = 0 by omega]; rfl
  rw [h]
  show Int32.ofNat (8 * n / 8) = _
  rw [show 8 * n / 8 = n by omega]
theorem qe_L_is (n : Nat) : qe_is 1 (qe_L n) = true := by
  show Nat.beq ((8 * n + 1) % 4) 1 = true
  rw [show (8 * n + 1) % 4 = 1 by omega]; rfl
theorem qe_L_lng (rho : Nat → Int32) (n : Nat) : qe_lng rho (qe_L n) = Int64.ofNat n := by
  unfold qe_lng
  have h : qe_sym (qe_L n) = false := by
    show Nat.beq ((8 * n + 1) / 4 % 2) 1 = false
    rw [show (8 * n + 1) / 4 % 2 = 0 by omega]; rfl
  rw [h]
  show Int64.ofNat ((8 * n + 1) / 8) = _
  rw [show (8 * n + 1) / 8 = n by omega]
theorem qe_R_is (n : Nat) : qe_is 2 (qe_R n) = true := by
  show Nat.beq ((8 * n + 2) % 4) 2 = true
  rw [show (8 * n + 2) % 4 = 2 by omega]; rfl
theorem qe_R_adr (ad ext : Nat → Nat) (n : Nat) : qe_adr ad ext (qe_R n) = ad n := by
  unfold qe_adr
  have h : qe_sym (qe_R n) = false := by
    show Nat.beq ((8 * n + 2) / 4 % 2) 1 = false
    rw [show (8 * n + 2) / 4 % 2 = 0 by omega]; rfl
  rw [h]
  show ad ((8 * n + 2) / 8) = _
  rw [show (8 * n + 2) / 8 = n by omega]
/-! the operations on two ints, by their numbers -/
def qe_sem (k : Nat) (x y : Int32) : Int32 :=
  cond (Nat.beq k 10) (x + y) (cond (Nat.beq k 11) (x - y) (cond (Nat.beq k 12) (x * y) (cond (Nat.beq k 13) (x &&& y) (cond (Nat.beq k 14) (x ||| y) (cond (Nat.beq k 15) (x ^^^ y)
    (cond (Nat.beq k 16) (x <<< (y &&& 31)) (cond (Nat.beq k 17) (x >>> (y &&& 31)) ((x.toUInt32 >>> (y.toUInt32 &&& Int32.toUInt32 31)).toInt32))))))))
def qe_m (a : Nat) : Nat := Nat.mod a 4294967296
def qe_op (k a b : Nat) : Nat :=
  cond (Nat.beq k 10) (qe_m (Nat.add a b)) (cond (Nat.beq k 11) (qe_m (Nat.add a (Nat.sub 4294967296 (qe_m b)))) (cond (Nat.beq k 12) (qe_m (Nat.mul a b)) (cond (Nat.beq k 13) (Nat.land (qe_m a) (qe_m b)) (cond (Nat.beq k 14) (Nat.lor (qe_m a) (qe_m b)) (cond (Nat.beq k 15) (Nat.xor (qe_m a) (qe_m b))
    (cond (Nat.beq k 16) (qe_m (Nat.shiftLeft a (Nat.mod b 32))) (cond (Nat.beq k 17) (cond (Nat.blt (qe_m a) 2147483648) (Nat.shiftRight (qe_m a) (Nat.mod b 32)) (Nat.sub 4294967295 (Nat.shiftRight (Nat.sub 4294967295 (qe_m a)) (Nat.mod b 32)))) (Nat.shiftRight (qe_m a) (Nat.mod b 32)))))))))
theorem qe_bv (a : Nat) : (Int32.ofNat a).toBitVec = BitVec.ofNat 32 a := rfl
theorem qe_ofm (a : Nat) : Int32.ofNat (qe_m a) = Int32.ofNat a := by
  apply Int32.toBitVec_inj.1
  rw [qe_bv, qe_bv]
  apply BitVec.eq_of_toNat_eq
  rw [BitVec.toNat_ofNat, BitVec.toNat_ofNat]
  show a % 2 ^ 32 % 2 ^ 32 = a % 2 ^ 32
  rw [Nat.mod_mod]
theorem qe_m_lt (a : Nat) : qe_m a < 4294967296 := Nat.mod_lt _ (by decide)
theorem qe_sm (n : Nat) (hn : n < 32) : ((Int32.ofNat n &&& 31).toBitVec.smod 32).toNat = n :=
  (by decide +kernel : ∀ n, n < 32 → ((Int32.ofNat n &&& 31).toBitVec.smod 32).toNat = n) n hn
theorem qe_um (n : Nat) (hn : n < 32) : (((Int32.ofNat n).toUInt32 &&& Int32.toUInt32 31).toBitVec % 32).toNat = n :=
  (by decide +kernel : ∀ n, n < 32 → (((Int32.ofNat n).toUInt32 &&& Int32.toUInt32 31).toBitVec % 32).toNat = n) n hn
theorem qe_and (a b : Nat) : Int32.ofNat a &&& Int32.ofNat b = Int32.ofNat (a &&& b) := by
  apply Int32.toBitVec_inj.1
  show BitVec.ofNat 32 a &&& BitVec.ofNat 32 b = BitVec.ofNat 32 (a &&& b)
  apply BitVec.eq_of_getLsbD_eq
  intro i hi
  simp [hi]
theorem qe_or (a b : Nat) : Int32.ofNat a ||| Int32.ofNat b = Int32.ofNat (a ||| b) := by
  apply Int32.toBitVec_inj.1
  show BitVec.ofNat 32 a ||| BitVec.ofNat 32 b = BitVec.ofNat 32 (a ||| b)
  apply BitVec.eq_of_getLsbD_eq
  intro i hi
  simp [hi]
theorem qe_xor (a b : Nat) : Int32.ofNat a ^^^ Int32.ofNat b = Int32.ofNat (a ^^^ b) := by
  apply Int32.toBitVec_inj.1
  show BitVec.ofNat 32 a ^^^ BitVec.ofNat 32 b = BitVec.ofNat 32 (a ^^^ b)
  apply BitVec.eq_of_getLsbD_eq
  intro i hi
  simp [hi]
theorem qe_and31 (b : Nat) : Int32.ofNat b &&& 31 = Int32.ofNat (b % 32) &&& 31 := by
  show Int32.ofNat b &&& Int32.ofNat 31 = Int32.ofNat (b % 32) &&& Int32.ofNat 31
  rw [qe_and, qe_and]
  congr 1
  rw [Nat.and_two_pow_sub_one_eq_mod b 5, Nat.and_two_pow_sub_one_eq_mod (b % 32) 5]
  omega
theorem qe_and31u (b : Nat) : (Int32.ofNat b).toUInt32 &&& Int32.toUInt32 31 = (Int32.ofNat (b % 32)).toUInt32 &&& Int32.toUInt32 31 := by
  have h := congrArg Int32.toUInt32 (qe_and31 b)
  exact h
theorem qe_sub (a b : Nat) : Int32.ofNat a - Int32.ofNat b = Int32.ofNat (a + (4294967296 - b % 4294967296)) := by
  apply Int32.toBitVec_inj.1
  show BitVec.ofNat 32 a - BitVec.ofNat 32 b = BitVec.ofNat 32 _
  apply BitVec.eq_of_toNat_eq
  rw [BitVec.toNat_sub, BitVec.toNat_ofNat, BitVec.toNat_ofNat, BitVec.toNat_ofNat]
  omega
theorem qe_shl (a n : Nat) (hn : n < 32) : Int32.ofNat a <<< (Int32.ofNat n &&& 31) = Int32.ofNat (a <<< n) := by
  apply Int32.toBitVec_inj.1
  rw [Int32.toBitVec_shiftLeft]
  show (BitVec.ofNat 32 a) <<< ((Int32.ofNat n &&& 31).toBitVec.smod 32).toNat = BitVec.ofNat 32 (a <<< n)
  rw [qe_sm n hn]
  apply BitVec.eq_of_toNat_eq
  rw [BitVec.toNat_shiftLeft, BitVec.toNat_ofNat, BitVec.toNat_ofNat, Nat.shiftLeft_eq, Nat.shiftLeft_eq, Nat.mod_mul_mod]
theorem qe_ushr (a n : Nat) (hn : n < 32) : ((Int32.ofNat a).toUInt32 >>> ((Int32.ofNat n).toUInt32 &&& Int32.toUInt32 31)).toInt32 = Int32.ofNat (qe_m a >>> n) := by
  apply Int32.toBitVec_inj.1
  show ((Int32.ofNat a).toUInt32 >>> ((Int32.ofNat n).toUInt32 &&& Int32.toUInt32 31)).toBitVec = BitVec.ofNat 32 (qe_m a >>> n)
  rw [UInt32.toBitVec_shiftRight]
  show (BitVec.ofNat 32 a) >>> (((Int32.ofNat n).toUInt32 &&& Int32.toUInt32 31).toBitVec % 32).toNat = _
  rw [qe_um n hn]
  apply BitVec.eq_of_toNat_eq
  rw [BitVec.toNat_ushiftRight, BitVec.toNat_ofNat, BitVec.toNat_ofNat]
  show (a % 2 ^ 32) >>> n = ((a % 2 ^ 32) >>> n) % 2 ^ 32
  rw [Nat.mod_eq_of_lt (Nat.lt_of_le_of_lt (Nat.shiftRight_le _ _) (Nat.mod_lt _ (by decide)))]
theorem qe_sshr (a n : Nat) (hn : n < 32) : Int32.ofNat a >>> (Int32.ofNat n &&& 31) = Int32.ofNat (cond (Nat.blt (qe_m a) 2147483648) (Nat.shiftRight (qe_m a) n) (Nat.sub 4294967295 (Nat.shiftRight (Nat.sub 4294967295 (qe_m a)) n))) := by
  apply Int32.toBitVec_inj.1
  rw [Int32.toBitVec_shiftRight]
  show (BitVec.ofNat 32 a).sshiftRight ((Int32.ofNat n &&& 31).toBitVec.smod 32).toNat = BitVec.ofNat 32 _
  rw [qe_sm n hn]
  apply BitVec.eq_of_toNat_eq
  rw [BitVec.toNat_sshiftRight, BitVec.msb_eq_decide, BitVec.toNat_ofNat, BitVec.toNat_ofNat]
  show (if decide (2 ^ 31 ≤ a % 2 ^ 32) = true then 2 ^ 32 - 1 - ((2 ^ 32 - 1 - a % 2 ^ 32) >>> n) else (a % 2 ^ 32) >>> n) = _
  have hlt : a % 2 ^ 32 < 2 ^ 32 := Nat.mod_lt _ (by decide)
  by_cases h : a % 2 ^ 32 < 2 ^ 31
  · have h1 : Nat.blt (qe_m a) 2147483648 = true := Nat.ble_eq_true_of_le h
    rw [h1, if_neg (by simp; omega)]
    show _ = ((a % 2 ^ 32) >>> n) % 2 ^ 32
    rw [Nat.mod_eq_of_lt (Nat.lt_of_le_of_lt (Nat.shiftRight_le _ _) hlt)]
  · have h1 : Nat.blt (qe_m a) 2147483648 = false := by
      cases hq : Nat.blt (qe_m a) 2147483648
      · rfl
      · exact absurd (Nat.le_of_ble_eq_true hq) h
    rw [h1, if_pos (by simp; omega)]
    have h3 : 4294967295 - ((4294967295 - a % 2 ^ 32) >>> n) < 2 ^ 32 := Nat.lt_of_le_of_lt (Nat.sub_le _ _) (by decide)
    exact (Nat.mod_eq_of_lt h3).symm
theorem qe_sem_op (k a b : Nat) : qe_sem k (Int32.ofNat a) (Int32.ofNat b) = Int32.ofNat (qe_op k a b) := by
  have hb : b % 32 < 32 := Nat.mod_lt _ (by decide)
  unfold qe_sem qe_op
  cases Nat.beq k 10
  · cases Nat.beq k 11
    · cases Nat.beq k 12
      · cases Nat.beq k 13
        · cases Nat.beq k 14
          · cases Nat.beq k 15
            · cases Nat.beq k 16
              · cases Nat.beq k 17
                · show ((Int32.ofNat a).toUInt32 >>> ((Int32.ofNat b).toUInt32 &&& Int32.toUInt32 31)).toInt32 = Int32.ofNat (qe_m a >>> (b % 32))
                  rw [qe_and31u, qe_ushr a (b % 32) hb]
                · show Int32.ofNat a >>> (Int32.ofNat b &&& 31) = _
                  rw [qe_and31, qe_sshr a (b % 32) hb]
                  rfl
              · show Int32.ofNat a <<< (Int32.ofNat b &&& 31) = Int32.ofNat (qe_m (a <<< (b % 32)))
                rw [qe_ofm, qe_and31, qe_shl a (b % 32) hb]
            · show Int32.ofNat a ^^^ Int32.ofNat b = Int32.ofNat (qe_m a ^^^ qe_m b)
              rw [← qe_xor, qe_ofm, qe_ofm]
          · show Int32.ofNat a ||| Int32.ofNat b = Int32.ofNat (qe_m a ||| qe_m b)
            rw [← qe_or, qe_ofm, qe_ofm]
        · show Int32.ofNat a &&& Int32.ofNat b = Int32.ofNat (qe_m a &&& qe_m b)
          rw [← qe_and, qe_ofm, qe_ofm]
      · show Int32.ofNat a * Int32.ofNat b = Int32.ofNat (qe_m (a * b))
        rw [qe_ofm, Int32.ofNat_mul]
    · show Int32.ofNat a - Int32.ofNat b = Int32.ofNat (qe_m (a + (4294967296 - b % 4294967296)))
      rw [qe_ofm, qe_sub]
  · show Int32.ofNat a + Int32.ofNat b = Int32.ofNat (qe_m (a + b))
    rw [qe_ofm, Int32.ofNat_add]
/-- the names' own rows: operation, its two operands, the name that stands for the answer -/
abbrev qe_Df : Type := List (Nat × Nat × Nat × Nat)
def qe_dok (rho : Nat → Int32) (df : qe_Df) : Prop := ∀ q ∈ df, rho q.2.2.2 = qe_sem q.1 (qe_int rho q.2.1) (qe_int rho q.2.2.1)
def qe_find (k x y : Nat) : qe_Df → Option Nat
  | [] => none
  | q :: l => cond (Nat.beq q.1 k && (Nat.beq q.2.1 x && Nat.beq q.2.2.1 y)) (some (Nat.add (Nat.mul 8 q.2.2.2) 4)) (qe_find k x y l)
theorem qe_find_ok {rho : Nat → Int32} {k x y z : Nat} : ∀ {df : qe_Df}, qe_dok rho df → qe_find k x y df = some z → qe_is 0 z = true ∧ qe_int rho z = qe_sem k (qe_int rho x) (qe_int rho y)
  | [], _, h => by cases h
  | q :: l, hd, h => by
    unfold qe_find at h
    cases hc : (Nat.beq q.1 k && (Nat.beq q.2.1 x && Nat.beq q.2.2.1 y))
    · rw [hc] at h
      exact qe_find_ok (fun r hr => hd r (List.mem_cons_of_mem _ hr)) h
    · rw [hc] at h
      simp only [Bool.and_eq_true] at hc
      obtain ⟨h1, h2, h3⟩ := hc
      have e1 := Nat.eq_of_beq_eq_true h1
      have e2 := Nat.eq_of_beq_eq_true h2
      have e3 := Nat.eq_of_beq_eq_true h3
      have hz : 8 * q.2.2.2 + 4 = z := Option.some.inj h
      have hq := hd q List.mem_cons_self
      rw [e1, e2, e3] at hq
      subst hz
      refine ⟨?_, ?_⟩
      · show Nat.beq ((8 * q.2.2.2 + 4) % 4) 0 = true
        rw [show (8 * q.2.2.2 + 4) % 4 = 0 by omega]; rfl
      · rw [← hq]
        unfold qe_int
        have hs : qe_sym (8 * q.2.2.2 + 4) = true := by
          show Nat.beq ((8 * q.2.2.2 + 4) / 4 % 2) 1 = true
          rw [show (8 * q.2.2.2 + 4) / 4 % 2 = 1 by omega]; rfl
        rw [hs]
        show rho ((8 * q.2.2.2 + 4) / 8) = _
        rw [show (8 * q.2.2.2 + 4) / 8 = q.2.2.2 by omega]
/-- an operation on two values, both ints -/
def qe_bin (df : qe_Df) (k x y : Nat) : Option Nat := cond (qe_is 0 x && qe_is 0 y) (cond (qe_sym x || qe_sym y) (qe_find k x y df) (some (qe_I (qe_op k (Nat.div x 8) (Nat.div y 8))))) none
theorem qe_bin_ok {rho : Nat → Int32} {df : qe_Df} {k x y z : Nat} (hd : qe_dok rho df) (h : qe_bin df k x y = some z) : qe_is 0 x = true ∧ qe_is 0 y = true ∧ qe_is 0 z = true ∧ qe_int rho z = qe_sem k (qe_int rho x) (qe_int rho y) := by
  unfold qe_bin at h
  cases h1 : qe_is 0 x
  · rw [h1] at h; cases h
  · cases h2 : qe_is 0 y
    · rw [h1, h2] at h; cases h
    · rw [h1, h2] at h
      refine ⟨rfl, rfl, ?_⟩
      cases h3 : qe_sym x
      · cases h4 : qe_sym y
        · rw [h3, h4] at h
          have hz : qe_I (qe_op k (Nat.div x 8) (Nat.div y 8)) = z := Option.some.inj h
          subst hz
          refine ⟨qe_I_is _, ?_⟩
          rw [qe_I_int, ← qe_sem_op]
          unfold qe_int
          rw [h3, h4]
          rfl
        · rw [h3, h4] at h
          exact qe_find_ok hd h
      · rw [h3] at h
        exact qe_find_ok hd h
end QEV
end
section
/-! ENGINE, part 3: comparing; what is known of a name's int lies in a list of rows (name, least, greatest), counted from -2147483648 -/
section QEC
abbrev qe_Cx : Type := List (Nat × Nat × Nat)
def qe_so (x : Int32) : Nat := (x.toInt + 2147483648).toNat
theorem qe_so_eq (x : Int32) : (qe_so x : Int) = x.toInt + 2147483648 := by
  have h1 := Int32.le_toInt x
  unfold qe_so
  omega
theorem qe_so_lt (x : Int32) : qe_so x < 4294967296 := by
  have h1 := qe_so_eq x
  have h2 := Int32.toInt_lt x
  omega
theorem qe_so_ilt {x y : Int32} : x < y ↔ qe_so x < qe_so y := by
  have h1 := qe_so_eq x
  have h2 := qe_so_eq y
  rw [Int32.lt_iff_toInt_lt]
  omega
theorem qe_so_inj {x y : Int32} : x = y ↔ qe_so x = qe_so y := by
  have h1 := qe_so_eq x
  have h2 := qe_so_eq y
  rw [← Int32.toInt_inj]
  omega
def qe_of (a : Nat) : Nat := Nat.mod (Nat.add a 2147483648) 4294967296
theorem qe_so_of (a : Nat) : qe_so (Int32.ofNat a) = qe_of a := by
  have h1 := qe_so_eq (Int32.ofNat a)
  have h2 : (Int32.ofNat a).toInt = if 2 * (a % 4294967296) < 4294967296 then ((a % 4294967296 : Nat) : Int) else ((a % 4294967296 : Nat) : Int) - 4294967296 := by
    show (BitVec.ofNat 32 a).toInt = _
    rw [BitVec.toInt_eq_toNat_cond, BitVec.toNat_ofNat]
    rfl
  show qe_so (Int32.ofNat a) = (a + 2147483648) % 4294967296
  rw [h2] at h1
  split at h1 <;> omega
/-- what is known of a name -/
def qe_rng (i : Nat) : qe_Cx → Nat × Nat
  | [] => (0, 4294967295)
  | q :: l => cond (Nat.beq q.1 i) q.2 (qe_rng i l)
def qe_cok (rho : Nat → Int32) (cx : qe_Cx) : Prop := ∀ i, (qe_rng i cx).1 ≤ qe_so (rho i) ∧ qe_so (rho i) ≤ (qe_rng i cx).2
theorem qe_cok_nil (rho : Nat → Int32) : qe_cok rho [] := fun i => ⟨Nat.zero_le _, by have := qe_so_lt (rho i); show qe_so (rho i) ≤ 4294967295; omega⟩
theorem qe_cok_cons {rho : Nat → Int32} {cx : qe_Cx} {i lo hi : Nat} (h : qe_cok rho cx) (h1 : lo ≤ qe_so (rho i)) (h2 : qe_so (rho i) ≤ hi) : qe_cok rho ((i, lo, hi) :: cx) := by
  intro j
  unfold qe_rng
  cases hb : Nat.beq i j
  · exact h j
  · have e := Nat.eq_of_beq_eq_true hb
    subst e
    exact ⟨h1, h2⟩
def qe_c3 (a b : Nat) : Nat := cond (Nat.blt a b) 0 (cond (Nat.beq a b) 1 2)
theorem qe_c3_lt {a b : Nat} (h : a < b) : qe_c3 a b = 0 := by
  unfold qe_c3
  rw [show Nat.blt a b = true from Nat.ble_eq_true_of_le h]; rfl
theorem qe_c3_eq {a b : Nat} (h : a = b) : qe_c3 a b = 1 := by
  subst h
  unfold qe_c3
  have h1 : Nat.blt a a = false := by
    cases hq : Nat.blt a a
    · rfl
    · exact absurd (Nat.le_of_ble_eq_true hq) (Nat.lt_irrefl a)
  rw [h1, show Nat.beq a a = true from Nat.beq_refl a]; rfl
theorem qe_c3_gt {a b : Nat} (h : b < a) : qe_c3 a b = 2 := by
  unfold qe_c3
  have h1 : Nat.blt a b = false := by
    cases hq : Nat.blt a b
    · rfl
    · have := Nat.le_of_ble_eq_true hq; omega
  have h2 : Nat.beq a b = false := by
    cases hq : Nat.beq a b
    · rfl
    · have := Nat.eq_of_beq_eq_true hq; omega
  rw [h1, h2]; rfl
/-- a name i, known to lie between lo and hi, against c: which of less 0, equal 1, greater 2 may come, and what is known then -/
def qe_fork (cx : qe_Cx) (i lo hi c : Nat) (l e g : Nat) : List (qe_Cx × Nat) :=
  cond (Nat.blt lo c) [((i, lo, cond (Nat.blt hi c) hi (Nat.sub c 1)) :: cx, l)] [] ++ (cond (Nat.ble lo c && Nat.ble c hi) [((i, c, c) :: cx, e)] [] ++ cond (Nat.blt c hi) [((i, cond (Nat.blt c lo) lo (Nat.add c 1), hi) :: cx, g)] [])
theorem qe_fork_ok {rho : Nat → Int32} {cx : qe_Cx} {i c : Nat} (l e g : Nat) (h : qe_cok rho cx) : ∃ q ∈ qe_fork cx i (qe_rng i cx).1 (qe_rng i cx).2 c l e g, qe_cok rho q.1 ∧ q.2 = (if qe_so (rho i) < c then l else if qe_so (rho i) = c then e else g) := by
  obtain ⟨h1, h2⟩ := h i
  unfold qe_fork
  rcases Nat.lt_trichotomy (qe_so (rho i)) c with hc | hc | hc
  · have a1 : Nat.blt (qe_rng i cx).1 c = true := Nat.ble_eq_true_of_le (show (qe_rng i cx).1 + 1 ≤ c by omega)
    rw [a1]
    refine ⟨_, List.mem_append_left _ List.mem_cons_self, qe_cok_cons h h1 ?_, by rw [if_pos hc]⟩
    cases hq : Nat.blt (qe_rng i cx).2 c
    · show qe_so (rho i) ≤ c - 1; omega
    · exact h2
  · have a1 : (Nat.ble (qe_rng i cx).1 c && Nat.ble c (qe_rng i cx).2) = true := by
      rw [Bool.and_eq_true]
      exact ⟨Nat.ble_eq_true_of_le (by omega), Nat.ble_eq_true_of_le (by omega)⟩
    rw [a1]
    refine ⟨_, List.mem_append_right _ (List.mem_append_left _ List.mem_cons_self), qe_cok_cons h (by omega) (by omega), by rw [if_neg (by omega), if_pos hc]⟩
  · have a1 : Nat.blt c (qe_rng i cx).2 = true := Nat.ble_eq_true_of_le (show c + 1 ≤ (qe_rng i cx).2 by omega)
    rw [a1]
    refine ⟨_, List.mem_append_right _ (List.mem_append_right _ List.mem_cons_self), qe_cok_cons h ?_ h2, by rw [if_neg (by omega), if_neg (by omega)]⟩
    cases hq : Nat.blt c (qe_rng i cx).1
    · show c + 1 ≤ qe_so (rho i); omega
    · exact h1
/-- two ints: sx, px: is the first one a name, its name or its counted number -/
def qe_cmp (cx : qe_Cx) (x y : Nat) (fo : Nat → Option Nat) : Option (List (qe_Cx × Nat)) :=
  cond (qe_sym x) (cond (qe_sym y) (cond (Nat.beq x y) (some [(cx, 1)]) none) (Option.bind (fo (Nat.div y 8)) fun c => some (qe_fork cx (Nat.div x 8) (qe_rng (Nat.div x 8) cx).1 (qe_rng (Nat.div x 8) cx).2 c 0 1 2)))
    (cond (qe_sym y) (Option.bind (fo (Nat.div x 8)) fun c => some (qe_fork cx (Nat.div y 8) (qe_rng (Nat.div y 8) cx).1 (qe_rng (Nat.div y 8) cx).2 c 2 1 0)) (Option.bind (fo (Nat.div x 8)) fun a => Option.bind (fo (Nat.div y 8)) fun b => some [(cx, qe_c3 a b)]))
theorem qe_cmp_ok {rho : Nat → Int32} {cx : qe_Cx} {x y : Nat} {fo : Nat → Option Nat} {val : Nat → Nat} {L : List (qe_Cx × Nat)} (hs : ∀ v, qe_sym v = true → val v = qe_so (rho (v / 8))) (hf : ∀ v c, qe_sym v = false → fo (v / 8) = some c → val v = c) (hv : x = y → val x = val y)
    (hc : qe_cok rho cx) (h : qe_cmp cx x y fo = some L) : ∃ q ∈ L, qe_cok rho q.1 ∧ q.2 = qe_c3 (val x) (val y) := by
  unfold qe_cmp at h
  cases hx : qe_sym x
  · rw [hx] at h
    cases hy : qe_sym y
    · rw [hy] at h
      simp only [cond_false] at h
      cases h1 : fo (Nat.div x 8) with
      | none => rw [h1] at h; cases h
      | some a =>
        rw [h1] at h
        cases h2 : fo (Nat.div y 8) with
        | none => rw [h2] at h; cases h
        | some b =>
          rw [h2] at h
          cases h
          exact ⟨_, List.mem_cons_self, hc, by rw [hf x a hx h1, hf y b hy h2]⟩
    · rw [hy] at h
      simp only [cond_false, cond_true] at h
      cases h1 : fo (Nat.div x 8) with
      | none => rw [h1] at h; cases h
      | some a =>
        rw [h1] at h
        cases h
        obtain ⟨q, q1, q2, q3⟩ := qe_fork_ok (i := y / 8) (c := a) 2 1 0 hc
        refine ⟨q, q1, q2, ?_⟩
        rw [q3, hf x a hx h1, hs y hy]
        by_cases z1 : qe_so (rho (y / 8)) < a
        · rw [if_pos z1, qe_c3_gt z1]
        · by_cases z2 : qe_so (rho (y / 8)) = a
          · rw [if_neg z1, if_pos z2, qe_c3_eq z2.symm]
          · rw [if_neg z1, if_neg z2, qe_c3_lt (by omega)]
  · rw [hx] at h
    cases hy : qe_sym y
    · rw [hy] at h
      simp only [cond_false, cond_true] at h
      cases h1 : fo (Nat.div y 8) with
      | none => rw [h1] at h; cases h
      | some a =>
        rw [h1] at h
        cases h
        obtain ⟨q, q1, q2, q3⟩ := qe_fork_ok (i := x / 8) (c := a) 0 1 2 hc
        refine ⟨q, q1, q2, ?_⟩
        rw [q3, hf y a hy h1, hs x hx]
        by_cases z1 : qe_so (rho (x / 8)) < a
        · rw [if_pos z1, qe_c3_lt z1]
        · by_cases z2 : qe_so (rho (x / 8)) = a
          · rw [if_neg z1, if_pos z2, qe_c3_eq z2]
          · rw [if_neg z1, if_neg z2, qe_c3_gt (by omega)]
    · rw [hy] at h
      simp only [cond_true] at h
      cases hb : Nat.beq x y
      · rw [hb] at h; cases h
      · rw [hb] at h
        cases h
        have e := Nat.eq_of_beq_eq_true hb
        exact ⟨_, List.mem_cons_self, hc, (qe_c3_eq (hv e)).symm⟩
/-- ints -/
def qe_foI (a : Nat) : Option Nat := some (qe_of a)
theorem qe_cmpI_ok {rho : Nat → Int32} {cx : qe_Cx} {x y : Nat} {L : List (qe_Cx × Nat)} (hc : qe_cok rho cx) (h : qe_cmp cx x y qe_foI = some L) : ∃ q ∈ L, qe_cok rho q.1 ∧ q.2 = qe_c3 (qe_so (qe_int rho x)) (qe_so (qe_int rho y)) := by
  refine qe_cmp_ok (val := fun v => qe_so (qe_int rho v)) (fun v hv => ?_) (fun v c hv hcv => ?_) (fun e => by rw [e]) hc h
  · show qe_so (qe_int rho v) = _
    unfold qe_int
    rw [hv]; rfl
  · show qe_so (qe_int rho v) = _
    unfold qe_int
    rw [hv]
    show qe_so (Int32.ofNat (v / 8)) = c
    rw [qe_so_of]
    exact Option.some.inj hcv
/-- longs: counted as the ints that they are, where they are -/
def qe_lo (x : Int64) : Nat := (x.toInt + 9223372036854775808).toNat
theorem qe_lo_eq (x : Int64) : (qe_lo x : Int) = x.toInt + 9223372036854775808 := by
  have h1 := Int64.le_toInt x
  unfold qe_lo
  omega
def qe_ofL (a : Nat) : Nat := Nat.mod (Nat.add a 9223372036854775808) 18446744073709551616
theorem qe_lo_of (a : Nat) : qe_lo (Int64.ofNat a) = qe_ofL a := by
  have h1 := qe_lo_eq (Int64.ofNat a)
  have h2 : (Int64.ofNat a).toInt = if 2 * (a % 18446744073709551616) < 18446744073709551616 then ((a % 18446744073709551616 : Nat) : Int) else ((a % 18446744073709551616 : Nat) : Int) - 18446744073709551616 := by
    show (BitVec.ofNat 64 a).toInt = _
    rw [BitVec.toInt_eq_toNat_cond, BitVec.toNat_ofNat]
    rfl
  show qe_lo (Int64.ofNat a) = (a + 9223372036854775808) % 18446744073709551616
  rw [h2] at h1
  split at h1 <;> omega
theorem qe_lo_int (x : Int32) : qe_lo x.toInt64 = qe_so x + 9223372034707292160 := by
  have h1 := qe_lo_eq x.toInt64
  have h2 := qe_so_eq x
  rw [Int32.toInt_toInt64] at h1
  omega
def qe_foL (a : Nat) : Option Nat := cond (Nat.ble 9223372034707292160 (qe_ofL a)) (some (Nat.sub (qe_ofL a) 9223372034707292160)) none
theorem qe_cmpL_ok {rho : Nat → Int32} {cx : qe_Cx} {x y : Nat} {L : List (qe_Cx × Nat)} (hc : qe_cok rho cx) (h : qe_cmp cx x y qe_foL = some L) : ∃ q ∈ L, qe_cok rho q.1 ∧ q.2 = qe_c3 (qe_lo (qe_lng rho x) - 9223372034707292160) (qe_lo (qe_lng rho y) - 9223372034707292160) := by
  refine qe_cmp_ok (val := fun v => qe_lo (qe_lng rho v) - 9223372034707292160) (fun v hv => ?_) (fun v c hv hcv => ?_) (fun e => by rw [e]) hc h
  · show qe_lo (qe_lng rho v) - _ = _
    unfold qe_lng
    rw [hv]
    show qe_lo (rho (v / 8)).toInt64 - _ = _
    rw [qe_lo_int]
    omega
  · show qe_lo (qe_lng rho v) - _ = _
    unfold qe_lng
    rw [hv]
    show qe_lo (Int64.ofNat (v / 8)) - _ = c
    rw [qe_lo_of]
    unfold qe_foL at hcv
    cases hb : Nat.ble 9223372034707292160 (qe_ofL (v / 8))
    · rw [hb] at hcv; cases hcv
    · rw [hb] at hcv; exact Option.some.inj hcv
/-- where two longs could be compared, both are ints -/
theorem qe_foL_ge {rho : Nat → Int32} {v c : Nat} (hv : qe_sym v = false) (hcv : qe_foL (v / 8) = some c) : 9223372034707292160 ≤ qe_lo (qe_lng rho v) := by
  unfold qe_lng
  rw [hv]
  show _ ≤ qe_lo (Int64.ofNat (v / 8))
  rw [qe_lo_of]
  unfold qe_foL at hcv
  cases hb : Nat.ble 9223372034707292160 (qe_ofL (v / 8))
  · rw [hb] at hcv; cases hcv
  · exact Nat.le_of_ble_eq_true hb
theorem qe_symL_ge {rho : Nat → Int32} {v : Nat} (hv : qe_sym v = true) : 9223372034707292160 ≤ qe_lo (qe_lng rho v) := by
  unfold qe_lng
  rw [hv]
  show _ ≤ qe_lo (rho (v / 8)).toInt64
  rw [qe_lo_int]
  omega
theorem qe_cmp_fo {cx : qe_Cx} {x y : Nat} {fo : Nat → Option Nat} {L : List (qe_Cx × Nat)} (h : qe_cmp cx x y fo = some L) : (qe_sym x = true ∨ ∃ c, fo (x / 8) = some c) ∧ (qe_sym y = true ∨ ∃ c, fo (y / 8) = some c) := by
  unfold qe_cmp at h
  cases hx : qe_sym x
  · rw [hx] at h
    cases hy : qe_sym y
    · rw [hy] at h
      simp only [cond_false] at h
      cases h1 : fo (Nat.div x 8) with
      | none => rw [h1] at h; cases h
      | some a =>
        rw [h1] at h
        cases h2 : fo (Nat.div y 8) with
        | none => rw [h2] at h; cases h
        | some b => exact ⟨Or.inr ⟨a, rfl⟩, Or.inr ⟨b, rfl⟩⟩
    · rw [hy] at h
      simp only [cond_false, cond_true] at h
      cases h1 : fo (Nat.div x 8) with
      | none => rw [h1] at h; cases h
      | some a => exact ⟨Or.inr ⟨a, rfl⟩, Or.inl rfl⟩
  · cases hy : qe_sym y
    · rw [hx, hy] at h
      simp only [cond_false, cond_true] at h
      cases h1 : fo (Nat.div y 8) with
      | none => rw [h1] at h; cases h
      | some a => exact ⟨Or.inl rfl, Or.inr ⟨a, rfl⟩⟩
    · exact ⟨Or.inl rfl, Or.inl rfl⟩
theorem qe_cmpL_ge {rho : Nat → Int32} {cx : qe_Cx} {x y : Nat} {L : List (qe_Cx × Nat)} (h : qe_cmp cx x y qe_foL = some L) : 9223372034707292160 ≤ qe_lo (qe_lng rho x) ∧ 9223372034707292160 ≤ qe_lo (qe_lng rho y) := by
  obtain ⟨h1, h2⟩ := qe_cmp_fo h
  refine ⟨?_, ?_⟩
  · cases hx : qe_sym x
    · rcases h1 with h1 | ⟨c, h1⟩
      · rw [hx] at h1; cases h1
      · exact qe_foL_ge hx h1
    · exact qe_symL_ge hx
  · cases hx : qe_sym y
    · rcases h2 with h1 | ⟨c, h1⟩
      · rw [hx] at h1; cases h1
      · exact qe_foL_ge hx h1
    · exact qe_symL_ge hx
def qe_cmpr (r : Nat) : Nat := cond (Nat.beq r 0) 34359738360 (cond (Nat.beq r 1) 0 8)
theorem qe_lcmp {rho : Nat → Int32} {cx : qe_Cx} {x y : Nat} {L : List (qe_Cx × Nat)} (hc : qe_cok rho cx) (h : qe_cmp cx x y qe_foL = some L) : ∃ q ∈ L, qe_cok rho q.1 ∧ lg_cmp (qe_lng rho x) (qe_lng rho y) = qe_int rho (qe_cmpr q.2) ∧ qe_is 0 (qe_cmpr q.2) = true := by
  obtain ⟨q, h1, h2, h3⟩ := qe_cmpL_ok hc h
  obtain ⟨g1, g2⟩ := qe_cmpL_ge (rho := rho) h
  have e1 := qe_lo_eq (qe_lng rho x)
  have e2 := qe_lo_eq (qe_lng rho y)
  refine ⟨q, h1, h2, ?_⟩
  rw [h3]
  unfold lg_cmp
  by_cases c1 : qe_lng rho x > qe_lng rho y
  · rw [if_pos c1]
    have c2 := Int64.lt_iff_toInt_lt.mp c1
    rw [qe_c3_gt (by omega)]
    exact ⟨rfl, rfl⟩
  · rw [if_neg c1]
    by_cases c2 : qe_lng rho x = qe_lng rho y
    · rw [if_pos c2, c2, qe_c3_eq rfl]
      exact ⟨rfl, rfl⟩
    · rw [if_neg c2]
      have c3 : ¬ (qe_lng rho y).toInt < (qe_lng rho x).toInt := fun q => c1 (Int64.lt_iff_toInt_lt.mpr q)
      have c4 : ¬ (qe_lng rho x).toInt = (qe_lng rho y).toInt := fun q => c2 (Int64.toInt_inj.mp q)
      rw [qe_c3_lt (by omega)]
      exact ⟨(by decide : (-1 : Int32) = Int32.ofNat 4294967295), rfl⟩
end QEC
end
section
/-! ENGINE, part 4: worlds and locals, and what they stand for -/
section QEW
/-- the class ids and slots, the three array classes, the constants' addresses, the names' ints -/
abbrev qe_E : Type := va_G × (ClassId × ClassId × ClassId) × (Nat → Nat) × (Nat → Int32)
def qe_tys (E : qe_E) : List (ClassId × FieldType) := [(E.2.1.1, .int), (E.2.1.2.1, .boolean), (E.2.1.2.2, .long)]
def qe_v (E : qe_E) (ad : Nat → Nat) (v : Nat) : Value := qe_val ad E.2.2.1 E.2.2.2 v
abbrev qe_C : Type := Nat × Nat × Nat
/-- a cell: kind below 100: an object of that class; 100 int[], 101 boolean[], 102 long[]; above: nothing is known of it -/
def qe_ent (E : qe_E) (ad : Nat → Nat) (c : qe_C) : va_E :=
  cond (Nat.blt c.1 100) (.inr (c.1, (List.range c.2.1).map (fun k => qe_v E ad (qe_get c.2.2 k))))
    (cond (Nat.beq c.1 102) (.inl (E.2.1.2.2, c.2.1, .inr (.inl (fun j => qe_lng E.2.2.2 (qe_get c.2.2 j)))))
      (.inl (cond (Nat.beq c.1 100) E.2.1.1 E.2.1.2.1, c.2.1, .inl (fun j => qe_int E.2.2.2 (qe_get c.2.2 j)))))
noncomputable def qe_ws (dp : Nat) (E : qe_E) (ad : Nat → Nat) (n : Nat) (t : qe_T dp) : va_W := (List.range n).map (fun k => (ad k, qe_ent E ad (qe_rd dp t k)))
/-- a value whose reference, if it is one, is of the world of n cells -/
def qe_rb (n v : Nat) : Prop := qe_is 2 v = true → qe_sym v = false → v / 8 < n
def qe_wi (dp n : Nat) (t : qe_T dp) : Prop := n ≤ 2 ^ dp ∧ ∀ k, k < n → ∀ j, qe_rb n (qe_get (qe_rd dp t k).2.2 j)
theorem qe_rb_int {n v : Nat} (h : qe_is 0 v = true) : qe_rb n v := fun h2 => by
  have a := qe_is_eq h
  have b := qe_is_eq h2
  omega
theorem qe_rb_lng {n v : Nat} (h : qe_is 1 v = true) : qe_rb n v := fun h2 => by
  have a := qe_is_eq h
  have b := qe_is_eq h2
  omega
theorem qe_rb_7 {n : Nat} : qe_rb n 7 := fun h2 => by
  have b := qe_is_eq h2
  omega
theorem qe_rb_3 {n : Nat} : qe_rb n 3 := fun h2 => by
  have b := qe_is_eq h2
  omega
theorem qe_rb_up {n n' v : Nat} (h : qe_rb n v) (hn : n ≤ n') : qe_rb n' v := fun a b => Nat.lt_of_lt_of_le (h a b) hn
theorem qe_rb_R {n k : Nat} (h : k < n) : qe_rb n (qe_R k) := fun _ _ => by
  show (8 * k + 2) / 8 < n
  omega
theorem qe_ws_get {dp : Nat} {E : qe_E} {ad : Nat → Nat} {n : Nat} {t : qe_T dp} {k : Nat} (h : k < n) : (qe_ws dp E ad n t)[k]? = some (ad k, qe_ent E ad (qe_rd dp t k)) := by
  unfold qe_ws
  rw [List.getElem?_map, List.getElem?_range h]
  rfl
theorem qe_ws_len {dp : Nat} {E : qe_E} {ad : Nat → Nat} {n : Nat} {t : qe_T dp} : (qe_ws dp E ad n t).length = n := by
  unfold qe_ws
  rw [List.length_map, List.length_range]
theorem qe_ws_set {dp : Nat} {E : qe_E} {ad : Nat → Nat} {n : Nat} {t : qe_T dp} {k : Nat} {c : qe_C} (h : k < n) (hn : n ≤ 2 ^ dp) : (qe_ws dp E ad n t).set k (ad k, qe_ent E ad c) = qe_ws dp E ad n (qe_wr dp t k c) := by
  refine List.ext_getElem? fun j => ?_
  by_cases hj : j < n
  · rw [qe_ws_get hj, qe_rd_wr, ]
    by_cases hjk : j = k
    · subst hjk
      rw [if_pos rfl, List.getElem?_set_self (by rw [qe_ws_len]; exact hj)]
    · rw [if_neg (fun q => hjk ((qe_mod_ne (Nat.lt_of_lt_of_le h hn) (Nat.lt_of_lt_of_le hj hn)).mp q)), List.getElem?_set_ne (Ne.symm hjk), qe_ws_get hj]
  · rw [List.getElem?_eq_none (by rw [List.length_set, qe_ws_len]; omega), List.getElem?_eq_none (by rw [qe_ws_len]; omega)]
/-- values and cells that know only the first n addresses -/
theorem qe_v_ext {E : qe_E} {ad ad' : Nat → Nat} {n v : Nat} (h : qe_rb n v) (ha : ∀ k, k < n → ad' k = ad k) : qe_v E ad' v = qe_v E ad v := by
  unfold qe_v qe_val
  cases h0 : qe_is 0 v
  · cases h1 : qe_is 1 v
    · cases h2 : qe_is 2 v
      · rfl
      · show Value.ref (qe_adr ad' E.2.2.1 v) = .ref (qe_adr ad E.2.2.1 v)
        unfold qe_adr
        cases h3 : qe_sym v
        · show Value.ref (ad' (v / 8)) = .ref (ad (v / 8))
          rw [ha _ (h h2 h3)]
        · rfl
    · rfl
  · rfl
theorem qe_ent_ext {E : qe_E} {ad ad' : Nat → Nat} {n : Nat} {c : qe_C} (h : ∀ j, qe_rb n (qe_get c.2.2 j)) (ha : ∀ k, k < n → ad' k = ad k) : qe_ent E ad' c = qe_ent E ad c := by
  unfold qe_ent
  rw [show (fun k => qe_v E ad' (qe_get c.2.2 k)) = (fun k => qe_v E ad (qe_get c.2.2 k)) from funext fun k => qe_v_ext (h k) ha]
theorem qe_ws_push {dp : Nat} {E : qe_E} {ad : Nat → Nat} {n q : Nat} {t : qe_T dp} {c : qe_C} (hi : qe_wi dp n t) (hn : n < 2 ^ dp) (hc : ∀ j, qe_rb n (qe_get c.2.2 j)) : qe_ws dp E ad n t ++ [(q, qe_ent E ad c)] = qe_ws dp E (va_up ad n q) (n + 1) (qe_wr dp t n c) := by
  have hx : ∀ k, k < n → va_up ad n q k = ad k := fun k hk => by unfold va_up; rw [if_neg (by omega)]
  refine List.ext_getElem? fun j => ?_
  by_cases hj : j < n
  · rw [List.getElem?_append_left (by rw [qe_ws_len]; exact hj), qe_ws_get hj, qe_ws_get (show j < n + 1 by omega), qe_rd_wr, if_neg (fun z => by
      have := (qe_mod_ne hn (Nat.lt_of_lt_of_le hj hi.1)).mp z
      omega), hx j hj, qe_ent_ext (hi.2 j hj) hx]
  · by_cases hjn : j = n
    · subst hjn
      rw [List.getElem?_append_right (by rw [qe_ws_len]; omega), qe_ws_len, Nat.sub_self, qe_ws_get (show j < j + 1 by omega), qe_rd_wr, if_pos rfl, qe_ent_ext hc hx]
      unfold va_up
      rw [if_pos rfl]
      rfl
    · rw [List.getElem?_eq_none (by rw [List.length_append, qe_ws_len]; show n + 1 ≤ j; omega), List.getElem?_eq_none (by rw [qe_ws_len]; omega)]
theorem qe_wi_set {dp n k i v : Nat} {t : qe_T dp} (h : qe_wi dp n t) (hk : k < n) (hv : qe_rb n v) (hv2 : v < 4722366482869645213696) : qe_wi dp n (qe_wr dp t k ((qe_rd dp t k).1, (qe_rd dp t k).2.1, qe_set (qe_rd dp t k).2.2 i v)) := by
  refine ⟨h.1, fun a ha j => ?_⟩
  rw [qe_rd_wr]
  by_cases hak : a = k
  · subst hak
    rw [if_pos rfl]
    show qe_rb n (qe_get (qe_set (qe_rd dp t a).2.2 i v) j)
    rw [qe_get_set _ _ _ _ hv2]
    by_cases hj : j = i
    · rw [if_pos hj]; exact hv
    · rw [if_neg hj]; exact h.2 a ha j
  · rw [if_neg (fun q => hak ((qe_mod_ne (Nat.lt_of_lt_of_le hk h.1) (Nat.lt_of_lt_of_le ha h.1)).mp q))]
    exact h.2 a ha j
theorem qe_wi_push {dp n : Nat} {t : qe_T dp} {c : qe_C} (h : qe_wi dp n t) (hn : n < 2 ^ dp) (hc : ∀ j, qe_rb n (qe_get c.2.2 j)) : qe_wi dp (n + 1) (qe_wr dp t n c) := by
  refine ⟨hn, fun a ha j => ?_⟩
  rw [qe_rd_wr]
  by_cases hak : a = n
  · subst hak
    rw [if_pos rfl]
    exact qe_rb_up (hc j) (by omega)
  · have ha2 : a < n := by omega
    rw [if_neg (fun q => hak ((qe_mod_ne hn (Nat.lt_of_lt_of_le ha2 h.1)).mp q))]
    exact qe_rb_up (h.2 a ha2 j) (by omega)
/-- an object's fields -/
theorem qe_ent_obj {E : qe_E} {ad : Nat → Nat} {c : qe_C} (h : Nat.blt c.1 100 = true) : qe_ent E ad c = .inr (c.1, (List.range c.2.1).map (fun k => qe_v E ad (qe_get c.2.2 k))) := by
  unfold qe_ent; rw [h]; rfl
theorem qe_fs_get {E : qe_E} {ad : Nat → Nat} {N d k : Nat} (h : k < N) : ((List.range N).map (fun k => qe_v E ad (qe_get d k)))[k]? = some (qe_v E ad (qe_get d k)) := by
  rw [List.getElem?_map, List.getElem?_range h]
  rfl
theorem qe_fs_set {E : qe_E} {ad : Nat → Nat} {N d k v : Nat} (hv : v < 4722366482869645213696) : ((List.range N).map (fun k => qe_v E ad (qe_get d k))).set k (qe_v E ad v) = (List.range N).map (fun j => qe_v E ad (qe_get (qe_set d k v) j)) := by
  refine List.ext_getElem? fun j => ?_
  by_cases hj : j < N
  · rw [qe_fs_get (d := qe_set d k v) hj, qe_get_set _ _ _ _ hv]
    by_cases hjk : j = k
    · subst hjk
      rw [if_pos rfl, List.getElem?_set_self (by rw [List.length_map, List.length_range]; exact hj)]
    · rw [if_neg hjk, List.getElem?_set_ne (Ne.symm hjk), qe_fs_get hj]
  · rw [List.getElem?_eq_none (by rw [List.length_set, List.length_map, List.length_range]; omega), List.getElem?_eq_none (by rw [List.length_map, List.length_range]; omega)]
theorem qe_up_int {rho : Nat → Int32} {d i v : Nat} (hv : v < 4722366482869645213696) : upd (fun j => qe_int rho (qe_get d j)) i (qe_int rho v) = fun j => qe_int rho (qe_get (qe_set d i v) j) := by
  funext j
  unfold upd
  rw [qe_get_set _ _ _ _ hv]
  by_cases hj : j = i
  · rw [if_pos hj, if_pos hj]
  · rw [if_neg hj, if_neg hj]
/-- locals: a row of places, 7 where nothing is known -/
def qe_lh (E : qe_E) (ad : Nat → Nat) (la : Array Slot) (nL ls : Nat) : Prop := la.size = nL ∧ lv_wf la ∧ ∀ i, i < nL → qe_get ls i ≠ 7 → la[i]? = some (.val (qe_v E ad (qe_get ls i)))
theorem qe_lh_at {E : qe_E} {ad : Nat → Nat} {la : Array Slot} {nL ls i : Nat} (h : qe_lh E ad la nL ls) (hi : i < nL) (h7 : qe_get ls i ≠ 7) : la[i]? = some (.val (qe_v E ad (qe_get ls i))) := h.2.2 i hi h7
def qe_ll (E : qe_E) (ad : Nat → Nat) (nL ls : Nat) : List (Nat × Value) := (List.range nL).filterMap (fun i => if qe_get ls i = 7 then none else some (i, qe_v E ad (qe_get ls i)))
theorem qe_ll_mem {E : qe_E} {ad : Nat → Nat} {nL ls i : Nat} (hi : i < nL) (h7 : qe_get ls i ≠ 7) : (i, qe_v E ad (qe_get ls i)) ∈ qe_ll E ad nL ls :=
  List.mem_filterMap.mpr ⟨i, List.mem_range.mpr hi, by rw [if_neg h7]⟩
theorem qe_lh_has {E : qe_E} {ad : Nat → Nat} {la : Array Slot} {nL ls : Nat} (h : qe_lh E ad la nL ls) : lv_has la nL (qe_ll E ad nL ls) := by
  refine ⟨h.1, h.2.1, fun q hq => ?_⟩
  obtain ⟨i, h1, h2⟩ := List.mem_filterMap.mp hq
  by_cases h7 : qe_get ls i = 7
  · rw [if_pos h7] at h2; cases h2
  · rw [if_neg h7] at h2
    cases h2
    exact h.2.2 i (List.mem_range.mp h1) h7
theorem qe_cat {E : qe_E} {ad : Nat → Nat} {v : Nat} (h : qe_is 1 v = false) : (qe_v E ad v).category ≠ 2 := by
  unfold qe_v qe_val
  rw [h]
  cases qe_is 0 v
  · cases qe_is 2 v <;> simp [Value.category]
  · simp [Value.category]
/-- a value of one place is stored -/
theorem qe_lh_st1 {E : qe_E} {ad : Nat → Nat} {la la' : Array Slot} {nL ls i v : Nat} (hv : v < 4722366482869645213696) (hp : i = 0 ∨ qe_is 1 (qe_get ls (i - 1)) = false)
    (h' : lv_has la' nL ((i, qe_v E ad v) :: (qe_ll E ad nL ls).filter (fun q => !(q.1 == i) && !(q.1 + 1 == i && q.2.category == 2)))) : qe_lh E ad la' nL (qe_set ls i v) := by
  refine ⟨h'.1, h'.2.1, fun j hj h7 => ?_⟩
  rw [qe_get_set _ _ _ _ hv] at h7 ⊢
  by_cases hji : j = i
  · subst hji
    rw [if_pos rfl]
    exact h'.2.2 _ List.mem_cons_self
  · rw [if_neg hji] at h7 ⊢
    refine h'.2.2 _ (List.mem_cons_of_mem _ (List.mem_filter.mpr ⟨qe_ll_mem hj h7, ?_⟩))
    have a1 : (j == i) = false := by simp [hji]
    show (!(j == i) && !(j + 1 == i && (qe_v E ad (qe_get ls j)).category == 2)) = true
    rw [a1]
    by_cases hj1 : j + 1 = i
    · rcases hp with hp | hp
      · omega
      · rw [show i - 1 = j by omega] at hp
        have := qe_cat (E := E) (ad := ad) hp
        simp [this]
    · simp [hj1]
/-- a long is stored -/
theorem qe_lh_st2 {E : qe_E} {ad : Nat → Nat} {la la' : Array Slot} {nL ls i v : Nat} (hv : v < 4722366482869645213696) (hp : i = 0 ∨ qe_is 1 (qe_get ls (i - 1)) = false)
    (h' : lv_has la' nL ((i, qe_v E ad v) :: (qe_ll E ad nL ls).filter (fun q => !(q.1 == i) && (!(q.1 == i + 1) && !(q.1 + 1 == i && q.2.category == 2))))) : qe_lh E ad la' nL (qe_set (qe_set ls i v) (i + 1) 7) := by
  refine ⟨h'.1, h'.2.1, fun j hj h7 => ?_⟩
  rw [qe_get_set _ _ _ _ (by decide)] at h7 ⊢
  by_cases hj2 : j = i + 1
  · rw [if_pos hj2] at h7; exact absurd rfl h7
  · rw [if_neg hj2] at h7 ⊢
    rw [qe_get_set _ _ _ _ hv] at h7 ⊢
    by_cases hji : j = i
    · subst hji
      rw [if_pos rfl]
      exact h'.2.2 _ List.mem_cons_self
    · rw [if_neg hji] at h7 ⊢
      refine h'.2.2 _ (List.mem_cons_of_mem _ (List.mem_filter.mpr ⟨qe_ll_mem hj h7, ?_⟩))
      have a1 : (j == i) = false := by simp [hji]
      have a2 : (j == i + 1) = false := by simp [hj2]
      show (!(j == i) && (!(j == i + 1) && !(j + 1 == i && (qe_v E ad (qe_get ls j)).category == 2))) = true
      rw [a1, a2]
      by_cases hj1 : j + 1 = i
      · rcases hp with hp | hp
        · omega
        · rw [show i - 1 = j by omega] at hp
          have := qe_cat (E := E) (ad := ad) hp
          simp [this]
      · simp [hj1]
theorem qe_lh_ext {E : qe_E} {ad ad' : Nat → Nat} {la : Array Slot} {nL ls n : Nat} (h : qe_lh E ad la nL ls) (hr : ∀ i, qe_rb n (qe_get ls i)) (ha : ∀ k, k < n → ad' k = ad k) : qe_lh E ad' la nL ls :=
  ⟨h.1, h.2.1, fun i hi h7 => by rw [qe_v_ext (hr i) ha]; exact h.2.2 i hi h7⟩
end QEW
end
section
/-! ENGINE, part 5: what each instruction gives, as closures; made by wip/engine/gen07.py -/
section QEK
/-- a method: its name, bytes, locals, answer, words, class -/
abbrev qe_B : Type := MethodName × ByteArray × Nat × Option FieldType × List Cond × String
def qe_bd (B : qe_B) (p : Program) (l : Launch) (s : State) (m : MethodId) (args : Array Value) (meth : Method) (c : Code) : Prop :=
  p.tables.exec = Jvm.exec ∧ c.code = B.2.1 ∧ c.maxLocals = B.2.2.1 ∧ meth.sig.returnType = B.2.2.2.1 ∧ (∀ w ∈ B.2.2.2.2.1, w.before args s = true) ∧ s.vm.findClass B.2.2.2.2.2 = some m.cls ∧ meth.locks = false ∧ (B.1.name = "<init>" → meth.name = "<init>") ∧ l.stackTraces = false
def qc_st (B : qe_B) (pc nx : Nat) (st st2 : List Value) : Prop := ∀ {p : Program} {l : Launch} {e : Env} {R : Room} {s : State} {m : MethodId} {args : Array Value} {below : List Frame} {meth : Method} {c : Code} {H : Heap} {locs : List Loc} {cells slots : Nat} {Q : State → Prop} {la : Array Slot} {rest : List Value}, qe_bd B p l s m args meth c → W p l e R s m args below meth c H locs cells slots Q (F0 m nx la (st2 ++ rest)) → W p l e R s m args below meth c H locs cells slots Q (F0 m pc la (st ++ rest))
theorem qk_iconst {B : qe_B} {pc : Nat} {n : Int} {v : Int32} (h : decode B.2.1 pc = .ok (.iconst n, 1)) (hv : Int32.ofInt n = v) : qc_st B pc (pc + 1) [] [.int v] := fun {p l e R s m args below meth c H locs cells slots Q la rest} hB k => lv_iconst hB.1 hB.2.1 h hv k
theorem qk_bipush {B : qe_B} {pc : Nat} {n : Int} {v : Int32} (h : decode B.2.1 pc = .ok (.bipush n, 2)) (hv : (Int8.ofInt n).toInt32 = v) : qc_st B pc (pc + 2) [] [.int v] := fun {p l e R s m args below meth c H locs cells slots Q la rest} hB k => lv_bipush hB.1 hB.2.1 h hv k
theorem qk_sipush {B : qe_B} {pc : Nat} {n : Int} {v : Int32} (h : decode B.2.1 pc = .ok (.sipush n, 3)) (hv : (Int16.ofInt n).toInt32 = v) : qc_st B pc (pc + 3) [] [.int v] := fun {p l e R s m args below meth c H locs cells slots Q la rest} hB k => lv_sipush hB.1 hB.2.1 h hv k
theorem qk_lconst {B : qe_B} {pc : Nat} {n : Fin 2} {v : Int64} (h : decode B.2.1 pc = .ok (.lconst n, 1)) (hv : Int64.ofNat (n : Nat) = v) : qc_st B pc (pc + 1) [] [.long v] := fun {p l e R s m args below meth c H locs cells slots Q la rest} hB k => lv_lconst hB.1 hB.2.1 h hv k
theorem qk_ldc {B : qe_B} {pc index : Nat} {v : Int32} (h : decode B.2.1 pc = .ok (.ldc index, 2)) (hw : Cond.constant B.2.2.2.2.2 index v ∈ B.2.2.2.2.1) : qc_st B pc (pc + 2) [] [.int v] := fun {p l e R s m args below meth c H locs cells slots Q la rest} hB k => lv_ldc hB.1 hB.2.1 hB.2.2.2.2.2.1 (hB.2.2.2.2.1 _ hw) h k
theorem qk_ldcw {B : qe_B} {pc index : Nat} {v : Int32} (h : decode B.2.1 pc = .ok (.ldc_w index, 3)) (hw : Cond.constant B.2.2.2.2.2 index v ∈ B.2.2.2.2.1) : qc_st B pc (pc + 3) [] [.int v] := fun {p l e R s m args below meth c H locs cells slots Q la rest} hB k => lv_ldcw hB.1 hB.2.1 hB.2.2.2.2.2.1 (hB.2.2.2.2.1 _ hw) h k
theorem qk_ldc2 {B : qe_B} {pc index : Nat} {v : Int64} (h : decode B.2.1 pc = .ok (.ldc2_w index, 3)) (hw : Cond.constantLong B.2.2.2.2.2 index v ∈ B.2.2.2.2.1) : qc_st B pc (pc + 3) [] [.long v] := fun {p l e R s m args below meth c H locs cells slots Q la rest} hB k => lv_ldc2 hB.1 hB.2.1 hB.2.2.2.2.2.1 (hB.2.2.2.2.1 _ hw) h k
theorem qk_iadd {B : qe_B} {pc : Nat} (h : decode B.2.1 pc = .ok (.iadd, 1)) : ∀ x y : Int32, qc_st B pc (pc + 1) [.int y, .int x] [.int (qe_sem 10 x y)] := fun x y {p l e R s m args below meth c H locs cells slots Q la rest} hB k => lv_iadd hB.1 hB.2.1 h k
theorem qk_isub {B : qe_B} {pc : Nat} (h : decode B.2.1 pc = .ok (.isub, 1)) : ∀ x y : Int32, qc_st B pc (pc + 1) [.int y, .int x] [.int (qe_sem 11 x y)] := fun x y {p l e R s m args below meth c H locs cells slots Q la rest} hB k => lv_isub hB.1 hB.2.1 h k
theorem qk_imul {B : qe_B} {pc : Nat} (h : decode B.2.1 pc = .ok (.imul, 1)) : ∀ x y : Int32, qc_st B pc (pc + 1) [.int y, .int x] [.int (qe_sem 12 x y)] := fun x y {p l e R s m args below meth c H locs cells slots Q la rest} hB k => lv_imul hB.1 hB.2.1 h k
theorem qk_iand {B : qe_B} {pc : Nat} (h : decode B.2.1 pc = .ok (.iand, 1)) : ∀ x y : Int32, qc_st B pc (pc + 1) [.int y, .int x] [.int (qe_sem 13 x y)] := fun x y {p l e R s m args below meth c H locs cells slots Q la rest} hB k => lv_iand hB.1 hB.2.1 h k
theorem qk_ior {B : qe_B} {pc : Nat} (h : decode B.2.1 pc = .ok (.ior, 1)) : ∀ x y : Int32, qc_st B pc (pc + 1) [.int y, .int x] [.int (qe_sem 14 x y)] := fun x y {p l e R s m args below meth c H locs cells slots Q la rest} hB k => lv_ior hB.1 hB.2.1 h k
theorem qk_ixor {B : qe_B} {pc : Nat} (h : decode B.2.1 pc = .ok (.ixor, 1)) : ∀ x y : Int32, qc_st B pc (pc + 1) [.int y, .int x] [.int (qe_sem 15 x y)] := fun x y {p l e R s m args below meth c H locs cells slots Q la rest} hB k => lv_ixor hB.1 hB.2.1 h k
theorem qk_ishl {B : qe_B} {pc : Nat} (h : decode B.2.1 pc = .ok (.ishl, 1)) : ∀ x y : Int32, qc_st B pc (pc + 1) [.int y, .int x] [.int (qe_sem 16 x y)] := fun x y {p l e R s m args below meth c H locs cells slots Q la rest} hB k => lv_ishl hB.1 hB.2.1 h k
theorem qk_ishr {B : qe_B} {pc : Nat} (h : decode B.2.1 pc = .ok (.ishr, 1)) : ∀ x y : Int32, qc_st B pc (pc + 1) [.int y, .int x] [.int (qe_sem 17 x y)] := fun x y {p l e R s m args below meth c H locs cells slots Q la rest} hB k => lv_ishr hB.1 hB.2.1 h k
theorem qk_iushr {B : qe_B} {pc : Nat} (h : decode B.2.1 pc = .ok (.iushr, 1)) : ∀ x y : Int32, qc_st B pc (pc + 1) [.int y, .int x] [.int (qe_sem 18 x y)] := fun x y {p l e R s m args below meth c H locs cells slots Q la rest} hB k => lv_iushr hB.1 hB.2.1 h rfl k
theorem qk_ineg {B : qe_B} {pc : Nat} (h : decode B.2.1 pc = .ok (.ineg, 1)) : ∀ x : Int32, qc_st B pc (pc + 1) [.int x] [.int (-x)] := fun x {p l e R s m args below meth c H locs cells slots Q la rest} hB k => lv_ineg hB.1 hB.2.1 h k
theorem qk_i2l {B : qe_B} {pc : Nat} (h : decode B.2.1 pc = .ok (.i2l, 1)) : ∀ x : Int32, qc_st B pc (pc + 1) [.int x] [.long x.toInt64] := fun x {p l e R s m args below meth c H locs cells slots Q la rest} hB k => lv_i2l hB.1 hB.2.1 h rfl k
theorem qk_lcmp {B : qe_B} {pc : Nat} (h : decode B.2.1 pc = .ok (.lcmp, 1)) : ∀ x y : Int64, qc_st B pc (pc + 1) [.long y, .long x] [.int (lg_cmp x y)] := fun x y {p l e R s m args below meth c H locs cells slots Q la rest} hB k => W.lcmp hB.1 hB.2.1 h k
theorem qk_idiv {B : qe_B} {pc : Nat} (h : decode B.2.1 pc = .ok (.idiv, 1)) : ∀ x y : Int32, ¬ y = 0 → qc_st B pc (pc + 1) [.int y, .int x] [.int (x / y)] := fun x y hy {p l e R s m args below meth c H locs cells slots Q la rest} hB k => lv_idiv hB.1 hB.2.1 h hy k
theorem qk_irem {B : qe_B} {pc : Nat} (h : decode B.2.1 pc = .ok (.irem, 1)) : ∀ x y : Int32, ¬ y = 0 → qc_st B pc (pc + 1) [.int y, .int x] [.int (x - x / y * y)] := fun x y hy {p l e R s m args below meth c H locs cells slots Q la rest} hB k => lv_irem hB.1 hB.2.1 h hy k
theorem qk_dup {B : qe_B} {pc : Nat} (h : decode B.2.1 pc = .ok (.dup, 1)) : ∀ v : Value, v.category = 1 → qc_st B pc (pc + 1) [v] [v, v] := fun v hv {p l e R s m args below meth c H locs cells slots Q la rest} hB k => lv_dup hB.1 hB.2.1 h hv k
theorem qk_pop {B : qe_B} {pc : Nat} (h : decode B.2.1 pc = .ok (.pop, 1)) : ∀ v : Value, v.category = 1 → qc_st B pc (pc + 1) [v] [] := fun v hv {p l e R s m args below meth c H locs cells slots Q la rest} hB k => lv_pop hB.1 hB.2.1 h hv k
theorem qk_dup2 {B : qe_B} {pc : Nat} (h : decode B.2.1 pc = .ok (.dup2, 1)) : ∀ v w : Value, v.category = 1 → w.category = 1 → qc_st B pc (pc + 1) [v, w] [v, w, v, w] := fun v w hv hw {p l e R s m args below meth c H locs cells slots Q la rest} hB k => lv_dup2_11 hB.1 hB.2.1 h hv hw k
theorem qk_goto {B : qe_B} {pc tgt : Nat} {off : Int} (h : decode B.2.1 pc = .ok (.goto off, 3)) (ht : (pc : Int) + off = (tgt : Int)) : qc_st B pc tgt [] [] := fun {p l e R s m args below meth c H locs cells slots Q la rest} hB k => lv_goto hB.1 hB.2.1 h ht k
def qe_br (k r : Nat) : Bool := cond (Nat.beq k 0) (Nat.beq r 1) (cond (Nat.beq k 1) (!(Nat.beq r 1)) (cond (Nat.beq k 2) (Nat.beq r 0) (cond (Nat.beq k 3) (!(Nat.beq r 0)) (cond (Nat.beq k 4) (Nat.beq r 2) (!(Nat.beq r 2))))))
def qc_if (B : qe_B) (pc nx tgt k : Nat) : Prop := ∀ {p : Program} {l : Launch} {e : Env} {R : Room} {s : State} {m : MethodId} {args : Array Value} {below : List Frame} {meth : Method} {c : Code} {H : Heap} {locs : List Loc} {cells slots : Nat} {Q : State → Prop} {la : Array Slot} {rest : List Value}, qe_bd B p l s m args meth c → ∀ x : Int32, W p l e R s m args below meth c H locs cells slots Q (F0 m (cond (qe_br k (qe_c3 (qe_so x) (qe_so 0))) tgt nx) la rest) → W p l e R s m args below meth c H locs cells slots Q (F0 m pc la (.int x :: rest))
def qc_ic (B : qe_B) (pc nx tgt k : Nat) : Prop := ∀ {p : Program} {l : Launch} {e : Env} {R : Room} {s : State} {m : MethodId} {args : Array Value} {below : List Frame} {meth : Method} {c : Code} {H : Heap} {locs : List Loc} {cells slots : Nat} {Q : State → Prop} {la : Array Slot} {rest : List Value}, qe_bd B p l s m args meth c → ∀ x y : Int32, W p l e R s m args below meth c H locs cells slots Q (F0 m (cond (qe_br k (qe_c3 (qe_so x) (qe_so y))) tgt nx) la rest) → W p l e R s m args below meth c H locs cells slots Q (F0 m pc la (.int y :: .int x :: rest))
theorem qe_c3_cases (x y : Int32) : (x < y ∧ qe_c3 (qe_so x) (qe_so y) = 0) ∨ (x = y ∧ qe_c3 (qe_so x) (qe_so y) = 1) ∨ (y < x ∧ qe_c3 (qe_so x) (qe_so y) = 2) := by
  rcases Nat.lt_trichotomy (qe_so x) (qe_so y) with h | h | h
  · exact Or.inl ⟨qe_so_ilt.mpr h, qe_c3_lt h⟩
  · exact Or.inr (Or.inl ⟨qe_so_inj.mpr h, qe_c3_eq h⟩)
  · exact Or.inr (Or.inr ⟨qe_so_ilt.mpr h, qe_c3_gt h⟩)
theorem qe_ilt_irr (x : Int32) : ¬ x < x := fun h => Nat.lt_irrefl _ (qe_so_ilt.mp h)
theorem qe_ilt_asym {x y : Int32} (h : x < y) : ¬ y < x := fun g => Nat.lt_asymm (qe_so_ilt.mp h) (qe_so_ilt.mp g)
theorem qe_ile {x y : Int32} : x ≤ y ↔ ¬ y < x := by
  rw [Int32.le_iff_toInt_le, Int32.lt_iff_toInt_lt]
  omega
theorem qe_br_eq (x y : Int32) : (qe_br 0 (qe_c3 (qe_so x) (qe_so y)) = true ∧ (x = y)) ∨ (qe_br 0 (qe_c3 (qe_so x) (qe_so y)) = false ∧ ¬ (x = y)) := by
  rcases qe_c3_cases x y with ⟨h, e⟩ | ⟨h, e⟩ | ⟨h, e⟩ <;> rw [e] <;> (try simp only [qe_ile])
  · first | exact Or.inl ⟨rfl, h⟩ | exact Or.inl ⟨rfl, qe_ilt_asym h⟩ | exact Or.inr ⟨rfl, fun q => q h⟩ | exact Or.inr ⟨rfl, qe_ilt_asym h⟩ | exact Or.inr ⟨rfl, fun q => by subst q; exact qe_ilt_irr _ h⟩ | exact Or.inl ⟨rfl, fun q => by subst q; exact qe_ilt_irr _ h⟩
  · subst h; first | exact Or.inl ⟨rfl, rfl⟩ | exact Or.inr ⟨rfl, qe_ilt_irr _⟩ | exact Or.inl ⟨rfl, qe_ilt_irr _⟩ | exact Or.inr ⟨rfl, fun q => q rfl⟩
  · first | exact Or.inl ⟨rfl, h⟩ | exact Or.inl ⟨rfl, qe_ilt_asym h⟩ | exact Or.inr ⟨rfl, fun q => q h⟩ | exact Or.inr ⟨rfl, qe_ilt_asym h⟩ | exact Or.inr ⟨rfl, fun q => by subst q; exact qe_ilt_irr _ h⟩ | exact Or.inl ⟨rfl, fun q => by subst q; exact qe_ilt_irr _ h⟩
theorem qe_br_ne (x y : Int32) : (qe_br 1 (qe_c3 (qe_so x) (qe_so y)) = true ∧ (¬ x = y)) ∨ (qe_br 1 (qe_c3 (qe_so x) (qe_so y)) = false ∧ ¬ (¬ x = y)) := by
  rcases qe_c3_cases x y with ⟨h, e⟩ | ⟨h, e⟩ | ⟨h, e⟩ <;> rw [e] <;> (try simp only [qe_ile])
  · first | exact Or.inl ⟨rfl, h⟩ | exact Or.inl ⟨rfl, qe_ilt_asym h⟩ | exact Or.inr ⟨rfl, fun q => q h⟩ | exact Or.inr ⟨rfl, qe_ilt_asym h⟩ | exact Or.inr ⟨rfl, fun q => by subst q; exact qe_ilt_irr _ h⟩ | exact Or.inl ⟨rfl, fun q => by subst q; exact qe_ilt_irr _ h⟩
  · subst h; first | exact Or.inl ⟨rfl, rfl⟩ | exact Or.inr ⟨rfl, qe_ilt_irr _⟩ | exact Or.inl ⟨rfl, qe_ilt_irr _⟩ | exact Or.inr ⟨rfl, fun q => q rfl⟩
  · first | exact Or.inl ⟨rfl, h⟩ | exact Or.inl ⟨rfl, qe_ilt_asym h⟩ | exact Or.inr ⟨rfl, fun q => q h⟩ | exact Or.inr ⟨rfl, qe_ilt_asym h⟩ | exact Or.inr ⟨rfl, fun q => by subst q; exact qe_ilt_irr _ h⟩ | exact Or.inl ⟨rfl, fun q => by subst q; exact qe_ilt_irr _ h⟩
theorem qe_br_lt (x y : Int32) : (qe_br 2 (qe_c3 (qe_so x) (qe_so y)) = true ∧ (x < y)) ∨ (qe_br 2 (qe_c3 (qe_so x) (qe_so y)) = false ∧ ¬ (x < y)) := by
  rcases qe_c3_cases x y with ⟨h, e⟩ | ⟨h, e⟩ | ⟨h, e⟩ <;> rw [e] <;> (try simp only [qe_ile])
  · first | exact Or.inl ⟨rfl, h⟩ | exact Or.inl ⟨rfl, qe_ilt_asym h⟩ | exact Or.inr ⟨rfl, fun q => q h⟩ | exact Or.inr ⟨rfl, qe_ilt_asym h⟩ | exact Or.inr ⟨rfl, fun q => by subst q; exact qe_ilt_irr _ h⟩ | exact Or.inl ⟨rfl, fun q => by subst q; exact qe_ilt_irr _ h⟩
  · subst h; first | exact Or.inl ⟨rfl, rfl⟩ | exact Or.inr ⟨rfl, qe_ilt_irr _⟩ | exact Or.inl ⟨rfl, qe_ilt_irr _⟩ | exact Or.inr ⟨rfl, fun q => q rfl⟩
  · first | exact Or.inl ⟨rfl, h⟩ | exact Or.inl ⟨rfl, qe_ilt_asym h⟩ | exact Or.inr ⟨rfl, fun q => q h⟩ | exact Or.inr ⟨rfl, qe_ilt_asym h⟩ | exact Or.inr ⟨rfl, fun q => by subst q; exact qe_ilt_irr _ h⟩ | exact Or.inl ⟨rfl, fun q => by subst q; exact qe_ilt_irr _ h⟩
theorem qe_br_ge (x y : Int32) : (qe_br 3 (qe_c3 (qe_so x) (qe_so y)) = true ∧ (y ≤ x)) ∨ (qe_br 3 (qe_c3 (qe_so x) (qe_so y)) = false ∧ ¬ (y ≤ x)) := by
  rcases qe_c3_cases x y with ⟨h, e⟩ | ⟨h, e⟩ | ⟨h, e⟩ <;> rw [e] <;> (try simp only [qe_ile])
  · first | exact Or.inl ⟨rfl, h⟩ | exact Or.inl ⟨rfl, qe_ilt_asym h⟩ | exact Or.inr ⟨rfl, fun q => q h⟩ | exact Or.inr ⟨rfl, qe_ilt_asym h⟩ | exact Or.inr ⟨rfl, fun q => by subst q; exact qe_ilt_irr _ h⟩ | exact Or.inl ⟨rfl, fun q => by subst q; exact qe_ilt_irr _ h⟩
  · subst h; first | exact Or.inl ⟨rfl, rfl⟩ | exact Or.inr ⟨rfl, qe_ilt_irr _⟩ | exact Or.inl ⟨rfl, qe_ilt_irr _⟩ | exact Or.inr ⟨rfl, fun q => q rfl⟩
  · first | exact Or.inl ⟨rfl, h⟩ | exact Or.inl ⟨rfl, qe_ilt_asym h⟩ | exact Or.inr ⟨rfl, fun q => q h⟩ | exact Or.inr ⟨rfl, qe_ilt_asym h⟩ | exact Or.inr ⟨rfl, fun q => by subst q; exact qe_ilt_irr _ h⟩ | exact Or.inl ⟨rfl, fun q => by subst q; exact qe_ilt_irr _ h⟩
theorem qe_br_gt (x y : Int32) : (qe_br 4 (qe_c3 (qe_so x) (qe_so y)) = true ∧ (y < x)) ∨ (qe_br 4 (qe_c3 (qe_so x) (qe_so y)) = false ∧ ¬ (y < x)) := by
  rcases qe_c3_cases x y with ⟨h, e⟩ | ⟨h, e⟩ | ⟨h, e⟩ <;> rw [e] <;> (try simp only [qe_ile])
  · first | exact Or.inl ⟨rfl, h⟩ | exact Or.inl ⟨rfl, qe_ilt_asym h⟩ | exact Or.inr ⟨rfl, fun q => q h⟩ | exact Or.inr ⟨rfl, qe_ilt_asym h⟩ | exact Or.inr ⟨rfl, fun q => by subst q; exact qe_ilt_irr _ h⟩ | exact Or.inl ⟨rfl, fun q => by subst q; exact qe_ilt_irr _ h⟩
  · subst h; first | exact Or.inl ⟨rfl, rfl⟩ | exact Or.inr ⟨rfl, qe_ilt_irr _⟩ | exact Or.inl ⟨rfl, qe_ilt_irr _⟩ | exact Or.inr ⟨rfl, fun q => q rfl⟩
  · first | exact Or.inl ⟨rfl, h⟩ | exact Or.inl ⟨rfl, qe_ilt_asym h⟩ | exact Or.inr ⟨rfl, fun q => q h⟩ | exact Or.inr ⟨rfl, qe_ilt_asym h⟩ | exact Or.inr ⟨rfl, fun q => by subst q; exact qe_ilt_irr _ h⟩ | exact Or.inl ⟨rfl, fun q => by subst q; exact qe_ilt_irr _ h⟩
theorem qe_br_le (x y : Int32) : (qe_br 5 (qe_c3 (qe_so x) (qe_so y)) = true ∧ (x ≤ y)) ∨ (qe_br 5 (qe_c3 (qe_so x) (qe_so y)) = false ∧ ¬ (x ≤ y)) := by
  rcases qe_c3_cases x y with ⟨h, e⟩ | ⟨h, e⟩ | ⟨h, e⟩ <;> rw [e] <;> (try simp only [qe_ile])
  · first | exact Or.inl ⟨rfl, h⟩ | exact Or.inl ⟨rfl, qe_ilt_asym h⟩ | exact Or.inr ⟨rfl, fun q => q h⟩ | exact Or.inr ⟨rfl, qe_ilt_asym h⟩ | exact Or.inr ⟨rfl, fun q => by subst q; exact qe_ilt_irr _ h⟩ | exact Or.inl ⟨rfl, fun q => by subst q; exact qe_ilt_irr _ h⟩
  · subst h; first | exact Or.inl ⟨rfl, rfl⟩ | exact Or.inr ⟨rfl, qe_ilt_irr _⟩ | exact Or.inl ⟨rfl, qe_ilt_irr _⟩ | exact Or.inr ⟨rfl, fun q => q rfl⟩
  · first | exact Or.inl ⟨rfl, h⟩ | exact Or.inl ⟨rfl, qe_ilt_asym h⟩ | exact Or.inr ⟨rfl, fun q => q h⟩ | exact Or.inr ⟨rfl, qe_ilt_asym h⟩ | exact Or.inr ⟨rfl, fun q => by subst q; exact qe_ilt_irr _ h⟩ | exact Or.inl ⟨rfl, fun q => by subst q; exact qe_ilt_irr _ h⟩
theorem qk_if_eq {B : qe_B} {pc tgt : Nat} {off : Int} (h : decode B.2.1 pc = .ok (.ifCond .eq off, 3)) (ht : (pc : Int) + off = (tgt : Int)) : qc_if B pc (pc + 3) tgt 0 := by
  intro p l e R s m args below meth c H locs cells slots Q la rest hB x k
  refine lv_if_eq (tgt := tgt) hB.1 hB.2.1 h ht (fun z => ?_) (fun z => ?_)
  · rcases qe_br_eq x 0 with ⟨e1, e2⟩ | ⟨e1, e2⟩
    · rw [e1] at k; exact k
    · first | exact absurd z e2 | exact absurd e2 z
  · rcases qe_br_eq x 0 with ⟨e1, e2⟩ | ⟨e1, e2⟩
    · first | exact absurd e2 z | exact absurd z e2
    · rw [e1] at k; exact k
theorem qk_ic_eq {B : qe_B} {pc tgt : Nat} {off : Int} (h : decode B.2.1 pc = .ok (.if_icmp .eq off, 3)) (ht : (pc : Int) + off = (tgt : Int)) : qc_ic B pc (pc + 3) tgt 0 := by
  intro p l e R s m args below meth c H locs cells slots Q la rest hB x y k
  refine lv_icmp_eq (tgt := tgt) hB.1 hB.2.1 h ht (fun z => ?_) (fun z => ?_)
  · rcases qe_br_eq x y with ⟨e1, e2⟩ | ⟨e1, e2⟩
    · rw [e1] at k; exact k
    · first | exact absurd z e2 | exact absurd e2 z
  · rcases qe_br_eq x y with ⟨e1, e2⟩ | ⟨e1, e2⟩
    · first | exact absurd e2 z | exact absurd z e2
    · rw [e1] at k; exact k
theorem qk_if_ne {B : qe_B} {pc tgt : Nat} {off : Int} (h : decode B.2.1 pc = .ok (.ifCond .ne off, 3)) (ht : (pc : Int) + off = (tgt : Int)) : qc_if B pc (pc + 3) tgt 1 := by
  intro p l e R s m args below meth c H locs cells slots Q la rest hB x k
  refine lv_if_ne (tgt := tgt) hB.1 hB.2.1 h ht (fun z => ?_) (fun z => ?_)
  · rcases qe_br_ne x 0 with ⟨e1, e2⟩ | ⟨e1, e2⟩
    · rw [e1] at k; exact k
    · first | exact absurd z e2 | exact absurd e2 z
  · rcases qe_br_ne x 0 with ⟨e1, e2⟩ | ⟨e1, e2⟩
    · first | exact absurd e2 z | exact absurd z e2
    · rw [e1] at k; exact k
theorem qk_ic_ne {B : qe_B} {pc tgt : Nat} {off : Int} (h : decode B.2.1 pc = .ok (.if_icmp .ne off, 3)) (ht : (pc : Int) + off = (tgt : Int)) : qc_ic B pc (pc + 3) tgt 1 := by
  intro p l e R s m args below meth c H locs cells slots Q la rest hB x y k
  refine lv_icmp_ne (tgt := tgt) hB.1 hB.2.1 h ht (fun z => ?_) (fun z => ?_)
  · rcases qe_br_ne x y with ⟨e1, e2⟩ | ⟨e1, e2⟩
    · rw [e1] at k; exact k
    · first | exact absurd z e2 | exact absurd e2 z
  · rcases qe_br_ne x y with ⟨e1, e2⟩ | ⟨e1, e2⟩
    · first | exact absurd e2 z | exact absurd z e2
    · rw [e1] at k; exact k
theorem qk_if_lt {B : qe_B} {pc tgt : Nat} {off : Int} (h : decode B.2.1 pc = .ok (.ifCond .lt off, 3)) (ht : (pc : Int) + off = (tgt : Int)) : qc_if B pc (pc + 3) tgt 2 := by
  intro p l e R s m args below meth c H locs cells slots Q la rest hB x k
  refine lv_if_lt (tgt := tgt) hB.1 hB.2.1 h ht (fun z => ?_) (fun z => ?_)
  · rcases qe_br_lt x 0 with ⟨e1, e2⟩ | ⟨e1, e2⟩
    · rw [e1] at k; exact k
    · first | exact absurd z e2 | exact absurd e2 z
  · rcases qe_br_lt x 0 with ⟨e1, e2⟩ | ⟨e1, e2⟩
    · first | exact absurd e2 z | exact absurd z e2
    · rw [e1] at k; exact k
theorem qk_ic_lt {B : qe_B} {pc tgt : Nat} {off : Int} (h : decode B.2.1 pc = .ok (.if_icmp .lt off, 3)) (ht : (pc : Int) + off = (tgt : Int)) : qc_ic B pc (pc + 3) tgt 2 := by
  intro p l e R s m args below meth c H locs cells slots Q la rest hB x y k
  refine lv_icmp_lt (tgt := tgt) hB.1 hB.2.1 h ht (fun z => ?_) (fun z => ?_)
  · rcases qe_br_lt x y with ⟨e1, e2⟩ | ⟨e1, e2⟩
    · rw [e1] at k; exact k
    · first | exact absurd z e2 | exact absurd e2 z
  · rcases qe_br_lt x y with ⟨e1, e2⟩ | ⟨e1, e2⟩
    · first | exact absurd e2 z | exact absurd z e2
    · rw [e1] at k; exact k
theorem qk_if_ge {B : qe_B} {pc tgt : Nat} {off : Int} (h : decode B.2.1 pc = .ok (.ifCond .ge off, 3)) (ht : (pc : Int) + off = (tgt : Int)) : qc_if B pc (pc + 3) tgt 3 := by
  intro p l e R s m args below meth c H locs cells slots Q la rest hB x k
  refine lv_if_ge (tgt := tgt) hB.1 hB.2.1 h ht (fun z => ?_) (fun z => ?_)
  · rcases qe_br_ge x 0 with ⟨e1, e2⟩ | ⟨e1, e2⟩
    · rw [e1] at k; exact k
    · first | exact absurd z e2 | exact absurd e2 z
  · rcases qe_br_ge x 0 with ⟨e1, e2⟩ | ⟨e1, e2⟩
    · first | exact absurd e2 z | exact absurd z e2
    · rw [e1] at k; exact k
theorem qk_ic_ge {B : qe_B} {pc tgt : Nat} {off : Int} (h : decode B.2.1 pc = .ok (.if_icmp .ge off, 3)) (ht : (pc : Int) + off = (tgt : Int)) : qc_ic B pc (pc + 3) tgt 3 := by
  intro p l e R s m args below meth c H locs cells slots Q la rest hB x y k
  refine lv_icmp_ge (tgt := tgt) hB.1 hB.2.1 h ht (fun z => ?_) (fun z => ?_)
  · rcases qe_br_ge x y with ⟨e1, e2⟩ | ⟨e1, e2⟩
    · rw [e1] at k; exact k
    · first | exact absurd z e2 | exact absurd e2 z
  · rcases qe_br_ge x y with ⟨e1, e2⟩ | ⟨e1, e2⟩
    · first | exact absurd e2 z | exact absurd z e2
    · rw [e1] at k; exact k
theorem qk_if_gt {B : qe_B} {pc tgt : Nat} {off : Int} (h : decode B.2.1 pc = .ok (.ifCond .gt off, 3)) (ht : (pc : Int) + off = (tgt : Int)) : qc_if B pc (pc + 3) tgt 4 := by
  intro p l e R s m args below meth c H locs cells slots Q la rest hB x k
  refine lv_if_gt (tgt := tgt) hB.1 hB.2.1 h ht (fun z => ?_) (fun z => ?_)
  · rcases qe_br_gt x 0 with ⟨e1, e2⟩ | ⟨e1, e2⟩
    · rw [e1] at k; exact k
    · first | exact absurd z e2 | exact absurd e2 z
  · rcases qe_br_gt x 0 with ⟨e1, e2⟩ | ⟨e1, e2⟩
    · first | exact absurd e2 z | exact absurd z e2
    · rw [e1] at k; exact k
theorem qk_ic_gt {B : qe_B} {pc tgt : Nat} {off : Int} (h : decode B.2.1 pc = .ok (.if_icmp .gt off, 3)) (ht : (pc : Int) + off = (tgt : Int)) : qc_ic B pc (pc + 3) tgt 4 := by
  intro p l e R s m args below meth c H locs cells slots Q la rest hB x y k
  refine lv_icmp_gt (tgt := tgt) hB.1 hB.2.1 h ht (fun z => ?_) (fun z => ?_)
  · rcases qe_br_gt x y with ⟨e1, e2⟩ | ⟨e1, e2⟩
    · rw [e1] at k; exact k
    · first | exact absurd z e2 | exact absurd e2 z
  · rcases qe_br_gt x y with ⟨e1, e2⟩ | ⟨e1, e2⟩
    · first | exact absurd e2 z | exact absurd z e2
    · rw [e1] at k; exact k
theorem qk_if_le {B : qe_B} {pc tgt : Nat} {off : Int} (h : decode B.2.1 pc = .ok (.ifCond .le off, 3)) (ht : (pc : Int) + off = (tgt : Int)) : qc_if B pc (pc + 3) tgt 5 := by
  intro p l e R s m args below meth c H locs cells slots Q la rest hB x k
  refine lv_if_le (tgt := tgt) hB.1 hB.2.1 h ht (fun z => ?_) (fun z => ?_)
  · rcases qe_br_le x 0 with ⟨e1, e2⟩ | ⟨e1, e2⟩
    · rw [e1] at k; exact k
    · first | exact absurd z e2 | exact absurd e2 z
  · rcases qe_br_le x 0 with ⟨e1, e2⟩ | ⟨e1, e2⟩
    · first | exact absurd e2 z | exact absurd z e2
    · rw [e1] at k; exact k
theorem qk_ic_le {B : qe_B} {pc tgt : Nat} {off : Int} (h : decode B.2.1 pc = .ok (.if_icmp .le off, 3)) (ht : (pc : Int) + off = (tgt : Int)) : qc_ic B pc (pc + 3) tgt 5 := by
  intro p l e R s m args below meth c H locs cells slots Q la rest hB x y k
  refine lv_icmp_le (tgt := tgt) hB.1 hB.2.1 h ht (fun z => ?_) (fun z => ?_)
  · rcases qe_br_le x y with ⟨e1, e2⟩ | ⟨e1, e2⟩
    · rw [e1] at k; exact k
    · first | exact absurd z e2 | exact absurd e2 z
  · rcases qe_br_le x y with ⟨e1, e2⟩ | ⟨e1, e2⟩
    · first | exact absurd e2 z | exact absurd z e2
    · rw [e1] at k; exact k
def qe_srt (k : Nat) (v : Value) : Prop := cond (Nat.beq k 0) (∃ x : Int32, v = .int x) (cond (Nat.beq k 1) (∃ x : Int64, v = .long x) (∃ a : Nat, v = .ref a))
def qc_ld (B : qe_B) (pc nx i k : Nat) : Prop := ∀ {p : Program} {l : Launch} {e : Env} {R : Room} {s : State} {m : MethodId} {args : Array Value} {below : List Frame} {meth : Method} {c : Code} {H : Heap} {locs : List Loc} {cells slots : Nat} {Q : State → Prop} {la : Array Slot} {rest : List Value}, qe_bd B p l s m args meth c → ∀ v : Value, la[i]? = some (.val v) → qe_srt k v → W p l e R s m args below meth c H locs cells slots Q (F0 m nx la (v :: rest)) → W p l e R s m args below meth c H locs cells slots Q (F0 m pc la rest)
theorem qk_iload {B : qe_B} {pc i : Nat} (h : decode B.2.1 pc = .ok (.iload i, 2)) : qc_ld B pc (pc + 2) i 0 := by
  intro p l e R s m args below meth c H locs cells slots Q la rest hB v hv hs k
  obtain ⟨x, rfl⟩ := hs
  exact lv_iload hB.1 hB.2.1 h hv k
theorem qk_iload_n {B : qe_B} {pc i : Nat} {n : Fin 4} (h : decode B.2.1 pc = .ok (.iload_n n, 1)) (hi : (n : Nat) = i) : qc_ld B pc (pc + 1) i 0 := by
  intro p l e R s m args below meth c H locs cells slots Q la rest hB v hv hs k
  obtain ⟨x, rfl⟩ := hs
  exact lv_iload_n hB.1 hB.2.1 h hi hv k
theorem qk_lload {B : qe_B} {pc i : Nat} (h : decode B.2.1 pc = .ok (.lload i, 2)) : qc_ld B pc (pc + 2) i 1 := by
  intro p l e R s m args below meth c H locs cells slots Q la rest hB v hv hs k
  obtain ⟨x, rfl⟩ := hs
  exact lv_lload hB.1 hB.2.1 h hv k
theorem qk_lload_n {B : qe_B} {pc i : Nat} {n : Fin 4} (h : decode B.2.1 pc = .ok (.lload_n n, 1)) (hi : (n : Nat) = i) : qc_ld B pc (pc + 1) i 1 := by
  intro p l e R s m args below meth c H locs cells slots Q la rest hB v hv hs k
  obtain ⟨x, rfl⟩ := hs
  exact lv_lload_n hB.1 hB.2.1 h hi hv k
theorem qk_aload {B : qe_B} {pc i : Nat} (h : decode B.2.1 pc = .ok (.aload i, 2)) : qc_ld B pc (pc + 2) i 2 := by
  intro p l e R s m args below meth c H locs cells slots Q la rest hB v hv hs k
  obtain ⟨x, rfl⟩ := hs
  exact lv_aload hB.1 hB.2.1 h hv k
theorem qk_aload_n {B : qe_B} {pc i : Nat} {n : Fin 4} (h : decode B.2.1 pc = .ok (.aload_n n, 1)) (hi : (n : Nat) = i) : qc_ld B pc (pc + 1) i 2 := by
  intro p l e R s m args below meth c H locs cells slots Q la rest hB v hv hs k
  obtain ⟨x, rfl⟩ := hs
  exact lv_aload_n hB.1 hB.2.1 h hi hv k
def qc_s1 (B : qe_B) (pc nx i k : Nat) : Prop := ∀ {p : Program} {l : Launch} {e : Env} {R : Room} {s : State} {m : MethodId} {args : Array Value} {below : List Frame} {meth : Method} {c : Code} {H : Heap} {locs : List Loc} {cells slots : Nat} {Q : State → Prop} {la : Array Slot} {rest : List Value}, qe_bd B p l s m args meth c → ∀ (v : Value) (nL : Nat) (lv : List (Nat × Value)), qe_srt k v → lv_has la nL lv → i < nL → (∀ la2 : Array Slot, lv_has la2 nL ((i, v) :: lv.filter (fun q => !(q.1 == i) && !(q.1 + 1 == i && q.2.category == 2))) → W p l e R s m args below meth c H locs cells slots Q (F0 m nx la2 rest)) → W p l e R s m args below meth c H locs cells slots Q (F0 m pc la (v :: rest))
def qc_s2 (B : qe_B) (pc nx i : Nat) : Prop := ∀ {p : Program} {l : Launch} {e : Env} {R : Room} {s : State} {m : MethodId} {args : Array Value} {below : List Frame} {meth : Method} {c : Code} {H : Heap} {locs : List Loc} {cells slots : Nat} {Q : State → Prop} {la : Array Slot} {rest : List Value}, qe_bd B p l s m args meth c → ∀ (v : Value) (nL : Nat) (lv : List (Nat × Value)), qe_srt 1 v → lv_has la nL lv → i + 1 < nL → (∀ la2 : Array Slot, lv_has la2 nL ((i, v) :: lv.filter (fun q => !(q.1 == i) && (!(q.1 == i + 1) && !(q.1 + 1 == i && q.2.category == 2)))) → W p l e R s m args below meth c H locs cells slots Q (F0 m nx la2 rest)) → W p l e R s m args below meth c H locs cells slots Q (F0 m pc la (v :: rest))
def qc_inc (B : qe_B) (pc nx i : Nat) (d : Int32) : Prop := ∀ {p : Program} {l : Launch} {e : Env} {R : Room} {s : State} {m : MethodId} {args : Array Value} {below : List Frame} {meth : Method} {c : Code} {H : Heap} {locs : List Loc} {cells slots : Nat} {Q : State → Prop} {la : Array Slot} {rest : List Value}, qe_bd B p l s m args meth c → ∀ (x : Int32) (nL : Nat) (lv : List (Nat × Value)), lv_has la nL lv → (i, Value.int x) ∈ lv → i < nL → (∀ la2 : Array Slot, lv_has la2 nL ((i, .int (x + d)) :: lv.filter (fun q => !(q.1 == i) && !(q.1 + 1 == i && q.2.category == 2))) → W p l e R s m args below meth c H locs cells slots Q (F0 m nx la2 rest)) → W p l e R s m args below meth c H locs cells slots Q (F0 m pc la rest)
theorem qk_istore {B : qe_B} {pc i : Nat} (h : decode B.2.1 pc = .ok (.istore i, 2)) : qc_s1 B pc (pc + 2) i 0 := by
  intro p l e R s m args below meth c H locs cells slots Q la rest hB v nL lv hs hl hi k
  obtain ⟨x, rfl⟩ := hs
  exact lv_istore hB.1 hB.2.1 h hl hi rfl k
theorem qk_istore_n {B : qe_B} {pc i : Nat} {n : Fin 4} (h : decode B.2.1 pc = .ok (.istore_n n, 1)) (hn : (n : Nat) = i) : qc_s1 B pc (pc + 1) i 0 := by
  intro p l e R s m args below meth c H locs cells slots Q la rest hB v nL lv hs hl hi k
  obtain ⟨x, rfl⟩ := hs
  exact lv_istore_n hB.1 hB.2.1 h hn hl hi rfl k
theorem qk_astore {B : qe_B} {pc i : Nat} (h : decode B.2.1 pc = .ok (.astore i, 2)) : qc_s1 B pc (pc + 2) i 2 := by
  intro p l e R s m args below meth c H locs cells slots Q la rest hB v nL lv hs hl hi k
  obtain ⟨x, rfl⟩ := hs
  exact lv_astore hB.1 hB.2.1 h hl hi rfl k
theorem qk_astore_n {B : qe_B} {pc i : Nat} {n : Fin 4} (h : decode B.2.1 pc = .ok (.astore_n n, 1)) (hn : (n : Nat) = i) : qc_s1 B pc (pc + 1) i 2 := by
  intro p l e R s m args below meth c H locs cells slots Q la rest hB v nL lv hs hl hi k
  obtain ⟨x, rfl⟩ := hs
  exact lv_astore_n hB.1 hB.2.1 h hn hl hi rfl k
theorem qk_lstore {B : qe_B} {pc i : Nat} (h : decode B.2.1 pc = .ok (.lstore i, 2)) : qc_s2 B pc (pc + 2) i := by
  intro p l e R s m args below meth c H locs cells slots Q la rest hB v nL lv hs hl hi k
  obtain ⟨x, rfl⟩ := hs
  exact lv_lstore hB.1 hB.2.1 h hl hi rfl k
theorem qk_lstore_n {B : qe_B} {pc i : Nat} {n : Fin 4} (h : decode B.2.1 pc = .ok (.lstore_n n, 1)) (hn : (n : Nat) = i) : qc_s2 B pc (pc + 1) i := by
  intro p l e R s m args below meth c H locs cells slots Q la rest hB v nL lv hs hl hi k
  obtain ⟨x, rfl⟩ := hs
  exact lv_lstore_n hB.1 hB.2.1 h hn hl hi rfl k
theorem qk_iinc {B : qe_B} {pc i : Nat} {n : Int} {d : Int32} (h : decode B.2.1 pc = .ok (.iinc i n, 3)) (hd : Int32.ofInt n = d) : qc_inc B pc (pc + 3) i d := by
  intro p l e R s m args below meth c H locs cells slots Q la rest hB x nL lv hl hx hi k
  obtain ⟨j, hj⟩ := List.getElem?_of_mem hx
  exact lv_iinc (k := j) hB.1 hB.2.1 h hl hj (by rw [hd]) hi rfl k
def qc_sw (B : qe_B) (pc : Nat) (lo : Int) (dflt : Nat) (tg : List Nat) : Prop := ∀ {p : Program} {l : Launch} {e : Env} {R : Room} {s : State} {m : MethodId} {args : Array Value} {below : List Frame} {meth : Method} {c : Code} {H : Heap} {locs : List Loc} {cells slots : Nat} {Q : State → Prop} {la : Array Slot} {rest : List Value}, qe_bd B p l s m args meth c → ∀ x : Int32, ((x.toInt < lo ∨ lo + (tg.length : Int) ≤ x.toInt) → W p l e R s m args below meth c H locs cells slots Q (F0 m dflt la rest)) → (∀ (i tgt : Nat), tg[i]? = some tgt → x.toInt = lo + (i : Int) → W p l e R s m args below meth c H locs cells slots Q (F0 m tgt la rest)) → W p l e R s m args below meth c H locs cells slots Q (F0 m pc la (.int x :: rest))
theorem qk_sw {B : qe_B} {pc dflt len : Nat} {df lo hi : Int} {offs : Array Int} {tg : List Nat} (h : decode B.2.1 pc = .ok (.tableswitch df lo hi offs, len)) (hd : (pc : Int) + df = (dflt : Int)) (hh : hi + 1 = lo + (tg.length : Int)) (ht : tg.map (fun t : Nat => (t : Int) - (pc : Int)) = offs.toList) : qc_sw B pc lo dflt tg := by
  intro p l e R s m args below meth c H locs cells slots Q la rest hB x k1 k2
  by_cases h1 : x.toInt < lo
  · exact lv_tableOut hB.1 hB.2.1 h (Or.inl h1) hd (k1 (Or.inl h1))
  · by_cases h2 : hi < x.toInt
    · exact lv_tableOut hB.1 hB.2.1 h (Or.inr h2) hd (k1 (Or.inr (by omega)))
    · have hl : (x.toInt - lo).toNat < tg.length := by omega
      have e1 : tg[(x.toInt - lo).toNat]? = some tg[(x.toInt - lo).toNat] := List.getElem?_eq_getElem hl
      have e2 : offs[(x.toInt - lo).toNat]? = some (((tg[(x.toInt - lo).toNat] : Nat) : Int) - (pc : Int)) := by
        rw [← Array.getElem?_toList, ← ht, List.getElem?_map, e1]; rfl
      exact lv_tableIn (tgt := tg[(x.toInt - lo).toNat]) hB.1 hB.2.1 h h1 h2 e2 (by omega) (k2 _ _ e1 (by omega))
variable (cl : List vw_C)
def qc_get (B : qe_B) (pc nx ci k : Nat) : Prop := ∀ {p : Program} {l : Launch} {e : Env} {R : Room} {s : State} {m : MethodId} {args : Array Value} {below : List Frame} {meth : Method} {c : Code} {H : Heap} {locs : List Loc} {cells slots : Nat} {Q : State → Prop} {la : Array Slot} {rest : List Value} {D : va_G} {tys : List (ClassId × FieldType)} {ws : va_W} {A : Nat → Prop} {H0 : Heap}, qe_bd B p l s m args meth c → va_K D cl tys s → va_P D cl ws H → ∀ (q0 a : Nat) (fs : List Value) (v : Value), ws[q0]? = some (a, .inr (ci, fs)) → fs[k]? = some v → W p l e R s m args below meth c H locs cells slots Q (F0 m nx la (v :: rest)) → W p l e R s m args below meth c H locs cells slots Q (F0 m pc la (.ref a :: rest))
theorem qk_get {B : qe_B} {pc index ci k N : Nat} {ref C : String} {T : u_T} (h : decode B.2.1 pc = .ok (.getfield index, 3)) (hin : ∀ w ∈ u_ws C T N, w ∈ B.2.2.2.2.1) (hc : cl[ci]? = some (C, T, N)) (hk : k < N) (hl : Cond.fieldLink B.2.2.2.2.2 index (T k).1 (T k).2.1 (T k).2.2.1 ∈ B.2.2.2.2.1) : qc_get cl B pc (pc + 3) ci k := by
  intro p l e R s m args below meth c H locs cells slots Q la rest D tys ws A H0 hB hK hP q0 a fs v he hv kk
  exact va_get (D := D) (T := T) hB.1 hB.2.1 hB.2.2.2.2.1 hin hB.2.2.2.2.2.1 hK hP q0 he hc k hk (hB.2.2.2.2.1 _ hl) (fun _ h9 => h9) hv h kk
def qc_put (B : qe_B) (pc nx ci k : Nat) (ty : FieldType) : Prop := ∀ {p : Program} {l : Launch} {e : Env} {R : Room} {s : State} {m : MethodId} {args : Array Value} {below : List Frame} {meth : Method} {c : Code} {H : Heap} {locs : List Loc} {cells slots : Nat} {Q : State → Prop} {la : Array Slot} {rest : List Value} {D : va_G} {tys : List (ClassId × FieldType)} {ws : va_W} {A : Nat → Prop} {H0 : Heap}, qe_bd B p l s m args meth c → va_K D cl tys s → va_P D cl ws H → va_D A ws → va_S A H0 H locs → ∀ (q0 a : Nat) (fs : List Value) (v : Value), ws[q0]? = some (a, .inr (ci, fs)) → narrow ty v = v → fits ty v = true → k < fs.length → (∀ (H1 : Heap) (locs1 : List Loc), va_P D cl (ws.set q0 (a, .inr (ci, fs.set k v))) H1 → va_D A (ws.set q0 (a, .inr (ci, fs.set k v))) → va_S A H0 H1 locs1 → W p l e R s m args below meth c H1 locs1 cells slots Q (F0 m nx la rest)) → W p l e R s m args below meth c H locs cells slots Q (F0 m pc la (v :: .ref a :: rest))
theorem qk_put {B : qe_B} {pc index ci k N : Nat} {C : String} {T : u_T} {ty0 : Nat → FieldType} {ty : FieldType} (h : decode B.2.1 pc = .ok (.putfield index, 3)) (hin : ∀ w ∈ u_ws C T N, w ∈ B.2.2.2.2.1) (hty : ∀ k, k < N → parseFieldDescriptor (T k).2.2.1 = some (ty0 k)) (hnm : ∀ a, a < N → ∀ b, b < N → a ≠ b → (T a).2.1 ≠ (T b).2.1) (hc : cl[ci]? = some (C, T, N)) (hk : k < N) (hl : Cond.fieldLink B.2.2.2.2.2 index (T k).1 (T k).2.1 (T k).2.2.1 ∈ B.2.2.2.2.1) (hf : (T k).2.2.2 = false) (hd : ty0 k = ty) : qc_put cl B pc (pc + 3) ci k ty := by
  intro p l e R s m args below meth c H locs cells slots Q la rest D tys ws A H0 hB hK hP hD hS q0 a fs v he hn hfit hlen kk
  exact va_put (D := D) (T := T) hB.1 hB.2.1 hB.2.2.2.2.1 hin ty0 hty hnm hB.2.2.2.2.2.1 hK hP hD hS q0 he hc k hk (hB.2.2.2.2.1 _ hl) (fun _ h9 => h9) hf (by rw [hty k hk, hd]) hn hfit hlen h kk
theorem qk_putF {B : qe_B} {pc index ci k N : Nat} {C : String} {T : u_T} {ty0 : Nat → FieldType} {ty : FieldType} (h : decode B.2.1 pc = .ok (.putfield index, 3)) (hin : ∀ w ∈ u_ws C T N, w ∈ B.2.2.2.2.1) (hty : ∀ k, k < N → parseFieldDescriptor (T k).2.2.1 = some (ty0 k)) (hnm : ∀ a, a < N → ∀ b, b < N → a ≠ b → (T a).2.1 ≠ (T b).2.1) (hc : cl[ci]? = some (C, T, N)) (hk : k < N) (hl : Cond.fieldLink B.2.2.2.2.2 index (T k).1 (T k).2.1 (T k).2.2.1 ∈ B.2.2.2.2.1) (hf : (T k).2.2.2 = true) (hi : B.1.name = "<init>") (hdc : (T k).1 = B.2.2.2.2.2) (hd : ty0 k = ty) : qc_put cl B pc (pc + 3) ci k ty := by
  intro p l e R s m args below meth c H locs cells slots Q la rest D tys ws A H0 hB hK hP hD hS q0 a fs v he hn hfit hlen kk
  exact va_putF (D := D) (T := T) hB.1 hB.2.1 hB.2.2.2.2.1 hin ty0 hty hnm hB.2.2.2.2.2.1 hK hP hD hS q0 he hc k hk (hB.2.2.2.2.1 _ hl) (fun _ h9 => h9) hf (hB.2.2.2.2.2.2.2.1 hi) hdc (by rw [hty k hk, hd]) hn hfit hlen h kk
def qc_new (B : qe_B) (pc nx ci N : Nat) (fs : List Value) : Prop := ∀ {p : Program} {l : Launch} {e : Env} {R : Room} {s : State} {m : MethodId} {args : Array Value} {below : List Frame} {meth : Method} {c : Code} {H : Heap} {locs : List Loc} {cells slots : Nat} {Q : State → Prop} {la : Array Slot} {rest : List Value} {D : va_G} {tys : List (ClassId × FieldType)} {ws : va_W} {A : Nat → Prop} {H0 : Heap}, qe_bd B p l s m args meth c → va_K D cl tys s → va_P D cl ws H → va_D A ws → va_S A H0 H locs → (∀ q, H0.size ≤ q → A q) → cells + 1 ≤ R.cells → slots + N ≤ R.slots → (∀ (q : Nat) (H1 : Heap), va_P D cl (ws ++ [(q, .inr (ci, fs))]) H1 → va_D A (ws ++ [(q, .inr (ci, fs))]) → va_S A H0 H1 locs → W p l e R s m args below meth c H1 locs (cells + 1) (slots + N) Q (F0 m nx la (.ref q :: rest))) → W p l e R s m args below meth c H locs cells slots Q (F0 m pc la rest)
theorem qk_new {B : qe_B} {pc index ci N : Nat} {C : String} {T : u_T} {ty0 : Nat → FieldType} {fs : List Value} (h : decode B.2.1 pc = .ok (.new index, 3)) (hin : ∀ w ∈ u_ws C T N, w ∈ B.2.2.2.2.1) (hty : ∀ k, k < N → parseFieldDescriptor (T k).2.2.1 = some (ty0 k)) (hc : cl[ci]? = some (C, T, N)) (h1 : Cond.classLink B.2.2.2.2.2 index C ∈ B.2.2.2.2.1) (h2 : Cond.instantiable C N ∈ B.2.2.2.2.1) (h3 : Cond.initialized C ∈ B.2.2.2.2.1) (hfs : ∀ j, j < N → defaultValue (ty0 j) = vp_V fs j) : qc_new cl B pc (pc + 3) ci N fs := by
  intro p l e R s m args below meth c H locs cells slots Q la rest D tys ws A H0 hB hK hP hD hS hA hr1 hr2 kk
  exact va_new (D := D) (T := T) hB.1 hB.2.1 hB.2.2.2.2.1 hin ty0 hty hB.2.2.2.2.2.1 (hB.2.2.2.2.1 _ h1) (hB.2.2.2.2.1 _ h2) (hB.2.2.2.2.1 _ h3) hK hP hD hS hA hc hfs hr1 hr2 h kk
def qc_newa (B : qe_B) (pc nx : Nat) (ty : FieldType) (a0 : Nat → vp_A) : Prop := ∀ {p : Program} {l : Launch} {e : Env} {R : Room} {s : State} {m : MethodId} {args : Array Value} {below : List Frame} {meth : Method} {c : Code} {H : Heap} {locs : List Loc} {cells slots : Nat} {Q : State → Prop} {la : Array Slot} {rest : List Value} {D : va_G} {tys : List (ClassId × FieldType)} {ws : va_W} {A : Nat → Prop} {H0 : Heap}, qe_bd B p l s m args meth c → va_K D cl tys s → va_P D cl ws H → va_D A ws → va_S A H0 H locs → (∀ q, H0.size ≤ q → A q) → ∀ (n : Int32) (N : Nat), ¬ n < 0 → n.toNatClampNeg = N → N ≤ 65536 → cells + 1 ≤ R.cells → slots + N ≤ R.slots → (∀ (q : Nat) (cA : ClassId) (H1 : Heap), va_K D cl (tys ++ [(cA, ty)]) s → va_P D cl (ws ++ [(q, .inl (cA, a0 N))]) H1 → va_D A (ws ++ [(q, .inl (cA, a0 N))]) → va_S A H0 H1 locs → W p l e R s m args below meth c H1 locs (cells + 1) (slots + N) Q (F0 m nx la (.ref q :: rest))) → W p l e R s m args below meth c H locs cells slots Q (F0 m pc la (.int n :: rest))
theorem qk_newa_int {B : qe_B} {pc : Nat} (h : decode B.2.1 pc = .ok (.newarray .int, 2)) (hw : Cond.arrayClass .int ∈ B.2.2.2.2.1) : qc_newa cl B pc (pc + 2) .int (fun N => (N, .inl (fun _ => 0))) := by
  intro p l e R s m args below meth c H locs cells slots Q la rest D tys ws A H0 hB hK hP hD hS hA n N hn hN hb hr1 hr2 kk
  exact va_newa (D := D) (atype := .int) (ty := .int) hB.1 hB.2.1 (hB.2.2.2.2.1 _ hw) rfl hK hP hD hS hA (a0 := (fun N => (N, .inl (fun _ => 0))) N) (fun _ => rfl) hn hN (Nat.le_trans (Nat.mul_le_mul_right _ hb) (by decide)) hr1 hr2 h kk
theorem qk_newa_boolean {B : qe_B} {pc : Nat} (h : decode B.2.1 pc = .ok (.newarray .boolean, 2)) (hw : Cond.arrayClass .boolean ∈ B.2.2.2.2.1) : qc_newa cl B pc (pc + 2) .boolean (fun N => (N, .inl (fun _ => 0))) := by
  intro p l e R s m args below meth c H locs cells slots Q la rest D tys ws A H0 hB hK hP hD hS hA n N hn hN hb hr1 hr2 kk
  exact va_newa (D := D) (atype := .boolean) (ty := .boolean) hB.1 hB.2.1 (hB.2.2.2.2.1 _ hw) rfl hK hP hD hS hA (a0 := (fun N => (N, .inl (fun _ => 0))) N) (fun _ => rfl) hn hN (Nat.le_trans (Nat.mul_le_mul_right _ hb) (by decide)) hr1 hr2 h kk
theorem qk_newa_long {B : qe_B} {pc : Nat} (h : decode B.2.1 pc = .ok (.newarray .long, 2)) (hw : Cond.arrayClass .long ∈ B.2.2.2.2.1) : qc_newa cl B pc (pc + 2) .long (fun N => (N, .inr (.inl (fun _ => 0)))) := by
  intro p l e R s m args below meth c H locs cells slots Q la rest D tys ws A H0 hB hK hP hD hS hA n N hn hN hb hr1 hr2 kk
  exact va_newa (D := D) (atype := .long) (ty := .long) hB.1 hB.2.1 (hB.2.2.2.2.1 _ hw) rfl hK hP hD hS hA (a0 := (fun N => (N, .inr (.inl (fun _ => 0)))) N) (fun _ => rfl) hn hN (Nat.le_trans (Nat.mul_le_mul_right _ hb) (by decide)) hr1 hr2 h kk
def qc_alen (B : qe_B) (pc nx : Nat) : Prop := ∀ {p : Program} {l : Launch} {e : Env} {R : Room} {s : State} {m : MethodId} {args : Array Value} {below : List Frame} {meth : Method} {c : Code} {H : Heap} {locs : List Loc} {cells slots : Nat} {Q : State → Prop} {la : Array Slot} {rest : List Value} {D : va_G} {tys : List (ClassId × FieldType)} {ws : va_W} {A : Nat → Prop} {H0 : Heap}, qe_bd B p l s m args meth c → va_K D cl tys s → va_P D cl ws H → ∀ (q0 t0 a : Nat) (cA : ClassId) (x : vp_A) (ty : FieldType), ws[q0]? = some (a, .inl (cA, x)) → tys[t0]? = some (cA, ty) → W p l e R s m args below meth c H locs cells slots Q (F0 m nx la (.int (Int32.ofNat x.1) :: rest)) → W p l e R s m args below meth c H locs cells slots Q (F0 m pc la (.ref a :: rest))
theorem qk_alen {B : qe_B} {pc : Nat} (h : decode B.2.1 pc = .ok (.arraylength, 1)) : qc_alen cl B pc (pc + 1) := by
  intro p l e R s m args below meth c H locs cells slots Q la rest D tys ws A H0 hB hK hP q0 t0 a cA x ty ha ht kk
  exact va_alen (D := D) hB.1 hB.2.1 hK hP q0 t0 ha ht rfl h kk
def qc_iald (B : qe_B) (pc nx : Nat) : Prop := ∀ {p : Program} {l : Launch} {e : Env} {R : Room} {s : State} {m : MethodId} {args : Array Value} {below : List Frame} {meth : Method} {c : Code} {H : Heap} {locs : List Loc} {cells slots : Nat} {Q : State → Prop} {la : Array Slot} {rest : List Value} {D : va_G} {tys : List (ClassId × FieldType)} {ws : va_W} {A : Nat → Prop} {H0 : Heap}, qe_bd B p l s m args meth c → va_K D cl tys s → va_P D cl ws H → ∀ (q0 t0 a n : Nat) (cA : ClassId) (f : Nat → Int32) (i : Int32), ws[q0]? = some (a, .inl (cA, n, .inl f)) → tys[t0]? = some (cA, .int) → vp_in i n → W p l e R s m args below meth c H locs cells slots Q (F0 m nx la (.int (f i.toNatClampNeg) :: rest)) → W p l e R s m args below meth c H locs cells slots Q (F0 m pc la (.int i :: .ref a :: rest))
theorem qk_iald {B : qe_B} {pc : Nat} (h : decode B.2.1 pc = .ok (.iaload, 1)) : qc_iald cl B pc (pc + 1) := by
  intro p l e R s m args below meth c H locs cells slots Q la rest D tys ws A H0 hB hK hP q0 t0 a n cA f i ha ht hin kk
  exact va_iald (D := D) hB.1 hB.2.1 hK hP q0 t0 ha ht hin h kk
def qc_zald (B : qe_B) (pc nx : Nat) : Prop := ∀ {p : Program} {l : Launch} {e : Env} {R : Room} {s : State} {m : MethodId} {args : Array Value} {below : List Frame} {meth : Method} {c : Code} {H : Heap} {locs : List Loc} {cells slots : Nat} {Q : State → Prop} {la : Array Slot} {rest : List Value} {D : va_G} {tys : List (ClassId × FieldType)} {ws : va_W} {A : Nat → Prop} {H0 : Heap}, qe_bd B p l s m args meth c → va_K D cl tys s → va_P D cl ws H → ∀ (q0 t0 a n : Nat) (cA : ClassId) (f : Nat → Int32) (i : Int32), ws[q0]? = some (a, .inl (cA, n, .inl f)) → tys[t0]? = some (cA, .boolean) → vp_in i n → W p l e R s m args below meth c H locs cells slots Q (F0 m nx la (.int (f i.toNatClampNeg) :: rest)) → W p l e R s m args below meth c H locs cells slots Q (F0 m pc la (.int i :: .ref a :: rest))
theorem qk_zald {B : qe_B} {pc : Nat} (h : decode B.2.1 pc = .ok (.baload, 1)) : qc_zald cl B pc (pc + 1) := by
  intro p l e R s m args below meth c H locs cells slots Q la rest D tys ws A H0 hB hK hP q0 t0 a n cA f i ha ht hin kk
  exact va_zald (D := D) hB.1 hB.2.1 hK hP q0 t0 ha ht hin h kk
def qc_lald (B : qe_B) (pc nx : Nat) : Prop := ∀ {p : Program} {l : Launch} {e : Env} {R : Room} {s : State} {m : MethodId} {args : Array Value} {below : List Frame} {meth : Method} {c : Code} {H : Heap} {locs : List Loc} {cells slots : Nat} {Q : State → Prop} {la : Array Slot} {rest : List Value} {D : va_G} {tys : List (ClassId × FieldType)} {ws : va_W} {A : Nat → Prop} {H0 : Heap}, qe_bd B p l s m args meth c → va_K D cl tys s → va_P D cl ws H → ∀ (q0 t0 a n : Nat) (cA : ClassId) (f : Nat → Int64) (i : Int32), ws[q0]? = some (a, .inl (cA, n, .inr (.inl f))) → tys[t0]? = some (cA, .long) → vp_in i n → W p l e R s m args below meth c H locs cells slots Q (F0 m nx la (.long (f i.toNatClampNeg) :: rest)) → W p l e R s m args below meth c H locs cells slots Q (F0 m pc la (.int i :: .ref a :: rest))
theorem qk_lald {B : qe_B} {pc : Nat} (h : decode B.2.1 pc = .ok (.laload, 1)) : qc_lald cl B pc (pc + 1) := by
  intro p l e R s m args below meth c H locs cells slots Q la rest D tys ws A H0 hB hK hP q0 t0 a n cA f i ha ht hin kk
  exact va_lald (D := D) hB.1 hB.2.1 hK hP q0 t0 ha ht hin h kk
def qc_iast (B : qe_B) (pc nx : Nat) : Prop := ∀ {p : Program} {l : Launch} {e : Env} {R : Room} {s : State} {m : MethodId} {args : Array Value} {below : List Frame} {meth : Method} {c : Code} {H : Heap} {locs : List Loc} {cells slots : Nat} {Q : State → Prop} {la : Array Slot} {rest : List Value} {D : va_G} {tys : List (ClassId × FieldType)} {ws : va_W} {A : Nat → Prop} {H0 : Heap}, qe_bd B p l s m args meth c → va_K D cl tys s → va_P D cl ws H → va_D A ws → va_S A H0 H locs → ∀ (q0 t0 a n : Nat) (cA : ClassId) (f : Nat → Int32) (i x : Int32), ws[q0]? = some (a, .inl (cA, n, .inl f)) → tys[t0]? = some (cA, .int) → vp_in i n → (∀ (H1 : Heap) (locs1 : List Loc), va_P D cl (ws.set q0 (a, .inl (cA, n, .inl (upd f i.toNatClampNeg x)))) H1 → va_D A (ws.set q0 (a, .inl (cA, n, .inl (upd f i.toNatClampNeg x)))) → va_S A H0 H1 locs1 → W p l e R s m args below meth c H1 locs1 cells slots Q (F0 m nx la rest)) → W p l e R s m args below meth c H locs cells slots Q (F0 m pc la (.int x :: .int i :: .ref a :: rest))
theorem qk_iast {B : qe_B} {pc : Nat} (h : decode B.2.1 pc = .ok (.iastore, 1)) : qc_iast cl B pc (pc + 1) := by
  intro p l e R s m args below meth c H locs cells slots Q la rest D tys ws A H0 hB hK hP hD hS q0 t0 a n cA f i x ha ht hin kk
  exact va_iast (D := D) hB.1 hB.2.1 hK hP hD hS q0 t0 ha ht hin h kk
def qc_zast (B : qe_B) (pc nx : Nat) : Prop := ∀ {p : Program} {l : Launch} {e : Env} {R : Room} {s : State} {m : MethodId} {args : Array Value} {below : List Frame} {meth : Method} {c : Code} {H : Heap} {locs : List Loc} {cells slots : Nat} {Q : State → Prop} {la : Array Slot} {rest : List Value} {D : va_G} {tys : List (ClassId × FieldType)} {ws : va_W} {A : Nat → Prop} {H0 : Heap}, qe_bd B p l s m args meth c → va_K D cl tys s → va_P D cl ws H → va_D A ws → va_S A H0 H locs → ∀ (q0 t0 a n : Nat) (cA : ClassId) (f : Nat → Int32) (i x : Int32), ws[q0]? = some (a, .inl (cA, n, .inl f)) → tys[t0]? = some (cA, .boolean) → vp_in i n → vp_nar .boolean x = x → (∀ (H1 : Heap) (locs1 : List Loc), va_P D cl (ws.set q0 (a, .inl (cA, n, .inl (upd f i.toNatClampNeg x)))) H1 → va_D A (ws.set q0 (a, .inl (cA, n, .inl (upd f i.toNatClampNeg x)))) → va_S A H0 H1 locs1 → W p l e R s m args below meth c H1 locs1 cells slots Q (F0 m nx la rest)) → W p l e R s m args below meth c H locs cells slots Q (F0 m pc la (.int x :: .int i :: .ref a :: rest))
theorem qk_zast {B : qe_B} {pc : Nat} (h : decode B.2.1 pc = .ok (.bastore, 1)) : qc_zast cl B pc (pc + 1) := by
  intro p l e R s m args below meth c H locs cells slots Q la rest D tys ws A H0 hB hK hP hD hS q0 t0 a n cA f i x ha ht hin hx kk
  exact va_zast (D := D) hB.1 hB.2.1 hK hP hD hS q0 t0 ha ht hin h (by rw [hx]; exact kk)
def qc_last (B : qe_B) (pc nx : Nat) : Prop := ∀ {p : Program} {l : Launch} {e : Env} {R : Room} {s : State} {m : MethodId} {args : Array Value} {below : List Frame} {meth : Method} {c : Code} {H : Heap} {locs : List Loc} {cells slots : Nat} {Q : State → Prop} {la : Array Slot} {rest : List Value} {D : va_G} {tys : List (ClassId × FieldType)} {ws : va_W} {A : Nat → Prop} {H0 : Heap}, qe_bd B p l s m args meth c → va_K D cl tys s → va_P D cl ws H → va_D A ws → va_S A H0 H locs → ∀ (q0 t0 a n : Nat) (cA : ClassId) (f : Nat → Int64) (i : Int32) (x : Int64), ws[q0]? = some (a, .inl (cA, n, .inr (.inl f))) → tys[t0]? = some (cA, .long) → vp_in i n → (∀ (H1 : Heap) (locs1 : List Loc), va_P D cl (ws.set q0 (a, .inl (cA, n, .inr (.inl (vp_updL f i.toNatClampNeg x))))) H1 → va_D A (ws.set q0 (a, .inl (cA, n, .inr (.inl (vp_updL f i.toNatClampNeg x))))) → va_S A H0 H1 locs1 → W p l e R s m args below meth c H1 locs1 cells slots Q (F0 m nx la rest)) → W p l e R s m args below meth c H locs cells slots Q (F0 m pc la (.long x :: .int i :: .ref a :: rest))
theorem qk_last {B : qe_B} {pc : Nat} (h : decode B.2.1 pc = .ok (.lastore, 1)) : qc_last cl B pc (pc + 1) := by
  intro p l e R s m args below meth c H locs cells slots Q la rest D tys ws A H0 hB hK hP hD hS q0 t0 a n cA f i x ha ht hin kk
  exact va_last (D := D) hB.1 hB.2.1 hK hP hD hS q0 t0 ha ht hin h kk
end QEK
end
section
/-! ENGINE, part 6: the engine: what a method does with a world, all roads at once; made by hand -/
section QER
/-- an end: what is known, kind (0 returned, 1 returned a value, k + 2 thrown of sort k), value, world, cells and slots made -/
abbrev qe_O (dp : Nat) : Type := qe_Cx × Nat × Nat × Nat × qe_T dp × Nat × Nat
abbrev qe_R1 (dp : Nat) : Type := Option (List (qe_O dp))
/-- a world on the way: its cells' number, the cells, what is known, cells and slots made -/
abbrev qe_G (dp : Nat) : Type := Nat × qe_T dp × qe_Cx × Nat × Nat
/-- from a block of this method on: block, locals, stack, world -/
abbrev qe_K (dp : Nat) : Type := Nat → Nat → List Nat → qe_G dp → qe_R1 dp
/-- .. of any method -/
abbrev qe_C1 (dp : Nat) : Type := Nat → qe_K dp
/-- .. so deep -/
abbrev qe_F (dp : Nat) : Type := Nat → qe_C1 dp
/-- from an instruction on -/
abbrev qe_N (dp : Nat) : Type := qe_K dp → qe_C1 dp → Nat → List Nat → qe_G dp → qe_R1 dp
variable {dp : Nat}
def qo_cx (o : qe_O dp) : qe_Cx := o.1
def qo_k (o : qe_O dp) : Nat := o.2.1
def qo_v (o : qe_O dp) : Nat := o.2.2.1
def qo_n (o : qe_O dp) : Nat := o.2.2.2.1
def qo_t (o : qe_O dp) : qe_T dp := o.2.2.2.2.1
def qo_ce (o : qe_O dp) : Nat := o.2.2.2.2.2.1
def qo_sl (o : qe_O dp) : Nat := o.2.2.2.2.2.2
def qg_n (g : qe_G dp) : Nat := g.1
def qg_t (g : qe_G dp) : qe_T dp := g.2.1
def qg_cx (g : qe_G dp) : qe_Cx := g.2.2.1
def qg_ce (g : qe_G dp) : Nat := g.2.2.2.1
def qg_sl (g : qe_G dp) : Nat := g.2.2.2.2
/-- the same world, more known; another tree -/
def qg_wc (g : qe_G dp) (cx : qe_Cx) : qe_G dp := (g.1, g.2.1, cx, g.2.2.2.1, g.2.2.2.2)
def qg_wt (g : qe_G dp) (t : qe_T dp) : qe_G dp := (g.1, t, g.2.2.1, g.2.2.2.1, g.2.2.2.2)
def qe_lim : Nat := 4722366482869645213696
noncomputable def qe_ge (ce sl : Nat) (r : qe_R1 dp) : qe_R1 dp := Option.bind r fun l => List.rec (motive := fun _ => qe_R1 dp) none (fun o os _ => cond (Nat.ble ce (qo_ce o) && Nat.ble sl (qo_sl o)) (some (o :: os)) none) l
theorem qe_ge_ok {ce sl : Nat} {r : qe_R1 dp} {outs : List (qe_O dp)} (h : qe_ge ce sl r = some outs) : r = some outs ∧ ∃ o ∈ outs, ce ≤ qo_ce o ∧ sl ≤ qo_sl o := by
  unfold qe_ge at h
  cases r with
  | none => cases h
  | some l =>
    cases l with
    | nil => cases h
    | cons o os =>
      cases hc : (Nat.ble ce (qo_ce o) && Nat.ble sl (qo_sl o))
      · simp only [Option.bind, hc, cond_false] at h; cases h
      · simp only [Option.bind, hc, cond_true] at h
        rw [Bool.and_eq_true] at hc
        have e : o :: os = outs := Option.some.inj h
        exact ⟨by rw [e], o, by rw [← e]; exact List.mem_cons_self, Nat.le_of_ble_eq_true hc.1, Nat.le_of_ble_eq_true hc.2⟩
noncomputable def qe_each {α : Type} (l : List α) (f : α → qe_R1 dp) : qe_R1 dp := List.rec (motive := fun _ => qe_R1 dp) (some []) (fun a _ ih => Option.bind (f a) fun x => Option.bind ih fun y => some (x ++ y)) l
theorem qe_each_ok {α : Type} {f : α → qe_R1 dp} : ∀ {l : List α} {outs : List (qe_O dp)}, qe_each l f = some outs → ∀ a ∈ l, ∃ oa, f a = some oa ∧ ∀ o ∈ oa, o ∈ outs
  | [], _, _, a, ha => by cases ha
  | b :: l, outs, h, a, ha => by
    change (Option.bind (f b) fun x => Option.bind (qe_each l f) fun y => some (x ++ y)) = some outs at h
    cases hb : f b with
    | none => rw [hb] at h; cases h
    | some x =>
      rw [hb] at h
      change (Option.bind (qe_each l f) fun y => some (x ++ y)) = some outs at h
      cases hl : qe_each l f with
      | none => rw [hl] at h; cases h
      | some y =>
        rw [hl] at h
        have e : x ++ y = outs := Option.some.inj h
        rcases List.mem_cons.mp ha with rfl | ha
        · exact ⟨x, hb, fun o ho => by rw [← e]; exact List.mem_append_left _ ho⟩
        · obtain ⟨oa, h1, h2⟩ := qe_each_ok hl a ha
          exact ⟨oa, h1, fun o ho => by rw [← e]; exact List.mem_append_right _ (h2 o ho)⟩
/-- an int read off a list -/
noncomputable def qe_hd {α : Type} (l : List Nat) (f : Nat → List Nat → Option α) : Option α := List.rec (motive := fun _ => Option α) none (fun v r _ => f v r) l
noncomputable def qe_e0 {α : Type} (l : List Nat) (x : Option α) : Option α := List.rec (motive := fun _ => Option α) x (fun _ _ _ => none) l
theorem qe_hd_ok {α : Type} {l : List Nat} {f : Nat → List Nat → Option α} {x : α} (h : qe_hd l f = some x) : ∃ v r, l = v :: r ∧ f v r = some x := by
  cases l with
  | nil => cases h
  | cons v r => exact ⟨v, r, rfl, h⟩
theorem qe_e0_ok {α : Type} {l : List Nat} {y : Option α} {x : α} (h : qe_e0 l y = some x) : l = [] ∧ y = some x := by
  cases l with
  | nil => exact ⟨rfl, h⟩
  | cons v r => cases h
theorem qe_if_ok {α : Type} {b : Bool} {y : Option α} {x : α} (h : cond b y none = some x) : b = true ∧ y = some x := by
  cases b
  · cases h
  · exact ⟨rfl, h⟩
theorem qe_bind_ok {α β : Type} {y : Option α} {f : α → Option β} {x : β} (h : Option.bind y f = some x) : ∃ z, y = some z ∧ f z = some x := by
  cases y with
  | none => cases h
  | some z => exact ⟨z, rfl, h⟩
/-- the place before is no long -/
def qe_pl (ls a : Nat) : Bool := Nat.beq a 0 || !(qe_is 1 (qe_get ls (Nat.sub a 1)))
theorem qe_pl_ok {ls a : Nat} (h : qe_pl ls a = true) : a = 0 ∨ qe_is 1 (qe_get ls (a - 1)) = false := by
  unfold qe_pl at h
  rw [Bool.or_eq_true] at h
  rcases h with h | h
  · exact Or.inl (Nat.eq_of_beq_eq_true h)
  · exact Or.inr (by simpa using h)
/-- places on the stack -/
noncomputable def qe_cs (l : List Nat) : Nat := List.rec (motive := fun _ => Nat) 0 (fun v _ ih => Nat.add ih (cond (qe_is 1 v) 2 1)) l
/-- a value fits a type: 1 int, 2 boolean, 3 long, 4 reference -/
def qe_fit (ty v : Nat) : Bool := cond (Nat.beq ty 1) (qe_is 0 v) (cond (Nat.beq ty 2) (Nat.beq v 0 || Nat.beq v 8) (cond (Nat.beq ty 3) (qe_is 1 v) (cond (Nat.beq ty 4) (qe_is 2 v || Nat.beq v 3) false)))
def qe_sx (p : Nat) : Nat := cond (Nat.blt (qe_m p) 2147483648) (qe_m p) (Nat.add (qe_m p) 18446744069414584320)
def qe_i2l (x : Nat) : Nat := cond (qe_sym x) (Nat.add x 1) (qe_L (qe_sx (Nat.div x 8)))
/-- the index that an int is, where one is known -/
def qe_cnc (cx : qe_Cx) (v : Nat) : Option Nat := cond (qe_is 0 v) (cond (qe_sym v) (cond (Nat.beq (qe_rng (Nat.div v 8) cx).1 (qe_rng (Nat.div v 8) cx).2 && Nat.ble 2147483648 (qe_rng (Nat.div v 8) cx).1) (some (Nat.sub (qe_rng (Nat.div v 8) cx).1 2147483648)) none) (cond (Nat.blt (Nat.div v 8) 2147483648) (some (Nat.div v 8)) none)) none
def qe_wrf (r : Nat) : Bool := qe_is 2 r && !(qe_sym r)
noncomputable def qe_cl (g : qe_G dp) (r : Nat) : qe_C := qe_rd dp (qg_t g) (Nat.div r 8)
noncomputable def qe_up (g : qe_G dp) (r i v : Nat) : qe_G dp := qg_wt g (qe_wr dp (qg_t g) (Nat.div r 8) ((qe_cl g r).1, (qe_cl g r).2.1, qe_set (qe_cl g r).2.2 i v))
/-- one cell more, of N places -/
noncomputable def qe_mk (g : qe_G dp) (x : qe_C) (N : Nat) : qe_G dp := (Nat.add (qg_n g) 1, qe_wr dp (qg_t g) (qg_n g) x, qg_cx g, Nat.add (qg_ce g) 1, Nat.add (qg_sl g) N)
/-- two ints are compared and the run goes on: at once where both are known -/
noncomputable def qe_go2 (g : qe_G dp) (x y : Nat) (f : Nat → qe_G dp → qe_R1 dp) : qe_R1 dp := cond (qe_sym x || qe_sym y) (Option.bind (qe_cmp (qg_cx g) x y qe_foI) fun L => qe_each L fun q => f q.2 (qg_wc g q.1)) (f (qe_c3 (qe_of (Nat.div x 8)) (qe_of (Nat.div y 8))) g)
def qe_kL (x : Nat) : Nat := Nat.sub (qe_ofL (Nat.div x 8)) 9223372034707292160
def qe_okL (x : Nat) : Bool := Nat.ble 9223372034707292160 (qe_ofL (Nat.div x 8))
noncomputable def qe_go2L (g : qe_G dp) (x y : Nat) (f : Nat → qe_G dp → qe_R1 dp) : qe_R1 dp := cond (qe_sym x || qe_sym y) (Option.bind (qe_cmp (qg_cx g) x y qe_foL) fun L => qe_each L fun q => f q.2 (qg_wc g q.1)) (f (qe_c3 (qe_ofL (Nat.div x 8)) (qe_ofL (Nat.div y 8))) g)
noncomputable def ql_push (a : Nat) (nt : qe_N dp) (k : qe_K dp) (c : qe_C1 dp) (ls : Nat) (st : List Nat) (g : qe_G dp) : qe_R1 dp := nt k c ls (a :: st) g
noncomputable def ql_ld (s a : Nat) (nt : qe_N dp) (k : qe_K dp) (c : qe_C1 dp) (ls : Nat) (st : List Nat) (g : qe_G dp) : qe_R1 dp := cond (qe_is s (qe_get ls a)) (nt k c ls (qe_get ls a :: st) g) none
noncomputable def ql_st1 (s a : Nat) (nt : qe_N dp) (k : qe_K dp) (c : qe_C1 dp) (ls : Nat) (st : List Nat) (g : qe_G dp) : qe_R1 dp := qe_hd st fun v r => cond (qe_is s v && (qe_pl ls a && Nat.blt v qe_lim)) (nt k c (qe_set ls a v) r g) none
noncomputable def ql_st2 (a : Nat) (nt : qe_N dp) (k : qe_K dp) (c : qe_C1 dp) (ls : Nat) (st : List Nat) (g : qe_G dp) : qe_R1 dp := qe_hd st fun v r => cond (qe_is 1 v && (qe_pl ls a && Nat.blt v qe_lim)) (nt k c (qe_set (qe_set ls a v) (Nat.add a 1) 7) r g) none
noncomputable def ql_inc (df : qe_Df) (a i : Nat) (nt : qe_N dp) (k : qe_K dp) (c : qe_C1 dp) (ls : Nat) (st : List Nat) (g : qe_G dp) : qe_R1 dp := Option.bind (qe_bin df 10 (qe_get ls a) (qe_I i)) fun z => cond (qe_pl ls a && Nat.blt z qe_lim) (nt k c (qe_set ls a z) st g) none
noncomputable def ql_bin (df : qe_Df) (o : Nat) (nt : qe_N dp) (k : qe_K dp) (c : qe_C1 dp) (ls : Nat) (st : List Nat) (g : qe_G dp) : qe_R1 dp := qe_hd st fun y r1 => qe_hd r1 fun x r => Option.bind (qe_bin df o x y) fun z => nt k c ls (z :: r) g
noncomputable def ql_neg (df : qe_Df) (nt : qe_N dp) (k : qe_K dp) (c : qe_C1 dp) (ls : Nat) (st : List Nat) (g : qe_G dp) : qe_R1 dp := qe_hd st fun x r => Option.bind (qe_bin df 11 0 x) fun z => nt k c ls (z :: r) g
noncomputable def ql_div (nt : qe_N dp) (k : qe_K dp) (c : qe_C1 dp) (ls : Nat) (st : List Nat) (g : qe_G dp) : qe_R1 dp := qe_hd st fun y r1 => qe_hd r1 fun x r => cond ((qe_is 0 x && qe_is 0 y) && (!(qe_sym x || qe_sym y) && (Nat.blt (Nat.div x 8) 2147483648 && (Nat.blt (Nat.div y 8) 2147483648 && Nat.blt 0 (Nat.div y 8))))) (nt k c ls (qe_I (Nat.div (Nat.div x 8) (Nat.div y 8)) :: r) g) none
noncomputable def ql_i2l (nt : qe_N dp) (k : qe_K dp) (c : qe_C1 dp) (ls : Nat) (st : List Nat) (g : qe_G dp) : qe_R1 dp := qe_hd st fun x r => cond (qe_is 0 x) (nt k c ls (qe_i2l x :: r) g) none
noncomputable def ql_lcmp (nt : qe_N dp) (k : qe_K dp) (c : qe_C1 dp) (ls : Nat) (st : List Nat) (g : qe_G dp) : qe_R1 dp := qe_hd st fun y r1 => qe_hd r1 fun x r => cond (qe_is 1 x && qe_is 1 y) (qe_go2L g x y fun q g2 => nt k c ls (qe_cmpr q :: r) g2) none
noncomputable def ql_dup (nt : qe_N dp) (k : qe_K dp) (c : qe_C1 dp) (ls : Nat) (st : List Nat) (g : qe_G dp) : qe_R1 dp := qe_hd st fun v r => cond (!(qe_is 1 v)) (nt k c ls (v :: v :: r) g) none
noncomputable def ql_pop (nt : qe_N dp) (k : qe_K dp) (c : qe_C1 dp) (ls : Nat) (st : List Nat) (g : qe_G dp) : qe_R1 dp := qe_hd st fun v r => cond (!(qe_is 1 v)) (nt k c ls r g) none
noncomputable def ql_dup2 (nt : qe_N dp) (k : qe_K dp) (c : qe_C1 dp) (ls : Nat) (st : List Nat) (g : qe_G dp) : qe_R1 dp := qe_hd st fun v r1 => qe_hd r1 fun w r => cond (!(qe_is 1 v) && !(qe_is 1 w)) (nt k c ls (v :: w :: v :: w :: r) g) none
noncomputable def ql_jmp (b : Nat) (k : qe_K dp) (c : qe_C1 dp) (ls : Nat) (st : List Nat) (g : qe_G dp) : qe_R1 dp := k b ls st g
noncomputable def ql_if (o b : Nat) (nt : qe_N dp) (k : qe_K dp) (c : qe_C1 dp) (ls : Nat) (st : List Nat) (g : qe_G dp) : qe_R1 dp := qe_hd st fun x r => cond (qe_is 0 x) (qe_go2 g x 0 fun q g2 => cond (qe_br o q) (k b ls r g2) (nt k c ls r g2)) none
noncomputable def ql_ic (o b : Nat) (nt : qe_N dp) (k : qe_K dp) (c : qe_C1 dp) (ls : Nat) (st : List Nat) (g : qe_G dp) : qe_R1 dp := qe_hd st fun y r1 => qe_hd r1 fun x r => cond (qe_is 0 x && qe_is 0 y) (qe_go2 g x y fun q g2 => cond (qe_br o q) (k b ls r g2) (nt k c ls r g2)) none
noncomputable def qe_swr (k : qe_K dp) (df x ls : Nat) (r : List Nat) (tg : List Nat) : Nat → qe_G dp → qe_R1 dp := List.rec (motive := fun _ => Nat → qe_G dp → qe_R1 dp) (fun _ g => k df ls r g) (fun b _ ih i g => qe_go2 g x (qe_I i) fun q g2 => cond (Nat.beq q 0) (k df ls r g2) (cond (Nat.beq q 1) (k b ls r g2) (ih (Nat.add i 1) g2))) tg
noncomputable def ql_sw (lo df : Nat) (tg : List Nat) (k : qe_K dp) (c : qe_C1 dp) (ls : Nat) (st : List Nat) (g : qe_G dp) : qe_R1 dp := qe_hd st fun x r => cond (qe_is 0 x) (qe_swr k df x ls r tg lo g) none
noncomputable def ql_get (ci fk : Nat) (nt : qe_N dp) (k : qe_K dp) (c : qe_C1 dp) (ls : Nat) (st : List Nat) (g : qe_G dp) : qe_R1 dp := qe_hd st fun r rest => cond (qe_wrf r && (Nat.beq (qe_cl g r).1 ci && Nat.blt fk (qe_cl g r).2.1)) (nt k c ls (qe_get (qe_cl g r).2.2 fk :: rest) g) none
noncomputable def ql_put (ci fk ty : Nat) (nt : qe_N dp) (k : qe_K dp) (c : qe_C1 dp) (ls : Nat) (st : List Nat) (g : qe_G dp) : qe_R1 dp := qe_hd st fun v r1 => qe_hd r1 fun r rest => cond ((qe_wrf r && (Nat.beq (qe_cl g r).1 ci && Nat.blt fk (qe_cl g r).2.1)) && (qe_fit ty v && Nat.blt v qe_lim)) (nt k c ls rest (qe_up g r fk v)) none
noncomputable def ql_new (ci N nd : Nat) (nt : qe_N dp) (k : qe_K dp) (c : qe_C1 dp) (ls : Nat) (st : List Nat) (g : qe_G dp) : qe_R1 dp := cond (Nat.blt (qg_n g) (Nat.pow 2 dp)) (qe_ge (Nat.add (qg_ce g) 1) (Nat.add (qg_sl g) N) (nt k c ls (qe_R (qg_n g) :: st) (qe_mk g (ci, N, nd) N))) none
noncomputable def ql_newa (kd : Nat) (nt : qe_N dp) (k : qe_K dp) (c : qe_C1 dp) (ls : Nat) (st : List Nat) (g : qe_G dp) : qe_R1 dp := qe_hd st fun v rest => cond ((qe_is 0 v && !(qe_sym v)) && (Nat.blt (Nat.div v 8) 65536 && Nat.blt (qg_n g) (Nat.pow 2 dp))) (qe_ge (Nat.add (qg_ce g) 1) (Nat.add (qg_sl g) (Nat.div v 8)) (nt k c ls (qe_R (qg_n g) :: rest) (qe_mk g (kd, Nat.div v 8, 0) (Nat.div v 8)))) none
def qe_arr (kd : Nat) : Bool := Nat.ble 100 kd && Nat.ble kd 102
noncomputable def ql_alen (nt : qe_N dp) (k : qe_K dp) (c : qe_C1 dp) (ls : Nat) (st : List Nat) (g : qe_G dp) : qe_R1 dp := qe_hd st fun r rest => cond (qe_wrf r && qe_arr (qe_cl g r).1) (nt k c ls (qe_I (qe_cl g r).2.1 :: rest) g) none
noncomputable def ql_ald (kd : Nat) (nt : qe_N dp) (k : qe_K dp) (c : qe_C1 dp) (ls : Nat) (st : List Nat) (g : qe_G dp) : qe_R1 dp := qe_hd st fun i r1 => qe_hd r1 fun r rest => Option.bind (qe_cnc (qg_cx g) i) fun ii => cond ((qe_wrf r && Nat.beq (qe_cl g r).1 kd) && (Nat.blt ii (qe_cl g r).2.1 && (Nat.blt ii 65536 && qe_is 0 (qe_get (qe_cl g r).2.2 ii)))) (nt k c ls (qe_get (qe_cl g r).2.2 ii :: rest) g) none
/-- a long of a row; a place never written is 0 -/
def qe_lz (v : Nat) : Nat := cond (qe_is 1 v) v (cond (Nat.beq v 0) 1 7)
noncomputable def ql_lald (nt : qe_N dp) (k : qe_K dp) (c : qe_C1 dp) (ls : Nat) (st : List Nat) (g : qe_G dp) : qe_R1 dp := qe_hd st fun i r1 => qe_hd r1 fun r rest => Option.bind (qe_cnc (qg_cx g) i) fun ii => cond ((qe_wrf r && Nat.beq (qe_cl g r).1 102) && (Nat.blt ii (qe_cl g r).2.1 && (Nat.blt ii 65536 && qe_is 1 (qe_lz (qe_get (qe_cl g r).2.2 ii))))) (nt k c ls (qe_lz (qe_get (qe_cl g r).2.2 ii) :: rest) g) none
noncomputable def ql_ast (kd ty : Nat) (nt : qe_N dp) (k : qe_K dp) (c : qe_C1 dp) (ls : Nat) (st : List Nat) (g : qe_G dp) : qe_R1 dp := qe_hd st fun v r0 => qe_hd r0 fun i r1 => qe_hd r1 fun r rest => Option.bind (qe_cnc (qg_cx g) i) fun ii => cond ((qe_wrf r && Nat.beq (qe_cl g r).1 kd) && ((Nat.blt ii (qe_cl g r).2.1 && Nat.blt ii 65536) && (qe_fit ty v && Nat.blt v qe_lim))) (nt k c ls rest (qe_up g r ii v)) none
/-- the arguments out of the stack, the first one first -/
noncomputable def qe_tk (m : Nat) : List Nat → List Nat → (List Nat → List Nat → qe_R1 dp) → qe_R1 dp := Nat.rec (motive := fun _ => List Nat → List Nat → (List Nat → List Nat → qe_R1 dp) → qe_R1 dp) (fun acc st f => f acc st) (fun _ ih acc st f => qe_hd st fun v r => ih (v :: acc) r f) m
/-- a method's first locals: 24 places -/
def qe_ls0 : Nat := 0x7000000000000000007000000000000000007000000000000000007000000000000000007000000000000000007000000000000000007000000000000000007000000000000000007000000000000000007000000000000000007000000000000000007000000000000000007000000000000000007000000000000000007000000000000000007000000000000000007000000000000000007000000000000000007000000000000000007000000000000000007000000000000000007000000000000000007000000000000000007
noncomputable def qe_lcl (as : List Nat) : Nat → Nat → Nat := List.rec (motive := fun _ => Nat → Nat → Nat) (fun _ ls => ls) (fun v _ ih i ls => ih (cond (qe_is 1 v) (Nat.add i 2) (Nat.add i 1)) (qe_set ls i v)) as
noncomputable def qe_mxc (l : List (qe_O dp)) : Nat := List.rec (motive := fun _ => Nat) 0 (fun o _ ih => cond (Nat.ble ih (qo_ce o)) (qo_ce o) ih) l
noncomputable def qe_mxs (l : List (qe_O dp)) : Nat := List.rec (motive := fun _ => Nat) 0 (fun o _ ih => cond (Nat.ble ih (qo_sl o)) (qo_sl o) ih) l
theorem qe_mxc_ok : ∀ {l : List (qe_O dp)}, ∀ o ∈ l, qo_ce o ≤ qe_mxc l
  | [], o, h => by cases h
  | a :: l, o, h => by
    change qo_ce o ≤ cond (Nat.ble (qe_mxc l) (qo_ce a)) (qo_ce a) (qe_mxc l)
    rcases List.mem_cons.mp h with rfl | h
    · cases hb : Nat.ble (qe_mxc l) (qo_ce o)
      · show qo_ce o ≤ qe_mxc l
        rcases Nat.lt_or_ge (qe_mxc l) (qo_ce o) with q | q
        · rw [Nat.ble_eq_true_of_le (Nat.le_of_lt q)] at hb; cases hb
        · exact q
      · exact Nat.le_refl _
    · have := qe_mxc_ok o h
      cases hb : Nat.ble (qe_mxc l) (qo_ce a)
      · exact this
      · exact Nat.le_trans this (Nat.le_of_ble_eq_true hb)
theorem qe_mxs_ok : ∀ {l : List (qe_O dp)}, ∀ o ∈ l, qo_sl o ≤ qe_mxs l
  | [], o, h => by cases h
  | a :: l, o, h => by
    change qo_sl o ≤ cond (Nat.ble (qe_mxs l) (qo_sl a)) (qo_sl a) (qe_mxs l)
    rcases List.mem_cons.mp h with rfl | h
    · cases hb : Nat.ble (qe_mxs l) (qo_sl o)
      · show qo_sl o ≤ qe_mxs l
        rcases Nat.lt_or_ge (qe_mxs l) (qo_sl o) with q | q
        · rw [Nat.ble_eq_true_of_le (Nat.le_of_lt q)] at hb; cases hb
        · exact q
      · exact Nat.le_refl _
    · have := qe_mxs_ok o h
      cases hb : Nat.ble (qe_mxs l) (qo_sl a)
      · exact this
      · exact Nat.le_trans this (Nat.le_of_ble_eq_true hb)
/-- the receiver: rc = 0: none; else an object of kind rc - 1, the first argument -/
noncomputable def qe_rcv (rc : Nat) (as : List Nat) (g : qe_G dp) : Bool := cond (Nat.beq rc 0) true (List.rec (motive := fun _ => Bool) false (fun v _ _ => qe_wrf v && Nat.beq (qe_cl g v).1 (Nat.sub rc 1)) as)
/-- handlers: what is thrown, block behind the store, its place -/
noncomputable def qe_hn (e : Nat) (l : List (Nat × Nat × Nat)) {α : Type} (z : α) (f : Nat → Nat → α) : α := List.rec (motive := fun _ => α) z (fun q _ ih => cond (Nat.beq q.1 e) (f q.2.1 q.2.2) ih) l
/-- behind a call -/
noncomputable def qe_aft (th : Bool) (hn : List (Nat × Nat × Nat)) (nt : qe_N dp) (k : qe_K dp) (c : qe_C1 dp) (ls : Nat) (rest : List Nat) (ce sl : Nat) (o : qe_O dp) : qe_R1 dp :=
  cond (Nat.beq (qo_k o) 0) (nt k c ls rest (qo_n o, qo_t o, qo_cx o, ce, sl)) (cond (Nat.beq (qo_k o) 1) (nt k c ls (qo_v o :: rest) (qo_n o, qo_t o, qo_cx o, ce, sl))
    (qe_hn (Nat.sub (qo_k o) 2) hn (cond th (some [(qo_cx o, qo_k o, 0, qo_n o, qo_t o, ce, sl)]) none) fun b i => cond (qe_pl ls i) (k b (qe_set ls i 7) [] (qo_n o, qo_t o, qo_cx o, ce, sl)) none))
/-- one way back: at once -/
noncomputable def qe_one (l : List (qe_O dp)) (f : qe_O dp → qe_R1 dp) : qe_R1 dp := List.rec (motive := fun _ => qe_R1 dp) none (fun o os _ => List.rec (motive := fun _ => qe_R1 dp) (f o) (fun _ _ _ => qe_each l f) os) l
noncomputable def ql_inv (jj na rc mx : Nat) (th : Bool) (hn : List (Nat × Nat × Nat)) (nt : qe_N dp) (k : qe_K dp) (c : qe_C1 dp) (ls : Nat) (st : List Nat) (g : qe_G dp) : qe_R1 dp :=
  qe_tk na [] st fun as rest => cond ((qe_rcv rc as g && Nat.ble (qe_cs as) mx) && (Nat.ble (qe_cs rest) 8 && List.all as (fun v => Nat.blt v qe_lim && !(Nat.beq v 7)))) (Option.bind (c jj 0 (qe_lcl as 0 qe_ls0) [] (qg_n g, qg_t g, qg_cx g, 0, 0)) fun outs =>
    cond (Nat.beq (qe_mxc outs) 0 && Nat.beq (qe_mxs outs) 0) (qe_one outs fun o => qe_aft th hn nt k c ls rest (qg_ce g) (qg_sl g) o) (qe_ge (Nat.add (qg_ce g) (qe_mxc outs)) (Nat.add (qg_sl g) (qe_mxs outs)) (qe_one outs fun o => qe_aft th hn nt k c ls rest (Nat.add (qg_ce g) (qe_mxc outs)) (Nat.add (qg_sl g) (qe_mxs outs)) o))) none
noncomputable def ql_ret (rt : Nat) (k : qe_K dp) (c : qe_C1 dp) (ls : Nat) (st : List Nat) (g : qe_G dp) : qe_R1 dp := qe_hd st fun v r => qe_e0 r (cond (qe_fit rt v) (some [(qg_cx g, 1, v, qg_n g, qg_t g, qg_ce g, qg_sl g)]) none)
noncomputable def ql_ret0 (k : qe_K dp) (c : qe_C1 dp) (ls : Nat) (st : List Nat) (g : qe_G dp) : qe_R1 dp := qe_e0 st (some [(qg_cx g, 0, 0, qg_n g, qg_t g, qg_ce g, qg_sl g)])
noncomputable def ql_thr (a : Nat) (k : qe_K dp) (c : qe_C1 dp) (ls : Nat) (st : List Nat) (g : qe_G dp) : qe_R1 dp := cond (Nat.ble (qe_cs st) 8) (some [(qg_cx g, Nat.add a 2, 0, qg_n g, qg_t g, Nat.add (qg_ce g) 1, Nat.add (qg_sl g) 6)]) none
noncomputable def ql_mm (w : Nat) (nt : qe_N dp) (k : qe_K dp) (c : qe_C1 dp) (ls : Nat) (st : List Nat) (g : qe_G dp) : qe_R1 dp := qe_hd st fun y r1 => qe_hd r1 fun x r => cond ((qe_is 0 x && qe_is 0 y) && Nat.ble (qe_cs r) 8) (qe_go2 g x y fun q g2 => nt k c ls (cond (Nat.beq q w) y x :: r) g2) none
noncomputable def ql_obj (nt : qe_N dp) (k : qe_K dp) (c : qe_C1 dp) (ls : Nat) (st : List Nat) (g : qe_G dp) : qe_R1 dp := qe_hd st fun r rest => cond (qe_is 2 r && Nat.ble (qe_cs rest) 8) (nt k c ls rest g) none
noncomputable def ql_slen (f : Nat → Nat) (nt : qe_N dp) (k : qe_K dp) (c : qe_C1 dp) (ls : Nat) (st : List Nat) (g : qe_G dp) : qe_R1 dp := qe_hd st fun r rest => cond ((Nat.beq (Nat.mod r 8) 6 && Nat.blt 0 (f (Nat.div r 8))) && Nat.ble (qe_cs rest) 8) (nt k c ls (qe_I (f (Nat.div r 8)) :: rest) g) none
noncomputable def ql_xlen (L : Nat) (nt : qe_N dp) (k : qe_K dp) (c : qe_C1 dp) (ls : Nat) (st : List Nat) (g : qe_G dp) : qe_R1 dp := qe_hd st fun r rest => cond (Nat.beq r 6) (nt k c ls (qe_I L :: rest) g) none
noncomputable def ql_xld (L : Nat) (nt : qe_N dp) (k : qe_K dp) (c : qe_C1 dp) (ls : Nat) (st : List Nat) (g : qe_G dp) : qe_R1 dp := qe_hd st fun i r1 => qe_hd r1 fun r rest => cond (Nat.beq r 6 && ((qe_is 0 i && !(qe_sym i)) && (Nat.blt (Nat.div i 8) L && Nat.blt (Nat.div i 8) 65536))) (nt k c ls (Nat.add (Nat.mul 8 (Nat.div i 8)) 4 :: rest) g) none
/-- copying between int rows, from the first place of both on -/
def qe_cpy (m s d : Nat) : Nat := Nat.add (Nat.shiftLeft (Nat.shiftRight d (Nat.mul 72 m)) (Nat.mul 72 m)) (Nat.mod s (Nat.pow 2 (Nat.mul 72 m)))
noncomputable def ql_cpy (nt : qe_N dp) (k : qe_K dp) (c : qe_C1 dp) (ls : Nat) (st : List Nat) (g : qe_G dp) : qe_R1 dp := qe_hd st fun m r4 => qe_hd r4 fun z1 r3 => qe_hd r3 fun b r2 => qe_hd r2 fun z0 r1 => qe_hd r1 fun a rest =>
  cond ((Nat.beq z0 0 && Nat.beq z1 0) && ((qe_wrf a && qe_wrf b) && ((Nat.beq (qe_cl g a).1 100 && Nat.beq (qe_cl g b).1 100) && ((qe_is 0 m && !(qe_sym m)) && ((Nat.ble (Nat.div m 8) (qe_cl g a).2.1 && Nat.ble (Nat.div m 8) (qe_cl g b).2.1) && (Nat.blt (Nat.div m 8) 65536 && (!(Nat.beq (Nat.div a 8) (Nat.div b 8)) && Nat.ble (qe_cs rest) 8)))))))
    (nt k c ls rest (qg_wt g (qe_wr dp (qg_t g) (Nat.div b 8) ((qe_cl g b).1, (qe_cl g b).2.1, qe_cpy (Nat.div m 8) (qe_cl g a).2.2 (qe_cl g b).2.2)))) none
/-- nothing is known here -/
def ql_no (k : qe_K dp) (c : qe_C1 dp) (ls : Nat) (st : List Nat) (g : qe_G dp) : qe_R1 dp := none
/-- a program: its blocks by method and number -/
abbrev qe_P (dp : Nat) : Type := Nat → Nat → qe_N dp × Unit
noncomputable def qe_step (P : qe_P dp) (r : qe_F dp) : qe_F dp := fun d j b ls st g => Prod.fst (P j b) (r d j) (fun jj b2 ls2 st2 g2 => cond (Nat.beq d 0) none (r (Nat.sub d 1) jj b2 ls2 st2 g2)) ls st g
noncomputable def qe_run (P : qe_P dp) (fuel : Nat) : qe_F dp := Nat.rec (motive := fun _ => qe_F dp) (fun _ _ _ _ _ _ => none) (fun _ ih => qe_step P ih) fuel
end QER
end
section
/-! ENGINE, part 7: what it means that the engine is right -/
section QEX
variable {dp : Nat}
/-- the statics of a walk: the classes, the reading of values, what holds outside the world, the methods, the thrown classes' names, where blocks begin, what is known of a method's table -/
abbrev qe_Z : Type := List vw_C × qe_E × ((Nat → Prop) → State → Heap → Prop) × (Nat → qe_B) × (Nat → String) × (Nat → Nat → Nat) × (Nat → Code → Prop)
abbrev zc (Z : qe_Z) : List vw_C := Z.1
abbrev zE (Z : qe_Z) : qe_E := Z.2.1
abbrev zX (Z : qe_Z) : (Nat → Prop) → State → Heap → Prop := Z.2.2.1
abbrev zM (Z : qe_Z) : Nat → qe_B := Z.2.2.2.1
abbrev zn (Z : qe_Z) : Nat → String := Z.2.2.2.2.1
abbrev zp (Z : qe_Z) : Nat → Nat → Nat := Z.2.2.2.2.2.1
abbrev zT (Z : qe_Z) : Nat → Code → Prop := Z.2.2.2.2.2.2
def qx_st (Z : qe_Z) (d j : Nat) (p : Program) (l : Launch) (s : State) (m : MethodId) (args : Array Value) (meth : Method) (c : Code) (R : Room) (A : Nat → Prop) : Prop :=
  qe_bd (zM Z j) p l s m args meth c ∧ (d + 20 ≤ R.frames ∧ 60 * d + 200 ≤ R.locals) ∧ va_K (zE Z).1 (zc Z) (qe_tys (zE Z)) s ∧ zX Z A s s.heap ∧ (∀ q, s.heap.size ≤ q → A q) ∧ zT Z j c
def qx_ex (ad0 ad : Nat → Nat) (n0 n : Nat) : Prop := n0 ≤ n ∧ ∀ k, k < n0 → ad k = ad0 k
def qx_dy (Z : qe_Z) (j ls : Nat) (st : List Nat) (g : qe_G dp) (s : State) (R : Room) (A : Nat → Prop) (H : Heap) (locs : List Loc) (la : Array Slot) (ad ad0 : Nat → Nat) (n0 : Nat) : Prop :=
  va_P (zE Z).1 (zc Z) (qe_ws dp (zE Z) ad (qg_n g) (qg_t g)) H ∧ va_D A (qe_ws dp (zE Z) ad (qg_n g) (qg_t g)) ∧ va_S A s.heap H locs ∧ qe_lh (zE Z) ad la (zM Z j).2.2.1 ls ∧ qe_wi dp (qg_n g) (qg_t g) ∧ (∀ i, qe_rb (qg_n g) (qe_get ls i)) ∧ (∀ v ∈ st, qe_rb (qg_n g) v) ∧ qe_cok (zE Z).2.2.2 (qg_cx g) ∧ (qg_ce g ≤ R.cells ∧ qg_sl g ≤ R.slots) ∧ qx_ex ad0 ad n0 (qg_n g)
def qx_fin (Z : qe_Z) (outs : List (qe_O dp)) (s : State) (args : Array Value) (R : Room) (A : Nat → Prop) (ad0 : Nat → Nat) (n0 : Nat) (QC : Array Value → State → Outcome → State → Prop) (XC : String → State → State → Prop) : Prop :=
  ∀ o ∈ outs, (qo_ce o ≤ R.cells ∧ qo_sl o ≤ R.slots) ∧ ∀ (ad2 : Nat → Nat) (H2 : Heap) (locs2 : List Loc), qx_ex ad0 ad2 n0 (qo_n o) → va_P (zE Z).1 (zc Z) (qe_ws dp (zE Z) ad2 (qo_n o) (qo_t o)) H2 → va_D A (qe_ws dp (zE Z) ad2 (qo_n o) (qo_t o)) → va_S A s.heap H2 locs2 → qe_wi dp (qo_n o) (qo_t o) → qe_cok (zE Z).2.2.2 (qo_cx o) →
    (qo_k o = 0 → ∀ t : State, t.heap = H2 → s.WarmedH t.vm → QC args s (.returned none) t) ∧ (qo_k o = 1 → qe_rb (qo_n o) (qo_v o) → ∀ t : State, t.heap = H2 → s.WarmedH t.vm → QC args s (.returned (some (qe_v (zE Z) ad2 (qo_v o)))) t) ∧ (∀ i, qo_k o = i + 2 → ∀ t : State, t.heap = H2 → s.vm.Alike t.vm → XC (zn Z i) s t)
def qx_goal (Z : qe_Z) (d j pc ls : Nat) (st : List Nat) (g : qe_G dp) (outs : List (qe_O dp)) : Prop :=
  ∀ (p : Program) (l : Launch) (e : Env) (R : Room) (s : State) (m : MethodId) (args : Array Value) (below : List Frame) (meth : Method) (c : Code) (A : Nat → Prop) (H : Heap) (locs : List Loc) (la : Array Slot) (ad ad0 : Nat → Nat) (n0 : Nat) (QC : Array Value → State → Outcome → State → Prop) (XC : String → State → State → Prop),
    qx_st Z d j p l s m args meth c R A → qx_dy Z j ls st g s R A H locs la ad ad0 n0 → qx_fin Z outs s args R A ad0 n0 QC XC →
    W p l e R s m args below meth c H locs (qg_ce g) (qg_sl g) (vx_MQ below QC XC args s R.cells R.slots A) (F0 m pc la (st.map (qe_v (zE Z) ad)))
def qx_k (Z : qe_Z) (d j : Nat) (k : qe_K dp) : Prop := ∀ (b ls : Nat) (st : List Nat) (g : qe_G dp) (outs : List (qe_O dp)), k b ls st g = some outs → qx_goal Z d j (zp Z j b) ls st g outs
def qx_Q (Z : qe_Z) (ad : Nat → Nat) (n : Nat) (t : qe_T dp) (sz : Nat) (outs : List (qe_O dp)) : Array Value → State → Outcome → State → Prop := fun _ st oc u =>
  (∃ o ∈ outs, ∃ ad2 : Nat → Nat, qx_ex ad ad2 n (qo_n o) ∧ qe_cok (zE Z).2.2.2 (qo_cx o) ∧ qe_wi dp (qo_n o) (qo_t o) ∧ va_P (zE Z).1 (zc Z) (qe_ws dp (zE Z) ad2 (qo_n o) (qo_t o)) u.heap ∧ va_D (va_A (qe_ws dp (zE Z) ad n t) sz) (qe_ws dp (zE Z) ad2 (qo_n o) (qo_t o)) ∧
    ((qo_k o = 0 ∧ oc = .returned none) ∨ (qo_k o = 1 ∧ qe_rb (qo_n o) (qo_v o) ∧ oc = .returned (some (qe_v (zE Z) ad2 (qo_v o)))))) ∧ va_F (va_A (qe_ws dp (zE Z) ad n t) sz) st u
def qx_X (Z : qe_Z) (ad : Nat → Nat) (n : Nat) (t : qe_T dp) (sz : Nat) (outs : List (qe_O dp)) : String → State → State → Prop := fun E st u =>
  (∃ o ∈ outs, ∃ i : Nat, qo_k o = i + 2 ∧ E = zn Z i ∧ ∃ ad2 : Nat → Nat, qx_ex ad ad2 n (qo_n o) ∧ qe_cok (zE Z).2.2.2 (qo_cx o) ∧ qe_wi dp (qo_n o) (qo_t o) ∧ va_P (zE Z).1 (zc Z) (qe_ws dp (zE Z) ad2 (qo_n o) (qo_t o)) u.heap ∧ va_D (va_A (qe_ws dp (zE Z) ad n t) sz) (qe_ws dp (zE Z) ad2 (qo_n o) (qo_t o))) ∧ va_F (va_A (qe_ws dp (zE Z) ad n t) sz) st u
def qx_rm (d mc ms : Nat) : Room := { frames := d + 20, cells := mc, slots := ms, locals := 60 * d + 200 }
def qx_P (Z : qe_Z) (ad : Nat → Nat) (n : Nat) (t : qe_T dp) (sz : Nat) (U : State) : Prop :=
  U.heap.size = sz ∧ va_P (zE Z).1 (zc Z) (qe_ws dp (zE Z) ad n t) U.heap ∧ va_K (zE Z).1 (zc Z) (qe_tys (zE Z)) U ∧ va_D (fun _ => True) (qe_ws dp (zE Z) ad n t) ∧ zX Z (va_A (qe_ws dp (zE Z) ad n t) sz) U U.heap
def qx_con (Z : qe_Z) (d j : Nat) (as : List Nat) (n : Nat) (t : qe_T dp) (cx : qe_Cx) (outs : List (qe_O dp)) : Prop :=
  ∀ (l : Launch) (ad : Nat → Nat) (sz : Nat), l.stackTraces = false → qe_wi dp n t → (∀ v ∈ as, qe_rb n v ∧ v < 4722366482869645213696 ∧ v ≠ 7) → qe_cok (zE Z).2.2.2 cx → (lg_sl (as.map (qe_v (zE Z) ad))).length ≤ (zM Z j).2.2.1 →
    vx_Met l (zM Z j).1 (zM Z j).2.2.2.2.1 (qx_rm d (qe_mxc outs) (qe_mxs outs)) (va_Pc (as.map (qe_v (zE Z) ad)) (qx_P Z ad n t sz)) (qx_Q Z ad n t sz outs) (qx_X Z ad n t sz outs) (qe_mxc outs) (qe_mxs outs) (va_A (qe_ws dp (zE Z) ad n t) sz)
/-- what the tables say of method j -/
def qx_mb (Z : qe_Z) (j : Nat) : Prop := plainName (zM Z j).1.cls = true ∧ (zM Z j).2.2.1 ≤ 24 ∧ (zM Z j).1.cls = (zM Z j).2.2.2.2.2 ∧
  ((∃ ws, (zM Z j).2.2.2.2.1 = Cond.code (zM Z j).1 (zM Z j).2.1 (zM Z j).2.2.1 (zM Z j).2.2.2.1 :: ws ∧ ∀ c : Code, (∀ x ∈ c.exceptionTable.toList, False) → zT Z j c) ∨
   (∃ ws hh, (zM Z j).2.2.2.2.1 = Cond.codeWith (zM Z j).1 (zM Z j).2.1 (zM Z j).2.2.1 (zM Z j).2.2.2.1 hh :: ws ∧ ∀ c : Code, c.exceptionTable.toList = tableOf hh → zT Z j c))
def qx_c (Z : qe_Z) (d : Nat) (c : qe_C1 dp) : Prop := ∀ (j : Nat) (as : List Nat) (n : Nat) (t : qe_T dp) (cx : qe_Cx) (outs : List (qe_O dp)), qx_mb Z j → c j 0 (qe_lcl as 0 qe_ls0) [] (n, t, cx, 0, 0) = some outs → ∃ d2, d2 < d ∧ qx_con Z d2 j as n t cx outs
/-- an instruction and what follows it, at pc of method j -/
def qx_sn (Z : qe_Z) (j pc : Nat) (nt : qe_N dp) : Prop := ∀ (k : qe_K dp) (c : qe_C1 dp) (d : Nat), qx_k Z d j k → qx_c Z d c → ∀ (ls : Nat) (st : List Nat) (g : qe_G dp) (outs : List (qe_O dp)), nt k c ls st g = some outs → qx_goal Z d j pc ls st g outs
theorem qx_fin_sub {Z : qe_Z} {o1 o2 : List (qe_O dp)} {s : State} {args : Array Value} {R : Room} {A : Nat → Prop} {ad0 : Nat → Nat} {n0 : Nat} {QC : Array Value → State → Outcome → State → Prop} {XC : String → State → State → Prop} (h : qx_fin Z o2 s args R A ad0 n0 QC XC) (hs : ∀ o ∈ o1, o ∈ o2) : qx_fin Z o1 s args R A ad0 n0 QC XC := fun o ho => h o (hs o ho)
/-- only the stack changes -/
theorem qx_stk {Z : qe_Z} {d j pc nx ls : Nat} {old new r : List Nat} {g : qe_G dp} {outs : List (qe_O dp)} (hc : ∀ ad, qc_st (zM Z j) pc nx (old.map (qe_v (zE Z) ad)) (new.map (qe_v (zE Z) ad))) (hr : ∀ n, (∀ v ∈ old, qe_rb n v) → ∀ v ∈ new, qe_rb n v) (hg : qx_goal Z d j nx ls (new ++ r) g outs) : qx_goal Z d j pc ls (old ++ r) g outs := by
  intro p l e R s m args below meth c A H locs la ad ad0 n0 QC XC hst hdy hfin
  rw [List.map_append]
  refine hc ad hst.1 ?_
  obtain ⟨h1, h2, h3, h4, h5, h6, h7, h8, h9, h10⟩ := hdy
  have := hg p l e R s m args below meth c A H locs la ad ad0 n0 QC XC hst ⟨h1, h2, h3, h4, h5, h6, fun v hv => ?_, h8, h9, h10⟩ hfin
  · rw [List.map_append] at this
    exact this
  · rcases List.mem_append.mp hv with hv | hv
    · exact hr _ (fun w hw => h7 w (List.mem_append_left _ hw)) v hv
    · exact h7 v (List.mem_append_right _ hv)
theorem sn_push {Z : qe_Z} {j pc nx a : Nat} {nt : qe_N dp} (hc : ∀ ad, qc_st (zM Z j) pc nx [] [qe_v (zE Z) ad a]) (hr : qe_is 2 a = false) (hn : qx_sn Z j nx nt) : qx_sn Z j pc (ql_push a nt) := by
  intro k c d hk hcc ls st g outs h
  exact qx_stk (old := []) (new := [a]) hc (fun n _ v hv => by
    rw [List.mem_singleton.mp hv]
    intro h2
    rw [hr] at h2; cases h2) (hn k c d hk hcc ls (a :: st) g outs h)
theorem sn_bin {Z : qe_Z} {j pc nx o : Nat} {df : qe_Df} {nt : qe_N dp} (hd : qe_dok (zE Z).2.2.2 df) (hc : ∀ x y : Int32, qc_st (zM Z j) pc nx [.int y, .int x] [.int (qe_sem o x y)]) (hn : qx_sn Z j nx nt) : qx_sn Z j pc (ql_bin df o nt) := by
  intro k c d hk hcc ls st g outs h
  obtain ⟨y, r1, e1, h1⟩ := qe_hd_ok h
  obtain ⟨x, r, e2, h2⟩ := qe_hd_ok h1
  obtain ⟨z, hz, h3⟩ := qe_bind_ok h2
  subst e2; subst e1; replace h := h3
  obtain ⟨z1, z2, z3, z4⟩ := qe_bin_ok hd hz
  refine qx_stk (old := [y, x]) (new := [z]) (fun ad => ?_) (fun n _ v hv => ?_) (hn k c d hk hcc ls (z :: r) g outs h)
  · have e1 : qe_v (zE Z) ad y = .int (qe_int (zE Z).2.2.2 y) := qe_val_int z2
    have e2 : qe_v (zE Z) ad x = .int (qe_int (zE Z).2.2.2 x) := qe_val_int z1
    have e3 : qe_v (zE Z) ad z = .int (qe_int (zE Z).2.2.2 z) := qe_val_int z3
    show qc_st (zM Z j) pc nx [qe_v (zE Z) ad y, qe_v (zE Z) ad x] [qe_v (zE Z) ad z]
    rw [e1, e2, e3, z4]
    exact hc _ _
  · rw [List.mem_singleton.mp hv]; exact qe_rb_int z3
theorem sn_neg {Z : qe_Z} {j pc nx : Nat} {df : qe_Df} {nt : qe_N dp} (hd : qe_dok (zE Z).2.2.2 df) (hc : ∀ x : Int32, qc_st (zM Z j) pc nx [.int x] [.int (-x)]) (hn : qx_sn Z j nx nt) : qx_sn Z j pc (ql_neg df nt) := by
  intro k c d hk hcc ls st g outs h
  obtain ⟨x, r, e1, h1⟩ := qe_hd_ok h
  obtain ⟨z, hz, h3⟩ := qe_bind_ok h1
  subst e1; replace h := h3
  obtain ⟨z1, z2, z3, z4⟩ := qe_bin_ok hd hz
  refine qx_stk (old := [x]) (new := [z]) (fun ad => ?_) (fun n _ v hv => ?_) (hn k c d hk hcc ls (z :: r) g outs h)
  · have e2 : qe_v (zE Z) ad x = .int (qe_int (zE Z).2.2.2 x) := qe_val_int z2
    have e3 : qe_v (zE Z) ad z = .int (qe_int (zE Z).2.2.2 z) := qe_val_int z3
    have e4 : qe_sem 11 (qe_int (zE Z).2.2.2 0) (qe_int (zE Z).2.2.2 x) = - (qe_int (zE Z).2.2.2 x) := by
      show (0 : Int32) - _ = _
      rw [Int32.zero_sub]
    show qc_st (zM Z j) pc nx [qe_v (zE Z) ad x] [qe_v (zE Z) ad z]
    rw [e2, e3, z4, e4]
    exact hc _
  · rw [List.mem_singleton.mp hv]; exact qe_rb_int z3
theorem qe_sx_ok (a : Nat) : (Int64.ofNat (qe_sx a)).toInt = (Int32.ofNat a).toInt := by
  have e1 : ((qe_of a : Nat) : Int) = (Int32.ofNat a).toInt + 2147483648 := by rw [← qe_so_of]; exact qe_so_eq _
  have e2 : ((qe_ofL (qe_sx a) : Nat) : Int) = (Int64.ofNat (qe_sx a)).toInt + 9223372036854775808 := by rw [← qe_lo_of]; exact qe_lo_eq _
  have h1 : qe_of a = (qe_m a + 2147483648) % 4294967296 := by
    show (a + 2147483648) % 4294967296 = (a % 4294967296 + 2147483648) % 4294967296
    omega
  have h2 := qe_m_lt a
  have h3 : qe_ofL (qe_sx a) = (qe_sx a + 9223372036854775808) % 18446744073709551616 := rfl
  unfold qe_sx at h3 e2 ⊢
  generalize qe_m a = m at *
  by_cases hq : m < 2147483648
  · have hb : Nat.blt m 2147483648 = true := Nat.ble_eq_true_of_le hq
    rw [hb] at h3 e2 ⊢
    simp only [cond_true] at h3 e2 ⊢
    omega
  · have hb : Nat.blt m 2147483648 = false := by
      cases hb : Nat.blt m 2147483648
      · rfl
      · exact absurd (Nat.le_of_ble_eq_true hb) hq
    rw [hb] at h3 e2 ⊢
    simp only [cond_false, Nat.add_eq] at h3 e2 ⊢
    omega
theorem qe_i2l_ok {rho : Nat → Int32} {x : Nat} (h : qe_is 0 x = true) : qe_is 1 (qe_i2l x) = true ∧ qe_lng rho (qe_i2l x) = (qe_int rho x).toInt64 := by
  have hm := qe_is_eq h
  unfold qe_i2l
  cases hs : qe_sym x
  · refine ⟨qe_L_is _, ?_⟩
    show qe_lng rho (qe_L (qe_sx (x / 8))) = _
    rw [qe_L_lng]
    unfold qe_int
    rw [hs]
    show Int64.ofNat (qe_sx (x / 8)) = (Int32.ofNat (x / 8)).toInt64
    apply Int64.toInt_inj.mp
    rw [Int32.toInt_toInt64, qe_sx_ok]
  · have hx : x % 8 = 4 := by
      have := Nat.eq_of_beq_eq_true hs
      have h2 : x / 4 % 2 = 1 := this
      omega
    refine ⟨?_, ?_⟩
    · show Nat.beq ((x + 1) % 4) 1 = true
      rw [show (x + 1) % 4 = 1 by omega]; rfl
    · show qe_lng rho (x + 1) = _
      unfold qe_lng qe_int
      have hs2 : qe_sym (x + 1) = true := by
        show Nat.beq ((x + 1) / 4 % 2) 1 = true
        rw [show (x + 1) / 4 % 2 = 1 by omega]; rfl
      rw [hs, hs2]
      show (rho ((x + 1) / 8)).toInt64 = (rho (x / 8)).toInt64
      rw [show (x + 1) / 8 = x / 8 by omega]
theorem sn_i2l {Z : qe_Z} {j pc nx : Nat} {nt : qe_N dp} (hc : ∀ x : Int32, qc_st (zM Z j) pc nx [.int x] [.long x.toInt64]) (hn : qx_sn Z j nx nt) : qx_sn Z j pc (ql_i2l nt) := by
  intro k c d hk hcc ls st g outs h
  obtain ⟨x, r, e1, h1⟩ := qe_hd_ok h
  obtain ⟨hx, h3⟩ := qe_if_ok h1
  subst e1; replace h := h3
  refine qx_stk (old := [x]) (new := [qe_i2l x]) (fun ad => ?_) (fun n _ v hv => ?_) (hn k c d hk hcc ls (qe_i2l x :: r) g outs h)
  · obtain ⟨e0, e1⟩ := qe_i2l_ok (rho := (zE Z).2.2.2) hx
    have e2 : qe_v (zE Z) ad x = .int (qe_int (zE Z).2.2.2 x) := qe_val_int hx
    have e3 : qe_v (zE Z) ad (qe_i2l x) = .long (qe_lng (zE Z).2.2.2 (qe_i2l x)) := qe_val_lng e0
    show qc_st (zM Z j) pc nx [qe_v (zE Z) ad x] [qe_v (zE Z) ad (qe_i2l x)]
    rw [e2, e3, e1]
    exact hc _
  · rw [List.mem_singleton.mp hv]; exact qe_rb_lng (qe_i2l_ok (rho := (zE Z).2.2.2) hx).1
theorem qe_cat1 {E : qe_E} {ad : Nat → Nat} {v : Nat} (h : (!(qe_is 1 v)) = true) : (qe_v E ad v).category = 1 := by
  have h1 : qe_is 1 v = false := by simpa using h
  have := qe_cat (E := E) (ad := ad) h1
  rcases lv_cat (qe_v E ad v) with q | q
  · exact q
  · exact absurd q this
theorem sn_dup {Z : qe_Z} {j pc nx : Nat} {nt : qe_N dp} (hc : ∀ v : Value, v.category = 1 → qc_st (zM Z j) pc nx [v] [v, v]) (hn : qx_sn Z j nx nt) : qx_sn Z j pc (ql_dup nt) := by
  intro k c d hk hcc ls st g outs h
  obtain ⟨x, r, e1, h1⟩ := qe_hd_ok h
  obtain ⟨hx, h3⟩ := qe_if_ok h1
  subst e1; replace h := h3
  refine qx_stk (old := [x]) (new := [x, x]) (fun ad => hc _ (qe_cat1 hx)) (fun n h0 v hv => h0 v ?_) (hn k c d hk hcc ls (x :: x :: r) g outs h)
  rcases List.mem_cons.mp hv with q | q
  · rw [q]; exact List.mem_cons_self
  · exact q
theorem sn_pop {Z : qe_Z} {j pc nx : Nat} {nt : qe_N dp} (hc : ∀ v : Value, v.category = 1 → qc_st (zM Z j) pc nx [v] []) (hn : qx_sn Z j nx nt) : qx_sn Z j pc (ql_pop nt) := by
  intro k c d hk hcc ls st g outs h
  obtain ⟨x, r, e1, h1⟩ := qe_hd_ok h
  obtain ⟨hx, h3⟩ := qe_if_ok h1
  subst e1; replace h := h3
  exact qx_stk (old := [x]) (new := []) (fun ad => hc _ (qe_cat1 hx)) (fun n h0 v hv => by cases hv) (hn k c d hk hcc ls r g outs h)
theorem sn_dup2 {Z : qe_Z} {j pc nx : Nat} {nt : qe_N dp} (hc : ∀ v w : Value, v.category = 1 → w.category = 1 → qc_st (zM Z j) pc nx [v, w] [v, w, v, w]) (hn : qx_sn Z j nx nt) : qx_sn Z j pc (ql_dup2 nt) := by
  intro k c d hk hcc ls st g outs h
  obtain ⟨x, r1, e1, h1⟩ := qe_hd_ok h
  obtain ⟨y, r, e2, h2⟩ := qe_hd_ok h1
  obtain ⟨hx, h3⟩ := qe_if_ok h2
  subst e2; subst e1; replace h := h3
  rw [Bool.and_eq_true] at hx
  refine qx_stk (old := [x, y]) (new := [x, y, x, y]) (fun ad => hc _ _ (qe_cat1 hx.1) (qe_cat1 hx.2)) (fun n h0 v hv => h0 v ?_) (hn k c d hk hcc ls (x :: y :: x :: y :: r) g outs h)
  simp only [List.mem_cons, List.not_mem_nil, or_false] at hv ⊢
  rcases hv with q | q | q | q
  · exact Or.inl q
  · exact Or.inr q
  · exact Or.inl q
  · exact Or.inr q
theorem sn_jmp {Z : qe_Z} {j pc b : Nat} (hc : qc_st (zM Z j) pc (zp Z j b) [] []) : qx_sn Z j pc (ql_jmp b : qe_N dp) := by
  intro k c d hk hcc ls st g outs h
  exact qx_stk (old := []) (new := []) (fun _ => hc) (fun n _ v hv => by cases hv) (hk b ls st g outs h)
/-- a block falls into the next -/
theorem sn_fall {Z : qe_Z} {j pc b : Nat} (hb : zp Z j b = pc) : qx_sn Z j pc (ql_jmp b : qe_N dp) := by
  intro k c d hk hcc ls st g outs h
  rw [← hb]
  exact hk b ls st g outs h
theorem sn_no {Z : qe_Z} {j pc : Nat} : qx_sn Z j pc (ql_no : qe_N dp) := by
  intro k c d hk hcc ls st g outs h
  cases h
end QEX
end
section
/-! ENGINE, part 8: loads, stores, branches, switches -/
section QEY
variable {dp : Nat}
theorem qe_srt_ok {E : qe_E} {ad : Nat → Nat} {s v : Nat} (hs : s < 3) (h : qe_is s v = true) : qe_srt s (qe_v E ad v) := by
  have h3 : s = 0 ∨ s = 1 ∨ s = 2 := by omega
  rcases h3 with rfl | rfl | rfl
  · exact ⟨_, qe_val_int h⟩
  · exact ⟨_, qe_val_lng h⟩
  · exact ⟨_, qe_val_ref h⟩
theorem qe_ne7 {s v : Nat} (hs : s < 3) (h : qe_is s v = true) : v ≠ 7 := by
  intro e
  have := qe_is_eq h
  omega
theorem qe_lim_lt {v : Nat} (h : Nat.blt v qe_lim = true) : v < 4722366482869645213696 := Nat.le_of_ble_eq_true h
theorem sn_ld {Z : qe_Z} {j pc nx s a : Nat} {nt : qe_N dp} (hs : s < 3) (hc : qc_ld (zM Z j) pc nx a s) (ha : a < (zM Z j).2.2.1) (hn : qx_sn Z j nx nt) : qx_sn Z j pc (ql_ld s a nt) := by
  intro k c d hk hcc ls st g outs h
  obtain ⟨hi, h1⟩ := qe_if_ok h
  have hg := hn k c d hk hcc ls _ g outs h1
  intro p l e R s0 m args below meth c0 A H locs la ad ad0 n0 QC XC hst hdy hfin
  obtain ⟨d1, d2, d3, d4, d5, d6, d7, d8, d9, d10⟩ := hdy
  refine hc hst.1 _ (qe_lh_at d4 ha (qe_ne7 hs hi)) (qe_srt_ok hs hi) ?_
  exact hg p l e R s0 m args below meth c0 A H locs la ad ad0 n0 QC XC hst ⟨d1, d2, d3, d4, d5, d6, fun v hv => by
    rcases List.mem_cons.mp hv with q | q
    · rw [q]; exact d6 a
    · exact d7 v q, d8, d9, d10⟩ hfin
theorem qe_rb_set {n ls i v : Nat} (h : ∀ k, qe_rb n (qe_get ls k)) (hv : qe_rb n v) (hl : v < 4722366482869645213696) : ∀ k, qe_rb n (qe_get (qe_set ls i v) k) := by
  intro k
  rw [qe_get_set _ _ _ _ hl]
  by_cases hk : k = i
  · rw [if_pos hk]; exact hv
  · rw [if_neg hk]; exact h k
theorem sn_st1 {Z : qe_Z} {j pc nx s a : Nat} {nt : qe_N dp} (hs : s < 3) (hc : qc_s1 (zM Z j) pc nx a s) (ha : a < (zM Z j).2.2.1) (hn : qx_sn Z j nx nt) : qx_sn Z j pc (ql_st1 s a nt) := by
  intro k c d hk hcc ls st g outs h
  obtain ⟨v, r, e1, h1⟩ := qe_hd_ok h
  subst e1
  obtain ⟨hi, h2⟩ := qe_if_ok h1
  rw [Bool.and_eq_true, Bool.and_eq_true] at hi
  obtain ⟨i1, i2, i3⟩ := hi
  have hg := hn k c d hk hcc _ r g outs h2
  have hl := qe_lim_lt i3
  intro p l e R s0 m args below meth c0 A H locs la ad ad0 n0 QC XC hst hdy hfin
  obtain ⟨d1, d2, d3, d4, d5, d6, d7, d8, d9, d10⟩ := hdy
  refine hc hst.1 (qe_v (zE Z) ad v) _ _ (qe_srt_ok hs i1) (qe_lh_has d4) ha (fun la2 h' => ?_)
  exact hg p l e R s0 m args below meth c0 A H locs la2 ad ad0 n0 QC XC hst ⟨d1, d2, d3, qe_lh_st1 (la := la) hl (qe_pl_ok i2) h', d5, qe_rb_set d6 (d7 v List.mem_cons_self) hl, fun w hw => d7 w (List.mem_cons_of_mem _ hw), d8, d9, d10⟩ hfin
theorem sn_st2 {Z : qe_Z} {j pc nx a : Nat} {nt : qe_N dp} (hc : qc_s2 (zM Z j) pc nx a) (ha : a + 1 < (zM Z j).2.2.1) (hn : qx_sn Z j nx nt) : qx_sn Z j pc (ql_st2 a nt) := by
  intro k c d hk hcc ls st g outs h
  obtain ⟨v, r, e1, h1⟩ := qe_hd_ok h
  subst e1
  obtain ⟨hi, h2⟩ := qe_if_ok h1
  rw [Bool.and_eq_true, Bool.and_eq_true] at hi
  obtain ⟨i1, i2, i3⟩ := hi
  have hg := hn k c d hk hcc _ r g outs h2
  have hl := qe_lim_lt i3
  intro p l e R s0 m args below meth c0 A H locs la ad ad0 n0 QC XC hst hdy hfin
  obtain ⟨d1, d2, d3, d4, d5, d6, d7, d8, d9, d10⟩ := hdy
  refine hc hst.1 (qe_v (zE Z) ad v) _ _ (qe_srt_ok (by decide) i1) (qe_lh_has d4) ha (fun la2 h' => ?_)
  exact hg p l e R s0 m args below meth c0 A H locs la2 ad ad0 n0 QC XC hst ⟨d1, d2, d3, qe_lh_st2 (la := la) hl (qe_pl_ok i2) h', d5, qe_rb_set (qe_rb_set d6 (d7 v List.mem_cons_self) hl) qe_rb_7 (by decide), fun w hw => d7 w (List.mem_cons_of_mem _ hw), d8, d9, d10⟩ hfin
theorem sn_inc {Z : qe_Z} {j pc nx a i : Nat} {df : qe_Df} {nt : qe_N dp} (hd : qe_dok (zE Z).2.2.2 df) (hc : qc_inc (zM Z j) pc nx a (Int32.ofNat i)) (ha : a < (zM Z j).2.2.1) (hn : qx_sn Z j nx nt) : qx_sn Z j pc (ql_inc df a i nt) := by
  intro k c d hk hcc ls st g outs h
  obtain ⟨z, hz, h1⟩ := qe_bind_ok h
  obtain ⟨hi, h2⟩ := qe_if_ok h1
  rw [Bool.and_eq_true] at hi
  obtain ⟨i2, i3⟩ := hi
  obtain ⟨z1, z2, z3, z4⟩ := qe_bin_ok hd hz
  have hg := hn k c d hk hcc _ st g outs h2
  have hl := qe_lim_lt i3
  intro p l e R s0 m args below meth c0 A H locs la ad ad0 n0 QC XC hst hdy hfin
  obtain ⟨d1, d2, d3, d4, d5, d6, d7, d8, d9, d10⟩ := hdy
  have e1 : qe_v (zE Z) ad (qe_get ls a) = .int (qe_int (zE Z).2.2.2 (qe_get ls a)) := qe_val_int z1
  have e3 : qe_v (zE Z) ad z = .int (qe_int (zE Z).2.2.2 (qe_get ls a) + Int32.ofNat i) := by
    have e4 : qe_v (zE Z) ad z = .int (qe_int (zE Z).2.2.2 z) := qe_val_int z3
    rw [e4, z4, qe_I_int]; rfl
  refine hc hst.1 (qe_int (zE Z).2.2.2 (qe_get ls a)) _ _ (qe_lh_has d4) (by rw [← e1]; exact qe_ll_mem ha (qe_ne7 (by decide) z1)) ha (fun la2 h' => ?_)
  rw [← e3] at h'
  exact hg p l e R s0 m args below meth c0 A H locs la2 ad ad0 n0 QC XC hst ⟨d1, d2, d3, qe_lh_st1 (la := la) hl (qe_pl_ok i2) h', d5, qe_rb_set d6 (qe_rb_int z3) hl, d7, d8, d9, d10⟩ hfin
theorem qe_go2_ok {rho : Nat → Int32} {g : qe_G dp} {x y : Nat} {f : Nat → qe_G dp → qe_R1 dp} {outs : List (qe_O dp)} (hc : qe_cok rho (qg_cx g)) (h : qe_go2 g x y f = some outs) : ∃ (cx2 : qe_Cx) (oa : List (qe_O dp)), f (qe_c3 (qe_so (qe_int rho x)) (qe_so (qe_int rho y))) (qg_wc g cx2) = some oa ∧ (∀ o ∈ oa, o ∈ outs) ∧ qe_cok rho cx2 := by
  unfold qe_go2 at h
  cases hb : (qe_sym x || qe_sym y)
  · rw [hb] at h
    rw [Bool.or_eq_false_iff] at hb
    refine ⟨qg_cx g, outs, ?_, fun o ho => ho, hc⟩
    have e1 : qe_int rho x = Int32.ofNat (x / 8) := by unfold qe_int; rw [hb.1]; rfl
    have e2 : qe_int rho y = Int32.ofNat (y / 8) := by unfold qe_int; rw [hb.2]; rfl
    rw [e1, e2, qe_so_of, qe_so_of]
    exact h
  · rw [hb] at h
    obtain ⟨L, hL, h2⟩ := qe_bind_ok (show Option.bind (qe_cmp (qg_cx g) x y qe_foI) _ = some outs from h)
    obtain ⟨q, q1, q2, q3⟩ := qe_cmpI_ok hc hL
    obtain ⟨oa, o1, o2⟩ := qe_each_ok h2 q q1
    exact ⟨q.1, oa, by rw [← q3]; exact o1, o2, q2⟩
theorem qe_go2L_ok {rho : Nat → Int32} {g : qe_G dp} {x y : Nat} {f : Nat → qe_G dp → qe_R1 dp} {outs : List (qe_O dp)} (hc : qe_cok rho (qg_cx g)) (h : qe_go2L g x y f = some outs) : ∃ (r : Nat) (cx2 : qe_Cx) (oa : List (qe_O dp)), f r (qg_wc g cx2) = some oa ∧ (∀ o ∈ oa, o ∈ outs) ∧ qe_cok rho cx2 ∧ lg_cmp (qe_lng rho x) (qe_lng rho y) = qe_int rho (qe_cmpr r) ∧ qe_is 0 (qe_cmpr r) = true := by
  unfold qe_go2L at h
  cases hb : (qe_sym x || qe_sym y)
  · rw [hb] at h
    rw [Bool.or_eq_false_iff] at hb
    refine ⟨_, qg_cx g, outs, h, fun o ho => ho, hc, ?_⟩
    have e1 : qe_lng rho x = Int64.ofNat (x / 8) := by unfold qe_lng; rw [hb.1]; rfl
    have e2 : qe_lng rho y = Int64.ofNat (y / 8) := by unfold qe_lng; rw [hb.2]; rfl
    have a1 := qe_lo_eq (qe_lng rho x)
    have a2 := qe_lo_eq (qe_lng rho y)
    have b1 : qe_lo (qe_lng rho x) = qe_ofL (Nat.div x 8) := by rw [e1]; exact qe_lo_of _
    have b2 : qe_lo (qe_lng rho y) = qe_ofL (Nat.div y 8) := by rw [e2]; exact qe_lo_of _
    rw [← b1, ← b2]
    unfold lg_cmp
    by_cases c1 : qe_lng rho x > qe_lng rho y
    · rw [if_pos c1]
      have c2 := Int64.lt_iff_toInt_lt.mp c1
      rw [qe_c3_gt (by omega)]
      exact ⟨rfl, rfl⟩
    · rw [if_neg c1]
      by_cases c2 : qe_lng rho x = qe_lng rho y
      · rw [if_pos c2, c2, qe_c3_eq rfl]
        exact ⟨rfl, rfl⟩
      · rw [if_neg c2]
        have c3 : ¬ (qe_lng rho y).toInt < (qe_lng rho x).toInt := fun q => c1 (Int64.lt_iff_toInt_lt.mpr q)
        have c4 : ¬ (qe_lng rho x).toInt = (qe_lng rho y).toInt := fun q => c2 (Int64.toInt_inj.mp q)
        rw [qe_c3_lt (by omega)]
        exact ⟨(by decide : (-1 : Int32) = Int32.ofNat 4294967295), rfl⟩
  · rw [hb] at h
    obtain ⟨L, hL, h2⟩ := qe_bind_ok (show Option.bind (qe_cmp (qg_cx g) x y qe_foL) _ = some outs from h)
    obtain ⟨q, q1, q2, q3, q4⟩ := qe_lcmp hc hL
    obtain ⟨oa, o1, o2⟩ := qe_each_ok h2 q q1
    exact ⟨q.2, q.1, oa, o1, o2, q2, q3, q4⟩
theorem qx_dy_wc {Z : qe_Z} {j ls : Nat} {st : List Nat} {g : qe_G dp} {s : State} {R : Room} {A : Nat → Prop} {H : Heap} {locs : List Loc} {la : Array Slot} {ad ad0 : Nat → Nat} {n0 : Nat} {cx2 : qe_Cx} (h : qx_dy Z j ls st g s R A H locs la ad ad0 n0) (hc : qe_cok (zE Z).2.2.2 cx2) {st2 : List Nat} (hs : ∀ v ∈ st2, qe_rb (qg_n g) v) : qx_dy Z j ls st2 (qg_wc g cx2) s R A H locs la ad ad0 n0 := by
  obtain ⟨d1, d2, d3, d4, d5, d6, d7, d8, d9, d10⟩ := h
  exact ⟨d1, d2, d3, d4, d5, d6, hs, hc, d9, d10⟩
theorem sn_if {Z : qe_Z} {j pc nx tg o b : Nat} {nt : qe_N dp} (hc : qc_if (zM Z j) pc nx tg o) (hb : zp Z j b = tg) (hn : qx_sn Z j nx nt) : qx_sn Z j pc (ql_if o b nt) := by
  intro k c d hk hcc ls st g outs h
  obtain ⟨x, r, e1, h1⟩ := qe_hd_ok h
  subst e1
  obtain ⟨hi, h2⟩ := qe_if_ok h1
  intro p l e R s0 m args below meth c0 A H locs la ad ad0 n0 QC XC hst hdy hfin
  have d7 := hdy.2.2.2.2.2.2.1
  obtain ⟨cx2, oa, f1, f2, f3⟩ := qe_go2_ok hdy.2.2.2.2.2.2.2.1 h2
  have hz : qe_int (zE Z).2.2.2 0 = 0 := rfl
  rw [hz] at f1
  have e2 : qe_v (zE Z) ad x = .int (qe_int (zE Z).2.2.2 x) := qe_val_int hi
  rw [List.map_cons, e2]
  refine hc hst.1 _ ?_
  have hdy2 := qx_dy_wc hdy f3 (st2 := r) (fun v hv => d7 v (List.mem_cons_of_mem _ hv))
  cases hq : qe_br o (qe_c3 (qe_so (qe_int (zE Z).2.2.2 x)) (qe_so 0))
  · rw [hq] at f1
    exact hn k c d hk hcc ls r _ oa f1 p l e R s0 m args below meth c0 A H locs la ad ad0 n0 QC XC hst hdy2 (qx_fin_sub hfin f2)
  · rw [hq] at f1
    rw [← hb]
    exact hk b ls r _ oa f1 p l e R s0 m args below meth c0 A H locs la ad ad0 n0 QC XC hst hdy2 (qx_fin_sub hfin f2)
theorem sn_ic {Z : qe_Z} {j pc nx tg o b : Nat} {nt : qe_N dp} (hc : qc_ic (zM Z j) pc nx tg o) (hb : zp Z j b = tg) (hn : qx_sn Z j nx nt) : qx_sn Z j pc (ql_ic o b nt) := by
  intro k c d hk hcc ls st g outs h
  obtain ⟨y, r1, e1, h1⟩ := qe_hd_ok h
  obtain ⟨x, r, e2, h1b⟩ := qe_hd_ok h1
  subst e2; subst e1
  obtain ⟨hi, h2⟩ := qe_if_ok h1b
  rw [Bool.and_eq_true] at hi
  intro p l e R s0 m args below meth c0 A H locs la ad ad0 n0 QC XC hst hdy hfin
  have d7 := hdy.2.2.2.2.2.2.1
  obtain ⟨cx2, oa, f1, f2, f3⟩ := qe_go2_ok hdy.2.2.2.2.2.2.2.1 h2
  have e2 : qe_v (zE Z) ad x = .int (qe_int (zE Z).2.2.2 x) := qe_val_int hi.1
  have e3 : qe_v (zE Z) ad y = .int (qe_int (zE Z).2.2.2 y) := qe_val_int hi.2
  rw [List.map_cons, List.map_cons, e2, e3]
  refine hc hst.1 _ _ ?_
  have hdy2 := qx_dy_wc hdy f3 (st2 := r) (fun v hv => d7 v (List.mem_cons_of_mem _ (List.mem_cons_of_mem _ hv)))
  cases hq : qe_br o (qe_c3 (qe_so (qe_int (zE Z).2.2.2 x)) (qe_so (qe_int (zE Z).2.2.2 y)))
  · rw [hq] at f1
    exact hn k c d hk hcc ls r _ oa f1 p l e R s0 m args below meth c0 A H locs la ad ad0 n0 QC XC hst hdy2 (qx_fin_sub hfin f2)
  · rw [hq] at f1
    rw [← hb]
    exact hk b ls r _ oa f1 p l e R s0 m args below meth c0 A H locs la ad ad0 n0 QC XC hst hdy2 (qx_fin_sub hfin f2)
theorem sn_lcmp {Z : qe_Z} {j pc nx : Nat} {nt : qe_N dp} (hc : ∀ x y : Int64, qc_st (zM Z j) pc nx [.long y, .long x] [.int (lg_cmp x y)]) (hn : qx_sn Z j nx nt) : qx_sn Z j pc (ql_lcmp nt) := by
  intro k c d hk hcc ls st g outs h
  obtain ⟨y, r1, e1, h1⟩ := qe_hd_ok h
  obtain ⟨x, r, e2, h1b⟩ := qe_hd_ok h1
  subst e2; subst e1
  obtain ⟨hi, h2⟩ := qe_if_ok h1b
  rw [Bool.and_eq_true] at hi
  intro p l e R s0 m args below meth c0 A H locs la ad ad0 n0 QC XC hst hdy hfin
  have d7 := hdy.2.2.2.2.2.2.1
  obtain ⟨r3, cx2, oa, f1, f2, f3, f4, f5⟩ := qe_go2L_ok hdy.2.2.2.2.2.2.2.1 h2
  have e2 : qe_v (zE Z) ad x = .long (qe_lng (zE Z).2.2.2 x) := qe_val_lng hi.1
  have e3 : qe_v (zE Z) ad y = .long (qe_lng (zE Z).2.2.2 y) := qe_val_lng hi.2
  have e4 : qe_v (zE Z) ad (qe_cmpr r3) = .int (qe_int (zE Z).2.2.2 (qe_cmpr r3)) := qe_val_int f5
  rw [List.map_cons, List.map_cons, e2, e3]
  refine hc _ _ hst.1 ?_
  have hdy2 := qx_dy_wc hdy f3 (st2 := qe_cmpr r3 :: r) (fun v hv => by
    rcases List.mem_cons.mp hv with q | q
    · rw [q]; exact qe_rb_int f5
    · exact d7 v (List.mem_cons_of_mem _ (List.mem_cons_of_mem _ q)))
  have := hn k c d hk hcc ls (qe_cmpr r3 :: r) _ oa f1 p l e R s0 m args below meth c0 A H locs la ad ad0 n0 QC XC hst hdy2 (qx_fin_sub hfin f2)
  rw [List.map_cons, e4, ← f4] at this
  exact this
theorem qe_swr_ok {rho : Nat → Int32} {k : qe_K dp} {df x ls : Nat} {r : List Nat} : ∀ (tg : List Nat) (i : Nat) (g : qe_G dp) (outs : List (qe_O dp)), i + tg.length ≤ 2147483648 → qe_cok rho (qg_cx g) → qe_swr k df x ls r tg i g = some outs →
    (∃ (q b : Nat) (cx2 : qe_Cx) (oa : List (qe_O dp)), tg[q]? = some b ∧ (qe_int rho x).toInt = (i : Int) + (q : Int) ∧ k b ls r (qg_wc g cx2) = some oa ∧ (∀ o ∈ oa, o ∈ outs) ∧ qe_cok rho cx2) ∨
    (((qe_int rho x).toInt < (i : Int) ∨ (i : Int) + (tg.length : Int) ≤ (qe_int rho x).toInt) ∧ ∃ (cx2 : qe_Cx) (oa : List (qe_O dp)), k df ls r (qg_wc g cx2) = some oa ∧ (∀ o ∈ oa, o ∈ outs) ∧ qe_cok rho cx2)
  | [], i, g, outs, _, hc, h => by
    refine Or.inr ⟨?_, qg_cx g, outs, h, fun o ho => ho, hc⟩
    rw [List.length_nil]
    omega
  | b :: tg, i, g, outs, hl, hc, h => by
    rw [List.length_cons] at hl
    obtain ⟨cx2, oa, f1, f2, f3⟩ := qe_go2_ok hc (show qe_go2 g x (qe_I i) (fun q g2 => cond (Nat.beq q 0) (k df ls r g2) (cond (Nat.beq q 1) (k b ls r g2) (qe_swr k df x ls r tg (Nat.add i 1) g2))) = some outs from h)
    rw [qe_I_int] at f1
    have hi : (Int32.ofNat i).toInt = (i : Int) := by
      have e1 := qe_so_of i
      have e2 := qe_so_eq (Int32.ofNat i)
      have e3 : qe_of i = (i + 2147483648) % 4294967296 := rfl
      omega
    rcases qe_c3_cases (qe_int rho x) (Int32.ofNat i) with ⟨c1, c2⟩ | ⟨c1, c2⟩ | ⟨c1, c2⟩
    · rw [c2] at f1
      have := Int32.lt_iff_toInt_lt.mp c1
      exact Or.inr ⟨Or.inl (by omega), cx2, oa, f1, f2, f3⟩
    · rw [c2] at f1
      exact Or.inl ⟨0, b, cx2, oa, rfl, by rw [c1, hi]; simp, f1, f2, f3⟩
    · rw [c2] at f1
      have c3 := Int32.lt_iff_toInt_lt.mp c1
      rcases qe_swr_ok tg (i + 1) (qg_wc g cx2) oa (by omega) f3 f1 with ⟨q, b2, cx3, ob, g1, g2, g3, g4, g5⟩ | ⟨g1, cx3, ob, g3, g4, g5⟩
      · exact Or.inl ⟨q + 1, b2, cx3, ob, by rw [List.getElem?_cons_succ]; exact g1, by rw [g2]; omega, g3, fun o ho => f2 o (g4 o ho), g5⟩
      · refine Or.inr ⟨Or.inr ?_, cx3, ob, g3, fun o ho => f2 o (g4 o ho), g5⟩
        rw [List.length_cons]
        omega
theorem sn_sw {Z : qe_Z} {j pc lo df dfp : Nat} {tg tp : List Nat} (hc : qc_sw (zM Z j) pc (lo : Int) dfp tp) (hl : lo + tg.length ≤ 2147483648) (hd : zp Z j df = dfp) (ht : tg.map (zp Z j) = tp) : qx_sn Z j pc (ql_sw lo df tg : qe_N dp) := by
  intro k c d hk hcc ls st g outs h
  obtain ⟨x, r, e1, h1⟩ := qe_hd_ok h
  subst e1
  obtain ⟨hi, h2⟩ := qe_if_ok h1
  intro p l e R s0 m args below meth c0 A H locs la ad ad0 n0 QC XC hst hdy hfin
  have d7 := hdy.2.2.2.2.2.2.1
  have e2 : qe_v (zE Z) ad x = .int (qe_int (zE Z).2.2.2 x) := qe_val_int hi
  have htl : tp.length = tg.length := by rw [← ht, List.length_map]
  rw [List.map_cons, e2]
  have go : ∀ (b : Nat) (cx2 : qe_Cx) (oa : List (qe_O dp)), k b ls r (qg_wc g cx2) = some oa → (∀ o ∈ oa, o ∈ outs) → qe_cok (zE Z).2.2.2 cx2 → W p l e R s0 m args below meth c0 H locs (qg_ce g) (qg_sl g) (vx_MQ below QC XC args s0 R.cells R.slots A) (F0 m (zp Z j b) la (r.map (qe_v (zE Z) ad))) := fun b cx2 oa f1 f2 f3 =>
    hk b ls r _ oa f1 p l e R s0 m args below meth c0 A H locs la ad ad0 n0 QC XC hst (qx_dy_wc hdy f3 (fun v hv => d7 v (List.mem_cons_of_mem _ hv))) (qx_fin_sub hfin f2)
  rcases qe_swr_ok (rho := (zE Z).2.2.2) tg lo g outs hl hdy.2.2.2.2.2.2.2.1 h2 with ⟨q, b, cx2, oa, g1, g2, g3, g4, g5⟩ | ⟨g1, cx2, oa, g3, g4, g5⟩
  · refine hc hst.1 _ (fun hq => ?_) (fun i tgt h3 h4 => ?_)
    · exfalso
      have : q < tg.length := (List.getElem?_eq_some_iff.mp g1).1
      omega
    · have hiq : i = q := by omega
      subst hiq
      have h5 : tp[i]? = some (zp Z j b) := by rw [← ht, List.getElem?_map, g1]; rfl
      cases h5.symm.trans h3
      exact go b cx2 oa g3 g4 g5
  · refine hc hst.1 _ (fun hq => ?_) (fun i tgt h3 h4 => ?_)
    · rw [← hd]
      exact go df cx2 oa g3 g4 g5
    · exfalso
      have : i < tp.length := (List.getElem?_eq_some_iff.mp h3).1
      omega
theorem sn_div {Z : qe_Z} {j pc nx : Nat} {nt : qe_N dp} (hc : ∀ x y : Int32, ¬ y = 0 → qc_st (zM Z j) pc nx [.int y, .int x] [.int (x / y)]) (hn : qx_sn Z j nx nt) : qx_sn Z j pc (ql_div nt) := by
  intro k c d hk hcc ls st g outs h
  obtain ⟨y, r1, e1, h1⟩ := qe_hd_ok h
  obtain ⟨x, r, e2, h1b⟩ := qe_hd_ok h1
  subst e2; subst e1
  obtain ⟨hi, h2⟩ := qe_if_ok h1b
  simp only [Bool.and_eq_true, Bool.not_eq_true', Bool.or_eq_false_iff] at hi
  obtain ⟨⟨i1, i2⟩, ⟨i3, i4⟩, i5, i6, i7⟩ := hi
  have k1 : x / 8 < 2 ^ 31 := Nat.le_of_ble_eq_true i5
  have k2 : y / 8 < 2 ^ 31 := Nat.le_of_ble_eq_true i6
  have k3 : 0 < y / 8 := Nat.le_of_ble_eq_true i7
  have z1 : qe_int (zE Z).2.2.2 x = Int32.ofNat (x / 8) := by unfold qe_int; rw [i3]; rfl
  have z2 : qe_int (zE Z).2.2.2 y = Int32.ofNat (y / 8) := by unfold qe_int; rw [i4]; rfl
  refine qx_stk (old := [y, x]) (new := [qe_I (x / 8 / (y / 8))]) (fun ad => ?_) (fun n _ v hv => ?_) (hn k c d hk hcc ls _ g outs h2)
  · have e1 : qe_v (zE Z) ad y = .int (Int32.ofNat (y / 8)) := by rw [← z2]; exact qe_val_int i2
    have e2 : qe_v (zE Z) ad x = .int (Int32.ofNat (x / 8)) := by rw [← z1]; exact qe_val_int i1
    have e3 : qe_v (zE Z) ad (qe_I (x / 8 / (y / 8))) = .int (Int32.ofNat (x / 8 / (y / 8))) := by rw [← qe_I_int (zE Z).2.2.2]; exact qe_val_int (qe_I_is _)
    have hne : ¬ Int32.ofNat (y / 8) = 0 := by
      intro q
      have q1 := qe_so_inj.mp q
      have q2 := qe_so_of (y / 8)
      have q3 : qe_of (y / 8) = (y / 8 + 2147483648) % 4294967296 := rfl
      have q4 : qe_so 0 = 2147483648 := rfl
      omega
    show qc_st (zM Z j) pc nx [qe_v (zE Z) ad y, qe_v (zE Z) ad x] [qe_v (zE Z) ad (qe_I (x / 8 / (y / 8)))]
    have e9 : Int32.ofNat (x / 8) / Int32.ofNat (y / 8) = Int32.ofNat (x / 8 / (y / 8)) := pk_div k1 k3 k2
    rw [e1, e2, e3, ← e9]
    exact @hc (Int32.ofNat (x / 8)) (Int32.ofNat (y / 8)) hne
  · rw [List.mem_singleton.mp hv]; exact qe_rb_int (qe_I_is _)
end QEY
end
section
/-! ENGINE, part 9: objects and arrays -/
section QEO
variable {dp : Nat}
theorem qe_wrf_ok {r : Nat} (h : qe_wrf r = true) : qe_is 2 r = true ∧ qe_sym r = false := by
  unfold qe_wrf at h
  rw [Bool.and_eq_true] at h
  exact ⟨h.1, by simpa using h.2⟩
theorem qe_wrf_val {E : qe_E} {ad : Nat → Nat} {r : Nat} (h : qe_wrf r = true) : qe_v E ad r = .ref (ad (r / 8)) := by
  obtain ⟨h1, h2⟩ := qe_wrf_ok h
  have e := qe_val_ref (ad := ad) (ext := E.2.2.1) (rho := E.2.2.2) h1
  unfold qe_adr at e
  rw [h2] at e
  exact e
theorem qe_wrf_lt {n r : Nat} (h : qe_wrf r = true) (hr : qe_rb n r) : r / 8 < n := hr (qe_wrf_ok h).1 (qe_wrf_ok h).2
theorem sn_get {Z : qe_Z} {j pc nx ci fk : Nat} {nt : qe_N dp} (hc : qc_get (zc Z) (zM Z j) pc nx ci fk) (hci : ci < 100) (hn : qx_sn Z j nx nt) : qx_sn Z j pc (ql_get ci fk nt) := by
  intro k c d hk hcc ls st g outs h
  obtain ⟨r, rest, e1, h1⟩ := qe_hd_ok h
  subst e1
  obtain ⟨hi, h2⟩ := qe_if_ok h1
  rw [Bool.and_eq_true, Bool.and_eq_true] at hi
  obtain ⟨i1, i2, i3⟩ := hi
  have hg := hn k c d hk hcc ls _ g outs h2
  intro p l e R s0 m args below meth c0 A H locs la ad ad0 n0 QC XC hst hdy hfin
  obtain ⟨d1, d2, d3, d4, d5, d6, d7, d8, d9, d10⟩ := hdy
  have hlt := qe_wrf_lt i1 (d7 r List.mem_cons_self)
  have k1 : (qe_cl g r).1 = ci := Nat.eq_of_beq_eq_true i2
  have k2 : fk < (qe_cl g r).2.1 := Nat.le_of_ble_eq_true i3
  have he := qe_ws_get (dp := dp) (E := zE Z) (ad := ad) (t := qg_t g) hlt
  rw [qe_ent_obj (show Nat.blt (qe_rd dp (qg_t g) (r / 8)).1 100 = true from Nat.ble_eq_true_of_le (by
    have : (qe_rd dp (qg_t g) (r / 8)).1 = ci := k1
    omega)), show (qe_rd dp (qg_t g) (r / 8)).1 = ci from k1] at he
  rw [List.map_cons, qe_wrf_val i1]
  refine hc (A := A) (H0 := H) hst.1 hst.2.2.1 d1 _ _ _ _ he (qe_fs_get k2) ?_
  exact hg p l e R s0 m args below meth c0 A H locs la ad ad0 n0 QC XC hst ⟨d1, d2, d3, d4, d5, d6, fun v hv => by
    rcases List.mem_cons.mp hv with q | q
    · rw [q]; exact d5.2 _ hlt _
    · exact d7 v (List.mem_cons_of_mem _ q), d8, d9, d10⟩ hfin
/-- the type that a code of a value's fit stands for -/
def qx_ty (tc : Nat) (ty : FieldType) : Prop := (tc = 1 ∧ ty = .int) ∨ (tc = 2 ∧ ty = .boolean) ∨ (tc = 3 ∧ ty = .long) ∨ (tc = 4 ∧ ((∃ n, ty = .object n) ∨ ∃ t, ty = .array t))
theorem qe_fit_ok {E : qe_E} {ad : Nat → Nat} {tc v : Nat} {ty : FieldType} (ht : qx_ty tc ty) (h : qe_fit tc v = true) : narrow ty (qe_v E ad v) = qe_v E ad v ∧ fits ty (qe_v E ad v) = true := by
  rcases ht with ⟨rfl, rfl⟩ | ⟨rfl, rfl⟩ | ⟨rfl, rfl⟩ | ⟨rfl, ht⟩
  · have e : qe_v E ad v = .int (qe_int E.2.2.2 v) := qe_val_int (show qe_is 0 v = true from h)
    rw [e]; exact ⟨rfl, rfl⟩
  · have h2 : (Nat.beq v 0 || Nat.beq v 8) = true := h
    rw [Bool.or_eq_true] at h2
    rcases h2 with q | q
    · rw [Nat.eq_of_beq_eq_true q, show qe_v E ad 0 = .int 0 from rfl]
      exact ⟨by first | rfl | decide +kernel | simp [narrow], by first | rfl | decide +kernel | simp [fits]⟩
    · rw [Nat.eq_of_beq_eq_true q, show qe_v E ad 8 = .int 1 from rfl]
      exact ⟨by first | rfl | decide +kernel | simp [narrow], by first | rfl | decide +kernel | simp [fits]⟩
  · have e : qe_v E ad v = .long (qe_lng E.2.2.2 v) := qe_val_lng (show qe_is 1 v = true from h)
    rw [e]; exact ⟨rfl, rfl⟩
  · have h2 : (qe_is 2 v || Nat.beq v 3) = true := h
    rw [Bool.or_eq_true] at h2
    rcases h2 with q | q
    · have e : qe_v E ad v = .ref (qe_adr ad E.2.2.1 v) := qe_val_ref q
      rw [e]
      rcases ht with ⟨n, rfl⟩ | ⟨t, rfl⟩ <;> exact ⟨rfl, rfl⟩
    · rw [Nat.eq_of_beq_eq_true q]
      have e : qe_v E ad 3 = .null := rfl
      rw [e]
      rcases ht with ⟨n, rfl⟩ | ⟨t, rfl⟩ <;> exact ⟨rfl, rfl⟩
theorem sn_put {Z : qe_Z} {j pc nx ci fk tc : Nat} {ty : FieldType} {nt : qe_N dp} (hc : qc_put (zc Z) (zM Z j) pc nx ci fk ty) (hci : ci < 100) (ht : qx_ty tc ty) (hn : qx_sn Z j nx nt) : qx_sn Z j pc (ql_put ci fk tc nt) := by
  intro k c d hk hcc ls st g outs h
  obtain ⟨v, r1, e1, h1⟩ := qe_hd_ok h
  obtain ⟨r, rest, e2, h1b⟩ := qe_hd_ok h1
  subst e2; subst e1
  obtain ⟨hi, h2⟩ := qe_if_ok h1b
  simp only [Bool.and_eq_true] at hi
  obtain ⟨⟨i1, i2, i3⟩, i4, i5⟩ := hi
  have hl := qe_lim_lt i5
  have hg := hn k c d hk hcc ls _ _ outs h2
  intro p l e R s0 m args below meth c0 A H locs la ad ad0 n0 QC XC hst hdy hfin
  obtain ⟨d1, d2, d3, d4, d5, d6, d7, d8, d9, d10⟩ := hdy
  have hlt := qe_wrf_lt i1 (d7 r (List.mem_cons_of_mem _ List.mem_cons_self))
  have k1 : (qe_cl g r).1 = ci := Nat.eq_of_beq_eq_true i2
  have k2 : fk < (qe_cl g r).2.1 := Nat.le_of_ble_eq_true i3
  have kb : Nat.blt (qe_cl g r).1 100 = true := Nat.ble_eq_true_of_le (by rw [k1]; exact hci)
  have he := qe_ws_get (dp := dp) (E := zE Z) (ad := ad) (t := qg_t g) hlt
  rw [qe_ent_obj (show Nat.blt (qe_rd dp (qg_t g) (r / 8)).1 100 = true from kb), show (qe_rd dp (qg_t g) (r / 8)).1 = ci from k1] at he
  obtain ⟨f1, f2⟩ := qe_fit_ok (E := zE Z) (ad := ad) ht i4
  have hset : (qe_ws dp (zE Z) ad (qg_n g) (qg_t g)).set (r / 8) (ad (r / 8), .inr (ci, ((List.range (qe_rd dp (qg_t g) (r / 8)).2.1).map (fun k => qe_v (zE Z) ad (qe_get (qe_rd dp (qg_t g) (r / 8)).2.2 k))).set fk (qe_v (zE Z) ad v))) = qe_ws dp (zE Z) ad (qg_n (qe_up g r fk v)) (qg_t (qe_up g r fk v)) := by
    show _ = qe_ws dp (zE Z) ad (qg_n g) (qe_wr dp (qg_t g) (r / 8) ((qe_cl g r).1, (qe_cl g r).2.1, qe_set (qe_cl g r).2.2 fk v))
    rw [← qe_ws_set hlt d5.1, qe_fs_set hl]
    have e9 : qe_ent (zE Z) ad ((qe_cl g r).1, (qe_cl g r).2.1, qe_set (qe_cl g r).2.2 fk v) = .inr ((qe_cl g r).1, (List.range (qe_cl g r).2.1).map (fun k => qe_v (zE Z) ad (qe_get (qe_set (qe_cl g r).2.2 fk v) k))) := qe_ent_obj kb
    rw [e9, k1]
    try rfl
  rw [List.map_cons, List.map_cons, qe_wrf_val i1]
  refine hc hst.1 hst.2.2.1 d1 d2 d3 _ _ _ _ he f1 f2 (by rw [List.length_map, List.length_range]; exact k2) (fun H1 locs1 p1 p2 p3 => ?_)
  rw [hset] at p1 p2
  exact hg p l e R s0 m args below meth c0 A H1 locs1 la ad ad0 n0 QC XC hst ⟨p1, p2, p3, d4, qe_wi_set d5 hlt (d7 v List.mem_cons_self) hl, d6, fun w hw => d7 w (List.mem_cons_of_mem _ (List.mem_cons_of_mem _ hw)), d8, d9, d10⟩ hfin
theorem qe_get_big {d i N : Nat} (h : d < 2 ^ (72 * N)) (hi : N ≤ i) : qe_get d i = 0 := by
  show (d >>> (72 * i)) % 2 ^ 72 = 0
  rw [Nat.shiftRight_eq_div_pow, Nat.div_eq_of_lt (Nat.lt_of_lt_of_le h (Nat.pow_le_pow_right (by decide) (by omega)))]
/-- one cell more -/
theorem qx_dy_mk {Z : qe_Z} {j ls : Nat} {st st2 : List Nat} {g : qe_G dp} {s : State} {R : Room} {A : Nat → Prop} {H H1 : Heap} {locs : List Loc} {la : Array Slot} {ad ad0 : Nat → Nat} {n0 q N : Nat} {x : qe_C} (hdy : qx_dy Z j ls st g s R A H locs la ad ad0 n0) (hn : qg_n g < 2 ^ dp) (hx : ∀ n j, qe_rb n (qe_get x.2.2 j))
    (p1 : va_P (zE Z).1 (zc Z) (qe_ws dp (zE Z) ad (qg_n g) (qg_t g) ++ [(q, qe_ent (zE Z) ad x)]) H1) (p2 : va_D A (qe_ws dp (zE Z) ad (qg_n g) (qg_t g) ++ [(q, qe_ent (zE Z) ad x)])) (p3 : va_S A s.heap H1 locs) (hs : ∀ v ∈ st2, qe_rb (qg_n g) v) (hr : qg_ce g + 1 ≤ R.cells ∧ qg_sl g + N ≤ R.slots) :
    qx_dy Z j ls (qe_R (qg_n g) :: st2) (qe_mk g x N) s R A H1 locs la (va_up ad (qg_n g) q) ad0 n0 := by
  obtain ⟨d1, d2, d3, d4, d5, d6, d7, d8, d9, d10⟩ := hdy
  rw [qe_ws_push d5 hn (hx _)] at p1 p2
  have hup : ∀ k, k < qg_n g → va_up ad (qg_n g) q k = ad k := fun k hk => by unfold va_up; rw [if_neg (by omega)]
  refine ⟨p1, p2, p3, qe_lh_ext d4 d6 hup, qe_wi_push d5 hn (hx _), fun i => qe_rb_up (d6 i) (Nat.le_succ _), fun v hv => ?_, d8, hr, Nat.le_succ_of_le d10.1, fun k hk => ?_⟩
  · rcases List.mem_cons.mp hv with e | e
    · rw [e]; exact qe_rb_R (Nat.lt_succ_self _)
    · exact qe_rb_up (hs v e) (Nat.le_succ _)
  · rw [hup k (Nat.lt_of_lt_of_le hk d10.1)]; exact d10.2 k hk
theorem qe_mk_st {E : qe_E} {ad : Nat → Nat} {n q : Nat} {st : List Nat} (hs : ∀ v ∈ st, qe_rb n v) : (qe_R n :: st).map (qe_v E (va_up ad n q)) = .ref q :: st.map (qe_v E ad) := by
  rw [List.map_cons]
  congr 1
  · have e : qe_v E (va_up ad n q) (qe_R n) = .ref (qe_adr (va_up ad n q) E.2.2.1 (qe_R n)) := qe_val_ref (qe_R_is n)
    rw [e, qe_R_adr]
    unfold va_up
    rw [if_pos rfl]
  · refine List.map_congr_left fun v hv => qe_v_ext (hs v hv) (fun k hk => ?_)
    unfold va_up
    rw [if_neg (by omega)]
theorem sn_new {Z : qe_Z} {j pc nx ci N nd : Nat} {fs : List Value} {nt : qe_N dp} (hc : qc_new (zc Z) (zM Z j) pc nx ci N fs) (hci : ci < 100) (hfs : ∀ (E : qe_E) (ad : Nat → Nat), (List.range N).map (fun k => qe_v E ad (qe_get nd k)) = fs) (hnd : nd < 2 ^ (72 * N)) (hnb : ∀ k, k < N → qe_is 2 (qe_get nd k) = false) (hn : qx_sn Z j nx nt) : qx_sn Z j pc (ql_new ci N nd nt) := by
  intro k c d hk hcc ls st g outs h
  obtain ⟨hi, h2⟩ := qe_if_ok h
  have hlt : qg_n g < 2 ^ dp := Nat.le_of_ble_eq_true hi
  obtain ⟨h3, o, ho, hce, hsl⟩ := qe_ge_ok h2
  have hg := hn k c d hk hcc ls _ _ outs h3
  intro p l e R s0 m args below meth c0 A H locs la ad ad0 n0 QC XC hst hdy hfin
  have hro := (hfin o ho).1
  have hr : qg_ce g + 1 ≤ R.cells ∧ qg_sl g + N ≤ R.slots := ⟨Nat.le_trans hce hro.1, Nat.le_trans hsl hro.2⟩
  have hx : ∀ n i, qe_rb n (qe_get (ci, N, nd).2.2 i) := fun n i h2 => by
    rcases Nat.lt_or_ge i N with q | q
    · rw [hnb i q] at h2; cases h2
    · rw [show (ci, N, nd).2.2 = nd from rfl, qe_get_big hnd q] at h2; cases h2
  have hent : qe_ent (zE Z) ad (ci, N, nd) = .inr (ci, fs) := by
    rw [qe_ent_obj (show Nat.blt (ci, N, nd).1 100 = true from Nat.ble_eq_true_of_le hci)]
    show _ = Sum.inr (ci, fs)
    rw [← hfs (zE Z) ad]
  refine hc hst.1 hst.2.2.1 hdy.1 hdy.2.1 hdy.2.2.1 hst.2.2.2.2.1 hr.1 hr.2 (fun q H1 p1 p2 p3 => ?_)
  rw [← hent] at p1 p2
  have := hg p l e R s0 m args below meth c0 A H1 locs la _ ad0 n0 QC XC hst (qx_dy_mk (N := N) hdy hlt hx p1 p2 p3 hdy.2.2.2.2.2.2.1 hr) hfin
  rw [qe_mk_st hdy.2.2.2.2.2.2.1] at this
  exact this
theorem qe_clamp {a : Nat} (h : a < 65536) : (Int32.ofNat a).toNatClampNeg = a ∧ ¬ Int32.ofNat a < 0 := by
  have h1 := nI_in (c := a) (N := 65536) h (by decide)
  exact ⟨nI_clamp (by omega), fun q => h1 (Or.inl q)⟩
theorem qe_vin {a n : Nat} (h : a < 65536) (hn : a < n) : vp_in (Int32.ofNat a) n := by
  obtain ⟨h1, h2⟩ := qe_clamp h
  intro q
  rcases q with q | q
  · exact h2 q
  · rw [h1] at q; omega
theorem qe_conc {rho : Nat → Int32} {v : Nat} (h : qe_sym v = false) : qe_int rho v = Int32.ofNat (v / 8) := by
  unfold qe_int; rw [h]; rfl
theorem sn_newa {Z : qe_Z} {j pc nx kd : Nat} {ty : FieldType} {a0 : Nat → vp_A} {nt : qe_N dp} (hc : qc_newa (zc Z) (zM Z j) pc nx ty a0) (t0 : Nat) {cA : ClassId} (ht0 : (qe_tys (zE Z))[t0]? = some (cA, ty)) (hty : ∀ n, ty ≠ .object n) (hent : ∀ (N : Nat) (ad : Nat → Nat), qe_ent (zE Z) ad (kd, N, 0) = .inl (cA, a0 N)) (hn : qx_sn Z j nx nt) : qx_sn Z j pc (ql_newa kd nt) := by
  intro k c d hk hcc ls st g outs h
  obtain ⟨v, rest, e1, h1⟩ := qe_hd_ok h
  subst e1
  obtain ⟨hi, h2⟩ := qe_if_ok h1
  simp only [Bool.and_eq_true, Bool.not_eq_true'] at hi
  obtain ⟨⟨i1, i2⟩, i3, i4⟩ := hi
  have hlt : qg_n g < 2 ^ dp := Nat.le_of_ble_eq_true i4
  have hv : v / 8 < 65536 := Nat.le_of_ble_eq_true i3
  obtain ⟨h3, o, ho, hce, hsl⟩ := qe_ge_ok h2
  have hg := hn k c d hk hcc ls _ _ outs h3
  intro p l e R s0 m args below meth c0 A H locs la ad ad0 n0 QC XC hst hdy hfin
  have hro := (hfin o ho).1
  have hr : qg_ce g + 1 ≤ R.cells ∧ qg_sl g + v / 8 ≤ R.slots := ⟨Nat.le_trans hce hro.1, Nat.le_trans hsl hro.2⟩
  have hx : ∀ n i, qe_rb n (qe_get (kd, v / 8, 0).2.2 i) := fun n i h2 => by
    rw [show qe_get (kd, v / 8, 0).2.2 i = 0 from qe_get_zero i] at h2; cases h2
  have ev : qe_v (zE Z) ad v = .int (Int32.ofNat (v / 8)) := by rw [← qe_conc (rho := (zE Z).2.2.2) i2]; exact qe_val_int i1
  have d7 := hdy.2.2.2.2.2.2.1
  rw [List.map_cons, ev]
  obtain ⟨c1, c2⟩ := qe_clamp hv
  refine hc hst.1 hst.2.2.1 hdy.1 hdy.2.1 hdy.2.2.1 hst.2.2.2.2.1 _ (v / 8) c2 c1 (by omega) hr.1 hr.2 (fun q cB H1 pK p1 p2 p3 => ?_)
  have hcB : cB = cA := by
    have g1 := (pK.2 (qe_tys (zE Z)).length (cB, ty) (by rw [List.getElem?_append_right (Nat.le_refl _), Nat.sub_self]; rfl)).2
    have g2 := (hst.2.2.1.2 t0 _ ht0).2
    cases ty with
    | object n => exact absurd rfl (hty n)
    | _ => exact Option.some.inj (g1.symm.trans g2)
  subst hcB
  rw [← hent (v / 8) ad] at p1 p2
  have hs2 : ∀ w ∈ rest, qe_rb (qg_n g) w := fun w hw => d7 w (List.mem_cons_of_mem _ hw)
  have := hg p l e R s0 m args below meth c0 A H1 locs la _ ad0 n0 QC XC hst (qx_dy_mk (N := v / 8) hdy hlt hx p1 p2 p3 hs2 hr) hfin
  rw [qe_mk_st hs2] at this
  exact this
theorem qe_ent_int {E : qe_E} {ad : Nat → Nat} {N x : Nat} : qe_ent E ad (100, N, x) = .inl (E.2.1.1, N, .inl (fun j => qe_int E.2.2.2 (qe_get x j))) := rfl
theorem qe_ent_bool {E : qe_E} {ad : Nat → Nat} {N x : Nat} : qe_ent E ad (101, N, x) = .inl (E.2.1.2.1, N, .inl (fun j => qe_int E.2.2.2 (qe_get x j))) := rfl
theorem qe_ent_long {E : qe_E} {ad : Nat → Nat} {N x : Nat} : qe_ent E ad (102, N, x) = .inl (E.2.1.2.2, N, .inr (.inl (fun j => qe_lng E.2.2.2 (qe_get x j)))) := rfl
theorem qe_z_int {E : qe_E} : (fun j => qe_int E.2.2.2 (qe_get 0 j)) = (fun _ => 0) := funext fun j => by rw [qe_get_zero]; rfl
theorem qe_z_lng {E : qe_E} : (fun j => qe_lng E.2.2.2 (qe_get 0 j)) = (fun _ => 0) := funext fun j => by rw [qe_get_zero]; rfl
theorem sn_newi {Z : qe_Z} {j pc nx : Nat} {nt : qe_N dp} (hc : qc_newa (zc Z) (zM Z j) pc nx .int (fun N => (N, .inl (fun _ => 0)))) (hn : qx_sn Z j nx nt) : qx_sn Z j pc (ql_newa 100 nt) :=
  sn_newa hc 0 (cA := (zE Z).2.1.1) rfl (fun n h => by cases h) (fun N ad => by rw [qe_ent_int, qe_z_int]) hn
theorem sn_newz {Z : qe_Z} {j pc nx : Nat} {nt : qe_N dp} (hc : qc_newa (zc Z) (zM Z j) pc nx .boolean (fun N => (N, .inl (fun _ => 0)))) (hn : qx_sn Z j nx nt) : qx_sn Z j pc (ql_newa 101 nt) :=
  sn_newa hc 1 (cA := (zE Z).2.1.2.1) rfl (fun n h => by cases h) (fun N ad => by rw [qe_ent_bool, qe_z_int]) hn
theorem sn_newl {Z : qe_Z} {j pc nx : Nat} {nt : qe_N dp} (hc : qc_newa (zc Z) (zM Z j) pc nx .long (fun N => (N, .inr (.inl (fun _ => 0))))) (hn : qx_sn Z j nx nt) : qx_sn Z j pc (ql_newa 102 nt) :=
  sn_newa hc 2 (cA := (zE Z).2.1.2.2) rfl (fun n h => by cases h) (fun N ad => by rw [qe_ent_long, qe_z_lng]) hn
theorem sn_alen {Z : qe_Z} {j pc nx : Nat} {nt : qe_N dp} (hc : qc_alen (zc Z) (zM Z j) pc nx) (hn : qx_sn Z j nx nt) : qx_sn Z j pc (ql_alen nt) := by
  intro k c d hk hcc ls st g outs h
  obtain ⟨r, rest, e1, h1⟩ := qe_hd_ok h
  subst e1
  obtain ⟨hi, h2⟩ := qe_if_ok h1
  rw [Bool.and_eq_true] at hi
  obtain ⟨i1, i2⟩ := hi
  have hg := hn k c d hk hcc ls _ g outs h2
  intro p l e R s0 m args below meth c0 A H locs la ad ad0 n0 QC XC hst hdy hfin
  obtain ⟨d1, d2, d3, d4, d5, d6, d7, d8, d9, d10⟩ := hdy
  have hlt := qe_wrf_lt i1 (d7 r List.mem_cons_self)
  have he := qe_ws_get (dp := dp) (E := zE Z) (ad := ad) (t := qg_t g) hlt
  have hk3 : (qe_cl g r).1 = 100 ∨ (qe_cl g r).1 = 101 ∨ (qe_cl g r).1 = 102 := by
    unfold qe_arr at i2
    rw [Bool.and_eq_true] at i2
    have a1 := Nat.le_of_ble_eq_true i2.1
    have a2 := Nat.le_of_ble_eq_true i2.2
    omega
  have ev : qe_v (zE Z) ad (qe_I (qe_cl g r).2.1) = .int (Int32.ofNat (qe_cl g r).2.1) := by rw [← qe_I_int (zE Z).2.2.2]; exact qe_val_int (qe_I_is _)
  have hc2 : qe_rd dp (qg_t g) (r / 8) = ((qe_cl g r).1, (qe_cl g r).2.1, (qe_cl g r).2.2) := rfl
  rw [hc2] at he
  have fin := hg p l e R s0 m args below meth c0 A H locs la ad ad0 n0 QC XC hst ⟨d1, d2, d3, d4, d5, d6, fun v hv => by
    rcases List.mem_cons.mp hv with q | q
    · rw [q]; exact qe_rb_int (qe_I_is _)
    · exact d7 v (List.mem_cons_of_mem _ q), d8, d9, d10⟩ hfin
  rw [List.map_cons, ev] at fin
  rw [List.map_cons, qe_wrf_val i1]
  rcases hk3 with q | q | q
  · rw [q, qe_ent_int] at he
    exact hc (A := A) (H0 := H) hst.1 hst.2.2.1 d1 _ 0 _ _ _ .int he rfl fin
  · rw [q, qe_ent_bool] at he
    exact hc (A := A) (H0 := H) hst.1 hst.2.2.1 d1 _ 1 _ _ _ .boolean he rfl fin
  · rw [q, qe_ent_long] at he
    exact hc (A := A) (H0 := H) hst.1 hst.2.2.1 d1 _ 2 _ _ _ .long he rfl fin
theorem qe_cnc_ok {rho : Nat → Int32} {cx : qe_Cx} {v ii : Nat} (hc : qe_cok rho cx) (h : qe_cnc cx v = some ii) : qe_is 0 v = true ∧ qe_int rho v = Int32.ofNat ii := by
  unfold qe_cnc at h
  obtain ⟨h1, h2⟩ := qe_if_ok h
  refine ⟨h1, ?_⟩
  cases hs : qe_sym v
  · rw [hs] at h2
    obtain ⟨h3, h4⟩ := qe_if_ok (show cond (Nat.blt (Nat.div v 8) 2147483648) (some (Nat.div v 8)) none = some ii from h2)
    rw [qe_conc hs]
    have : v / 8 = ii := Option.some.inj h4
    rw [this]
  · rw [hs] at h2
    obtain ⟨h3, h4⟩ := qe_if_ok (show cond (Nat.beq (qe_rng (Nat.div v 8) cx).1 (qe_rng (Nat.div v 8) cx).2 && Nat.ble 2147483648 (qe_rng (Nat.div v 8) cx).1) (some (Nat.sub (qe_rng (Nat.div v 8) cx).1 2147483648)) none = some ii from h2)
    rw [Bool.and_eq_true] at h3
    have a1 := Nat.eq_of_beq_eq_true h3.1
    have a2 := Nat.le_of_ble_eq_true h3.2
    obtain ⟨b1, b2⟩ := hc (v / 8)
    have e : qe_int rho v = rho (v / 8) := by unfold qe_int; rw [hs]; rfl
    have a3 : (qe_rng (v / 8) cx).1 - 2147483648 = ii := Option.some.inj h4
    have a1' : (qe_rng (v / 8) cx).1 = (qe_rng (v / 8) cx).2 := a1
    have a2' : 2147483648 ≤ (qe_rng (v / 8) cx).1 := a2
    have b3 := qe_so_lt (rho (v / 8))
    rw [e, qe_so_inj, qe_so_of]
    show _ = (ii + 2147483648) % 4294967296
    omega
theorem sn_ald {Z : qe_Z} {j pc nx kd t0 : Nat} {ty : FieldType} {cA : ClassId} {nt : qe_N dp} (ht0 : (qe_tys (zE Z))[t0]? = some (cA, ty)) (hent : ∀ (N x : Nat) (ad : Nat → Nat), qe_ent (zE Z) ad (kd, N, x) = .inl (cA, N, .inl (fun j => qe_int (zE Z).2.2.2 (qe_get x j))))
    (hc : ∀ {p : Program} {l : Launch} {e : Env} {R : Room} {s : State} {m : MethodId} {args : Array Value} {below : List Frame} {meth : Method} {c : Code} {H : Heap} {locs : List Loc} {cells slots : Nat} {Q : State → Prop} {la : Array Slot} {rest : List Value} {ws : va_W}, qe_bd (zM Z j) p l s m args meth c → va_K (zE Z).1 (zc Z) (qe_tys (zE Z)) s → va_P (zE Z).1 (zc Z) ws H → ∀ (q0 a n : Nat) (f : Nat → Int32) (i : Int32), ws[q0]? = some (a, .inl (cA, n, .inl f)) → vp_in i n → W p l e R s m args below meth c H locs cells slots Q (F0 m nx la (.int (f i.toNatClampNeg) :: rest)) → W p l e R s m args below meth c H locs cells slots Q (F0 m pc la (.int i :: .ref a :: rest)))
    (hn : qx_sn Z j nx nt) : qx_sn Z j pc (ql_ald kd nt) := by
  intro k c d hk hcc ls st g outs h
  obtain ⟨i, r1, e1, h1⟩ := qe_hd_ok h
  obtain ⟨r, rest, e2, h1b⟩ := qe_hd_ok h1
  subst e2; subst e1
  obtain ⟨ii, hii, h1c⟩ := qe_bind_ok h1b
  obtain ⟨hi, h2⟩ := qe_if_ok h1c
  simp only [Bool.and_eq_true] at hi
  obtain ⟨⟨i1, i2⟩, i3, i4, i5⟩ := hi
  have hg := hn k c d hk hcc ls _ g outs h2
  intro p l e R s0 m args below meth c0 A H locs la ad ad0 n0 QC XC hst hdy hfin
  obtain ⟨d1, d2, d3, d4, d5, d6, d7, d8, d9, d10⟩ := hdy
  have hlt := qe_wrf_lt i1 (d7 r (List.mem_cons_of_mem _ List.mem_cons_self))
  have he := qe_ws_get (dp := dp) (E := zE Z) (ad := ad) (t := qg_t g) hlt
  have k1 : (qe_cl g r).1 = kd := Nat.eq_of_beq_eq_true i2
  have k2 : ii < (qe_cl g r).2.1 := Nat.le_of_ble_eq_true i3
  have k3 : ii < 65536 := Nat.le_of_ble_eq_true i4
  have hc2 : qe_rd dp (qg_t g) (r / 8) = (kd, (qe_cl g r).2.1, (qe_cl g r).2.2) := by rw [← k1]; rfl
  rw [hc2, hent] at he
  obtain ⟨j1, j2⟩ := qe_cnc_ok d8 hii
  have ei : qe_v (zE Z) ad i = .int (Int32.ofNat ii) := by rw [← j2]; exact qe_val_int j1
  have ev : qe_v (zE Z) ad (qe_get (qe_cl g r).2.2 ii) = .int (qe_int (zE Z).2.2.2 (qe_get (qe_cl g r).2.2 ii)) := qe_val_int i5
  have fin := hg p l e R s0 m args below meth c0 A H locs la ad ad0 n0 QC XC hst ⟨d1, d2, d3, d4, d5, d6, fun v hv => by
    rcases List.mem_cons.mp hv with q | q
    · rw [q]; exact qe_rb_int i5
    · exact d7 v (List.mem_cons_of_mem _ (List.mem_cons_of_mem _ q)), d8, d9, d10⟩ hfin
  rw [List.map_cons, ev] at fin
  rw [List.map_cons, List.map_cons, qe_wrf_val i1, ei]
  refine hc hst.1 hst.2.2.1 d1 _ _ _ _ _ he (qe_vin k3 k2) ?_
  rw [(qe_clamp k3).1]
  exact fin
theorem sn_iald {Z : qe_Z} {j pc nx : Nat} {nt : qe_N dp} (hc : qc_iald (zc Z) (zM Z j) pc nx) (hn : qx_sn Z j nx nt) : qx_sn Z j pc (ql_ald 100 nt) :=
  sn_ald (t0 := 0) (ty := .int) (cA := (zE Z).2.1.1) rfl (fun N x ad => qe_ent_int) (fun hB hK hP q0 a n f i ha hi kk => hc (A := fun _ => True) (H0 := #[]) hB hK hP q0 0 a n _ f i ha rfl hi kk) hn
theorem sn_zald {Z : qe_Z} {j pc nx : Nat} {nt : qe_N dp} (hc : qc_zald (zc Z) (zM Z j) pc nx) (hn : qx_sn Z j nx nt) : qx_sn Z j pc (ql_ald 101 nt) :=
  sn_ald (t0 := 1) (ty := .boolean) (cA := (zE Z).2.1.2.1) rfl (fun N x ad => qe_ent_bool) (fun hB hK hP q0 a n f i ha hi kk => hc (A := fun _ => True) (H0 := #[]) hB hK hP q0 1 a n _ f i ha rfl hi kk) hn
theorem qe_lz_ok {rho : Nat → Int32} {v : Nat} (h : qe_is 1 (qe_lz v) = true) : qe_lng rho (qe_lz v) = qe_lng rho v := by
  unfold qe_lz at h ⊢
  cases h1 : qe_is 1 v
  · rw [h1] at h
    cases h2 : Nat.beq v 0
    · rw [h2] at h
      exact absurd (show qe_is 1 7 = true from h) (by decide)
    · rw [Nat.eq_of_beq_eq_true h2]; rfl
  · rfl
theorem sn_lald {Z : qe_Z} {j pc nx : Nat} {nt : qe_N dp} (hc : qc_lald (zc Z) (zM Z j) pc nx) (hn : qx_sn Z j nx nt) : qx_sn Z j pc (ql_lald nt) := by
  intro k c d hk hcc ls st g outs h
  obtain ⟨i, r1, e1, h1⟩ := qe_hd_ok h
  obtain ⟨r, rest, e2, h1b⟩ := qe_hd_ok h1
  subst e2; subst e1
  obtain ⟨ii, hii, h1c⟩ := qe_bind_ok h1b
  obtain ⟨hi, h2⟩ := qe_if_ok h1c
  simp only [Bool.and_eq_true] at hi
  obtain ⟨⟨i1, i2⟩, i3, i4, i5⟩ := hi
  have hg := hn k c d hk hcc ls _ g outs h2
  intro p l e R s0 m args below meth c0 A H locs la ad ad0 n0 QC XC hst hdy hfin
  obtain ⟨d1, d2, d3, d4, d5, d6, d7, d8, d9, d10⟩ := hdy
  have hlt := qe_wrf_lt i1 (d7 r (List.mem_cons_of_mem _ List.mem_cons_self))
  have he := qe_ws_get (dp := dp) (E := zE Z) (ad := ad) (t := qg_t g) hlt
  have k1 : (qe_cl g r).1 = 102 := Nat.eq_of_beq_eq_true i2
  have k2 : ii < (qe_cl g r).2.1 := Nat.le_of_ble_eq_true i3
  have k3 : ii < 65536 := Nat.le_of_ble_eq_true i4
  have hc2 : qe_rd dp (qg_t g) (r / 8) = (102, (qe_cl g r).2.1, (qe_cl g r).2.2) := by rw [← k1]; rfl
  rw [hc2, qe_ent_long] at he
  obtain ⟨j1, j2⟩ := qe_cnc_ok d8 hii
  have ei : qe_v (zE Z) ad i = .int (Int32.ofNat ii) := by rw [← j2]; exact qe_val_int j1
  have ev : qe_v (zE Z) ad (qe_lz (qe_get (qe_cl g r).2.2 ii)) = .long (qe_lng (zE Z).2.2.2 (qe_get (qe_cl g r).2.2 ii)) := by rw [← qe_lz_ok i5]; exact qe_val_lng i5
  have fin := hg p l e R s0 m args below meth c0 A H locs la ad ad0 n0 QC XC hst ⟨d1, d2, d3, d4, d5, d6, fun v hv => by
    rcases List.mem_cons.mp hv with q | q
    · rw [q]; exact qe_rb_lng i5
    · exact d7 v (List.mem_cons_of_mem _ (List.mem_cons_of_mem _ q)), d8, d9, d10⟩ hfin
  rw [List.map_cons, ev] at fin
  rw [List.map_cons, List.map_cons, qe_wrf_val i1, ei]
  refine hc (A := fun _ => True) (H0 := #[]) hst.1 hst.2.2.1 d1 _ 2 _ _ _ _ _ he rfl (qe_vin k3 k2) ?_
  rw [(qe_clamp k3).1]
  exact fin
end QEO
end
section
/-! ENGINE, part 10: rows of the kit that need the room or what lies outside the world: arrays written, calls, throws, ends; made by wip/engine/gen12.py -/
section QEL
variable {dp : Nat}
def qx_cat (l : List Value) : Nat := (l.map fun v => v.category).sum
def qc_obj (Z : qe_Z) (j : Nat) (pc nx : Nat) : Prop := ∀ {p : Program} {l : Launch} {e : Env} {R : Room} {s : State} {m : MethodId} {args : Array Value} {below : List Frame} {meth : Method} {c : Code} {H : Heap} {locs : List Loc} {cells slots : Nat} {la : Array Slot} {rest : List Value} {Q : State → Prop}, qe_bd (zM Z j) p l s m args meth c → 1 ≤ R.frames → qx_cat rest + 12 ≤ R.locals → la.size = c.maxLocals → ∀ a : Nat, W p l e R s m args below meth c H locs cells slots Q (F0 m nx la rest) → W p l e R s m args below meth c H locs cells slots Q (F0 m pc la (.ref a :: rest))
theorem qk_obj {Z : qe_Z} {j pc idx : Nat} (h : decode (zM Z j).2.1 pc = .ok (.invokespecial idx, 3)) (w1 : Cond.methodLink (zM Z j).2.2.2.2.2 idx Lib.objectInit ∈ (zM Z j).2.2.2.2.1) (w2 : Cond.instanceMethod Lib.objectInit ∈ (zM Z j).2.2.2.2.1) (w3 : Cond.code Lib.objectInit ⟨#[0xb1]⟩ 1 none ∈ (zM Z j).2.2.2.2.1) : qc_obj Z j pc (pc + 3) := by
  intro p l e R s m args below meth c H locs cells slots la rest Q hB hf hl hs a kk
  refine W.objInit hB.1 hB.2.1 hB.2.2.2.2.2.1 (hB.2.2.2.2.1 _ w1) (hB.2.2.2.2.1 _ w2) (hB.2.2.2.2.1 _ w3) rfl hs rfl h hf ?_ kk
  show 2 * 0 + (rest.map fun v => v.category).sum + 12 ≤ R.locals
  have : (rest.map fun v => v.category).sum + 12 ≤ R.locals := hl
  omega
def qc_mm (Z : qe_Z) (j : Nat) (pc nx w : Nat) : Prop := ∀ {p : Program} {l : Launch} {e : Env} {R : Room} {s : State} {m : MethodId} {args : Array Value} {below : List Frame} {meth : Method} {c : Code} {H : Heap} {locs : List Loc} {cells slots : Nat} {la : Array Slot} {rest : List Value} {Q : State → Prop}, qe_bd (zM Z j) p l s m args meth c → 1 ≤ R.frames → qx_cat rest + 13 ≤ R.locals → la.size = c.maxLocals → cells ≤ R.cells → slots ≤ R.slots → ∀ x y : Int32, W p l e R s m args below meth c H locs cells slots Q (F0 m nx la (.int (cond (Nat.beq (qe_c3 (qe_so x) (qe_so y)) w) y x) :: rest)) → W p l e R s m args below meth c H locs cells slots Q (F0 m pc la (.int y :: .int x :: rest))
theorem qk_mmax {Z : qe_Z} {j pc idx : Nat} (h : decode (zM Z j).2.1 pc = .ok (.invokestatic idx, 3)) (w1 : Cond.methodLink (zM Z j).2.2.2.2.2 idx Lib.Math.max.name ∈ (zM Z j).2.2.2.2.1) (w2 : Cond.static Lib.Math.max.name ∈ (zM Z j).2.2.2.2.1) (w3 : Cond.initialized "java/lang/Math" ∈ (zM Z j).2.2.2.2.1) (w4 : Cond.code Lib.Math.max.name Lib.Math.max.code 2 (some .int) ∈ (zM Z j).2.2.2.2.1) : qc_mm Z j pc (pc + 3) 0 := by
  intro p l e R s m args below meth c H locs cells slots la rest Q hB hf hl hs hc1 hc2 x y kk
  have e1 : (if x < y then y else x) = cond (Nat.beq (qe_c3 (qe_so x) (qe_so y)) 0) y x := by
    rcases qe_c3_cases x y with ⟨a, b⟩ | ⟨a, b⟩ | ⟨a, b⟩ <;> rw [b]
    · first | rw [if_pos a]; rfl | rw [if_neg (qe_ilt_asym a)]; rfl
    · subst a; rw [if_neg (qe_ilt_irr _)]; rfl
    · first | rw [if_pos a]; rfl | rw [if_neg (qe_ilt_asym a)]; rfl
  refine va_mmax hB.1 hB.2.1 hs.symm hB.2.2.2.2.2.1 (hB.2.2.2.2.1 _ w1) (hB.2.2.2.2.1 _ w2) (hB.2.2.2.2.1 _ w3) (hB.2.2.2.2.1 _ w4) hf hl hc1 hc2 h ?_
  rw [e1]
  exact kk
theorem qk_mmin {Z : qe_Z} {j pc idx : Nat} (h : decode (zM Z j).2.1 pc = .ok (.invokestatic idx, 3)) (w1 : Cond.methodLink (zM Z j).2.2.2.2.2 idx Lib.Math.min.name ∈ (zM Z j).2.2.2.2.1) (w2 : Cond.static Lib.Math.min.name ∈ (zM Z j).2.2.2.2.1) (w3 : Cond.initialized "java/lang/Math" ∈ (zM Z j).2.2.2.2.1) (w4 : Cond.code Lib.Math.min.name Lib.Math.min.code 2 (some .int) ∈ (zM Z j).2.2.2.2.1) : qc_mm Z j pc (pc + 3) 2 := by
  intro p l e R s m args below meth c H locs cells slots la rest Q hB hf hl hs hc1 hc2 x y kk
  have e1 : (if y < x then y else x) = cond (Nat.beq (qe_c3 (qe_so x) (qe_so y)) 2) y x := by
    rcases qe_c3_cases x y with ⟨a, b⟩ | ⟨a, b⟩ | ⟨a, b⟩ <;> rw [b]
    · first | rw [if_pos a]; rfl | rw [if_neg (qe_ilt_asym a)]; rfl
    · subst a; rw [if_neg (qe_ilt_irr _)]; rfl
    · first | rw [if_pos a]; rfl | rw [if_neg (qe_ilt_asym a)]; rfl
  refine va_mmin hB.1 hB.2.1 hs.symm hB.2.2.2.2.2.1 (hB.2.2.2.2.1 _ w1) (hB.2.2.2.2.1 _ w2) (hB.2.2.2.2.1 _ w3) (hB.2.2.2.2.1 _ w4) hf hl hc1 hc2 h ?_
  rw [e1]
  exact kk
def qc_slen (Z : qe_Z) (j : Nat) (pc nx : Nat) (len : Nat → Nat) : Prop := ∀ {p : Program} {l : Launch} {e : Env} {R : Room} {s : State} {m : MethodId} {args : Array Value} {below : List Frame} {meth : Method} {c : Code} {H : Heap} {locs : List Loc} {cells slots : Nat} {la : Array Slot} {rest : List Value} {Q : State → Prop}, qe_bd (zM Z j) p l s m args meth c → ∀ (A : Nat → Prop), zX Z A s s.heap → va_S A s.heap H locs → (∀ q, s.heap.size ≤ q → A q) → 20 ≤ R.frames → 200 ≤ R.locals → qx_cat rest ≤ 8 → la.size = c.maxLocals → cells ≤ R.cells → slots ≤ R.slots → ∀ i : Nat, 0 < len i → W p l e R s m args below meth c H locs cells slots Q (F0 m nx la (.int (Int32.ofNat (len i)) :: rest)) → W p l e R s m args below meth c H locs cells slots Q (F0 m pc la (.ref ((zE Z).2.2.1 i) :: rest))
def qc_pstr (Z : qe_Z) (j : Nat) (pc nx i : Nat) : Prop := ∀ {p : Program} {l : Launch} {e : Env} {R : Room} {s : State} {m : MethodId} {args : Array Value} {below : List Frame} {meth : Method} {c : Code} {H : Heap} {locs : List Loc} {cells slots : Nat} {la : Array Slot} {rest : List Value} {Q : State → Prop}, qe_bd (zM Z j) p l s m args meth c → ∀ (A : Nat → Prop), zX Z A s s.heap → W p l e R s m args below meth c H locs cells slots Q (F0 m nx la (.ref ((zE Z).2.2.1 i) :: rest)) → W p l e R s m args below meth c H locs cells slots Q (F0 m pc la rest)
def qc_xlen (Z : qe_Z) (j : Nat) (pc nx L : Nat) : Prop := ∀ {p : Program} {l : Launch} {e : Env} {R : Room} {s : State} {m : MethodId} {args : Array Value} {below : List Frame} {meth : Method} {c : Code} {H : Heap} {locs : List Loc} {cells slots : Nat} {la : Array Slot} {rest : List Value} {Q : State → Prop}, qe_bd (zM Z j) p l s m args meth c → ∀ (A : Nat → Prop), zX Z A s s.heap → va_S A s.heap H locs → W p l e R s m args below meth c H locs cells slots Q (F0 m nx la (.int (Int32.ofNat L) :: rest)) → W p l e R s m args below meth c H locs cells slots Q (F0 m pc la (.ref ((zE Z).2.2.1 0) :: rest))
def qc_xld (Z : qe_Z) (j : Nat) (pc nx L : Nat) : Prop := ∀ {p : Program} {l : Launch} {e : Env} {R : Room} {s : State} {m : MethodId} {args : Array Value} {below : List Frame} {meth : Method} {c : Code} {H : Heap} {locs : List Loc} {cells slots : Nat} {la : Array Slot} {rest : List Value} {Q : State → Prop}, qe_bd (zM Z j) p l s m args meth c → ∀ (A : Nat → Prop), zX Z A s s.heap → va_S A s.heap H locs → ∀ i : Nat, i < L → i < 65536 → W p l e R s m args below meth c H locs cells slots Q (F0 m nx la (.int ((zE Z).2.2.2 i) :: rest)) → W p l e R s m args below meth c H locs cells slots Q (F0 m pc la (.int (Int32.ofNat i) :: .ref ((zE Z).2.2.1 0) :: rest))
def qc_cpy (Z : qe_Z) (j : Nat) (pc nx : Nat) : Prop := ∀ {p : Program} {l : Launch} {e : Env} {R : Room} {s : State} {m : MethodId} {args : Array Value} {below : List Frame} {meth : Method} {c : Code} {H : Heap} {locs : List Loc} {cells slots : Nat} {la : Array Slot} {rest : List Value} {Q : State → Prop}, qe_bd (zM Z j) p l s m args meth c → ∀ {D : va_G} {tys : List (ClassId × FieldType)} {ws : va_W} {A : Nat → Prop} {H0 : Heap}, va_K D (zc Z) tys s → va_P D (zc Z) ws H → va_D A ws → va_S A H0 H locs → 20 ≤ R.frames → 200 ≤ R.locals → qx_cat rest ≤ 8 → la.size = c.maxLocals → ∀ (q0 q1 t0 a0 a1 n0 n1 i : Nat) (cA : ClassId) (f g : Nat → Int32), ws[q0]? = some (a0, .inl (cA, n0, .inl f)) → ws[q1]? = some (a1, .inl (cA, n1, .inl g)) → tys[t0]? = some (cA, .int) → i ≤ n0 → i ≤ n1 → i < 65536 → (∀ (H1 : Heap) (locs1 : List Loc), va_P D (zc Z) (ws.set q1 (a1, .inl (cA, n1, .inl (fun k => if k < i then f k else g k)))) H1 → va_D A (ws.set q1 (a1, .inl (cA, n1, .inl (fun k => if k < i then f k else g k)))) → va_S A H0 H1 locs1 → W p l e R s m args below meth c H1 locs1 cells slots Q (F0 m nx la rest)) → W p l e R s m args below meth c H locs cells slots Q (F0 m pc la (.int (Int32.ofNat i) :: .int 0 :: .ref a1 :: .int 0 :: .ref a0 :: rest))
theorem qk_cpy {Z : qe_Z} {j pc idx : Nat} (h : decode (zM Z j).2.1 pc = .ok (.invokestatic idx, 3)) (w1 : Cond.methodLink (zM Z j).2.2.2.2.2 idx arraycopyName ∈ (zM Z j).2.2.2.2.1) (w2 : Cond.native arraycopyName ∈ (zM Z j).2.2.2.2.1) (w3 : Cond.static arraycopyName ∈ (zM Z j).2.2.2.2.1) (w4 : Cond.initialized "java/lang/System" ∈ (zM Z j).2.2.2.2.1) : qc_cpy Z j pc (pc + 3) := by
  intro p l e R s m args below meth c H locs cells slots la rest Q hB D tys ws A H0 hK hP hD hS hf hl hcat hs q0 q1 t0 a0 a1 n0 n1 i cA f g ha0 ha1 ht hi0 hi1 hi kk
  obtain ⟨c1, c2⟩ := qe_clamp hi
  have z1 : ((0 : Int32)).toNatClampNeg = 0 := rfl
  have z2 : ¬ ((0 : Int32) < 0) := by decide
  have hw : nativeFrameWords "java/lang/System" "arraycopy" 5 + 11 + 8 ≤ 200 := by decide +kernel
  have hcat' : (rest.map fun v => v.category).sum ≤ 8 := hcat
  have he : va_cpy f g ((0 : Int32)).toNatClampNeg ((0 : Int32)).toNatClampNeg (Int32.ofNat i).toNatClampNeg = fun k => if k < i then f k else g k := by
    rw [z1, c1]
    funext k
    unfold va_cpy
    by_cases hk : k < i
    · rw [if_pos ⟨Nat.zero_le _, by omega⟩, if_pos hk]; congr 1; omega
    · rw [if_neg (by omega), if_neg hk]
  refine va_copyi (D := D) hB.1 hB.2.1 hs.symm hB.2.2.2.2.2.1 (hB.2.2.2.2.1 _ w1) (hB.2.2.2.2.1 _ w2) (hB.2.2.2.2.1 _ w3) (hB.2.2.2.2.1 _ w4) hK hP hD hS q0 q1 t0 t0 ha0 ha1 ht ht rfl z2 z2 c2 (by rw [z1, c1]; omega) (by rw [z1, c1]; omega) (fun _ _ => rfl) (by omega) (by omega) h (fun H1 locs1 p1 p2 p3 => ?_)
  rw [he] at p1 p2
  exact kk H1 locs1 p1 p2 p3
def qx_rv (rt : Nat) (v : Value) : Prop := (rt = 1 ∧ ∃ x : Int32, v = .int x) ∨ (rt = 2 ∧ ∃ x : Int32, v = .int x ∧ narrow .boolean (.int x) = .int x) ∨ (rt = 3 ∧ ∃ x : Int64, v = .long x) ∨ (rt = 4 ∧ (v = .null ∨ ∃ a : Nat, v = .ref a))
def qc_ret (Z : qe_Z) (j : Nat) (pc rt : Nat) : Prop := ∀ {p : Program} {l : Launch} {e : Env} {R : Room} {s : State} {m : MethodId} {args : Array Value} {below : List Frame} {meth : Method} {c : Code} {H : Heap} {locs : List Loc} {cells slots : Nat} {la : Array Slot} {rest : List Value} {A : Nat → Prop} {QC : Array Value → State → Outcome → State → Prop} {XC : String → State → State → Prop}, qe_bd (zM Z j) p l s m args meth c → ∀ v : Value, qx_rv rt v → (∀ t : State, t.heap = H → s.WarmedH t.vm → QC args s (.returned (some v)) t) → (∀ q ∈ locs, A q.base) → cells ≤ R.cells → slots ≤ R.slots → W p l e R s m args below meth c H locs cells slots (vx_MQ below QC XC args s R.cells R.slots A) (F0 m pc la [v])
def qc_ret0 (Z : qe_Z) (j : Nat) (pc : Nat) : Prop := ∀ {p : Program} {l : Launch} {e : Env} {R : Room} {s : State} {m : MethodId} {args : Array Value} {below : List Frame} {meth : Method} {c : Code} {H : Heap} {locs : List Loc} {cells slots : Nat} {la : Array Slot} {rest : List Value} {A : Nat → Prop} {QC : Array Value → State → Outcome → State → Prop} {XC : String → State → State → Prop}, qe_bd (zM Z j) p l s m args meth c → (∀ t : State, t.heap = H → s.WarmedH t.vm → QC args s (.returned none) t) → (∀ q ∈ locs, A q.base) → cells ≤ R.cells → slots ≤ R.slots → W p l e R s m args below meth c H locs cells slots (vx_MQ below QC XC args s R.cells R.slots A) (F0 m pc la [])
theorem qk_ireti {Z : qe_Z} {j pc : Nat} (h : decode (zM Z j).2.1 pc = .ok (.ireturn, 1)) (hr : (zM Z j).2.2.2.1 = some .int) : qc_ret Z j pc 1 := by
  intro p l e R s m args below meth c H locs cells slots la rest A QC XC hB v hv hq hf h1 h2
  have hr2 := hB.2.2.2.1.trans hr
  have hk := hB.2.2.2.2.2.2.1
  rcases hv with ⟨a, b⟩ | ⟨a, b⟩ | ⟨a, b⟩ | ⟨a, b⟩ <;> first | (exfalso; omega) | skip
  obtain ⟨x, rfl⟩ := b
  refine W.widen h1 h2 (vx_ret ?_)
  exact W.iret hB.1 hB.2.1 hr2 hq hf h hk
theorem qk_iretz {Z : qe_Z} {j pc : Nat} (h : decode (zM Z j).2.1 pc = .ok (.ireturn, 1)) (hr : (zM Z j).2.2.2.1 = some .boolean) : qc_ret Z j pc 2 := by
  intro p l e R s m args below meth c H locs cells slots la rest A QC XC hB v hv hq hf h1 h2
  have hr2 := hB.2.2.2.1.trans hr
  have hk := hB.2.2.2.2.2.2.1
  rcases hv with ⟨a, b⟩ | ⟨a, b⟩ | ⟨a, b⟩ | ⟨a, b⟩ <;> first | (exfalso; omega) | skip
  obtain ⟨x, rfl, hn⟩ := b
  refine W.widen h1 h2 (vx_ret ?_)
  exact W.zret hB.1 hB.2.1 hr2 hn hq hf h hk
theorem qk_lret {Z : qe_Z} {j pc : Nat} (h : decode (zM Z j).2.1 pc = .ok (.lreturn, 1)) (hr : (zM Z j).2.2.2.1 = some .long) : qc_ret Z j pc 3 := by
  intro p l e R s m args below meth c H locs cells slots la rest A QC XC hB v hv hq hf h1 h2
  have hr2 := hB.2.2.2.1.trans hr
  have hk := hB.2.2.2.2.2.2.1
  rcases hv with ⟨a, b⟩ | ⟨a, b⟩ | ⟨a, b⟩ | ⟨a, b⟩ <;> first | (exfalso; omega) | skip
  obtain ⟨x, rfl⟩ := b
  refine W.widen h1 h2 (vx_ret ?_)
  exact W.lret hB.1 hB.2.1 hr2 hq hf h hk
theorem qk_aret {Z : qe_Z} {j pc : Nat} {rt : FieldType} (h : decode (zM Z j).2.1 pc = .ok (.areturn, 1)) (hr : (zM Z j).2.2.2.1 = some rt) (ht : (∃ n, rt = .object n) ∨ ∃ t, rt = .array t) : qc_ret Z j pc 4 := by
  intro p l e R s m args below meth c H locs cells slots la rest A QC XC hB v hv hq hf h1 h2
  have hr2 := hB.2.2.2.1.trans hr
  have hk := hB.2.2.2.2.2.2.1
  rcases hv with ⟨a, b⟩ | ⟨a, b⟩ | ⟨a, b⟩ | ⟨a, b⟩ <;> first | (exfalso; omega) | skip
  refine W.widen h1 h2 (vx_ret ?_)
  exact W.aret hB.1 hB.2.1 hr2 ht b hq hf h hk
theorem qk_vret {Z : qe_Z} {j pc : Nat} (h : decode (zM Z j).2.1 pc = .ok (.return_, 1)) (hr : (zM Z j).2.2.2.1 = none) : qc_ret0 Z j pc := by
  intro p l e R s m args below meth c H locs cells slots la rest A QC XC hB hq hf h1 h2
  have hr2 := hB.2.2.2.1.trans hr
  have hk := hB.2.2.2.2.2.2.1
  refine W.widen h1 h2 (vx_ret ?_)
  exact W.vret hB.1 hB.2.1 hr2 hq hf h hk
def qc_thr (Z : qe_Z) (j : Nat) (pc i : Nat) : Prop := ∀ {p : Program} {l : Launch} {e : Env} {R : Room} {s : State} {m : MethodId} {args : Array Value} {below : List Frame} {meth : Method} {c : Code} {H : Heap} {locs : List Loc} {cells slots : Nat} {la : Array Slot} {rest : List Value} {A : Nat → Prop} {QC : Array Value → State → Outcome → State → Prop} {XC : String → State → State → Prop}, qe_bd (zM Z j) p l s m args meth c → zX Z A s s.heap → va_S A s.heap H locs → (∀ q, s.heap.size ≤ q → A q) → zT Z j c → la.size = c.maxLocals → 20 ≤ R.frames → 200 ≤ R.locals → cells + 1 ≤ R.cells → slots + 6 ≤ R.slots → qx_cat rest ≤ 8 → (∀ t : State, s.vm.Alike t.vm → H.size ≤ t.heap.size → (∀ q : Nat, q < H.size → t.heap[q]? = H[q]?) → XC (zn Z i) s t) → W p l e R s m args below meth c H locs cells slots (vx_MQ below QC XC args s R.cells R.slots A) (F0 m pc la rest)
def qc_out (Z : qe_Z) (j : Nat) (pc i : Nat) : Prop := ∀ {p : Program} {l : Launch} {e : Env} {R : Room} {s : State} {m : MethodId} {args : Array Value} {below : List Frame} {meth : Method} {c : Code} {H : Heap} {locs : List Loc} {cells slots : Nat} {la : Array Slot} {rest : List Value} {A : Nat → Prop} {QC : Array Value → State → Outcome → State → Prop} {XC : String → State → State → Prop}, qe_bd (zM Z j) p l s m args meth c → zT Z j c → ∀ (q : Nat) (ce : Cell), H[q]? = some ce → ce.vm = .none → s.vm.findClass (zn Z i) = some ce.cls → zX Z A s s.heap → (∀ t : State, t.heap = H → s.vm.Alike t.vm → XC (zn Z i) s t) → (∀ z ∈ locs, A z.base) → cells ≤ R.cells → slots ≤ R.slots → vx_W p l e R s m args below meth c H locs cells slots (vx_MQ below QC XC args s R.cells R.slots A) (F0 m pc la rest) q
def qc_cat (Z : qe_Z) (j : Nat) (pc i pc2 lo : Nat) : Prop := ∀ {p : Program} {l : Launch} {e : Env} {R : Room} {s : State} {m : MethodId} {args : Array Value} {below : List Frame} {meth : Method} {c : Code} {H : Heap} {locs : List Loc} {cells slots : Nat} {la : Array Slot} {rest : List Value} {A : Nat → Prop} {QC : Array Value → State → Outcome → State → Prop} {XC : String → State → State → Prop}, qe_bd (zM Z j) p l s m args meth c → zT Z j c → ∀ (q : Nat) (ce : Cell) (nL : Nat) (lv : List (Nat × Value)), H[q]? = some ce → ce.vm = .none → s.vm.findClass (zn Z i) = some ce.cls → zX Z A s s.heap → lv_has la nL lv → lo < nL → (∀ la2 : Array Slot, lv_has la2 nL ((lo, .ref q) :: lv.filter (fun q => !(q.1 == lo) && !(q.1 + 1 == lo && q.2.category == 2))) → W p l e R s m args below meth c H locs cells slots (vx_MQ below QC XC args s R.cells R.slots A) (F0 m pc2 la2 [])) → vx_W p l e R s m args below meth c H locs cells slots (vx_MQ below QC XC args s R.cells R.slots A) (F0 m pc la rest) q
/-- what a call of method jj owes: rc as in the engine -/
def qx_rc (Z : qe_Z) (rc : Nat) (As : List Value) (H : Heap) (s : State) : Prop := rc = 0 ∨ ∃ (a : Nat) (As2 : List Value) (q : vw_C), As = .ref a :: As2 ∧ (zc Z)[rc - 1]? = some q ∧ ∃ cell : Cell, H[a]? = some cell ∧ cell.vm.isStatics = false ∧ s.vm.findClass q.1 = some cell.cls
def qc_inv (Z : qe_Z) (j pc nx jj na rc : Nat) : Prop := ∀ {p : Program} {l : Launch} {e : Env} {R : Room} {s : State} {m : MethodId} {args : Array Value} {below : List Frame} {meth : Method} {c : Code} {H : Heap} {locs : List Loc} {cells slots : Nat} {la : Array Slot} {rest : List Value} {As : List Value} {rm : Room} {Pc : Array Value → State → Prop} {Qc : Array Value → State → Outcome → State → Prop} {XC : String → State → State → Prop} {mc ms : Nat} {free : Addr → Prop} {A : Nat → Prop}, qe_bd (zM Z j) p l s m args meth c → zX Z A s s.heap → vx_Met l (zM Z jj).1 (zM Z jj).2.2.2.2.1 rm Pc Qc XC mc ms free → rm.cells = mc → rm.slots = ms → rm.frames + 1 ≤ R.frames → 8 + ((zM Z jj).2.2.1 + 11) + rm.locals ≤ R.locals → FrameBlind Pc → qx_rc Z rc As H s → (∀ U : State, U.heap = H → s.WarmedH U.vm → Pc As.toArray U) → As.length = na → la.size = c.maxLocals → qx_cat rest ≤ 8 → cells + mc ≤ R.cells ∧ slots + ms ≤ R.slots → nx = pc + 3 ∧ vx_Run p l e R s m args below meth c H locs cells slots mc ms (F0 m pc la (As.reverse ++ rest)) rest (Qc As.toArray) XC free
end QEL
end
section
/-! ENGINE, part 11: the same, for stores into arrays, what lies outside, ends -/
section QEQ
variable {dp : Nat}
theorem qe_cs_cat {E : qe_E} {ad : Nat → Nat} : ∀ (l : List Nat), qx_cat (l.map (qe_v E ad)) ≤ qe_cs l
  | [] => Nat.le_refl _
  | v :: l => by
    have ih := qe_cs_cat (E := E) (ad := ad) l
    change (qe_v E ad v).category + qx_cat (l.map (qe_v E ad)) ≤ qe_cs l + (cond (qe_is 1 v) 2 1)
    cases h : qe_is 1 v
    · have := qe_cat1 (E := E) (ad := ad) (v := v) (by rw [h]; rfl)
      rw [this]
      show _ ≤ qe_cs l + 1
      omega
    · have e : qe_v E ad v = .long (qe_lng E.2.2.2 v) := qe_val_lng h
      rw [e]
      show 2 + _ ≤ qe_cs l + 2
      omega
theorem qe_cs_le {E : qe_E} {ad : Nat → Nat} {l : List Nat} (h : Nat.ble (qe_cs l) 8 = true) : qx_cat (l.map (qe_v E ad)) ≤ 8 := Nat.le_trans (qe_cs_cat l) (Nat.le_of_ble_eq_true h)
theorem qe_upL_lng {rho : Nat → Int32} {d i v : Nat} (hv : v < 4722366482869645213696) : vp_updL (fun j => qe_lng rho (qe_get d j)) i (qe_lng rho v) = fun j => qe_lng rho (qe_get (qe_set d i v) j) := by
  funext j
  unfold vp_updL
  rw [qe_get_set _ _ _ _ hv]
  by_cases hj : j = i
  · rw [if_pos hj, if_pos hj]
  · rw [if_neg hj, if_neg hj]
/-- what is common to the stores into arrays -/
theorem qx_ast {Z : qe_Z} {j kd ty ls : Nat} {nt : qe_N dp} {k : qe_K dp} {c : qe_C1 dp} {st : List Nat} {g : qe_G dp} {outs : List (qe_O dp)} (h : ql_ast kd ty nt k c ls st g = some outs) : ∃ v i r rest ii, st = v :: i :: r :: rest ∧ qe_cnc (qg_cx g) i = some ii ∧ qe_wrf r = true ∧ (qe_cl g r).1 = kd ∧ ii < (qe_cl g r).2.1 ∧ ii < 65536 ∧ qe_fit ty v = true ∧ v < 4722366482869645213696 ∧ nt k c ls rest (qe_up g r ii v) = some outs := by
  obtain ⟨v, r0, e1, h1⟩ := qe_hd_ok h
  obtain ⟨i, r1, e2, h2⟩ := qe_hd_ok h1
  obtain ⟨r, rest, e3, h3⟩ := qe_hd_ok h2
  obtain ⟨ii, h4, h5⟩ := qe_bind_ok h3
  obtain ⟨h6, h7⟩ := qe_if_ok h5
  simp only [Bool.and_eq_true] at h6
  obtain ⟨⟨i1, i2⟩, ⟨i3, i4⟩, i5, i6⟩ := h6
  subst e3; subst e2; subst e1
  exact ⟨v, i, r, rest, ii, rfl, h4, i1, Nat.eq_of_beq_eq_true i2, Nat.le_of_ble_eq_true i3, Nat.le_of_ble_eq_true i4, i5, qe_lim_lt i6, h7⟩
theorem qx_dy_up {Z : qe_Z} {j ls : Nat} {st rest : List Nat} {g : qe_G dp} {s : State} {R : Room} {A : Nat → Prop} {H H1 : Heap} {locs locs1 : List Loc} {la : Array Slot} {ad ad0 : Nat → Nat} {n0 r ii v : Nat} (hdy : qx_dy Z j ls st g s R A H locs la ad ad0 n0) (hr : r / 8 < qg_n g) (hv : qe_rb (qg_n g) v) (hl : v < 4722366482869645213696) (hs : ∀ w ∈ rest, qe_rb (qg_n g) w)
    (p1 : va_P (zE Z).1 (zc Z) ((qe_ws dp (zE Z) ad (qg_n g) (qg_t g)).set (r / 8) (ad (r / 8), qe_ent (zE Z) ad ((qe_cl g r).1, (qe_cl g r).2.1, qe_set (qe_cl g r).2.2 ii v))) H1) (p2 : va_D A ((qe_ws dp (zE Z) ad (qg_n g) (qg_t g)).set (r / 8) (ad (r / 8), qe_ent (zE Z) ad ((qe_cl g r).1, (qe_cl g r).2.1, qe_set (qe_cl g r).2.2 ii v)))) (p3 : va_S A s.heap H1 locs1) :
    qx_dy Z j ls rest (qe_up g r ii v) s R A H1 locs1 la ad ad0 n0 := by
  obtain ⟨d1, d2, d3, d4, d5, d6, d7, d8, d9, d10⟩ := hdy
  rw [qe_ws_set hr d5.1] at p1 p2
  exact ⟨p1, p2, p3, d4, qe_wi_set d5 hr hv hl, d6, hs, d8, d9, d10⟩
theorem sn_iast {Z : qe_Z} {j pc nx : Nat} {nt : qe_N dp} (hc : qc_iast (zc Z) (zM Z j) pc nx) (hn : qx_sn Z j nx nt) : qx_sn Z j pc (ql_ast 100 1 nt) := by
  intro k c d hk hcc ls st g outs h
  obtain ⟨v, i, r, rest, ii, e1, hii, i1, k1, k2, k3, k4, hl, h2⟩ := qx_ast (Z := Z) (j := j) h
  subst e1
  have hg := hn k c d hk hcc ls _ _ outs h2
  intro p l e R s0 m args below meth c0 A H locs la ad ad0 n0 QC XC hst hdy hfin
  have hdy0 := hdy
  obtain ⟨d1, d2, d3, d4, d5, d6, d7, d8, d9, d10⟩ := hdy
  have d7' : ∀ w ∈ rest, qe_rb (qg_n g) w := fun w hw => d7 w (List.mem_cons_of_mem _ (List.mem_cons_of_mem _ (List.mem_cons_of_mem _ hw)))
  have hlt := qe_wrf_lt i1 (d7 r (List.mem_cons_of_mem _ (List.mem_cons_of_mem _ List.mem_cons_self)))
  have he := qe_ws_get (dp := dp) (E := zE Z) (ad := ad) (t := qg_t g) hlt
  have hc2 : qe_rd dp (qg_t g) (r / 8) = (100, (qe_cl g r).2.1, (qe_cl g r).2.2) := by rw [← k1]; rfl
  rw [hc2, qe_ent_int] at he
  obtain ⟨j1, j2⟩ := qe_cnc_ok d8 hii
  have ei : qe_v (zE Z) ad i = .int (Int32.ofNat ii) := by rw [← j2]; exact qe_val_int j1
  have ev : qe_v (zE Z) ad v = .int (qe_int (zE Z).2.2.2 v) := qe_val_int (show qe_is 0 v = true from k4)
  rw [List.map_cons, List.map_cons, List.map_cons, qe_wrf_val i1, ei, ev]
  refine hc hst.1 hst.2.2.1 d1 d2 d3 _ 0 _ _ _ _ _ _ he rfl (qe_vin k3 k2) (fun H1 locs1 p1 p2 p3 => ?_)
  rw [(qe_clamp k3).1, qe_up_int hl, ← qe_ent_int (ad := ad), ← k1] at p1 p2
  exact hg p l e R s0 m args below meth c0 A H1 locs1 la ad ad0 n0 QC XC hst (qx_dy_up hdy0 hlt (d7 v List.mem_cons_self) hl d7' p1 p2 p3) hfin
theorem sn_zast {Z : qe_Z} {j pc nx : Nat} {nt : qe_N dp} (hc : qc_zast (zc Z) (zM Z j) pc nx) (hn : qx_sn Z j nx nt) : qx_sn Z j pc (ql_ast 101 2 nt) := by
  intro k c d hk hcc ls st g outs h
  obtain ⟨v, i, r, rest, ii, e1, hii, i1, k1, k2, k3, k4, hl, h2⟩ := qx_ast (Z := Z) (j := j) h
  subst e1
  have hg := hn k c d hk hcc ls _ _ outs h2
  intro p l e R s0 m args below meth c0 A H locs la ad ad0 n0 QC XC hst hdy hfin
  have hdy0 := hdy
  obtain ⟨d1, d2, d3, d4, d5, d6, d7, d8, d9, d10⟩ := hdy
  have d7' : ∀ w ∈ rest, qe_rb (qg_n g) w := fun w hw => d7 w (List.mem_cons_of_mem _ (List.mem_cons_of_mem _ (List.mem_cons_of_mem _ hw)))
  have hlt := qe_wrf_lt i1 (d7 r (List.mem_cons_of_mem _ (List.mem_cons_of_mem _ List.mem_cons_self)))
  have he := qe_ws_get (dp := dp) (E := zE Z) (ad := ad) (t := qg_t g) hlt
  have hc2 : qe_rd dp (qg_t g) (r / 8) = (101, (qe_cl g r).2.1, (qe_cl g r).2.2) := by rw [← k1]; rfl
  rw [hc2, qe_ent_bool] at he
  obtain ⟨j1, j2⟩ := qe_cnc_ok d8 hii
  have ei : qe_v (zE Z) ad i = .int (Int32.ofNat ii) := by rw [← j2]; exact qe_val_int j1
  have hv01 : qe_is 0 v = true ∧ vp_nar .boolean (qe_int (zE Z).2.2.2 v) = qe_int (zE Z).2.2.2 v := by
    have h2 : (Nat.beq v 0 || Nat.beq v 8) = true := k4
    rw [Bool.or_eq_true] at h2
    rcases h2 with q | q
    · rw [Nat.eq_of_beq_eq_true q, show qe_int (zE Z).2.2.2 0 = 0 from rfl]
      exact ⟨rfl, by first | rfl | decide +kernel⟩
    · rw [Nat.eq_of_beq_eq_true q, show qe_int (zE Z).2.2.2 8 = 1 from rfl]
      exact ⟨rfl, by first | rfl | decide +kernel⟩
  have ev : qe_v (zE Z) ad v = .int (qe_int (zE Z).2.2.2 v) := qe_val_int hv01.1
  rw [List.map_cons, List.map_cons, List.map_cons, qe_wrf_val i1, ei, ev]
  refine hc hst.1 hst.2.2.1 d1 d2 d3 _ 1 _ _ _ _ _ _ he rfl (qe_vin k3 k2) hv01.2 (fun H1 locs1 p1 p2 p3 => ?_)
  rw [(qe_clamp k3).1, qe_up_int hl, ← qe_ent_bool (ad := ad), ← k1] at p1 p2
  exact hg p l e R s0 m args below meth c0 A H1 locs1 la ad ad0 n0 QC XC hst (qx_dy_up hdy0 hlt (d7 v List.mem_cons_self) hl d7' p1 p2 p3) hfin
theorem sn_last {Z : qe_Z} {j pc nx : Nat} {nt : qe_N dp} (hc : qc_last (zc Z) (zM Z j) pc nx) (hn : qx_sn Z j nx nt) : qx_sn Z j pc (ql_ast 102 3 nt) := by
  intro k c d hk hcc ls st g outs h
  obtain ⟨v, i, r, rest, ii, e1, hii, i1, k1, k2, k3, k4, hl, h2⟩ := qx_ast (Z := Z) (j := j) h
  subst e1
  have hg := hn k c d hk hcc ls _ _ outs h2
  intro p l e R s0 m args below meth c0 A H locs la ad ad0 n0 QC XC hst hdy hfin
  have hdy0 := hdy
  obtain ⟨d1, d2, d3, d4, d5, d6, d7, d8, d9, d10⟩ := hdy
  have d7' : ∀ w ∈ rest, qe_rb (qg_n g) w := fun w hw => d7 w (List.mem_cons_of_mem _ (List.mem_cons_of_mem _ (List.mem_cons_of_mem _ hw)))
  have hlt := qe_wrf_lt i1 (d7 r (List.mem_cons_of_mem _ (List.mem_cons_of_mem _ List.mem_cons_self)))
  have he := qe_ws_get (dp := dp) (E := zE Z) (ad := ad) (t := qg_t g) hlt
  have hc2 : qe_rd dp (qg_t g) (r / 8) = (102, (qe_cl g r).2.1, (qe_cl g r).2.2) := by rw [← k1]; rfl
  rw [hc2, qe_ent_long] at he
  obtain ⟨j1, j2⟩ := qe_cnc_ok d8 hii
  have ei : qe_v (zE Z) ad i = .int (Int32.ofNat ii) := by rw [← j2]; exact qe_val_int j1
  have ev : qe_v (zE Z) ad v = .long (qe_lng (zE Z).2.2.2 v) := qe_val_lng (show qe_is 1 v = true from k4)
  rw [List.map_cons, List.map_cons, List.map_cons, qe_wrf_val i1, ei, ev]
  refine hc hst.1 hst.2.2.1 d1 d2 d3 _ 2 _ _ _ _ _ _ he rfl (qe_vin k3 k2) (fun H1 locs1 p1 p2 p3 => ?_)
  rw [(qe_clamp k3).1, qe_upL_lng hl, ← qe_ent_long (ad := ad), ← k1] at p1 p2
  exact hg p l e R s0 m args below meth c0 A H1 locs1 la ad ad0 n0 QC XC hst (qx_dy_up hdy0 hlt (d7 v List.mem_cons_self) hl d7' p1 p2 p3) hfin
/-- the room at hand, and the locals' size -/
theorem qx_sz {Z : qe_Z} {d j ls : Nat} {st : List Nat} {g : qe_G dp} {p : Program} {l : Launch} {s : State} {m : MethodId} {args : Array Value} {meth : Method} {c : Code} {R : Room} {A : Nat → Prop} {H : Heap} {locs : List Loc} {la : Array Slot} {ad ad0 : Nat → Nat} {n0 : Nat} (hst : qx_st Z d j p l s m args meth c R A) (hdy : qx_dy Z j ls st g s R A H locs la ad ad0 n0) : la.size = c.maxLocals ∧ 20 ≤ R.frames ∧ 200 ≤ R.locals :=
  ⟨hdy.2.2.2.1.1.trans hst.1.2.2.1.symm, by have := hst.2.1.1; omega, by have := hst.2.1.2; omega⟩
theorem qx_dy_st {Z : qe_Z} {j ls : Nat} {st st2 : List Nat} {g : qe_G dp} {s : State} {R : Room} {A : Nat → Prop} {H : Heap} {locs : List Loc} {la : Array Slot} {ad ad0 : Nat → Nat} {n0 : Nat} (h : qx_dy Z j ls st g s R A H locs la ad ad0 n0) (hs : ∀ v ∈ st2, qe_rb (qg_n g) v) : qx_dy Z j ls st2 g s R A H locs la ad ad0 n0 := by
  obtain ⟨d1, d2, d3, d4, d5, d6, d7, d8, d9, d10⟩ := h
  exact ⟨d1, d2, d3, d4, d5, d6, hs, d8, d9, d10⟩
theorem sn_obj {Z : qe_Z} {j pc nx : Nat} {nt : qe_N dp} (hc : qc_obj Z j pc nx) (hn : qx_sn Z j nx nt) : qx_sn Z j pc (ql_obj nt) := by
  intro k c d hk hcc ls st g outs h
  obtain ⟨r, rest, e1, h1⟩ := qe_hd_ok h
  subst e1
  obtain ⟨hi, h2⟩ := qe_if_ok h1
  rw [Bool.and_eq_true] at hi
  have hg := hn k c d hk hcc ls _ g outs h2
  intro p l e R s0 m args below meth c0 A H locs la ad ad0 n0 QC XC hst hdy hfin
  obtain ⟨s1, s2, s3⟩ := qx_sz hst hdy
  have d7 := hdy.2.2.2.2.2.2.1
  have er : qe_v (zE Z) ad r = .ref (qe_adr ad (zE Z).2.2.1 r) := qe_val_ref hi.1
  have hcs := qe_cs_le (E := zE Z) (ad := ad) hi.2
  rw [List.map_cons, er]
  exact hc hst.1 (by omega) (by omega) s1 _ (hg p l e R s0 m args below meth c0 A H locs la ad ad0 n0 QC XC hst (qx_dy_st hdy fun v hv => d7 v (List.mem_cons_of_mem _ hv)) hfin)
theorem sn_mm {Z : qe_Z} {j pc nx w : Nat} {nt : qe_N dp} (hc : qc_mm Z j pc nx w) (hn : qx_sn Z j nx nt) : qx_sn Z j pc (ql_mm w nt) := by
  intro k c d hk hcc ls st g outs h
  obtain ⟨y, r1, e1, h1⟩ := qe_hd_ok h
  obtain ⟨x, r, e2, h1b⟩ := qe_hd_ok h1
  subst e2; subst e1
  obtain ⟨hi, h2⟩ := qe_if_ok h1b
  simp only [Bool.and_eq_true] at hi
  obtain ⟨⟨i1, i2⟩, i3⟩ := hi
  intro p l e R s0 m args below meth c0 A H locs la ad ad0 n0 QC XC hst hdy hfin
  obtain ⟨s1, s2, s3⟩ := qx_sz hst hdy
  have d7 := hdy.2.2.2.2.2.2.1
  have d9 := hdy.2.2.2.2.2.2.2.2.1
  obtain ⟨cx2, oa, f1, f2, f3⟩ := qe_go2_ok hdy.2.2.2.2.2.2.2.1 h2
  have e2 : qe_v (zE Z) ad x = .int (qe_int (zE Z).2.2.2 x) := qe_val_int i1
  have e3 : qe_v (zE Z) ad y = .int (qe_int (zE Z).2.2.2 y) := qe_val_int i2
  have hcs := qe_cs_le (E := zE Z) (ad := ad) i3
  rw [List.map_cons, List.map_cons, e2, e3]
  refine hc hst.1 (by omega) (by omega) s1 d9.1 d9.2 _ _ ?_
  cases hq : Nat.beq (qe_c3 (qe_so (qe_int (zE Z).2.2.2 x)) (qe_so (qe_int (zE Z).2.2.2 y))) w
  · rw [hq] at f1
    have := hn k c d hk hcc ls (x :: r) _ oa f1 p l e R s0 m args below meth c0 A H locs la ad ad0 n0 QC XC hst (qx_dy_wc hdy f3 (fun v hv => by
      rcases List.mem_cons.mp hv with q | q
      · rw [q]; exact qe_rb_int i1
      · exact d7 v (List.mem_cons_of_mem _ (List.mem_cons_of_mem _ q)))) (qx_fin_sub hfin f2)
    rw [List.map_cons, e2] at this
    exact this
  · rw [hq] at f1
    have := hn k c d hk hcc ls (y :: r) _ oa f1 p l e R s0 m args below meth c0 A H locs la ad ad0 n0 QC XC hst (qx_dy_wc hdy f3 (fun v hv => by
      rcases List.mem_cons.mp hv with q | q
      · rw [q]; exact qe_rb_int i2
      · exact d7 v (List.mem_cons_of_mem _ (List.mem_cons_of_mem _ q)))) (qx_fin_sub hfin f2)
    rw [List.map_cons, e3] at this
    exact this
theorem qe_x6 {E : qe_E} {ad : Nat → Nat} {r : Nat} (h : r % 8 = 6) : qe_v E ad r = .ref (E.2.2.1 (r / 8)) := by
  have h2 : qe_is 2 r = true := by
    show Nat.beq (r % 4) 2 = true
    rw [show r % 4 = 2 by omega]; rfl
  have h3 : qe_sym r = true := by
    show Nat.beq (r / 4 % 2) 1 = true
    rw [show r / 4 % 2 = 1 by omega]; rfl
  have e := qe_val_ref (ad := ad) (ext := E.2.2.1) (rho := E.2.2.2) h2
  unfold qe_adr at e
  rw [h3] at e
  exact e
theorem qe_rb_x6 {n r : Nat} (h : r % 8 = 6) : qe_rb n r := fun _ h2 => by
  have h3 : qe_sym r = true := by
    show Nat.beq (r / 4 % 2) 1 = true
    rw [show r / 4 % 2 = 1 by omega]; rfl
  rw [h3] at h2; cases h2
theorem qe_vI {E : qe_E} {ad : Nat → Nat} {n : Nat} : qe_v E ad (qe_I n) = .int (Int32.ofNat n) := by rw [← qe_I_int E.2.2.2]; exact qe_val_int (qe_I_is _)
theorem sn_pstr {Z : qe_Z} {j pc nx i : Nat} {nt : qe_N dp} (hc : qc_pstr Z j pc nx i) (hn : qx_sn Z j nx nt) : qx_sn Z j pc (ql_push (8 * i + 6) nt) := by
  intro k c d hk hcc ls st g outs h
  have hg := hn k c d hk hcc ls _ g outs h
  intro p l e R s0 m args below meth c0 A H locs la ad ad0 n0 QC XC hst hdy hfin
  have d7 := hdy.2.2.2.2.2.2.1
  refine hc hst.1 A hst.2.2.2.1 ?_
  have := hg p l e R s0 m args below meth c0 A H locs la ad ad0 n0 QC XC hst (qx_dy_st hdy fun v hv => by
    rcases List.mem_cons.mp hv with q | q
    · rw [q]; exact qe_rb_x6 (by omega)
    · exact d7 v q) hfin
  rw [List.map_cons, qe_x6 (by omega), show (8 * i + 6) / 8 = i by omega] at this
  exact this
theorem sn_slen {Z : qe_Z} {j pc nx : Nat} {f : Nat → Nat} {nt : qe_N dp} (hc : qc_slen Z j pc nx f) (hn : qx_sn Z j nx nt) : qx_sn Z j pc (ql_slen f nt) := by
  intro k c d hk hcc ls st g outs h
  obtain ⟨r, rest, e1, h1⟩ := qe_hd_ok h
  subst e1
  obtain ⟨hi, h2⟩ := qe_if_ok h1
  simp only [Bool.and_eq_true] at hi
  obtain ⟨⟨i1, i2⟩, i3⟩ := hi
  have hg := hn k c d hk hcc ls _ g outs h2
  intro p l e R s0 m args below meth c0 A H locs la ad ad0 n0 QC XC hst hdy hfin
  obtain ⟨s1, s2, s3⟩ := qx_sz hst hdy
  have d7 := hdy.2.2.2.2.2.2.1
  have d9 := hdy.2.2.2.2.2.2.2.2.1
  have h6 : r % 8 = 6 := Nat.eq_of_beq_eq_true i1
  rw [List.map_cons, qe_x6 h6]
  refine hc hst.1 A hst.2.2.2.1 hdy.2.2.1 hst.2.2.2.2.1 s2 s3 (qe_cs_le i3) s1 d9.1 d9.2 _ (Nat.le_of_ble_eq_true i2) ?_
  have := hg p l e R s0 m args below meth c0 A H locs la ad ad0 n0 QC XC hst (qx_dy_st hdy fun v hv => by
    rcases List.mem_cons.mp hv with q | q
    · rw [q]; exact qe_rb_int (qe_I_is _)
    · exact d7 v (List.mem_cons_of_mem _ q)) hfin
  rw [List.map_cons, qe_vI] at this
  exact this
theorem sn_xlen {Z : qe_Z} {j pc nx L : Nat} {nt : qe_N dp} (hc : qc_xlen Z j pc nx L) (hn : qx_sn Z j nx nt) : qx_sn Z j pc (ql_xlen L nt) := by
  intro k c d hk hcc ls st g outs h
  obtain ⟨r, rest, e1, h1⟩ := qe_hd_ok h
  subst e1
  obtain ⟨hi, h2⟩ := qe_if_ok h1
  have h6 : r = 6 := Nat.eq_of_beq_eq_true hi
  subst h6
  have hg := hn k c d hk hcc ls _ g outs h2
  intro p l e R s0 m args below meth c0 A H locs la ad ad0 n0 QC XC hst hdy hfin
  have d7 := hdy.2.2.2.2.2.2.1
  rw [List.map_cons, qe_x6 (by omega)]
  refine hc hst.1 A hst.2.2.2.1 hdy.2.2.1 ?_
  have := hg p l e R s0 m args below meth c0 A H locs la ad ad0 n0 QC XC hst (qx_dy_st hdy fun v hv => by
    rcases List.mem_cons.mp hv with q | q
    · rw [q]; exact qe_rb_int (qe_I_is _)
    · exact d7 v (List.mem_cons_of_mem _ q)) hfin
  rw [List.map_cons, qe_vI] at this
  exact this
theorem sn_xld {Z : qe_Z} {j pc nx L : Nat} {nt : qe_N dp} (hc : qc_xld Z j pc nx L) (hn : qx_sn Z j nx nt) : qx_sn Z j pc (ql_xld L nt) := by
  intro k c d hk hcc ls st g outs h
  obtain ⟨i, r1, e1, h1⟩ := qe_hd_ok h
  obtain ⟨r, rest, e2, h1b⟩ := qe_hd_ok h1
  subst e2; subst e1
  obtain ⟨hi, h2⟩ := qe_if_ok h1b
  simp only [Bool.and_eq_true, Bool.not_eq_true'] at hi
  obtain ⟨i1, ⟨i2, i3⟩, i4, i5⟩ := hi
  have h6 : r = 6 := Nat.eq_of_beq_eq_true i1
  subst h6
  have k1 : i / 8 < L := Nat.le_of_ble_eq_true i4
  have k2 : i / 8 < 65536 := Nat.le_of_ble_eq_true i5
  have hg := hn k c d hk hcc ls _ g outs h2
  intro p l e R s0 m args below meth c0 A H locs la ad ad0 n0 QC XC hst hdy hfin
  have d7 := hdy.2.2.2.2.2.2.1
  have ei : qe_v (zE Z) ad i = .int (Int32.ofNat (i / 8)) := by rw [← qe_conc (rho := (zE Z).2.2.2) i3]; exact qe_val_int i2
  have s0' : qe_is 0 (8 * (i / 8) + 4) = true := by
    show Nat.beq ((8 * (i / 8) + 4) % 4) 0 = true
    rw [show (8 * (i / 8) + 4) % 4 = 0 by omega]; rfl
  have ev : qe_v (zE Z) ad (8 * (i / 8) + 4) = .int ((zE Z).2.2.2 (i / 8)) := by
    have e1 : qe_v (zE Z) ad (8 * (i / 8) + 4) = .int (qe_int (zE Z).2.2.2 (8 * (i / 8) + 4)) := qe_val_int s0'
    rw [e1]
    unfold qe_int
    have hs : qe_sym (8 * (i / 8) + 4) = true := by
      show Nat.beq ((8 * (i / 8) + 4) / 4 % 2) 1 = true
      rw [show (8 * (i / 8) + 4) / 4 % 2 = 1 by omega]; rfl
    rw [hs]
    show Value.int ((zE Z).2.2.2 ((8 * (i / 8) + 4) / 8)) = _
    rw [show (8 * (i / 8) + 4) / 8 = i / 8 by omega]
  rw [List.map_cons, List.map_cons, qe_x6 (show 6 % 8 = 6 by omega), ei]
  refine hc hst.1 A hst.2.2.2.1 hdy.2.2.1 _ k1 k2 ?_
  have := hg p l e R s0 m args below meth c0 A H locs la ad ad0 n0 QC XC hst (qx_dy_st hdy fun v hv => by
    rcases List.mem_cons.mp hv with q | q
    · rw [q]; exact qe_rb_int s0'
    · exact d7 v (List.mem_cons_of_mem _ (List.mem_cons_of_mem _ q))) hfin
  rw [List.map_cons, show Nat.add (Nat.mul 8 (Nat.div i 8)) 4 = 8 * (i / 8) + 4 from rfl, ev] at this
  exact this
theorem qe_cpy_get {i a b k : Nat} : qe_get (qe_cpy i a b) k = if k < i then qe_get a k else qe_get b k := by
  have hc : qe_cpy i a b = (b >>> (72 * i)) <<< (72 * i) + a % 2 ^ (72 * i) := rfl
  have ha : a % 2 ^ (72 * i) < 2 ^ (72 * i) := Nat.mod_lt _ (Nat.pow_pos (by decide))
  have ho : qe_cpy i a b = ((b >>> (72 * i)) <<< (72 * i)) ||| (a % 2 ^ (72 * i)) := by
    rw [hc, Nat.shiftLeft_add_eq_or_of_lt ha]
  refine Nat.eq_of_testBit_eq fun z => ?_
  rw [qe_get_bit, ho, Nat.testBit_or, Nat.testBit_shiftLeft, Nat.testBit_shiftRight, Nat.testBit_mod_two_pow]
  by_cases hz : z < 72
  · by_cases hk : k < i
    · rw [if_pos hk, qe_get_bit]
      have h1 : ¬ (72 * k + z ≥ 72 * i) := by omega
      have h2 : 72 * k + z < 72 * i := by omega
      simp [hz, h1, h2]
    · rw [if_neg hk, qe_get_bit]
      have h1 : 72 * k + z ≥ 72 * i := by omega
      have h2 : ¬ 72 * k + z < 72 * i := by omega
      have h3 : 72 * i + (72 * k + z - 72 * i) = 72 * k + z := by omega
      simp [hz, h1, h2, h3]
  · by_cases hk : k < i
    · rw [if_pos hk, qe_get_bit]; simp [hz]
    · rw [if_neg hk, qe_get_bit]; simp [hz]
theorem sn_cpy {Z : qe_Z} {j pc nx : Nat} {nt : qe_N dp} (hc : qc_cpy Z j pc nx) (hn : qx_sn Z j nx nt) : qx_sn Z j pc (ql_cpy nt) := by
  intro k c d hk hcc ls st g outs h
  obtain ⟨i, r4, e1, h1⟩ := qe_hd_ok h
  obtain ⟨z1, r3, e2, h2⟩ := qe_hd_ok h1
  obtain ⟨b, r2, e3, h3⟩ := qe_hd_ok h2
  obtain ⟨z0, r1, e4, h4⟩ := qe_hd_ok h3
  obtain ⟨a, rest, e5, h5⟩ := qe_hd_ok h4
  obtain ⟨h6, h7⟩ := qe_if_ok h5
  simp only [Bool.and_eq_true, Bool.not_eq_true'] at h6
  obtain ⟨⟨i1, i2⟩, ⟨i3, i4⟩, ⟨i5, i6⟩, ⟨i7, i8⟩, ⟨i9, i10⟩, i11, i12, i13⟩ := h6
  subst e5; subst e4; subst e3; subst e2; subst e1
  have q0 : z0 = 0 := Nat.eq_of_beq_eq_true i1
  have q1 : z1 = 0 := Nat.eq_of_beq_eq_true i2
  subst q0; subst q1
  have ka : (qe_cl g a).1 = 100 := Nat.eq_of_beq_eq_true i5
  have kb : (qe_cl g b).1 = 100 := Nat.eq_of_beq_eq_true i6
  have l1 : i / 8 ≤ (qe_cl g a).2.1 := Nat.le_of_ble_eq_true i9
  have l2 : i / 8 ≤ (qe_cl g b).2.1 := Nat.le_of_ble_eq_true i10
  have l3 : i / 8 < 65536 := Nat.le_of_ble_eq_true i11
  have hg := hn k c d hk hcc ls _ _ outs h7
  intro p l e R s0 m args below meth c0 A H locs la ad ad0 n0 QC XC hst hdy hfin
  obtain ⟨s1, s2, s3⟩ := qx_sz hst hdy
  obtain ⟨d1, d2, d3, d4, d5, d6, d7, d8, d9, d10⟩ := hdy
  have hla := qe_wrf_lt i3 (d7 a (by simp))
  have hlb := qe_wrf_lt i4 (d7 b (by simp))
  have hea := qe_ws_get (dp := dp) (E := zE Z) (ad := ad) (t := qg_t g) hla
  have heb := qe_ws_get (dp := dp) (E := zE Z) (ad := ad) (t := qg_t g) hlb
  have ha2 : qe_rd dp (qg_t g) (a / 8) = (100, (qe_cl g a).2.1, (qe_cl g a).2.2) := by rw [← ka]; rfl
  have hb2 : qe_rd dp (qg_t g) (b / 8) = (100, (qe_cl g b).2.1, (qe_cl g b).2.2) := by rw [← kb]; rfl
  rw [ha2, qe_ent_int] at hea
  rw [hb2, qe_ent_int] at heb
  have ei : qe_v (zE Z) ad i = .int (Int32.ofNat (i / 8)) := by rw [← qe_conc (rho := (zE Z).2.2.2) i8]; exact qe_val_int i7
  have e0 : qe_v (zE Z) ad 0 = .int 0 := rfl
  simp only [List.map_cons]
  rw [ei, e0, qe_wrf_val i3, qe_wrf_val i4]
  refine hc hst.1 hst.2.2.1 d1 d2 d3 s2 s3 (qe_cs_le i13) s1 _ _ 0 _ _ _ _ _ _ _ _ hea heb rfl l1 l2 l3 (fun H1 locs1 p1 p2 p3 => ?_)
  have hf : (fun x => if x < i / 8 then qe_int (zE Z).2.2.2 (qe_get (qe_cl g a).2.2 x) else qe_int (zE Z).2.2.2 (qe_get (qe_cl g b).2.2 x)) = fun x => qe_int (zE Z).2.2.2 (qe_get (qe_cpy (i / 8) (qe_cl g a).2.2 (qe_cl g b).2.2) x) := by
    funext x
    rw [qe_cpy_get]
    by_cases hx : x < i / 8
    · rw [if_pos hx, if_pos hx]
    · rw [if_neg hx, if_neg hx]
  rw [hf, ← qe_ent_int (ad := ad), qe_ws_set hlb d5.1] at p1 p2
  have hwi : qe_wi dp (qg_n g) (qe_wr dp (qg_t g) (b / 8) (100, (qe_cl g b).2.1, qe_cpy (i / 8) (qe_cl g a).2.2 (qe_cl g b).2.2)) := by
    refine ⟨d5.1, fun z hz w => ?_⟩
    rw [qe_rd_wr]
    by_cases hzb : z = b / 8
    · subst hzb
      rw [if_pos rfl]
      show qe_rb (qg_n g) (qe_get (qe_cpy (i / 8) (qe_cl g a).2.2 (qe_cl g b).2.2) w)
      rw [qe_cpy_get]
      by_cases hw : w < i / 8
      · rw [if_pos hw]; exact d5.2 _ hla w
      · rw [if_neg hw]; exact d5.2 _ hlb w
    · rw [if_neg (fun q => hzb ((qe_mod_ne (Nat.lt_of_lt_of_le hlb d5.1) (Nat.lt_of_lt_of_le hz d5.1)).mp q))]
      exact d5.2 z hz w
  rw [kb] at hg
  exact hg p l e R s0 m args below meth c0 A H1 locs1 la ad ad0 n0 QC XC hst ⟨p1, p2, p3, d4, hwi, d6, fun w hw => d7 w (by simp [hw]), d8, d9, d10⟩ hfin
theorem qe_fit_rv {E : qe_E} {ad : Nat → Nat} {rt v : Nat} (h : qe_fit rt v = true) : qx_rv rt (qe_v E ad v) := by
  unfold qe_fit at h
  cases h1 : Nat.beq rt 1
  · rw [h1] at h
    cases h2 : Nat.beq rt 2
    · rw [h2] at h
      cases h3 : Nat.beq rt 3
      · rw [h3] at h
        cases h4 : Nat.beq rt 4
        · rw [h4] at h; cases h
        · rw [h4] at h
          refine Or.inr (Or.inr (Or.inr ⟨Nat.eq_of_beq_eq_true h4, ?_⟩))
          have h5 : (qe_is 2 v || Nat.beq v 3) = true := h
          rw [Bool.or_eq_true] at h5
          rcases h5 with q | q
          · exact Or.inr ⟨_, qe_val_ref q⟩
          · rw [Nat.eq_of_beq_eq_true q]; exact Or.inl rfl
      · rw [h3] at h
        exact Or.inr (Or.inr (Or.inl ⟨Nat.eq_of_beq_eq_true h3, _, qe_val_lng h⟩))
    · rw [h2] at h
      refine Or.inr (Or.inl ⟨Nat.eq_of_beq_eq_true h2, ?_⟩)
      have h5 : (Nat.beq v 0 || Nat.beq v 8) = true := h
      rw [Bool.or_eq_true] at h5
      rcases h5 with q | q
      · rw [Nat.eq_of_beq_eq_true q]; exact ⟨0, rfl, by first | rfl | decide +kernel | simp [narrow]⟩
      · rw [Nat.eq_of_beq_eq_true q]; exact ⟨1, rfl, by first | rfl | decide +kernel | simp [narrow]⟩
  · rw [h1] at h
    exact Or.inl ⟨Nat.eq_of_beq_eq_true h1, _, qe_val_int h⟩
theorem sn_ret {Z : qe_Z} {j pc rt : Nat} (hc : qc_ret Z j pc rt) : qx_sn Z j pc (ql_ret rt : qe_N dp) := by
  intro k c d hk hcc ls st g outs h
  obtain ⟨v, r, e1, h1⟩ := qe_hd_ok h
  obtain ⟨e2, h2⟩ := qe_e0_ok h1
  obtain ⟨hi, h3⟩ := qe_if_ok h2
  subst e2; subst e1
  have e3 := Option.some.inj h3
  subst e3
  intro p l e R s0 m args below meth c0 A H locs la ad ad0 n0 QC XC hst hdy hfin
  obtain ⟨d1, d2, d3, d4, d5, d6, d7, d8, d9, d10⟩ := hdy
  have hf := ((hfin _ List.mem_cons_self).2 ad H locs d10 d1 d2 d3 d5 d8).2.1 rfl (d7 v List.mem_cons_self)
  exact hc (rest := []) hst.1 _ (qe_fit_rv hi) hf d3.2.2 d9.1 d9.2
theorem sn_ret0 {Z : qe_Z} {j pc : Nat} (hc : qc_ret0 Z j pc) : qx_sn Z j pc (ql_ret0 : qe_N dp) := by
  intro k c d hk hcc ls st g outs h
  obtain ⟨e2, h2⟩ := qe_e0_ok h
  subst e2
  have e3 := Option.some.inj h2
  subst e3
  intro p l e R s0 m args below meth c0 A H locs la ad ad0 n0 QC XC hst hdy hfin
  obtain ⟨d1, d2, d3, d4, d5, d6, d7, d8, d9, d10⟩ := hdy
  have hf := ((hfin _ List.mem_cons_self).2 ad H locs d10 d1 d2 d3 d5 d8).1 rfl
  exact hc (rest := []) hst.1 hf d3.2.2 d9.1 d9.2
theorem sn_thr {Z : qe_Z} {j pc i : Nat} (hc : qc_thr Z j pc i) : qx_sn Z j pc (ql_thr i : qe_N dp) := by
  intro k c d hk hcc ls st g outs h
  obtain ⟨hi, h2⟩ := qe_if_ok h
  have e3 := Option.some.inj h2
  subst e3
  intro p l e R s0 m args below meth c0 A H locs la ad ad0 n0 QC XC hst hdy hfin
  obtain ⟨s1, s2, s3⟩ := qx_sz hst hdy
  obtain ⟨d1, d2, d3, d4, d5, d6, d7, d8, d9, d10⟩ := hdy
  obtain ⟨hro, hf⟩ := hfin _ List.mem_cons_self
  refine hc hst.1 hst.2.2.2.1 d3 hst.2.2.2.2.1 hst.2.2.2.2.2 s1 s2 s3 hro.1 hro.2 (qe_cs_le hi) (fun t hal hsz hq => ?_)
  have d3' : va_S A s0.heap t.heap locs := ⟨Nat.le_trans d3.1 hsz, fun q h1 h2 => (hq q (Nat.lt_of_lt_of_le h1 d3.1)).trans (d3.2.1 q h1 h2), d3.2.2⟩
  exact (hf ad t.heap locs d10 (d1.kept fun k q hk => hq q.1 ((d1 k q hk).lt)) d2 d3' d5 d8).2.2 i rfl t rfl hal
end QEQ
end
section
/-! ENGINE, part 12: calls, entries, the whole run -/
section QEZ
variable {dp : Nat}
theorem qe_tk_ok {outs : List (qe_O dp)} : ∀ (m : Nat) (acc st : List Nat) (f : List Nat → List Nat → qe_R1 dp), qe_tk m acc st f = some outs → ∃ as rest, st = as.reverse ++ rest ∧ as.length = m ∧ f (as ++ acc) rest = some outs
  | 0, acc, st, f, h => ⟨[], st, rfl, rfl, h⟩
  | m + 1, acc, st, f, h => by
    obtain ⟨v, r, e1, h1⟩ := qe_hd_ok (show qe_hd st (fun v r => qe_tk m (v :: acc) r f) = some outs from h)
    obtain ⟨as, rest, e2, e3, h2⟩ := qe_tk_ok m (v :: acc) r f h1
    refine ⟨as ++ [v], rest, ?_, ?_, ?_⟩
    · rw [e1, e2, List.reverse_append]; rfl
    · rw [List.length_append, e3]; rfl
    · rw [List.append_assoc]; exact h2
theorem qe_one_ok {l : List (qe_O dp)} {f : qe_O dp → qe_R1 dp} {outs : List (qe_O dp)} (h : qe_one l f = some outs) : ∀ o ∈ l, ∃ oa, f o = some oa ∧ ∀ x ∈ oa, x ∈ outs := by
  cases l with
  | nil => cases h
  | cons a l =>
    cases l with
    | nil =>
      intro o ho
      rw [List.mem_singleton.mp ho]
      exact ⟨outs, h, fun x hx => hx⟩
    | cons b l => exact qe_each_ok h
theorem qe_hn_ok {α : Type} {e : Nat} {z : α} {f : Nat → Nat → α} : ∀ (l : List (Nat × Nat × Nat)), (∃ q ∈ l, q.1 = e ∧ qe_hn e l z f = f q.2.1 q.2.2) ∨ ((∀ q ∈ l, q.1 ≠ e) ∧ qe_hn e l z f = z)
  | [] => Or.inr ⟨fun q hq => (by cases hq), rfl⟩
  | a :: l => by
    have hu : qe_hn e (a :: l) z f = cond (Nat.beq a.1 e) (f a.2.1 a.2.2) (qe_hn e l z f) := rfl
    cases hb : Nat.beq a.1 e
    · rw [hb] at hu
      rcases qe_hn_ok (e := e) (z := z) (f := f) l with ⟨q, h1, h2, h3⟩ | ⟨h1, h2⟩
      · exact Or.inl ⟨q, List.mem_cons_of_mem _ h1, h2, hu.trans h3⟩
      · refine Or.inr ⟨fun q hq => ?_, hu.trans h2⟩
        rcases List.mem_cons.mp hq with e1 | e1
        · rw [e1]
          intro e2
          rw [e2, Nat.beq_refl] at hb; cases hb
        · exact h1 q e1
    · rw [hb] at hu
      exact Or.inl ⟨a, List.mem_cons_self, Nat.eq_of_beq_eq_true hb, hu⟩
/-- what lies outside: it lasts -/
def qz_ok (Z : qe_Z) : Prop := (∀ (A : Nat → Prop) (s U : State) (H : Heap), s.WarmedH U.vm → zX Z A s H → zX Z A U H) ∧ (∀ (A : Nat → Prop) (U : State) (H H1 : Heap), zX Z A U H → (∀ a : Nat, a < H.size → ¬ A a → H1[a]? = H[a]?) → zX Z A U H1) ∧ (∀ (A B : Nat → Prop) (U : State) (H : Heap), (∀ q, B q → A q) → zX Z A U H → zX Z B U H)
theorem qe_free {A : Nat → Prop} {ws : va_W} {H0 H : Heap} {locs : List Loc} (hD : va_D A ws) (hS : va_S A H0 H locs) (hA : ∀ q, H0.size ≤ q → A q) : ∀ q, va_A ws H.size q → A q := by
  intro q h
  rcases h with ⟨k, e, h⟩ | h
  · exact hD.2 k (q, e) h
  · exact hA q (Nat.le_trans hS.1 h)
theorem qe_lgsl : ∀ (l : List Value), (lg_sl l).length = qx_cat l
  | [] => rfl
  | v :: l => by
    have ih := qe_lgsl l
    change (((if v.category = 2 then [Slot.val v, Slot.second] else [Slot.val v]) ++ lg_sl l)).length = v.category + qx_cat l
    rw [List.length_append, ih]
    rcases lv_cat v with h | h
    · rw [if_neg (by omega), h]; rfl
    · rw [if_pos h, h]; rfl
set_option maxHeartbeats 1000000 in
theorem sn_inv {Z : qe_Z} {j pc nx jj na rc mx : Nat} {th : Bool} {hn : List (Nat × Nat × Nat)} {nt : qe_N dp} (hz : qz_ok Z) (hjj : qx_mb Z jj) (hc : qc_inv Z j pc nx jj na rc) (hrc : rc = 0 ∨ (rc - 1 < 100 ∧ ∃ q, (zc Z)[rc - 1]? = some q)) (hmx : mx ≤ (zM Z jj).2.2.1)
    (hcat : ∀ q ∈ hn, qc_cat Z j pc q.1 (zp Z j q.2.1) q.2.2 ∧ q.2.2 < (zM Z j).2.2.1) (hout : th = true → ∀ i, (∀ q ∈ hn, q.1 ≠ i) → qc_out Z j pc i) (hn2 : qx_sn Z j nx nt) : qx_sn Z j pc (ql_inv jj na rc mx th hn nt) := by
  intro k c d hk hcc ls st g outs h
  obtain ⟨as, rest, e1, e2, h1⟩ := qe_tk_ok _ _ _ _ h
  rw [List.append_nil] at h1
  obtain ⟨hi, h2⟩ := qe_if_ok h1
  simp only [Bool.and_eq_true] at hi
  obtain ⟨⟨i1, i2⟩, i3, i4⟩ := hi
  obtain ⟨outs1, h3, h4⟩ := qe_bind_ok h2
  obtain ⟨d2, hd2, hcon⟩ := hcc jj as _ _ _ _ hjj h3
  subst e1
  intro p l e R s m args below meth c0 A H locs la ad ad0 n0 QC XC hst hdy hfin
  obtain ⟨s1, s2, s3⟩ := qx_sz hst hdy
  have hdy0 := hdy
  obtain ⟨d1, dD, d3, d4, d5, d6, d7, d8, d9, d10⟩ := hdy
  have das : ∀ v ∈ as, qe_rb (qg_n g) v := fun v hv => d7 v (List.mem_append_left _ (List.mem_reverse.mpr hv))
  have drest : ∀ v ∈ rest, qe_rb (qg_n g) v := fun v hv => d7 v (List.mem_append_right _ hv)
  have dall : ∀ v ∈ as, v < 4722366482869645213696 ∧ v ≠ 7 := fun v hv => by
    have := List.all_eq_true.mp i4 v hv
    rw [Bool.and_eq_true] at this
    refine ⟨qe_lim_lt this.1, fun e7 => ?_⟩
    rw [e7] at this
    exact absurd this.2 (by decide)
  -- the room
  have hroom : ∃ F : qe_O dp → qe_R1 dp, (F = fun o => qe_aft th hn nt k c ls rest (qg_ce g + qe_mxc outs1) (qg_sl g + qe_mxs outs1) o) ∧ qe_one outs1 F = some outs ∧ qg_ce g + qe_mxc outs1 ≤ R.cells ∧ qg_sl g + qe_mxs outs1 ≤ R.slots := by
    refine ⟨_, rfl, ?_⟩
    cases hb : (Nat.beq (qe_mxc outs1) 0 && Nat.beq (qe_mxs outs1) 0)
    · rw [hb] at h4
      obtain ⟨h5, o, ho, o1, o2⟩ := qe_ge_ok (show qe_ge _ _ _ = some outs from h4)
      have hro := (hfin o ho).1
      exact ⟨h5, Nat.le_trans o1 hro.1, Nat.le_trans o2 hro.2⟩
    · rw [hb] at h4
      rw [Bool.and_eq_true] at hb
      rw [Nat.eq_of_beq_eq_true hb.1, Nat.eq_of_beq_eq_true hb.2]
      exact ⟨h4, d9.1, d9.2⟩
  obtain ⟨F, hF, hone, hrc1, hrc2⟩ := hroom
  have hfree := qe_free dD d3 hst.2.2.2.2.1
  have hlen : (lg_sl (as.map (qe_v (zE Z) ad))).length ≤ (zM Z jj).2.2.1 := by
    rw [qe_lgsl]
    exact Nat.le_trans (qe_cs_cat as) (Nat.le_trans (Nat.le_of_ble_eq_true i2) hmx)
  have hM := hcon l ad H.size hst.1.2.2.2.2.2.2.2.2 d5 (fun v hv => ⟨das v hv, (dall v hv).1, (dall v hv).2⟩) d8 hlen
  have hXH : zX Z A s H := hz.2.1 A s s.heap H hst.2.2.2.1 (fun a h1 h2 => d3.2.1 a h1 h2)
  have hXc : zX Z (va_A (qe_ws dp (zE Z) ad (qg_n g) (qg_t g)) H.size) s H := hz.2.2 A _ s H hfree hXH
  have hrcv : qx_rc Z rc (as.map (qe_v (zE Z) ad)) H s := by
    rcases hrc with q | ⟨q1, vq, q2⟩
    · exact Or.inl q
    · rcases Nat.eq_zero_or_pos rc with z | z
      · exact Or.inl z
      · right
        have hb : Nat.beq rc 0 = false := by
          cases hb : Nat.beq rc 0
          · rfl
          · have := Nat.eq_of_beq_eq_true hb; omega
        unfold qe_rcv at i1
        rw [hb] at i1
        cases as with
        | nil => cases i1
        | cons v as2 =>
          have i1' : (qe_wrf v && Nat.beq (qe_cl g v).1 (rc - 1)) = true := i1
          rw [Bool.and_eq_true] at i1'
          obtain ⟨w1, w2⟩ := i1'
          have hlt := qe_wrf_lt w1 (das v List.mem_cons_self)
          have he := qe_ws_get (dp := dp) (E := zE Z) (ad := ad) (t := qg_t g) hlt
          have k1 : (qe_rd dp (qg_t g) (v / 8)).1 = rc - 1 := Nat.eq_of_beq_eq_true w2
          rw [qe_ent_obj (show Nat.blt (qe_rd dp (qg_t g) (v / 8)).1 100 = true from Nat.ble_eq_true_of_le (by rw [k1]; exact q1)), k1] at he
          exact ⟨ad (v / 8), as2.map (qe_v (zE Z) ad), vq, by rw [List.map_cons, qe_wrf_val w1], q2, va_recv hst.2.2.1 d1 q2 he⟩
  obtain ⟨hnx, hrun⟩ := hc (la := la) (rest := rest.map (qe_v (zE Z) ad)) (locs := locs) (cells := qg_ce g) (slots := qg_sl g) (e := e) (below := below) (R := R) hst.1 hst.2.2.2.1 hM rfl rfl
    (by have := hst.2.1.1; show d2 + 20 + 1 ≤ _; omega) (by have := hst.2.1.2; show 8 + ((zM Z jj).2.2.1 + 11) + (60 * d2 + 200) ≤ _; have := hjj.2.1; omega)
    (fun a U g2 mk q => ⟨q.1, q.2.1, q.2.2.1, va_K.moved (u := U) (U := U.calling g2 mk a) (Vm.Alike.refl U.vm) q.2.2.2.1, q.2.2.2.2.1, hz.1 _ U (U.calling g2 mk a) _ (State.WarmedH.refl U) q.2.2.2.2.2⟩)
    hrcv (fun U hU hW => ⟨rfl, by rw [hU], by rw [hU]; exact d1, va_K.moved hW.alike hst.2.2.1, dD.weaken (fun _ _ _ _ => trivial), by rw [hU]; exact hz.1 _ s U H hW hXc⟩)
    (by rw [List.length_map]; exact e2) s1 (qe_cs_le i3) ⟨hrc1, hrc2⟩
  subst hnx
  rw [List.map_append, List.map_reverse]
  intro T hT X
  have common : ∀ (o : qe_O dp) (ad2 : Nat → Nat) (st₀ t T2 : State) (L : List Loc), o ∈ outs1 → st₀.heap = H → T2.heap = t.heap → (∀ q ∈ L, va_A (qe_ws dp (zE Z) ad (qg_n g) (qg_t g)) H.size q.base) → qx_ex ad ad2 (qg_n g) (qo_n o) → qe_cok (zE Z).2.2.2 (qo_cx o) → qe_wi dp (qo_n o) (qo_t o) → va_P (zE Z).1 (zc Z) (qe_ws dp (zE Z) ad2 (qo_n o) (qo_t o)) t.heap → va_D (va_A (qe_ws dp (zE Z) ad (qg_n g) (qg_t g)) H.size) (qe_ws dp (zE Z) ad2 (qo_n o) (qo_t o)) → va_F (va_A (qe_ws dp (zE Z) ad (qg_n g) (qg_t g)) H.size) st₀ t →
      va_P (zE Z).1 (zc Z) (qe_ws dp (zE Z) ad2 (qo_n o) (qo_t o)) T2.heap ∧ va_D A (qe_ws dp (zE Z) ad2 (qo_n o) (qo_t o)) ∧ va_S A s.heap T2.heap (locs ++ L) ∧ qx_ex ad0 ad2 n0 (qo_n o) := by
    intro o ad2 st₀ t T2 L ho h0 e1 hL x1 x2 x3 x4 x5 x6
    obtain ⟨-, -, k3⟩ := vx_keep (A1 := va_A (qe_ws dp (zE Z) ad (qg_n g) (qg_t g)) H.size) (free := va_A (qe_ws dp (zE Z) ad (qg_n g) (qg_t g)) H.size) h0 e1 d3 (fun q _ hq => hfree q hq) hfree hL x6
    exact ⟨by rw [e1]; exact x4, x5.weaken (fun _ q _ hq => hfree _ hq), k3, Nat.le_trans d10.1 x1.1, fun z hz => by rw [x1.2 z (Nat.lt_of_lt_of_le hz d10.1)]; exact d10.2 z hz⟩
  rcases hrun T hT X with ⟨v, st₀, t, T2, L, h0, X2, hL, e1, e3, ⟨⟨o, ho, ad2, x1, x2, x3, x4, x5, hkind⟩, x6⟩, st⟩ | ⟨q, st₀, t, T2, L, E9, ce, h0, X2, hL, e1, e3, ⟨⟨o, ho, i, hk2, hE, ad2, x1, x2, x3, x4, x5⟩, x6⟩, hce, hcv, hcl, st⟩
  · obtain ⟨y1, y2, y3, y4⟩ := common o ad2 st₀ t T2 L ho h0 e1 hL x1 x2 x3 x4 x5 x6
    obtain ⟨oa, f1, f2⟩ := qe_one_ok hone o ho
    rw [hF] at f1
    have hdyn : ∀ st2 : List Nat, (∀ w ∈ st2, qe_rb (qo_n o) w) → qx_dy Z j ls st2 ((qo_n o, qo_t o, qo_cx o, qg_ce g + qe_mxc outs1, qg_sl g + qe_mxs outs1) : qe_G dp) s R A T2.heap (locs ++ L) la ad2 ad0 n0 := fun st2 hs2 =>
      ⟨y1, y2, y3, qe_lh_ext d4 d6 x1.2, x3, fun z => qe_rb_up (d6 z) x1.1, hs2, x2, ⟨hrc1, hrc2⟩, y4⟩
    have hmap : rest.map (qe_v (zE Z) ad2) = rest.map (qe_v (zE Z) ad) := List.map_congr_left fun w hw => qe_v_ext (drest w hw) x1.2
    rcases hkind with ⟨c1, c2⟩ | ⟨c1, c2, c3⟩
    · have f1' : nt k c ls rest (qo_n o, qo_t o, qo_cx o, qg_ce g + qe_mxc outs1, qg_sl g + qe_mxs outs1) = some oa := by
        have : qe_aft th hn nt k c ls rest (qg_ce g + qe_mxc outs1) (qg_sl g + qe_mxs outs1) o = some oa := f1
        unfold qe_aft at this
        rw [c1] at this
        exact this
      cases c2
      have w := hn2 k c d hk hcc ls rest _ oa f1' p l e R s m args below meth c0 A T2.heap (locs ++ L) la ad2 ad0 n0 QC XC hst (hdyn rest fun w hw => qe_rb_up (drest w hw) x1.1) (qx_fin_sub hfin f2)
      rw [hmap] at w
      obtain ⟨t2, a1, b1⟩ := w T2 rfl X2
      exact ⟨t2, st t2 a1, b1⟩
    · have f1' : nt k c ls (qo_v o :: rest) (qo_n o, qo_t o, qo_cx o, qg_ce g + qe_mxc outs1, qg_sl g + qe_mxs outs1) = some oa := by
        have : qe_aft th hn nt k c ls rest (qg_ce g + qe_mxc outs1) (qg_sl g + qe_mxs outs1) o = some oa := f1
        unfold qe_aft at this
        rw [c1] at this
        exact this
      cases c3
      have w := hn2 k c d hk hcc ls (qo_v o :: rest) _ oa f1' p l e R s m args below meth c0 A T2.heap (locs ++ L) la ad2 ad0 n0 QC XC hst (hdyn (qo_v o :: rest) fun w hw => by
        rcases List.mem_cons.mp hw with q | q
        · rw [q]; exact c2
        · exact qe_rb_up (drest w q) x1.1) (qx_fin_sub hfin f2)
      rw [List.map_cons, hmap] at w
      obtain ⟨t2, a1, b1⟩ := w T2 rfl X2
      exact ⟨t2, st t2 a1, b1⟩
  · obtain ⟨y1, y2, y3, y4⟩ := common o ad2 st₀ t T2 L ho h0 e1 hL x1 x2 x3 x4 x5 x6
    obtain ⟨oa, f1, f2⟩ := qe_one_ok hone o ho
    rw [hF] at f1
    have hcl2 : s.vm.findClass (zn Z i) = some ce.cls := by rw [← hE]; exact hcl
    have hce2 : T2.heap[q]? = some ce := by rw [e1]; exact hce
    have f1' : qe_hn i hn (cond th (some [(qo_cx o, i + 2, 0, qo_n o, qo_t o, qg_ce g + qe_mxc outs1, qg_sl g + qe_mxs outs1)]) none) (fun b lo => cond (qe_pl ls lo) (k b (qe_set ls lo 7) [] (qo_n o, qo_t o, qo_cx o, qg_ce g + qe_mxc outs1, qg_sl g + qe_mxs outs1)) none) = some oa := by
      have : qe_aft th hn nt k c ls rest (qg_ce g + qe_mxc outs1) (qg_sl g + qe_mxs outs1) o = some oa := f1
      unfold qe_aft at this
      rw [hk2] at this
      exact this
    rcases qe_hn_ok (e := i) (z := cond th (some [(qo_cx o, i + 2, 0, qo_n o, qo_t o, qg_ce g + qe_mxc outs1, qg_sl g + qe_mxs outs1)]) none) (f := fun b lo => cond (qe_pl ls lo) (k b (qe_set ls lo 7) [] (qo_n o, qo_t o, qo_cx o, qg_ce g + qe_mxc outs1, qg_sl g + qe_mxs outs1)) none) hn with ⟨q9, g1, g2, g3⟩ | ⟨g1, g3⟩
    · rw [g3] at f1'
      obtain ⟨g4, g5⟩ := qe_if_ok f1'
      obtain ⟨hcat1, hcat2⟩ := hcat q9 g1
      rw [g2] at hcat1
      have w := hcat1 (la := la) (rest := rest.map (qe_v (zE Z) ad)) (locs := locs ++ L) (cells := qg_ce g + qe_mxc outs1) (slots := qg_sl g + qe_mxs outs1) (A := A) (QC := QC) (XC := XC) (e := e) (R := R) (below := below) hst.1 hst.2.2.2.2.2 q ce _ _ hce2 hcv hcl2 hst.2.2.2.1 (qe_lh_has (qe_lh_ext d4 d6 x1.2)) hcat2 (fun la2 h' => by
        have hset : qe_lh (zE Z) ad2 la2 (zM Z j).2.2.1 (qe_set ls q9.2.2 7) := by
          refine ⟨h'.1, h'.2.1, fun z hz h7 => ?_⟩
          rw [qe_get_set _ _ _ _ (by decide)] at h7 ⊢
          by_cases hzi : z = q9.2.2
          · rw [if_pos hzi] at h7; exact absurd rfl h7
          · rw [if_neg hzi] at h7 ⊢
            refine h'.2.2 _ (List.mem_cons_of_mem _ (List.mem_filter.mpr ⟨qe_ll_mem hz h7, ?_⟩))
            have a1 : (z == q9.2.2) = false := by simp [hzi]
            show (!(z == q9.2.2) && !(z + 1 == q9.2.2 && (qe_v (zE Z) ad2 (qe_get ls z)).category == 2)) = true
            rw [a1]
            by_cases hj1 : z + 1 = q9.2.2
            · rcases qe_pl_ok g4 with hp | hp
              · omega
              · rw [show q9.2.2 - 1 = z by omega] at hp
                have := qe_cat (E := zE Z) (ad := ad2) hp
                simp [this]
            · simp [hj1]
        exact hk q9.2.1 _ [] _ oa g5 p l e R s m args below meth c0 A T2.heap (locs ++ L) la2 ad2 ad0 n0 QC XC hst ⟨y1, y2, y3, hset, x3, qe_rb_set (fun z => qe_rb_up (d6 z) x1.1) qe_rb_7 (by decide), fun w hw => (by cases hw), x2, ⟨hrc1, hrc2⟩, y4⟩ (qx_fin_sub hfin f2))
      obtain ⟨t2, a1, b1⟩ := w T2 rfl X2
      exact ⟨t2, st.trans a1, b1⟩
    · rw [g3] at f1'
      obtain ⟨hth, f1''⟩ := qe_if_ok f1'
      have g4 := Option.some.inj f1''
      have w := hout hth i g1 (la := la) (rest := rest.map (qe_v (zE Z) ad)) (locs := locs ++ L) (cells := qg_ce g + qe_mxc outs1) (slots := qg_sl g + qe_mxs outs1) (A := A) (QC := QC) (XC := XC) (e := e) (R := R) (below := below) hst.1 hst.2.2.2.2.2 q ce hce2 hcv hcl2 hst.2.2.2.1 (fun t9 h9 hal => by
        have hfo := (hfin (qo_cx o, i + 2, 0, qo_n o, qo_t o, qg_ce g + qe_mxc outs1, qg_sl g + qe_mxs outs1) (f2 _ (by rw [← g4]; exact List.mem_cons_self))).2 ad2 T2.heap (locs ++ L) y4 y1 y2 y3 x3 x2
        exact hfo.2.2 i rfl t9 h9 hal) y3.2.2 hrc1 hrc2
      obtain ⟨t2, a1, b1⟩ := w T2 rfl X2
      exact ⟨t2, st.trans a1, b1⟩
end QEZ
end
section
/-! ENGINE, part 13: a method's contract out of its run; the engine is right -/
section QEMM
variable {dp : Nat}
theorem qe_lcl_args {E : qe_E} {ad : Nat → Nat} : ∀ (as : List Nat) (i0 ls : Nat), (∀ v ∈ as, v < 4722366482869645213696) → ∀ i, (qe_get (qe_lcl as i0 ls) i = qe_get ls i) ∨ ((∃ v ∈ as, qe_get (qe_lcl as i0 ls) i = v) ∧ (i, qe_v E ad (qe_get (qe_lcl as i0 ls) i)) ∈ lv_args i0 (as.map (qe_v E ad)))
  | [], i0, ls, _, i => Or.inl rfl
  | v :: as, i0, ls, hl, i => by
    have hv := hl v List.mem_cons_self
    have hu : qe_lcl (v :: as) i0 ls = qe_lcl as (cond (qe_is 1 v) (i0 + 2) (i0 + 1)) (qe_set ls i0 v) := rfl
    have hargs : lv_args i0 ((v :: as).map (qe_v E ad)) = (i0, qe_v E ad v) :: lv_args (cond (qe_is 1 v) (i0 + 2) (i0 + 1)) (as.map (qe_v E ad)) := by
      rw [List.map_cons]
      show (i0, qe_v E ad v) :: lv_args (if (qe_v E ad v).category = 2 then i0 + 2 else i0 + 1) _ = _
      cases h : qe_is 1 v
      · rw [if_neg (qe_cat h)]; rfl
      · have e : qe_v E ad v = .long (qe_lng E.2.2.2 v) := qe_val_lng h
        rw [e]; rfl
    rw [hu, hargs]
    rcases qe_lcl_args (E := E) (ad := ad) as (cond (qe_is 1 v) (i0 + 2) (i0 + 1)) (qe_set ls i0 v) (fun w hw => hl w (List.mem_cons_of_mem _ hw)) i with h | ⟨⟨w, h1, h2⟩, h3⟩
    · rw [h, qe_get_set _ _ _ _ hv]
      by_cases hi : i = i0
      · rw [if_pos hi]
        right
        exact ⟨⟨v, List.mem_cons_self, rfl⟩, by rw [hi]; exact List.mem_cons_self⟩
      · rw [if_neg hi]; exact Or.inl rfl
    · exact Or.inr ⟨⟨w, List.mem_cons_of_mem _ h1, h2⟩, List.mem_cons_of_mem _ h3⟩
theorem qe_ls0_7 : ∀ i, i < 24 → qe_get qe_ls0 i = 7 := by decide +kernel
theorem qe_ls0_big {i : Nat} (h : 24 ≤ i) : qe_get qe_ls0 i = 0 := qe_get_big (N := 24) (by decide +kernel) h
theorem qe_ls0_rb (n i : Nat) : qe_rb n (qe_get qe_ls0 i) := by
  rcases Nat.lt_or_ge i 24 with h | h
  · rw [qe_ls0_7 i h]; exact qe_rb_7
  · rw [qe_ls0_big h]; exact qe_rb_int rfl
theorem qx_body {Z : qe_Z} {d j : Nat} {as : List Nat} {n : Nat} {t : qe_T dp} {cx : qe_Cx} {outs : List (qe_O dp)} (hmb : qx_mb Z j) (hg : qx_goal Z d j 0 (qe_lcl as 0 qe_ls0) [] ((n, t, cx, 0, 0) : qe_G dp) outs) {l : Launch} {ad : Nat → Nat} {sz : Nat} (hl : l.stackTraces = false) (hwi : qe_wi dp n t) (has : ∀ v ∈ as, qe_rb n v ∧ v < 4722366482869645213696 ∧ v ≠ 7) (hcok : qe_cok (zE Z).2.2.2 cx) (hlen : (lg_sl (as.map (qe_v (zE Z) ad))).length ≤ (zM Z j).2.2.1)
    {p : Program} {e : Env} {s s₁ : State} {m : MethodId} {args : Array Value} {below : List Frame} {meth : Method} {c : Code}
    (B : BodyLoose p l (zM Z j).1 (headSpec (zM Z j).2.2.2.2.1 (qx_rm d (qe_mxc outs) (qe_mxs outs))) (zM Z j).2.1 (zM Z j).2.2.1 (zM Z j).2.2.2.1 e s m args below meth c s₁) (hml : c.maxLocals = (zM Z j).2.2.1) (hT : zT Z j c) (hP : va_Pc (as.map (qe_v (zE Z) ad)) (qx_P Z ad n t sz) args s) :
    W p l e (headSpec (zM Z j).2.2.2.2.1 (qx_rm d (qe_mxc outs) (qe_mxs outs))).room s m args below meth c s.heap [] 0 0 (vx_MQ below (qx_Q Z ad n t sz outs) (qx_X Z ad n t sz outs) args s (qe_mxc outs) (qe_mxs outs) (va_A (qe_ws dp (zE Z) ad n t) sz)) (entryFrame m args (zM Z j).2.2.1) := by
  obtain ⟨hargs, hsz, hP1, hK, hD, hX⟩ := hP
  subst hargs
  subst hsz
  have hst : qx_st Z d j p l s m (as.map (qe_v (zE Z) ad)).toArray meth c (qx_rm d (qe_mxc outs) (qe_mxs outs)) (va_A (qe_ws dp (zE Z) ad n t) s.heap.size) :=
    ⟨⟨B.exec, B.bytes, hml, B.returns, atoms_spec (ws := (zM Z j).2.2.2.2.1) B.pre, by rw [← hmb.2.2.1]; exact findClass_of_methodNamed B.named, B.notSynchronized, fun h => (name_of_methodNamed B.named B.method).1.trans h, hl⟩, ⟨Nat.le_refl _, Nat.le_refl _⟩, hK, hX, fun q hq => Or.inr hq, hT⟩
  have hlv := lv_entry (as.map (qe_v (zE Z) ad)) (n := (zM Z j).2.2.1) hlen
  rw [lg_entry_eq]
  have hlh : qe_lh (zE Z) ad ((lg_sl (as.map (qe_v (zE Z) ad)) ++ List.replicate ((zM Z j).2.2.1 - (lg_sl (as.map (qe_v (zE Z) ad))).length) Slot.unset).toArray) (zM Z j).2.2.1 (qe_lcl as 0 qe_ls0) := by
    refine ⟨hlv.1, hlv.2.1, fun i hi h7 => ?_⟩
    rcases qe_lcl_args (E := zE Z) (ad := ad) as 0 qe_ls0 (fun v hv => (has v hv).2.1) i with q | ⟨-, q⟩
    · rw [q, qe_ls0_7 i (Nat.lt_of_lt_of_le hi hmb.2.1)] at h7; exact absurd rfl h7
    · exact hlv.2.2 _ q
  have hrb : ∀ i, qe_rb n (qe_get (qe_lcl as 0 qe_ls0) i) := fun i => by
    rcases qe_lcl_args (E := zE Z) (ad := ad) as 0 qe_ls0 (fun v hv => (has v hv).2.1) i with q | ⟨⟨v, q1, q2⟩, -⟩
    · rw [q]; exact qe_ls0_rb n i
    · rw [q2]; exact (has v q1).1
  refine hg p l e _ s m _ below meth c (va_A (qe_ws dp (zE Z) ad n t) s.heap.size) s.heap [] _ ad ad n (qx_Q Z ad n t s.heap.size outs) (qx_X Z ad n t s.heap.size outs) hst ⟨hP1, hD.self, va_S.rf, hlh, hwi, hrb, fun v hv => (by cases hv), hcok, ⟨Nat.zero_le _, Nat.zero_le _⟩, Nat.le_refl _, fun _ _ => rfl⟩ ?_
  intro o ho
  refine ⟨⟨qe_mxc_ok o ho, qe_mxs_ok o ho⟩, fun ad2 H2 locs2 x1 x2 x3 x4 x5 x6 => ⟨fun hk t9 h9 hW => ?_, fun hk hrv t9 h9 hW => ?_, fun i hk t9 h9 hal => ?_⟩⟩
  · exact ⟨⟨o, ho, ad2, x1, x6, x5, by rw [h9]; exact x2, x3, Or.inl ⟨hk, rfl⟩⟩, x4.F h9⟩
  · exact ⟨⟨o, ho, ad2, x1, x6, x5, by rw [h9]; exact x2, x3, Or.inr ⟨hk, hrv, rfl⟩⟩, x4.F h9⟩
  · exact ⟨⟨o, ho, i, hk, rfl, ad2, x1, x6, x5, by rw [h9]; exact x2, x3⟩, x4.F h9⟩
theorem qx_entry {Z : qe_Z} {d j : Nat} {as : List Nat} {n : Nat} {t : qe_T dp} {cx : qe_Cx} {outs : List (qe_O dp)} (hmb : qx_mb Z j) (hg : qx_goal Z d j 0 (qe_lcl as 0 qe_ls0) [] ((n, t, cx, 0, 0) : qe_G dp) outs) : qx_con Z d j as n t cx outs := by
  intro l ad sz hl hwi has hcok hlen
  rcases hmb.2.2.2 with ⟨ws, hws, hT⟩ | ⟨ws, hh, hws, hT⟩
  · refine vx_ofW (cc := (zM Z j).2.1) (maxL := (zM Z j).2.2.1) (ret := (zM Z j).2.2.2.1) hmb.1 hws ?_
    intro p e s m args below meth c s₁ B hml htab hP
    exact qx_body hmb hg hl hwi has hcok hlen B hml (hT c htab) hP
  · refine vx_ofWH (cc := (zM Z j).2.1) (maxL := (zM Z j).2.2.1) (ret := (zM Z j).2.2.2.1) (hh := hh) hmb.1 hws ?_
    intro p e s m args below meth c s₁ B hml hP
    have htab : c.exceptionTable.toList = tableOf hh := vx_table (x := (zM Z j).1) B (atoms_spec (ws := (zM Z j).2.2.2.2.1) B.pre (Cond.codeWith (zM Z j).1 (zM Z j).2.1 (zM Z j).2.2.1 (zM Z j).2.2.2.1 hh) (by rw [hws]; exact List.mem_cons_self))
    exact qx_body hmb hg hl hwi has hcok hlen B hml (hT c htab) hP
/-- THE ENGINE IS RIGHT: where its blocks are -/
theorem qx_main {Z : qe_Z} {P : qe_P dp} (hP : ∀ j b, qx_sn Z j (zp Z j b) (Prod.fst (P j b))) (h0 : ∀ j, zp Z j 0 = 0) : ∀ (fuel d j : Nat), qx_k Z d j (qe_run P fuel d j)
  | 0, d, j => fun b ls st g outs h => by cases h
  | fuel + 1, d, j => fun b ls st g outs h => by
    have ih := qx_main hP h0 fuel
    refine hP j b (qe_run P fuel d j) (fun jj b2 ls2 st2 g2 => cond (Nat.beq d 0) none (qe_run P fuel (Nat.sub d 1) jj b2 ls2 st2 g2)) d (ih d j) ?_ ls st g outs h
    intro jj as n t cx o1 hmb h1
    cases hd : Nat.beq d 0
    · rw [hd] at h1
      have hd0 : d ≠ 0 := fun q => by rw [q] at hd; cases hd
      refine ⟨d - 1, by omega, qx_entry hmb ?_⟩
      have := ih (d - 1) jj 0 (qe_lcl as 0 qe_ls0) [] (n, t, cx, 0, 0) o1 h1
      rw [h0 jj] at this
      exact this
    · rw [hd] at h1; cases h1
end QEMM
end
section
/-! NAMES: TURN's print of the program: classes, fields, methods -/
def RX0 : String := "TextSwitchCompiler$Commands"
def TX0 : u_T := fun k => match k with
  | 0 => ("TextSwitchCompiler$Commands", "kinds", "[I", true)
  | 1 => ("TextSwitchCompiler$Commands", "starts", "[I", true)
  | 2 => ("TextSwitchCompiler$Commands", "keyStarts", "[I", true)
  | 3 => ("TextSwitchCompiler$Commands", "keyLengths", "[I", true)
  | 4 => ("TextSwitchCompiler$Commands", "numbers", "[I", true)
  | 5 => ("TextSwitchCompiler$Commands", "draft", "LTextSwitchCompiler$Keys;", true)
  | 6 => ("TextSwitchCompiler$Commands", "count", "I", false)
  | 7 => ("TextSwitchCompiler$Commands", "place", "I", false)
  | _ => ("TextSwitchCompiler$Commands", "error", "I", false)
def tyX0 : Nat → FieldType := fun k => match k with
  | 0 => .array .int
  | 1 => .array .int
  | 2 => .array .int
  | 3 => .array .int
  | 4 => .array .int
  | 5 => .object "TextSwitchCompiler$Keys"
  | 6 => .int
  | 7 => .int
  | _ => .int
abbrev wsX00 : List Cond := u_ws RX0 TX0 9
theorem nmX0 : ∀ a, a < 9 → ∀ b, b < 9 → a ≠ b → (TX0 a).2.1 ≠ (TX0 b).2.1 := by decide +kernel
theorem tyX0_ok : ∀ k, k < 9 → parseFieldDescriptor (TX0 k).2.2.1 = some (tyX0 k) := by decide +kernel
abbrev cX0_init : ByteArray := prog_2_method_1_code
def yX0_init : MethodName := ⟨RX0, "<init>", "()V"⟩
abbrev cX0_read : ByteArray := prog_2_method_2_code
def yX0_read : MethodName := ⟨RX0, "read", "(LTextSwitchCompiler$Text;)Z"⟩
abbrev cX0_readCommand : ByteArray := prog_2_method_3_code
def yX0_readCommand : MethodName := ⟨RX0, "readCommand", "(LTextSwitchCompiler$Text;)Z"⟩
abbrev cX0_fail : ByteArray := prog_2_method_4_code
def yX0_fail : MethodName := ⟨RX0, "fail", "(I)Z"⟩
abbrev cX0_readWord : ByteArray := prog_2_method_5_code
def yX0_readWord : MethodName := ⟨RX0, "readWord", "(LTextSwitchCompiler$Text;)I"⟩
abbrev cX0_isWord : ByteArray := prog_2_method_6_code
def yX0_isWord : MethodName := ⟨RX0, "isWord", "(LTextSwitchCompiler$Text;ILjava/lang/String;)Z"⟩
abbrev cX0_readSign : ByteArray := prog_2_method_7_code
def yX0_readSign : MethodName := ⟨RX0, "readSign", "(LTextSwitchCompiler$Text;I)Z"⟩
abbrev cX0_readKey : ByteArray := prog_2_method_8_code
def yX0_readKey : MethodName := ⟨RX0, "readKey", "(LTextSwitchCompiler$Text;)Z"⟩
abbrev cX0_readBranch : ByteArray := prog_2_method_9_code
def yX0_readBranch : MethodName := ⟨RX0, "readBranch", "(LTextSwitchCompiler$Text;)Z"⟩
abbrev cX0_readNumber : ByteArray := prog_2_method_10_code
def yX0_readNumber : MethodName := ⟨RX0, "readNumber", "(LTextSwitchCompiler$Text;II)Z"⟩
abbrev cX0_carryOut : ByteArray := prog_2_method_11_code
def yX0_carryOut : MethodName := ⟨RX0, "carryOut", "(LTextSwitchCompiler$Text;LTextSwitchCompiler$Keys;)Z"⟩
abbrev cX0_carryOutOne : ByteArray := prog_2_method_12_code
def yX0_carryOutOne : MethodName := ⟨RX0, "carryOutOne", "(LTextSwitchCompiler$Text;I)Z"⟩
abbrev cX0_dropKey : ByteArray := prog_2_method_13_code
def yX0_dropKey : MethodName := ⟨RX0, "dropKey", "(I)Z"⟩
abbrev cX0_weighKey : ByteArray := prog_2_method_14_code
def yX0_weighKey : MethodName := ⟨RX0, "weighKey", "(II)Z"⟩
def RX1 : String := "TextSwitchCompiler$Forest"
def TX1 : u_T := fun k => match k with
  | 0 => ("TextSwitchCompiler$Forest", "keys", "LTextSwitchCompiler$Keys;", true)
  | 1 => ("TextSwitchCompiler$Forest", "members", "[I", true)
  | 2 => ("TextSwitchCompiler$Forest", "starts", "[I", true)
  | 3 => ("TextSwitchCompiler$Forest", "ends", "[I", true)
  | 4 => ("TextSwitchCompiler$Forest", "labels", "[I", true)
  | 5 => ("TextSwitchCompiler$Forest", "depths", "[I", true)
  | 6 => ("TextSwitchCompiler$Forest", "positions", "[I", true)
  | 7 => ("TextSwitchCompiler$Forest", "firstChildren", "[I", true)
  | 8 => ("TextSwitchCompiler$Forest", "childCounts", "[I", true)
  | 9 => ("TextSwitchCompiler$Forest", "treeCount", "I", false)
  | 10 => ("TextSwitchCompiler$Forest", "rootCount", "I", false)
  | 11 => ("TextSwitchCompiler$Forest", "leafCount", "I", false)
  | _ => ("TextSwitchCompiler$Forest", "height", "I", false)
def tyX1 : Nat → FieldType := fun k => match k with
  | 0 => .object "TextSwitchCompiler$Keys"
  | 1 => .array .int
  | 2 => .array .int
  | 3 => .array .int
  | 4 => .array .int
  | 5 => .array .int
  | 6 => .array .int
  | 7 => .array .int
  | 8 => .array .int
  | 9 => .int
  | 10 => .int
  | 11 => .int
  | _ => .int
abbrev wsX10 : List Cond := u_ws RX1 TX1 13
theorem nmX1 : ∀ a, a < 13 → ∀ b, b < 13 → a ≠ b → (TX1 a).2.1 ≠ (TX1 b).2.1 := by decide +kernel
theorem tyX1_ok : ∀ k, k < 13 → parseFieldDescriptor (TX1 k).2.2.1 = some (tyX1 k) := by decide +kernel
abbrev cX1_init : ByteArray := prog_3_method_1_code
def yX1_init : MethodName := ⟨RX1, "<init>", "(LTextSwitchCompiler$Keys;)V"⟩
abbrev cX1_grow : ByteArray := prog_3_method_2_code
def yX1_grow : MethodName := ⟨RX1, "grow", "()V"⟩
abbrev cX1_isLeaf : ByteArray := prog_3_method_3_code
def yX1_isLeaf : MethodName := ⟨RX1, "isLeaf", "(I)Z"⟩
abbrev cX1_keyOf : ByteArray := prog_3_method_4_code
def yX1_keyOf : MethodName := ⟨RX1, "keyOf", "(I)I"⟩
abbrev cX1_childWith : ByteArray := prog_3_method_5_code
def yX1_childWith : MethodName := ⟨RX1, "childWith", "(II)I"⟩
abbrev cX1_rootWith : ByteArray := prog_3_method_6_code
def yX1_rootWith : MethodName := ⟨RX1, "rootWith", "(I)I"⟩
abbrev cX1_treeWith : ByteArray := prog_3_method_7_code
def yX1_treeWith : MethodName := ⟨RX1, "treeWith", "(III)I"⟩
abbrev cX1_plant : ByteArray := prog_3_method_8_code
def yX1_plant : MethodName := ⟨RX1, "plant", "(IIII)V"⟩
abbrev cX1_plantRoots : ByteArray := prog_3_method_9_code
def yX1_plantRoots : MethodName := ⟨RX1, "plantRoots", "()V"⟩
abbrev cX1_split : ByteArray := prog_3_method_10_code
def yX1_split : MethodName := ⟨RX1, "split", "(I)V"⟩
abbrev cX1_choosePosition : ByteArray := prog_3_method_11_code
def yX1_choosePosition : MethodName := ⟨RX1, "choosePosition", "(I)I"⟩
abbrev cX1_penaltyOf : ByteArray := prog_3_method_12_code
def yX1_penaltyOf : MethodName := ⟨RX1, "penaltyOf", "(II)I"⟩
abbrev cX1_sortMembers : ByteArray := prog_3_method_13_code
def yX1_sortMembers : MethodName := ⟨RX1, "sortMembers", "(III)V"⟩
def RX2 : String := "TextSwitchCompiler$Keys"
def TX2 : u_T := fun k => match k with
  | 0 => ("TextSwitchCompiler$Keys", "letters", "[I", true)
  | 1 => ("TextSwitchCompiler$Keys", "lengths", "[I", true)
  | 2 => ("TextSwitchCompiler$Keys", "branches", "[I", true)
  | 3 => ("TextSwitchCompiler$Keys", "weights", "[I", true)
  | 4 => ("TextSwitchCompiler$Keys", "count", "I", false)
  | 5 => ("TextSwitchCompiler$Keys", "load", "I", false)
  | _ => ("TextSwitchCompiler$Keys", "changes", "I", false)
def tyX2 : Nat → FieldType := fun k => match k with
  | 0 => .array .int
  | 1 => .array .int
  | 2 => .array .int
  | 3 => .array .int
  | 4 => .int
  | 5 => .int
  | _ => .int
abbrev wsX20 : List Cond := u_ws RX2 TX2 7
theorem nmX2 : ∀ a, a < 7 → ∀ b, b < 7 → a ≠ b → (TX2 a).2.1 ≠ (TX2 b).2.1 := by decide +kernel
theorem tyX2_ok : ∀ k, k < 7 → parseFieldDescriptor (TX2 k).2.2.1 = some (tyX2 k) := by decide +kernel
abbrev cX2_init : ByteArray := prog_4_method_1_code
def yX2_init : MethodName := ⟨RX2, "<init>", "()V"⟩
abbrev cX2_has : ByteArray := prog_4_method_2_code
def yX2_has : MethodName := ⟨RX2, "has", "(I)Z"⟩
abbrev cX2_lengthOf : ByteArray := prog_4_method_3_code
def yX2_lengthOf : MethodName := ⟨RX2, "lengthOf", "(I)I"⟩
abbrev cX2_letterAt : ByteArray := prog_4_method_4_code
def yX2_letterAt : MethodName := ⟨RX2, "letterAt", "(II)I"⟩
abbrev cX2_numberOf : ByteArray := prog_4_method_5_code
def yX2_numberOf : MethodName := ⟨RX2, "numberOf", "(LTextSwitchCompiler$Text;II)I"⟩
abbrev cX2_beginsAt : ByteArray := prog_4_method_6_code
def yX2_beginsAt : MethodName := ⟨RX2, "beginsAt", "(ILTextSwitchCompiler$Text;I)Z"⟩
abbrev cX2_insert : ByteArray := prog_4_method_7_code
def yX2_insert : MethodName := ⟨RX2, "insert", "(LTextSwitchCompiler$Text;III)Z"⟩
abbrev cX2_drop : ByteArray := prog_4_method_8_code
def yX2_drop : MethodName := ⟨RX2, "drop", "(I)V"⟩
abbrev cX2_changeLoad : ByteArray := prog_4_method_9_code
def yX2_changeLoad : MethodName := ⟨RX2, "changeLoad", "(I)V"⟩
abbrev cX2_takeOver : ByteArray := prog_4_method_10_code
def yX2_takeOver : MethodName := ⟨RX2, "takeOver", "(LTextSwitchCompiler$Keys;)V"⟩
abbrev cX2_firstDifference : ByteArray := prog_4_method_11_code
def yX2_firstDifference : MethodName := ⟨RX2, "firstDifference", "(II)I"⟩
abbrev cX2_isLess : ByteArray := prog_4_method_12_code
def yX2_isLess : MethodName := ⟨RX2, "isLess", "(II)Z"⟩
abbrev cX2_rankOf : ByteArray := prog_4_method_13_code
def yX2_rankOf : MethodName := ⟨RX2, "rankOf", "(I)I"⟩
abbrev cX2_differences : ByteArray := prog_4_method_14_code
def yX2_differences : MethodName := ⟨RX2, "differences", "(II)I"⟩
abbrev cX2_neighborsOf : ByteArray := prog_4_method_15_code
def yX2_neighborsOf : MethodName := ⟨RX2, "neighborsOf", "(I)I"⟩
abbrev cX2_totalWeight : ByteArray := prog_4_method_16_code
def yX2_totalWeight : MethodName := ⟨RX2, "totalWeight", "()I"⟩
abbrev cX2_writeKey : ByteArray := prog_4_method_17_code
def yX2_writeKey : MethodName := ⟨RX2, "writeKey", "(ILTextSwitchCompiler$Text;)V"⟩
def RX3 : String := "TextSwitchCompiler$Lister"
def TX3 : u_T := fun k => match k with
  | 0 => ("TextSwitchCompiler$Lister", "keys", "LTextSwitchCompiler$Keys;", true)
  | 1 => ("TextSwitchCompiler$Lister", "order", "LTextSwitchCompiler$Order;", true)
  | 2 => ("TextSwitchCompiler$Lister", "forest", "LTextSwitchCompiler$Forest;", true)
  | 3 => ("TextSwitchCompiler$Lister", "table", "LTextSwitchCompiler$Table;", true)
  | _ => ("TextSwitchCompiler$Lister", "page", "LTextSwitchCompiler$Text;", true)
def tyX3 : Nat → FieldType := fun k => match k with
  | 0 => .object "TextSwitchCompiler$Keys"
  | 1 => .object "TextSwitchCompiler$Order"
  | 2 => .object "TextSwitchCompiler$Forest"
  | 3 => .object "TextSwitchCompiler$Table"
  | _ => .object "TextSwitchCompiler$Text"
abbrev wsX30 : List Cond := u_ws RX3 TX3 5
theorem nmX3 : ∀ a, a < 5 → ∀ b, b < 5 → a ≠ b → (TX3 a).2.1 ≠ (TX3 b).2.1 := by decide +kernel
theorem tyX3_ok : ∀ k, k < 5 → parseFieldDescriptor (TX3 k).2.2.1 = some (tyX3 k) := by decide +kernel
abbrev cX3_init : ByteArray := prog_5_method_1_code
def yX3_init : MethodName := ⟨RX3, "<init>", "(LTextSwitchCompiler$Keys;LTextSwitchCompiler$Order;LTextSwitchCompiler$Forest;LTextSwitchCompiler$Table;)V"⟩
abbrev cX3_list : ByteArray := prog_5_method_2_code
def yX3_list : MethodName := ⟨RX3, "list", "(I)V"⟩
abbrev cX3_separate : ByteArray := prog_5_method_3_code
def yX3_separate : MethodName := ⟨RX3, "separate", "(II)V"⟩
abbrev cX3_writeEntry : ByteArray := prog_5_method_4_code
def yX3_writeEntry : MethodName := ⟨RX3, "writeEntry", "(I)V"⟩
abbrev cX3_listKeys : ByteArray := prog_5_method_5_code
def yX3_listKeys : MethodName := ⟨RX3, "listKeys", "(Z)V"⟩
abbrev cX3_listForest : ByteArray := prog_5_method_6_code
def yX3_listForest : MethodName := ⟨RX3, "listForest", "()V"⟩
abbrev cX3_writeTree : ByteArray := prog_5_method_7_code
def yX3_writeTree : MethodName := ⟨RX3, "writeTree", "(LTextSwitchCompiler$Lister;II)V"⟩
abbrev cX3_listTable : ByteArray := prog_5_method_8_code
def yX3_listTable : MethodName := ⟨RX3, "listTable", "()V"⟩
def RX4 : String := "TextSwitchCompiler$Order"
def TX4 : u_T := fun k => match k with
  | 0 => ("TextSwitchCompiler$Order", "keys", "LTextSwitchCompiler$Keys;", true)
  | _ => ("TextSwitchCompiler$Order", "row", "[I", true)
def tyX4 : Nat → FieldType := fun k => match k with
  | 0 => .object "TextSwitchCompiler$Keys"
  | _ => .array .int
abbrev wsX40 : List Cond := u_ws RX4 TX4 2
theorem nmX4 : ∀ a, a < 2 → ∀ b, b < 2 → a ≠ b → (TX4 a).2.1 ≠ (TX4 b).2.1 := by decide +kernel
theorem tyX4_ok : ∀ k, k < 2 → parseFieldDescriptor (TX4 k).2.2.1 = some (tyX4 k) := by decide +kernel
abbrev cX4_init : ByteArray := prog_6_method_1_code
def yX4_init : MethodName := ⟨RX4, "<init>", "(LTextSwitchCompiler$Keys;)V"⟩
abbrev cX4_sort : ByteArray := prog_6_method_2_code
def yX4_sort : MethodName := ⟨RX4, "sort", "()V"⟩
def RX5 : String := "TextSwitchCompiler$Runner"
def TX5 : u_T := fun k => match k with
  | 0 => ("TextSwitchCompiler$Runner", "keys", "LTextSwitchCompiler$Keys;", true)
  | 1 => ("TextSwitchCompiler$Runner", "order", "LTextSwitchCompiler$Order;", true)
  | 2 => ("TextSwitchCompiler$Runner", "forest", "LTextSwitchCompiler$Forest;", true)
  | 3 => ("TextSwitchCompiler$Runner", "table", "LTextSwitchCompiler$Table;", true)
  | 4 => ("TextSwitchCompiler$Runner", "probe", "LTextSwitchCompiler$Text;", true)
  | 5 => ("TextSwitchCompiler$Runner", "found", "I", false)
  | 6 => ("TextSwitchCompiler$Runner", "steps", "I", false)
  | 7 => ("TextSwitchCompiler$Runner", "cost", "I", false)
  | _ => ("TextSwitchCompiler$Runner", "worst", "I", false)
def tyX5 : Nat → FieldType := fun k => match k with
  | 0 => .object "TextSwitchCompiler$Keys"
  | 1 => .object "TextSwitchCompiler$Order"
  | 2 => .object "TextSwitchCompiler$Forest"
  | 3 => .object "TextSwitchCompiler$Table"
  | 4 => .object "TextSwitchCompiler$Text"
  | 5 => .int
  | 6 => .int
  | 7 => .int
  | _ => .int
abbrev wsX50 : List Cond := u_ws RX5 TX5 9
theorem nmX5 : ∀ a, a < 9 → ∀ b, b < 9 → a ≠ b → (TX5 a).2.1 ≠ (TX5 b).2.1 := by decide +kernel
theorem tyX5_ok : ∀ k, k < 9 → parseFieldDescriptor (TX5 k).2.2.1 = some (tyX5 k) := by decide +kernel
abbrev cX5_init : ByteArray := prog_7_method_1_code
def yX5_init : MethodName := ⟨RX5, "<init>", "(LTextSwitchCompiler$Keys;LTextSwitchCompiler$Order;LTextSwitchCompiler$Forest;LTextSwitchCompiler$Table;)V"⟩
abbrev cX5_run : ByteArray := prog_7_method_2_code
def yX5_run : MethodName := ⟨RX5, "run", "(LTextSwitchCompiler$Text;I)V"⟩
abbrev cX5_measure : ByteArray := prog_7_method_3_code
def yX5_measure : MethodName := ⟨RX5, "measure", "(I)V"⟩
abbrev cX5_examineBoth : ByteArray := prog_7_method_4_code
def yX5_examineBoth : MethodName := ⟨RX5, "examineBoth", "(LTextSwitchCompiler$Text;I)I"⟩
abbrev cX5_matches : ByteArray := prog_7_method_5_code
def yX5_matches : MethodName := ⟨RX5, "matches", "(LTextSwitchCompiler$Text;I)Z"⟩
abbrev cX5_runLinear : ByteArray := prog_7_method_6_code
def yX5_runLinear : MethodName := ⟨RX5, "runLinear", "(LTextSwitchCompiler$Text;)V"⟩
abbrev cX5_runBinary : ByteArray := prog_7_method_7_code
def yX5_runBinary : MethodName := ⟨RX5, "runBinary", "(LTextSwitchCompiler$Text;)V"⟩
abbrev cX5_runTrees : ByteArray := prog_7_method_8_code
def yX5_runTrees : MethodName := ⟨RX5, "runTrees", "(LTextSwitchCompiler$Text;)V"⟩
abbrev cX5_matchesUnseen : ByteArray := prog_7_method_9_code
def yX5_matchesUnseen : MethodName := ⟨RX5, "matchesUnseen", "(LTextSwitchCompiler$Text;II)Z"⟩
abbrev cX5_runTable : ByteArray := prog_7_method_10_code
def yX5_runTable : MethodName := ⟨RX5, "runTable", "(LTextSwitchCompiler$Text;)V"⟩
def RX6 : String := "TextSwitchCompiler$Selection"
def TX6 : u_T := fun k => match k with
  | 0 => ("TextSwitchCompiler$Selection", "keys", "LTextSwitchCompiler$Keys;", true)
  | 1 => ("TextSwitchCompiler$Selection", "pairs", "[I", true)
  | 2 => ("TextSwitchCompiler$Selection", "pairCount", "I", false)
  | _ => ("TextSwitchCompiler$Selection", "positions", "I", false)
def tyX6 : Nat → FieldType := fun k => match k with
  | 0 => .object "TextSwitchCompiler$Keys"
  | 1 => .array .int
  | 2 => .int
  | _ => .int
abbrev wsX60 : List Cond := u_ws RX6 TX6 4
theorem nmX6 : ∀ a, a < 4 → ∀ b, b < 4 → a ≠ b → (TX6 a).2.1 ≠ (TX6 b).2.1 := by decide +kernel
theorem tyX6_ok : ∀ k, k < 4 → parseFieldDescriptor (TX6 k).2.2.1 = some (tyX6 k) := by decide +kernel
abbrev cX6_init : ByteArray := prog_8_method_1_code
def yX6_init : MethodName := ⟨RX6, "<init>", "(LTextSwitchCompiler$Keys;)V"⟩
abbrev cX6_choose : ByteArray := prog_8_method_2_code
def yX6_choose : MethodName := ⟨RX6, "choose", "()V"⟩
abbrev cX6_turned : ByteArray := prog_8_method_3_code
def yX6_turned : MethodName := ⟨RX6, "turned", "(I)I"⟩
abbrev cX6_collectPairs : ByteArray := prog_8_method_4_code
def yX6_collectPairs : MethodName := ⟨RX6, "collectPairs", "()V"⟩
abbrev cX6_separates : ByteArray := prog_8_method_5_code
def yX6_separates : MethodName := ⟨RX6, "separates", "(I)Z"⟩
abbrev cX6_hashOf : ByteArray := prog_8_method_6_code
def yX6_hashOf : MethodName := ⟨RX6, "hashOf", "(LTextSwitchCompiler$Text;I)I"⟩
def RX7 : String := "TextSwitchCompiler$Table"
def TX7 : u_T := fun k => match k with
  | 0 => ("TextSwitchCompiler$Table", "keys", "LTextSwitchCompiler$Keys;", true)
  | 1 => ("TextSwitchCompiler$Table", "selection", "LTextSwitchCompiler$Selection;", true)
  | 2 => ("TextSwitchCompiler$Table", "probe", "LTextSwitchCompiler$Text;", true)
  | 3 => ("TextSwitchCompiler$Table", "buckets", "[I", true)
  | 4 => ("TextSwitchCompiler$Table", "hashes", "[I", true)
  | 5 => ("TextSwitchCompiler$Table", "strides", "[I", true)
  | 6 => ("TextSwitchCompiler$Table", "bucketSizes", "[I", true)
  | 7 => ("TextSwitchCompiler$Table", "displacements", "[I", true)
  | 8 => ("TextSwitchCompiler$Table", "owners", "[I", true)
  | 9 => ("TextSwitchCompiler$Table", "slotCount", "I", false)
  | 10 => ("TextSwitchCompiler$Table", "bucketCount", "I", false)
  | 11 => ("TextSwitchCompiler$Table", "seed", "I", false)
  | 12 => ("TextSwitchCompiler$Table", "exists", "Z", false)
  | _ => ("TextSwitchCompiler$Table", "taken", "J", false)
def tyX7 : Nat → FieldType := fun k => match k with
  | 0 => .object "TextSwitchCompiler$Keys"
  | 1 => .object "TextSwitchCompiler$Selection"
  | 2 => .object "TextSwitchCompiler$Text"
  | 3 => .array .int
  | 4 => .array .int
  | 5 => .array .int
  | 6 => .array .int
  | 7 => .array .int
  | 8 => .array .int
  | 9 => .int
  | 10 => .int
  | 11 => .int
  | 12 => .boolean
  | _ => .long
abbrev wsX70 : List Cond := u_ws RX7 TX7 14
theorem nmX7 : ∀ a, a < 14 → ∀ b, b < 14 → a ≠ b → (TX7 a).2.1 ≠ (TX7 b).2.1 := by decide +kernel
theorem tyX7_ok : ∀ k, k < 14 → parseFieldDescriptor (TX7 k).2.2.1 = some (tyX7 k) := by decide +kernel
abbrev cX7_init : ByteArray := prog_9_method_1_code
def yX7_init : MethodName := ⟨RX7, "<init>", "(LTextSwitchCompiler$Keys;LTextSwitchCompiler$Selection;)V"⟩
abbrev cX7_build : ByteArray := prog_9_method_2_code
def yX7_build : MethodName := ⟨RX7, "build", "()V"⟩
abbrev cX7_trySeed : ByteArray := prog_9_method_3_code
def yX7_trySeed : MethodName := ⟨RX7, "trySeed", "(I)Z"⟩
abbrev cX7_hashKeys : ByteArray := prog_9_method_4_code
def yX7_hashKeys : MethodName := ⟨RX7, "hashKeys", "()V"⟩
abbrev cX7_place : ByteArray := prog_9_method_5_code
def yX7_place : MethodName := ⟨RX7, "place", "(I)Z"⟩
abbrev cX7_takeSlots : ByteArray := prog_9_method_6_code
def yX7_takeSlots : MethodName := ⟨RX7, "takeSlots", "(II)Z"⟩
abbrev cX7_nameOwners : ByteArray := prog_9_method_7_code
def yX7_nameOwners : MethodName := ⟨RX7, "nameOwners", "()V"⟩
abbrev cX7_slotFor : ByteArray := prog_9_method_8_code
def yX7_slotFor : MethodName := ⟨RX7, "slotFor", "(III)I"⟩
abbrev cX7_bucketFor : ByteArray := prog_9_method_9_code
def yX7_bucketFor : MethodName := ⟨RX7, "bucketFor", "(I)I"⟩
abbrev cX7_ownerFor : ByteArray := prog_9_method_10_code
def yX7_ownerFor : MethodName := ⟨RX7, "ownerFor", "(LTextSwitchCompiler$Text;)I"⟩
def RX8 : String := "TextSwitchCompiler$Text"
def TX8 : u_T := fun k => match k with
  | 0 => ("TextSwitchCompiler$Text", "signs", "[I", true)
  | _ => ("TextSwitchCompiler$Text", "length", "I", false)
def tyX8 : Nat → FieldType := fun k => match k with
  | 0 => .array .int
  | _ => .int
abbrev wsX80 : List Cond := u_ws RX8 TX8 2
theorem nmX8 : ∀ a, a < 2 → ∀ b, b < 2 → a ≠ b → (TX8 a).2.1 ≠ (TX8 b).2.1 := by decide +kernel
theorem tyX8_ok : ∀ k, k < 2 → parseFieldDescriptor (TX8 k).2.2.1 = some (tyX8 k) := by decide +kernel
abbrev cX8_init : ByteArray := prog_10_method_1_code
def yX8_init : MethodName := ⟨RX8, "<init>", "(I)V"⟩
abbrev cX8_empty : ByteArray := prog_10_method_2_code
def yX8_empty : MethodName := ⟨RX8, "empty", "()V"⟩
abbrev cX8_signAt : ByteArray := prog_10_method_3_code
def yX8_signAt : MethodName := ⟨RX8, "signAt", "(I)I"⟩
abbrev cX8_write : ByteArray := prog_10_method_4_code
def yX8_write : MethodName := ⟨RX8, "write", "(I)V"⟩
abbrev cX8_writeNumber : ByteArray := prog_10_method_5_code
def yX8_writeNumber : MethodName := ⟨RX8, "writeNumber", "(I)V"⟩
abbrev cX8_isKeySign : ByteArray := prog_10_method_6_code
def yX8_isKeySign : MethodName := ⟨RX8, "isKeySign", "(I)Z"⟩
abbrev cX8_isKey : ByteArray := prog_10_method_7_code
def yX8_isKey : MethodName := ⟨RX8, "isKey", "()Z"⟩
def RX9 : String := "TextSwitchCompiler"
def TX9 : u_T := fun k => match k with
  | 0 => ("TextSwitchCompiler", "buffer", "LTextSwitchCompiler$Text;", true)
  | 1 => ("TextSwitchCompiler", "keys", "LTextSwitchCompiler$Keys;", true)
  | 2 => ("TextSwitchCompiler", "savedKeys", "LTextSwitchCompiler$Keys;", true)
  | 3 => ("TextSwitchCompiler", "somethingSaved", "Z", false)
  | 4 => ("TextSwitchCompiler", "commands", "LTextSwitchCompiler$Commands;", true)
  | 5 => ("TextSwitchCompiler", "errorPlace", "I", false)
  | 6 => ("TextSwitchCompiler", "order", "LTextSwitchCompiler$Order;", true)
  | 7 => ("TextSwitchCompiler", "forest", "LTextSwitchCompiler$Forest;", true)
  | 8 => ("TextSwitchCompiler", "selection", "LTextSwitchCompiler$Selection;", true)
  | 9 => ("TextSwitchCompiler", "hashTable", "LTextSwitchCompiler$Table;", true)
  | 10 => ("TextSwitchCompiler", "runner", "LTextSwitchCompiler$Runner;", true)
  | 11 => ("TextSwitchCompiler", "lister", "LTextSwitchCompiler$Lister;", true)
  | _ => ("TextSwitchCompiler", "preparedChanges", "I", false)
def tyX9 : Nat → FieldType := fun k => match k with
  | 0 => .object "TextSwitchCompiler$Text"
  | 1 => .object "TextSwitchCompiler$Keys"
  | 2 => .object "TextSwitchCompiler$Keys"
  | 3 => .boolean
  | 4 => .object "TextSwitchCompiler$Commands"
  | 5 => .int
  | 6 => .object "TextSwitchCompiler$Order"
  | 7 => .object "TextSwitchCompiler$Forest"
  | 8 => .object "TextSwitchCompiler$Selection"
  | 9 => .object "TextSwitchCompiler$Table"
  | 10 => .object "TextSwitchCompiler$Runner"
  | 11 => .object "TextSwitchCompiler$Lister"
  | _ => .int
abbrev wsX90 : List Cond := u_ws RX9 TX9 13
theorem nmX9 : ∀ a, a < 13 → ∀ b, b < 13 → a ≠ b → (TX9 a).2.1 ≠ (TX9 b).2.1 := by decide +kernel
theorem tyX9_ok : ∀ k, k < 13 → parseFieldDescriptor (TX9 k).2.2.1 = some (tyX9 k) := by decide +kernel
abbrev cX9_init : ByteArray := prog_1_method_1_code
def yX9_init : MethodName := ⟨RX9, "<init>", "()V"⟩
abbrev cX9_append : ByteArray := prog_1_method_2_code
def yX9_append : MethodName := ⟨RX9, "append", "(I)I"⟩
abbrev cX9_clear : ByteArray := prog_1_method_3_code
def yX9_clear : MethodName := ⟨RX9, "clear", "()I"⟩
abbrev cX9_add : ByteArray := prog_1_method_4_code
def yX9_add : MethodName := ⟨RX9, "add", "(I)I"⟩
abbrev cX9_remove : ByteArray := prog_1_method_5_code
def yX9_remove : MethodName := ⟨RX9, "remove", "(I)I"⟩
abbrev cX9_setBranch : ByteArray := prog_1_method_6_code
def yX9_setBranch : MethodName := ⟨RX9, "setBranch", "(II)I"⟩
abbrev cX9_setWeight : ByteArray := prog_1_method_7_code
def yX9_setWeight : MethodName := ⟨RX9, "setWeight", "(II)I"⟩
abbrev cX9_setLoad : ByteArray := prog_1_method_8_code
def yX9_setLoad : MethodName := ⟨RX9, "setLoad", "(I)I"⟩
abbrev cX9_execute : ByteArray := prog_1_method_9_code
def yX9_execute : MethodName := ⟨RX9, "execute", "()I"⟩
abbrev cX9_errorPosition : ByteArray := prog_1_method_10_code
def yX9_errorPosition : MethodName := ⟨RX9, "errorPosition", "()I"⟩
abbrev cX9_property : ByteArray := prog_1_method_11_code
def yX9_property : MethodName := ⟨RX9, "property", "(II)I"⟩
abbrev cX9_character : ByteArray := prog_1_method_12_code
def yX9_character : MethodName := ⟨RX9, "character", "(II)I"⟩
abbrev cX9_difference : ByteArray := prog_1_method_13_code
def yX9_difference : MethodName := ⟨RX9, "difference", "(II)I"⟩
abbrev cX9_size : ByteArray := prog_1_method_14_code
def yX9_size : MethodName := ⟨RX9, "size", "(I)I"⟩
abbrev cX9_find : ByteArray := prog_1_method_15_code
def yX9_find : MethodName := ⟨RX9, "find", "(I)I"⟩
abbrev cX9_branch : ByteArray := prog_1_method_16_code
def yX9_branch : MethodName := ⟨RX9, "branch", "(I)I"⟩
abbrev cX9_examined : ByteArray := prog_1_method_17_code
def yX9_examined : MethodName := ⟨RX9, "examined", "(I)I"⟩
abbrev cX9_cost : ByteArray := prog_1_method_18_code
def yX9_cost : MethodName := ⟨RX9, "cost", "(I)I"⟩
abbrev cX9_worst : ByteArray := prog_1_method_19_code
def yX9_worst : MethodName := ⟨RX9, "worst", "(I)I"⟩
abbrev cX9_meanBits : ByteArray := prog_1_method_20_code
def yX9_meanBits : MethodName := ⟨RX9, "meanBits", "(I)J"⟩
abbrev cX9_best : ByteArray := prog_1_method_21_code
def yX9_best : MethodName := ⟨RX9, "best", "()I"⟩
abbrev cX9_trees : ByteArray := prog_1_method_22_code
def yX9_trees : MethodName := ⟨RX9, "trees", "(I)I"⟩
abbrev cX9_selected : ByteArray := prog_1_method_23_code
def yX9_selected : MethodName := ⟨RX9, "selected", "()I"⟩
abbrev cX9_hash : ByteArray := prog_1_method_24_code
def yX9_hash : MethodName := ⟨RX9, "hash", "(I)I"⟩
abbrev cX9_table : ByteArray := prog_1_method_25_code
def yX9_table : MethodName := ⟨RX9, "table", "(I)I"⟩
abbrev cX9_slot : ByteArray := prog_1_method_26_code
def yX9_slot : MethodName := ⟨RX9, "slot", "(I)I"⟩
abbrev cX9_displacement : ByteArray := prog_1_method_27_code
def yX9_displacement : MethodName := ⟨RX9, "displacement", "(I)I"⟩
abbrev cX9_densityBits : ByteArray := prog_1_method_28_code
def yX9_densityBits : MethodName := ⟨RX9, "densityBits", "()I"⟩
abbrev cX9_listing : ByteArray := prog_1_method_29_code
def yX9_listing : MethodName := ⟨RX9, "listing", "(II)I"⟩
abbrev cX9_save : ByteArray := prog_1_method_30_code
def yX9_save : MethodName := ⟨RX9, "save", "()I"⟩
abbrev cX9_restore : ByteArray := prog_1_method_31_code
def yX9_restore : MethodName := ⟨RX9, "restore", "()I"⟩
abbrev cX9_requireKey : ByteArray := prog_1_method_32_code
def yX9_requireKey : MethodName := ⟨RX9, "requireKey", "(I)V"⟩
abbrev cX9_requireBranch : ByteArray := prog_1_method_33_code
def yX9_requireBranch : MethodName := ⟨RX9, "requireBranch", "(I)V"⟩
abbrev cX9_requireStrategy : ByteArray := prog_1_method_34_code
def yX9_requireStrategy : MethodName := ⟨RX9, "requireStrategy", "(I)V"⟩
abbrev cX9_requireRunnable : ByteArray := prog_1_method_35_code
def yX9_requireRunnable : MethodName := ⟨RX9, "requireRunnable", "(I)V"⟩
abbrev cX9_requireTable : ByteArray := prog_1_method_36_code
def yX9_requireTable : MethodName := ⟨RX9, "requireTable", "()V"⟩
abbrev cX9_canRun : ByteArray := prog_1_method_37_code
def yX9_canRun : MethodName := ⟨RX9, "canRun", "(I)Z"⟩
abbrev cX9_prepare : ByteArray := prog_1_method_38_code
def yX9_prepare : MethodName := ⟨RX9, "prepare", "()V"⟩
abbrev cX9_at : ByteArray := prog_1_method_39_code
def yX9_at : MethodName := ⟨RX9, "at", "([II)I"⟩
abbrev cX9_put : ByteArray := prog_1_method_40_code
def yX9_put : MethodName := ⟨RX9, "put", "([III)V"⟩
abbrev cX9_copy : ByteArray := prog_1_method_41_code
def yX9_copy : MethodName := ⟨RX9, "copy", "([I[I)V"⟩
abbrev cX9_greatest : ByteArray := prog_1_method_42_code
def yX9_greatest : MethodName := ⟨RX9, "greatest", "([II)I"⟩
abbrev cX9_contains : ByteArray := prog_1_method_43_code
def yX9_contains : MethodName := ⟨RX9, "contains", "(II)Z"⟩
abbrev cX9_isLetter : ByteArray := prog_1_method_44_code
def yX9_isLetter : MethodName := ⟨RX9, "isLetter", "(I)Z"⟩
abbrev cX9_isDigit : ByteArray := prog_1_method_45_code
def yX9_isDigit : MethodName := ⟨RX9, "isDigit", "(I)Z"⟩
abbrev cX9_meanBitsOf : ByteArray := prog_1_method_46_code
def yX9_meanBitsOf : MethodName := ⟨RX9, "meanBitsOf", "(D)J"⟩
abbrev cX9_densityBitsOf : ByteArray := prog_1_method_47_code
def yX9_densityBitsOf : MethodName := ⟨RX9, "densityBitsOf", "(F)I"⟩
def RX10 : String := "TextSwitchCompilerModel"
def TX10 : u_T := fun k => match k with
  | 0 => ("TextSwitchCompilerModel", "s", "[I", true)
  | 1 => ("TextSwitchCompilerModel", "saved", "[I", true)
  | 2 => ("TextSwitchCompilerModel", "isSaved", "Z", false)
  | 3 => ("TextSwitchCompilerModel", "buffer", "[I", true)
  | 4 => ("TextSwitchCompilerModel", "length", "I", false)
  | 5 => ("TextSwitchCompilerModel", "errorPosition", "I", false)
  | 6 => ("TextSwitchCompilerModel", "thrown", "I", false)
  | 7 => ("TextSwitchCompilerModel", "commandAt", "[I", true)
  | 8 => ("TextSwitchCompilerModel", "commandKind", "[I", true)
  | 9 => ("TextSwitchCompilerModel", "commandKey", "[I", true)
  | 10 => ("TextSwitchCompilerModel", "commandLength", "[I", true)
  | 11 => ("TextSwitchCompilerModel", "commandNumber", "[I", true)
  | 12 => ("TextSwitchCompilerModel", "commands", "I", false)
  | 13 => ("TextSwitchCompilerModel", "place", "I", false)
  | 14 => ("TextSwitchCompilerModel", "isWrong", "Z", false)
  | 15 => ("TextSwitchCompilerModel", "before", "[I", true)
  | 16 => ("TextSwitchCompilerModel", "text", "[I", true)
  | 17 => ("TextSwitchCompilerModel", "textLength", "I", false)
  | 18 => ("TextSwitchCompilerModel", "examined", "I", false)
  | 19 => ("TextSwitchCompilerModel", "counts", "[I", true)
  | 20 => ("TextSwitchCompilerModel", "treeMany", "I", false)
  | 21 => ("TextSwitchCompilerModel", "nodeMany", "I", false)
  | 22 => ("TextSwitchCompilerModel", "leafMany", "I", false)
  | 23 => ("TextSwitchCompilerModel", "highest", "I", false)
  | 24 => ("TextSwitchCompilerModel", "isPrepared", "Z", false)
  | 25 => ("TextSwitchCompilerModel", "isTable", "Z", false)
  | 26 => ("TextSwitchCompilerModel", "selected", "I", false)
  | 27 => ("TextSwitchCompilerModel", "slots", "I", false)
  | 28 => ("TextSwitchCompilerModel", "buckets", "I", false)
  | 29 => ("TextSwitchCompilerModel", "seed", "I", false)
  | 30 => ("TextSwitchCompilerModel", "slotKey", "[I", true)
  | 31 => ("TextSwitchCompilerModel", "displacements", "[I", true)
  | 32 => ("TextSwitchCompilerModel", "bucketOf", "[I", true)
  | 33 => ("TextSwitchCompilerModel", "bucketSize", "[I", true)
  | 34 => ("TextSwitchCompilerModel", "listing", "[I", true)
  | _ => ("TextSwitchCompilerModel", "listed", "I", false)
def tyX10 : Nat → FieldType := fun k => match k with
  | 0 => .array .int
  | 1 => .array .int
  | 2 => .boolean
  | 3 => .array .int
  | 4 => .int
  | 5 => .int
  | 6 => .int
  | 7 => .array .int
  | 8 => .array .int
  | 9 => .array .int
  | 10 => .array .int
  | 11 => .array .int
  | 12 => .int
  | 13 => .int
  | 14 => .boolean
  | 15 => .array .int
  | 16 => .array .int
  | 17 => .int
  | 18 => .int
  | 19 => .array .int
  | 20 => .int
  | 21 => .int
  | 22 => .int
  | 23 => .int
  | 24 => .boolean
  | 25 => .boolean
  | 26 => .int
  | 27 => .int
  | 28 => .int
  | 29 => .int
  | 30 => .array .int
  | 31 => .array .int
  | 32 => .array .int
  | 33 => .array .int
  | 34 => .array .int
  | _ => .int
abbrev wsX100 : List Cond := u_ws RX10 TX10 36
theorem nmX10 : ∀ a, a < 36 → ∀ b, b < 36 → a ≠ b → (TX10 a).2.1 ≠ (TX10 b).2.1 := by decide +kernel
theorem tyX10_ok : ∀ k, k < 36 → parseFieldDescriptor (TX10 k).2.2.1 = some (tyX10 k) := by decide +kernel
abbrev cX10_init : ByteArray := prog_12_method_1_code
def yX10_init : MethodName := ⟨RX10, "<init>", "()V"⟩
abbrev cX10_thrown : ByteArray := prog_12_method_2_code
def yX10_thrown : MethodName := ⟨RX10, "thrown", "()I"⟩
abbrev cX10_in : ByteArray := prog_12_method_3_code
def yX10_in : MethodName := ⟨RX10, "in", "(JJJ)Z"⟩
abbrev cX10_isKey : ByteArray := prog_12_method_4_code
def yX10_isKey : MethodName := ⟨RX10, "isKey", "(I)Z"⟩
abbrev cX10_isSign : ByteArray := prog_12_method_5_code
def yX10_isSign : MethodName := ⟨RX10, "isSign", "(I)Z"⟩
abbrev cX10_at : ByteArray := prog_12_method_6_code
def yX10_at : MethodName := ⟨RX10, "at", "(II)I"⟩
abbrev cX10_append : ByteArray := prog_12_method_7_code
def yX10_append : MethodName := ⟨RX10, "append", "(I)I"⟩
abbrev cX10_clear : ByteArray := prog_12_method_8_code
def yX10_clear : MethodName := ⟨RX10, "clear", "()I"⟩
abbrev cX10_keyAt : ByteArray := prog_12_method_9_code
def yX10_keyAt : MethodName := ⟨RX10, "keyAt", "(II)I"⟩
abbrev cX10_addKey : ByteArray := prog_12_method_10_code
def yX10_addKey : MethodName := ⟨RX10, "addKey", "(III)I"⟩
abbrev cX10_removeKey : ByteArray := prog_12_method_11_code
def yX10_removeKey : MethodName := ⟨RX10, "removeKey", "(I)V"⟩
abbrev cX10_add : ByteArray := prog_12_method_12_code
def yX10_add : MethodName := ⟨RX10, "add", "(I)I"⟩
abbrev cX10_remove : ByteArray := prog_12_method_13_code
def yX10_remove : MethodName := ⟨RX10, "remove", "(I)I"⟩
abbrev cX10_setBranch : ByteArray := prog_12_method_14_code
def yX10_setBranch : MethodName := ⟨RX10, "setBranch", "(II)I"⟩
abbrev cX10_setWeight : ByteArray := prog_12_method_15_code
def yX10_setWeight : MethodName := ⟨RX10, "setWeight", "(II)I"⟩
abbrev cX10_setLoad : ByteArray := prog_12_method_16_code
def yX10_setLoad : MethodName := ⟨RX10, "setLoad", "(I)I"⟩
abbrev cX10_here : ByteArray := prog_12_method_17_code
def yX10_here : MethodName := ⟨RX10, "here", "()I"⟩
abbrev cX10_wants : ByteArray := prog_12_method_18_code
def yX10_wants : MethodName := ⟨RX10, "wants", "(I)V"⟩
abbrev cX10_isWord : ByteArray := prog_12_method_19_code
def yX10_isWord : MethodName := ⟨RX10, "isWord", "(ILjava/lang/String;)Z"⟩
abbrev cX10_word : ByteArray := prog_12_method_20_code
def yX10_word : MethodName := ⟨RX10, "word", "()I"⟩
abbrev cX10_key : ByteArray := prog_12_method_21_code
def yX10_key : MethodName := ⟨RX10, "key", "()V"⟩
abbrev cX10_number : ByteArray := prog_12_method_22_code
def yX10_number : MethodName := ⟨RX10, "number", "(II)I"⟩
abbrev cX10_branchDigit : ByteArray := prog_12_method_23_code
def yX10_branchDigit : MethodName := ⟨RX10, "branchDigit", "()I"⟩
abbrev cX10_readCommand : ByteArray := prog_12_method_24_code
def yX10_readCommand : MethodName := ⟨RX10, "readCommand", "()V"⟩
abbrev cX10_does : ByteArray := prog_12_method_25_code
def yX10_does : MethodName := ⟨RX10, "does", "(I)Z"⟩
abbrev cX10_execute : ByteArray := prog_12_method_26_code
def yX10_execute : MethodName := ⟨RX10, "execute", "()I"⟩
abbrev cX10_errorPosition : ByteArray := prog_12_method_27_code
def yX10_errorPosition : MethodName := ⟨RX10, "errorPosition", "()I"⟩
abbrev cX10_differ : ByteArray := prog_12_method_28_code
def yX10_differ : MethodName := ⟨RX10, "differ", "(II)I"⟩
abbrev cX10_isLess : ByteArray := prog_12_method_29_code
def yX10_isLess : MethodName := ⟨RX10, "isLess", "(II)Z"⟩
abbrev cX10_rank : ByteArray := prog_12_method_30_code
def yX10_rank : MethodName := ⟨RX10, "rank", "(I)I"⟩
abbrev cX10_neighbours : ByteArray := prog_12_method_31_code
def yX10_neighbours : MethodName := ⟨RX10, "neighbours", "(I)I"⟩
abbrev cX10_property : ByteArray := prog_12_method_32_code
def yX10_property : MethodName := ⟨RX10, "property", "(II)I"⟩
abbrev cX10_character : ByteArray := prog_12_method_33_code
def yX10_character : MethodName := ⟨RX10, "character", "(II)I"⟩
abbrev cX10_difference : ByteArray := prog_12_method_34_code
def yX10_difference : MethodName := ⟨RX10, "difference", "(II)I"⟩
abbrev cX10_size : ByteArray := prog_12_method_35_code
def yX10_size : MethodName := ⟨RX10, "size", "(I)I"⟩
abbrev cX10_takeBuffer : ByteArray := prog_12_method_36_code
def yX10_takeBuffer : MethodName := ⟨RX10, "takeBuffer", "()V"⟩
abbrev cX10_takeKey : ByteArray := prog_12_method_37_code
def yX10_takeKey : MethodName := ⟨RX10, "takeKey", "(I)V"⟩
abbrev cX10_matches : ByteArray := prog_12_method_38_code
def yX10_matches : MethodName := ⟨RX10, "matches", "(I)Z"⟩
abbrev cX10_linear : ByteArray := prog_12_method_39_code
def yX10_linear : MethodName := ⟨RX10, "linear", "()I"⟩
abbrev cX10_keyOfRank : ByteArray := prog_12_method_40_code
def yX10_keyOfRank : MethodName := ⟨RX10, "keyOfRank", "(I)I"⟩
abbrev cX10_compares : ByteArray := prog_12_method_41_code
def yX10_compares : MethodName := ⟨RX10, "compares", "(I)I"⟩
abbrev cX10_search : ByteArray := prog_12_method_42_code
def yX10_search : MethodName := ⟨RX10, "search", "()I"⟩
abbrev cX10_marked : ByteArray := prog_12_method_43_code
def yX10_marked : MethodName := ⟨RX10, "marked", "([Z)I"⟩
abbrev cX10_onlyOne : ByteArray := prog_12_method_44_code
def yX10_onlyOne : MethodName := ⟨RX10, "onlyOne", "([Z)I"⟩
abbrev cX10_positionOf : ByteArray := prog_12_method_45_code
def yX10_positionOf : MethodName := ⟨RX10, "positionOf", "([ZI)I"⟩
abbrev cX10_ofLength : ByteArray := prog_12_method_46_code
def yX10_ofLength : MethodName := ⟨RX10, "ofLength", "(I)[Z"⟩
abbrev cX10_child : ByteArray := prog_12_method_47_code
def yX10_child : MethodName := ⟨RX10, "child", "([ZII)[Z"⟩
abbrev cX10_climb : ByteArray := prog_12_method_48_code
def yX10_climb : MethodName := ⟨RX10, "climb", "()I"⟩
abbrev cX10_measure : ByteArray := prog_12_method_49_code
def yX10_measure : MethodName := ⟨RX10, "measure", "([ZII)V"⟩
abbrev cX10_trees : ByteArray := prog_12_method_50_code
def yX10_trees : MethodName := ⟨RX10, "trees", "(I)I"⟩
abbrev cX10_separates : ByteArray := prog_12_method_51_code
def yX10_separates : MethodName := ⟨RX10, "separates", "(I)Z"⟩
abbrev cX10_sizeOf : ByteArray := prog_12_method_52_code
def yX10_sizeOf : MethodName := ⟨RX10, "sizeOf", "(I)I"⟩
abbrev cX10_isEarlier : ByteArray := prog_12_method_53_code
def yX10_isEarlier : MethodName := ⟨RX10, "isEarlier", "(II)Z"⟩
abbrev cX10_select : ByteArray := prog_12_method_54_code
def yX10_select : MethodName := ⟨RX10, "select", "()V"⟩
abbrev cX10_hashOfText : ByteArray := prog_12_method_55_code
def yX10_hashOfText : MethodName := ⟨RX10, "hashOfText", "(I)I"⟩
abbrev cX10_slotOfText : ByteArray := prog_12_method_56_code
def yX10_slotOfText : MethodName := ⟨RX10, "slotOfText", "(I)I"⟩
abbrev cX10_takes : ByteArray := prog_12_method_57_code
def yX10_takes : MethodName := ⟨RX10, "takes", "(II)Z"⟩
abbrev cX10_findsDisplacement : ByteArray := prog_12_method_58_code
def yX10_findsDisplacement : MethodName := ⟨RX10, "findsDisplacement", "(I)Z"⟩
abbrev cX10_fillsTable : ByteArray := prog_12_method_59_code
def yX10_fillsTable : MethodName := ⟨RX10, "fillsTable", "()Z"⟩
abbrev cX10_prepare : ByteArray := prog_12_method_60_code
def yX10_prepare : MethodName := ⟨RX10, "prepare", "()V"⟩
abbrev cX10_hashed : ByteArray := prog_12_method_61_code
def yX10_hashed : MethodName := ⟨RX10, "hashed", "()I"⟩
abbrev cX10_canRun : ByteArray := prog_12_method_62_code
def yX10_canRun : MethodName := ⟨RX10, "canRun", "(I)Z"⟩
abbrev cX10_refusal : ByteArray := prog_12_method_63_code
def yX10_refusal : MethodName := ⟨RX10, "refusal", "(I)I"⟩
abbrev cX10_run : ByteArray := prog_12_method_64_code
def yX10_run : MethodName := ⟨RX10, "run", "(I)I"⟩
abbrev cX10_find : ByteArray := prog_12_method_65_code
def yX10_find : MethodName := ⟨RX10, "find", "(I)I"⟩
abbrev cX10_branch : ByteArray := prog_12_method_66_code
def yX10_branch : MethodName := ⟨RX10, "branch", "(I)I"⟩
abbrev cX10_examined : ByteArray := prog_12_method_67_code
def yX10_examined : MethodName := ⟨RX10, "examined", "(I)I"⟩
abbrev cX10_costOf : ByteArray := prog_12_method_68_code
def yX10_costOf : MethodName := ⟨RX10, "costOf", "(I)I"⟩
abbrev cX10_cost : ByteArray := prog_12_method_69_code
def yX10_cost : MethodName := ⟨RX10, "cost", "(I)I"⟩
abbrev cX10_worst : ByteArray := prog_12_method_70_code
def yX10_worst : MethodName := ⟨RX10, "worst", "(I)I"⟩
abbrev cX10_meanBits : ByteArray := prog_12_method_71_code
def yX10_meanBits : MethodName := ⟨RX10, "meanBits", "(I)J"⟩
abbrev cX10_best : ByteArray := prog_12_method_72_code
def yX10_best : MethodName := ⟨RX10, "best", "()I"⟩
abbrev cX10_selected : ByteArray := prog_12_method_73_code
def yX10_selected : MethodName := ⟨RX10, "selected", "()I"⟩
abbrev cX10_hash : ByteArray := prog_12_method_74_code
def yX10_hash : MethodName := ⟨RX10, "hash", "(I)I"⟩
abbrev cX10_hasTable : ByteArray := prog_12_method_75_code
def yX10_hasTable : MethodName := ⟨RX10, "hasTable", "()Z"⟩
abbrev cX10_greatest : ByteArray := prog_12_method_76_code
def yX10_greatest : MethodName := ⟨RX10, "greatest", "([II)I"⟩
abbrev cX10_table : ByteArray := prog_12_method_77_code
def yX10_table : MethodName := ⟨RX10, "table", "(I)I"⟩
abbrev cX10_slot : ByteArray := prog_12_method_78_code
def yX10_slot : MethodName := ⟨RX10, "slot", "(I)I"⟩
abbrev cX10_displacement : ByteArray := prog_12_method_79_code
def yX10_displacement : MethodName := ⟨RX10, "displacement", "(I)I"⟩
abbrev cX10_densityBits : ByteArray := prog_12_method_80_code
def yX10_densityBits : MethodName := ⟨RX10, "densityBits", "()I"⟩
abbrev cX10_put : ByteArray := prog_12_method_81_code
def yX10_put : MethodName := ⟨RX10, "put", "(I)V"⟩
abbrev cX10_putNumber : ByteArray := prog_12_method_82_code
def yX10_putNumber : MethodName := ⟨RX10, "putNumber", "(I)V"⟩
abbrev cX10_putText : ByteArray := prog_12_method_83_code
def yX10_putText : MethodName := ⟨RX10, "putText", "(I)V"⟩
abbrev cX10_putEntry : ByteArray := prog_12_method_84_code
def yX10_putEntry : MethodName := ⟨RX10, "putEntry", "(I)V"⟩
abbrev cX10_putTree : ByteArray := prog_12_method_85_code
def yX10_putTree : MethodName := ⟨RX10, "putTree", "([ZI)V"⟩
abbrev cX10_putTrees : ByteArray := prog_12_method_86_code
def yX10_putTrees : MethodName := ⟨RX10, "putTrees", "()V"⟩
abbrev cX10_putTable : ByteArray := prog_12_method_87_code
def yX10_putTable : MethodName := ⟨RX10, "putTable", "()V"⟩
abbrev cX10_list : ByteArray := prog_12_method_88_code
def yX10_list : MethodName := ⟨RX10, "list", "(I)V"⟩
abbrev cX10_listing : ByteArray := prog_12_method_89_code
def yX10_listing : MethodName := ⟨RX10, "listing", "(II)I"⟩
abbrev cX10_save : ByteArray := prog_12_method_90_code
def yX10_save : MethodName := ⟨RX10, "save", "()I"⟩
abbrev cX10_restore : ByteArray := prog_12_method_91_code
def yX10_restore : MethodName := ⟨RX10, "restore", "()I"⟩
def RJx00060 : String := "java/lang/ArrayIndexOutOfBoundsException"
def TJx00060 : u_T := fun k => match k with
  | 0 => ("java/lang/Throwable", "backtrace", "Ljava/lang/Object;", false)
  | 1 => ("java/lang/Throwable", "detailMessage", "Ljava/lang/String;", false)
  | 2 => ("java/lang/Throwable", "cause", "Ljava/lang/Throwable;", false)
  | 3 => ("java/lang/Throwable", "stackTrace", "[Ljava/lang/StackTraceElement;", false)
  | 4 => ("java/lang/Throwable", "depth", "I", false)
  | _ => ("java/lang/Throwable", "suppressedExceptions", "Ljava/util/List;", false)
def tyJx00060 : Nat → FieldType := fun k => match k with
  | 0 => .object "java/lang/Object"
  | 1 => .object "java/lang/String"
  | 2 => .object "java/lang/Throwable"
  | 3 => .array (.object "java/lang/StackTraceElement")
  | 4 => .int
  | _ => .object "java/util/List"
abbrev wsJx000600 : List Cond := u_ws RJx00060 TJx00060 6
theorem nmJx00060 : ∀ a, a < 6 → ∀ b, b < 6 → a ≠ b → (TJx00060 a).2.1 ≠ (TJx00060 b).2.1 := by decide +kernel
theorem tyJx00060_ok : ∀ k, k < 6 → parseFieldDescriptor (TJx00060 k).2.2.1 = some (tyJx00060 k) := by decide +kernel
abbrev cJx00060_init_a7421 : ByteArray := prog_14_method_2_code
def yJx00060_init_a7421 : MethodName := ⟨RJx00060, "<init>", "(Ljava/lang/String;)V"⟩
def RJxe99ae : String := "java/lang/Double"
def TJxe99ae : u_T := fun k => match k with
  | _ => ("", "", "", false)
def tyJxe99ae : Nat → FieldType := fun k => match k with
  | _ => .int
abbrev wsJxe99ae0 : List Cond := u_ws RJxe99ae TJxe99ae 0
theorem nmJxe99ae : ∀ a, a < 0 → ∀ b, b < 0 → a ≠ b → (TJxe99ae a).2.1 ≠ (TJxe99ae b).2.1 := by decide +kernel
theorem tyJxe99ae_ok : ∀ k, k < 0 → parseFieldDescriptor (TJxe99ae k).2.2.1 = some (tyJxe99ae k) := by decide +kernel
abbrev cJxe99ae_isNaN_b9ae7 : ByteArray := prog_15_method_6_code
def yJxe99ae_isNaN_b9ae7 : MethodName := ⟨RJxe99ae, "isNaN", "(D)Z"⟩
abbrev cJxe99ae_doubleToLongBits_ccdee : ByteArray := prog_15_method_23_code
def yJxe99ae_doubleToLongBits_ccdee : MethodName := ⟨RJxe99ae, "doubleToLongBits", "(D)J"⟩
def RJxf58ca : String := "java/lang/Float"
def TJxf58ca : u_T := fun k => match k with
  | _ => ("", "", "", false)
def tyJxf58ca : Nat → FieldType := fun k => match k with
  | _ => .int
abbrev wsJxf58ca0 : List Cond := u_ws RJxf58ca TJxf58ca 0
theorem nmJxf58ca : ∀ a, a < 0 → ∀ b, b < 0 → a ≠ b → (TJxf58ca a).2.1 ≠ (TJxf58ca b).2.1 := by decide +kernel
theorem tyJxf58ca_ok : ∀ k, k < 0 → parseFieldDescriptor (TJxf58ca k).2.2.1 = some (tyJxf58ca k) := by decide +kernel
abbrev cJxf58ca_isNaN_12338 : ByteArray := prog_17_method_6_code
def yJxf58ca_isNaN_12338 : MethodName := ⟨RJxf58ca, "isNaN", "(F)Z"⟩
abbrev cJxf58ca_floatToIntBits_5c35a : ByteArray := prog_17_method_24_code
def yJxf58ca_floatToIntBits_5c35a : MethodName := ⟨RJxf58ca, "floatToIntBits", "(F)I"⟩
def RJ6 : String := "java/lang/Integer"
def TJ6 : u_T := fun k => match k with
  | _ => ("", "", "", false)
def tyJ6 : Nat → FieldType := fun k => match k with
  | _ => .int
abbrev wsJ60 : List Cond := u_ws RJ6 TJ6 0
theorem nmJ6 : ∀ a, a < 0 → ∀ b, b < 0 → a ≠ b → (TJ6 a).2.1 ≠ (TJ6 b).2.1 := by decide +kernel
theorem tyJ6_ok : ∀ k, k < 0 → parseFieldDescriptor (TJ6 k).2.2.1 = some (tyJ6 k) := by decide +kernel
abbrev cJ6_bitCount_0f7a4 : ByteArray := prog_21_method_49_code
def yJ6_bitCount_0f7a4 : MethodName := ⟨RJ6, "bitCount", "(I)I"⟩
def RJ9 : String := "java/lang/Math"
def TJ9 : u_T := fun k => match k with
  | _ => ("", "", "", false)
def tyJ9 : Nat → FieldType := fun k => match k with
  | _ => .int
abbrev wsJ90 : List Cond := u_ws RJ9 TJ9 0
theorem nmJ9 : ∀ a, a < 0 → ∀ b, b < 0 → a ≠ b → (TJ9 a).2.1 ≠ (TJ9 b).2.1 := by decide +kernel
theorem tyJ9_ok : ∀ k, k < 0 → parseFieldDescriptor (TJ9 k).2.2.1 = some (tyJ9 k) := by decide +kernel
abbrev cJ9_floorMod_7cf53 : ByteArray := prog_22_method_50_code
def yJ9_floorMod_7cf53 : MethodName := ⟨RJ9, "floorMod", "(II)I"⟩
abbrev cJ9_max_7cf53 : ByteArray := prog_22_method_65_code
def yJ9_max_7cf53 : MethodName := ⟨RJ9, "max", "(II)I"⟩
abbrev cJ9_min_7cf53 : ByteArray := prog_22_method_69_code
def yJ9_min_7cf53 : MethodName := ⟨RJ9, "min", "(II)I"⟩
def RJ0 : String := "java/lang/String"
def TJ0 : u_T := fun k => match k with
  | 0 => ("java/lang/String", "value", "[B", true)
  | _ => ("java/lang/String", "coder", "B", true)
def tyJ0 : Nat → FieldType := fun k => match k with
  | 0 => .array .byte
  | _ => .byte
abbrev wsJ00 : List Cond := u_ws RJ0 TJ0 2
theorem nmJ0 : ∀ a, a < 2 → ∀ b, b < 2 → a ≠ b → (TJ0 a).2.1 ≠ (TJ0 b).2.1 := by decide +kernel
theorem tyJ0_ok : ∀ k, k < 2 → parseFieldDescriptor (TJ0 k).2.2.1 = some (tyJ0 k) := by decide +kernel
abbrev cJ0_length_8abf5 : ByteArray := prog_24_method_54_code
def yJ0_length_8abf5 : MethodName := ⟨RJ0, "length", "()I"⟩
abbrev cJ0_charAt_5068e : ByteArray := prog_24_method_56_code
def yJ0_charAt_5068e : MethodName := ⟨RJ0, "charAt", "(I)C"⟩
abbrev cJ0_coder_7d493 : ByteArray := prog_24_method_152_code
def yJ0_coder_7d493 : MethodName := ⟨RJ0, "coder", "()B"⟩
abbrev cJ0_isLatin1_aae02 : ByteArray := prog_24_method_154_code
def yJ0_isLatin1_aae02 : MethodName := ⟨RJ0, "isLatin1", "()Z"⟩
abbrev cJ0_checkIndex_df160 : ByteArray := prog_24_method_155_code
def yJ0_checkIndex_df160 : MethodName := ⟨RJ0, "checkIndex", "(II)V"⟩
def RJ1 : String := "java/lang/StringLatin1"
def TJ1 : u_T := fun k => match k with
  | _ => ("", "", "", false)
def tyJ1 : Nat → FieldType := fun k => match k with
  | _ => .int
abbrev wsJ10 : List Cond := u_ws RJ1 TJ1 0
theorem nmJ1 : ∀ a, a < 0 → ∀ b, b < 0 → a ≠ b → (TJ1 a).2.1 ≠ (TJ1 b).2.1 := by decide +kernel
theorem tyJ1_ok : ∀ k, k < 0 → parseFieldDescriptor (TJ1 k).2.2.1 = some (tyJ1 k) := by decide +kernel
abbrev cJ1_charAt_3b067 : ByteArray := prog_25_method_2_code
def yJ1_charAt_3b067 : MethodName := ⟨RJ1, "charAt", "([BI)C"⟩
def RJ2 : String := "java/lang/StringUTF16"
def TJ2 : u_T := fun k => match k with
  | _ => ("", "", "", false)
def tyJ2 : Nat → FieldType := fun k => match k with
  | _ => .int
abbrev wsJ20 : List Cond := u_ws RJ2 TJ2 0
theorem nmJ2 : ∀ a, a < 0 → ∀ b, b < 0 → a ≠ b → (TJ2 a).2.1 ≠ (TJ2 b).2.1 := by decide +kernel
theorem tyJ2_ok : ∀ k, k < 0 → parseFieldDescriptor (TJ2 k).2.2.1 = some (tyJ2 k) := by decide +kernel
abbrev cJ2_getChar_3b067 : ByteArray := prog_26_method_5_code
def yJ2_getChar_3b067 : MethodName := ⟨RJ2, "getChar", "([BI)C"⟩
abbrev cJ2_length_9d52b : ByteArray := prog_26_method_6_code
def yJ2_length_9d52b : MethodName := ⟨RJ2, "length", "([B)I"⟩
abbrev cJ2_charAt_3b067 : ByteArray := prog_26_method_83_code
def yJ2_charAt_3b067 : MethodName := ⟨RJ2, "charAt", "([BI)C"⟩
abbrev cJ2_checkIndex_2214a : ByteArray := prog_26_method_91_code
def yJ2_checkIndex_2214a : MethodName := ⟨RJ2, "checkIndex", "(I[B)V"⟩
def RJ10 : String := "java/lang/System"
def TJ10 : u_T := fun k => match k with
  | _ => ("", "", "", false)
def tyJ10 : Nat → FieldType := fun k => match k with
  | _ => .int
abbrev wsJ100 : List Cond := u_ws RJ10 TJ10 0
theorem nmJ10 : ∀ a, a < 0 → ∀ b, b < 0 → a ≠ b → (TJ10 a).2.1 ≠ (TJ10 b).2.1 := by decide +kernel
theorem tyJ10_ok : ∀ k, k < 0 → parseFieldDescriptor (TJ10 k).2.2.1 = some (tyJ10 k) := by decide +kernel
def RJ3 : String := "jdk/internal/util/Preconditions"
def TJ3 : u_T := fun k => match k with
  | _ => ("", "", "", false)
def tyJ3 : Nat → FieldType := fun k => match k with
  | _ => .int
abbrev wsJ30 : List Cond := u_ws RJ3 TJ3 0
theorem nmJ3 : ∀ a, a < 0 → ∀ b, b < 0 → a ≠ b → (TJ3 a).2.1 ≠ (TJ3 b).2.1 := by decide +kernel
theorem tyJ3_ok : ∀ k, k < 0 → parseFieldDescriptor (TJ3 k).2.2.1 = some (tyJ3 k) := by decide +kernel
abbrev cJ3_checkIndex_8e157 : ByteArray := prog_29_method_11_code
def yJ3_checkIndex_8e157 : MethodName := ⟨RJ3, "checkIndex", "(IILjava/util/function/BiFunction;)I"⟩
def RL : String := "TextSwitchCompilerLaw"
abbrev cL_append : ByteArray := method_3_code
def yL_append : MethodName := ⟨RL, "append", "(LTextSwitchCompiler;I[J)I"⟩
abbrev cL_add : ByteArray := method_4_code
def yL_add : MethodName := ⟨RL, "add", "(LTextSwitchCompiler;I[J)I"⟩
abbrev cL_remove : ByteArray := method_5_code
def yL_remove : MethodName := ⟨RL, "remove", "(LTextSwitchCompiler;I[J)I"⟩
abbrev cL_setBranch : ByteArray := method_6_code
def yL_setBranch : MethodName := ⟨RL, "setBranch", "(LTextSwitchCompiler;II[J)I"⟩
abbrev cL_setWeight : ByteArray := method_7_code
def yL_setWeight : MethodName := ⟨RL, "setWeight", "(LTextSwitchCompiler;II[J)I"⟩
abbrev cL_setLoad : ByteArray := method_8_code
def yL_setLoad : MethodName := ⟨RL, "setLoad", "(LTextSwitchCompiler;I[J)I"⟩
abbrev cL_execute : ByteArray := method_9_code
def yL_execute : MethodName := ⟨RL, "execute", "(LTextSwitchCompiler;[J)I"⟩
abbrev cL_property : ByteArray := method_10_code
def yL_property : MethodName := ⟨RL, "property", "(LTextSwitchCompiler;II[J)I"⟩
abbrev cL_character : ByteArray := method_11_code
def yL_character : MethodName := ⟨RL, "character", "(LTextSwitchCompiler;II[J)I"⟩
abbrev cL_difference : ByteArray := method_12_code
def yL_difference : MethodName := ⟨RL, "difference", "(LTextSwitchCompiler;II[J)I"⟩
abbrev cL_size : ByteArray := method_13_code
def yL_size : MethodName := ⟨RL, "size", "(LTextSwitchCompiler;I[J)I"⟩
abbrev cL_find : ByteArray := method_14_code
def yL_find : MethodName := ⟨RL, "find", "(LTextSwitchCompiler;I[J)I"⟩
abbrev cL_branch : ByteArray := method_15_code
def yL_branch : MethodName := ⟨RL, "branch", "(LTextSwitchCompiler;I[J)I"⟩
abbrev cL_examined : ByteArray := method_16_code
def yL_examined : MethodName := ⟨RL, "examined", "(LTextSwitchCompiler;I[J)I"⟩
abbrev cL_cost : ByteArray := method_17_code
def yL_cost : MethodName := ⟨RL, "cost", "(LTextSwitchCompiler;I[J)I"⟩
abbrev cL_worst : ByteArray := method_18_code
def yL_worst : MethodName := ⟨RL, "worst", "(LTextSwitchCompiler;I[J)I"⟩
abbrev cL_meanBits : ByteArray := method_19_code
def yL_meanBits : MethodName := ⟨RL, "meanBits", "(LTextSwitchCompiler;I[J)I"⟩
abbrev cL_trees : ByteArray := method_20_code
def yL_trees : MethodName := ⟨RL, "trees", "(LTextSwitchCompiler;I[J)I"⟩
abbrev cL_table : ByteArray := method_21_code
def yL_table : MethodName := ⟨RL, "table", "(LTextSwitchCompiler;I[J)I"⟩
abbrev cL_slot : ByteArray := method_22_code
def yL_slot : MethodName := ⟨RL, "slot", "(LTextSwitchCompiler;I[J)I"⟩
abbrev cL_displacement : ByteArray := method_23_code
def yL_displacement : MethodName := ⟨RL, "displacement", "(LTextSwitchCompiler;I[J)I"⟩
abbrev cL_densityBits : ByteArray := method_24_code
def yL_densityBits : MethodName := ⟨RL, "densityBits", "(LTextSwitchCompiler;[J)I"⟩
abbrev cL_listing : ByteArray := method_25_code
def yL_listing : MethodName := ⟨RL, "listing", "(LTextSwitchCompiler;II[J)I"⟩
abbrev cL_restore : ByteArray := method_26_code
def yL_restore : MethodName := ⟨RL, "restore", "(LTextSwitchCompiler;[J)I"⟩
abbrev cL_law : ByteArray := code
def yL_law : MethodName := ⟨RL, "law", "([I)Z"⟩
abbrev vwCl : List vw_C := [(RJ0, TJ0, 2), (RJx00060, TJx00060, 6), (RX0, TX0, 9), (RX1, TX1, 13), (RX2, TX2, 7), (RX3, TX3, 5), (RX4, TX4, 2), (RX5, TX5, 9), (RX6, TX6, 4), (RX7, TX7, 14), (RX8, TX8, 2), (RX9, TX9, 13), (RX10, TX10, 36)]
end
section
/-! WORDS: made by wip/engine/gen17.py -/
def qw_G : List Cond := lw_tbl.filter goodWord
theorem qw_in {w : Cond} (i : Nat) (h : lw_tbl[i]? = some w) (hg : goodWord w = true) : w ∈ qw_G := List.mem_filter.mpr ⟨List.mem_of_getElem? h, hg⟩
theorem qw_all {ws : List Cond} (L : List Nat) (h : ws.map some = L.map (fun i => lw_tbl[i]?)) (hg : ws.all goodWord = true) : ∀ w ∈ ws, w ∈ qw_G := by
  intro w hw
  have h1 : some w ∈ L.map (fun i => lw_tbl[i]?) := h ▸ List.mem_map.mpr ⟨w, hw, rfl⟩
  obtain ⟨i, -, h2⟩ := List.mem_map.mp h1
  exact qw_in i h2 (List.all_eq_true.mp hg w hw)
theorem qv_0 : Cond.methodLink RX9 1 Lib.objectInit ∈ qw_G := qw_in 134 (by decide +kernel) (by decide +kernel)
theorem qv_1 : Cond.instanceMethod Lib.objectInit ∈ qw_G := qw_in 135 (by decide +kernel) (by decide +kernel)
theorem qv_2 : Cond.code Lib.objectInit ⟨#[0xb1]⟩ 1 none ∈ qw_G := qw_in 136 (by decide +kernel) (by decide +kernel)
theorem qv_3 : Cond.classLink RX9 7 RX8 ∈ qw_G := qw_in 137 (by decide +kernel) (by decide +kernel)
theorem qv_4 : Cond.instantiable RX8 2 ∈ qw_G := qw_in 138 (by decide +kernel) (by decide +kernel)
theorem qv_5 : Cond.initialized RX8 ∈ qw_G := qw_in 102 (by decide +kernel) (by decide +kernel)
theorem qv_6 : Cond.code yX8_init cX8_init 2 none ∈ qw_G := qw_in 141 (by decide +kernel) (by decide +kernel)
theorem qv_7 : Cond.methodLink RX9 11 yX8_init ∈ qw_G := qw_in 139 (by decide +kernel) (by decide +kernel)
theorem qv_8 : Cond.instanceMethod yX8_init ∈ qw_G := qw_in 140 (by decide +kernel) (by decide +kernel)
theorem qv_9 : Cond.fieldLink RX9 14 (TX9 0).1 (TX9 0).2.1 (TX9 0).2.2.1 ∈ qw_G := qw_in 463 (by decide +kernel) (by decide +kernel)
theorem qv_10 : Cond.classLink RX9 18 RX2 ∈ qw_G := qw_in 158 (by decide +kernel) (by decide +kernel)
theorem qv_11 : Cond.instantiable RX2 7 ∈ qw_G := qw_in 159 (by decide +kernel) (by decide +kernel)
theorem qv_12 : Cond.initialized RX2 ∈ qw_G := qw_in 104 (by decide +kernel) (by decide +kernel)
theorem qv_13 : Cond.code yX2_init cX2_init 1 none ∈ qw_G := qw_in 162 (by decide +kernel) (by decide +kernel)
theorem qv_14 : Cond.instanceMethod yX2_init ∈ qw_G := qw_in 161 (by decide +kernel) (by decide +kernel)
theorem qv_15 : Cond.fieldLink RX9 21 (TX9 1).1 (TX9 1).2.1 (TX9 1).2.2.1 ∈ qw_G := qw_in 464 (by decide +kernel) (by decide +kernel)
theorem qv_16 : Cond.fieldLink RX9 25 (TX9 2).1 (TX9 2).2.1 (TX9 2).2.2.1 ∈ qw_G := qw_in 465 (by decide +kernel) (by decide +kernel)
theorem qv_17 : Cond.fieldLink RX9 28 (TX9 3).1 (TX9 3).2.1 (TX9 3).2.2.1 ∈ qw_G := qw_in 466 (by decide +kernel) (by decide +kernel)
theorem qv_18 : Cond.classLink RX9 32 RX0 ∈ qw_G := qw_in 201 (by decide +kernel) (by decide +kernel)
theorem qv_19 : Cond.instantiable RX0 9 ∈ qw_G := qw_in 202 (by decide +kernel) (by decide +kernel)
theorem qv_20 : Cond.initialized RX0 ∈ qw_G := qw_in 105 (by decide +kernel) (by decide +kernel)
theorem qv_21 : Cond.code yX0_init cX0_init 1 none ∈ qw_G := qw_in 205 (by decide +kernel) (by decide +kernel)
theorem qv_22 : Cond.instanceMethod yX0_init ∈ qw_G := qw_in 204 (by decide +kernel) (by decide +kernel)
theorem qv_23 : Cond.fieldLink RX9 35 (TX9 4).1 (TX9 4).2.1 (TX9 4).2.2.1 ∈ qw_G := qw_in 467 (by decide +kernel) (by decide +kernel)
theorem qv_24 : Cond.fieldLink RX9 39 (TX9 5).1 (TX9 5).2.1 (TX9 5).2.2.1 ∈ qw_G := qw_in 468 (by decide +kernel) (by decide +kernel)
theorem qv_25 : Cond.classLink RX9 43 RX4 ∈ qw_G := qw_in 239 (by decide +kernel) (by decide +kernel)
theorem qv_26 : Cond.instantiable RX4 2 ∈ qw_G := qw_in 240 (by decide +kernel) (by decide +kernel)
theorem qv_27 : Cond.initialized RX4 ∈ qw_G := qw_in 106 (by decide +kernel) (by decide +kernel)
theorem qv_28 : Cond.code yX4_init cX4_init 2 none ∈ qw_G := qw_in 243 (by decide +kernel) (by decide +kernel)
theorem qv_29 : Cond.methodLink RX9 45 yX4_init ∈ qw_G := qw_in 241 (by decide +kernel) (by decide +kernel)
theorem qv_30 : Cond.instanceMethod yX4_init ∈ qw_G := qw_in 242 (by decide +kernel) (by decide +kernel)
theorem qv_31 : Cond.fieldLink RX9 48 (TX9 6).1 (TX9 6).2.1 (TX9 6).2.2.1 ∈ qw_G := qw_in 469 (by decide +kernel) (by decide +kernel)
theorem qv_32 : Cond.classLink RX9 52 RX1 ∈ qw_G := qw_in 254 (by decide +kernel) (by decide +kernel)
theorem qv_33 : Cond.instantiable RX1 13 ∈ qw_G := qw_in 255 (by decide +kernel) (by decide +kernel)
theorem qv_34 : Cond.initialized RX1 ∈ qw_G := qw_in 107 (by decide +kernel) (by decide +kernel)
theorem qv_35 : Cond.code yX1_init cX1_init 2 none ∈ qw_G := qw_in 258 (by decide +kernel) (by decide +kernel)
theorem qv_36 : Cond.methodLink RX9 54 yX1_init ∈ qw_G := qw_in 256 (by decide +kernel) (by decide +kernel)
theorem qv_37 : Cond.instanceMethod yX1_init ∈ qw_G := qw_in 257 (by decide +kernel) (by decide +kernel)
theorem qv_38 : Cond.fieldLink RX9 55 (TX9 7).1 (TX9 7).2.1 (TX9 7).2.2.1 ∈ qw_G := qw_in 470 (by decide +kernel) (by decide +kernel)
theorem qv_39 : Cond.classLink RX9 59 RX6 ∈ qw_G := qw_in 310 (by decide +kernel) (by decide +kernel)
theorem qv_40 : Cond.instantiable RX6 4 ∈ qw_G := qw_in 311 (by decide +kernel) (by decide +kernel)
theorem qv_41 : Cond.initialized RX6 ∈ qw_G := qw_in 108 (by decide +kernel) (by decide +kernel)
theorem qv_42 : Cond.code yX6_init cX6_init 2 none ∈ qw_G := qw_in 314 (by decide +kernel) (by decide +kernel)
theorem qv_43 : Cond.methodLink RX9 61 yX6_init ∈ qw_G := qw_in 312 (by decide +kernel) (by decide +kernel)
theorem qv_44 : Cond.instanceMethod yX6_init ∈ qw_G := qw_in 313 (by decide +kernel) (by decide +kernel)
theorem qv_45 : Cond.fieldLink RX9 62 (TX9 8).1 (TX9 8).2.1 (TX9 8).2.2.1 ∈ qw_G := qw_in 471 (by decide +kernel) (by decide +kernel)
theorem qv_46 : Cond.classLink RX9 66 RX7 ∈ qw_G := qw_in 332 (by decide +kernel) (by decide +kernel)
theorem qv_47 : Cond.instantiable RX7 14 ∈ qw_G := qw_in 333 (by decide +kernel) (by decide +kernel)
theorem qv_48 : Cond.initialized RX7 ∈ qw_G := qw_in 109 (by decide +kernel) (by decide +kernel)
theorem qv_49 : Cond.code yX7_init cX7_init 3 none ∈ qw_G := qw_in 336 (by decide +kernel) (by decide +kernel)
theorem qv_50 : Cond.methodLink RX9 68 yX7_init ∈ qw_G := qw_in 334 (by decide +kernel) (by decide +kernel)
theorem qv_51 : Cond.instanceMethod yX7_init ∈ qw_G := qw_in 335 (by decide +kernel) (by decide +kernel)
theorem qv_52 : Cond.fieldLink RX9 71 (TX9 9).1 (TX9 9).2.1 (TX9 9).2.2.1 ∈ qw_G := qw_in 472 (by decide +kernel) (by decide +kernel)
theorem qv_53 : Cond.classLink RX9 75 RX5 ∈ qw_G := qw_in 398 (by decide +kernel) (by decide +kernel)
theorem qv_54 : Cond.instantiable RX5 9 ∈ qw_G := qw_in 399 (by decide +kernel) (by decide +kernel)
theorem qv_55 : Cond.initialized RX5 ∈ qw_G := qw_in 110 (by decide +kernel) (by decide +kernel)
theorem qv_56 : Cond.code yX5_init cX5_init 5 none ∈ qw_G := qw_in 402 (by decide +kernel) (by decide +kernel)
theorem qv_57 : Cond.methodLink RX9 77 yX5_init ∈ qw_G := qw_in 400 (by decide +kernel) (by decide +kernel)
theorem qv_58 : Cond.instanceMethod yX5_init ∈ qw_G := qw_in 401 (by decide +kernel) (by decide +kernel)
theorem qv_59 : Cond.fieldLink RX9 80 (TX9 10).1 (TX9 10).2.1 (TX9 10).2.2.1 ∈ qw_G := qw_in 473 (by decide +kernel) (by decide +kernel)
theorem qv_60 : Cond.classLink RX9 84 RX3 ∈ qw_G := qw_in 438 (by decide +kernel) (by decide +kernel)
theorem qv_61 : Cond.instantiable RX3 5 ∈ qw_G := qw_in 439 (by decide +kernel) (by decide +kernel)
theorem qv_62 : Cond.initialized RX3 ∈ qw_G := qw_in 111 (by decide +kernel) (by decide +kernel)
theorem qv_63 : Cond.code yX3_init cX3_init 5 none ∈ qw_G := qw_in 442 (by decide +kernel) (by decide +kernel)
theorem qv_64 : Cond.methodLink RX9 86 yX3_init ∈ qw_G := qw_in 440 (by decide +kernel) (by decide +kernel)
theorem qv_65 : Cond.instanceMethod yX3_init ∈ qw_G := qw_in 441 (by decide +kernel) (by decide +kernel)
theorem qv_66 : Cond.fieldLink RX9 87 (TX9 11).1 (TX9 11).2.1 (TX9 11).2.2.1 ∈ qw_G := qw_in 474 (by decide +kernel) (by decide +kernel)
theorem qv_67 : Cond.fieldLink RX9 91 (TX9 12).1 (TX9 12).2.1 (TX9 12).2.2.1 ∈ qw_G := qw_in 475 (by decide +kernel) (by decide +kernel)
theorem qv_68 : Cond.fieldLink RX9 101 (TX8 1).1 (TX8 1).2.1 (TX8 1).2.2.1 ∈ qw_G := qw_in 149 (by decide +kernel) (by decide +kernel)
theorem qv_69 : Cond.code yX8_write cX8_write 2 none ∈ qw_G := qw_in 648 (by decide +kernel) (by decide +kernel)
theorem qv_70 : Cond.methodLink RX9 109 yX8_write ∈ qw_G := qw_in 864 (by decide +kernel) (by decide +kernel)
theorem qv_71 : Cond.instanceMethod yX8_write ∈ qw_G := qw_in 646 (by decide +kernel) (by decide +kernel)
theorem qv_72 : Cond.selects RX8 yX8_write yX8_write ∈ qw_G := qw_in 647 (by decide +kernel) (by decide +kernel)
theorem qv_73 : Cond.code yX8_empty cX8_empty 1 none ∈ qw_G := qw_in 510 (by decide +kernel) (by decide +kernel)
theorem qv_74 : Cond.methodLink RX9 112 yX8_empty ∈ qw_G := qw_in 507 (by decide +kernel) (by decide +kernel)
theorem qv_75 : Cond.instanceMethod yX8_empty ∈ qw_G := qw_in 508 (by decide +kernel) (by decide +kernel)
theorem qv_76 : Cond.selects RX8 yX8_empty yX8_empty ∈ qw_G := qw_in 509 (by decide +kernel) (by decide +kernel)
theorem qv_77 : Cond.code yX8_isKey cX8_isKey 2 (some .boolean) ∈ qw_G := qw_in 875 (by decide +kernel) (by decide +kernel)
theorem qv_78 : Cond.methodLink RX9 115 yX8_isKey ∈ qw_G := qw_in 872 (by decide +kernel) (by decide +kernel)
theorem qv_79 : Cond.instanceMethod yX8_isKey ∈ qw_G := qw_in 873 (by decide +kernel) (by decide +kernel)
theorem qv_80 : Cond.selects RX8 yX8_isKey yX8_isKey ∈ qw_G := qw_in 874 (by decide +kernel) (by decide +kernel)
theorem qv_81 : Cond.code yX9_requireKey cX9_requireKey 2 none ∈ qw_G := qw_in 941 (by decide +kernel) (by decide +kernel)
theorem qv_82 : Cond.methodLink RX9 133 yX9_requireKey ∈ qw_G := qw_in 938 (by decide +kernel) (by decide +kernel)
theorem qv_83 : Cond.initialized RX9 ∈ qw_G := qw_in 101 (by decide +kernel) (by decide +kernel)
theorem qv_84 : Cond.instanceMethod yX9_requireKey ∈ qw_G := qw_in 940 (by decide +kernel) (by decide +kernel)
theorem qv_85 : Cond.selects RX9 yX9_requireKey yX9_requireKey ∈ qw_G := qw_in 27 (by decide +kernel) (by decide +kernel)
theorem qv_86 : Cond.fieldLink RX9 158 (TX2 5).1 (TX2 5).2.1 (TX2 5).2.2.1 ∈ qw_G := qw_in 183 (by decide +kernel) (by decide +kernel)
theorem qv_87 : Cond.code yX2_changeLoad cX2_changeLoad 2 none ∈ qw_G := qw_in 992 (by decide +kernel) (by decide +kernel)
theorem qv_88 : Cond.methodLink RX9 161 yX2_changeLoad ∈ qw_G := qw_in 989 (by decide +kernel) (by decide +kernel)
theorem qv_89 : Cond.instanceMethod yX2_changeLoad ∈ qw_G := qw_in 990 (by decide +kernel) (by decide +kernel)
theorem qv_90 : Cond.selects RX2 yX2_changeLoad yX2_changeLoad ∈ qw_G := qw_in 991 (by decide +kernel) (by decide +kernel)
theorem qv_91 : Cond.code yX0_read cX0_read 3 (some .boolean) ∈ qw_G := qw_in 1003 (by decide +kernel) (by decide +kernel)
theorem qv_92 : Cond.methodLink RX9 164 yX0_read ∈ qw_G := qw_in 1000 (by decide +kernel) (by decide +kernel)
theorem qv_93 : Cond.instanceMethod yX0_read ∈ qw_G := qw_in 1001 (by decide +kernel) (by decide +kernel)
theorem qv_94 : Cond.selects RX0 yX0_read yX0_read ∈ qw_G := qw_in 1002 (by decide +kernel) (by decide +kernel)
theorem qv_95 : Cond.fieldLink RX9 172 (TX0 8).1 (TX0 8).2.1 (TX0 8).2.2.1 ∈ qw_G := qw_in 219 (by decide +kernel) (by decide +kernel)
theorem qv_96 : Cond.fieldLink RX9 130 (TX2 4).1 (TX2 4).2.1 (TX2 4).2.2.1 ∈ qw_G := qw_in 178 (by decide +kernel) (by decide +kernel)
theorem qv_97 : Cond.code yX9_prepare cX9_prepare 1 none ∈ qw_G := qw_in 522 (by decide +kernel) (by decide +kernel)
theorem qv_98 : Cond.methodLink RX9 208 yX9_prepare ∈ qw_G := qw_in 519 (by decide +kernel) (by decide +kernel)
theorem qv_99 : Cond.instanceMethod yX9_prepare ∈ qw_G := qw_in 521 (by decide +kernel) (by decide +kernel)
theorem qv_100 : Cond.selects RX9 yX9_prepare yX9_prepare ∈ qw_G := qw_in 0 (by decide +kernel) (by decide +kernel)
theorem qv_101 : Cond.code yX9_requireRunnable cX9_requireRunnable 2 none ∈ qw_G := qw_in 1169 (by decide +kernel) (by decide +kernel)
theorem qv_102 : Cond.methodLink RX9 211 yX9_requireRunnable ∈ qw_G := qw_in 1166 (by decide +kernel) (by decide +kernel)
theorem qv_103 : Cond.instanceMethod yX9_requireRunnable ∈ qw_G := qw_in 1168 (by decide +kernel) (by decide +kernel)
theorem qv_104 : Cond.selects RX9 yX9_requireRunnable yX9_requireRunnable ∈ qw_G := qw_in 39 (by decide +kernel) (by decide +kernel)
theorem qv_105 : Cond.code yX5_run cX5_run 3 none ∈ qw_G := qw_in 691 (by decide +kernel) (by decide +kernel)
theorem qv_106 : Cond.methodLink RX9 214 yX5_run ∈ qw_G := qw_in 1175 (by decide +kernel) (by decide +kernel)
theorem qv_107 : Cond.instanceMethod yX5_run ∈ qw_G := qw_in 689 (by decide +kernel) (by decide +kernel)
theorem qv_108 : Cond.selects RX5 yX5_run yX5_run ∈ qw_G := qw_in 690 (by decide +kernel) (by decide +kernel)
theorem qv_109 : Cond.fieldLink RX9 218 (TX5 5).1 (TX5 5).2.1 (TX5 5).2.2.1 ∈ qw_G := qw_in 412 (by decide +kernel) (by decide +kernel)
theorem qv_110 : Cond.fieldLink RX9 221 (TX5 6).1 (TX5 6).2.1 (TX5 6).2.2.1 ∈ qw_G := qw_in 414 (by decide +kernel) (by decide +kernel)
theorem qv_111 : Cond.code yX5_measure cX5_measure 3 none ∈ qw_G := qw_in 685 (by decide +kernel) (by decide +kernel)
theorem qv_112 : Cond.methodLink RX9 224 yX5_measure ∈ qw_G := qw_in 682 (by decide +kernel) (by decide +kernel)
theorem qv_113 : Cond.instanceMethod yX5_measure ∈ qw_G := qw_in 683 (by decide +kernel) (by decide +kernel)
theorem qv_114 : Cond.selects RX5 yX5_measure yX5_measure ∈ qw_G := qw_in 684 (by decide +kernel) (by decide +kernel)
theorem qv_115 : Cond.fieldLink RX9 227 (TX5 7).1 (TX5 7).2.1 (TX5 7).2.2.1 ∈ qw_G := qw_in 416 (by decide +kernel) (by decide +kernel)
theorem qv_116 : Cond.fieldLink RX9 230 (TX5 8).1 (TX5 8).2.1 (TX5 8).2.2.1 ∈ qw_G := qw_in 418 (by decide +kernel) (by decide +kernel)
theorem qv_117 : Cond.code yX2_totalWeight cX2_totalWeight 3 (some .int) ∈ qw_G := qw_in 1228 (by decide +kernel) (by decide +kernel)
theorem qv_118 : Cond.methodLink RX9 233 yX2_totalWeight ∈ qw_G := qw_in 1225 (by decide +kernel) (by decide +kernel)
theorem qv_119 : Cond.instanceMethod yX2_totalWeight ∈ qw_G := qw_in 1226 (by decide +kernel) (by decide +kernel)
theorem qv_120 : Cond.selects RX2 yX2_totalWeight yX2_totalWeight ∈ qw_G := qw_in 1227 (by decide +kernel) (by decide +kernel)
theorem qv_121 : Cond.code yX9_canRun cX9_canRun 2 (some .boolean) ∈ qw_G := qw_in 748 (by decide +kernel) (by decide +kernel)
theorem qv_122 : Cond.methodLink RX9 246 yX9_canRun ∈ qw_G := qw_in 745 (by decide +kernel) (by decide +kernel)
theorem qv_123 : Cond.instanceMethod yX9_canRun ∈ qw_G := qw_in 747 (by decide +kernel) (by decide +kernel)
theorem qv_124 : Cond.selects RX9 yX9_canRun yX9_canRun ∈ qw_G := qw_in 24 (by decide +kernel) (by decide +kernel)
theorem qv_125 : Cond.fieldLink RX9 250 (TX1 10).1 (TX1 10).2.1 (TX1 10).2.2.1 ∈ qw_G := qw_in 278 (by decide +kernel) (by decide +kernel)
theorem qv_126 : Cond.fieldLink RX9 253 (TX1 9).1 (TX1 9).2.1 (TX1 9).2.2.1 ∈ qw_G := qw_in 275 (by decide +kernel) (by decide +kernel)
theorem qv_127 : Cond.fieldLink RX9 256 (TX1 11).1 (TX1 11).2.1 (TX1 11).2.2.1 ∈ qw_G := qw_in 280 (by decide +kernel) (by decide +kernel)
theorem qv_128 : Cond.fieldLink RX9 259 (TX1 12).1 (TX1 12).2.1 (TX1 12).2.2.1 ∈ qw_G := qw_in 282 (by decide +kernel) (by decide +kernel)
theorem qv_129 : Cond.fieldLink RX9 262 (TX6 3).1 (TX6 3).2.1 (TX6 3).2.2.1 ∈ qw_G := qw_in 322 (by decide +kernel) (by decide +kernel)
theorem qv_130 : Cond.code yX6_hashOf cX6_hashOf 5 (some .int) ∈ qw_G := qw_in 652 (by decide +kernel) (by decide +kernel)
theorem qv_131 : Cond.methodLink RX9 265 yX6_hashOf ∈ qw_G := qw_in 757 (by decide +kernel) (by decide +kernel)
theorem qv_132 : Cond.instanceMethod yX6_hashOf ∈ qw_G := qw_in 650 (by decide +kernel) (by decide +kernel)
theorem qv_133 : Cond.selects RX6 yX6_hashOf yX6_hashOf ∈ qw_G := qw_in 651 (by decide +kernel) (by decide +kernel)
theorem qv_134 : Cond.code yX9_requireTable cX9_requireTable 1 none ∈ qw_G := qw_in 1255 (by decide +kernel) (by decide +kernel)
theorem qv_135 : Cond.methodLink RX9 269 yX9_requireTable ∈ qw_G := qw_in 1252 (by decide +kernel) (by decide +kernel)
theorem qv_136 : Cond.instanceMethod yX9_requireTable ∈ qw_G := qw_in 1254 (by decide +kernel) (by decide +kernel)
theorem qv_137 : Cond.selects RX9 yX9_requireTable yX9_requireTable ∈ qw_G := qw_in 40 (by decide +kernel) (by decide +kernel)
theorem qv_138 : Cond.code yX9_requireStrategy cX9_requireStrategy 1 none ∈ qw_G := qw_in 1172 (by decide +kernel) (by decide +kernel)
theorem qv_139 : Cond.methodLink RX9 301 yX9_requireStrategy ∈ qw_G := qw_in 1170 (by decide +kernel) (by decide +kernel)
theorem qv_140 : Cond.static yX9_requireStrategy ∈ qw_G := qw_in 1171 (by decide +kernel) (by decide +kernel)
theorem qv_141 : Cond.code yX3_list cX3_list 2 none ∈ qw_G := qw_in 1297 (by decide +kernel) (by decide +kernel)
theorem qv_142 : Cond.methodLink RX9 304 yX3_list ∈ qw_G := qw_in 1294 (by decide +kernel) (by decide +kernel)
theorem qv_143 : Cond.instanceMethod yX3_list ∈ qw_G := qw_in 1295 (by decide +kernel) (by decide +kernel)
theorem qv_144 : Cond.selects RX3 yX3_list yX3_list ∈ qw_G := qw_in 1296 (by decide +kernel) (by decide +kernel)
theorem qv_145 : Cond.fieldLink RX9 307 (TX3 4).1 (TX3 4).2.1 (TX3 4).2.2.1 ∈ qw_G := qw_in 451 (by decide +kernel) (by decide +kernel)
theorem qv_146 : Cond.code yX2_takeOver cX2_takeOver 2 none ∈ qw_G := qw_in 765 (by decide +kernel) (by decide +kernel)
theorem qv_147 : Cond.methodLink RX9 315 yX2_takeOver ∈ qw_G := qw_in 762 (by decide +kernel) (by decide +kernel)
theorem qv_148 : Cond.instanceMethod yX2_takeOver ∈ qw_G := qw_in 763 (by decide +kernel) (by decide +kernel)
theorem qv_149 : Cond.selects RX2 yX2_takeOver yX2_takeOver ∈ qw_G := qw_in 764 (by decide +kernel) (by decide +kernel)
theorem qv_150 : Cond.code yX2_has cX2_has 2 (some .boolean) ∈ qw_G := qw_in 945 (by decide +kernel) (by decide +kernel)
theorem qv_151 : Cond.methodLink RX9 320 yX2_has ∈ qw_G := qw_in 942 (by decide +kernel) (by decide +kernel)
theorem qv_152 : Cond.instanceMethod yX2_has ∈ qw_G := qw_in 943 (by decide +kernel) (by decide +kernel)
theorem qv_153 : Cond.selects RX2 yX2_has yX2_has ∈ qw_G := qw_in 944 (by decide +kernel) (by decide +kernel)
theorem qv_154 : Cond.fieldLink RX9 331 (TX7 12).1 (TX7 12).2.1 (TX7 12).2.2.1 ∈ qw_G := qw_in 367 (by decide +kernel) (by decide +kernel)
theorem qv_155 : Cond.fieldLink RX9 334 (TX2 6).1 (TX2 6).2.1 (TX2 6).2.2.1 ∈ qw_G := qw_in 185 (by decide +kernel) (by decide +kernel)
theorem qv_156 : Cond.code yX4_sort cX4_sort 2 none ∈ qw_G := qw_in 526 (by decide +kernel) (by decide +kernel)
theorem qv_157 : Cond.methodLink RX9 337 yX4_sort ∈ qw_G := qw_in 523 (by decide +kernel) (by decide +kernel)
theorem qv_158 : Cond.instanceMethod yX4_sort ∈ qw_G := qw_in 524 (by decide +kernel) (by decide +kernel)
theorem qv_159 : Cond.selects RX4 yX4_sort yX4_sort ∈ qw_G := qw_in 525 (by decide +kernel) (by decide +kernel)
theorem qv_160 : Cond.code yX1_grow cX1_grow 2 none ∈ qw_G := qw_in 556 (by decide +kernel) (by decide +kernel)
theorem qv_161 : Cond.methodLink RX9 340 yX1_grow ∈ qw_G := qw_in 553 (by decide +kernel) (by decide +kernel)
theorem qv_162 : Cond.instanceMethod yX1_grow ∈ qw_G := qw_in 554 (by decide +kernel) (by decide +kernel)
theorem qv_163 : Cond.selects RX1 yX1_grow yX1_grow ∈ qw_G := qw_in 555 (by decide +kernel) (by decide +kernel)
theorem qv_164 : Cond.code yX6_choose cX6_choose 4 none ∈ qw_G := qw_in 599 (by decide +kernel) (by decide +kernel)
theorem qv_165 : Cond.methodLink RX9 343 yX6_choose ∈ qw_G := qw_in 596 (by decide +kernel) (by decide +kernel)
theorem qv_166 : Cond.instanceMethod yX6_choose ∈ qw_G := qw_in 597 (by decide +kernel) (by decide +kernel)
theorem qv_167 : Cond.selects RX6 yX6_choose yX6_choose ∈ qw_G := qw_in 598 (by decide +kernel) (by decide +kernel)
theorem qv_168 : Cond.code yX7_build cX7_build 2 none ∈ qw_G := qw_in 630 (by decide +kernel) (by decide +kernel)
theorem qv_169 : Cond.methodLink RX9 346 yX7_build ∈ qw_G := qw_in 627 (by decide +kernel) (by decide +kernel)
theorem qv_170 : Cond.instanceMethod yX7_build ∈ qw_G := qw_in 628 (by decide +kernel) (by decide +kernel)
theorem qv_171 : Cond.selects RX7 yX7_build yX7_build ∈ qw_G := qw_in 629 (by decide +kernel) (by decide +kernel)
theorem qv_172 : Cond.methodLink RX10 3 Lib.objectInit ∈ qw_G := qw_in 1348 (by decide +kernel) (by decide +kernel)
theorem qv_173 : Cond.arrayClass .int ∈ qw_G := qw_in 157 (by decide +kernel) (by decide +kernel)
theorem qv_174 : Cond.fieldLink RX10 9 (TX10 0).1 (TX10 0).2.1 (TX10 0).2.2.1 ∈ qw_G := qw_in 1349 (by decide +kernel) (by decide +kernel)
theorem qv_175 : Cond.fieldLink RX10 13 (TX10 1).1 (TX10 1).2.1 (TX10 1).2.2.1 ∈ qw_G := qw_in 1350 (by decide +kernel) (by decide +kernel)
theorem qv_176 : Cond.fieldLink RX10 16 (TX10 3).1 (TX10 3).2.1 (TX10 3).2.2.1 ∈ qw_G := qw_in 1352 (by decide +kernel) (by decide +kernel)
theorem qv_177 : Cond.fieldLink RX10 19 (TX10 5).1 (TX10 5).2.1 (TX10 5).2.2.1 ∈ qw_G := qw_in 1354 (by decide +kernel) (by decide +kernel)
theorem qv_178 : Cond.fieldLink RX10 23 (TX10 7).1 (TX10 7).2.1 (TX10 7).2.2.1 ∈ qw_G := qw_in 1356 (by decide +kernel) (by decide +kernel)
theorem qv_179 : Cond.fieldLink RX10 26 (TX10 8).1 (TX10 8).2.1 (TX10 8).2.2.1 ∈ qw_G := qw_in 1357 (by decide +kernel) (by decide +kernel)
theorem qv_180 : Cond.fieldLink RX10 29 (TX10 9).1 (TX10 9).2.1 (TX10 9).2.2.1 ∈ qw_G := qw_in 1358 (by decide +kernel) (by decide +kernel)
theorem qv_181 : Cond.fieldLink RX10 32 (TX10 10).1 (TX10 10).2.1 (TX10 10).2.2.1 ∈ qw_G := qw_in 1359 (by decide +kernel) (by decide +kernel)
theorem qv_182 : Cond.fieldLink RX10 35 (TX10 11).1 (TX10 11).2.1 (TX10 11).2.2.1 ∈ qw_G := qw_in 1360 (by decide +kernel) (by decide +kernel)
theorem qv_183 : Cond.fieldLink RX10 38 (TX10 15).1 (TX10 15).2.1 (TX10 15).2.2.1 ∈ qw_G := qw_in 1364 (by decide +kernel) (by decide +kernel)
theorem qv_184 : Cond.fieldLink RX10 41 (TX10 16).1 (TX10 16).2.1 (TX10 16).2.2.1 ∈ qw_G := qw_in 1365 (by decide +kernel) (by decide +kernel)
theorem qv_185 : Cond.fieldLink RX10 44 (TX10 19).1 (TX10 19).2.1 (TX10 19).2.2.1 ∈ qw_G := qw_in 1368 (by decide +kernel) (by decide +kernel)
theorem qv_186 : Cond.fieldLink RX10 47 (TX10 30).1 (TX10 30).2.1 (TX10 30).2.2.1 ∈ qw_G := qw_in 1379 (by decide +kernel) (by decide +kernel)
theorem qv_187 : Cond.fieldLink RX10 50 (TX10 31).1 (TX10 31).2.1 (TX10 31).2.2.1 ∈ qw_G := qw_in 1380 (by decide +kernel) (by decide +kernel)
theorem qv_188 : Cond.fieldLink RX10 53 (TX10 32).1 (TX10 32).2.1 (TX10 32).2.2.1 ∈ qw_G := qw_in 1381 (by decide +kernel) (by decide +kernel)
theorem qv_189 : Cond.fieldLink RX10 56 (TX10 33).1 (TX10 33).2.1 (TX10 33).2.2.1 ∈ qw_G := qw_in 1382 (by decide +kernel) (by decide +kernel)
theorem qv_190 : Cond.fieldLink RX10 59 (TX10 34).1 (TX10 34).2.1 (TX10 34).2.2.1 ∈ qw_G := qw_in 1383 (by decide +kernel) (by decide +kernel)
theorem qv_191 : Cond.fieldLink RX10 62 (TX10 6).1 (TX10 6).2.1 (TX10 6).2.2.1 ∈ qw_G := qw_in 1355 (by decide +kernel) (by decide +kernel)
theorem qv_192 : Cond.code yX10_in cX10_in 6 (some .boolean) ∈ qw_G := qw_in 1470 (by decide +kernel) (by decide +kernel)
theorem qv_193 : Cond.methodLink RX10 65 yX10_in ∈ qw_G := qw_in 1468 (by decide +kernel) (by decide +kernel)
theorem qv_194 : Cond.initialized RX10 ∈ qw_G := qw_in 112 (by decide +kernel) (by decide +kernel)
theorem qv_195 : Cond.static yX10_in ∈ qw_G := qw_in 1469 (by decide +kernel) (by decide +kernel)
theorem qv_196 : Cond.constantLong RX10 77 (33) ∈ qw_G := qw_in 1466 (by decide +kernel) (by decide +kernel)
theorem qv_197 : Cond.constantLong RX10 79 (126) ∈ qw_G := qw_in 1467 (by decide +kernel) (by decide +kernel)
theorem qv_198 : Cond.fieldLink RX10 81 (TX10 4).1 (TX10 4).2.1 (TX10 4).2.2.1 ∈ qw_G := qw_in 1353 (by decide +kernel) (by decide +kernel)
theorem qv_199 : Cond.constantLong RX10 88 (8) ∈ qw_G := qw_in 1479 (by decide +kernel) (by decide +kernel)
theorem qv_200 : Cond.code yX10_isKey cX10_isKey 2 (some .boolean) ∈ qw_G := qw_in 1507 (by decide +kernel) (by decide +kernel)
theorem qv_201 : Cond.methodLink RX10 107 yX10_isKey ∈ qw_G := qw_in 1504 (by decide +kernel) (by decide +kernel)
theorem qv_202 : Cond.instanceMethod yX10_isKey ∈ qw_G := qw_in 1506 (by decide +kernel) (by decide +kernel)
theorem qv_203 : Cond.selects RX10 yX10_isKey yX10_isKey ∈ qw_G := qw_in 49 (by decide +kernel) (by decide +kernel)
theorem qv_204 : Cond.constantLong RX10 116 (50) ∈ qw_G := qw_in 1525 (by decide +kernel) (by decide +kernel)
theorem qv_205 : Cond.constantLong RX10 118 (100) ∈ qw_G := qw_in 1526 (by decide +kernel) (by decide +kernel)
theorem qv_206 : Cond.fieldLink RX10 103 (TX10 24).1 (TX10 24).2.1 (TX10 24).2.2.1 ∈ qw_G := qw_in 1373 (by decide +kernel) (by decide +kernel)
theorem qv_207 : Cond.fieldLink RX10 120 (TX10 13).1 (TX10 13).2.1 (TX10 13).2.2.1 ∈ qw_G := qw_in 1362 (by decide +kernel) (by decide +kernel)
theorem qv_208 : Cond.code yX10_here cX10_here 1 (some .int) ∈ qw_G := qw_in 1542 (by decide +kernel) (by decide +kernel)
theorem qv_209 : Cond.methodLink RX10 126 yX10_here ∈ qw_G := qw_in 1539 (by decide +kernel) (by decide +kernel)
theorem qv_210 : Cond.instanceMethod yX10_here ∈ qw_G := qw_in 1541 (by decide +kernel) (by decide +kernel)
theorem qv_211 : Cond.selects RX10 yX10_here yX10_here ∈ qw_G := qw_in 53 (by decide +kernel) (by decide +kernel)
theorem qv_212 : Cond.constantLong RX10 69 (97) ∈ qw_G := qw_in 1484 (by decide +kernel) (by decide +kernel)
theorem qv_213 : Cond.constantLong RX10 71 (122) ∈ qw_G := qw_in 1485 (by decide +kernel) (by decide +kernel)
theorem qv_214 : Cond.code yX10_isWord cX10_isWord 5 (some .boolean) ∈ qw_G := qw_in 1547 (by decide +kernel) (by decide +kernel)
theorem qv_215 : Cond.methodLink RX10 140 yX10_isWord ∈ qw_G := qw_in 1544 (by decide +kernel) (by decide +kernel)
theorem qv_216 : Cond.instanceMethod yX10_isWord ∈ qw_G := qw_in 1546 (by decide +kernel) (by decide +kernel)
theorem qv_217 : Cond.selects RX10 yX10_isWord yX10_isWord ∈ qw_G := qw_in 54 (by decide +kernel) (by decide +kernel)
theorem qv_218 : Cond.fieldLink RX10 123 (TX10 14).1 (TX10 14).2.1 (TX10 14).2.2.1 ∈ qw_G := qw_in 1363 (by decide +kernel) (by decide +kernel)
theorem qv_219 : Cond.fieldLink RX10 150 (TX10 12).1 (TX10 12).2.1 (TX10 12).2.2.1 ∈ qw_G := qw_in 1361 (by decide +kernel) (by decide +kernel)
theorem qv_220 : Cond.code yX10_word cX10_word 3 (some .int) ∈ qw_G := qw_in 1538 (by decide +kernel) (by decide +kernel)
theorem qv_221 : Cond.methodLink RX10 155 yX10_word ∈ qw_G := qw_in 1535 (by decide +kernel) (by decide +kernel)
theorem qv_222 : Cond.instanceMethod yX10_word ∈ qw_G := qw_in 1537 (by decide +kernel) (by decide +kernel)
theorem qv_223 : Cond.selects RX10 yX10_word yX10_word ∈ qw_G := qw_in 52 (by decide +kernel) (by decide +kernel)
theorem qv_224 : Cond.code yX10_readCommand cX10_readCommand 1 none ∈ qw_G := qw_in 1534 (by decide +kernel) (by decide +kernel)
theorem qv_225 : Cond.methodLink RX10 170 yX10_readCommand ∈ qw_G := qw_in 1531 (by decide +kernel) (by decide +kernel)
theorem qv_226 : Cond.instanceMethod yX10_readCommand ∈ qw_G := qw_in 1533 (by decide +kernel) (by decide +kernel)
theorem qv_227 : Cond.selects RX10 yX10_readCommand yX10_readCommand ∈ qw_G := qw_in 51 (by decide +kernel) (by decide +kernel)
theorem qv_228 : Cond.methodLink RX10 173 arraycopyName ∈ qw_G := qw_in 1570 (by decide +kernel) (by decide +kernel)
theorem qv_229 : Cond.native arraycopyName ∈ qw_G := qw_in 1572 (by decide +kernel) (by decide +kernel)
theorem qv_230 : Cond.static arraycopyName ∈ qw_G := qw_in 1571 (by decide +kernel) (by decide +kernel)
theorem qv_231 : Cond.initialized "java/lang/System" ∈ qw_G := qw_in 124 (by decide +kernel) (by decide +kernel)
theorem qv_232 : Cond.constantLong RX10 203 (2) ∈ qw_G := qw_in 1615 (by decide +kernel) (by decide +kernel)
theorem qv_233 : Cond.fieldLink RX10 205 (TX10 17).1 (TX10 17).2.1 (TX10 17).2.2.1 ∈ qw_G := qw_in 1366 (by decide +kernel) (by decide +kernel)
theorem qv_234 : Cond.arrayClass .boolean ∈ qw_G := qw_in 1642 (by decide +kernel) (by decide +kernel)
theorem qv_235 : Cond.code yX10_ofLength cX10_ofLength 4 (some (.array .boolean)) ∈ qw_G := qw_in 1624 (by decide +kernel) (by decide +kernel)
theorem qv_236 : Cond.methodLink RX10 223 yX10_ofLength ∈ qw_G := qw_in 1621 (by decide +kernel) (by decide +kernel)
theorem qv_237 : Cond.instanceMethod yX10_ofLength ∈ qw_G := qw_in 1623 (by decide +kernel) (by decide +kernel)
theorem qv_238 : Cond.selects RX10 yX10_ofLength yX10_ofLength ∈ qw_G := qw_in 64 (by decide +kernel) (by decide +kernel)
theorem qv_239 : Cond.code yX10_marked cX10_marked 4 (some .int) ∈ qw_G := qw_in 1628 (by decide +kernel) (by decide +kernel)
theorem qv_240 : Cond.methodLink RX10 227 yX10_marked ∈ qw_G := qw_in 1625 (by decide +kernel) (by decide +kernel)
theorem qv_241 : Cond.instanceMethod yX10_marked ∈ qw_G := qw_in 1627 (by decide +kernel) (by decide +kernel)
theorem qv_242 : Cond.selects RX10 yX10_marked yX10_marked ∈ qw_G := qw_in 65 (by decide +kernel) (by decide +kernel)
theorem qv_243 : Cond.constantLong RX10 255 (3) ∈ qw_G := qw_in 1620 (by decide +kernel) (by decide +kernel)
theorem qv_244 : Cond.fieldLink RX10 257 (TX10 20).1 (TX10 20).2.1 (TX10 20).2.2.1 ∈ qw_G := qw_in 1369 (by decide +kernel) (by decide +kernel)
theorem qv_245 : Cond.fieldLink RX10 248 (TX10 21).1 (TX10 21).2.1 (TX10 21).2.2.1 ∈ qw_G := qw_in 1370 (by decide +kernel) (by decide +kernel)
theorem qv_246 : Cond.fieldLink RX10 242 (TX10 22).1 (TX10 22).2.1 (TX10 22).2.2.1 ∈ qw_G := qw_in 1371 (by decide +kernel) (by decide +kernel)
theorem qv_247 : Cond.fieldLink RX10 245 (TX10 23).1 (TX10 23).2.1 (TX10 23).2.2.1 ∈ qw_G := qw_in 1372 (by decide +kernel) (by decide +kernel)
theorem qv_248 : Cond.code yX10_sizeOf cX10_sizeOf 3 (some .int) ∈ qw_G := qw_in 1665 (by decide +kernel) (by decide +kernel)
theorem qv_249 : Cond.methodLink RX10 260 yX10_sizeOf ∈ qw_G := qw_in 1663 (by decide +kernel) (by decide +kernel)
theorem qv_250 : Cond.static yX10_sizeOf ∈ qw_G := qw_in 1664 (by decide +kernel) (by decide +kernel)
theorem qv_251 : Cond.code yX10_separates cX10_separates 6 (some .boolean) ∈ qw_G := qw_in 1672 (by decide +kernel) (by decide +kernel)
theorem qv_252 : Cond.methodLink RX10 266 yX10_separates ∈ qw_G := qw_in 1669 (by decide +kernel) (by decide +kernel)
theorem qv_253 : Cond.instanceMethod yX10_separates ∈ qw_G := qw_in 1671 (by decide +kernel) (by decide +kernel)
theorem qv_254 : Cond.selects RX10 yX10_separates yX10_separates ∈ qw_G := qw_in 73 (by decide +kernel) (by decide +kernel)
theorem qv_255 : Cond.fieldLink RX10 269 (TX10 26).1 (TX10 26).2.1 (TX10 26).2.2.1 ∈ qw_G := qw_in 1375 (by decide +kernel) (by decide +kernel)
theorem qv_256 : Cond.constant RX10 272 (739982445) ∈ qw_G := qw_in 1685 (by decide +kernel) (by decide +kernel)
theorem qv_257 : Cond.code yX10_select cX10_select 4 none ∈ qw_G := qw_in 1662 (by decide +kernel) (by decide +kernel)
theorem qv_258 : Cond.methodLink RX10 300 yX10_select ∈ qw_G := qw_in 1659 (by decide +kernel) (by decide +kernel)
theorem qv_259 : Cond.instanceMethod yX10_select ∈ qw_G := qw_in 1661 (by decide +kernel) (by decide +kernel)
theorem qv_260 : Cond.selects RX10 yX10_select yX10_select ∈ qw_G := qw_in 72 (by decide +kernel) (by decide +kernel)
theorem qv_261 : Cond.fieldLink RX10 279 (TX10 27).1 (TX10 27).2.1 (TX10 27).2.2.1 ∈ qw_G := qw_in 1376 (by decide +kernel) (by decide +kernel)
theorem qv_262 : Cond.fieldLink RX10 294 (TX10 28).1 (TX10 28).2.1 (TX10 28).2.2.1 ∈ qw_G := qw_in 1377 (by decide +kernel) (by decide +kernel)
theorem qv_263 : Cond.fieldLink RX10 303 (TX10 25).1 (TX10 25).2.1 (TX10 25).2.2.1 ∈ qw_G := qw_in 1374 (by decide +kernel) (by decide +kernel)
theorem qv_264 : Cond.fieldLink RX10 273 (TX10 29).1 (TX10 29).2.1 (TX10 29).2.2.1 ∈ qw_G := qw_in 1378 (by decide +kernel) (by decide +kernel)
theorem qv_265 : Cond.code yX10_prepare cX10_prepare 2 none ∈ qw_G := qw_in 1658 (by decide +kernel) (by decide +kernel)
theorem qv_266 : Cond.methodLink RX10 310 yX10_prepare ∈ qw_G := qw_in 1655 (by decide +kernel) (by decide +kernel)
theorem qv_267 : Cond.instanceMethod yX10_prepare ∈ qw_G := qw_in 1657 (by decide +kernel) (by decide +kernel)
theorem qv_268 : Cond.selects RX10 yX10_prepare yX10_prepare ∈ qw_G := qw_in 71 (by decide +kernel) (by decide +kernel)
theorem qv_269 : Cond.code yX10_canRun cX10_canRun 2 (some .boolean) ∈ qw_G := qw_in 1654 (by decide +kernel) (by decide +kernel)
theorem qv_270 : Cond.methodLink RX10 313 yX10_canRun ∈ qw_G := qw_in 1651 (by decide +kernel) (by decide +kernel)
theorem qv_271 : Cond.instanceMethod yX10_canRun ∈ qw_G := qw_in 1653 (by decide +kernel) (by decide +kernel)
theorem qv_272 : Cond.selects RX10 yX10_canRun yX10_canRun ∈ qw_G := qw_in 70 (by decide +kernel) (by decide +kernel)
theorem qv_273 : Cond.fieldLink RX10 208 (TX10 18).1 (TX10 18).2.1 (TX10 18).2.2.1 ∈ qw_G := qw_in 1367 (by decide +kernel) (by decide +kernel)
theorem qv_274 : Cond.code yX10_linear cX10_linear 2 (some .int) ∈ qw_G := qw_in 1710 (by decide +kernel) (by decide +kernel)
theorem qv_275 : Cond.methodLink RX10 316 yX10_linear ∈ qw_G := qw_in 1707 (by decide +kernel) (by decide +kernel)
theorem qv_276 : Cond.instanceMethod yX10_linear ∈ qw_G := qw_in 1709 (by decide +kernel) (by decide +kernel)
theorem qv_277 : Cond.selects RX10 yX10_linear yX10_linear ∈ qw_G := qw_in 82 (by decide +kernel) (by decide +kernel)
theorem qv_278 : Cond.code yX10_search cX10_search 6 (some .int) ∈ qw_G := qw_in 1718 (by decide +kernel) (by decide +kernel)
theorem qv_279 : Cond.methodLink RX10 319 yX10_search ∈ qw_G := qw_in 1715 (by decide +kernel) (by decide +kernel)
theorem qv_280 : Cond.instanceMethod yX10_search ∈ qw_G := qw_in 1717 (by decide +kernel) (by decide +kernel)
theorem qv_281 : Cond.selects RX10 yX10_search yX10_search ∈ qw_G := qw_in 84 (by decide +kernel) (by decide +kernel)
theorem qv_282 : Cond.code yX10_climb cX10_climb 6 (some .int) ∈ qw_G := qw_in 1730 (by decide +kernel) (by decide +kernel)
theorem qv_283 : Cond.methodLink RX10 322 yX10_climb ∈ qw_G := qw_in 1727 (by decide +kernel) (by decide +kernel)
theorem qv_284 : Cond.instanceMethod yX10_climb ∈ qw_G := qw_in 1729 (by decide +kernel) (by decide +kernel)
theorem qv_285 : Cond.selects RX10 yX10_climb yX10_climb ∈ qw_G := qw_in 87 (by decide +kernel) (by decide +kernel)
theorem qv_286 : Cond.code yX10_hashed cX10_hashed 2 (some .int) ∈ qw_G := qw_in 1738 (by decide +kernel) (by decide +kernel)
theorem qv_287 : Cond.methodLink RX10 325 yX10_hashed ∈ qw_G := qw_in 1735 (by decide +kernel) (by decide +kernel)
theorem qv_288 : Cond.instanceMethod yX10_hashed ∈ qw_G := qw_in 1737 (by decide +kernel) (by decide +kernel)
theorem qv_289 : Cond.selects RX10 yX10_hashed yX10_hashed ∈ qw_G := qw_in 89 (by decide +kernel) (by decide +kernel)
theorem qv_290 : Cond.code yX10_refusal cX10_refusal 2 (some .int) ∈ qw_G := qw_in 1650 (by decide +kernel) (by decide +kernel)
theorem qv_291 : Cond.methodLink RX10 328 yX10_refusal ∈ qw_G := qw_in 1647 (by decide +kernel) (by decide +kernel)
theorem qv_292 : Cond.instanceMethod yX10_refusal ∈ qw_G := qw_in 1649 (by decide +kernel) (by decide +kernel)
theorem qv_293 : Cond.selects RX10 yX10_refusal yX10_refusal ∈ qw_G := qw_in 69 (by decide +kernel) (by decide +kernel)
theorem qv_294 : Cond.code yX10_takeBuffer cX10_takeBuffer 1 none ∈ qw_G := qw_in 1702 (by decide +kernel) (by decide +kernel)
theorem qv_295 : Cond.methodLink RX10 331 yX10_takeBuffer ∈ qw_G := qw_in 1699 (by decide +kernel) (by decide +kernel)
theorem qv_296 : Cond.instanceMethod yX10_takeBuffer ∈ qw_G := qw_in 1701 (by decide +kernel) (by decide +kernel)
theorem qv_297 : Cond.selects RX10 yX10_takeBuffer yX10_takeBuffer ∈ qw_G := qw_in 80 (by decide +kernel) (by decide +kernel)
theorem qv_298 : Cond.code yX10_run cX10_run 2 (some .int) ∈ qw_G := qw_in 1706 (by decide +kernel) (by decide +kernel)
theorem qv_299 : Cond.methodLink RX10 334 yX10_run ∈ qw_G := qw_in 1703 (by decide +kernel) (by decide +kernel)
theorem qv_300 : Cond.instanceMethod yX10_run ∈ qw_G := qw_in 1705 (by decide +kernel) (by decide +kernel)
theorem qv_301 : Cond.selects RX10 yX10_run yX10_run ∈ qw_G := qw_in 81 (by decide +kernel) (by decide +kernel)
theorem qv_302 : Cond.code yX10_costOf cX10_costOf 5 (some .int) ∈ qw_G := qw_in 1754 (by decide +kernel) (by decide +kernel)
theorem qv_303 : Cond.methodLink RX10 337 yX10_costOf ∈ qw_G := qw_in 1751 (by decide +kernel) (by decide +kernel)
theorem qv_304 : Cond.instanceMethod yX10_costOf ∈ qw_G := qw_in 1753 (by decide +kernel) (by decide +kernel)
theorem qv_305 : Cond.selects RX10 yX10_costOf yX10_costOf ∈ qw_G := qw_in 90 (by decide +kernel) (by decide +kernel)
theorem qv_306 : Cond.methodLink RX10 182 Lib.Math.min.name ∈ qw_G := qw_in 1598 (by decide +kernel) (by decide +kernel)
theorem qv_307 : Cond.static Lib.Math.min.name ∈ qw_G := qw_in 544 (by decide +kernel) (by decide +kernel)
theorem qv_308 : Cond.initialized "java/lang/Math" ∈ qw_G := qw_in 103 (by decide +kernel) (by decide +kernel)
theorem qv_309 : Cond.code Lib.Math.min.name Lib.Math.min.code 2 (some .int) ∈ qw_G := qw_in 545 (by decide +kernel) (by decide +kernel)
theorem qv_310 : Cond.code yX10_hashOfText cX10_hashOfText 4 (some .int) ∈ qw_G := qw_in 1684 (by decide +kernel) (by decide +kernel)
theorem qv_311 : Cond.methodLink RX10 276 yX10_hashOfText ∈ qw_G := qw_in 1681 (by decide +kernel) (by decide +kernel)
theorem qv_312 : Cond.instanceMethod yX10_hashOfText ∈ qw_G := qw_in 1683 (by decide +kernel) (by decide +kernel)
theorem qv_313 : Cond.selects RX10 yX10_hashOfText yX10_hashOfText ∈ qw_G := qw_in 76 (by decide +kernel) (by decide +kernel)
theorem qv_314 : Cond.constantLong RX10 194 (4) ∈ qw_G := qw_in 1585 (by decide +kernel) (by decide +kernel)
theorem qv_315 : Cond.code yX10_hasTable cX10_hasTable 1 (some .boolean) ∈ qw_G := qw_in 1792 (by decide +kernel) (by decide +kernel)
theorem qv_316 : Cond.methodLink RX10 346 yX10_hasTable ∈ qw_G := qw_in 1789 (by decide +kernel) (by decide +kernel)
theorem qv_317 : Cond.instanceMethod yX10_hasTable ∈ qw_G := qw_in 1791 (by decide +kernel) (by decide +kernel)
theorem qv_318 : Cond.selects RX10 yX10_hasTable yX10_hasTable ∈ qw_G := qw_in 91 (by decide +kernel) (by decide +kernel)
theorem qv_319 : Cond.fieldLink RX10 359 (TX10 35).1 (TX10 35).2.1 (TX10 35).2.2.1 ∈ qw_G := qw_in 1384 (by decide +kernel) (by decide +kernel)
theorem qv_320 : Cond.code yX10_putTrees cX10_putTrees 3 none ∈ qw_G := qw_in 1841 (by decide +kernel) (by decide +kernel)
theorem qv_321 : Cond.methodLink RX10 378 yX10_putTrees ∈ qw_G := qw_in 1838 (by decide +kernel) (by decide +kernel)
theorem qv_322 : Cond.instanceMethod yX10_putTrees ∈ qw_G := qw_in 1840 (by decide +kernel) (by decide +kernel)
theorem qv_323 : Cond.selects RX10 yX10_putTrees yX10_putTrees ∈ qw_G := qw_in 96 (by decide +kernel) (by decide +kernel)
theorem qv_324 : Cond.code yX10_list cX10_list 3 none ∈ qw_G := qw_in 1825 (by decide +kernel) (by decide +kernel)
theorem qv_325 : Cond.methodLink RX10 384 yX10_list ∈ qw_G := qw_in 1822 (by decide +kernel) (by decide +kernel)
theorem qv_326 : Cond.instanceMethod yX10_list ∈ qw_G := qw_in 1824 (by decide +kernel) (by decide +kernel)
theorem qv_327 : Cond.selects RX10 yX10_list yX10_list ∈ qw_G := qw_in 92 (by decide +kernel) (by decide +kernel)
theorem qv_328 : Cond.constantLong RX10 387 (-1) ∈ qw_G := qw_in 1854 (by decide +kernel) (by decide +kernel)
theorem qv_329 : Cond.fieldLink RX10 389 (TX10 2).1 (TX10 2).2.1 (TX10 2).2.2.1 ∈ qw_G := qw_in 1351 (by decide +kernel) (by decide +kernel)
theorem qv_330 : Cond.methodLink RX0 3 Lib.objectInit ∈ qw_G := qw_in 206 (by decide +kernel) (by decide +kernel)
theorem qv_331 : Cond.fieldLink RX0 9 (TX0 0).1 (TX0 0).2.1 (TX0 0).2.2.1 ∈ qw_G := qw_in 209 (by decide +kernel) (by decide +kernel)
theorem qv_332 : Cond.fieldLink RX0 15 (TX0 1).1 (TX0 1).2.1 (TX0 1).2.2.1 ∈ qw_G := qw_in 210 (by decide +kernel) (by decide +kernel)
theorem qv_333 : Cond.fieldLink RX0 18 (TX0 2).1 (TX0 2).2.1 (TX0 2).2.2.1 ∈ qw_G := qw_in 211 (by decide +kernel) (by decide +kernel)
theorem qv_334 : Cond.fieldLink RX0 21 (TX0 3).1 (TX0 3).2.1 (TX0 3).2.2.1 ∈ qw_G := qw_in 212 (by decide +kernel) (by decide +kernel)
theorem qv_335 : Cond.fieldLink RX0 24 (TX0 4).1 (TX0 4).2.1 (TX0 4).2.2.1 ∈ qw_G := qw_in 213 (by decide +kernel) (by decide +kernel)
theorem qv_336 : Cond.classLink RX0 27 RX2 ∈ qw_G := qw_in 207 (by decide +kernel) (by decide +kernel)
theorem qv_337 : Cond.fieldLink RX0 30 (TX0 5).1 (TX0 5).2.1 (TX0 5).2.2.1 ∈ qw_G := qw_in 214 (by decide +kernel) (by decide +kernel)
theorem qv_338 : Cond.fieldLink RX0 34 (TX0 6).1 (TX0 6).2.1 (TX0 6).2.2.1 ∈ qw_G := qw_in 215 (by decide +kernel) (by decide +kernel)
theorem qv_339 : Cond.fieldLink RX0 38 (TX0 7).1 (TX0 7).2.1 (TX0 7).2.2.1 ∈ qw_G := qw_in 217 (by decide +kernel) (by decide +kernel)
theorem qv_340 : Cond.fieldLink RX0 41 (TX0 8).1 (TX0 8).2.1 (TX0 8).2.2.1 ∈ qw_G := qw_in 218 (by decide +kernel) (by decide +kernel)
theorem qv_341 : Cond.code yX0_readCommand cX0_readCommand 3 (some .boolean) ∈ qw_G := qw_in 1007 (by decide +kernel) (by decide +kernel)
theorem qv_342 : Cond.methodLink RX0 44 yX0_readCommand ∈ qw_G := qw_in 1004 (by decide +kernel) (by decide +kernel)
theorem qv_343 : Cond.instanceMethod yX0_readCommand ∈ qw_G := qw_in 1006 (by decide +kernel) (by decide +kernel)
theorem qv_344 : Cond.selects RX0 yX0_readCommand yX0_readCommand ∈ qw_G := qw_in 28 (by decide +kernel) (by decide +kernel)
theorem qv_345 : Cond.code yX9_put cX9_put 3 none ∈ qw_G := qw_in 552 (by decide +kernel) (by decide +kernel)
theorem qv_346 : Cond.static yX9_put ∈ qw_G := qw_in 551 (by decide +kernel) (by decide +kernel)
theorem qv_347 : Cond.code yX0_readWord cX0_readWord 3 (some .int) ∈ qw_G := qw_in 1012 (by decide +kernel) (by decide +kernel)
theorem qv_348 : Cond.methodLink RX0 61 yX0_readWord ∈ qw_G := qw_in 1009 (by decide +kernel) (by decide +kernel)
theorem qv_349 : Cond.instanceMethod yX0_readWord ∈ qw_G := qw_in 1011 (by decide +kernel) (by decide +kernel)
theorem qv_350 : Cond.selects RX0 yX0_readWord yX0_readWord ∈ qw_G := qw_in 29 (by decide +kernel) (by decide +kernel)
theorem qv_351 : Cond.fieldLink RX0 48 (TX8 1).1 (TX8 1).2.1 (TX8 1).2.2.1 ∈ qw_G := qw_in 148 (by decide +kernel) (by decide +kernel)
theorem qv_352 : Cond.code yX0_isWord cX0_isWord 5 (some .boolean) ∈ qw_G := qw_in 1019 (by decide +kernel) (by decide +kernel)
theorem qv_353 : Cond.methodLink RX0 85 yX0_isWord ∈ qw_G := qw_in 1016 (by decide +kernel) (by decide +kernel)
theorem qv_354 : Cond.instanceMethod yX0_isWord ∈ qw_G := qw_in 1018 (by decide +kernel) (by decide +kernel)
theorem qv_355 : Cond.selects RX0 yX0_isWord yX0_isWord ∈ qw_G := qw_in 30 (by decide +kernel) (by decide +kernel)
theorem qv_356 : Cond.methodLink RX1 3 Lib.objectInit ∈ qw_G := qw_in 259 (by decide +kernel) (by decide +kernel)
theorem qv_357 : Cond.fieldLink RX1 9 (TX1 1).1 (TX1 1).2.1 (TX1 1).2.2.1 ∈ qw_G := qw_in 261 (by decide +kernel) (by decide +kernel)
theorem qv_358 : Cond.fieldLink RX1 15 (TX1 2).1 (TX1 2).2.1 (TX1 2).2.2.1 ∈ qw_G := qw_in 262 (by decide +kernel) (by decide +kernel)
theorem qv_359 : Cond.fieldLink RX1 18 (TX1 3).1 (TX1 3).2.1 (TX1 3).2.2.1 ∈ qw_G := qw_in 263 (by decide +kernel) (by decide +kernel)
theorem qv_360 : Cond.fieldLink RX1 21 (TX1 4).1 (TX1 4).2.1 (TX1 4).2.2.1 ∈ qw_G := qw_in 264 (by decide +kernel) (by decide +kernel)
theorem qv_361 : Cond.fieldLink RX1 24 (TX1 5).1 (TX1 5).2.1 (TX1 5).2.2.1 ∈ qw_G := qw_in 266 (by decide +kernel) (by decide +kernel)
theorem qv_362 : Cond.fieldLink RX1 27 (TX1 6).1 (TX1 6).2.1 (TX1 6).2.2.1 ∈ qw_G := qw_in 267 (by decide +kernel) (by decide +kernel)
theorem qv_363 : Cond.fieldLink RX1 30 (TX1 7).1 (TX1 7).2.1 (TX1 7).2.2.1 ∈ qw_G := qw_in 270 (by decide +kernel) (by decide +kernel)
theorem qv_364 : Cond.fieldLink RX1 33 (TX1 8).1 (TX1 8).2.1 (TX1 8).2.2.1 ∈ qw_G := qw_in 272 (by decide +kernel) (by decide +kernel)
theorem qv_365 : Cond.fieldLink RX1 36 (TX1 9).1 (TX1 9).2.1 (TX1 9).2.2.1 ∈ qw_G := qw_in 274 (by decide +kernel) (by decide +kernel)
theorem qv_366 : Cond.fieldLink RX1 40 (TX1 10).1 (TX1 10).2.1 (TX1 10).2.2.1 ∈ qw_G := qw_in 276 (by decide +kernel) (by decide +kernel)
theorem qv_367 : Cond.fieldLink RX1 43 (TX1 11).1 (TX1 11).2.1 (TX1 11).2.2.1 ∈ qw_G := qw_in 279 (by decide +kernel) (by decide +kernel)
theorem qv_368 : Cond.fieldLink RX1 46 (TX1 12).1 (TX1 12).2.1 (TX1 12).2.2.1 ∈ qw_G := qw_in 281 (by decide +kernel) (by decide +kernel)
theorem qv_369 : Cond.fieldLink RX1 49 (TX1 0).1 (TX1 0).2.1 (TX1 0).2.2.1 ∈ qw_G := qw_in 260 (by decide +kernel) (by decide +kernel)
theorem qv_370 : Cond.code yX1_plantRoots cX1_plantRoots 5 none ∈ qw_G := qw_in 560 (by decide +kernel) (by decide +kernel)
theorem qv_371 : Cond.methodLink RX1 53 yX1_plantRoots ∈ qw_G := qw_in 557 (by decide +kernel) (by decide +kernel)
theorem qv_372 : Cond.instanceMethod yX1_plantRoots ∈ qw_G := qw_in 559 (by decide +kernel) (by decide +kernel)
theorem qv_373 : Cond.selects RX1 yX1_plantRoots yX1_plantRoots ∈ qw_G := qw_in 1 (by decide +kernel) (by decide +kernel)
theorem qv_374 : Cond.code yX1_treeWith cX1_treeWith 5 (some .int) ∈ qw_G := qw_in 724 (by decide +kernel) (by decide +kernel)
theorem qv_375 : Cond.methodLink RX1 74 yX1_treeWith ∈ qw_G := qw_in 721 (by decide +kernel) (by decide +kernel)
theorem qv_376 : Cond.instanceMethod yX1_treeWith ∈ qw_G := qw_in 723 (by decide +kernel) (by decide +kernel)
theorem qv_377 : Cond.selects RX1 yX1_treeWith yX1_treeWith ∈ qw_G := qw_in 21 (by decide +kernel) (by decide +kernel)
theorem qv_378 : Cond.fieldLink RX1 82 (TX2 4).1 (TX2 4).2.1 (TX2 4).2.2.1 ∈ qw_G := qw_in 180 (by decide +kernel) (by decide +kernel)
theorem qv_379 : Cond.methodLink RX2 3 Lib.objectInit ∈ qw_G := qw_in 163 (by decide +kernel) (by decide +kernel)
theorem qv_380 : Cond.fieldLink RX2 9 (TX2 0).1 (TX2 0).2.1 (TX2 0).2.2.1 ∈ qw_G := qw_in 164 (by decide +kernel) (by decide +kernel)
theorem qv_381 : Cond.fieldLink RX2 15 (TX2 1).1 (TX2 1).2.1 (TX2 1).2.2.1 ∈ qw_G := qw_in 165 (by decide +kernel) (by decide +kernel)
theorem qv_382 : Cond.fieldLink RX2 18 (TX2 2).1 (TX2 2).2.1 (TX2 2).2.2.1 ∈ qw_G := qw_in 166 (by decide +kernel) (by decide +kernel)
theorem qv_383 : Cond.fieldLink RX2 21 (TX2 3).1 (TX2 3).2.1 (TX2 3).2.2.1 ∈ qw_G := qw_in 169 (by decide +kernel) (by decide +kernel)
theorem qv_384 : Cond.fieldLink RX2 24 (TX2 4).1 (TX2 4).2.1 (TX2 4).2.2.1 ∈ qw_G := qw_in 173 (by decide +kernel) (by decide +kernel)
theorem qv_385 : Cond.fieldLink RX2 28 (TX2 5).1 (TX2 5).2.1 (TX2 5).2.2.1 ∈ qw_G := qw_in 181 (by decide +kernel) (by decide +kernel)
theorem qv_386 : Cond.fieldLink RX2 31 (TX2 6).1 (TX2 6).2.1 (TX2 6).2.2.1 ∈ qw_G := qw_in 184 (by decide +kernel) (by decide +kernel)
theorem qv_387 : Cond.code yX9_copy cX9_copy 3 none ∈ qw_G := qw_in 768 (by decide +kernel) (by decide +kernel)
theorem qv_388 : Cond.static yX9_copy ∈ qw_G := qw_in 767 (by decide +kernel) (by decide +kernel)
theorem qv_389 : Cond.methodLink RX3 3 Lib.objectInit ∈ qw_G := qw_in 443 (by decide +kernel) (by decide +kernel)
theorem qv_390 : Cond.classLink RX3 9 RX8 ∈ qw_G := qw_in 444 (by decide +kernel) (by decide +kernel)
theorem qv_391 : Cond.methodLink RX3 13 yX8_init ∈ qw_G := qw_in 445 (by decide +kernel) (by decide +kernel)
theorem qv_392 : Cond.fieldLink RX3 16 (TX3 4).1 (TX3 4).2.1 (TX3 4).2.2.1 ∈ qw_G := qw_in 450 (by decide +kernel) (by decide +kernel)
theorem qv_393 : Cond.fieldLink RX3 20 (TX3 0).1 (TX3 0).2.1 (TX3 0).2.2.1 ∈ qw_G := qw_in 446 (by decide +kernel) (by decide +kernel)
theorem qv_394 : Cond.fieldLink RX3 24 (TX3 1).1 (TX3 1).2.1 (TX3 1).2.2.1 ∈ qw_G := qw_in 447 (by decide +kernel) (by decide +kernel)
theorem qv_395 : Cond.fieldLink RX3 28 (TX3 2).1 (TX3 2).2.1 (TX3 2).2.2.1 ∈ qw_G := qw_in 448 (by decide +kernel) (by decide +kernel)
theorem qv_396 : Cond.fieldLink RX3 32 (TX3 3).1 (TX3 3).2.1 (TX3 3).2.2.1 ∈ qw_G := qw_in 449 (by decide +kernel) (by decide +kernel)
theorem qv_397 : Cond.methodLink RX3 36 yX8_empty ∈ qw_G := qw_in 1298 (by decide +kernel) (by decide +kernel)
theorem qv_398 : Cond.code yX3_listKeys cX3_listKeys 3 none ∈ qw_G := qw_in 1302 (by decide +kernel) (by decide +kernel)
theorem qv_399 : Cond.methodLink RX3 39 yX3_listKeys ∈ qw_G := qw_in 1299 (by decide +kernel) (by decide +kernel)
theorem qv_400 : Cond.instanceMethod yX3_listKeys ∈ qw_G := qw_in 1301 (by decide +kernel) (by decide +kernel)
theorem qv_401 : Cond.selects RX3 yX3_listKeys yX3_listKeys ∈ qw_G := qw_in 41 (by decide +kernel) (by decide +kernel)
theorem qv_402 : Cond.code yX3_listForest cX3_listForest 2 none ∈ qw_G := qw_in 1322 (by decide +kernel) (by decide +kernel)
theorem qv_403 : Cond.methodLink RX3 43 yX3_listForest ∈ qw_G := qw_in 1319 (by decide +kernel) (by decide +kernel)
theorem qv_404 : Cond.instanceMethod yX3_listForest ∈ qw_G := qw_in 1321 (by decide +kernel) (by decide +kernel)
theorem qv_405 : Cond.selects RX3 yX3_listForest yX3_listForest ∈ qw_G := qw_in 44 (by decide +kernel) (by decide +kernel)
theorem qv_406 : Cond.fieldLink RX3 69 (TX2 4).1 (TX2 4).2.1 (TX2 4).2.2.1 ∈ qw_G := qw_in 179 (by decide +kernel) (by decide +kernel)
theorem qv_407 : Cond.fieldLink RX3 85 (TX1 10).1 (TX1 10).2.1 (TX1 10).2.2.1 ∈ qw_G := qw_in 277 (by decide +kernel) (by decide +kernel)
theorem qv_408 : Cond.methodLink RX4 3 Lib.objectInit ∈ qw_G := qw_in 244 (by decide +kernel) (by decide +kernel)
theorem qv_409 : Cond.fieldLink RX4 9 (TX4 1).1 (TX4 1).2.1 (TX4 1).2.2.1 ∈ qw_G := qw_in 246 (by decide +kernel) (by decide +kernel)
theorem qv_410 : Cond.fieldLink RX4 15 (TX4 0).1 (TX4 0).2.1 (TX4 0).2.2.1 ∈ qw_G := qw_in 245 (by decide +kernel) (by decide +kernel)
theorem qv_411 : Cond.fieldLink RX4 19 (TX2 4).1 (TX2 4).2.1 (TX2 4).2.2.1 ∈ qw_G := qw_in 174 (by decide +kernel) (by decide +kernel)
theorem qv_412 : Cond.methodLink RX5 3 Lib.objectInit ∈ qw_G := qw_in 403 (by decide +kernel) (by decide +kernel)
theorem qv_413 : Cond.classLink RX5 9 RX8 ∈ qw_G := qw_in 404 (by decide +kernel) (by decide +kernel)
theorem qv_414 : Cond.methodLink RX5 11 yX8_init ∈ qw_G := qw_in 405 (by decide +kernel) (by decide +kernel)
theorem qv_415 : Cond.fieldLink RX5 14 (TX5 4).1 (TX5 4).2.1 (TX5 4).2.2.1 ∈ qw_G := qw_in 410 (by decide +kernel) (by decide +kernel)
theorem qv_416 : Cond.fieldLink RX5 20 (TX5 5).1 (TX5 5).2.1 (TX5 5).2.2.1 ∈ qw_G := qw_in 411 (by decide +kernel) (by decide +kernel)
theorem qv_417 : Cond.fieldLink RX5 24 (TX5 6).1 (TX5 6).2.1 (TX5 6).2.2.1 ∈ qw_G := qw_in 413 (by decide +kernel) (by decide +kernel)
theorem qv_418 : Cond.fieldLink RX5 27 (TX5 7).1 (TX5 7).2.1 (TX5 7).2.2.1 ∈ qw_G := qw_in 415 (by decide +kernel) (by decide +kernel)
theorem qv_419 : Cond.fieldLink RX5 30 (TX5 8).1 (TX5 8).2.1 (TX5 8).2.2.1 ∈ qw_G := qw_in 417 (by decide +kernel) (by decide +kernel)
theorem qv_420 : Cond.fieldLink RX5 33 (TX5 0).1 (TX5 0).2.1 (TX5 0).2.2.1 ∈ qw_G := qw_in 406 (by decide +kernel) (by decide +kernel)
theorem qv_421 : Cond.fieldLink RX5 37 (TX5 1).1 (TX5 1).2.1 (TX5 1).2.2.1 ∈ qw_G := qw_in 407 (by decide +kernel) (by decide +kernel)
theorem qv_422 : Cond.fieldLink RX5 41 (TX5 2).1 (TX5 2).2.1 (TX5 2).2.2.1 ∈ qw_G := qw_in 408 (by decide +kernel) (by decide +kernel)
theorem qv_423 : Cond.fieldLink RX5 45 (TX5 3).1 (TX5 3).2.1 (TX5 3).2.2.1 ∈ qw_G := qw_in 409 (by decide +kernel) (by decide +kernel)
theorem qv_424 : Cond.code yX5_runLinear cX5_runLinear 3 none ∈ qw_G := qw_in 695 (by decide +kernel) (by decide +kernel)
theorem qv_425 : Cond.methodLink RX5 49 yX5_runLinear ∈ qw_G := qw_in 692 (by decide +kernel) (by decide +kernel)
theorem qv_426 : Cond.instanceMethod yX5_runLinear ∈ qw_G := qw_in 694 (by decide +kernel) (by decide +kernel)
theorem qv_427 : Cond.selects RX5 yX5_runLinear yX5_runLinear ∈ qw_G := qw_in 16 (by decide +kernel) (by decide +kernel)
theorem qv_428 : Cond.code yX5_runBinary cX5_runBinary 10 none ∈ qw_G := qw_in 711 (by decide +kernel) (by decide +kernel)
theorem qv_429 : Cond.methodLink RX5 53 yX5_runBinary ∈ qw_G := qw_in 708 (by decide +kernel) (by decide +kernel)
theorem qv_430 : Cond.instanceMethod yX5_runBinary ∈ qw_G := qw_in 710 (by decide +kernel) (by decide +kernel)
theorem qv_431 : Cond.selects RX5 yX5_runBinary yX5_runBinary ∈ qw_G := qw_in 19 (by decide +kernel) (by decide +kernel)
theorem qv_432 : Cond.code yX5_runTrees cX5_runTrees 6 none ∈ qw_G := qw_in 716 (by decide +kernel) (by decide +kernel)
theorem qv_433 : Cond.methodLink RX5 56 yX5_runTrees ∈ qw_G := qw_in 713 (by decide +kernel) (by decide +kernel)
theorem qv_434 : Cond.instanceMethod yX5_runTrees ∈ qw_G := qw_in 715 (by decide +kernel) (by decide +kernel)
theorem qv_435 : Cond.selects RX5 yX5_runTrees yX5_runTrees ∈ qw_G := qw_in 20 (by decide +kernel) (by decide +kernel)
theorem qv_436 : Cond.code yX5_runTable cX5_runTable 3 none ∈ qw_G := qw_in 739 (by decide +kernel) (by decide +kernel)
theorem qv_437 : Cond.methodLink RX5 59 yX5_runTable ∈ qw_G := qw_in 736 (by decide +kernel) (by decide +kernel)
theorem qv_438 : Cond.instanceMethod yX5_runTable ∈ qw_G := qw_in 738 (by decide +kernel) (by decide +kernel)
theorem qv_439 : Cond.selects RX5 yX5_runTable yX5_runTable ∈ qw_G := qw_in 23 (by decide +kernel) (by decide +kernel)
theorem qv_440 : Cond.fieldLink RX5 62 (TX2 4).1 (TX2 4).2.1 (TX2 4).2.2.1 ∈ qw_G := qw_in 176 (by decide +kernel) (by decide +kernel)
theorem qv_441 : Cond.fieldLink RX5 92 (TX8 1).1 (TX8 1).2.1 (TX8 1).2.2.1 ∈ qw_G := qw_in 150 (by decide +kernel) (by decide +kernel)
theorem qv_442 : Cond.code yX1_rootWith cX1_rootWith 2 (some .int) ∈ qw_G := qw_in 720 (by decide +kernel) (by decide +kernel)
theorem qv_443 : Cond.methodLink RX5 121 yX1_rootWith ∈ qw_G := qw_in 717 (by decide +kernel) (by decide +kernel)
theorem qv_444 : Cond.instanceMethod yX1_rootWith ∈ qw_G := qw_in 718 (by decide +kernel) (by decide +kernel)
theorem qv_445 : Cond.selects RX1 yX1_rootWith yX1_rootWith ∈ qw_G := qw_in 719 (by decide +kernel) (by decide +kernel)
theorem qv_446 : Cond.fieldLink RX5 147 (TX7 12).1 (TX7 12).2.1 (TX7 12).2.2.1 ∈ qw_G := qw_in 366 (by decide +kernel) (by decide +kernel)
theorem qv_447 : Cond.methodLink RX6 3 Lib.objectInit ∈ qw_G := qw_in 315 (by decide +kernel) (by decide +kernel)
theorem qv_448 : Cond.fieldLink RX6 9 (TX6 1).1 (TX6 1).2.1 (TX6 1).2.2.1 ∈ qw_G := qw_in 317 (by decide +kernel) (by decide +kernel)
theorem qv_449 : Cond.fieldLink RX6 15 (TX6 2).1 (TX6 2).2.1 (TX6 2).2.2.1 ∈ qw_G := qw_in 318 (by decide +kernel) (by decide +kernel)
theorem qv_450 : Cond.fieldLink RX6 19 (TX6 3).1 (TX6 3).2.1 (TX6 3).2.2.1 ∈ qw_G := qw_in 319 (by decide +kernel) (by decide +kernel)
theorem qv_451 : Cond.fieldLink RX6 22 (TX6 0).1 (TX6 0).2.1 (TX6 0).2.2.1 ∈ qw_G := qw_in 316 (by decide +kernel) (by decide +kernel)
theorem qv_452 : Cond.code yX6_collectPairs cX6_collectPairs 3 none ∈ qw_G := qw_in 603 (by decide +kernel) (by decide +kernel)
theorem qv_453 : Cond.methodLink RX6 26 yX6_collectPairs ∈ qw_G := qw_in 600 (by decide +kernel) (by decide +kernel)
theorem qv_454 : Cond.instanceMethod yX6_collectPairs ∈ qw_G := qw_in 602 (by decide +kernel) (by decide +kernel)
theorem qv_455 : Cond.selects RX6 yX6_collectPairs yX6_collectPairs ∈ qw_G := qw_in 7 (by decide +kernel) (by decide +kernel)
theorem qv_456 : Cond.code yJ6_bitCount_0f7a4 cJ6_bitCount_0f7a4 1 (some .int) ∈ qw_G := qw_in 612 (by decide +kernel) (by decide +kernel)
theorem qv_457 : Cond.methodLink RX6 29 yJ6_bitCount_0f7a4 ∈ qw_G := qw_in 610 (by decide +kernel) (by decide +kernel)
theorem qv_458 : Cond.initialized RJ6 ∈ qw_G := qw_in 125 (by decide +kernel) (by decide +kernel)
theorem qv_459 : Cond.static yJ6_bitCount_0f7a4 ∈ qw_G := qw_in 611 (by decide +kernel) (by decide +kernel)
theorem qv_460 : Cond.code yX6_turned cX6_turned 3 (some .int) ∈ qw_G := qw_in 618 (by decide +kernel) (by decide +kernel)
theorem qv_461 : Cond.methodLink RX6 35 yX6_turned ∈ qw_G := qw_in 616 (by decide +kernel) (by decide +kernel)
theorem qv_462 : Cond.static yX6_turned ∈ qw_G := qw_in 617 (by decide +kernel) (by decide +kernel)
theorem qv_463 : Cond.code yX6_separates cX6_separates 3 (some .boolean) ∈ qw_G := qw_in 625 (by decide +kernel) (by decide +kernel)
theorem qv_464 : Cond.methodLink RX6 38 yX6_separates ∈ qw_G := qw_in 622 (by decide +kernel) (by decide +kernel)
theorem qv_465 : Cond.instanceMethod yX6_separates ∈ qw_G := qw_in 624 (by decide +kernel) (by decide +kernel)
theorem qv_466 : Cond.selects RX6 yX6_separates yX6_separates ∈ qw_G := qw_in 8 (by decide +kernel) (by decide +kernel)
theorem qv_467 : Cond.code yX9_contains cX9_contains 2 (some .boolean) ∈ qw_G := qw_in 621 (by decide +kernel) (by decide +kernel)
theorem qv_468 : Cond.static yX9_contains ∈ qw_G := qw_in 620 (by decide +kernel) (by decide +kernel)
theorem qv_469 : Cond.fieldLink RX6 46 (TX2 4).1 (TX2 4).2.1 (TX2 4).2.2.1 ∈ qw_G := qw_in 177 (by decide +kernel) (by decide +kernel)
theorem qv_470 : Cond.fieldLink RX6 66 (TX8 1).1 (TX8 1).2.1 (TX8 1).2.2.1 ∈ qw_G := qw_in 151 (by decide +kernel) (by decide +kernel)
theorem qv_471 : Cond.constant RX6 74 (739982445) ∈ qw_G := qw_in 657 (by decide +kernel) (by decide +kernel)
theorem qv_472 : Cond.methodLink RX7 3 Lib.objectInit ∈ qw_G := qw_in 337 (by decide +kernel) (by decide +kernel)
theorem qv_473 : Cond.classLink RX7 9 RX8 ∈ qw_G := qw_in 338 (by decide +kernel) (by decide +kernel)
theorem qv_474 : Cond.methodLink RX7 11 yX8_init ∈ qw_G := qw_in 339 (by decide +kernel) (by decide +kernel)
theorem qv_475 : Cond.fieldLink RX7 14 (TX7 2).1 (TX7 2).2.1 (TX7 2).2.2.1 ∈ qw_G := qw_in 344 (by decide +kernel) (by decide +kernel)
theorem qv_476 : Cond.fieldLink RX7 20 (TX7 3).1 (TX7 3).2.1 (TX7 3).2.2.1 ∈ qw_G := qw_in 345 (by decide +kernel) (by decide +kernel)
theorem qv_477 : Cond.fieldLink RX7 24 (TX7 4).1 (TX7 4).2.1 (TX7 4).2.2.1 ∈ qw_G := qw_in 346 (by decide +kernel) (by decide +kernel)
theorem qv_478 : Cond.fieldLink RX7 27 (TX7 5).1 (TX7 5).2.1 (TX7 5).2.2.1 ∈ qw_G := qw_in 347 (by decide +kernel) (by decide +kernel)
theorem qv_479 : Cond.fieldLink RX7 30 (TX7 6).1 (TX7 6).2.1 (TX7 6).2.2.1 ∈ qw_G := qw_in 348 (by decide +kernel) (by decide +kernel)
theorem qv_480 : Cond.fieldLink RX7 33 (TX7 7).1 (TX7 7).2.1 (TX7 7).2.2.1 ∈ qw_G := qw_in 350 (by decide +kernel) (by decide +kernel)
theorem qv_481 : Cond.fieldLink RX7 36 (TX7 8).1 (TX7 8).2.1 (TX7 8).2.2.1 ∈ qw_G := qw_in 353 (by decide +kernel) (by decide +kernel)
theorem qv_482 : Cond.fieldLink RX7 39 (TX7 9).1 (TX7 9).2.1 (TX7 9).2.2.1 ∈ qw_G := qw_in 356 (by decide +kernel) (by decide +kernel)
theorem qv_483 : Cond.fieldLink RX7 43 (TX7 10).1 (TX7 10).2.1 (TX7 10).2.2.1 ∈ qw_G := qw_in 359 (by decide +kernel) (by decide +kernel)
theorem qv_484 : Cond.fieldLink RX7 46 (TX7 11).1 (TX7 11).2.1 (TX7 11).2.2.1 ∈ qw_G := qw_in 362 (by decide +kernel) (by decide +kernel)
theorem qv_485 : Cond.fieldLink RX7 49 (TX7 12).1 (TX7 12).2.1 (TX7 12).2.2.1 ∈ qw_G := qw_in 365 (by decide +kernel) (by decide +kernel)
theorem qv_486 : Cond.fieldLink RX7 53 (TX7 13).1 (TX7 13).2.1 (TX7 13).2.2.1 ∈ qw_G := qw_in 368 (by decide +kernel) (by decide +kernel)
theorem qv_487 : Cond.fieldLink RX7 57 (TX7 0).1 (TX7 0).2.1 (TX7 0).2.2.1 ∈ qw_G := qw_in 340 (by decide +kernel) (by decide +kernel)
theorem qv_488 : Cond.fieldLink RX7 61 (TX7 1).1 (TX7 1).2.1 (TX7 1).2.2.1 ∈ qw_G := qw_in 341 (by decide +kernel) (by decide +kernel)
theorem qv_489 : Cond.fieldLink RX7 65 (TX2 5).1 (TX2 5).2.1 (TX2 5).2.2.1 ∈ qw_G := qw_in 182 (by decide +kernel) (by decide +kernel)
theorem qv_490 : Cond.fieldLink RX7 70 (TX2 4).1 (TX2 4).2.1 (TX2 4).2.2.1 ∈ qw_G := qw_in 175 (by decide +kernel) (by decide +kernel)
theorem qv_491 : Cond.methodLink RX8 3 Lib.objectInit ∈ qw_G := qw_in 142 (by decide +kernel) (by decide +kernel)
theorem qv_492 : Cond.fieldLink RX8 9 (TX8 1).1 (TX8 1).2.1 (TX8 1).2.2.1 ∈ qw_G := qw_in 147 (by decide +kernel) (by decide +kernel)
theorem qv_493 : Cond.methodLink RX8 15 Lib.Math.max.name ∈ qw_G := qw_in 143 (by decide +kernel) (by decide +kernel)
theorem qv_494 : Cond.static Lib.Math.max.name ∈ qw_G := qw_in 144 (by decide +kernel) (by decide +kernel)
theorem qv_495 : Cond.code Lib.Math.max.name Lib.Math.max.code 2 (some .int) ∈ qw_G := qw_in 145 (by decide +kernel) (by decide +kernel)
theorem qv_496 : Cond.fieldLink RX8 21 (TX8 0).1 (TX8 0).2.1 (TX8 0).2.2.1 ∈ qw_G := qw_in 146 (by decide +kernel) (by decide +kernel)
theorem qv_497 : Cond.code yX9_append cX9_append 5 (some .int) ∈ qw_G := qw_in 777 (by decide +kernel) (by decide +kernel)
theorem qv_498 : Cond.methodLink RL 7 yX9_append ∈ qw_G := qw_in 774 (by decide +kernel) (by decide +kernel)
theorem qv_499 : Cond.instanceMethod yX9_append ∈ qw_G := qw_in 775 (by decide +kernel) (by decide +kernel)
theorem qv_500 : Cond.selects RX9 yX9_append yX9_append ∈ qw_G := qw_in 776 (by decide +kernel) (by decide +kernel)
theorem qv_501 : Cond.code yX9_add cX9_add 2 (some .int) ∈ qw_G := qw_in 871 (by decide +kernel) (by decide +kernel)
theorem qv_502 : Cond.methodLink RL 17 yX9_add ∈ qw_G := qw_in 868 (by decide +kernel) (by decide +kernel)
theorem qv_503 : Cond.instanceMethod yX9_add ∈ qw_G := qw_in 869 (by decide +kernel) (by decide +kernel)
theorem qv_504 : Cond.selects RX9 yX9_add yX9_add ∈ qw_G := qw_in 870 (by decide +kernel) (by decide +kernel)
theorem qv_505 : Cond.code yX9_remove cX9_remove 2 (some .int) ∈ qw_G := qw_in 937 (by decide +kernel) (by decide +kernel)
theorem qv_506 : Cond.methodLink RL 20 yX9_remove ∈ qw_G := qw_in 934 (by decide +kernel) (by decide +kernel)
theorem qv_507 : Cond.instanceMethod yX9_remove ∈ qw_G := qw_in 935 (by decide +kernel) (by decide +kernel)
theorem qv_508 : Cond.selects RX9 yX9_remove yX9_remove ∈ qw_G := qw_in 936 (by decide +kernel) (by decide +kernel)
theorem qv_509 : Cond.code yX9_setBranch cX9_setBranch 4 (some .int) ∈ qw_G := qw_in 970 (by decide +kernel) (by decide +kernel)
theorem qv_510 : Cond.methodLink RL 25 yX9_setBranch ∈ qw_G := qw_in 967 (by decide +kernel) (by decide +kernel)
theorem qv_511 : Cond.instanceMethod yX9_setBranch ∈ qw_G := qw_in 968 (by decide +kernel) (by decide +kernel)
theorem qv_512 : Cond.selects RX9 yX9_setBranch yX9_setBranch ∈ qw_G := qw_in 969 (by decide +kernel) (by decide +kernel)
theorem qv_513 : Cond.code yX9_setWeight cX9_setWeight 4 (some .int) ∈ qw_G := qw_in 979 (by decide +kernel) (by decide +kernel)
theorem qv_514 : Cond.methodLink RL 29 yX9_setWeight ∈ qw_G := qw_in 976 (by decide +kernel) (by decide +kernel)
theorem qv_515 : Cond.instanceMethod yX9_setWeight ∈ qw_G := qw_in 977 (by decide +kernel) (by decide +kernel)
theorem qv_516 : Cond.selects RX9 yX9_setWeight yX9_setWeight ∈ qw_G := qw_in 978 (by decide +kernel) (by decide +kernel)
theorem qv_517 : Cond.code yX9_setLoad cX9_setLoad 3 (some .int) ∈ qw_G := qw_in 987 (by decide +kernel) (by decide +kernel)
theorem qv_518 : Cond.methodLink RL 32 yX9_setLoad ∈ qw_G := qw_in 984 (by decide +kernel) (by decide +kernel)
theorem qv_519 : Cond.instanceMethod yX9_setLoad ∈ qw_G := qw_in 985 (by decide +kernel) (by decide +kernel)
theorem qv_520 : Cond.selects RX9 yX9_setLoad yX9_setLoad ∈ qw_G := qw_in 986 (by decide +kernel) (by decide +kernel)
theorem qv_521 : Cond.code yX9_execute cX9_execute 3 (some .int) ∈ qw_G := qw_in 999 (by decide +kernel) (by decide +kernel)
theorem qv_522 : Cond.methodLink RL 35 yX9_execute ∈ qw_G := qw_in 996 (by decide +kernel) (by decide +kernel)
theorem qv_523 : Cond.instanceMethod yX9_execute ∈ qw_G := qw_in 997 (by decide +kernel) (by decide +kernel)
theorem qv_524 : Cond.selects RX9 yX9_execute yX9_execute ∈ qw_G := qw_in 998 (by decide +kernel) (by decide +kernel)
theorem qv_525 : Cond.code yX9_property cX9_property 3 (some .int) ∈ qw_G := qw_in 1123 (by decide +kernel) (by decide +kernel)
theorem qv_526 : Cond.methodLink RL 39 yX9_property ∈ qw_G := qw_in 1120 (by decide +kernel) (by decide +kernel)
theorem qv_527 : Cond.instanceMethod yX9_property ∈ qw_G := qw_in 1121 (by decide +kernel) (by decide +kernel)
theorem qv_528 : Cond.selects RX9 yX9_property yX9_property ∈ qw_G := qw_in 1122 (by decide +kernel) (by decide +kernel)
theorem qv_529 : Cond.code yX9_character cX9_character 3 (some .int) ∈ qw_G := qw_in 1139 (by decide +kernel) (by decide +kernel)
theorem qv_530 : Cond.methodLink RL 42 yX9_character ∈ qw_G := qw_in 1136 (by decide +kernel) (by decide +kernel)
theorem qv_531 : Cond.instanceMethod yX9_character ∈ qw_G := qw_in 1137 (by decide +kernel) (by decide +kernel)
theorem qv_532 : Cond.selects RX9 yX9_character yX9_character ∈ qw_G := qw_in 1138 (by decide +kernel) (by decide +kernel)
theorem qv_533 : Cond.code yX9_difference cX9_difference 3 (some .int) ∈ qw_G := qw_in 1148 (by decide +kernel) (by decide +kernel)
theorem qv_534 : Cond.methodLink RL 45 yX9_difference ∈ qw_G := qw_in 1145 (by decide +kernel) (by decide +kernel)
theorem qv_535 : Cond.instanceMethod yX9_difference ∈ qw_G := qw_in 1146 (by decide +kernel) (by decide +kernel)
theorem qv_536 : Cond.selects RX9 yX9_difference yX9_difference ∈ qw_G := qw_in 1147 (by decide +kernel) (by decide +kernel)
theorem qv_537 : Cond.code yX9_size cX9_size 2 (some .int) ∈ qw_G := qw_in 1157 (by decide +kernel) (by decide +kernel)
theorem qv_538 : Cond.methodLink RL 48 yX9_size ∈ qw_G := qw_in 1154 (by decide +kernel) (by decide +kernel)
theorem qv_539 : Cond.instanceMethod yX9_size ∈ qw_G := qw_in 1155 (by decide +kernel) (by decide +kernel)
theorem qv_540 : Cond.selects RX9 yX9_size yX9_size ∈ qw_G := qw_in 1156 (by decide +kernel) (by decide +kernel)
theorem qv_541 : Cond.code yX9_find cX9_find 2 (some .int) ∈ qw_G := qw_in 1165 (by decide +kernel) (by decide +kernel)
theorem qv_542 : Cond.methodLink RL 51 yX9_find ∈ qw_G := qw_in 1162 (by decide +kernel) (by decide +kernel)
theorem qv_543 : Cond.instanceMethod yX9_find ∈ qw_G := qw_in 1163 (by decide +kernel) (by decide +kernel)
theorem qv_544 : Cond.selects RX9 yX9_find yX9_find ∈ qw_G := qw_in 1164 (by decide +kernel) (by decide +kernel)
theorem qv_545 : Cond.code yX9_branch cX9_branch 2 (some .int) ∈ qw_G := qw_in 1182 (by decide +kernel) (by decide +kernel)
theorem qv_546 : Cond.methodLink RL 54 yX9_branch ∈ qw_G := qw_in 1179 (by decide +kernel) (by decide +kernel)
theorem qv_547 : Cond.instanceMethod yX9_branch ∈ qw_G := qw_in 1180 (by decide +kernel) (by decide +kernel)
theorem qv_548 : Cond.selects RX9 yX9_branch yX9_branch ∈ qw_G := qw_in 1181 (by decide +kernel) (by decide +kernel)
theorem qv_549 : Cond.code yX9_examined cX9_examined 2 (some .int) ∈ qw_G := qw_in 1189 (by decide +kernel) (by decide +kernel)
theorem qv_550 : Cond.methodLink RL 57 yX9_examined ∈ qw_G := qw_in 1186 (by decide +kernel) (by decide +kernel)
theorem qv_551 : Cond.instanceMethod yX9_examined ∈ qw_G := qw_in 1187 (by decide +kernel) (by decide +kernel)
theorem qv_552 : Cond.selects RX9 yX9_examined yX9_examined ∈ qw_G := qw_in 1188 (by decide +kernel) (by decide +kernel)
theorem qv_553 : Cond.code yX9_cost cX9_cost 2 (some .int) ∈ qw_G := qw_in 1196 (by decide +kernel) (by decide +kernel)
theorem qv_554 : Cond.methodLink RL 60 yX9_cost ∈ qw_G := qw_in 1193 (by decide +kernel) (by decide +kernel)
theorem qv_555 : Cond.instanceMethod yX9_cost ∈ qw_G := qw_in 1194 (by decide +kernel) (by decide +kernel)
theorem qv_556 : Cond.selects RX9 yX9_cost yX9_cost ∈ qw_G := qw_in 1195 (by decide +kernel) (by decide +kernel)
theorem qv_557 : Cond.code yX9_worst cX9_worst 2 (some .int) ∈ qw_G := qw_in 1203 (by decide +kernel) (by decide +kernel)
theorem qv_558 : Cond.methodLink RL 63 yX9_worst ∈ qw_G := qw_in 1200 (by decide +kernel) (by decide +kernel)
theorem qv_559 : Cond.instanceMethod yX9_worst ∈ qw_G := qw_in 1201 (by decide +kernel) (by decide +kernel)
theorem qv_560 : Cond.selects RX9 yX9_worst yX9_worst ∈ qw_G := qw_in 1202 (by decide +kernel) (by decide +kernel)
theorem qv_561 : Cond.code yX9_meanBits cX9_meanBits 3 (some .long) ∈ qw_G := qw_in 1224 (by decide +kernel) (by decide +kernel)
theorem qv_562 : Cond.methodLink RL 66 yX9_meanBits ∈ qw_G := qw_in 1221 (by decide +kernel) (by decide +kernel)
theorem qv_563 : Cond.instanceMethod yX9_meanBits ∈ qw_G := qw_in 1222 (by decide +kernel) (by decide +kernel)
theorem qv_564 : Cond.selects RX9 yX9_meanBits yX9_meanBits ∈ qw_G := qw_in 1223 (by decide +kernel) (by decide +kernel)
theorem qv_565 : Cond.code yX9_trees cX9_trees 2 (some .int) ∈ qw_G := qw_in 1244 (by decide +kernel) (by decide +kernel)
theorem qv_566 : Cond.methodLink RL 72 yX9_trees ∈ qw_G := qw_in 1241 (by decide +kernel) (by decide +kernel)
theorem qv_567 : Cond.instanceMethod yX9_trees ∈ qw_G := qw_in 1242 (by decide +kernel) (by decide +kernel)
theorem qv_568 : Cond.selects RX9 yX9_trees yX9_trees ∈ qw_G := qw_in 1243 (by decide +kernel) (by decide +kernel)
theorem qv_569 : Cond.code yX9_table cX9_table 2 (some .int) ∈ qw_G := qw_in 1251 (by decide +kernel) (by decide +kernel)
theorem qv_570 : Cond.methodLink RL 75 yX9_table ∈ qw_G := qw_in 1248 (by decide +kernel) (by decide +kernel)
theorem qv_571 : Cond.instanceMethod yX9_table ∈ qw_G := qw_in 1249 (by decide +kernel) (by decide +kernel)
theorem qv_572 : Cond.selects RX9 yX9_table yX9_table ∈ qw_G := qw_in 1250 (by decide +kernel) (by decide +kernel)
theorem qv_573 : Cond.code yX9_slot cX9_slot 2 (some .int) ∈ qw_G := qw_in 1266 (by decide +kernel) (by decide +kernel)
theorem qv_574 : Cond.methodLink RL 78 yX9_slot ∈ qw_G := qw_in 1263 (by decide +kernel) (by decide +kernel)
theorem qv_575 : Cond.instanceMethod yX9_slot ∈ qw_G := qw_in 1264 (by decide +kernel) (by decide +kernel)
theorem qv_576 : Cond.selects RX9 yX9_slot yX9_slot ∈ qw_G := qw_in 1265 (by decide +kernel) (by decide +kernel)
theorem qv_577 : Cond.code yX9_displacement cX9_displacement 2 (some .int) ∈ qw_G := qw_in 1274 (by decide +kernel) (by decide +kernel)
theorem qv_578 : Cond.methodLink RL 81 yX9_displacement ∈ qw_G := qw_in 1271 (by decide +kernel) (by decide +kernel)
theorem qv_579 : Cond.instanceMethod yX9_displacement ∈ qw_G := qw_in 1272 (by decide +kernel) (by decide +kernel)
theorem qv_580 : Cond.selects RX9 yX9_displacement yX9_displacement ∈ qw_G := qw_in 1273 (by decide +kernel) (by decide +kernel)
theorem qv_581 : Cond.code yX9_densityBits cX9_densityBits 2 (some .int) ∈ qw_G := qw_in 1282 (by decide +kernel) (by decide +kernel)
theorem qv_582 : Cond.methodLink RL 84 yX9_densityBits ∈ qw_G := qw_in 1279 (by decide +kernel) (by decide +kernel)
theorem qv_583 : Cond.instanceMethod yX9_densityBits ∈ qw_G := qw_in 1280 (by decide +kernel) (by decide +kernel)
theorem qv_584 : Cond.selects RX9 yX9_densityBits yX9_densityBits ∈ qw_G := qw_in 1281 (by decide +kernel) (by decide +kernel)
theorem qv_585 : Cond.code yX9_listing cX9_listing 3 (some .int) ∈ qw_G := qw_in 1293 (by decide +kernel) (by decide +kernel)
theorem qv_586 : Cond.methodLink RL 87 yX9_listing ∈ qw_G := qw_in 1290 (by decide +kernel) (by decide +kernel)
theorem qv_587 : Cond.instanceMethod yX9_listing ∈ qw_G := qw_in 1291 (by decide +kernel) (by decide +kernel)
theorem qv_588 : Cond.selects RX9 yX9_listing yX9_listing ∈ qw_G := qw_in 1292 (by decide +kernel) (by decide +kernel)
theorem qv_589 : Cond.code yX9_restore cX9_restore 1 (some .int) ∈ qw_G := qw_in 1341 (by decide +kernel) (by decide +kernel)
theorem qv_590 : Cond.methodLink RL 90 yX9_restore ∈ qw_G := qw_in 1338 (by decide +kernel) (by decide +kernel)
theorem qv_591 : Cond.instanceMethod yX9_restore ∈ qw_G := qw_in 1339 (by decide +kernel) (by decide +kernel)
theorem qv_592 : Cond.selects RX9 yX9_restore yX9_restore ∈ qw_G := qw_in 1340 (by decide +kernel) (by decide +kernel)
theorem qv_593 : Cond.classLink RL 8 RX9 ∈ qw_G := qw_in 129 (by decide +kernel) (by decide +kernel)
theorem qv_594 : Cond.instantiable RX9 13 ∈ qw_G := qw_in 130 (by decide +kernel) (by decide +kernel)
theorem qv_595 : Cond.code yX9_init cX9_init 1 none ∈ qw_G := qw_in 133 (by decide +kernel) (by decide +kernel)
theorem qv_596 : Cond.methodLink RL 93 yX9_init ∈ qw_G := qw_in 131 (by decide +kernel) (by decide +kernel)
theorem qv_597 : Cond.instanceMethod yX9_init ∈ qw_G := qw_in 132 (by decide +kernel) (by decide +kernel)
theorem qv_598 : Cond.classLink RL 94 RX10 ∈ qw_G := qw_in 1343 (by decide +kernel) (by decide +kernel)
theorem qv_599 : Cond.instantiable RX10 36 ∈ qw_G := qw_in 1344 (by decide +kernel) (by decide +kernel)
theorem qv_600 : Cond.code yX10_init cX10_init 1 none ∈ qw_G := qw_in 1347 (by decide +kernel) (by decide +kernel)
theorem qv_601 : Cond.methodLink RL 96 yX10_init ∈ qw_G := qw_in 1345 (by decide +kernel) (by decide +kernel)
theorem qv_602 : Cond.instanceMethod yX10_init ∈ qw_G := qw_in 1346 (by decide +kernel) (by decide +kernel)
theorem qv_603 : Cond.arrayClass .long ∈ qw_G := qw_in 1863 (by decide +kernel) (by decide +kernel)
theorem qv_604 : Cond.codeWith yL_append cL_append 4 (some .int) [(0, 9, 12, 13), (0, 9, 15, 15)] ∈ qw_G := qw_in 771 (by decide +kernel) (by decide +kernel)
theorem qv_605 : Cond.methodLink RL 97 yL_append ∈ qw_G := qw_in 769 (by decide +kernel) (by decide +kernel)
theorem qv_606 : Cond.initialized RL ∈ qw_G := qw_in 100 (by decide +kernel) (by decide +kernel)
theorem qv_607 : Cond.static yL_append ∈ qw_G := qw_in 770 (by decide +kernel) (by decide +kernel)
theorem qv_608 : Cond.code yX10_append cX10_append 6 (some .int) ∈ qw_G := qw_in 1465 (by decide +kernel) (by decide +kernel)
theorem qv_609 : Cond.methodLink RL 102 yX10_append ∈ qw_G := qw_in 1462 (by decide +kernel) (by decide +kernel)
theorem qv_610 : Cond.instanceMethod yX10_append ∈ qw_G := qw_in 1463 (by decide +kernel) (by decide +kernel)
theorem qv_611 : Cond.selects RX10 yX10_append yX10_append ∈ qw_G := qw_in 1464 (by decide +kernel) (by decide +kernel)
theorem qv_612 : Cond.code yX10_thrown cX10_thrown 1 (some .int) ∈ qw_G := qw_in 1461 (by decide +kernel) (by decide +kernel)
theorem qv_613 : Cond.methodLink RL 103 yX10_thrown ∈ qw_G := qw_in 1458 (by decide +kernel) (by decide +kernel)
theorem qv_614 : Cond.instanceMethod yX10_thrown ∈ qw_G := qw_in 1459 (by decide +kernel) (by decide +kernel)
theorem qv_615 : Cond.selects RX10 yX10_thrown yX10_thrown ∈ qw_G := qw_in 1460 (by decide +kernel) (by decide +kernel)
theorem qv_616 : Cond.code yX9_clear cX9_clear 2 (some .int) ∈ qw_G := qw_in 506 (by decide +kernel) (by decide +kernel)
theorem qv_617 : Cond.methodLink RL 106 yX9_clear ∈ qw_G := qw_in 503 (by decide +kernel) (by decide +kernel)
theorem qv_618 : Cond.instanceMethod yX9_clear ∈ qw_G := qw_in 504 (by decide +kernel) (by decide +kernel)
theorem qv_619 : Cond.selects RX9 yX9_clear yX9_clear ∈ qw_G := qw_in 505 (by decide +kernel) (by decide +kernel)
theorem qv_620 : Cond.code yX10_clear cX10_clear 2 (some .int) ∈ qw_G := qw_in 1474 (by decide +kernel) (by decide +kernel)
theorem qv_621 : Cond.methodLink RL 109 yX10_clear ∈ qw_G := qw_in 1471 (by decide +kernel) (by decide +kernel)
theorem qv_622 : Cond.instanceMethod yX10_clear ∈ qw_G := qw_in 1472 (by decide +kernel) (by decide +kernel)
theorem qv_623 : Cond.selects RX10 yX10_clear yX10_clear ∈ qw_G := qw_in 1473 (by decide +kernel) (by decide +kernel)
theorem qv_624 : Cond.codeWith yL_add cL_add 4 (some .int) [(0, 9, 12, 13), (0, 9, 15, 15)] ∈ qw_G := qw_in 867 (by decide +kernel) (by decide +kernel)
theorem qv_625 : Cond.methodLink RL 110 yL_add ∈ qw_G := qw_in 865 (by decide +kernel) (by decide +kernel)
theorem qv_626 : Cond.static yL_add ∈ qw_G := qw_in 866 (by decide +kernel) (by decide +kernel)
theorem qv_627 : Cond.code yX10_add cX10_add 4 (some .int) ∈ qw_G := qw_in 1478 (by decide +kernel) (by decide +kernel)
theorem qv_628 : Cond.methodLink RL 112 yX10_add ∈ qw_G := qw_in 1475 (by decide +kernel) (by decide +kernel)
theorem qv_629 : Cond.instanceMethod yX10_add ∈ qw_G := qw_in 1476 (by decide +kernel) (by decide +kernel)
theorem qv_630 : Cond.selects RX10 yX10_add yX10_add ∈ qw_G := qw_in 1477 (by decide +kernel) (by decide +kernel)
theorem qv_631 : Cond.codeWith yL_remove cL_remove 4 (some .int) [(0, 9, 12, 23)] ∈ qw_G := qw_in 909 (by decide +kernel) (by decide +kernel)
theorem qv_632 : Cond.methodLink RL 113 yL_remove ∈ qw_G := qw_in 907 (by decide +kernel) (by decide +kernel)
theorem qv_633 : Cond.static yL_remove ∈ qw_G := qw_in 908 (by decide +kernel) (by decide +kernel)
theorem qv_634 : Cond.code yX10_remove cX10_remove 2 (some .int) ∈ qw_G := qw_in 1503 (by decide +kernel) (by decide +kernel)
theorem qv_635 : Cond.methodLink RL 115 yX10_remove ∈ qw_G := qw_in 1500 (by decide +kernel) (by decide +kernel)
theorem qv_636 : Cond.instanceMethod yX10_remove ∈ qw_G := qw_in 1501 (by decide +kernel) (by decide +kernel)
theorem qv_637 : Cond.selects RX10 yX10_remove yX10_remove ∈ qw_G := qw_in 1502 (by decide +kernel) (by decide +kernel)
theorem qv_638 : Cond.codeWith yL_setBranch cL_setBranch 5 (some .int) [(0, 10, 13, 23), (0, 10, 17, 13)] ∈ qw_G := qw_in 966 (by decide +kernel) (by decide +kernel)
theorem qv_639 : Cond.methodLink RL 116 yL_setBranch ∈ qw_G := qw_in 964 (by decide +kernel) (by decide +kernel)
theorem qv_640 : Cond.static yL_setBranch ∈ qw_G := qw_in 965 (by decide +kernel) (by decide +kernel)
theorem qv_641 : Cond.code yX10_setBranch cX10_setBranch 4 (some .int) ∈ qw_G := qw_in 1515 (by decide +kernel) (by decide +kernel)
theorem qv_642 : Cond.methodLink RL 119 yX10_setBranch ∈ qw_G := qw_in 1512 (by decide +kernel) (by decide +kernel)
theorem qv_643 : Cond.instanceMethod yX10_setBranch ∈ qw_G := qw_in 1513 (by decide +kernel) (by decide +kernel)
theorem qv_644 : Cond.selects RX10 yX10_setBranch yX10_setBranch ∈ qw_G := qw_in 1514 (by decide +kernel) (by decide +kernel)
theorem qv_645 : Cond.codeWith yL_setWeight cL_setWeight 5 (some .int) [(0, 10, 13, 23), (0, 10, 17, 13)] ∈ qw_G := qw_in 975 (by decide +kernel) (by decide +kernel)
theorem qv_646 : Cond.methodLink RL 120 yL_setWeight ∈ qw_G := qw_in 973 (by decide +kernel) (by decide +kernel)
theorem qv_647 : Cond.static yL_setWeight ∈ qw_G := qw_in 974 (by decide +kernel) (by decide +kernel)
theorem qv_648 : Cond.code yX10_setWeight cX10_setWeight 4 (some .int) ∈ qw_G := qw_in 1519 (by decide +kernel) (by decide +kernel)
theorem qv_649 : Cond.methodLink RL 122 yX10_setWeight ∈ qw_G := qw_in 1516 (by decide +kernel) (by decide +kernel)
theorem qv_650 : Cond.instanceMethod yX10_setWeight ∈ qw_G := qw_in 1517 (by decide +kernel) (by decide +kernel)
theorem qv_651 : Cond.selects RX10 yX10_setWeight yX10_setWeight ∈ qw_G := qw_in 1518 (by decide +kernel) (by decide +kernel)
theorem qv_652 : Cond.codeWith yL_setLoad cL_setLoad 4 (some .int) [(0, 9, 12, 13)] ∈ qw_G := qw_in 983 (by decide +kernel) (by decide +kernel)
theorem qv_653 : Cond.methodLink RL 123 yL_setLoad ∈ qw_G := qw_in 981 (by decide +kernel) (by decide +kernel)
theorem qv_654 : Cond.static yL_setLoad ∈ qw_G := qw_in 982 (by decide +kernel) (by decide +kernel)
theorem qv_655 : Cond.code yX10_setLoad cX10_setLoad 3 (some .int) ∈ qw_G := qw_in 1524 (by decide +kernel) (by decide +kernel)
theorem qv_656 : Cond.methodLink RL 125 yX10_setLoad ∈ qw_G := qw_in 1521 (by decide +kernel) (by decide +kernel)
theorem qv_657 : Cond.instanceMethod yX10_setLoad ∈ qw_G := qw_in 1522 (by decide +kernel) (by decide +kernel)
theorem qv_658 : Cond.selects RX10 yX10_setLoad yX10_setLoad ∈ qw_G := qw_in 1523 (by decide +kernel) (by decide +kernel)
theorem qv_659 : Cond.codeWith yL_execute cL_execute 3 (some .int) [(0, 8, 11, 13), (0, 8, 14, 15)] ∈ qw_G := qw_in 995 (by decide +kernel) (by decide +kernel)
theorem qv_660 : Cond.methodLink RL 126 yL_execute ∈ qw_G := qw_in 993 (by decide +kernel) (by decide +kernel)
theorem qv_661 : Cond.static yL_execute ∈ qw_G := qw_in 994 (by decide +kernel) (by decide +kernel)
theorem qv_662 : Cond.code yX10_execute cX10_execute 3 (some .int) ∈ qw_G := qw_in 1530 (by decide +kernel) (by decide +kernel)
theorem qv_663 : Cond.methodLink RL 129 yX10_execute ∈ qw_G := qw_in 1527 (by decide +kernel) (by decide +kernel)
theorem qv_664 : Cond.instanceMethod yX10_execute ∈ qw_G := qw_in 1528 (by decide +kernel) (by decide +kernel)
theorem qv_665 : Cond.selects RX10 yX10_execute yX10_execute ∈ qw_G := qw_in 1529 (by decide +kernel) (by decide +kernel)
theorem qv_666 : Cond.code yX9_errorPosition cX9_errorPosition 1 (some .int) ∈ qw_G := qw_in 514 (by decide +kernel) (by decide +kernel)
theorem qv_667 : Cond.methodLink RL 130 yX9_errorPosition ∈ qw_G := qw_in 511 (by decide +kernel) (by decide +kernel)
theorem qv_668 : Cond.instanceMethod yX9_errorPosition ∈ qw_G := qw_in 512 (by decide +kernel) (by decide +kernel)
theorem qv_669 : Cond.selects RX9 yX9_errorPosition yX9_errorPosition ∈ qw_G := qw_in 513 (by decide +kernel) (by decide +kernel)
theorem qv_670 : Cond.code yX10_errorPosition cX10_errorPosition 1 (some .int) ∈ qw_G := qw_in 1580 (by decide +kernel) (by decide +kernel)
theorem qv_671 : Cond.methodLink RL 133 yX10_errorPosition ∈ qw_G := qw_in 1577 (by decide +kernel) (by decide +kernel)
theorem qv_672 : Cond.instanceMethod yX10_errorPosition ∈ qw_G := qw_in 1578 (by decide +kernel) (by decide +kernel)
theorem qv_673 : Cond.selects RX10 yX10_errorPosition yX10_errorPosition ∈ qw_G := qw_in 1579 (by decide +kernel) (by decide +kernel)
theorem qv_674 : Cond.codeWith yL_property cL_property 5 (some .int) [(0, 10, 13, 23), (0, 10, 17, 13)] ∈ qw_G := qw_in 1119 (by decide +kernel) (by decide +kernel)
theorem qv_675 : Cond.methodLink RL 134 yL_property ∈ qw_G := qw_in 1117 (by decide +kernel) (by decide +kernel)
theorem qv_676 : Cond.static yL_property ∈ qw_G := qw_in 1118 (by decide +kernel) (by decide +kernel)
theorem qv_677 : Cond.code yX10_property cX10_property 3 (some .int) ∈ qw_G := qw_in 1584 (by decide +kernel) (by decide +kernel)
theorem qv_678 : Cond.methodLink RL 136 yX10_property ∈ qw_G := qw_in 1581 (by decide +kernel) (by decide +kernel)
theorem qv_679 : Cond.instanceMethod yX10_property ∈ qw_G := qw_in 1582 (by decide +kernel) (by decide +kernel)
theorem qv_680 : Cond.selects RX10 yX10_property yX10_property ∈ qw_G := qw_in 1583 (by decide +kernel) (by decide +kernel)
theorem qv_681 : Cond.codeWith yL_character cL_character 5 (some .int) [(0, 10, 13, 23)] ∈ qw_G := qw_in 1135 (by decide +kernel) (by decide +kernel)
theorem qv_682 : Cond.methodLink RL 137 yL_character ∈ qw_G := qw_in 1133 (by decide +kernel) (by decide +kernel)
theorem qv_683 : Cond.static yL_character ∈ qw_G := qw_in 1134 (by decide +kernel) (by decide +kernel)
theorem qv_684 : Cond.code yX10_character cX10_character 3 (some .int) ∈ qw_G := qw_in 1606 (by decide +kernel) (by decide +kernel)
theorem qv_685 : Cond.methodLink RL 139 yX10_character ∈ qw_G := qw_in 1603 (by decide +kernel) (by decide +kernel)
theorem qv_686 : Cond.instanceMethod yX10_character ∈ qw_G := qw_in 1604 (by decide +kernel) (by decide +kernel)
theorem qv_687 : Cond.selects RX10 yX10_character yX10_character ∈ qw_G := qw_in 1605 (by decide +kernel) (by decide +kernel)
theorem qv_688 : Cond.codeWith yL_difference cL_difference 5 (some .int) [(0, 10, 13, 23), (0, 10, 17, 13)] ∈ qw_G := qw_in 1144 (by decide +kernel) (by decide +kernel)
theorem qv_689 : Cond.methodLink RL 140 yL_difference ∈ qw_G := qw_in 1142 (by decide +kernel) (by decide +kernel)
theorem qv_690 : Cond.static yL_difference ∈ qw_G := qw_in 1143 (by decide +kernel) (by decide +kernel)
theorem qv_691 : Cond.code yX10_difference cX10_difference 3 (some .int) ∈ qw_G := qw_in 1610 (by decide +kernel) (by decide +kernel)
theorem qv_692 : Cond.methodLink RL 142 yX10_difference ∈ qw_G := qw_in 1607 (by decide +kernel) (by decide +kernel)
theorem qv_693 : Cond.instanceMethod yX10_difference ∈ qw_G := qw_in 1608 (by decide +kernel) (by decide +kernel)
theorem qv_694 : Cond.selects RX10 yX10_difference yX10_difference ∈ qw_G := qw_in 1609 (by decide +kernel) (by decide +kernel)
theorem qv_695 : Cond.codeWith yL_size cL_size 4 (some .int) [(0, 9, 12, 13)] ∈ qw_G := qw_in 1153 (by decide +kernel) (by decide +kernel)
theorem qv_696 : Cond.methodLink RL 143 yL_size ∈ qw_G := qw_in 1151 (by decide +kernel) (by decide +kernel)
theorem qv_697 : Cond.static yL_size ∈ qw_G := qw_in 1152 (by decide +kernel) (by decide +kernel)
theorem qv_698 : Cond.code yX10_size cX10_size 2 (some .int) ∈ qw_G := qw_in 1614 (by decide +kernel) (by decide +kernel)
theorem qv_699 : Cond.methodLink RL 145 yX10_size ∈ qw_G := qw_in 1611 (by decide +kernel) (by decide +kernel)
theorem qv_700 : Cond.instanceMethod yX10_size ∈ qw_G := qw_in 1612 (by decide +kernel) (by decide +kernel)
theorem qv_701 : Cond.selects RX10 yX10_size yX10_size ∈ qw_G := qw_in 1613 (by decide +kernel) (by decide +kernel)
theorem qv_702 : Cond.codeWith yL_find cL_find 4 (some .int) [(0, 9, 12, 13), (0, 9, 15, 15)] ∈ qw_G := qw_in 1161 (by decide +kernel) (by decide +kernel)
theorem qv_703 : Cond.methodLink RL 146 yL_find ∈ qw_G := qw_in 1159 (by decide +kernel) (by decide +kernel)
theorem qv_704 : Cond.static yL_find ∈ qw_G := qw_in 1160 (by decide +kernel) (by decide +kernel)
theorem qv_705 : Cond.code yX10_find cX10_find 2 (some .int) ∈ qw_G := qw_in 1646 (by decide +kernel) (by decide +kernel)
theorem qv_706 : Cond.methodLink RL 148 yX10_find ∈ qw_G := qw_in 1643 (by decide +kernel) (by decide +kernel)
theorem qv_707 : Cond.instanceMethod yX10_find ∈ qw_G := qw_in 1644 (by decide +kernel) (by decide +kernel)
theorem qv_708 : Cond.selects RX10 yX10_find yX10_find ∈ qw_G := qw_in 1645 (by decide +kernel) (by decide +kernel)
theorem qv_709 : Cond.codeWith yL_branch cL_branch 4 (some .int) [(0, 9, 12, 13), (0, 9, 15, 15)] ∈ qw_G := qw_in 1178 (by decide +kernel) (by decide +kernel)
theorem qv_710 : Cond.methodLink RL 149 yL_branch ∈ qw_G := qw_in 1176 (by decide +kernel) (by decide +kernel)
theorem qv_711 : Cond.static yL_branch ∈ qw_G := qw_in 1177 (by decide +kernel) (by decide +kernel)
theorem qv_712 : Cond.code yX10_branch cX10_branch 3 (some .int) ∈ qw_G := qw_in 1742 (by decide +kernel) (by decide +kernel)
theorem qv_713 : Cond.methodLink RL 151 yX10_branch ∈ qw_G := qw_in 1739 (by decide +kernel) (by decide +kernel)
theorem qv_714 : Cond.instanceMethod yX10_branch ∈ qw_G := qw_in 1740 (by decide +kernel) (by decide +kernel)
theorem qv_715 : Cond.selects RX10 yX10_branch yX10_branch ∈ qw_G := qw_in 1741 (by decide +kernel) (by decide +kernel)
theorem qv_716 : Cond.codeWith yL_examined cL_examined 4 (some .int) [(0, 9, 12, 13), (0, 9, 15, 15)] ∈ qw_G := qw_in 1185 (by decide +kernel) (by decide +kernel)
theorem qv_717 : Cond.methodLink RL 152 yL_examined ∈ qw_G := qw_in 1183 (by decide +kernel) (by decide +kernel)
theorem qv_718 : Cond.static yL_examined ∈ qw_G := qw_in 1184 (by decide +kernel) (by decide +kernel)
theorem qv_719 : Cond.code yX10_examined cX10_examined 3 (some .int) ∈ qw_G := qw_in 1746 (by decide +kernel) (by decide +kernel)
theorem qv_720 : Cond.methodLink RL 154 yX10_examined ∈ qw_G := qw_in 1743 (by decide +kernel) (by decide +kernel)
theorem qv_721 : Cond.instanceMethod yX10_examined ∈ qw_G := qw_in 1744 (by decide +kernel) (by decide +kernel)
theorem qv_722 : Cond.selects RX10 yX10_examined yX10_examined ∈ qw_G := qw_in 1745 (by decide +kernel) (by decide +kernel)
theorem qv_723 : Cond.codeWith yL_cost cL_cost 4 (some .int) [(0, 9, 12, 13), (0, 9, 15, 15)] ∈ qw_G := qw_in 1192 (by decide +kernel) (by decide +kernel)
theorem qv_724 : Cond.methodLink RL 155 yL_cost ∈ qw_G := qw_in 1190 (by decide +kernel) (by decide +kernel)
theorem qv_725 : Cond.static yL_cost ∈ qw_G := qw_in 1191 (by decide +kernel) (by decide +kernel)
theorem qv_726 : Cond.code yX10_cost cX10_cost 2 (some .int) ∈ qw_G := qw_in 1750 (by decide +kernel) (by decide +kernel)
theorem qv_727 : Cond.methodLink RL 157 yX10_cost ∈ qw_G := qw_in 1747 (by decide +kernel) (by decide +kernel)
theorem qv_728 : Cond.instanceMethod yX10_cost ∈ qw_G := qw_in 1748 (by decide +kernel) (by decide +kernel)
theorem qv_729 : Cond.selects RX10 yX10_cost yX10_cost ∈ qw_G := qw_in 1749 (by decide +kernel) (by decide +kernel)
theorem qv_730 : Cond.codeWith yL_worst cL_worst 4 (some .int) [(0, 9, 12, 13), (0, 9, 15, 15)] ∈ qw_G := qw_in 1199 (by decide +kernel) (by decide +kernel)
theorem qv_731 : Cond.methodLink RL 158 yL_worst ∈ qw_G := qw_in 1197 (by decide +kernel) (by decide +kernel)
theorem qv_732 : Cond.static yL_worst ∈ qw_G := qw_in 1198 (by decide +kernel) (by decide +kernel)
theorem qv_733 : Cond.code yX10_worst cX10_worst 5 (some .int) ∈ qw_G := qw_in 1758 (by decide +kernel) (by decide +kernel)
theorem qv_734 : Cond.methodLink RL 160 yX10_worst ∈ qw_G := qw_in 1755 (by decide +kernel) (by decide +kernel)
theorem qv_735 : Cond.instanceMethod yX10_worst ∈ qw_G := qw_in 1756 (by decide +kernel) (by decide +kernel)
theorem qv_736 : Cond.selects RX10 yX10_worst yX10_worst ∈ qw_G := qw_in 1757 (by decide +kernel) (by decide +kernel)
theorem qv_737 : Cond.codeWith yL_meanBits cL_meanBits 4 (some .int) [(0, 8, 11, 13), (0, 8, 14, 15), (0, 8, 17, 70)] ∈ qw_G := qw_in 1206 (by decide +kernel) (by decide +kernel)
theorem qv_738 : Cond.methodLink RL 161 yL_meanBits ∈ qw_G := qw_in 1204 (by decide +kernel) (by decide +kernel)
theorem qv_739 : Cond.static yL_meanBits ∈ qw_G := qw_in 1205 (by decide +kernel) (by decide +kernel)
theorem qv_740 : Cond.code yX10_meanBits cX10_meanBits 4 (some .long) ∈ qw_G := qw_in 1762 (by decide +kernel) (by decide +kernel)
theorem qv_741 : Cond.methodLink RL 163 yX10_meanBits ∈ qw_G := qw_in 1759 (by decide +kernel) (by decide +kernel)
theorem qv_742 : Cond.instanceMethod yX10_meanBits ∈ qw_G := qw_in 1760 (by decide +kernel) (by decide +kernel)
theorem qv_743 : Cond.selects RX10 yX10_meanBits yX10_meanBits ∈ qw_G := qw_in 1761 (by decide +kernel) (by decide +kernel)
theorem qv_744 : Cond.code yX9_best cX9_best 4 (some .int) ∈ qw_G := qw_in 518 (by decide +kernel) (by decide +kernel)
theorem qv_745 : Cond.methodLink RL 164 yX9_best ∈ qw_G := qw_in 515 (by decide +kernel) (by decide +kernel)
theorem qv_746 : Cond.instanceMethod yX9_best ∈ qw_G := qw_in 516 (by decide +kernel) (by decide +kernel)
theorem qv_747 : Cond.selects RX9 yX9_best yX9_best ∈ qw_G := qw_in 517 (by decide +kernel) (by decide +kernel)
theorem qv_748 : Cond.code yX10_best cX10_best 5 (some .int) ∈ qw_G := qw_in 1776 (by decide +kernel) (by decide +kernel)
theorem qv_749 : Cond.methodLink RL 167 yX10_best ∈ qw_G := qw_in 1773 (by decide +kernel) (by decide +kernel)
theorem qv_750 : Cond.instanceMethod yX10_best ∈ qw_G := qw_in 1774 (by decide +kernel) (by decide +kernel)
theorem qv_751 : Cond.selects RX10 yX10_best yX10_best ∈ qw_G := qw_in 1775 (by decide +kernel) (by decide +kernel)
theorem qv_752 : Cond.codeWith yL_trees cL_trees 4 (some .int) [(0, 9, 12, 13)] ∈ qw_G := qw_in 1240 (by decide +kernel) (by decide +kernel)
theorem qv_753 : Cond.methodLink RL 168 yL_trees ∈ qw_G := qw_in 1238 (by decide +kernel) (by decide +kernel)
theorem qv_754 : Cond.static yL_trees ∈ qw_G := qw_in 1239 (by decide +kernel) (by decide +kernel)
theorem qv_755 : Cond.code yX10_trees cX10_trees 4 (some .int) ∈ qw_G := qw_in 1619 (by decide +kernel) (by decide +kernel)
theorem qv_756 : Cond.methodLink RL 170 yX10_trees ∈ qw_G := qw_in 1616 (by decide +kernel) (by decide +kernel)
theorem qv_757 : Cond.instanceMethod yX10_trees ∈ qw_G := qw_in 1617 (by decide +kernel) (by decide +kernel)
theorem qv_758 : Cond.selects RX10 yX10_trees yX10_trees ∈ qw_G := qw_in 1618 (by decide +kernel) (by decide +kernel)
theorem qv_759 : Cond.code yX9_selected cX9_selected 1 (some .int) ∈ qw_G := qw_in 752 (by decide +kernel) (by decide +kernel)
theorem qv_760 : Cond.methodLink RL 171 yX9_selected ∈ qw_G := qw_in 749 (by decide +kernel) (by decide +kernel)
theorem qv_761 : Cond.instanceMethod yX9_selected ∈ qw_G := qw_in 750 (by decide +kernel) (by decide +kernel)
theorem qv_762 : Cond.selects RX9 yX9_selected yX9_selected ∈ qw_G := qw_in 751 (by decide +kernel) (by decide +kernel)
theorem qv_763 : Cond.code yX10_selected cX10_selected 1 (some .int) ∈ qw_G := qw_in 1780 (by decide +kernel) (by decide +kernel)
theorem qv_764 : Cond.methodLink RL 174 yX10_selected ∈ qw_G := qw_in 1777 (by decide +kernel) (by decide +kernel)
theorem qv_765 : Cond.instanceMethod yX10_selected ∈ qw_G := qw_in 1778 (by decide +kernel) (by decide +kernel)
theorem qv_766 : Cond.selects RX10 yX10_selected yX10_selected ∈ qw_G := qw_in 1779 (by decide +kernel) (by decide +kernel)
theorem qv_767 : Cond.code yX9_hash cX9_hash 2 (some .int) ∈ qw_G := qw_in 756 (by decide +kernel) (by decide +kernel)
theorem qv_768 : Cond.methodLink RL 175 yX9_hash ∈ qw_G := qw_in 753 (by decide +kernel) (by decide +kernel)
theorem qv_769 : Cond.instanceMethod yX9_hash ∈ qw_G := qw_in 754 (by decide +kernel) (by decide +kernel)
theorem qv_770 : Cond.selects RX9 yX9_hash yX9_hash ∈ qw_G := qw_in 755 (by decide +kernel) (by decide +kernel)
theorem qv_771 : Cond.code yX10_hash cX10_hash 2 (some .int) ∈ qw_G := qw_in 1784 (by decide +kernel) (by decide +kernel)
theorem qv_772 : Cond.methodLink RL 178 yX10_hash ∈ qw_G := qw_in 1781 (by decide +kernel) (by decide +kernel)
theorem qv_773 : Cond.instanceMethod yX10_hash ∈ qw_G := qw_in 1782 (by decide +kernel) (by decide +kernel)
theorem qv_774 : Cond.selects RX10 yX10_hash yX10_hash ∈ qw_G := qw_in 1783 (by decide +kernel) (by decide +kernel)
theorem qv_775 : Cond.codeWith yL_table cL_table 4 (some .int) [(0, 9, 12, 13), (0, 9, 15, 15)] ∈ qw_G := qw_in 1247 (by decide +kernel) (by decide +kernel)
theorem qv_776 : Cond.methodLink RL 179 yL_table ∈ qw_G := qw_in 1245 (by decide +kernel) (by decide +kernel)
theorem qv_777 : Cond.static yL_table ∈ qw_G := qw_in 1246 (by decide +kernel) (by decide +kernel)
theorem qv_778 : Cond.code yX10_table cX10_table 2 (some .int) ∈ qw_G := qw_in 1788 (by decide +kernel) (by decide +kernel)
theorem qv_779 : Cond.methodLink RL 181 yX10_table ∈ qw_G := qw_in 1785 (by decide +kernel) (by decide +kernel)
theorem qv_780 : Cond.instanceMethod yX10_table ∈ qw_G := qw_in 1786 (by decide +kernel) (by decide +kernel)
theorem qv_781 : Cond.selects RX10 yX10_table yX10_table ∈ qw_G := qw_in 1787 (by decide +kernel) (by decide +kernel)
theorem qv_782 : Cond.codeWith yL_slot cL_slot 4 (some .int) [(0, 9, 12, 15), (0, 9, 15, 23)] ∈ qw_G := qw_in 1262 (by decide +kernel) (by decide +kernel)
theorem qv_783 : Cond.methodLink RL 182 yL_slot ∈ qw_G := qw_in 1260 (by decide +kernel) (by decide +kernel)
theorem qv_784 : Cond.static yL_slot ∈ qw_G := qw_in 1261 (by decide +kernel) (by decide +kernel)
theorem qv_785 : Cond.code yX10_slot cX10_slot 2 (some .int) ∈ qw_G := qw_in 1799 (by decide +kernel) (by decide +kernel)
theorem qv_786 : Cond.methodLink RL 184 yX10_slot ∈ qw_G := qw_in 1796 (by decide +kernel) (by decide +kernel)
theorem qv_787 : Cond.instanceMethod yX10_slot ∈ qw_G := qw_in 1797 (by decide +kernel) (by decide +kernel)
theorem qv_788 : Cond.selects RX10 yX10_slot yX10_slot ∈ qw_G := qw_in 1798 (by decide +kernel) (by decide +kernel)
theorem qv_789 : Cond.codeWith yL_displacement cL_displacement 4 (some .int) [(0, 9, 12, 15), (0, 9, 15, 23)] ∈ qw_G := qw_in 1270 (by decide +kernel) (by decide +kernel)
theorem qv_790 : Cond.methodLink RL 185 yL_displacement ∈ qw_G := qw_in 1268 (by decide +kernel) (by decide +kernel)
theorem qv_791 : Cond.static yL_displacement ∈ qw_G := qw_in 1269 (by decide +kernel) (by decide +kernel)
theorem qv_792 : Cond.code yX10_displacement cX10_displacement 2 (some .int) ∈ qw_G := qw_in 1803 (by decide +kernel) (by decide +kernel)
theorem qv_793 : Cond.methodLink RL 187 yX10_displacement ∈ qw_G := qw_in 1800 (by decide +kernel) (by decide +kernel)
theorem qv_794 : Cond.instanceMethod yX10_displacement ∈ qw_G := qw_in 1801 (by decide +kernel) (by decide +kernel)
theorem qv_795 : Cond.selects RX10 yX10_displacement yX10_displacement ∈ qw_G := qw_in 1802 (by decide +kernel) (by decide +kernel)
theorem qv_796 : Cond.codeWith yL_densityBits cL_densityBits 3 (some .int) [(0, 8, 11, 15)] ∈ qw_G := qw_in 1278 (by decide +kernel) (by decide +kernel)
theorem qv_797 : Cond.methodLink RL 188 yL_densityBits ∈ qw_G := qw_in 1276 (by decide +kernel) (by decide +kernel)
theorem qv_798 : Cond.static yL_densityBits ∈ qw_G := qw_in 1277 (by decide +kernel) (by decide +kernel)
theorem qv_799 : Cond.code yX10_densityBits cX10_densityBits 1 (some .int) ∈ qw_G := qw_in 1807 (by decide +kernel) (by decide +kernel)
theorem qv_800 : Cond.methodLink RL 190 yX10_densityBits ∈ qw_G := qw_in 1804 (by decide +kernel) (by decide +kernel)
theorem qv_801 : Cond.instanceMethod yX10_densityBits ∈ qw_G := qw_in 1805 (by decide +kernel) (by decide +kernel)
theorem qv_802 : Cond.selects RX10 yX10_densityBits yX10_densityBits ∈ qw_G := qw_in 1806 (by decide +kernel) (by decide +kernel)
theorem qv_803 : Cond.codeWith yL_listing cL_listing 5 (some .int) [(0, 10, 13, 13), (0, 10, 17, 15), (0, 10, 21, 23)] ∈ qw_G := qw_in 1289 (by decide +kernel) (by decide +kernel)
theorem qv_804 : Cond.methodLink RL 191 yL_listing ∈ qw_G := qw_in 1287 (by decide +kernel) (by decide +kernel)
theorem qv_805 : Cond.static yL_listing ∈ qw_G := qw_in 1288 (by decide +kernel) (by decide +kernel)
theorem qv_806 : Cond.code yX10_listing cX10_listing 3 (some .int) ∈ qw_G := qw_in 1821 (by decide +kernel) (by decide +kernel)
theorem qv_807 : Cond.methodLink RL 193 yX10_listing ∈ qw_G := qw_in 1818 (by decide +kernel) (by decide +kernel)
theorem qv_808 : Cond.instanceMethod yX10_listing ∈ qw_G := qw_in 1819 (by decide +kernel) (by decide +kernel)
theorem qv_809 : Cond.selects RX10 yX10_listing yX10_listing ∈ qw_G := qw_in 1820 (by decide +kernel) (by decide +kernel)
theorem qv_810 : Cond.code yX9_save cX9_save 1 (some .int) ∈ qw_G := qw_in 761 (by decide +kernel) (by decide +kernel)
theorem qv_811 : Cond.methodLink RL 194 yX9_save ∈ qw_G := qw_in 758 (by decide +kernel) (by decide +kernel)
theorem qv_812 : Cond.instanceMethod yX9_save ∈ qw_G := qw_in 759 (by decide +kernel) (by decide +kernel)
theorem qv_813 : Cond.selects RX9 yX9_save yX9_save ∈ qw_G := qw_in 760 (by decide +kernel) (by decide +kernel)
theorem qv_814 : Cond.code yX10_save cX10_save 1 (some .int) ∈ qw_G := qw_in 1858 (by decide +kernel) (by decide +kernel)
theorem qv_815 : Cond.methodLink RL 197 yX10_save ∈ qw_G := qw_in 1855 (by decide +kernel) (by decide +kernel)
theorem qv_816 : Cond.instanceMethod yX10_save ∈ qw_G := qw_in 1856 (by decide +kernel) (by decide +kernel)
theorem qv_817 : Cond.selects RX10 yX10_save yX10_save ∈ qw_G := qw_in 1857 (by decide +kernel) (by decide +kernel)
theorem qv_818 : Cond.codeWith yL_restore cL_restore 3 (some .int) [(0, 8, 11, 15)] ∈ qw_G := qw_in 1337 (by decide +kernel) (by decide +kernel)
theorem qv_819 : Cond.methodLink RL 198 yL_restore ∈ qw_G := qw_in 1335 (by decide +kernel) (by decide +kernel)
theorem qv_820 : Cond.static yL_restore ∈ qw_G := qw_in 1336 (by decide +kernel) (by decide +kernel)
theorem qv_821 : Cond.code yX10_restore cX10_restore 1 (some .int) ∈ qw_G := qw_in 1862 (by decide +kernel) (by decide +kernel)
theorem qv_822 : Cond.methodLink RL 200 yX10_restore ∈ qw_G := qw_in 1859 (by decide +kernel) (by decide +kernel)
theorem qv_823 : Cond.instanceMethod yX10_restore ∈ qw_G := qw_in 1860 (by decide +kernel) (by decide +kernel)
theorem qv_824 : Cond.selects RX10 yX10_restore yX10_restore ∈ qw_G := qw_in 1861 (by decide +kernel) (by decide +kernel)
theorem qv_825 : Cond.constant RJ6 265 (1431655765) ∈ qw_G := qw_in 613 (by decide +kernel) (by decide +kernel)
theorem qv_826 : Cond.constant RJ6 266 (858993459) ∈ qw_G := qw_in 614 (by decide +kernel) (by decide +kernel)
theorem qv_827 : Cond.constant RJ6 267 (252645135) ∈ qw_G := qw_in 615 (by decide +kernel) (by decide +kernel)
theorem qu_2 : ∀ w ∈ u_ws RX0 TX0 9, w ∈ qw_G := qw_all [220, 222, 224, 226, 228, 230, 232, 234, 236] (by decide +kernel) (by decide +kernel)
theorem qu_3 : ∀ w ∈ u_ws RX1 TX1 13, w ∈ qw_G := qw_all [283, 285, 287, 289, 291, 293, 295, 297, 299, 301, 303, 305, 307] (by decide +kernel) (by decide +kernel)
theorem qu_4 : ∀ w ∈ u_ws RX2 TX2 7, w ∈ qw_G := qw_all [186, 188, 190, 192, 194, 196, 198] (by decide +kernel) (by decide +kernel)
theorem qu_5 : ∀ w ∈ u_ws RX3 TX3 5, w ∈ qw_G := qw_all [452, 454, 456, 458, 460] (by decide +kernel) (by decide +kernel)
theorem qu_6 : ∀ w ∈ u_ws RX4 TX4 2, w ∈ qw_G := qw_all [249, 251] (by decide +kernel) (by decide +kernel)
theorem qu_7 : ∀ w ∈ u_ws RX5 TX5 9, w ∈ qw_G := qw_all [419, 421, 423, 425, 427, 429, 431, 433, 435] (by decide +kernel) (by decide +kernel)
theorem qu_8 : ∀ w ∈ u_ws RX6 TX6 4, w ∈ qw_G := qw_all [323, 325, 327, 329] (by decide +kernel) (by decide +kernel)
theorem qu_9 : ∀ w ∈ u_ws RX7 TX7 14, w ∈ qw_G := qw_all [369, 371, 373, 375, 377, 379, 381, 383, 385, 387, 389, 391, 393, 395] (by decide +kernel) (by decide +kernel)
theorem qu_10 : ∀ w ∈ u_ws RX8 TX8 2, w ∈ qw_G := qw_all [152, 154] (by decide +kernel) (by decide +kernel)
theorem qu_11 : ∀ w ∈ u_ws RX9 TX9 13, w ∈ qw_G := qw_all [476, 478, 480, 482, 484, 486, 488, 490, 492, 494, 496, 498, 500] (by decide +kernel) (by decide +kernel)
theorem qu_12 : ∀ w ∈ u_ws RX10 TX10 36, w ∈ qw_G := qw_all [1385, 1387, 1389, 1391, 1393, 1395, 1397, 1399, 1401, 1403, 1405, 1407, 1409, 1411, 1413, 1415, 1417, 1419, 1421, 1423, 1425, 1427, 1429, 1431, 1433, 1435, 1437, 1439, 1441, 1443, 1445, 1447, 1449, 1451, 1453, 1455] (by decide +kernel) (by decide +kernel)
end
section
/-! ENGINE, part 14: the rows of calls; made by wip/engine/gen18.py -/
section QEI
theorem qw_good {k w : Cond} (h : w ∈ qw_G) : GoodIn (k :: qw_G) (w :: qw_G) := by
  intro x hx
  have hx2 : x ∈ qw_G := by
    rcases List.mem_cons.mp hx with e | e
    · rw [e]; exact h
    · exact e
  exact ⟨List.mem_cons_of_mem _ hx2, good_of_word (List.mem_filter.mp hx2).2⟩
theorem qw_goodN {Ts : List Cond} {w : Cond} (hin : ∀ x ∈ qw_G, x ∈ Ts) (h : w ∈ qw_G) : GoodIn Ts (w :: qw_G) := by
  intro x hx
  have hx2 : x ∈ qw_G := by
    rcases List.mem_cons.mp hx with e | e
    · rw [e]; exact h
    · exact e
  exact ⟨hin _ hx2, good_of_word (List.mem_filter.mp hx2).2⟩
def qw_d (y : MethodName) (n : Nat) : Prop := y.cls ≠ "java/lang/invoke/MethodHandle" ∧ y.cls ≠ "java/lang/invoke/VarHandle" ∧ (parseMethodDescriptor y.desc).map (fun d => d.parameters.length) = some n
theorem qk_invV {Z : qe_Z} {j pc idx jj n rc maxL : Nat} {y : MethodName} {bytes : ByteArray} {ret : Option FieldType} (hin : ∀ w ∈ qw_G, w ∈ (zM Z j).2.2.2.2.1) (hjj : zM Z jj = (y, bytes, maxL, ret, Cond.code y bytes maxL ret :: qw_G, y.cls)) (h : decode (zM Z j).2.1 pc = .ok (.invokevirtual idx, 3)) (w1 : Cond.methodLink (zM Z j).2.2.2.2.2 idx y ∈ qw_G) (w2 : Cond.instanceMethod y ∈ qw_G) (w3 : Cond.selects y.cls y y ∈ qw_G) (w4 : Cond.initialized y.cls ∈ qw_G) (w5 : Cond.code y bytes maxL ret ∈ qw_G) (hd : qw_d y n) (hrc : rc ≠ 0) (hq : ∃ T N, (zc Z)[rc - 1]? = some (y.cls, T, N)) : qc_inv Z j pc (pc + 3) jj (n + 1) rc := by
  intro p l e R s m args below meth c H locs cells slots la rest As rm Pc Qc XC mc ms free A hB hX hM hrm1 hrm2 hfr hlo hbl hrcv hPc hlen hsz hrest hcs
  rw [hjj] at hM hlo
  refine ⟨rfl, ?_⟩
  have hT : ∀ w ∈ qw_G, w.before args s = true := fun w hw => hB.2.2.2.2.1 w (hin w hw)
  have S : CallFix p m c (zM Z j).2.1 (zM Z j).2.2.1 s args (zM Z j).2.2.2.2.1 (zM Z j).2.2.2.2.2 := ⟨hB.1, hB.2.1, hB.2.2.1, hB.2.2.2.2.2.1, hB.2.2.2.2.1⟩
  have hG := qw_goodN hin w5
  rcases hrcv with h0 | ⟨a, As2, q, eAs, hq2, cell, hcell, hst, hcl⟩
  · exact absurd h0 hrc
  · obtain ⟨Tq, Nq, hq3⟩ := hq
    have eq : q.1 = y.cls := by have := Option.some.inj (hq2.symm.trans hq3); rw [this]
    rw [eq] at hcl
    subst eAs
    have hlen2 : As2.length = n := by have : As2.length + 1 = n + 1 := hlen; omega
    exact vx_runV S hM ⟨callB_of n hB.2.2.2.2.1 hG rfl hrm1 hrm2 (hT _ w4) (hT _ w1) hd ⟨hfr, hlo⟩, hT _ w2, hT _ w3⟩ ⟨hbl, ⟨cell, hcell, hst, hcl⟩, hPc⟩ (g := F0 m pc la ((Value.ref a :: As2).reverse ++ rest)) rfl hlen2 (hsz.trans hB.2.2.1) (by show (Value.ref a :: As2).reverse ++ rest = As2.reverse ++ Value.ref a :: rest; rw [List.reverse_cons, List.append_assoc]; rfl) (by show 2 * 0 + (rest.map fun v => v.category).sum ≤ 8; have : (rest.map fun v => v.category).sum ≤ 8 := hrest; omega) h hcs
theorem qk_invS {Z : qe_Z} {j pc idx jj n rc maxL : Nat} {y : MethodName} {bytes : ByteArray} {ret : Option FieldType} (hin : ∀ w ∈ qw_G, w ∈ (zM Z j).2.2.2.2.1) (hjj : zM Z jj = (y, bytes, maxL, ret, Cond.code y bytes maxL ret :: qw_G, y.cls)) (h : decode (zM Z j).2.1 pc = .ok (.invokestatic idx, 3)) (w1 : Cond.methodLink (zM Z j).2.2.2.2.2 idx y ∈ qw_G) (w2 : Cond.static y ∈ qw_G) (w4 : Cond.initialized y.cls ∈ qw_G) (w5 : Cond.code y bytes maxL ret ∈ qw_G) (hd : qw_d y n) : qc_inv Z j pc (pc + 3) jj n 0 := by
  intro p l e R s m args below meth c H locs cells slots la rest As rm Pc Qc XC mc ms free A hB hX hM hrm1 hrm2 hfr hlo hbl hrcv hPc hlen hsz hrest hcs
  rw [hjj] at hM hlo
  refine ⟨rfl, ?_⟩
  have hT : ∀ w ∈ qw_G, w.before args s = true := fun w hw => hB.2.2.2.2.1 w (hin w hw)
  have S : CallFix p m c (zM Z j).2.1 (zM Z j).2.2.1 s args (zM Z j).2.2.2.2.1 (zM Z j).2.2.2.2.2 := ⟨hB.1, hB.2.1, hB.2.2.1, hB.2.2.2.2.2.1, hB.2.2.2.2.1⟩
  have hG := qw_goodN hin w5
  exact vx_runS S hM ⟨callB_of n hB.2.2.2.2.1 hG rfl hrm1 hrm2 (hT _ w4) (hT _ w1) hd ⟨hfr, hlo⟩, hT _ w2⟩ ⟨hbl, hPc⟩ (g := F0 m pc la (As.reverse ++ rest)) rfl hlen (hsz.trans hB.2.2.1) rfl (by show 2 * 0 + (rest.map fun v => v.category).sum ≤ 8; have : (rest.map fun v => v.category).sum ≤ 8 := hrest; omega) h hcs
theorem qk_invI {Z : qe_Z} {j pc idx jj n rc maxL : Nat} {y : MethodName} {bytes : ByteArray} (hin : ∀ w ∈ qw_G, w ∈ (zM Z j).2.2.2.2.1) (hjj : zM Z jj = (y, bytes, maxL, none, Cond.code y bytes maxL none :: qw_G, y.cls)) (h : decode (zM Z j).2.1 pc = .ok (.invokespecial idx, 3)) (w1 : Cond.methodLink (zM Z j).2.2.2.2.2 idx y ∈ qw_G) (w2 : Cond.instanceMethod y ∈ qw_G) (w3 : y.name = "<init>") (w4 : Cond.initialized y.cls ∈ qw_G) (w5 : Cond.code y bytes maxL none ∈ qw_G) (hd : qw_d y n) (hrc : rc ≠ 0) (hq : ∃ T N, (zc Z)[rc - 1]? = some (y.cls, T, N)) : qc_inv Z j pc (pc + 3) jj (n + 1) rc := by
  intro p l e R s m args below meth c H locs cells slots la rest As rm Pc Qc XC mc ms free A hB hX hM hrm1 hrm2 hfr hlo hbl hrcv hPc hlen hsz hrest hcs
  rw [hjj] at hM hlo
  refine ⟨rfl, ?_⟩
  have hT : ∀ w ∈ qw_G, w.before args s = true := fun w hw => hB.2.2.2.2.1 w (hin w hw)
  have S : CallFix p m c (zM Z j).2.1 (zM Z j).2.2.1 s args (zM Z j).2.2.2.2.1 (zM Z j).2.2.2.2.2 := ⟨hB.1, hB.2.1, hB.2.2.1, hB.2.2.2.2.2.1, hB.2.2.2.2.1⟩
  have hG := qw_goodN hin w5
  rcases hrcv with h0 | ⟨a, As2, q, eAs, hq2, cell, hcell, hst, hcl⟩
  · exact absurd h0 hrc
  · obtain ⟨Tq, Nq, hq3⟩ := hq
    have eq : q.1 = y.cls := by have := Option.some.inj (hq2.symm.trans hq3); rw [this]
    rw [eq] at hcl
    subst eAs
    have hlen2 : As2.length = n := by have : As2.length + 1 = n + 1 := hlen; omega
    exact vx_runI S hM ⟨callB_of n hB.2.2.2.2.1 hG rfl hrm1 hrm2 (hT _ w4) (hT _ w1) hd ⟨hfr, hlo⟩, w3, hT _ w2⟩ ⟨hbl, hPc⟩ (g := F0 m pc la ((Value.ref a :: As2).reverse ++ rest)) rfl hlen2 (hsz.trans hB.2.2.1) (by show (Value.ref a :: As2).reverse ++ rest = As2.reverse ++ Value.ref a :: rest; rw [List.reverse_cons, List.append_assoc]; rfl) (by show 2 * 0 + (rest.map fun v => v.category).sum ≤ 8; have : (rest.map fun v => v.category).sum ≤ 8 := hrest; omega) h hcs
theorem qk_invSX {Z : qe_Z} {j pc idx jj n rc maxL : Nat} {y : MethodName} {bytes : ByteArray} {ret : Option FieldType} {hh : List (Nat × Nat × Nat × Nat)} (hin : ∀ w ∈ qw_G, w ∈ (zM Z j).2.2.2.2.1) (hjj : zM Z jj = (y, bytes, maxL, ret, Cond.codeWith y bytes maxL ret hh :: qw_G, y.cls)) (h : decode (zM Z j).2.1 pc = .ok (.invokestatic idx, 3)) (w1 : Cond.methodLink (zM Z j).2.2.2.2.2 idx y ∈ qw_G) (w2 : Cond.static y ∈ qw_G) (w4 : Cond.initialized y.cls ∈ qw_G) (w5 : Cond.codeWith y bytes maxL ret hh ∈ qw_G) (hd : qw_d y n) : qc_inv Z j pc (pc + 3) jj n 0 := by
  intro p l e R s m args below meth c H locs cells slots la rest As rm Pc Qc XC mc ms free A hB hX hM hrm1 hrm2 hfr hlo hbl hrcv hPc hlen hsz hrest hcs
  rw [hjj] at hM hlo
  refine ⟨rfl, ?_⟩
  have hT : ∀ w ∈ qw_G, w.before args s = true := fun w hw => hB.2.2.2.2.1 w (hin w hw)
  have S : CallFix p m c (zM Z j).2.1 (zM Z j).2.2.1 s args (zM Z j).2.2.2.2.1 (zM Z j).2.2.2.2.2 := ⟨hB.1, hB.2.1, hB.2.2.1, hB.2.2.2.2.2.1, hB.2.2.2.2.1⟩
  have hG := qw_goodN hin w5
  exact vx_runSX S hM ⟨⟨hrm1, hrm2, hfr, hlo, pay_in hB.2.2.2.2.1 hG, List.mem_cons_self⟩, hT _ w5, hT _ w4, ⟨hd.1, hd.2.1⟩, fun sig hs => (Option.some.inj ((by rw [← hd.2.2, hs]; rfl : some sig.parameters.length = some n))).symm, hT _ w1, hT _ w2⟩ ⟨hbl, hPc⟩ (g := F0 m pc la (As.reverse ++ rest)) rfl hlen (hsz.trans hB.2.2.1) rfl (by show 2 * 0 + (rest.map fun v => v.category).sum ≤ 8; have : (rest.map fun v => v.category).sum ≤ 8 := hrest; omega) h hcs
theorem qk_invSN {Z : qe_Z} {j pc idx jj n rc maxL : Nat} {y : MethodName} {bytes : ByteArray} {ret : Option FieldType} {host : String} (hin : ∀ w ∈ qw_G, w ∈ (zM Z j).2.2.2.2.1) (hjj : zM Z jj = (y, bytes, maxL, ret, Cond.code y bytes maxL ret :: qw_G, y.cls)) (h : decode (zM Z j).2.1 pc = .ok (.invokestatic idx, 3)) (w1 : ∀ (A : Nat → Prop) (s : State) (H : Heap), zX Z A s H → va_Nw (.methodLinkNest (zM Z j).2.2.2.2.2 idx y host) s) (w2 : Cond.static y ∈ qw_G) (w4 : Cond.initialized y.cls ∈ qw_G) (w5 : Cond.code y bytes maxL ret ∈ qw_G) (hd : qw_d y n) : qc_inv Z j pc (pc + 3) jj n 0 := by
  intro p l e R s m args below meth c H locs cells slots la rest As rm Pc Qc XC mc ms free A hB hX hM hrm1 hrm2 hfr hlo hbl hrcv hPc hlen hsz hrest hcs
  rw [hjj] at hM hlo
  refine ⟨rfl, ?_⟩
  have hT : ∀ w ∈ qw_G, w.before args s = true := fun w hw => hB.2.2.2.2.1 w (hin w hw)
  have S : CallFix p m c (zM Z j).2.1 (zM Z j).2.2.1 s args (zM Z j).2.2.2.2.1 (zM Z j).2.2.2.2.2 := ⟨hB.1, hB.2.1, hB.2.2.1, hB.2.2.2.2.2.1, hB.2.2.2.2.1⟩
  have hG := qw_goodN hin w5
  exact vx_runSN S hM ⟨va_cnB n hB.2.2.2.2.1 hG rfl hrm1 hrm2 (w1 A s s.heap hX) (hT _ w4) hd ⟨hfr, hlo⟩, hT _ w2, trivial⟩ ⟨hbl, hPc⟩ (g := F0 m pc la (As.reverse ++ rest)) rfl hlen (hsz.trans hB.2.2.1) rfl (by show 2 * 0 + (rest.map fun v => v.category).sum ≤ 8; have : (rest.map fun v => v.category).sum ≤ 8 := hrest; omega) h hcs
theorem qk_invIN {Z : qe_Z} {j pc idx jj n rc maxL : Nat} {y : MethodName} {bytes : ByteArray} {host : String} (hin : ∀ w ∈ qw_G, w ∈ (zM Z j).2.2.2.2.1) (hjj : zM Z jj = (y, bytes, maxL, none, Cond.code y bytes maxL none :: qw_G, y.cls)) (h : decode (zM Z j).2.1 pc = .ok (.invokespecial idx, 3)) (w1 : ∀ (A : Nat → Prop) (s : State) (H : Heap), zX Z A s H → va_Nw (.methodLinkNest (zM Z j).2.2.2.2.2 idx y host) s) (w2 : Cond.instanceMethod y ∈ qw_G) (w3 : y.name = "<init>") (w4 : Cond.initialized y.cls ∈ qw_G) (w5 : Cond.code y bytes maxL none ∈ qw_G) (hd : qw_d y n) (hrc : rc ≠ 0) (hq : ∃ T N, (zc Z)[rc - 1]? = some (y.cls, T, N)) : qc_inv Z j pc (pc + 3) jj (n + 1) rc := by
  intro p l e R s m args below meth c H locs cells slots la rest As rm Pc Qc XC mc ms free A hB hX hM hrm1 hrm2 hfr hlo hbl hrcv hPc hlen hsz hrest hcs
  rw [hjj] at hM hlo
  refine ⟨rfl, ?_⟩
  have hT : ∀ w ∈ qw_G, w.before args s = true := fun w hw => hB.2.2.2.2.1 w (hin w hw)
  have S : CallFix p m c (zM Z j).2.1 (zM Z j).2.2.1 s args (zM Z j).2.2.2.2.1 (zM Z j).2.2.2.2.2 := ⟨hB.1, hB.2.1, hB.2.2.1, hB.2.2.2.2.2.1, hB.2.2.2.2.1⟩
  have hG := qw_goodN hin w5
  rcases hrcv with h0 | ⟨a, As2, q, eAs, hq2, cell, hcell, hst, hcl⟩
  · exact absurd h0 hrc
  · obtain ⟨Tq, Nq, hq3⟩ := hq
    have eq : q.1 = y.cls := by have := Option.some.inj (hq2.symm.trans hq3); rw [this]
    rw [eq] at hcl
    subst eAs
    have hlen2 : As2.length = n := by have : As2.length + 1 = n + 1 := hlen; omega
    exact vx_runIN S hM ⟨va_cnB n hB.2.2.2.2.1 hG rfl hrm1 hrm2 (w1 A s s.heap hX) (hT _ w4) hd ⟨hfr, hlo⟩, w3, hT _ w2⟩ ⟨hbl, hPc⟩ (g := F0 m pc la ((Value.ref a :: As2).reverse ++ rest)) rfl hlen2 (hsz.trans hB.2.2.1) (by show (Value.ref a :: As2).reverse ++ rest = As2.reverse ++ Value.ref a :: rest; rw [List.reverse_cons, List.append_assoc]; rfl) (by show 2 * 0 + (rest.map fun v => v.category).sum ≤ 8; have : (rest.map fun v => v.category).sum ≤ 8 := hrest; omega) h hcs
theorem qk_invVN {Z : qe_Z} {j pc idx jj n rc maxL : Nat} {y : MethodName} {bytes : ByteArray} {ret : Option FieldType} {host : String} (hin : ∀ w ∈ qw_G, w ∈ (zM Z j).2.2.2.2.1) (hjj : zM Z jj = (y, bytes, maxL, ret, Cond.code y bytes maxL ret :: qw_G, y.cls)) (h : decode (zM Z j).2.1 pc = .ok (.invokevirtual idx, 3)) (w1 : ∀ (A : Nat → Prop) (s : State) (H : Heap), zX Z A s H → va_Nw (.methodLinkNest (zM Z j).2.2.2.2.2 idx y host) s) (w2 : Cond.instanceMethod y ∈ qw_G) (w3 : Cond.selects y.cls y y ∈ qw_G) (w4 : Cond.initialized y.cls ∈ qw_G) (w5 : Cond.code y bytes maxL ret ∈ qw_G) (hd : qw_d y n) (hrc : rc ≠ 0) (hq : ∃ T N, (zc Z)[rc - 1]? = some (y.cls, T, N)) : qc_inv Z j pc (pc + 3) jj (n + 1) rc := by
  intro p l e R s m args below meth c H locs cells slots la rest As rm Pc Qc XC mc ms free A hB hX hM hrm1 hrm2 hfr hlo hbl hrcv hPc hlen hsz hrest hcs
  rw [hjj] at hM hlo
  refine ⟨rfl, ?_⟩
  have hT : ∀ w ∈ qw_G, w.before args s = true := fun w hw => hB.2.2.2.2.1 w (hin w hw)
  have S : CallFix p m c (zM Z j).2.1 (zM Z j).2.2.1 s args (zM Z j).2.2.2.2.1 (zM Z j).2.2.2.2.2 := ⟨hB.1, hB.2.1, hB.2.2.1, hB.2.2.2.2.2.1, hB.2.2.2.2.1⟩
  have hG := qw_goodN hin w5
  rcases hrcv with h0 | ⟨a, As2, q, eAs, hq2, cell, hcell, hst, hcl⟩
  · exact absurd h0 hrc
  · obtain ⟨Tq, Nq, hq3⟩ := hq
    have eq : q.1 = y.cls := by have := Option.some.inj (hq2.symm.trans hq3); rw [this]
    rw [eq] at hcl
    subst eAs
    have hlen2 : As2.length = n := by have : As2.length + 1 = n + 1 := hlen; omega
    exact vx_runVN S hM ⟨va_cnB n hB.2.2.2.2.1 hG rfl hrm1 hrm2 (w1 A s s.heap hX) (hT _ w4) hd ⟨hfr, hlo⟩, hT _ w2, hT _ w3⟩ ⟨hbl, ⟨cell, hcell, hst, hcl⟩, hPc⟩ (g := F0 m pc la ((Value.ref a :: As2).reverse ++ rest)) rfl hlen2 (hsz.trans hB.2.2.1) (by show (Value.ref a :: As2).reverse ++ rest = As2.reverse ++ Value.ref a :: rest; rw [List.reverse_cons, List.append_assoc]; rfl) (by show 2 * 0 + (rest.map fun v => v.category).sum ≤ 8; have : (rest.map fun v => v.category).sum ≤ 8 := hrest; omega) h hcs
end QEI
end
section
/-! ENGINE, part 15: what lies outside the world; the script, the texts' constants, throws, handlers -/
section QEO
/-- what the walk is told of the tables that do not last by themselves: nest mates' links, castable and not, declared, String constants (class, place, text, number) -/
abbrev qw_O : Type := List (String × Nat × MethodName × String) × List (String × String) × List MethodName × List (String × String) × List (String × Nat × String × Nat)
def qw_X (O : qw_O) (ext : Nat → Nat) (L : Nat) (rho : Nat → Int32) (A : Nat → Prop) (U : State) (H : Heap) : Prop :=
  (vx_Zq Bundle.tN "UNASSIGNED_STACK" Bundle.steD A U H ∧ vx_Zq Bundle.tN "SUPPRESSED_SENTINEL" Bundle.listD A U H) ∧
  ((∀ q ∈ O.1, va_Nw (.methodLinkNest q.1 q.2.1 q.2.2.1 q.2.2.2) U) ∧ (∀ q ∈ O.2.1, va_Nw (.castable q.1 q.2) U) ∧ (∀ y ∈ O.2.2.1, va_Nw (.declares y) U) ∧ (∀ q ∈ O.2.2.2.1, va_Nc q.1 q.2 U)) ∧
  (va_X (ext 0) L rho U H ∧ ext 0 < H.size ∧ ¬ A (ext 0)) ∧ va_Z "java/lang/String" "COMPACT_STRINGS" "Z" (.int 1) A U H ∧
  (∀ q ∈ O.2.2.2.2, vk_R q.1 q.2.1 q.2.2.1 (ext q.2.2.2) U ∧ va_O "java/lang/String" (ext q.2.2.2) A U H ∧ va_OF "java/lang/String" "coder" "B" (.int 0) (ext q.2.2.2) A U H ∧ ∃ (b : Nat) (f : Nat → Value), va_OF "java/lang/String" "value" "[B" (.ref b) (ext q.2.2.2) A U H ∧ va_T .byte b q.2.2.1.length f A U H)
theorem qw_X_warm {O : qw_O} {ext : Nat → Nat} {L : Nat} {rho : Nat → Int32} (A : Nat → Prop) (s U : State) (H : Heap) (hW : s.WarmedH U.vm) (h : qw_X O ext L rho A s H) : qw_X O ext L rho A U H := by
  obtain ⟨⟨a1, a2⟩, ⟨b1, b2, b3, b4⟩, ⟨c1, c2, c3⟩, d, f⟩ := h
  have hal := hW.alike
  refine ⟨⟨a1.moved hal, a2.moved hal⟩, ⟨fun q hq => va_Nw.warmM hW (b1 q hq), fun q hq => va_Nw.warmC hW (b2 q hq), fun y hy => va_Nw.warmD hW (b3 y hy), fun q hq => (b4 q hq).moved hal⟩, ⟨c1.moved hal, c2, c3⟩, d.moved hal, fun q hq => ?_⟩
  obtain ⟨f1, f2, f3, b, g, f4, f5⟩ := f q hq
  exact ⟨f1.warm hW, f2.moved hal, f3.moved hal, b, g, f4.moved hal, f5.moved hal⟩
theorem qw_X_kept {O : qw_O} {ext : Nat → Nat} {L : Nat} {rho : Nat → Int32} (A : Nat → Prop) (U : State) (H H1 : Heap) (h : qw_X O ext L rho A U H) (hk : ∀ a : Nat, a < H.size → ¬ A a → H1[a]? = H[a]?) : qw_X O ext L rho A U H1 := by
  obtain ⟨⟨a1, a2⟩, b, ⟨c1, c2, c3⟩, d, f⟩ := h
  have e0 := hk (ext 0) c2 c3
  refine ⟨⟨a1.kept hk, a2.kept hk⟩, b, ⟨c1.kept e0, ?_, c3⟩, d.kept hk, fun q hq => ?_⟩
  · rw [Array.getElem?_eq_getElem c2] at e0
    exact (Array.getElem?_eq_some_iff.mp e0).1
  obtain ⟨f1, f2, f3, b, g, f4, f5⟩ := f q hq
  exact ⟨f1, f2.kept hk, f3.kept hk, b, g, f4.kept hk, f5.kept hk⟩
theorem qw_X_narrow {O : qw_O} {ext : Nat → Nat} {L : Nat} {rho : Nat → Int32} (A B : Nat → Prop) (U : State) (H : Heap) (hAB : ∀ q, B q → A q) (h : qw_X O ext L rho A U H) : qw_X O ext L rho B U H := by
  obtain ⟨⟨a1, a2⟩, b, ⟨c1, c2, c3⟩, d, f⟩ := h
  refine ⟨⟨a1.narrow hAB, a2.narrow hAB⟩, b, ⟨c1, c2, fun z => c3 (hAB _ z)⟩, d.narrow hAB, fun q hq => ?_⟩
  obtain ⟨f1, f2, f3, b, g, f4, f5⟩ := f q hq
  exact ⟨f1, f2.narrow hAB, f3.narrow hAB, b, g, f4.narrow hAB, f5.narrow hAB⟩
theorem qz_of {Z : qe_Z} {O : qw_O} {L : Nat} (h : zX Z = qw_X O (zE Z).2.2.1 L (zE Z).2.2.2) : qz_ok Z := by
  refine ⟨?_, ?_, ?_⟩
  · rw [h]; exact qw_X_warm
  · rw [h]; exact qw_X_kept
  · rw [h]; exact qw_X_narrow
/-- the script -/
theorem qk_xlen {Z : qe_Z} {O : qw_O} {L j pc : Nat} (hX : zX Z = qw_X O (zE Z).2.2.1 L (zE Z).2.2.2) (h : decode (zM Z j).2.1 pc = .ok (.arraylength, 1)) : qc_xlen Z j pc (pc + 1) L := by
  intro p l e R s m args below meth c H locs cells slots la rest Q hB A hx hS kk
  rw [hX] at hx
  obtain ⟨-, -, ⟨c1, c2, c3⟩, -, -⟩ := hx
  exact va_slen hB.1 hB.2.1 c1 c2 c3 hS h kk
theorem qe_xin {i L : Nat} (h : i < L) (h2 : i < 65536) : vp_in (Int32.ofNat i) L ∧ (Int32.ofNat i).toNatClampNeg = i := by
  have e1 : (Int32.ofNat i).toInt = (i : Int) := by
    rw [Int32.toInt_ofNat_of_lt (by omega)]
  have e2 : (Int32.ofNat i).toNatClampNeg = i := by
    show (Int32.ofNat i).toInt.toNat = i
    rw [e1]; rfl
  refine ⟨?_, e2⟩
  intro q
  rcases q with q | q
  · have := Int32.lt_iff_toInt_lt.mp q
    rw [e1] at this
    have h0 : (0 : Int32).toInt = 0 := by decide
    rw [h0] at this
    omega
  · rw [e2] at q; omega
theorem qk_xld {Z : qe_Z} {O : qw_O} {L j pc : Nat} (hX : zX Z = qw_X O (zE Z).2.2.1 L (zE Z).2.2.2) (h : decode (zM Z j).2.1 pc = .ok (.iaload, 1)) : qc_xld Z j pc (pc + 1) L := by
  intro p l e R s m args below meth c H locs cells slots la rest Q hB A hx hS i hi hi2 kk
  rw [hX] at hx
  obtain ⟨-, -, ⟨c1, c2, c3⟩, -, -⟩ := hx
  obtain ⟨g1, g2⟩ := qe_xin hi hi2
  refine va_sld hB.1 hB.2.1 c1 c2 c3 hS g1 h ?_
  rw [g2]
  exact kk
/-- a String constant -/
theorem qk_pstr {Z : qe_Z} {O : qw_O} {L j pc index i : Nat} {tx : String} (hX : zX Z = qw_X O (zE Z).2.2.1 L (zE Z).2.2.2) (hq : ((zM Z j).2.2.2.2.2, index, tx, i) ∈ O.2.2.2.2) (h : decode (zM Z j).2.1 pc = .ok (.ldc index, 2)) : qc_pstr Z j pc (pc + 2) i := by
  intro p l e R s m args below meth c H locs cells slots la rest Q hB A hx kk
  rw [hX] at hx
  obtain ⟨-, -, -, -, f⟩ := hx
  exact va_ldcS hB.1 hB.2.1 hB.2.2.2.2.2.1 (f _ hq).1 h kk
/-- nothing is caught in this method -/
theorem qk_out {Z : qe_Z} {j pc i : Nat} (hT : ∀ c : Code, zT Z j c → ∀ x ∈ c.exceptionTable.toList, covers x pc = false) : qc_out Z j pc i := by
  intro p l e R s m args below meth c H locs cells slots la rest A QC XC hB hZ q ce h1 h2 h3 hx h4 h5 h6 h7
  exact vx_out (hT c hZ) hB.2.2.2.2.2.2.1 h1 h2 h3 h4 h5 h6 h7
/-- a throw -/
theorem qk_thr {Z : qe_Z} {O : qw_O} {L j pc i sn ik is ic : Nat} {cls tx : String} {names : List String} {B : List Cond} (hX : zX Z = qw_X O (zE Z).2.2.1 L (zE Z).2.2.2) (hin : ∀ w ∈ qw_G, w ∈ (zM Z j).2.2.2.2.1) (hcls : Bundle.fit cls = true) (hnames : ∀ n ∈ names, Bundle.fit n = true) (hnl : names.length ≤ 4)
    (hk : Cond.classLink (zM Z j).2.2.2.2.2 ik cls ∈ qw_G) (hini : Cond.initialized cls ∈ qw_G) (hstr : ((zM Z j).2.2.2.2.2, is, tx, sn) ∈ O.2.2.2.2)
    (hat1 : ∀ w ∈ (vx_atS (zM Z j).2.2.2.2.2 ic cls names).filter goodWord, w ∈ qw_G) (hat2 : ∀ w ∈ (vx_atS (zM Z j).2.2.2.2.2 ic cls names).filter (fun w => !goodWord w), w ∈ B) (hB : ∀ w ∈ B, (∃ q ∈ O.2.1, w = .castable q.1 q.2) ∨ (∃ y ∈ O.2.2.1, w = .declares y))
    (hgood : ∀ w ∈ Cond.classLink (zM Z j).2.2.2.2.2 ik cls :: Cond.initialized cls :: vx_atS (zM Z j).2.2.2.2.2 ic cls names, vx_ot w = true) (hzn : zn Z i = cls)
    (hdec : (decode (zM Z j).2.1 pc = .ok (.new ik, 3) ∧ decode (zM Z j).2.1 (pc + 3) = .ok (.dup, 1) ∧ decode (zM Z j).2.1 (pc + 4) = .ok (.ldc is, 2) ∧ decode (zM Z j).2.1 (pc + 6) = .ok (.invokespecial ic, 3) ∧ decode (zM Z j).2.1 (pc + 9) = .ok (.athrow, 1)) ∨ (decode (zM Z j).2.1 pc = .ok (.new ik, 3) ∧ decode (zM Z j).2.1 (pc + 3) = .ok (.dup, 1) ∧ decode (zM Z j).2.1 (pc + 4) = .ok (.ldc_w is, 3) ∧ decode (zM Z j).2.1 (pc + 7) = .ok (.invokespecial ic, 3) ∧ decode (zM Z j).2.1 (pc + 10) = .ok (.athrow, 1)))
    (hT : ∀ c : Code, zT Z j c → ∀ x ∈ c.exceptionTable.toList, False) : qc_thr Z j pc i := by
  intro p l e R s m args below meth c H locs cells slots la rest A QC XC hb hx hS hA hz hsz hf hlo hc hs hrest hxc
  rw [hX] at hx
  obtain ⟨⟨a1, a2⟩, ⟨b1, b2, b3, b4⟩, -, -, f⟩ := hx
  have hw : ∀ w ∈ qw_G, w.before args s = true := fun w h => hb.2.2.2.2.1 w (hin w h)
  have hat : ∀ w ∈ vx_atS (zM Z j).2.2.2.2.2 ic cls names, w.before args s = true := vx_hat (B := B) (fun w h => hw w (hat1 w h)) hat2 (fun w h => by
    rcases hB w h with ⟨q, h1, h2⟩ | ⟨y, h1, h2⟩
    · rw [h2]; exact va_Nw.use rfl (b2 q h1)
    · rw [h2]; exact va_Nw.use rfl (b3 y h1))
  have hr : (rest.map fun v => v.category).sum ≤ 8 := hrest
  have hloc : ∀ q ∈ locs, A q.base := hS.2.2
  rw [hzn] at hxc
  rcases hdec with ⟨d0, d3, d4, d6, d9⟩ | ⟨d0, d3, d4, d7, d10⟩
  · exact vx_throwS hb.1 hb.2.1 hb.2.2.2.2.2.2.2.2 hb.2.2.2.2.2.1 hcls hnames (hw _ hk) (hw _ hini) (f _ hstr).1 hat hgood a1 a2 hS hsz d0 d3 d4 d6 d9 (fun x h => absurd (hT c hz x h) id) (by omega) (by omega) hc hs hb.2.2.2.2.2.2.1 hxc hloc hc hs
  · exact vx_throwSW hb.1 hb.2.1 hb.2.2.2.2.2.2.2.2 hb.2.2.2.2.2.1 hcls hnames (hw _ hk) (hw _ hini) (f _ hstr).1 hat hgood a1 a2 hS hsz d0 d3 d4 d7 d10 (fun x h => absurd (hT c hz x h) id) (by omega) (by omega) hc hs hb.2.2.2.2.2.2.1 hxc hloc hc hs
end QEO
end
section
/-! ENGINE, part 16: the length of a String constant -/
section QES
theorem qy_1 : Cond.fieldLink RJ0 9 "java/lang/String" "value" "[B" ∈ qw_G := qw_in 1866 (by decide +kernel) (by decide +kernel)
theorem qy_2 : Cond.fieldLink RJ0 15 "java/lang/String" "coder" "B" ∈ qw_G := qw_in 1867 (by decide +kernel) (by decide +kernel)
theorem qy_3 : Cond.fieldLink RJ0 38 "java/lang/String" "COMPACT_STRINGS" "Z" ∈ qw_G := qw_in 1028 (by decide +kernel) (by decide +kernel)
theorem qy_4 : Cond.methodLink RJ0 335 yJ0_coder_7d493 ∈ qw_G := qw_in 1024 (by decide +kernel) (by decide +kernel)
theorem qy_5 : Cond.instanceMethod yJ0_coder_7d493 ∈ qw_G := qw_in 1025 (by decide +kernel) (by decide +kernel)
theorem qy_6 : Cond.selects RJ0 yJ0_coder_7d493 yJ0_coder_7d493 ∈ qw_G := qw_in 1026 (by decide +kernel) (by decide +kernel)
theorem qy_7 : Cond.initialized RJ0 ∈ qw_G := qw_in 120 (by decide +kernel) (by decide +kernel)
theorem qy_8 : Cond.code yJ0_coder_7d493 cJ0_coder_7d493 1 (some .byte) ∈ qw_G := qw_in 1027 (by decide +kernel) (by decide +kernel)
theorem qy_9 : Cond.instanceMethod yJ0_length_8abf5 ∈ qw_G := qw_in 1021 (by decide +kernel) (by decide +kernel)
theorem qy_10 : Cond.selects RJ0 yJ0_length_8abf5 yJ0_length_8abf5 ∈ qw_G := qw_in 1022 (by decide +kernel) (by decide +kernel)
theorem qy_11 : Cond.code yJ0_length_8abf5 cJ0_length_8abf5 1 (some .int) ∈ qw_G := qw_in 1023 (by decide +kernel) (by decide +kernel)
def qy_Bc : qe_B := (yJ0_coder_7d493, cJ0_coder_7d493, 1, some .byte, Cond.code yJ0_coder_7d493 cJ0_coder_7d493 1 (some .byte) :: qw_G, RJ0)
def qy_Bl : qe_B := (yJ0_length_8abf5, cJ0_length_8abf5, 1, some .int, Cond.code yJ0_length_8abf5 cJ0_length_8abf5 1 (some .int) :: qw_G, RJ0)
def qy_rm0 : Room := { frames := 1, cells := 0, slots := 0, locals := 20 }
def qy_rm1 : Room := { frames := 4, cells := 0, slots := 0, locals := 60 }
def qy_C (a : Nat) (U : State) : Prop := ∃ A : Nat → Prop, va_Z "java/lang/String" "COMPACT_STRINGS" "Z" (.int 1) A U U.heap ∧ va_OF "java/lang/String" "coder" "B" (.int 0) a A U U.heap
def qy_Q (v : Int32) : Array Value → State → Outcome → State → Prop := fun _ st oc u => oc = .returned (some (.int v)) ∧ u.heap = st.heap
def qy_no : String → State → State → Prop := fun _ _ _ => False
theorem qy_bd {Bq : qe_B} {p : Program} {l : Launch} {e : Env} {s s₁ : State} {m : MethodId} {args : Array Value} {below : List Frame} {meth : Method} {c : Code} {rm : Room} (hcls : Bq.1.cls = Bq.2.2.2.2.2) (hni : Bq.1.name ≠ "<init>") (hl : l.stackTraces = false)
    (B : BodyLoose p l Bq.1 (headSpec Bq.2.2.2.2.1 rm) Bq.2.1 Bq.2.2.1 Bq.2.2.2.1 e s m args below meth c s₁) (hml : c.maxLocals = Bq.2.2.1) : qe_bd Bq p l s m args meth c :=
  ⟨B.exec, B.bytes, hml, B.returns, atoms_spec (ws := Bq.2.2.2.2.1) B.pre, by rw [← hcls]; exact findClass_of_methodNamed B.named, B.notSynchronized, fun h => absurd h hni, hl⟩
theorem qy_coder {l : Launch} (hl : l.stackTraces = false) (a : Nat) : vx_Met l qy_Bc.1 qy_Bc.2.2.2.2.1 qy_rm0 (va_Pc [.ref a] (qy_C a)) (qy_Q 0) qy_no 0 0 (fun _ => False) := by
  refine vx_ofW (cc := qy_Bc.2.1) (maxL := qy_Bc.2.2.1) (ret := qy_Bc.2.2.2.1) (ws' := qw_G) (by decide +kernel) rfl ?_
  intro p e s m args below meth c s₁ B hml htab hP
  obtain ⟨hargs, A, hZ, hF⟩ := hP
  subst hargs
  have hB := qy_bd (Bq := qy_Bc) rfl (by decide +kernel) hl B hml
  have hw : ∀ w ∈ qw_G, w.before [Value.ref a].toArray s = true := fun w h => hB.2.2.2.2.1 w (List.mem_cons_of_mem _ h)
  have hlv := lv_entry [Value.ref a] (n := 1) (Nat.le_refl 1)
  have hla := hlv.2.2 (0, Value.ref a) (by show (0, Value.ref a) ∈ [(0, Value.ref a)]; exact List.mem_cons_self)
  have hown := hB.2.2.2.2.2.1
  have hS : va_S A s.heap s.heap [] := va_S.rf
  rw [lg_entry_eq]
  refine va_gets (cc := qy_Bc.2.1) (own := RJ0) (index := 38) (ref := "java/lang/String") hB.1 hB.2.1 hZ hS hown (hw _ qy_3) (fun x h => h) (by decide +kernel) ?_
  refine qk_if_eq (B := qy_Bc) (pc := 3) (tgt := 13) (off := 10) (by decide +kernel) rfl hB 1 ?_
  refine qk_aload_n (B := qy_Bc) (pc := 6) (i := 0) (n := 0) (by decide +kernel) rfl hB (Value.ref a) hla ⟨a, rfl⟩ ?_
  refine vk_getf (cc := qy_Bc.2.1) (own := RJ0) (index := 15) (ref := "java/lang/String") hB.1 hB.2.1 hF hS hown (hw _ qy_2) (fun x h => h) (by decide +kernel) ?_
  refine qk_goto (B := qy_Bc) (pc := 10) (tgt := 14) (off := 4) (by decide +kernel) rfl hB ?_
  refine vx_ret ?_
  exact W.zret (ty := .byte) hB.1 hB.2.1 hB.2.2.2.1 rfl (fun t h9 _ => ⟨rfl, h9⟩) (fun z hz => absurd hz List.not_mem_nil) (by decide +kernel) hB.2.2.2.2.2.2.1
theorem qy_shr0 (x : Int32) : qe_sem 17 x 0 = x := by
  have h := qe_sem_op 17 x.toBitVec.toNat 0
  have e1 : Int32.ofNat x.toBitVec.toNat = x := by
    apply Int32.toBitVec_inj.mp
    show BitVec.ofNat 32 x.toBitVec.toNat = x.toBitVec
    exact BitVec.ofNat_toNat _ _ |>.trans (BitVec.setWidth_eq _)
  rw [e1] at h
  show x >>> (0 : Int32) = x
  simp
def qy_L (a n : Nat) (U : State) : Prop := ∃ A : Nat → Prop, va_Z "java/lang/String" "COMPACT_STRINGS" "Z" (.int 1) A U U.heap ∧ va_O "java/lang/String" a A U U.heap ∧ va_OF "java/lang/String" "coder" "B" (.int 0) a A U U.heap ∧ ∃ (b : Nat) (f : Nat → Value), va_OF "java/lang/String" "value" "[B" (.ref b) a A U U.heap ∧ va_T .byte b n f A U U.heap
theorem qy_C_blind (a : Nat) : FrameBlind (va_Pc [.ref a] (qy_C a)) := by
  intro x U g mk h
  obtain ⟨h1, A, h2, h3⟩ := h
  exact ⟨h1, A, h2.moved (u := U) (U := U.calling g mk x) (Vm.Alike.refl U.vm), h3.moved (u := U) (U := U.calling g mk x) (Vm.Alike.refl U.vm)⟩
theorem qy_L_blind (a n : Nat) : FrameBlind (va_Pc [.ref a] (qy_L a n)) := by
  intro x U g mk h
  have k : U.vm.Alike (U.calling g mk x).vm := Vm.Alike.refl U.vm
  obtain ⟨h1, A, h2, h3, h4, b, f, h5, h6⟩ := h
  exact ⟨h1, A, h2.moved k, h3.moved k, h4.moved k, b, f, h5.moved k, h6.moved k⟩
theorem qy_length {l : Launch} (hl : l.stackTraces = false) (a n : Nat) : vx_Met l qy_Bl.1 qy_Bl.2.2.2.2.1 qy_rm1 (va_Pc [.ref a] (qy_L a n)) (qy_Q (Int32.ofNat n)) qy_no 0 0 (fun _ => False) := by
  refine vx_ofW (cc := qy_Bl.2.1) (maxL := qy_Bl.2.2.1) (ret := qy_Bl.2.2.2.1) (ws' := qw_G) (by decide +kernel) rfl ?_
  intro p e s m args below meth c s₁ B hml htab hP
  obtain ⟨hargs, A, hZ, hO, hF, b, f, hV, hT⟩ := hP
  subst hargs
  have hB := qy_bd (Bq := qy_Bl) rfl (by decide +kernel) hl B hml
  have hw : ∀ w ∈ qw_G, w.before [Value.ref a].toArray s = true := fun w h => hB.2.2.2.2.1 w (List.mem_cons_of_mem _ h)
  have hlv := lv_entry [Value.ref a] (n := 1) (Nat.le_refl 1)
  have hla := hlv.2.2 (0, Value.ref a) (by show (0, Value.ref a) ∈ [(0, Value.ref a)]; exact List.mem_cons_self)
  have hsz := hlv.1
  have hown := hB.2.2.2.2.2.1
  have hS : va_S A s.heap s.heap [] := va_S.rf
  rw [lg_entry_eq]
  refine qk_aload_n (B := qy_Bl) (pc := 0) (i := 0) (n := 0) (by decide +kernel) rfl hB (Value.ref a) hla ⟨a, rfl⟩ ?_
  refine vk_getf (cc := qy_Bl.2.1) (own := RJ0) (index := 9) (ref := "java/lang/String") hB.1 hB.2.1 hV hS hown (hw _ qy_1) (fun x h => h) (by decide +kernel) ?_
  obtain ⟨scr, g1, g2, g3, g4, g5, g6, g7⟩ := hT
  refine W.alen (n := Int32.ofNat n) (cc := qy_Bl.2.1) hB.1 hB.2.1 g1 g2 g5 rfl rfl (show decode qy_Bl.2.1 4 = .ok (.arraylength, 1) by decide +kernel) ?_
  refine qk_aload_n (B := qy_Bl) (pc := 5) (i := 0) (n := 0) (by decide +kernel) rfl hB (Value.ref a) hla ⟨a, rfl⟩ ?_
  obtain ⟨cell, o1, o2, o3, -⟩ := hO
  have run := vx_runV (cells := 0) (slots := 0) (locs := []) (e := e) (R := qy_rm1) (below := below) (meth := meth) (l := l) (H := s.heap) (C := RJ0) (index := 335) (n := 0) (b := a) (As := []) (rest := [Value.int (Int32.ofNat n)]) (g := F0 m 6 _ [Value.ref a, Value.int (Int32.ofNat n)]) (cc := qy_Bl.2.1) (nL := 1) (own := RJ0)
    ⟨hB.1, hB.2.1, hB.2.2.1, hown, hB.2.2.2.2.1⟩ (qy_coder hl a) ⟨callB_of 0 hB.2.2.2.2.1 (qw_goodN (fun x h => List.mem_cons_of_mem _ h) qy_8) rfl rfl rfl (hw _ qy_7) (hw _ qy_4) (by decide +kernel) ⟨by decide, by decide⟩, hw _ qy_5, hw _ qy_6⟩
    ⟨qy_C_blind a, ⟨cell, o1, o2, o3⟩, fun U hU hW => ⟨rfl, A, by rw [hU]; exact hZ.moved hW.alike, by rw [hU]; exact hF.moved hW.alike⟩⟩ rfl rfl hsz rfl (by show 2 * 0 + 1 ≤ 8; omega) (show decode qy_Bl.2.1 6 = .ok (.invokevirtual 335, 3) by decide +kernel) ⟨Nat.le_refl 0, Nat.le_refl 0⟩
  intro T hT X
  rcases run T hT X with ⟨v, st₀, t, T2, L, h0, X2, hL, e1, e3, hq, st⟩ | ⟨q, st₀, t, T2, L, E9, ce, h0, X2, hL, e1, e3, hq, hce, hcv, hcl, st⟩
  · have hL0 : L = [] := by
      cases L with
      | nil => rfl
      | cons z _ => exact absurd (hL z List.mem_cons_self) id
    subst hL0
    obtain ⟨hq1, hq2⟩ := hq
    cases hq1
    have hT2 : T2.heap = s.heap := by rw [e1, hq2, h0]
    have w : W p l e qy_rm1 s m [Value.ref a].toArray below meth c s.heap [] 0 0 (vx_MQ below (qy_Q (Int32.ofNat n)) qy_no [Value.ref a].toArray s 0 0 (fun _ => False)) (F0 m 9 ((lg_sl [Value.ref a] ++ List.replicate (1 - (lg_sl [Value.ref a]).length) Slot.unset).toArray) (Value.int 0 :: Value.int (Int32.ofNat n) :: [])) := by
      refine qk_ishr (B := qy_Bl) (pc := 9) (by decide +kernel) (Int32.ofNat n) 0 hB ?_
      rw [qy_shr0]
      refine vx_ret ?_
      exact W.iret hB.1 hB.2.1 hB.2.2.2.1 (fun t h9 _ => ⟨rfl, h9⟩) (fun z hz => absurd hz List.not_mem_nil) (by decide +kernel) hB.2.2.2.2.2.2.1
    obtain ⟨t2, a1, b1⟩ := w T2 hT2 X2
    exact ⟨t2, st t2 a1, b1⟩
  · exact absurd hq id
/-- a String constant's length -/
theorem qk_slen {Z : qe_Z} {O : qw_O} {L j pc idx : Nat} {len : Nat → Nat} (hX : zX Z = qw_X O (zE Z).2.2.1 L (zE Z).2.2.2) (hin : ∀ w ∈ qw_G, w ∈ (zM Z j).2.2.2.2.1) (w1 : Cond.methodLink (zM Z j).2.2.2.2.2 idx yJ0_length_8abf5 ∈ qw_G)
    (hq : ∀ i, 0 < len i → ∃ q ∈ O.2.2.2.2, q.2.2.2 = i ∧ q.2.2.1.length = len i) (h : decode (zM Z j).2.1 pc = .ok (.invokevirtual idx, 3)) : qc_slen Z j pc (pc + 3) len := by
  intro p l e R s m args below meth c H locs cells slots la rest Q hB A hx hS hA hf hlo hrest hsz hc1 hc2 i hi kk
  rw [hX] at hx
  obtain ⟨q, q1, q2, q3⟩ := hq i hi
  obtain ⟨-, -, -, hZ, f⟩ := hx
  obtain ⟨-, hO, hF, b, g, hV, hT⟩ := f q q1
  rw [q2] at hO hF hV
  rw [q3] at hT
  have hw : ∀ w ∈ qw_G, w.before args s = true := fun w h => hB.2.2.2.2.1 w (hin w h)
  obtain ⟨cell, o1, o2, o3, -⟩ := hO.kept hS.2.1
  have run := vx_runV (cells := cells) (slots := slots) (locs := locs) (e := e) (R := R) (below := below) (meth := meth) (l := l) (H := H) (C := RJ0) (index := idx) (n := 0) (b := (zE Z).2.2.1 i) (As := []) (rest := rest) (g := F0 m pc la (Value.ref ((zE Z).2.2.1 i) :: rest)) (cc := (zM Z j).2.1) (nL := (zM Z j).2.2.1) (own := (zM Z j).2.2.2.2.2)
    ⟨hB.1, hB.2.1, hB.2.2.1, hB.2.2.2.2.2.1, hB.2.2.2.2.1⟩ (qy_length hB.2.2.2.2.2.2.2.2 ((zE Z).2.2.1 i) (len i)) ⟨callB_of 0 hB.2.2.2.2.1 (qw_goodN hin qy_11) rfl rfl rfl (hw _ qy_7) (hw _ w1) (by decide +kernel) ⟨by show 4 + 1 ≤ R.frames; omega, by show 8 + (1 + 11) + 60 ≤ R.locals; omega⟩, hw _ qy_9, hw _ qy_10⟩
    ⟨qy_L_blind _ _, ⟨cell, o1, o2, o3⟩, fun U hU hW => ⟨rfl, A, by rw [hU]; exact (hZ.kept hS.2.1).moved hW.alike, by rw [hU]; exact (hO.kept hS.2.1).moved hW.alike, by rw [hU]; exact (hF.kept hS.2.1).moved hW.alike, b, g, by rw [hU]; exact (hV.kept hS.2.1).moved hW.alike, by rw [hU]; exact (hT.kept hS.2.1).moved hW.alike⟩⟩ rfl rfl (hsz.trans hB.2.2.1) rfl (by show 2 * 0 + (rest.map fun v => v.category).sum ≤ 8; have : (rest.map fun v => v.category).sum ≤ 8 := hrest; omega) h ⟨hc1, hc2⟩
  intro T hT X
  rcases run T hT X with ⟨v, st₀, t, T2, L2, h0, X2, hL, e1, e3, hq, st⟩ | ⟨q9, st₀, t, T2, L2, E9, ce, h0, X2, hL, e1, e3, hq, hce, hcv, hcl, st⟩
  · have hL0 : L2 = [] := by
      cases L2 with
      | nil => rfl
      | cons z _ => exact absurd (hL z List.mem_cons_self) id
    subst hL0
    obtain ⟨hq1, hq2⟩ := hq
    cases hq1
    have hT2 : T2.heap = H := by rw [e1, hq2, h0]
    rw [List.append_nil] at X2
    obtain ⟨t2, a1, b1⟩ := kk T2 hT2 X2
    exact ⟨t2, st t2 a1, b1⟩
  · exact absurd hq id
/-- what is caught, and put away -/
theorem qk_cat {Z : qe_Z} {O : qw_O} {L j pc i pc2 lo : Nat} {name : String} (hX : zX Z = qw_X O (zE Z).2.2.1 L (zE Z).2.2.2) (hin : ∀ w ∈ qw_G, w ∈ (zM Z j).2.2.2.2.1) (pre : List ExceptionTableEntry) (x : ExceptionTableEntry) (suf : List ExceptionTableEntry)
    (hT : ∀ c : Code, zT Z j c → c.exceptionTable.toList = pre ++ x :: suf) (hpass : ∀ z ∈ pre, covers z pc = false ∨ (z.catchType ≠ 0 ∧ ∃ nm : String, Cond.classLink (zM Z j).2.2.2.2.2 z.catchType nm ∈ qw_G ∧ (zn Z i, nm) ∈ O.2.2.2.1))
    (hx : covers x pc = true) (h0 : x.catchType ≠ 0) (hl : Cond.classLink (zM Z j).2.2.2.2.2 x.catchType name ∈ qw_G) (hcast : (zn Z i, name) ∈ O.2.1) (hs : qc_s1 (zM Z j) x.handlerPc pc2 lo 2) : qc_cat Z j pc i pc2 lo := by
  intro p l e R s m args below meth c H locs cells slots la rest A QC XC hB hz q ce nL lv h1 h2 h3 hxx h4 h5 kk
  rw [hX] at hxx
  obtain ⟨-, ⟨b1, b2, b3, b4⟩, -, -, -⟩ := hxx
  have hw : ∀ w ∈ qw_G, w.before args s = true := fun w h => hB.2.2.2.2.1 w (hin w h)
  exact vx_catch hB.2.2.2.2.2.1 pre x suf (hT c hz) (fun z hz2 => by
    rcases hpass z hz2 with h | ⟨g1, nm, g2, g3⟩
    · exact Or.inl h
    · exact Or.inr ⟨g1, nm, hw _ g2, b4 _ g3⟩) hx h0 (hw _ hl) (va_Nw.use rfl (b2 _ hcast)) h1 h2 h3 (hs hB (Value.ref q) nL lv ⟨q, rfl⟩ h4 h5 kk)
end QES
end
section
/-! STATICS: made by wip/engine/gen21.py -/
section QEY
def qB_X9_init : qe_B := (yX9_init, cX9_init, 1, none, Cond.code yX9_init cX9_init 1 none :: qw_G, RX9)
theorem qi_X9_init : ∀ w ∈ qw_G, w ∈ qB_X9_init.2.2.2.2.1 := fun w h => List.mem_cons_of_mem _ h
def qB_X9_append : qe_B := (yX9_append, cX9_append, 5, (some .int), Cond.code yX9_append cX9_append 5 (some .int) :: qw_G, RX9)
theorem qi_X9_append : ∀ w ∈ qw_G, w ∈ qB_X9_append.2.2.2.2.1 := fun w h => List.mem_cons_of_mem _ h
def qB_X9_clear : qe_B := (yX9_clear, cX9_clear, 2, (some .int), Cond.code yX9_clear cX9_clear 2 (some .int) :: qw_G, RX9)
theorem qi_X9_clear : ∀ w ∈ qw_G, w ∈ qB_X9_clear.2.2.2.2.1 := fun w h => List.mem_cons_of_mem _ h
def qB_X9_add : qe_B := (yX9_add, cX9_add, 2, (some .int), Cond.code yX9_add cX9_add 2 (some .int) :: qw_G, RX9)
theorem qi_X9_add : ∀ w ∈ qw_G, w ∈ qB_X9_add.2.2.2.2.1 := fun w h => List.mem_cons_of_mem _ h
def qB_X9_remove : qe_B := (yX9_remove, cX9_remove, 2, (some .int), Cond.code yX9_remove cX9_remove 2 (some .int) :: qw_G, RX9)
theorem qi_X9_remove : ∀ w ∈ qw_G, w ∈ qB_X9_remove.2.2.2.2.1 := fun w h => List.mem_cons_of_mem _ h
def qB_X9_setBranch : qe_B := (yX9_setBranch, cX9_setBranch, 4, (some .int), Cond.code yX9_setBranch cX9_setBranch 4 (some .int) :: qw_G, RX9)
theorem qi_X9_setBranch : ∀ w ∈ qw_G, w ∈ qB_X9_setBranch.2.2.2.2.1 := fun w h => List.mem_cons_of_mem _ h
def qB_X9_setWeight : qe_B := (yX9_setWeight, cX9_setWeight, 4, (some .int), Cond.code yX9_setWeight cX9_setWeight 4 (some .int) :: qw_G, RX9)
theorem qi_X9_setWeight : ∀ w ∈ qw_G, w ∈ qB_X9_setWeight.2.2.2.2.1 := fun w h => List.mem_cons_of_mem _ h
def qB_X9_setLoad : qe_B := (yX9_setLoad, cX9_setLoad, 3, (some .int), Cond.code yX9_setLoad cX9_setLoad 3 (some .int) :: qw_G, RX9)
theorem qi_X9_setLoad : ∀ w ∈ qw_G, w ∈ qB_X9_setLoad.2.2.2.2.1 := fun w h => List.mem_cons_of_mem _ h
def qB_X9_execute : qe_B := (yX9_execute, cX9_execute, 3, (some .int), Cond.code yX9_execute cX9_execute 3 (some .int) :: qw_G, RX9)
theorem qi_X9_execute : ∀ w ∈ qw_G, w ∈ qB_X9_execute.2.2.2.2.1 := fun w h => List.mem_cons_of_mem _ h
def qB_X9_errorPosition : qe_B := (yX9_errorPosition, cX9_errorPosition, 1, (some .int), Cond.code yX9_errorPosition cX9_errorPosition 1 (some .int) :: qw_G, RX9)
theorem qi_X9_errorPosition : ∀ w ∈ qw_G, w ∈ qB_X9_errorPosition.2.2.2.2.1 := fun w h => List.mem_cons_of_mem _ h
def qB_X9_property : qe_B := (yX9_property, cX9_property, 3, (some .int), Cond.code yX9_property cX9_property 3 (some .int) :: qw_G, RX9)
theorem qi_X9_property : ∀ w ∈ qw_G, w ∈ qB_X9_property.2.2.2.2.1 := fun w h => List.mem_cons_of_mem _ h
def qB_X9_character : qe_B := (yX9_character, cX9_character, 3, (some .int), Cond.code yX9_character cX9_character 3 (some .int) :: qw_G, RX9)
theorem qi_X9_character : ∀ w ∈ qw_G, w ∈ qB_X9_character.2.2.2.2.1 := fun w h => List.mem_cons_of_mem _ h
def qB_X9_difference : qe_B := (yX9_difference, cX9_difference, 3, (some .int), Cond.code yX9_difference cX9_difference 3 (some .int) :: qw_G, RX9)
theorem qi_X9_difference : ∀ w ∈ qw_G, w ∈ qB_X9_difference.2.2.2.2.1 := fun w h => List.mem_cons_of_mem _ h
def qB_X9_size : qe_B := (yX9_size, cX9_size, 2, (some .int), Cond.code yX9_size cX9_size 2 (some .int) :: qw_G, RX9)
theorem qi_X9_size : ∀ w ∈ qw_G, w ∈ qB_X9_size.2.2.2.2.1 := fun w h => List.mem_cons_of_mem _ h
def qB_X9_find : qe_B := (yX9_find, cX9_find, 2, (some .int), Cond.code yX9_find cX9_find 2 (some .int) :: qw_G, RX9)
theorem qi_X9_find : ∀ w ∈ qw_G, w ∈ qB_X9_find.2.2.2.2.1 := fun w h => List.mem_cons_of_mem _ h
def qB_X9_branch : qe_B := (yX9_branch, cX9_branch, 2, (some .int), Cond.code yX9_branch cX9_branch 2 (some .int) :: qw_G, RX9)
theorem qi_X9_branch : ∀ w ∈ qw_G, w ∈ qB_X9_branch.2.2.2.2.1 := fun w h => List.mem_cons_of_mem _ h
def qB_X9_examined : qe_B := (yX9_examined, cX9_examined, 2, (some .int), Cond.code yX9_examined cX9_examined 2 (some .int) :: qw_G, RX9)
theorem qi_X9_examined : ∀ w ∈ qw_G, w ∈ qB_X9_examined.2.2.2.2.1 := fun w h => List.mem_cons_of_mem _ h
def qB_X9_cost : qe_B := (yX9_cost, cX9_cost, 2, (some .int), Cond.code yX9_cost cX9_cost 2 (some .int) :: qw_G, RX9)
theorem qi_X9_cost : ∀ w ∈ qw_G, w ∈ qB_X9_cost.2.2.2.2.1 := fun w h => List.mem_cons_of_mem _ h
def qB_X9_worst : qe_B := (yX9_worst, cX9_worst, 2, (some .int), Cond.code yX9_worst cX9_worst 2 (some .int) :: qw_G, RX9)
theorem qi_X9_worst : ∀ w ∈ qw_G, w ∈ qB_X9_worst.2.2.2.2.1 := fun w h => List.mem_cons_of_mem _ h
def qB_X9_meanBits : qe_B := (yX9_meanBits, cX9_meanBits, 3, (some .long), Cond.code yX9_meanBits cX9_meanBits 3 (some .long) :: qw_G, RX9)
theorem qi_X9_meanBits : ∀ w ∈ qw_G, w ∈ qB_X9_meanBits.2.2.2.2.1 := fun w h => List.mem_cons_of_mem _ h
def qB_X9_best : qe_B := (yX9_best, cX9_best, 4, (some .int), Cond.code yX9_best cX9_best 4 (some .int) :: qw_G, RX9)
theorem qi_X9_best : ∀ w ∈ qw_G, w ∈ qB_X9_best.2.2.2.2.1 := fun w h => List.mem_cons_of_mem _ h
def qB_X9_trees : qe_B := (yX9_trees, cX9_trees, 2, (some .int), Cond.code yX9_trees cX9_trees 2 (some .int) :: qw_G, RX9)
theorem qi_X9_trees : ∀ w ∈ qw_G, w ∈ qB_X9_trees.2.2.2.2.1 := fun w h => List.mem_cons_of_mem _ h
def qB_X9_selected : qe_B := (yX9_selected, cX9_selected, 1, (some .int), Cond.code yX9_selected cX9_selected 1 (some .int) :: qw_G, RX9)
theorem qi_X9_selected : ∀ w ∈ qw_G, w ∈ qB_X9_selected.2.2.2.2.1 := fun w h => List.mem_cons_of_mem _ h
def qB_X9_hash : qe_B := (yX9_hash, cX9_hash, 2, (some .int), Cond.code yX9_hash cX9_hash 2 (some .int) :: qw_G, RX9)
theorem qi_X9_hash : ∀ w ∈ qw_G, w ∈ qB_X9_hash.2.2.2.2.1 := fun w h => List.mem_cons_of_mem _ h
def qB_X9_table : qe_B := (yX9_table, cX9_table, 2, (some .int), Cond.code yX9_table cX9_table 2 (some .int) :: qw_G, RX9)
theorem qi_X9_table : ∀ w ∈ qw_G, w ∈ qB_X9_table.2.2.2.2.1 := fun w h => List.mem_cons_of_mem _ h
def qB_X9_slot : qe_B := (yX9_slot, cX9_slot, 2, (some .int), Cond.code yX9_slot cX9_slot 2 (some .int) :: qw_G, RX9)
theorem qi_X9_slot : ∀ w ∈ qw_G, w ∈ qB_X9_slot.2.2.2.2.1 := fun w h => List.mem_cons_of_mem _ h
def qB_X9_displacement : qe_B := (yX9_displacement, cX9_displacement, 2, (some .int), Cond.code yX9_displacement cX9_displacement 2 (some .int) :: qw_G, RX9)
theorem qi_X9_displacement : ∀ w ∈ qw_G, w ∈ qB_X9_displacement.2.2.2.2.1 := fun w h => List.mem_cons_of_mem _ h
def qB_X9_densityBits : qe_B := (yX9_densityBits, cX9_densityBits, 2, (some .int), Cond.code yX9_densityBits cX9_densityBits 2 (some .int) :: qw_G, RX9)
theorem qi_X9_densityBits : ∀ w ∈ qw_G, w ∈ qB_X9_densityBits.2.2.2.2.1 := fun w h => List.mem_cons_of_mem _ h
def qB_X9_listing : qe_B := (yX9_listing, cX9_listing, 3, (some .int), Cond.code yX9_listing cX9_listing 3 (some .int) :: qw_G, RX9)
theorem qi_X9_listing : ∀ w ∈ qw_G, w ∈ qB_X9_listing.2.2.2.2.1 := fun w h => List.mem_cons_of_mem _ h
def qB_X9_save : qe_B := (yX9_save, cX9_save, 1, (some .int), Cond.code yX9_save cX9_save 1 (some .int) :: qw_G, RX9)
theorem qi_X9_save : ∀ w ∈ qw_G, w ∈ qB_X9_save.2.2.2.2.1 := fun w h => List.mem_cons_of_mem _ h
def qB_X9_restore : qe_B := (yX9_restore, cX9_restore, 1, (some .int), Cond.code yX9_restore cX9_restore 1 (some .int) :: qw_G, RX9)
theorem qi_X9_restore : ∀ w ∈ qw_G, w ∈ qB_X9_restore.2.2.2.2.1 := fun w h => List.mem_cons_of_mem _ h
def qB_X9_requireKey : qe_B := (yX9_requireKey, cX9_requireKey, 2, none, Cond.code yX9_requireKey cX9_requireKey 2 none :: qw_G, RX9)
theorem qi_X9_requireKey : ∀ w ∈ qw_G, w ∈ qB_X9_requireKey.2.2.2.2.1 := fun w h => List.mem_cons_of_mem _ h
def qB_X9_requireStrategy : qe_B := (yX9_requireStrategy, cX9_requireStrategy, 1, none, Cond.code yX9_requireStrategy cX9_requireStrategy 1 none :: qw_G, RX9)
theorem qi_X9_requireStrategy : ∀ w ∈ qw_G, w ∈ qB_X9_requireStrategy.2.2.2.2.1 := fun w h => List.mem_cons_of_mem _ h
def qB_X9_requireRunnable : qe_B := (yX9_requireRunnable, cX9_requireRunnable, 2, none, Cond.code yX9_requireRunnable cX9_requireRunnable 2 none :: qw_G, RX9)
theorem qi_X9_requireRunnable : ∀ w ∈ qw_G, w ∈ qB_X9_requireRunnable.2.2.2.2.1 := fun w h => List.mem_cons_of_mem _ h
def qB_X9_requireTable : qe_B := (yX9_requireTable, cX9_requireTable, 1, none, Cond.code yX9_requireTable cX9_requireTable 1 none :: qw_G, RX9)
theorem qi_X9_requireTable : ∀ w ∈ qw_G, w ∈ qB_X9_requireTable.2.2.2.2.1 := fun w h => List.mem_cons_of_mem _ h
def qB_X9_canRun : qe_B := (yX9_canRun, cX9_canRun, 2, (some .boolean), Cond.code yX9_canRun cX9_canRun 2 (some .boolean) :: qw_G, RX9)
theorem qi_X9_canRun : ∀ w ∈ qw_G, w ∈ qB_X9_canRun.2.2.2.2.1 := fun w h => List.mem_cons_of_mem _ h
def qB_X9_prepare : qe_B := (yX9_prepare, cX9_prepare, 1, none, Cond.code yX9_prepare cX9_prepare 1 none :: qw_G, RX9)
theorem qi_X9_prepare : ∀ w ∈ qw_G, w ∈ qB_X9_prepare.2.2.2.2.1 := fun w h => List.mem_cons_of_mem _ h
def qB_X9_put : qe_B := (yX9_put, cX9_put, 3, none, Cond.code yX9_put cX9_put 3 none :: qw_G, RX9)
theorem qi_X9_put : ∀ w ∈ qw_G, w ∈ qB_X9_put.2.2.2.2.1 := fun w h => List.mem_cons_of_mem _ h
def qB_X9_copy : qe_B := (yX9_copy, cX9_copy, 3, none, Cond.code yX9_copy cX9_copy 3 none :: qw_G, RX9)
theorem qi_X9_copy : ∀ w ∈ qw_G, w ∈ qB_X9_copy.2.2.2.2.1 := fun w h => List.mem_cons_of_mem _ h
def qB_X9_contains : qe_B := (yX9_contains, cX9_contains, 2, (some .boolean), Cond.code yX9_contains cX9_contains 2 (some .boolean) :: qw_G, RX9)
theorem qi_X9_contains : ∀ w ∈ qw_G, w ∈ qB_X9_contains.2.2.2.2.1 := fun w h => List.mem_cons_of_mem _ h
def qB_X10_init : qe_B := (yX10_init, cX10_init, 1, none, Cond.code yX10_init cX10_init 1 none :: qw_G, RX10)
theorem qi_X10_init : ∀ w ∈ qw_G, w ∈ qB_X10_init.2.2.2.2.1 := fun w h => List.mem_cons_of_mem _ h
def qB_X10_thrown : qe_B := (yX10_thrown, cX10_thrown, 1, (some .int), Cond.code yX10_thrown cX10_thrown 1 (some .int) :: qw_G, RX10)
theorem qi_X10_thrown : ∀ w ∈ qw_G, w ∈ qB_X10_thrown.2.2.2.2.1 := fun w h => List.mem_cons_of_mem _ h
def qB_X10_in : qe_B := (yX10_in, cX10_in, 6, (some .boolean), Cond.code yX10_in cX10_in 6 (some .boolean) :: qw_G, RX10)
theorem qi_X10_in : ∀ w ∈ qw_G, w ∈ qB_X10_in.2.2.2.2.1 := fun w h => List.mem_cons_of_mem _ h
def qB_X10_isKey : qe_B := (yX10_isKey, cX10_isKey, 2, (some .boolean), Cond.code yX10_isKey cX10_isKey 2 (some .boolean) :: qw_G, RX10)
theorem qi_X10_isKey : ∀ w ∈ qw_G, w ∈ qB_X10_isKey.2.2.2.2.1 := fun w h => List.mem_cons_of_mem _ h
def qB_X10_append : qe_B := (yX10_append, cX10_append, 6, (some .int), Cond.code yX10_append cX10_append 6 (some .int) :: qw_G, RX10)
theorem qi_X10_append : ∀ w ∈ qw_G, w ∈ qB_X10_append.2.2.2.2.1 := fun w h => List.mem_cons_of_mem _ h
def qB_X10_clear : qe_B := (yX10_clear, cX10_clear, 2, (some .int), Cond.code yX10_clear cX10_clear 2 (some .int) :: qw_G, RX10)
theorem qi_X10_clear : ∀ w ∈ qw_G, w ∈ qB_X10_clear.2.2.2.2.1 := fun w h => List.mem_cons_of_mem _ h
def qB_X10_add : qe_B := (yX10_add, cX10_add, 4, (some .int), Cond.code yX10_add cX10_add 4 (some .int) :: qw_G, RX10)
theorem qi_X10_add : ∀ w ∈ qw_G, w ∈ qB_X10_add.2.2.2.2.1 := fun w h => List.mem_cons_of_mem _ h
def qB_X10_remove : qe_B := (yX10_remove, cX10_remove, 2, (some .int), Cond.code yX10_remove cX10_remove 2 (some .int) :: qw_G, RX10)
theorem qi_X10_remove : ∀ w ∈ qw_G, w ∈ qB_X10_remove.2.2.2.2.1 := fun w h => List.mem_cons_of_mem _ h
def qB_X10_setBranch : qe_B := (yX10_setBranch, cX10_setBranch, 4, (some .int), Cond.code yX10_setBranch cX10_setBranch 4 (some .int) :: qw_G, RX10)
theorem qi_X10_setBranch : ∀ w ∈ qw_G, w ∈ qB_X10_setBranch.2.2.2.2.1 := fun w h => List.mem_cons_of_mem _ h
def qB_X10_setWeight : qe_B := (yX10_setWeight, cX10_setWeight, 4, (some .int), Cond.code yX10_setWeight cX10_setWeight 4 (some .int) :: qw_G, RX10)
theorem qi_X10_setWeight : ∀ w ∈ qw_G, w ∈ qB_X10_setWeight.2.2.2.2.1 := fun w h => List.mem_cons_of_mem _ h
def qB_X10_setLoad : qe_B := (yX10_setLoad, cX10_setLoad, 3, (some .int), Cond.code yX10_setLoad cX10_setLoad 3 (some .int) :: qw_G, RX10)
theorem qi_X10_setLoad : ∀ w ∈ qw_G, w ∈ qB_X10_setLoad.2.2.2.2.1 := fun w h => List.mem_cons_of_mem _ h
def qB_X10_here : qe_B := (yX10_here, cX10_here, 1, (some .int), Cond.code yX10_here cX10_here 1 (some .int) :: qw_G, RX10)
theorem qi_X10_here : ∀ w ∈ qw_G, w ∈ qB_X10_here.2.2.2.2.1 := fun w h => List.mem_cons_of_mem _ h
def qB_X10_isWord : qe_B := (yX10_isWord, cX10_isWord, 5, (some .boolean), Cond.code yX10_isWord cX10_isWord 5 (some .boolean) :: qw_G, RX10)
theorem qi_X10_isWord : ∀ w ∈ qw_G, w ∈ qB_X10_isWord.2.2.2.2.1 := fun w h => List.mem_cons_of_mem _ h
def qB_X10_word : qe_B := (yX10_word, cX10_word, 3, (some .int), Cond.code yX10_word cX10_word 3 (some .int) :: qw_G, RX10)
theorem qi_X10_word : ∀ w ∈ qw_G, w ∈ qB_X10_word.2.2.2.2.1 := fun w h => List.mem_cons_of_mem _ h
def qB_X10_readCommand : qe_B := (yX10_readCommand, cX10_readCommand, 1, none, Cond.code yX10_readCommand cX10_readCommand 1 none :: qw_G, RX10)
theorem qi_X10_readCommand : ∀ w ∈ qw_G, w ∈ qB_X10_readCommand.2.2.2.2.1 := fun w h => List.mem_cons_of_mem _ h
def qB_X10_execute : qe_B := (yX10_execute, cX10_execute, 3, (some .int), Cond.code yX10_execute cX10_execute 3 (some .int) :: qw_G, RX10)
theorem qi_X10_execute : ∀ w ∈ qw_G, w ∈ qB_X10_execute.2.2.2.2.1 := fun w h => List.mem_cons_of_mem _ h
def qB_X10_errorPosition : qe_B := (yX10_errorPosition, cX10_errorPosition, 1, (some .int), Cond.code yX10_errorPosition cX10_errorPosition 1 (some .int) :: qw_G, RX10)
theorem qi_X10_errorPosition : ∀ w ∈ qw_G, w ∈ qB_X10_errorPosition.2.2.2.2.1 := fun w h => List.mem_cons_of_mem _ h
def qB_X10_property : qe_B := (yX10_property, cX10_property, 3, (some .int), Cond.code yX10_property cX10_property 3 (some .int) :: qw_G, RX10)
theorem qi_X10_property : ∀ w ∈ qw_G, w ∈ qB_X10_property.2.2.2.2.1 := fun w h => List.mem_cons_of_mem _ h
def qB_X10_character : qe_B := (yX10_character, cX10_character, 3, (some .int), Cond.code yX10_character cX10_character 3 (some .int) :: qw_G, RX10)
theorem qi_X10_character : ∀ w ∈ qw_G, w ∈ qB_X10_character.2.2.2.2.1 := fun w h => List.mem_cons_of_mem _ h
def qB_X10_difference : qe_B := (yX10_difference, cX10_difference, 3, (some .int), Cond.code yX10_difference cX10_difference 3 (some .int) :: qw_G, RX10)
theorem qi_X10_difference : ∀ w ∈ qw_G, w ∈ qB_X10_difference.2.2.2.2.1 := fun w h => List.mem_cons_of_mem _ h
def qB_X10_size : qe_B := (yX10_size, cX10_size, 2, (some .int), Cond.code yX10_size cX10_size 2 (some .int) :: qw_G, RX10)
theorem qi_X10_size : ∀ w ∈ qw_G, w ∈ qB_X10_size.2.2.2.2.1 := fun w h => List.mem_cons_of_mem _ h
def qB_X10_takeBuffer : qe_B := (yX10_takeBuffer, cX10_takeBuffer, 1, none, Cond.code yX10_takeBuffer cX10_takeBuffer 1 none :: qw_G, RX10)
theorem qi_X10_takeBuffer : ∀ w ∈ qw_G, w ∈ qB_X10_takeBuffer.2.2.2.2.1 := fun w h => List.mem_cons_of_mem _ h
def qB_X10_linear : qe_B := (yX10_linear, cX10_linear, 2, (some .int), Cond.code yX10_linear cX10_linear 2 (some .int) :: qw_G, RX10)
theorem qi_X10_linear : ∀ w ∈ qw_G, w ∈ qB_X10_linear.2.2.2.2.1 := fun w h => List.mem_cons_of_mem _ h
def qB_X10_search : qe_B := (yX10_search, cX10_search, 6, (some .int), Cond.code yX10_search cX10_search 6 (some .int) :: qw_G, RX10)
theorem qi_X10_search : ∀ w ∈ qw_G, w ∈ qB_X10_search.2.2.2.2.1 := fun w h => List.mem_cons_of_mem _ h
def qB_X10_marked : qe_B := (yX10_marked, cX10_marked, 4, (some .int), Cond.code yX10_marked cX10_marked 4 (some .int) :: qw_G, RX10)
theorem qi_X10_marked : ∀ w ∈ qw_G, w ∈ qB_X10_marked.2.2.2.2.1 := fun w h => List.mem_cons_of_mem _ h
def qB_X10_ofLength : qe_B := (yX10_ofLength, cX10_ofLength, 4, (some (.array .boolean)), Cond.code yX10_ofLength cX10_ofLength 4 (some (.array .boolean)) :: qw_G, RX10)
theorem qi_X10_ofLength : ∀ w ∈ qw_G, w ∈ qB_X10_ofLength.2.2.2.2.1 := fun w h => List.mem_cons_of_mem _ h
def qB_X10_climb : qe_B := (yX10_climb, cX10_climb, 6, (some .int), Cond.code yX10_climb cX10_climb 6 (some .int) :: qw_G, RX10)
theorem qi_X10_climb : ∀ w ∈ qw_G, w ∈ qB_X10_climb.2.2.2.2.1 := fun w h => List.mem_cons_of_mem _ h
def qB_X10_trees : qe_B := (yX10_trees, cX10_trees, 4, (some .int), Cond.code yX10_trees cX10_trees 4 (some .int) :: qw_G, RX10)
theorem qi_X10_trees : ∀ w ∈ qw_G, w ∈ qB_X10_trees.2.2.2.2.1 := fun w h => List.mem_cons_of_mem _ h
def qB_X10_separates : qe_B := (yX10_separates, cX10_separates, 6, (some .boolean), Cond.code yX10_separates cX10_separates 6 (some .boolean) :: qw_G, RX10)
theorem qi_X10_separates : ∀ w ∈ qw_G, w ∈ qB_X10_separates.2.2.2.2.1 := fun w h => List.mem_cons_of_mem _ h
def qB_X10_sizeOf : qe_B := (yX10_sizeOf, cX10_sizeOf, 3, (some .int), Cond.code yX10_sizeOf cX10_sizeOf 3 (some .int) :: qw_G, RX10)
theorem qi_X10_sizeOf : ∀ w ∈ qw_G, w ∈ qB_X10_sizeOf.2.2.2.2.1 := fun w h => List.mem_cons_of_mem _ h
def qB_X10_select : qe_B := (yX10_select, cX10_select, 4, none, Cond.code yX10_select cX10_select 4 none :: qw_G, RX10)
theorem qi_X10_select : ∀ w ∈ qw_G, w ∈ qB_X10_select.2.2.2.2.1 := fun w h => List.mem_cons_of_mem _ h
def qB_X10_hashOfText : qe_B := (yX10_hashOfText, cX10_hashOfText, 4, (some .int), Cond.code yX10_hashOfText cX10_hashOfText 4 (some .int) :: qw_G, RX10)
theorem qi_X10_hashOfText : ∀ w ∈ qw_G, w ∈ qB_X10_hashOfText.2.2.2.2.1 := fun w h => List.mem_cons_of_mem _ h
def qB_X10_prepare : qe_B := (yX10_prepare, cX10_prepare, 2, none, Cond.code yX10_prepare cX10_prepare 2 none :: qw_G, RX10)
theorem qi_X10_prepare : ∀ w ∈ qw_G, w ∈ qB_X10_prepare.2.2.2.2.1 := fun w h => List.mem_cons_of_mem _ h
def qB_X10_hashed : qe_B := (yX10_hashed, cX10_hashed, 2, (some .int), Cond.code yX10_hashed cX10_hashed 2 (some .int) :: qw_G, RX10)
theorem qi_X10_hashed : ∀ w ∈ qw_G, w ∈ qB_X10_hashed.2.2.2.2.1 := fun w h => List.mem_cons_of_mem _ h
def qB_X10_canRun : qe_B := (yX10_canRun, cX10_canRun, 2, (some .boolean), Cond.code yX10_canRun cX10_canRun 2 (some .boolean) :: qw_G, RX10)
theorem qi_X10_canRun : ∀ w ∈ qw_G, w ∈ qB_X10_canRun.2.2.2.2.1 := fun w h => List.mem_cons_of_mem _ h
def qB_X10_refusal : qe_B := (yX10_refusal, cX10_refusal, 2, (some .int), Cond.code yX10_refusal cX10_refusal 2 (some .int) :: qw_G, RX10)
theorem qi_X10_refusal : ∀ w ∈ qw_G, w ∈ qB_X10_refusal.2.2.2.2.1 := fun w h => List.mem_cons_of_mem _ h
def qB_X10_run : qe_B := (yX10_run, cX10_run, 2, (some .int), Cond.code yX10_run cX10_run 2 (some .int) :: qw_G, RX10)
theorem qi_X10_run : ∀ w ∈ qw_G, w ∈ qB_X10_run.2.2.2.2.1 := fun w h => List.mem_cons_of_mem _ h
def qB_X10_find : qe_B := (yX10_find, cX10_find, 2, (some .int), Cond.code yX10_find cX10_find 2 (some .int) :: qw_G, RX10)
theorem qi_X10_find : ∀ w ∈ qw_G, w ∈ qB_X10_find.2.2.2.2.1 := fun w h => List.mem_cons_of_mem _ h
def qB_X10_branch : qe_B := (yX10_branch, cX10_branch, 3, (some .int), Cond.code yX10_branch cX10_branch 3 (some .int) :: qw_G, RX10)
theorem qi_X10_branch : ∀ w ∈ qw_G, w ∈ qB_X10_branch.2.2.2.2.1 := fun w h => List.mem_cons_of_mem _ h
def qB_X10_examined : qe_B := (yX10_examined, cX10_examined, 3, (some .int), Cond.code yX10_examined cX10_examined 3 (some .int) :: qw_G, RX10)
theorem qi_X10_examined : ∀ w ∈ qw_G, w ∈ qB_X10_examined.2.2.2.2.1 := fun w h => List.mem_cons_of_mem _ h
def qB_X10_costOf : qe_B := (yX10_costOf, cX10_costOf, 5, (some .int), Cond.code yX10_costOf cX10_costOf 5 (some .int) :: qw_G, RX10)
theorem qi_X10_costOf : ∀ w ∈ qw_G, w ∈ qB_X10_costOf.2.2.2.2.1 := fun w h => List.mem_cons_of_mem _ h
def qB_X10_cost : qe_B := (yX10_cost, cX10_cost, 2, (some .int), Cond.code yX10_cost cX10_cost 2 (some .int) :: qw_G, RX10)
theorem qi_X10_cost : ∀ w ∈ qw_G, w ∈ qB_X10_cost.2.2.2.2.1 := fun w h => List.mem_cons_of_mem _ h
def qB_X10_worst : qe_B := (yX10_worst, cX10_worst, 5, (some .int), Cond.code yX10_worst cX10_worst 5 (some .int) :: qw_G, RX10)
theorem qi_X10_worst : ∀ w ∈ qw_G, w ∈ qB_X10_worst.2.2.2.2.1 := fun w h => List.mem_cons_of_mem _ h
def qB_X10_meanBits : qe_B := (yX10_meanBits, cX10_meanBits, 4, (some .long), Cond.code yX10_meanBits cX10_meanBits 4 (some .long) :: qw_G, RX10)
theorem qi_X10_meanBits : ∀ w ∈ qw_G, w ∈ qB_X10_meanBits.2.2.2.2.1 := fun w h => List.mem_cons_of_mem _ h
def qB_X10_best : qe_B := (yX10_best, cX10_best, 5, (some .int), Cond.code yX10_best cX10_best 5 (some .int) :: qw_G, RX10)
theorem qi_X10_best : ∀ w ∈ qw_G, w ∈ qB_X10_best.2.2.2.2.1 := fun w h => List.mem_cons_of_mem _ h
def qB_X10_selected : qe_B := (yX10_selected, cX10_selected, 1, (some .int), Cond.code yX10_selected cX10_selected 1 (some .int) :: qw_G, RX10)
theorem qi_X10_selected : ∀ w ∈ qw_G, w ∈ qB_X10_selected.2.2.2.2.1 := fun w h => List.mem_cons_of_mem _ h
def qB_X10_hash : qe_B := (yX10_hash, cX10_hash, 2, (some .int), Cond.code yX10_hash cX10_hash 2 (some .int) :: qw_G, RX10)
theorem qi_X10_hash : ∀ w ∈ qw_G, w ∈ qB_X10_hash.2.2.2.2.1 := fun w h => List.mem_cons_of_mem _ h
def qB_X10_hasTable : qe_B := (yX10_hasTable, cX10_hasTable, 1, (some .boolean), Cond.code yX10_hasTable cX10_hasTable 1 (some .boolean) :: qw_G, RX10)
theorem qi_X10_hasTable : ∀ w ∈ qw_G, w ∈ qB_X10_hasTable.2.2.2.2.1 := fun w h => List.mem_cons_of_mem _ h
def qB_X10_table : qe_B := (yX10_table, cX10_table, 2, (some .int), Cond.code yX10_table cX10_table 2 (some .int) :: qw_G, RX10)
theorem qi_X10_table : ∀ w ∈ qw_G, w ∈ qB_X10_table.2.2.2.2.1 := fun w h => List.mem_cons_of_mem _ h
def qB_X10_slot : qe_B := (yX10_slot, cX10_slot, 2, (some .int), Cond.code yX10_slot cX10_slot 2 (some .int) :: qw_G, RX10)
theorem qi_X10_slot : ∀ w ∈ qw_G, w ∈ qB_X10_slot.2.2.2.2.1 := fun w h => List.mem_cons_of_mem _ h
def qB_X10_displacement : qe_B := (yX10_displacement, cX10_displacement, 2, (some .int), Cond.code yX10_displacement cX10_displacement 2 (some .int) :: qw_G, RX10)
theorem qi_X10_displacement : ∀ w ∈ qw_G, w ∈ qB_X10_displacement.2.2.2.2.1 := fun w h => List.mem_cons_of_mem _ h
def qB_X10_densityBits : qe_B := (yX10_densityBits, cX10_densityBits, 1, (some .int), Cond.code yX10_densityBits cX10_densityBits 1 (some .int) :: qw_G, RX10)
theorem qi_X10_densityBits : ∀ w ∈ qw_G, w ∈ qB_X10_densityBits.2.2.2.2.1 := fun w h => List.mem_cons_of_mem _ h
def qB_X10_putTrees : qe_B := (yX10_putTrees, cX10_putTrees, 3, none, Cond.code yX10_putTrees cX10_putTrees 3 none :: qw_G, RX10)
theorem qi_X10_putTrees : ∀ w ∈ qw_G, w ∈ qB_X10_putTrees.2.2.2.2.1 := fun w h => List.mem_cons_of_mem _ h
def qB_X10_list : qe_B := (yX10_list, cX10_list, 3, none, Cond.code yX10_list cX10_list 3 none :: qw_G, RX10)
theorem qi_X10_list : ∀ w ∈ qw_G, w ∈ qB_X10_list.2.2.2.2.1 := fun w h => List.mem_cons_of_mem _ h
def qB_X10_listing : qe_B := (yX10_listing, cX10_listing, 3, (some .int), Cond.code yX10_listing cX10_listing 3 (some .int) :: qw_G, RX10)
theorem qi_X10_listing : ∀ w ∈ qw_G, w ∈ qB_X10_listing.2.2.2.2.1 := fun w h => List.mem_cons_of_mem _ h
def qB_X10_save : qe_B := (yX10_save, cX10_save, 1, (some .int), Cond.code yX10_save cX10_save 1 (some .int) :: qw_G, RX10)
theorem qi_X10_save : ∀ w ∈ qw_G, w ∈ qB_X10_save.2.2.2.2.1 := fun w h => List.mem_cons_of_mem _ h
def qB_X10_restore : qe_B := (yX10_restore, cX10_restore, 1, (some .int), Cond.code yX10_restore cX10_restore 1 (some .int) :: qw_G, RX10)
theorem qi_X10_restore : ∀ w ∈ qw_G, w ∈ qB_X10_restore.2.2.2.2.1 := fun w h => List.mem_cons_of_mem _ h
def qB_X0_init : qe_B := (yX0_init, cX0_init, 1, none, Cond.code yX0_init cX0_init 1 none :: qw_G, RX0)
theorem qi_X0_init : ∀ w ∈ qw_G, w ∈ qB_X0_init.2.2.2.2.1 := fun w h => List.mem_cons_of_mem _ h
def qB_X0_read : qe_B := (yX0_read, cX0_read, 3, (some .boolean), Cond.code yX0_read cX0_read 3 (some .boolean) :: qw_G, RX0)
theorem qi_X0_read : ∀ w ∈ qw_G, w ∈ qB_X0_read.2.2.2.2.1 := fun w h => List.mem_cons_of_mem _ h
def qB_X0_readCommand : qe_B := (yX0_readCommand, cX0_readCommand, 3, (some .boolean), Cond.code yX0_readCommand cX0_readCommand 3 (some .boolean) :: qw_G, RX0)
theorem qi_X0_readCommand : ∀ w ∈ qw_G, w ∈ qB_X0_readCommand.2.2.2.2.1 := fun w h => List.mem_cons_of_mem _ h
def qB_X0_readWord : qe_B := (yX0_readWord, cX0_readWord, 3, (some .int), Cond.code yX0_readWord cX0_readWord 3 (some .int) :: qw_G, RX0)
theorem qi_X0_readWord : ∀ w ∈ qw_G, w ∈ qB_X0_readWord.2.2.2.2.1 := fun w h => List.mem_cons_of_mem _ h
def qB_X0_isWord : qe_B := (yX0_isWord, cX0_isWord, 5, (some .boolean), Cond.code yX0_isWord cX0_isWord 5 (some .boolean) :: qw_G, RX0)
theorem qi_X0_isWord : ∀ w ∈ qw_G, w ∈ qB_X0_isWord.2.2.2.2.1 := fun w h => List.mem_cons_of_mem _ h
def qB_X1_init : qe_B := (yX1_init, cX1_init, 2, none, Cond.code yX1_init cX1_init 2 none :: qw_G, RX1)
theorem qi_X1_init : ∀ w ∈ qw_G, w ∈ qB_X1_init.2.2.2.2.1 := fun w h => List.mem_cons_of_mem _ h
def qB_X1_grow : qe_B := (yX1_grow, cX1_grow, 2, none, Cond.code yX1_grow cX1_grow 2 none :: qw_G, RX1)
theorem qi_X1_grow : ∀ w ∈ qw_G, w ∈ qB_X1_grow.2.2.2.2.1 := fun w h => List.mem_cons_of_mem _ h
def qB_X1_rootWith : qe_B := (yX1_rootWith, cX1_rootWith, 2, (some .int), Cond.code yX1_rootWith cX1_rootWith 2 (some .int) :: qw_G, RX1)
theorem qi_X1_rootWith : ∀ w ∈ qw_G, w ∈ qB_X1_rootWith.2.2.2.2.1 := fun w h => List.mem_cons_of_mem _ h
def qB_X1_treeWith : qe_B := (yX1_treeWith, cX1_treeWith, 5, (some .int), Cond.code yX1_treeWith cX1_treeWith 5 (some .int) :: qw_G, RX1)
theorem qi_X1_treeWith : ∀ w ∈ qw_G, w ∈ qB_X1_treeWith.2.2.2.2.1 := fun w h => List.mem_cons_of_mem _ h
def qB_X1_plantRoots : qe_B := (yX1_plantRoots, cX1_plantRoots, 5, none, Cond.code yX1_plantRoots cX1_plantRoots 5 none :: qw_G, RX1)
theorem qi_X1_plantRoots : ∀ w ∈ qw_G, w ∈ qB_X1_plantRoots.2.2.2.2.1 := fun w h => List.mem_cons_of_mem _ h
def qB_X2_init : qe_B := (yX2_init, cX2_init, 1, none, Cond.code yX2_init cX2_init 1 none :: qw_G, RX2)
theorem qi_X2_init : ∀ w ∈ qw_G, w ∈ qB_X2_init.2.2.2.2.1 := fun w h => List.mem_cons_of_mem _ h
def qB_X2_has : qe_B := (yX2_has, cX2_has, 2, (some .boolean), Cond.code yX2_has cX2_has 2 (some .boolean) :: qw_G, RX2)
theorem qi_X2_has : ∀ w ∈ qw_G, w ∈ qB_X2_has.2.2.2.2.1 := fun w h => List.mem_cons_of_mem _ h
def qB_X2_changeLoad : qe_B := (yX2_changeLoad, cX2_changeLoad, 2, none, Cond.code yX2_changeLoad cX2_changeLoad 2 none :: qw_G, RX2)
theorem qi_X2_changeLoad : ∀ w ∈ qw_G, w ∈ qB_X2_changeLoad.2.2.2.2.1 := fun w h => List.mem_cons_of_mem _ h
def qB_X2_takeOver : qe_B := (yX2_takeOver, cX2_takeOver, 2, none, Cond.code yX2_takeOver cX2_takeOver 2 none :: qw_G, RX2)
theorem qi_X2_takeOver : ∀ w ∈ qw_G, w ∈ qB_X2_takeOver.2.2.2.2.1 := fun w h => List.mem_cons_of_mem _ h
def qB_X2_totalWeight : qe_B := (yX2_totalWeight, cX2_totalWeight, 3, (some .int), Cond.code yX2_totalWeight cX2_totalWeight 3 (some .int) :: qw_G, RX2)
theorem qi_X2_totalWeight : ∀ w ∈ qw_G, w ∈ qB_X2_totalWeight.2.2.2.2.1 := fun w h => List.mem_cons_of_mem _ h
def qB_X3_init : qe_B := (yX3_init, cX3_init, 5, none, Cond.code yX3_init cX3_init 5 none :: qw_G, RX3)
theorem qi_X3_init : ∀ w ∈ qw_G, w ∈ qB_X3_init.2.2.2.2.1 := fun w h => List.mem_cons_of_mem _ h
def qB_X3_list : qe_B := (yX3_list, cX3_list, 2, none, Cond.code yX3_list cX3_list 2 none :: qw_G, RX3)
theorem qi_X3_list : ∀ w ∈ qw_G, w ∈ qB_X3_list.2.2.2.2.1 := fun w h => List.mem_cons_of_mem _ h
def qB_X3_listKeys : qe_B := (yX3_listKeys, cX3_listKeys, 3, none, Cond.code yX3_listKeys cX3_listKeys 3 none :: qw_G, RX3)
theorem qi_X3_listKeys : ∀ w ∈ qw_G, w ∈ qB_X3_listKeys.2.2.2.2.1 := fun w h => List.mem_cons_of_mem _ h
def qB_X3_listForest : qe_B := (yX3_listForest, cX3_listForest, 2, none, Cond.code yX3_listForest cX3_listForest 2 none :: qw_G, RX3)
theorem qi_X3_listForest : ∀ w ∈ qw_G, w ∈ qB_X3_listForest.2.2.2.2.1 := fun w h => List.mem_cons_of_mem _ h
def qB_X4_init : qe_B := (yX4_init, cX4_init, 2, none, Cond.code yX4_init cX4_init 2 none :: qw_G, RX4)
theorem qi_X4_init : ∀ w ∈ qw_G, w ∈ qB_X4_init.2.2.2.2.1 := fun w h => List.mem_cons_of_mem _ h
def qB_X4_sort : qe_B := (yX4_sort, cX4_sort, 2, none, Cond.code yX4_sort cX4_sort 2 none :: qw_G, RX4)
theorem qi_X4_sort : ∀ w ∈ qw_G, w ∈ qB_X4_sort.2.2.2.2.1 := fun w h => List.mem_cons_of_mem _ h
def qB_X5_init : qe_B := (yX5_init, cX5_init, 5, none, Cond.code yX5_init cX5_init 5 none :: qw_G, RX5)
theorem qi_X5_init : ∀ w ∈ qw_G, w ∈ qB_X5_init.2.2.2.2.1 := fun w h => List.mem_cons_of_mem _ h
def qB_X5_run : qe_B := (yX5_run, cX5_run, 3, none, Cond.code yX5_run cX5_run 3 none :: qw_G, RX5)
theorem qi_X5_run : ∀ w ∈ qw_G, w ∈ qB_X5_run.2.2.2.2.1 := fun w h => List.mem_cons_of_mem _ h
def qB_X5_measure : qe_B := (yX5_measure, cX5_measure, 3, none, Cond.code yX5_measure cX5_measure 3 none :: qw_G, RX5)
theorem qi_X5_measure : ∀ w ∈ qw_G, w ∈ qB_X5_measure.2.2.2.2.1 := fun w h => List.mem_cons_of_mem _ h
def qB_X5_runLinear : qe_B := (yX5_runLinear, cX5_runLinear, 3, none, Cond.code yX5_runLinear cX5_runLinear 3 none :: qw_G, RX5)
theorem qi_X5_runLinear : ∀ w ∈ qw_G, w ∈ qB_X5_runLinear.2.2.2.2.1 := fun w h => List.mem_cons_of_mem _ h
def qB_X5_runBinary : qe_B := (yX5_runBinary, cX5_runBinary, 10, none, Cond.code yX5_runBinary cX5_runBinary 10 none :: qw_G, RX5)
theorem qi_X5_runBinary : ∀ w ∈ qw_G, w ∈ qB_X5_runBinary.2.2.2.2.1 := fun w h => List.mem_cons_of_mem _ h
def qB_X5_runTrees : qe_B := (yX5_runTrees, cX5_runTrees, 6, none, Cond.code yX5_runTrees cX5_runTrees 6 none :: qw_G, RX5)
theorem qi_X5_runTrees : ∀ w ∈ qw_G, w ∈ qB_X5_runTrees.2.2.2.2.1 := fun w h => List.mem_cons_of_mem _ h
def qB_X5_runTable : qe_B := (yX5_runTable, cX5_runTable, 3, none, Cond.code yX5_runTable cX5_runTable 3 none :: qw_G, RX5)
theorem qi_X5_runTable : ∀ w ∈ qw_G, w ∈ qB_X5_runTable.2.2.2.2.1 := fun w h => List.mem_cons_of_mem _ h
def qB_X6_init : qe_B := (yX6_init, cX6_init, 2, none, Cond.code yX6_init cX6_init 2 none :: qw_G, RX6)
theorem qi_X6_init : ∀ w ∈ qw_G, w ∈ qB_X6_init.2.2.2.2.1 := fun w h => List.mem_cons_of_mem _ h
def qB_X6_choose : qe_B := (yX6_choose, cX6_choose, 4, none, Cond.code yX6_choose cX6_choose 4 none :: qw_G, RX6)
theorem qi_X6_choose : ∀ w ∈ qw_G, w ∈ qB_X6_choose.2.2.2.2.1 := fun w h => List.mem_cons_of_mem _ h
def qB_X6_turned : qe_B := (yX6_turned, cX6_turned, 3, (some .int), Cond.code yX6_turned cX6_turned 3 (some .int) :: qw_G, RX6)
theorem qi_X6_turned : ∀ w ∈ qw_G, w ∈ qB_X6_turned.2.2.2.2.1 := fun w h => List.mem_cons_of_mem _ h
def qB_X6_collectPairs : qe_B := (yX6_collectPairs, cX6_collectPairs, 3, none, Cond.code yX6_collectPairs cX6_collectPairs 3 none :: qw_G, RX6)
theorem qi_X6_collectPairs : ∀ w ∈ qw_G, w ∈ qB_X6_collectPairs.2.2.2.2.1 := fun w h => List.mem_cons_of_mem _ h
def qB_X6_separates : qe_B := (yX6_separates, cX6_separates, 3, (some .boolean), Cond.code yX6_separates cX6_separates 3 (some .boolean) :: qw_G, RX6)
theorem qi_X6_separates : ∀ w ∈ qw_G, w ∈ qB_X6_separates.2.2.2.2.1 := fun w h => List.mem_cons_of_mem _ h
def qB_X6_hashOf : qe_B := (yX6_hashOf, cX6_hashOf, 5, (some .int), Cond.code yX6_hashOf cX6_hashOf 5 (some .int) :: qw_G, RX6)
theorem qi_X6_hashOf : ∀ w ∈ qw_G, w ∈ qB_X6_hashOf.2.2.2.2.1 := fun w h => List.mem_cons_of_mem _ h
def qB_X7_init : qe_B := (yX7_init, cX7_init, 3, none, Cond.code yX7_init cX7_init 3 none :: qw_G, RX7)
theorem qi_X7_init : ∀ w ∈ qw_G, w ∈ qB_X7_init.2.2.2.2.1 := fun w h => List.mem_cons_of_mem _ h
def qB_X7_build : qe_B := (yX7_build, cX7_build, 2, none, Cond.code yX7_build cX7_build 2 none :: qw_G, RX7)
theorem qi_X7_build : ∀ w ∈ qw_G, w ∈ qB_X7_build.2.2.2.2.1 := fun w h => List.mem_cons_of_mem _ h
def qB_X8_init : qe_B := (yX8_init, cX8_init, 2, none, Cond.code yX8_init cX8_init 2 none :: qw_G, RX8)
theorem qi_X8_init : ∀ w ∈ qw_G, w ∈ qB_X8_init.2.2.2.2.1 := fun w h => List.mem_cons_of_mem _ h
def qB_X8_empty : qe_B := (yX8_empty, cX8_empty, 1, none, Cond.code yX8_empty cX8_empty 1 none :: qw_G, RX8)
theorem qi_X8_empty : ∀ w ∈ qw_G, w ∈ qB_X8_empty.2.2.2.2.1 := fun w h => List.mem_cons_of_mem _ h
def qB_X8_write : qe_B := (yX8_write, cX8_write, 2, none, Cond.code yX8_write cX8_write 2 none :: qw_G, RX8)
theorem qi_X8_write : ∀ w ∈ qw_G, w ∈ qB_X8_write.2.2.2.2.1 := fun w h => List.mem_cons_of_mem _ h
def qB_X8_isKey : qe_B := (yX8_isKey, cX8_isKey, 2, (some .boolean), Cond.code yX8_isKey cX8_isKey 2 (some .boolean) :: qw_G, RX8)
theorem qi_X8_isKey : ∀ w ∈ qw_G, w ∈ qB_X8_isKey.2.2.2.2.1 := fun w h => List.mem_cons_of_mem _ h
def qB_L_append : qe_B := (yL_append, cL_append, 4, (some .int), Cond.codeWith yL_append cL_append 4 (some .int) [(0, 9, 12, 13), (0, 9, 15, 15)] :: qw_G, RL)
theorem qi_L_append : ∀ w ∈ qw_G, w ∈ qB_L_append.2.2.2.2.1 := fun w h => List.mem_cons_of_mem _ h
def qB_L_add : qe_B := (yL_add, cL_add, 4, (some .int), Cond.codeWith yL_add cL_add 4 (some .int) [(0, 9, 12, 13), (0, 9, 15, 15)] :: qw_G, RL)
theorem qi_L_add : ∀ w ∈ qw_G, w ∈ qB_L_add.2.2.2.2.1 := fun w h => List.mem_cons_of_mem _ h
def qB_L_remove : qe_B := (yL_remove, cL_remove, 4, (some .int), Cond.codeWith yL_remove cL_remove 4 (some .int) [(0, 9, 12, 23)] :: qw_G, RL)
theorem qi_L_remove : ∀ w ∈ qw_G, w ∈ qB_L_remove.2.2.2.2.1 := fun w h => List.mem_cons_of_mem _ h
def qB_L_setBranch : qe_B := (yL_setBranch, cL_setBranch, 5, (some .int), Cond.codeWith yL_setBranch cL_setBranch 5 (some .int) [(0, 10, 13, 23), (0, 10, 17, 13)] :: qw_G, RL)
theorem qi_L_setBranch : ∀ w ∈ qw_G, w ∈ qB_L_setBranch.2.2.2.2.1 := fun w h => List.mem_cons_of_mem _ h
def qB_L_setWeight : qe_B := (yL_setWeight, cL_setWeight, 5, (some .int), Cond.codeWith yL_setWeight cL_setWeight 5 (some .int) [(0, 10, 13, 23), (0, 10, 17, 13)] :: qw_G, RL)
theorem qi_L_setWeight : ∀ w ∈ qw_G, w ∈ qB_L_setWeight.2.2.2.2.1 := fun w h => List.mem_cons_of_mem _ h
def qB_L_setLoad : qe_B := (yL_setLoad, cL_setLoad, 4, (some .int), Cond.codeWith yL_setLoad cL_setLoad 4 (some .int) [(0, 9, 12, 13)] :: qw_G, RL)
theorem qi_L_setLoad : ∀ w ∈ qw_G, w ∈ qB_L_setLoad.2.2.2.2.1 := fun w h => List.mem_cons_of_mem _ h
def qB_L_execute : qe_B := (yL_execute, cL_execute, 3, (some .int), Cond.codeWith yL_execute cL_execute 3 (some .int) [(0, 8, 11, 13), (0, 8, 14, 15)] :: qw_G, RL)
theorem qi_L_execute : ∀ w ∈ qw_G, w ∈ qB_L_execute.2.2.2.2.1 := fun w h => List.mem_cons_of_mem _ h
def qB_L_property : qe_B := (yL_property, cL_property, 5, (some .int), Cond.codeWith yL_property cL_property 5 (some .int) [(0, 10, 13, 23), (0, 10, 17, 13)] :: qw_G, RL)
theorem qi_L_property : ∀ w ∈ qw_G, w ∈ qB_L_property.2.2.2.2.1 := fun w h => List.mem_cons_of_mem _ h
def qB_L_character : qe_B := (yL_character, cL_character, 5, (some .int), Cond.codeWith yL_character cL_character 5 (some .int) [(0, 10, 13, 23)] :: qw_G, RL)
theorem qi_L_character : ∀ w ∈ qw_G, w ∈ qB_L_character.2.2.2.2.1 := fun w h => List.mem_cons_of_mem _ h
def qB_L_difference : qe_B := (yL_difference, cL_difference, 5, (some .int), Cond.codeWith yL_difference cL_difference 5 (some .int) [(0, 10, 13, 23), (0, 10, 17, 13)] :: qw_G, RL)
theorem qi_L_difference : ∀ w ∈ qw_G, w ∈ qB_L_difference.2.2.2.2.1 := fun w h => List.mem_cons_of_mem _ h
def qB_L_size : qe_B := (yL_size, cL_size, 4, (some .int), Cond.codeWith yL_size cL_size 4 (some .int) [(0, 9, 12, 13)] :: qw_G, RL)
theorem qi_L_size : ∀ w ∈ qw_G, w ∈ qB_L_size.2.2.2.2.1 := fun w h => List.mem_cons_of_mem _ h
def qB_L_find : qe_B := (yL_find, cL_find, 4, (some .int), Cond.codeWith yL_find cL_find 4 (some .int) [(0, 9, 12, 13), (0, 9, 15, 15)] :: qw_G, RL)
theorem qi_L_find : ∀ w ∈ qw_G, w ∈ qB_L_find.2.2.2.2.1 := fun w h => List.mem_cons_of_mem _ h
def qB_L_branch : qe_B := (yL_branch, cL_branch, 4, (some .int), Cond.codeWith yL_branch cL_branch 4 (some .int) [(0, 9, 12, 13), (0, 9, 15, 15)] :: qw_G, RL)
theorem qi_L_branch : ∀ w ∈ qw_G, w ∈ qB_L_branch.2.2.2.2.1 := fun w h => List.mem_cons_of_mem _ h
def qB_L_examined : qe_B := (yL_examined, cL_examined, 4, (some .int), Cond.codeWith yL_examined cL_examined 4 (some .int) [(0, 9, 12, 13), (0, 9, 15, 15)] :: qw_G, RL)
theorem qi_L_examined : ∀ w ∈ qw_G, w ∈ qB_L_examined.2.2.2.2.1 := fun w h => List.mem_cons_of_mem _ h
def qB_L_cost : qe_B := (yL_cost, cL_cost, 4, (some .int), Cond.codeWith yL_cost cL_cost 4 (some .int) [(0, 9, 12, 13), (0, 9, 15, 15)] :: qw_G, RL)
theorem qi_L_cost : ∀ w ∈ qw_G, w ∈ qB_L_cost.2.2.2.2.1 := fun w h => List.mem_cons_of_mem _ h
def qB_L_worst : qe_B := (yL_worst, cL_worst, 4, (some .int), Cond.codeWith yL_worst cL_worst 4 (some .int) [(0, 9, 12, 13), (0, 9, 15, 15)] :: qw_G, RL)
theorem qi_L_worst : ∀ w ∈ qw_G, w ∈ qB_L_worst.2.2.2.2.1 := fun w h => List.mem_cons_of_mem _ h
def qB_L_meanBits : qe_B := (yL_meanBits, cL_meanBits, 4, (some .int), Cond.codeWith yL_meanBits cL_meanBits 4 (some .int) [(0, 8, 11, 13), (0, 8, 14, 15), (0, 8, 17, 70)] :: qw_G, RL)
theorem qi_L_meanBits : ∀ w ∈ qw_G, w ∈ qB_L_meanBits.2.2.2.2.1 := fun w h => List.mem_cons_of_mem _ h
def qB_L_trees : qe_B := (yL_trees, cL_trees, 4, (some .int), Cond.codeWith yL_trees cL_trees 4 (some .int) [(0, 9, 12, 13)] :: qw_G, RL)
theorem qi_L_trees : ∀ w ∈ qw_G, w ∈ qB_L_trees.2.2.2.2.1 := fun w h => List.mem_cons_of_mem _ h
def qB_L_table : qe_B := (yL_table, cL_table, 4, (some .int), Cond.codeWith yL_table cL_table 4 (some .int) [(0, 9, 12, 13), (0, 9, 15, 15)] :: qw_G, RL)
theorem qi_L_table : ∀ w ∈ qw_G, w ∈ qB_L_table.2.2.2.2.1 := fun w h => List.mem_cons_of_mem _ h
def qB_L_slot : qe_B := (yL_slot, cL_slot, 4, (some .int), Cond.codeWith yL_slot cL_slot 4 (some .int) [(0, 9, 12, 15), (0, 9, 15, 23)] :: qw_G, RL)
theorem qi_L_slot : ∀ w ∈ qw_G, w ∈ qB_L_slot.2.2.2.2.1 := fun w h => List.mem_cons_of_mem _ h
def qB_L_displacement : qe_B := (yL_displacement, cL_displacement, 4, (some .int), Cond.codeWith yL_displacement cL_displacement 4 (some .int) [(0, 9, 12, 15), (0, 9, 15, 23)] :: qw_G, RL)
theorem qi_L_displacement : ∀ w ∈ qw_G, w ∈ qB_L_displacement.2.2.2.2.1 := fun w h => List.mem_cons_of_mem _ h
def qB_L_densityBits : qe_B := (yL_densityBits, cL_densityBits, 3, (some .int), Cond.codeWith yL_densityBits cL_densityBits 3 (some .int) [(0, 8, 11, 15)] :: qw_G, RL)
theorem qi_L_densityBits : ∀ w ∈ qw_G, w ∈ qB_L_densityBits.2.2.2.2.1 := fun w h => List.mem_cons_of_mem _ h
def qB_L_listing : qe_B := (yL_listing, cL_listing, 5, (some .int), Cond.codeWith yL_listing cL_listing 5 (some .int) [(0, 10, 13, 13), (0, 10, 17, 15), (0, 10, 21, 23)] :: qw_G, RL)
theorem qi_L_listing : ∀ w ∈ qw_G, w ∈ qB_L_listing.2.2.2.2.1 := fun w h => List.mem_cons_of_mem _ h
def qB_L_restore : qe_B := (yL_restore, cL_restore, 3, (some .int), Cond.codeWith yL_restore cL_restore 3 (some .int) [(0, 8, 11, 15)] :: qw_G, RL)
theorem qi_L_restore : ∀ w ∈ qw_G, w ∈ qB_L_restore.2.2.2.2.1 := fun w h => List.mem_cons_of_mem _ h
def qB_L_law : qe_B := (yL_law, cL_law, 8, (some .boolean), Cond.initialized RL :: qw_G, RL)
theorem qi_L_law : ∀ w ∈ qw_G, w ∈ qB_L_law.2.2.2.2.1 := fun w h => List.mem_cons_of_mem _ h
def qB_J6_bitCount_0f7a4 : qe_B := (yJ6_bitCount_0f7a4, cJ6_bitCount_0f7a4, 1, (some .int), Cond.code yJ6_bitCount_0f7a4 cJ6_bitCount_0f7a4 1 (some .int) :: qw_G, RJ6)
theorem qi_J6_bitCount_0f7a4 : ∀ w ∈ qw_G, w ∈ qB_J6_bitCount_0f7a4.2.2.2.2.1 := fun w h => List.mem_cons_of_mem _ h
def qw_M (j : Nat) : qe_B := cond (Nat.blt j 115) (cond (Nat.blt j 47) (cond (Nat.blt j 20) (cond (Nat.blt j 10) (cond (Nat.blt j 5) (cond (Nat.blt j 2) (cond (Nat.blt j 1) (qB_X9_init) (qB_X9_append)) (cond (Nat.blt j 3) (qB_X9_clear) (cond (Nat.blt j 4) (qB_X9_add) (qB_X9_remove)))) (cond (Nat.blt j 7) (cond (Nat.blt j 6) (qB_X9_setBranch) (qB_X9_setWeight)) (cond (Nat.blt j 8) (qB_X9_setLoad) (cond (Nat.blt j 9) (qB_X9_execute) (qB_X9_errorPosition))))) (cond (Nat.blt j 15) (cond (Nat.blt j 12) (cond (Nat.blt j 11) (qB_X9_property) (qB_X9_character)) (cond (Nat.blt j 13) (qB_X9_difference) (cond (Nat.blt j 14) (qB_X9_size) (qB_X9_find)))) (cond (Nat.blt j 17) (cond (Nat.blt j 16) (qB_X9_branch) (qB_X9_examined)) (cond (Nat.blt j 18) (qB_X9_cost) (cond (Nat.blt j 19) (qB_X9_worst) (qB_X9_meanBits)))))) (cond (Nat.blt j 30) (cond (Nat.blt j 25) (cond (Nat.blt j 22) (cond (Nat.blt j 21) (qB_X9_best) (qB_X9_trees)) (cond (Nat.blt j 23) (qB_X9_selected) (cond (Nat.blt j 24) (qB_X9_hash) (qB_X9_table)))) (cond (Nat.blt j 27) (cond (Nat.blt j 26) (qB_X9_slot) (qB_X9_displacement)) (cond (Nat.blt j 28) (qB_X9_densityBits) (cond (Nat.blt j 29) (qB_X9_listing) (qB_X9_save))))) (cond (Nat.blt j 36) (cond (Nat.blt j 33) (cond (Nat.blt j 31) (qB_X9_restore) (qB_X9_requireKey)) (cond (Nat.blt j 34) (qB_X9_requireStrategy) (cond (Nat.blt j 35) (qB_X9_requireRunnable) (qB_X9_requireTable)))) (cond (Nat.blt j 39) (cond (Nat.blt j 37) (qB_X9_canRun) (qB_X9_prepare)) (cond (Nat.blt j 40) (qB_X9_put) (cond (Nat.blt j 42) (qB_X9_copy) (qB_X9_contains))))))) (cond (Nat.blt j 81) (cond (Nat.blt j 62) (cond (Nat.blt j 54) (cond (Nat.blt j 49) (cond (Nat.blt j 48) (qB_X10_init) (qB_X10_thrown)) (cond (Nat.blt j 50) (qB_X10_in) (cond (Nat.blt j 53) (qB_X10_isKey) (qB_X10_append)))) (cond (Nat.blt j 59) (cond (Nat.blt j 58) (qB_X10_clear) (qB_X10_add)) (cond (Nat.blt j 60) (qB_X10_remove) (cond (Nat.blt j 61) (qB_X10_setBranch) (qB_X10_setWeight))))) (cond (Nat.blt j 72) (cond (Nat.blt j 65) (cond (Nat.blt j 63) (qB_X10_setLoad) (qB_X10_here)) (cond (Nat.blt j 66) (qB_X10_isWord) (cond (Nat.blt j 70) (qB_X10_word) (qB_X10_readCommand)))) (cond (Nat.blt j 78) (cond (Nat.blt j 73) (qB_X10_execute) (qB_X10_errorPosition)) (cond (Nat.blt j 79) (qB_X10_property) (cond (Nat.blt j 80) (qB_X10_character) (qB_X10_difference)))))) (cond (Nat.blt j 100) (cond (Nat.blt j 92) (cond (Nat.blt j 85) (cond (Nat.blt j 82) (qB_X10_size) (qB_X10_takeBuffer)) (cond (Nat.blt j 88) (qB_X10_linear) (cond (Nat.blt j 89) (qB_X10_search) (qB_X10_marked)))) (cond (Nat.blt j 96) (cond (Nat.blt j 94) (qB_X10_ofLength) (qB_X10_climb)) (cond (Nat.blt j 97) (qB_X10_trees) (cond (Nat.blt j 98) (qB_X10_separates) (qB_X10_sizeOf))))) (cond (Nat.blt j 109) (cond (Nat.blt j 106) (cond (Nat.blt j 101) (qB_X10_select) (qB_X10_hashOfText)) (cond (Nat.blt j 107) (qB_X10_prepare) (cond (Nat.blt j 108) (qB_X10_hashed) (qB_X10_canRun)))) (cond (Nat.blt j 112) (cond (Nat.blt j 110) (qB_X10_refusal) (cond (Nat.blt j 111) (qB_X10_run) (qB_X10_find))) (cond (Nat.blt j 113) (qB_X10_branch) (cond (Nat.blt j 114) (qB_X10_examined) (qB_X10_costOf)))))))) (cond (Nat.blt j 198) (cond (Nat.blt j 143) (cond (Nat.blt j 126) (cond (Nat.blt j 120) (cond (Nat.blt j 117) (cond (Nat.blt j 116) (qB_X10_cost) (qB_X10_worst)) (cond (Nat.blt j 118) (qB_X10_meanBits) (cond (Nat.blt j 119) (qB_X10_best) (qB_X10_selected)))) (cond (Nat.blt j 123) (cond (Nat.blt j 121) (qB_X10_hash) (qB_X10_hasTable)) (cond (Nat.blt j 124) (qB_X10_table) (cond (Nat.blt j 125) (qB_X10_slot) (qB_X10_displacement))))) (cond (Nat.blt j 137) (cond (Nat.blt j 134) (cond (Nat.blt j 132) (qB_X10_densityBits) (qB_X10_putTrees)) (cond (Nat.blt j 135) (qB_X10_list) (cond (Nat.blt j 136) (qB_X10_listing) (qB_X10_save)))) (cond (Nat.blt j 139) (cond (Nat.blt j 138) (qB_X10_restore) (qB_X0_init)) (cond (Nat.blt j 140) (qB_X0_read) (cond (Nat.blt j 142) (qB_X0_readCommand) (qB_X0_readWord)))))) (cond (Nat.blt j 180) (cond (Nat.blt j 160) (cond (Nat.blt j 153) (cond (Nat.blt j 152) (qB_X0_isWord) (qB_X1_init)) (cond (Nat.blt j 157) (qB_X1_grow) (cond (Nat.blt j 158) (qB_X1_rootWith) (qB_X1_treeWith)))) (cond (Nat.blt j 166) (cond (Nat.blt j 165) (qB_X1_plantRoots) (qB_X2_init)) (cond (Nat.blt j 173) (qB_X2_has) (cond (Nat.blt j 174) (qB_X2_changeLoad) (qB_X2_takeOver))))) (cond (Nat.blt j 190) (cond (Nat.blt j 183) (cond (Nat.blt j 182) (qB_X2_totalWeight) (qB_X3_init)) (cond (Nat.blt j 186) (qB_X3_list) (cond (Nat.blt j 187) (qB_X3_listKeys) (qB_X3_listForest)))) (cond (Nat.blt j 193) (cond (Nat.blt j 191) (qB_X4_init) (cond (Nat.blt j 192) (qB_X4_sort) (qB_X5_init))) (cond (Nat.blt j 194) (qB_X5_run) (cond (Nat.blt j 197) (qB_X5_measure) (qB_X5_runLinear))))))) (cond (Nat.blt j 230) (cond (Nat.blt j 209) (cond (Nat.blt j 204) (cond (Nat.blt j 201) (cond (Nat.blt j 199) (qB_X5_runBinary) (qB_X5_runTrees)) (cond (Nat.blt j 202) (qB_X5_runTable) (cond (Nat.blt j 203) (qB_X6_init) (qB_X6_choose)))) (cond (Nat.blt j 206) (cond (Nat.blt j 205) (qB_X6_turned) (qB_X6_collectPairs)) (cond (Nat.blt j 207) (qB_X6_separates) (cond (Nat.blt j 208) (qB_X6_hashOf) (qB_X7_init))))) (cond (Nat.blt j 225) (cond (Nat.blt j 219) (cond (Nat.blt j 218) (qB_X7_build) (qB_X8_init)) (cond (Nat.blt j 221) (qB_X8_empty) (cond (Nat.blt j 224) (qB_X8_write) (qB_X8_isKey)))) (cond (Nat.blt j 227) (cond (Nat.blt j 226) (qB_L_append) (qB_L_add)) (cond (Nat.blt j 228) (qB_L_remove) (cond (Nat.blt j 229) (qB_L_setBranch) (qB_L_setWeight)))))) (cond (Nat.blt j 240) (cond (Nat.blt j 235) (cond (Nat.blt j 232) (cond (Nat.blt j 231) (qB_L_setLoad) (qB_L_execute)) (cond (Nat.blt j 233) (qB_L_property) (cond (Nat.blt j 234) (qB_L_character) (qB_L_difference)))) (cond (Nat.blt j 237) (cond (Nat.blt j 236) (qB_L_size) (qB_L_find)) (cond (Nat.blt j 238) (qB_L_branch) (cond (Nat.blt j 239) (qB_L_examined) (qB_L_cost))))) (cond (Nat.blt j 245) (cond (Nat.blt j 242) (cond (Nat.blt j 241) (qB_L_worst) (qB_L_meanBits)) (cond (Nat.blt j 243) (qB_L_trees) (cond (Nat.blt j 244) (qB_L_table) (qB_L_slot)))) (cond (Nat.blt j 248) (cond (Nat.blt j 246) (qB_L_displacement) (cond (Nat.blt j 247) (qB_L_densityBits) (qB_L_listing))) (cond (Nat.blt j 249) (qB_L_restore) (cond (Nat.blt j 250) (qB_L_law) (qB_J6_bitCount_0f7a4))))))))
def qw_n (i : Nat) : String := cond (Nat.beq i 0) "java/lang/IllegalArgumentException" (cond (Nat.beq i 1) "java/lang/IllegalStateException" (cond (Nat.beq i 2) "java/lang/IndexOutOfBoundsException" "java/lang/ArithmeticException"))
def qp_X9_init (b : Nat) : Nat := 0
def qp_X9_append (b : Nat) : Nat := cond (Nat.blt b 5) (cond (Nat.blt b 2) (cond (Nat.blt b 1) (0) (5)) (cond (Nat.blt b 3) (37) (cond (Nat.blt b 4) (47) (50)))) (cond (Nat.blt b 7) (cond (Nat.blt b 6) (56) (80)) (cond (Nat.blt b 8) (83) (cond (Nat.blt b 9) (110) (116))))
def qp_X9_clear (b : Nat) : Nat := 0
def qp_X9_add (b : Nat) : Nat := cond (Nat.blt b 1) (0) (20)
def qp_X9_remove (b : Nat) : Nat := 0
def qp_X9_setBranch (b : Nat) : Nat := 0
def qp_X9_setWeight (b : Nat) : Nat := 0
def qp_X9_setLoad (b : Nat) : Nat := cond (Nat.blt b 1) (0) (cond (Nat.blt b 2) (12) (22))
def qp_X9_execute (b : Nat) : Nat := cond (Nat.blt b 1) (0) (cond (Nat.blt b 2) (38) (72))
def qp_X9_errorPosition (b : Nat) : Nat := 0
def qp_X9_property (b : Nat) : Nat := 0
def qp_X9_character (b : Nat) : Nat := 0
def qp_X9_difference (b : Nat) : Nat := 0
def qp_X9_size (b : Nat) : Nat := cond (Nat.blt b 2) (cond (Nat.blt b 1) (0) (28)) (cond (Nat.blt b 3) (36) (cond (Nat.blt b 4) (44) (52)))
def qp_X9_find (b : Nat) : Nat := 0
def qp_X9_branch (b : Nat) : Nat := cond (Nat.blt b 1) (0) (cond (Nat.blt b 2) (36) (53))
def qp_X9_examined (b : Nat) : Nat := 0
def qp_X9_cost (b : Nat) : Nat := 0
def qp_X9_worst (b : Nat) : Nat := 0
def qp_X9_meanBits (b : Nat) : Nat := cond (Nat.blt b 1) (0) (31)
def qp_X9_best (b : Nat) : Nat := cond (Nat.blt b 2) (cond (Nat.blt b 1) (0) (24)) (cond (Nat.blt b 3) (66) (72))
def qp_X9_trees (b : Nat) : Nat := cond (Nat.blt b 3) (cond (Nat.blt b 1) (0) (cond (Nat.blt b 2) (36) (44))) (cond (Nat.blt b 4) (60) (cond (Nat.blt b 5) (68) (76)))
def qp_X9_selected (b : Nat) : Nat := 0
def qp_X9_hash (b : Nat) : Nat := 0
def qp_X9_table (b : Nat) : Nat := cond (Nat.blt b 1) (0) (cond (Nat.blt b 2) (9) (19))
def qp_X9_slot (b : Nat) : Nat := 0
def qp_X9_displacement (b : Nat) : Nat := 0
def qp_X9_densityBits (b : Nat) : Nat := 0
def qp_X9_listing (b : Nat) : Nat := cond (Nat.blt b 2) (cond (Nat.blt b 1) (0) (17)) (cond (Nat.blt b 3) (41) (cond (Nat.blt b 4) (59) (70)))
def qp_X9_save (b : Nat) : Nat := 0
def qp_X9_restore (b : Nat) : Nat := cond (Nat.blt b 1) (0) (18)
def qp_X9_requireKey (b : Nat) : Nat := cond (Nat.blt b 1) (0) (22)
def qp_X9_requireStrategy (b : Nat) : Nat := cond (Nat.blt b 1) (0) (cond (Nat.blt b 2) (9) (20))
def qp_X9_requireRunnable (b : Nat) : Nat := cond (Nat.blt b 1) (0) (23)
def qp_X9_requireTable (b : Nat) : Nat := cond (Nat.blt b 1) (0) (21)
def qp_X9_canRun (b : Nat) : Nat := cond (Nat.blt b 1) (0) (cond (Nat.blt b 2) (25) (30))
def qp_X9_prepare (b : Nat) : Nat := cond (Nat.blt b 1) (0) (53)
def qp_X9_put (b : Nat) : Nat := cond (Nat.blt b 1) (0) (14)
def qp_X9_copy (b : Nat) : Nat := cond (Nat.blt b 1) (0) (cond (Nat.blt b 2) (2) (26))
def qp_X9_contains (b : Nat) : Nat := cond (Nat.blt b 1) (0) (cond (Nat.blt b 2) (12) (13))
def qp_X10_init (b : Nat) : Nat := 0
def qp_X10_thrown (b : Nat) : Nat := 0
def qp_X10_in (b : Nat) : Nat := cond (Nat.blt b 1) (0) (cond (Nat.blt b 2) (17) (18))
def qp_X10_isKey (b : Nat) : Nat := 0
def qp_X10_append (b : Nat) : Nat := cond (Nat.blt b 7) (cond (Nat.blt b 3) (cond (Nat.blt b 1) (0) (cond (Nat.blt b 2) (8) (47))) (cond (Nat.blt b 5) (cond (Nat.blt b 4) (51) (52)) (cond (Nat.blt b 6) (63) (64)))) (cond (Nat.blt b 11) (cond (Nat.blt b 9) (cond (Nat.blt b 8) (72) (81)) (cond (Nat.blt b 10) (96) (97))) (cond (Nat.blt b 13) (cond (Nat.blt b 12) (109) (113)) (cond (Nat.blt b 14) (154) (160))))
def qp_X10_clear (b : Nat) : Nat := 0
def qp_X10_add (b : Nat) : Nat := cond (Nat.blt b 3) (cond (Nat.blt b 1) (0) (cond (Nat.blt b 2) (31) (71))) (cond (Nat.blt b 4) (80) (cond (Nat.blt b 5) (108) (120)))
def qp_X10_remove (b : Nat) : Nat := cond (Nat.blt b 1) (0) (cond (Nat.blt b 2) (13) (26))
def qp_X10_setBranch (b : Nat) : Nat := cond (Nat.blt b 2) (cond (Nat.blt b 1) (0) (13)) (cond (Nat.blt b 3) (30) (42))
def qp_X10_setWeight (b : Nat) : Nat := cond (Nat.blt b 2) (cond (Nat.blt b 1) (0) (13)) (cond (Nat.blt b 3) (30) (42))
def qp_X10_setLoad (b : Nat) : Nat := cond (Nat.blt b 2) (cond (Nat.blt b 1) (0) (19)) (cond (Nat.blt b 3) (20) (32))
def qp_X10_here (b : Nat) : Nat := cond (Nat.blt b 1) (0) (23)
def qp_X10_isWord (b : Nat) : Nat := cond (Nat.blt b 1) (0) (cond (Nat.blt b 2) (17) (65))
def qp_X10_word (b : Nat) : Nat := cond (Nat.blt b 3) (cond (Nat.blt b 1) (0) (cond (Nat.blt b 2) (35) (49))) (cond (Nat.blt b 5) (cond (Nat.blt b 4) (63) (77)) (cond (Nat.blt b 6) (91) (107)))
def qp_X10_readCommand (b : Nat) : Nat := cond (Nat.blt b 1) (0) (34)
def qp_X10_execute (b : Nat) : Nat := cond (Nat.blt b 6) (cond (Nat.blt b 3) (cond (Nat.blt b 1) (0) (cond (Nat.blt b 2) (17) (52))) (cond (Nat.blt b 4) (69) (cond (Nat.blt b 5) (74) (86)))) (cond (Nat.blt b 9) (cond (Nat.blt b 7) (87) (cond (Nat.blt b 8) (105) (106))) (cond (Nat.blt b 10) (187) (cond (Nat.blt b 11) (208) (212))))
def qp_X10_errorPosition (b : Nat) : Nat := 0
def qp_X10_property (b : Nat) : Nat := cond (Nat.blt b 2) (cond (Nat.blt b 1) (0) (13)) (cond (Nat.blt b 3) (30) (42))
def qp_X10_character (b : Nat) : Nat := cond (Nat.blt b 2) (cond (Nat.blt b 1) (0) (33)) (cond (Nat.blt b 3) (48) (54))
def qp_X10_difference (b : Nat) : Nat := cond (Nat.blt b 2) (cond (Nat.blt b 1) (0) (17)) (cond (Nat.blt b 3) (31) (cond (Nat.blt b 4) (45) (51)))
def qp_X10_size (b : Nat) : Nat := cond (Nat.blt b 3) (cond (Nat.blt b 1) (0) (cond (Nat.blt b 2) (17) (18))) (cond (Nat.blt b 4) (32) (cond (Nat.blt b 5) (44) (50)))
def qp_X10_takeBuffer (b : Nat) : Nat := 0
def qp_X10_linear (b : Nat) : Nat := cond (Nat.blt b 1) (0) (28)
def qp_X10_search (b : Nat) : Nat := cond (Nat.blt b 1) (0) (64)
def qp_X10_marked (b : Nat) : Nat := cond (Nat.blt b 1) (0) (34)
def qp_X10_ofLength (b : Nat) : Nat := cond (Nat.blt b 1) (0) (43)
def qp_X10_climb (b : Nat) : Nat := cond (Nat.blt b 1) (0) (cond (Nat.blt b 2) (75) (81))
def qp_X10_trees (b : Nat) : Nat := cond (Nat.blt b 5) (cond (Nat.blt b 2) (cond (Nat.blt b 1) (0) (17)) (cond (Nat.blt b 3) (18) (cond (Nat.blt b 4) (30) (52)))) (cond (Nat.blt b 8) (cond (Nat.blt b 6) (89) (cond (Nat.blt b 7) (95) (106))) (cond (Nat.blt b 9) (118) (cond (Nat.blt b 10) (130) (134))))
def qp_X10_separates (b : Nat) : Nat := cond (Nat.blt b 1) (0) (125)
def qp_X10_sizeOf (b : Nat) : Nat := cond (Nat.blt b 1) (0) (cond (Nat.blt b 2) (4) (24))
def qp_X10_select (b : Nat) : Nat := cond (Nat.blt b 3) (cond (Nat.blt b 1) (0) (cond (Nat.blt b 2) (4) (45))) (cond (Nat.blt b 5) (cond (Nat.blt b 4) (49) (50)) (cond (Nat.blt b 6) (65) (71)))
def qp_X10_hashOfText (b : Nat) : Nat := cond (Nat.blt b 2) (cond (Nat.blt b 1) (0) (4)) (cond (Nat.blt b 3) (46) (52))
def qp_X10_prepare (b : Nat) : Nat := cond (Nat.blt b 2) (cond (Nat.blt b 1) (0) (8)) (cond (Nat.blt b 3) (109) (125))
def qp_X10_hashed (b : Nat) : Nat := cond (Nat.blt b 1) (0) (11)
def qp_X10_canRun (b : Nat) : Nat := cond (Nat.blt b 1) (0) (cond (Nat.blt b 2) (25) (30))
def qp_X10_refusal (b : Nat) : Nat := cond (Nat.blt b 2) (cond (Nat.blt b 1) (0) (16)) (cond (Nat.blt b 3) (28) (29))
def qp_X10_run (b : Nat) : Nat := cond (Nat.blt b 2) (cond (Nat.blt b 1) (0) (16)) (cond (Nat.blt b 3) (28) (cond (Nat.blt b 4) (40) (44)))
def qp_X10_find (b : Nat) : Nat := cond (Nat.blt b 1) (0) (18)
def qp_X10_branch (b : Nat) : Nat := cond (Nat.blt b 2) (cond (Nat.blt b 1) (0) (18)) (cond (Nat.blt b 3) (36) (45))
def qp_X10_examined (b : Nat) : Nat := cond (Nat.blt b 1) (0) (18)
def qp_X10_costOf (b : Nat) : Nat := cond (Nat.blt b 1) (0) (49)
def qp_X10_cost (b : Nat) : Nat := cond (Nat.blt b 1) (0) (cond (Nat.blt b 2) (20) (25))
def qp_X10_worst (b : Nat) : Nat := cond (Nat.blt b 1) (0) (cond (Nat.blt b 2) (18) (59))
def qp_X10_meanBits (b : Nat) : Nat := cond (Nat.blt b 2) (cond (Nat.blt b 1) (0) (30)) (cond (Nat.blt b 3) (34) (46))
def qp_X10_best (b : Nat) : Nat := cond (Nat.blt b 2) (cond (Nat.blt b 1) (0) (15)) (cond (Nat.blt b 3) (45) (cond (Nat.blt b 4) (54) (60)))
def qp_X10_selected (b : Nat) : Nat := 0
def qp_X10_hash (b : Nat) : Nat := 0
def qp_X10_hasTable (b : Nat) : Nat := 0
def qp_X10_table (b : Nat) : Nat := cond (Nat.blt b 2) (cond (Nat.blt b 1) (0) (17)) (cond (Nat.blt b 3) (28) (cond (Nat.blt b 4) (29) (41)))
def qp_X10_slot (b : Nat) : Nat := cond (Nat.blt b 2) (cond (Nat.blt b 1) (0) (12)) (cond (Nat.blt b 3) (33) (cond (Nat.blt b 4) (47) (53)))
def qp_X10_displacement (b : Nat) : Nat := cond (Nat.blt b 2) (cond (Nat.blt b 1) (0) (12)) (cond (Nat.blt b 3) (33) (cond (Nat.blt b 4) (47) (53)))
def qp_X10_densityBits (b : Nat) : Nat := cond (Nat.blt b 2) (cond (Nat.blt b 1) (0) (12)) (cond (Nat.blt b 3) (27) (43))
def qp_X10_putTrees (b : Nat) : Nat := cond (Nat.blt b 2) (cond (Nat.blt b 1) (0) (2)) (cond (Nat.blt b 3) (52) (58))
def qp_X10_list (b : Nat) : Nat := cond (Nat.blt b 2) (cond (Nat.blt b 1) (0) (55)) (cond (Nat.blt b 3) (64) (73))
def qp_X10_listing (b : Nat) : Nat := cond (Nat.blt b 5) (cond (Nat.blt b 2) (cond (Nat.blt b 1) (0) (17)) (cond (Nat.blt b 3) (33) (cond (Nat.blt b 4) (34) (46)))) (cond (Nat.blt b 7) (cond (Nat.blt b 6) (74) (75)) (cond (Nat.blt b 8) (89) (cond (Nat.blt b 9) (101) (107))))
def qp_X10_save (b : Nat) : Nat := 0
def qp_X10_restore (b : Nat) : Nat := cond (Nat.blt b 1) (0) (cond (Nat.blt b 2) (12) (25))
def qp_X0_init (b : Nat) : Nat := 0
def qp_X0_read (b : Nat) : Nat := cond (Nat.blt b 1) (0) (cond (Nat.blt b 2) (40) (83))
def qp_X0_readCommand (b : Nat) : Nat := cond (Nat.blt b 3) (cond (Nat.blt b 1) (0) (cond (Nat.blt b 2) (64) (106))) (cond (Nat.blt b 4) (130) (cond (Nat.blt b 5) (175) (203)))
def qp_X0_readWord (b : Nat) : Nat := cond (Nat.blt b 3) (cond (Nat.blt b 1) (0) (cond (Nat.blt b 2) (43) (56))) (cond (Nat.blt b 4) (69) (cond (Nat.blt b 5) (82) (95)))
def qp_X0_isWord (b : Nat) : Nat := cond (Nat.blt b 1) (0) (15)
def qp_X1_init (b : Nat) : Nat := 0
def qp_X1_grow (b : Nat) : Nat := cond (Nat.blt b 1) (0) (94)
def qp_X1_rootWith (b : Nat) : Nat := 0
def qp_X1_treeWith (b : Nat) : Nat := cond (Nat.blt b 1) (0) (35)
def qp_X1_plantRoots (b : Nat) : Nat := cond (Nat.blt b 2) (cond (Nat.blt b 1) (0) (4)) (cond (Nat.blt b 3) (59) (cond (Nat.blt b 4) (72) (78)))
def qp_X2_init (b : Nat) : Nat := 0
def qp_X2_has (b : Nat) : Nat := cond (Nat.blt b 1) (0) (16)
def qp_X2_changeLoad (b : Nat) : Nat := 0
def qp_X2_takeOver (b : Nat) : Nat := 0
def qp_X2_totalWeight (b : Nat) : Nat := cond (Nat.blt b 1) (0) (29)
def qp_X3_init (b : Nat) : Nat := 0
def qp_X3_list (b : Nat) : Nat := cond (Nat.blt b 3) (cond (Nat.blt b 1) (0) (cond (Nat.blt b 2) (36) (46))) (cond (Nat.blt b 5) (cond (Nat.blt b 4) (47) (53)) (cond (Nat.blt b 6) (60) (64)))
def qp_X3_listKeys (b : Nat) : Nat := cond (Nat.blt b 1) (0) (49)
def qp_X3_listForest (b : Nat) : Nat := cond (Nat.blt b 1) (0) (59)
def qp_X4_init (b : Nat) : Nat := 0
def qp_X4_sort (b : Nat) : Nat := cond (Nat.blt b 1) (0) (35)
def qp_X5_init (b : Nat) : Nat := 0
def qp_X5_run (b : Nat) : Nat := cond (Nat.blt b 3) (cond (Nat.blt b 1) (0) (cond (Nat.blt b 2) (36) (44))) (cond (Nat.blt b 4) (52) (cond (Nat.blt b 5) (60) (65)))
def qp_X5_measure (b : Nat) : Nat := cond (Nat.blt b 1) (0) (97)
def qp_X5_runLinear (b : Nat) : Nat := cond (Nat.blt b 1) (0) (41)
def qp_X5_runBinary (b : Nat) : Nat := cond (Nat.blt b 1) (0) (128)
def qp_X5_runTrees (b : Nat) : Nat := cond (Nat.blt b 1) (0) (cond (Nat.blt b 2) (91) (125))
def qp_X5_runTable (b : Nat) : Nat := cond (Nat.blt b 1) (0) (91)
def qp_X6_init (b : Nat) : Nat := 0
def qp_X6_choose (b : Nat) : Nat := cond (Nat.blt b 2) (cond (Nat.blt b 1) (0) (11)) (cond (Nat.blt b 3) (46) (52))
def qp_X6_turned (b : Nat) : Nat := cond (Nat.blt b 2) (cond (Nat.blt b 1) (0) (4)) (cond (Nat.blt b 3) (27) (33))
def qp_X6_collectPairs (b : Nat) : Nat := cond (Nat.blt b 1) (0) (86)
def qp_X6_separates (b : Nat) : Nat := cond (Nat.blt b 1) (0) (31)
def qp_X6_hashOf (b : Nat) : Nat := cond (Nat.blt b 2) (cond (Nat.blt b 1) (0) (5)) (cond (Nat.blt b 3) (49) (55))
def qp_X7_init (b : Nat) : Nat := 0
def qp_X7_build (b : Nat) : Nat := cond (Nat.blt b 1) (0) (cond (Nat.blt b 2) (20) (107))
def qp_X8_init (b : Nat) : Nat := 0
def qp_X8_empty (b : Nat) : Nat := 0
def qp_X8_write (b : Nat) : Nat := cond (Nat.blt b 1) (0) (39)
def qp_X8_isKey (b : Nat) : Nat := cond (Nat.blt b 1) (0) (cond (Nat.blt b 2) (26) (47))
def qp_L_append (b : Nat) : Nat := cond (Nat.blt b 1) (0) (cond (Nat.blt b 2) (13) (18))
def qp_L_add (b : Nat) : Nat := cond (Nat.blt b 1) (0) (13)
def qp_L_remove (b : Nat) : Nat := cond (Nat.blt b 1) (0) (13)
def qp_L_setBranch (b : Nat) : Nat := cond (Nat.blt b 1) (0) (15)
def qp_L_setWeight (b : Nat) : Nat := cond (Nat.blt b 1) (0) (15)
def qp_L_setLoad (b : Nat) : Nat := cond (Nat.blt b 1) (0) (cond (Nat.blt b 2) (13) (15))
def qp_L_execute (b : Nat) : Nat := cond (Nat.blt b 1) (0) (12)
def qp_L_property (b : Nat) : Nat := cond (Nat.blt b 1) (0) (15)
def qp_L_character (b : Nat) : Nat := cond (Nat.blt b 1) (0) (15)
def qp_L_difference (b : Nat) : Nat := cond (Nat.blt b 1) (0) (15)
def qp_L_size (b : Nat) : Nat := cond (Nat.blt b 1) (0) (cond (Nat.blt b 2) (13) (15))
def qp_L_find (b : Nat) : Nat := cond (Nat.blt b 1) (0) (cond (Nat.blt b 2) (13) (18))
def qp_L_branch (b : Nat) : Nat := cond (Nat.blt b 1) (0) (cond (Nat.blt b 2) (13) (18))
def qp_L_examined (b : Nat) : Nat := cond (Nat.blt b 1) (0) (cond (Nat.blt b 2) (13) (18))
def qp_L_cost (b : Nat) : Nat := cond (Nat.blt b 1) (0) (cond (Nat.blt b 2) (13) (18))
def qp_L_worst (b : Nat) : Nat := cond (Nat.blt b 1) (0) (cond (Nat.blt b 2) (13) (18))
def qp_L_meanBits (b : Nat) : Nat := cond (Nat.blt b 1) (0) (cond (Nat.blt b 2) (12) (18))
def qp_L_trees (b : Nat) : Nat := cond (Nat.blt b 1) (0) (cond (Nat.blt b 2) (13) (15))
def qp_L_table (b : Nat) : Nat := cond (Nat.blt b 1) (0) (cond (Nat.blt b 2) (13) (16))
def qp_L_slot (b : Nat) : Nat := cond (Nat.blt b 1) (0) (13)
def qp_L_displacement (b : Nat) : Nat := cond (Nat.blt b 1) (0) (13)
def qp_L_densityBits (b : Nat) : Nat := cond (Nat.blt b 1) (0) (12)
def qp_L_listing (b : Nat) : Nat := cond (Nat.blt b 2) (cond (Nat.blt b 1) (0) (15)) (cond (Nat.blt b 3) (19) (cond (Nat.blt b 4) (23) (25)))
def qp_L_restore (b : Nat) : Nat := cond (Nat.blt b 1) (0) (12)
def qp_L_law (b : Nat) : Nat := cond (Nat.blt b 41) (cond (Nat.blt b 20) (cond (Nat.blt b 10) (cond (Nat.blt b 5) (cond (Nat.blt b 2) (cond (Nat.blt b 1) (0) (23)) (cond (Nat.blt b 3) (172) (cond (Nat.blt b 4) (208) (225)))) (cond (Nat.blt b 7) (cond (Nat.blt b 6) (228) (241)) (cond (Nat.blt b 8) (277) (cond (Nat.blt b 9) (294) (297))))) (cond (Nat.blt b 15) (cond (Nat.blt b 12) (cond (Nat.blt b 11) (333) (350)) (cond (Nat.blt b 13) (353) (cond (Nat.blt b 14) (401) (418)))) (cond (Nat.blt b 17) (cond (Nat.blt b 16) (421) (469)) (cond (Nat.blt b 18) (486) (cond (Nat.blt b 19) (489) (525)))))) (cond (Nat.blt b 30) (cond (Nat.blt b 25) (cond (Nat.blt b 22) (cond (Nat.blt b 21) (542) (545)) (cond (Nat.blt b 23) (569) (cond (Nat.blt b 24) (586) (589)))) (cond (Nat.blt b 27) (cond (Nat.blt b 26) (602) (650)) (cond (Nat.blt b 28) (667) (cond (Nat.blt b 29) (670) (718))))) (cond (Nat.blt b 35) (cond (Nat.blt b 32) (cond (Nat.blt b 31) (735) (738)) (cond (Nat.blt b 33) (786) (cond (Nat.blt b 34) (803) (806)))) (cond (Nat.blt b 38) (cond (Nat.blt b 36) (842) (cond (Nat.blt b 37) (859) (862))) (cond (Nat.blt b 39) (898) (cond (Nat.blt b 40) (915) (918))))))) (cond (Nat.blt b 61) (cond (Nat.blt b 51) (cond (Nat.blt b 46) (cond (Nat.blt b 43) (cond (Nat.blt b 42) (954) (971)) (cond (Nat.blt b 44) (974) (cond (Nat.blt b 45) (1010) (1027)))) (cond (Nat.blt b 48) (cond (Nat.blt b 47) (1030) (1066)) (cond (Nat.blt b 49) (1083) (cond (Nat.blt b 50) (1086) (1122))))) (cond (Nat.blt b 56) (cond (Nat.blt b 53) (cond (Nat.blt b 52) (1139) (1142)) (cond (Nat.blt b 54) (1178) (cond (Nat.blt b 55) (1194) (1197)))) (cond (Nat.blt b 58) (cond (Nat.blt b 57) (1210) (1246)) (cond (Nat.blt b 59) (1263) (cond (Nat.blt b 60) (1266) (1279)))))) (cond (Nat.blt b 71) (cond (Nat.blt b 66) (cond (Nat.blt b 63) (cond (Nat.blt b 62) (1304) (1340)) (cond (Nat.blt b 64) (1357) (cond (Nat.blt b 65) (1360) (1396)))) (cond (Nat.blt b 68) (cond (Nat.blt b 67) (1413) (1416)) (cond (Nat.blt b 69) (1452) (cond (Nat.blt b 70) (1469) (1472))))) (cond (Nat.blt b 76) (cond (Nat.blt b 73) (cond (Nat.blt b 72) (1496) (1513)) (cond (Nat.blt b 74) (1516) (cond (Nat.blt b 75) (1564) (1581)))) (cond (Nat.blt b 79) (cond (Nat.blt b 77) (1584) (cond (Nat.blt b 78) (1597) (1621))) (cond (Nat.blt b 80) (1638) (cond (Nat.blt b 81) (1641) (1647)))))))
def qp_J6_bitCount_0f7a4 (b : Nat) : Nat := 0
def qw_p (j b : Nat) : Nat := cond (Nat.blt j 115) (cond (Nat.blt j 47) (cond (Nat.blt j 20) (cond (Nat.blt j 10) (cond (Nat.blt j 5) (cond (Nat.blt j 2) (cond (Nat.blt j 1) (qp_X9_init b) (qp_X9_append b)) (cond (Nat.blt j 3) (qp_X9_clear b) (cond (Nat.blt j 4) (qp_X9_add b) (qp_X9_remove b)))) (cond (Nat.blt j 7) (cond (Nat.blt j 6) (qp_X9_setBranch b) (qp_X9_setWeight b)) (cond (Nat.blt j 8) (qp_X9_setLoad b) (cond (Nat.blt j 9) (qp_X9_execute b) (qp_X9_errorPosition b))))) (cond (Nat.blt j 15) (cond (Nat.blt j 12) (cond (Nat.blt j 11) (qp_X9_property b) (qp_X9_character b)) (cond (Nat.blt j 13) (qp_X9_difference b) (cond (Nat.blt j 14) (qp_X9_size b) (qp_X9_find b)))) (cond (Nat.blt j 17) (cond (Nat.blt j 16) (qp_X9_branch b) (qp_X9_examined b)) (cond (Nat.blt j 18) (qp_X9_cost b) (cond (Nat.blt j 19) (qp_X9_worst b) (qp_X9_meanBits b)))))) (cond (Nat.blt j 30) (cond (Nat.blt j 25) (cond (Nat.blt j 22) (cond (Nat.blt j 21) (qp_X9_best b) (qp_X9_trees b)) (cond (Nat.blt j 23) (qp_X9_selected b) (cond (Nat.blt j 24) (qp_X9_hash b) (qp_X9_table b)))) (cond (Nat.blt j 27) (cond (Nat.blt j 26) (qp_X9_slot b) (qp_X9_displacement b)) (cond (Nat.blt j 28) (qp_X9_densityBits b) (cond (Nat.blt j 29) (qp_X9_listing b) (qp_X9_save b))))) (cond (Nat.blt j 36) (cond (Nat.blt j 33) (cond (Nat.blt j 31) (qp_X9_restore b) (qp_X9_requireKey b)) (cond (Nat.blt j 34) (qp_X9_requireStrategy b) (cond (Nat.blt j 35) (qp_X9_requireRunnable b) (qp_X9_requireTable b)))) (cond (Nat.blt j 39) (cond (Nat.blt j 37) (qp_X9_canRun b) (qp_X9_prepare b)) (cond (Nat.blt j 40) (qp_X9_put b) (cond (Nat.blt j 42) (qp_X9_copy b) (qp_X9_contains b))))))) (cond (Nat.blt j 81) (cond (Nat.blt j 62) (cond (Nat.blt j 54) (cond (Nat.blt j 49) (cond (Nat.blt j 48) (qp_X10_init b) (qp_X10_thrown b)) (cond (Nat.blt j 50) (qp_X10_in b) (cond (Nat.blt j 53) (qp_X10_isKey b) (qp_X10_append b)))) (cond (Nat.blt j 59) (cond (Nat.blt j 58) (qp_X10_clear b) (qp_X10_add b)) (cond (Nat.blt j 60) (qp_X10_remove b) (cond (Nat.blt j 61) (qp_X10_setBranch b) (qp_X10_setWeight b))))) (cond (Nat.blt j 72) (cond (Nat.blt j 65) (cond (Nat.blt j 63) (qp_X10_setLoad b) (qp_X10_here b)) (cond (Nat.blt j 66) (qp_X10_isWord b) (cond (Nat.blt j 70) (qp_X10_word b) (qp_X10_readCommand b)))) (cond (Nat.blt j 78) (cond (Nat.blt j 73) (qp_X10_execute b) (qp_X10_errorPosition b)) (cond (Nat.blt j 79) (qp_X10_property b) (cond (Nat.blt j 80) (qp_X10_character b) (qp_X10_difference b)))))) (cond (Nat.blt j 100) (cond (Nat.blt j 92) (cond (Nat.blt j 85) (cond (Nat.blt j 82) (qp_X10_size b) (qp_X10_takeBuffer b)) (cond (Nat.blt j 88) (qp_X10_linear b) (cond (Nat.blt j 89) (qp_X10_search b) (qp_X10_marked b)))) (cond (Nat.blt j 96) (cond (Nat.blt j 94) (qp_X10_ofLength b) (qp_X10_climb b)) (cond (Nat.blt j 97) (qp_X10_trees b) (cond (Nat.blt j 98) (qp_X10_separates b) (qp_X10_sizeOf b))))) (cond (Nat.blt j 109) (cond (Nat.blt j 106) (cond (Nat.blt j 101) (qp_X10_select b) (qp_X10_hashOfText b)) (cond (Nat.blt j 107) (qp_X10_prepare b) (cond (Nat.blt j 108) (qp_X10_hashed b) (qp_X10_canRun b)))) (cond (Nat.blt j 112) (cond (Nat.blt j 110) (qp_X10_refusal b) (cond (Nat.blt j 111) (qp_X10_run b) (qp_X10_find b))) (cond (Nat.blt j 113) (qp_X10_branch b) (cond (Nat.blt j 114) (qp_X10_examined b) (qp_X10_costOf b)))))))) (cond (Nat.blt j 198) (cond (Nat.blt j 143) (cond (Nat.blt j 126) (cond (Nat.blt j 120) (cond (Nat.blt j 117) (cond (Nat.blt j 116) (qp_X10_cost b) (qp_X10_worst b)) (cond (Nat.blt j 118) (qp_X10_meanBits b) (cond (Nat.blt j 119) (qp_X10_best b) (qp_X10_selected b)))) (cond (Nat.blt j 123) (cond (Nat.blt j 121) (qp_X10_hash b) (qp_X10_hasTable b)) (cond (Nat.blt j 124) (qp_X10_table b) (cond (Nat.blt j 125) (qp_X10_slot b) (qp_X10_displacement b))))) (cond (Nat.blt j 137) (cond (Nat.blt j 134) (cond (Nat.blt j 132) (qp_X10_densityBits b) (qp_X10_putTrees b)) (cond (Nat.blt j 135) (qp_X10_list b) (cond (Nat.blt j 136) (qp_X10_listing b) (qp_X10_save b)))) (cond (Nat.blt j 139) (cond (Nat.blt j 138) (qp_X10_restore b) (qp_X0_init b)) (cond (Nat.blt j 140) (qp_X0_read b) (cond (Nat.blt j 142) (qp_X0_readCommand b) (qp_X0_readWord b)))))) (cond (Nat.blt j 180) (cond (Nat.blt j 160) (cond (Nat.blt j 153) (cond (Nat.blt j 152) (qp_X0_isWord b) (qp_X1_init b)) (cond (Nat.blt j 157) (qp_X1_grow b) (cond (Nat.blt j 158) (qp_X1_rootWith b) (qp_X1_treeWith b)))) (cond (Nat.blt j 166) (cond (Nat.blt j 165) (qp_X1_plantRoots b) (qp_X2_init b)) (cond (Nat.blt j 173) (qp_X2_has b) (cond (Nat.blt j 174) (qp_X2_changeLoad b) (qp_X2_takeOver b))))) (cond (Nat.blt j 190) (cond (Nat.blt j 183) (cond (Nat.blt j 182) (qp_X2_totalWeight b) (qp_X3_init b)) (cond (Nat.blt j 186) (qp_X3_list b) (cond (Nat.blt j 187) (qp_X3_listKeys b) (qp_X3_listForest b)))) (cond (Nat.blt j 193) (cond (Nat.blt j 191) (qp_X4_init b) (cond (Nat.blt j 192) (qp_X4_sort b) (qp_X5_init b))) (cond (Nat.blt j 194) (qp_X5_run b) (cond (Nat.blt j 197) (qp_X5_measure b) (qp_X5_runLinear b))))))) (cond (Nat.blt j 230) (cond (Nat.blt j 209) (cond (Nat.blt j 204) (cond (Nat.blt j 201) (cond (Nat.blt j 199) (qp_X5_runBinary b) (qp_X5_runTrees b)) (cond (Nat.blt j 202) (qp_X5_runTable b) (cond (Nat.blt j 203) (qp_X6_init b) (qp_X6_choose b)))) (cond (Nat.blt j 206) (cond (Nat.blt j 205) (qp_X6_turned b) (qp_X6_collectPairs b)) (cond (Nat.blt j 207) (qp_X6_separates b) (cond (Nat.blt j 208) (qp_X6_hashOf b) (qp_X7_init b))))) (cond (Nat.blt j 225) (cond (Nat.blt j 219) (cond (Nat.blt j 218) (qp_X7_build b) (qp_X8_init b)) (cond (Nat.blt j 221) (qp_X8_empty b) (cond (Nat.blt j 224) (qp_X8_write b) (qp_X8_isKey b)))) (cond (Nat.blt j 227) (cond (Nat.blt j 226) (qp_L_append b) (qp_L_add b)) (cond (Nat.blt j 228) (qp_L_remove b) (cond (Nat.blt j 229) (qp_L_setBranch b) (qp_L_setWeight b)))))) (cond (Nat.blt j 240) (cond (Nat.blt j 235) (cond (Nat.blt j 232) (cond (Nat.blt j 231) (qp_L_setLoad b) (qp_L_execute b)) (cond (Nat.blt j 233) (qp_L_property b) (cond (Nat.blt j 234) (qp_L_character b) (qp_L_difference b)))) (cond (Nat.blt j 237) (cond (Nat.blt j 236) (qp_L_size b) (qp_L_find b)) (cond (Nat.blt j 238) (qp_L_branch b) (cond (Nat.blt j 239) (qp_L_examined b) (qp_L_cost b))))) (cond (Nat.blt j 245) (cond (Nat.blt j 242) (cond (Nat.blt j 241) (qp_L_worst b) (qp_L_meanBits b)) (cond (Nat.blt j 243) (qp_L_trees b) (cond (Nat.blt j 244) (qp_L_table b) (qp_L_slot b)))) (cond (Nat.blt j 248) (cond (Nat.blt j 246) (qp_L_displacement b) (cond (Nat.blt j 247) (qp_L_densityBits b) (qp_L_listing b))) (cond (Nat.blt j 249) (qp_L_restore b) (cond (Nat.blt j 250) (qp_L_law b) (qp_J6_bitCount_0f7a4 b))))))))
def qw_hh (j : Nat) : List (Nat × Nat × Nat × Nat) := cond (Nat.blt j 115) (cond (Nat.blt j 47) (cond (Nat.blt j 20) (cond (Nat.blt j 10) (cond (Nat.blt j 5) (cond (Nat.blt j 2) (cond (Nat.blt j 1) ([]) ([])) (cond (Nat.blt j 3) ([]) (cond (Nat.blt j 4) ([]) ([])))) (cond (Nat.blt j 7) (cond (Nat.blt j 6) ([]) ([])) (cond (Nat.blt j 8) ([]) (cond (Nat.blt j 9) ([]) ([]))))) (cond (Nat.blt j 15) (cond (Nat.blt j 12) (cond (Nat.blt j 11) ([]) ([])) (cond (Nat.blt j 13) ([]) (cond (Nat.blt j 14) ([]) ([])))) (cond (Nat.blt j 17) (cond (Nat.blt j 16) ([]) ([])) (cond (Nat.blt j 18) ([]) (cond (Nat.blt j 19) ([]) ([])))))) (cond (Nat.blt j 30) (cond (Nat.blt j 25) (cond (Nat.blt j 22) (cond (Nat.blt j 21) ([]) ([])) (cond (Nat.blt j 23) ([]) (cond (Nat.blt j 24) ([]) ([])))) (cond (Nat.blt j 27) (cond (Nat.blt j 26) ([]) ([])) (cond (Nat.blt j 28) ([]) (cond (Nat.blt j 29) ([]) ([]))))) (cond (Nat.blt j 36) (cond (Nat.blt j 33) (cond (Nat.blt j 31) ([]) ([])) (cond (Nat.blt j 34) ([]) (cond (Nat.blt j 35) ([]) ([])))) (cond (Nat.blt j 39) (cond (Nat.blt j 37) ([]) ([])) (cond (Nat.blt j 40) ([]) (cond (Nat.blt j 42) ([]) ([]))))))) (cond (Nat.blt j 81) (cond (Nat.blt j 62) (cond (Nat.blt j 54) (cond (Nat.blt j 49) (cond (Nat.blt j 48) ([]) ([])) (cond (Nat.blt j 50) ([]) (cond (Nat.blt j 53) ([]) ([])))) (cond (Nat.blt j 59) (cond (Nat.blt j 58) ([]) ([])) (cond (Nat.blt j 60) ([]) (cond (Nat.blt j 61) ([]) ([]))))) (cond (Nat.blt j 72) (cond (Nat.blt j 65) (cond (Nat.blt j 63) ([]) ([])) (cond (Nat.blt j 66) ([]) (cond (Nat.blt j 70) ([]) ([])))) (cond (Nat.blt j 78) (cond (Nat.blt j 73) ([]) ([])) (cond (Nat.blt j 79) ([]) (cond (Nat.blt j 80) ([]) ([])))))) (cond (Nat.blt j 100) (cond (Nat.blt j 92) (cond (Nat.blt j 85) (cond (Nat.blt j 82) ([]) ([])) (cond (Nat.blt j 88) ([]) (cond (Nat.blt j 89) ([]) ([])))) (cond (Nat.blt j 96) (cond (Nat.blt j 94) ([]) ([])) (cond (Nat.blt j 97) ([]) (cond (Nat.blt j 98) ([]) ([]))))) (cond (Nat.blt j 109) (cond (Nat.blt j 106) (cond (Nat.blt j 101) ([]) ([])) (cond (Nat.blt j 107) ([]) (cond (Nat.blt j 108) ([]) ([])))) (cond (Nat.blt j 112) (cond (Nat.blt j 110) ([]) (cond (Nat.blt j 111) ([]) ([]))) (cond (Nat.blt j 113) ([]) (cond (Nat.blt j 114) ([]) ([])))))))) (cond (Nat.blt j 198) (cond (Nat.blt j 143) (cond (Nat.blt j 126) (cond (Nat.blt j 120) (cond (Nat.blt j 117) (cond (Nat.blt j 116) ([]) ([])) (cond (Nat.blt j 118) ([]) (cond (Nat.blt j 119) ([]) ([])))) (cond (Nat.blt j 123) (cond (Nat.blt j 121) ([]) ([])) (cond (Nat.blt j 124) ([]) (cond (Nat.blt j 125) ([]) ([]))))) (cond (Nat.blt j 137) (cond (Nat.blt j 134) (cond (Nat.blt j 132) ([]) ([])) (cond (Nat.blt j 135) ([]) (cond (Nat.blt j 136) ([]) ([])))) (cond (Nat.blt j 139) (cond (Nat.blt j 138) ([]) ([])) (cond (Nat.blt j 140) ([]) (cond (Nat.blt j 142) ([]) ([])))))) (cond (Nat.blt j 180) (cond (Nat.blt j 160) (cond (Nat.blt j 153) (cond (Nat.blt j 152) ([]) ([])) (cond (Nat.blt j 157) ([]) (cond (Nat.blt j 158) ([]) ([])))) (cond (Nat.blt j 166) (cond (Nat.blt j 165) ([]) ([])) (cond (Nat.blt j 173) ([]) (cond (Nat.blt j 174) ([]) ([]))))) (cond (Nat.blt j 190) (cond (Nat.blt j 183) (cond (Nat.blt j 182) ([]) ([])) (cond (Nat.blt j 186) ([]) (cond (Nat.blt j 187) ([]) ([])))) (cond (Nat.blt j 193) (cond (Nat.blt j 191) ([]) (cond (Nat.blt j 192) ([]) ([]))) (cond (Nat.blt j 194) ([]) (cond (Nat.blt j 197) ([]) ([]))))))) (cond (Nat.blt j 230) (cond (Nat.blt j 209) (cond (Nat.blt j 204) (cond (Nat.blt j 201) (cond (Nat.blt j 199) ([]) ([])) (cond (Nat.blt j 202) ([]) (cond (Nat.blt j 203) ([]) ([])))) (cond (Nat.blt j 206) (cond (Nat.blt j 205) ([]) ([])) (cond (Nat.blt j 207) ([]) (cond (Nat.blt j 208) ([]) ([]))))) (cond (Nat.blt j 225) (cond (Nat.blt j 219) (cond (Nat.blt j 218) ([]) ([])) (cond (Nat.blt j 221) ([]) (cond (Nat.blt j 224) ([]) ([])))) (cond (Nat.blt j 227) (cond (Nat.blt j 226) ([(0, 9, 12, 13), (0, 9, 15, 15)]) ([(0, 9, 12, 13), (0, 9, 15, 15)])) (cond (Nat.blt j 228) ([(0, 9, 12, 23)]) (cond (Nat.blt j 229) ([(0, 10, 13, 23), (0, 10, 17, 13)]) ([(0, 10, 13, 23), (0, 10, 17, 13)])))))) (cond (Nat.blt j 240) (cond (Nat.blt j 235) (cond (Nat.blt j 232) (cond (Nat.blt j 231) ([(0, 9, 12, 13)]) ([(0, 8, 11, 13), (0, 8, 14, 15)])) (cond (Nat.blt j 233) ([(0, 10, 13, 23), (0, 10, 17, 13)]) (cond (Nat.blt j 234) ([(0, 10, 13, 23)]) ([(0, 10, 13, 23), (0, 10, 17, 13)])))) (cond (Nat.blt j 237) (cond (Nat.blt j 236) ([(0, 9, 12, 13)]) ([(0, 9, 12, 13), (0, 9, 15, 15)])) (cond (Nat.blt j 238) ([(0, 9, 12, 13), (0, 9, 15, 15)]) (cond (Nat.blt j 239) ([(0, 9, 12, 13), (0, 9, 15, 15)]) ([(0, 9, 12, 13), (0, 9, 15, 15)]))))) (cond (Nat.blt j 245) (cond (Nat.blt j 242) (cond (Nat.blt j 241) ([(0, 9, 12, 13), (0, 9, 15, 15)]) ([(0, 8, 11, 13), (0, 8, 14, 15), (0, 8, 17, 70)])) (cond (Nat.blt j 243) ([(0, 9, 12, 13)]) (cond (Nat.blt j 244) ([(0, 9, 12, 13), (0, 9, 15, 15)]) ([(0, 9, 12, 15), (0, 9, 15, 23)])))) (cond (Nat.blt j 248) (cond (Nat.blt j 246) ([(0, 9, 12, 15), (0, 9, 15, 23)]) (cond (Nat.blt j 247) ([(0, 8, 11, 15)]) ([(0, 10, 13, 13), (0, 10, 17, 15), (0, 10, 21, 23)]))) (cond (Nat.blt j 249) ([(0, 8, 11, 15)]) (cond (Nat.blt j 250) ([]) ([]))))))))
def qw_T (j : Nat) (c : Code) : Prop := c.exceptionTable.toList = tableOf (qw_hh j)
def qw_nest : List (String × Nat × MethodName × String) := [("TextSwitchCompiler", 20, ⟨"TextSwitchCompiler$Keys", "<init>", "()V"⟩, "TextSwitchCompiler"), ("TextSwitchCompiler", 34, ⟨"TextSwitchCompiler$Commands", "<init>", "()V"⟩, "TextSwitchCompiler"), ("TextSwitchCompiler$Commands", 29, ⟨"TextSwitchCompiler$Keys", "<init>", "()V"⟩, "TextSwitchCompiler"), ("TextSwitchCompiler$Commands", 57, ⟨"TextSwitchCompiler", "put", "([III)V"⟩, "TextSwitchCompiler"), ("TextSwitchCompiler$Keys", 63, ⟨"TextSwitchCompiler", "copy", "([I[I)V"⟩, "TextSwitchCompiler"), ("TextSwitchCompiler$Selection", 42, ⟨"TextSwitchCompiler", "contains", "(II)Z"⟩, "TextSwitchCompiler")]
def qw_casts : List (String × String) := [("java/lang/IllegalArgumentException", "java/lang/IllegalArgumentException"), ("java/lang/IllegalStateException", "java/lang/IllegalStateException"), ("java/lang/ArrayIndexOutOfBoundsException", "java/lang/ArrayIndexOutOfBoundsException"), ("java/lang/IndexOutOfBoundsException", "java/lang/IndexOutOfBoundsException"), ("java/lang/ArithmeticException", "java/lang/ArithmeticException"), ("java/lang/ArrayIndexOutOfBoundsException", "java/lang/IndexOutOfBoundsException")]
def qw_decls : List MethodName := [⟨"java/lang/RuntimeException", "<init>", "()V"⟩, ⟨"java/lang/RuntimeException", "<init>", "(Ljava/lang/String;)V"⟩, ⟨"java/lang/Exception", "<init>", "()V"⟩, ⟨"java/lang/Exception", "<init>", "(Ljava/lang/String;)V"⟩, ⟨"java/lang/Throwable", "<init>", "()V"⟩, ⟨"java/lang/Throwable", "<init>", "(Ljava/lang/String;)V"⟩, ⟨"java/lang/IndexOutOfBoundsException", "<init>", "()V"⟩, ⟨"java/lang/IndexOutOfBoundsException", "<init>", "(Ljava/lang/String;)V"⟩]
def qw_ncs : List (String × String) := [("java/lang/IllegalArgumentException", "java/lang/IllegalStateException"), ("java/lang/IllegalArgumentException", "java/lang/IndexOutOfBoundsException"), ("java/lang/IllegalArgumentException", "java/lang/ArithmeticException"), ("java/lang/IllegalStateException", "java/lang/IllegalArgumentException"), ("java/lang/IllegalStateException", "java/lang/IndexOutOfBoundsException"), ("java/lang/IllegalStateException", "java/lang/ArithmeticException"), ("java/lang/IndexOutOfBoundsException", "java/lang/IllegalArgumentException"), ("java/lang/IndexOutOfBoundsException", "java/lang/IllegalStateException"), ("java/lang/IndexOutOfBoundsException", "java/lang/ArithmeticException"), ("java/lang/ArithmeticException", "java/lang/IllegalArgumentException"), ("java/lang/ArithmeticException", "java/lang/IllegalStateException"), ("java/lang/ArithmeticException", "java/lang/IndexOutOfBoundsException")]
def qw_strs : List (String × Nat × String × Nat) := [("TextSwitchCompiler", 96, "a byte is no character", 1), ("TextSwitchCompiler", 106, "the buffer is too short", 2), ("TextSwitchCompiler", 119, "the text cannot be a key", 3), ("TextSwitchCompiler", 128, "the key exists already, or there are too many", 4), ("TextSwitchCompiler", 151, "the weight is out of range", 5), ("TextSwitchCompiler", 156, "the load is out of range", 6), ("TextSwitchCompiler", 175, "a form error", 7), ("TextSwitchCompiler", 177, "an execution error", 8), ("TextSwitchCompiler", 190, "no such property", 9), ("TextSwitchCompiler", 194, "no such position", 10), ("TextSwitchCompiler", 201, "both keys are the same", 11), ("TextSwitchCompiler", 206, "no such size", 12), ("TextSwitchCompiler", 239, "no keys", 13), ("TextSwitchCompiler", 290, "no such slot", 14), ("TextSwitchCompiler", 295, "no such bucket", 15), ("TextSwitchCompiler", 310, "no such index", 16), ("TextSwitchCompiler", 318, "nothing was saved", 17), ("TextSwitchCompiler", 323, "no such key", 18), ("TextSwitchCompiler", 325, "the branch is out of range", 19), ("TextSwitchCompiler", 327, "no such strategy", 20), ("TextSwitchCompiler", 329, "there is no table", 21), ("TextSwitchCompilerModel", 138, "add", 22), ("TextSwitchCompilerModel", 144, "del", 23), ("TextSwitchCompilerModel", 146, "weight", 24), ("TextSwitchCompilerModel", 148, "load", 25), ("TextSwitchCompiler$Commands", 83, "add", 26), ("TextSwitchCompiler$Commands", 89, "del", 27), ("TextSwitchCompiler$Commands", 91, "weight", 28), ("TextSwitchCompiler$Commands", 93, "load", 29)]
def qw_Os : qw_O := (qw_nest, qw_casts, qw_decls, qw_ncs, qw_strs)
def qZ (E : qe_E) (L : Nat) : qe_Z := (vwCl, E, qw_X qw_Os E.2.2.1 L E.2.2.2, qw_M, qw_n, qw_p, qw_T)
theorem qZ_X (E : qe_E) (L : Nat) : zX (qZ E L) = qw_X qw_Os (zE (qZ E L)).2.2.1 L (zE (qZ E L)).2.2.2 := rfl
theorem qZ_ok (E : qe_E) (L : Nat) : qz_ok (qZ E L) := qz_of (O := qw_Os) (qZ_X E L)
def qn_2 : Nat := 0x3000000000000000003000000000000000003000000000000000003000000000000000003000000000000000003
def qfs_2 : List Value := [.null, .null, .null, .null, .null, .null, .int 0, .int 0, .int 0]
theorem qfa_2 : ∀ (E : qe_E) (ad : Nat → Nat), (List.range 9).map (fun k => qe_v E ad (qe_get qn_2 k)) = qfs_2 := fun E ad => rfl
theorem qfb_2 : ∀ j, j < 9 → defaultValue (tyX0 j) = vp_V qfs_2 j := by decide +kernel
theorem qfc_2 : qn_2 < 2 ^ (72 * 9) := by decide +kernel
theorem qfd_2 : ∀ k, k < 9 → qe_is 2 (qe_get qn_2 k) = false := by decide +kernel
def qn_3 : Nat := 0x3000000000000000003000000000000000003000000000000000003000000000000000003000000000000000003000000000000000003000000000000000003000000000000000003
def qfs_3 : List Value := [.null, .null, .null, .null, .null, .null, .null, .null, .null, .int 0, .int 0, .int 0, .int 0]
theorem qfa_3 : ∀ (E : qe_E) (ad : Nat → Nat), (List.range 13).map (fun k => qe_v E ad (qe_get qn_3 k)) = qfs_3 := fun E ad => rfl
theorem qfb_3 : ∀ j, j < 13 → defaultValue (tyX1 j) = vp_V qfs_3 j := by decide +kernel
theorem qfc_3 : qn_3 < 2 ^ (72 * 13) := by decide +kernel
theorem qfd_3 : ∀ k, k < 13 → qe_is 2 (qe_get qn_3 k) = false := by decide +kernel
def qn_4 : Nat := 0x3000000000000000003000000000000000003000000000000000003
def qfs_4 : List Value := [.null, .null, .null, .null, .int 0, .int 0, .int 0]
theorem qfa_4 : ∀ (E : qe_E) (ad : Nat → Nat), (List.range 7).map (fun k => qe_v E ad (qe_get qn_4 k)) = qfs_4 := fun E ad => rfl
theorem qfb_4 : ∀ j, j < 7 → defaultValue (tyX2 j) = vp_V qfs_4 j := by decide +kernel
theorem qfc_4 : qn_4 < 2 ^ (72 * 7) := by decide +kernel
theorem qfd_4 : ∀ k, k < 7 → qe_is 2 (qe_get qn_4 k) = false := by decide +kernel
def qn_5 : Nat := 0x3000000000000000003000000000000000003000000000000000003000000000000000003
def qfs_5 : List Value := [.null, .null, .null, .null, .null]
theorem qfa_5 : ∀ (E : qe_E) (ad : Nat → Nat), (List.range 5).map (fun k => qe_v E ad (qe_get qn_5 k)) = qfs_5 := fun E ad => rfl
theorem qfb_5 : ∀ j, j < 5 → defaultValue (tyX3 j) = vp_V qfs_5 j := by decide +kernel
theorem qfc_5 : qn_5 < 2 ^ (72 * 5) := by decide +kernel
theorem qfd_5 : ∀ k, k < 5 → qe_is 2 (qe_get qn_5 k) = false := by decide +kernel
def qn_6 : Nat := 0x3000000000000000003
def qfs_6 : List Value := [.null, .null]
theorem qfa_6 : ∀ (E : qe_E) (ad : Nat → Nat), (List.range 2).map (fun k => qe_v E ad (qe_get qn_6 k)) = qfs_6 := fun E ad => rfl
theorem qfb_6 : ∀ j, j < 2 → defaultValue (tyX4 j) = vp_V qfs_6 j := by decide +kernel
theorem qfc_6 : qn_6 < 2 ^ (72 * 2) := by decide +kernel
theorem qfd_6 : ∀ k, k < 2 → qe_is 2 (qe_get qn_6 k) = false := by decide +kernel
def qn_7 : Nat := 0x3000000000000000003000000000000000003000000000000000003000000000000000003
def qfs_7 : List Value := [.null, .null, .null, .null, .null, .int 0, .int 0, .int 0, .int 0]
theorem qfa_7 : ∀ (E : qe_E) (ad : Nat → Nat), (List.range 9).map (fun k => qe_v E ad (qe_get qn_7 k)) = qfs_7 := fun E ad => rfl
theorem qfb_7 : ∀ j, j < 9 → defaultValue (tyX5 j) = vp_V qfs_7 j := by decide +kernel
theorem qfc_7 : qn_7 < 2 ^ (72 * 9) := by decide +kernel
theorem qfd_7 : ∀ k, k < 9 → qe_is 2 (qe_get qn_7 k) = false := by decide +kernel
def qn_8 : Nat := 0x3000000000000000003
def qfs_8 : List Value := [.null, .null, .int 0, .int 0]
theorem qfa_8 : ∀ (E : qe_E) (ad : Nat → Nat), (List.range 4).map (fun k => qe_v E ad (qe_get qn_8 k)) = qfs_8 := fun E ad => rfl
theorem qfb_8 : ∀ j, j < 4 → defaultValue (tyX6 j) = vp_V qfs_8 j := by decide +kernel
theorem qfc_8 : qn_8 < 2 ^ (72 * 4) := by decide +kernel
theorem qfd_8 : ∀ k, k < 4 → qe_is 2 (qe_get qn_8 k) = false := by decide +kernel
def qn_9 : Nat := 0x1000000000000000000000000000000000000000000000000000000000000000000000000000000000000000003000000000000000003000000000000000003000000000000000003000000000000000003000000000000000003000000000000000003000000000000000003000000000000000003
def qfs_9 : List Value := [.null, .null, .null, .null, .null, .null, .null, .null, .null, .int 0, .int 0, .int 0, .int 0, .long 0]
theorem qfa_9 : ∀ (E : qe_E) (ad : Nat → Nat), (List.range 14).map (fun k => qe_v E ad (qe_get qn_9 k)) = qfs_9 := fun E ad => rfl
theorem qfb_9 : ∀ j, j < 14 → defaultValue (tyX7 j) = vp_V qfs_9 j := by decide +kernel
theorem qfc_9 : qn_9 < 2 ^ (72 * 14) := by decide +kernel
theorem qfd_9 : ∀ k, k < 14 → qe_is 2 (qe_get qn_9 k) = false := by decide +kernel
def qn_10 : Nat := 0x3
def qfs_10 : List Value := [.null, .int 0]
theorem qfa_10 : ∀ (E : qe_E) (ad : Nat → Nat), (List.range 2).map (fun k => qe_v E ad (qe_get qn_10 k)) = qfs_10 := fun E ad => rfl
theorem qfb_10 : ∀ j, j < 2 → defaultValue (tyX8 j) = vp_V qfs_10 j := by decide +kernel
theorem qfc_10 : qn_10 < 2 ^ (72 * 2) := by decide +kernel
theorem qfd_10 : ∀ k, k < 2 → qe_is 2 (qe_get qn_10 k) = false := by decide +kernel
def qn_11 : Nat := 0x3000000000000000003000000000000000003000000000000000003000000000000000003000000000000000003000000000000000000000000000000000003000000000000000000000000000000000003000000000000000003000000000000000003
def qfs_11 : List Value := [.null, .null, .null, .int 0, .null, .int 0, .null, .null, .null, .null, .null, .null, .int 0]
theorem qfa_11 : ∀ (E : qe_E) (ad : Nat → Nat), (List.range 13).map (fun k => qe_v E ad (qe_get qn_11 k)) = qfs_11 := fun E ad => rfl
theorem qfb_11 : ∀ j, j < 13 → defaultValue (tyX9 j) = vp_V qfs_11 j := by decide +kernel
theorem qfc_11 : qn_11 < 2 ^ (72 * 13) := by decide +kernel
theorem qfd_11 : ∀ k, k < 13 → qe_is 2 (qe_get qn_11 k) = false := by decide +kernel
def qn_12 : Nat := 0x3000000000000000003000000000000000003000000000000000003000000000000000003000000000000000000000000000000000000000000000000000000000000000000000000000000000000000000000000000000000000000000000000000000000000000000000000000000000000000000000000000000000000000000000000000003000000000000000000000000000000000000000000000000000003000000000000000003000000000000000000000000000000000000000000000000000000000000000000000003000000000000000003000000000000000003000000000000000003000000000000000003000000000000000000000000000000000000000000000000000000000000000000000003000000000000000000000000000000000003000000000000000003
def qfs_12 : List Value := [.null, .null, .int 0, .null, .int 0, .int 0, .int 0, .null, .null, .null, .null, .null, .int 0, .int 0, .int 0, .null, .null, .int 0, .int 0, .null, .int 0, .int 0, .int 0, .int 0, .int 0, .int 0, .int 0, .int 0, .int 0, .int 0, .null, .null, .null, .null, .null, .int 0]
theorem qfa_12 : ∀ (E : qe_E) (ad : Nat → Nat), (List.range 36).map (fun k => qe_v E ad (qe_get qn_12 k)) = qfs_12 := fun E ad => rfl
theorem qfb_12 : ∀ j, j < 36 → defaultValue (tyX10 j) = vp_V qfs_12 j := by decide +kernel
theorem qfc_12 : qn_12 < 2 ^ (72 * 36) := by decide +kernel
theorem qfd_12 : ∀ k, k < 36 → qe_is 2 (qe_get qn_12 k) = false := by decide +kernel
theorem qh_X9_init : qw_d yX9_init 0 := ⟨by decide +kernel, by decide +kernel, by decide +kernel⟩
theorem qmb_X9_init (E : qe_E) (L : Nat) : qx_mb (qZ E L) 0 := ⟨show plainName yX9_init.cls = true by decide +kernel, Nat.le_of_ble_eq_true rfl, rfl, Or.inl ⟨qw_G, rfl, fun c h => List.eq_nil_iff_forall_not_mem.mpr h⟩⟩
theorem qh_X9_append : qw_d yX9_append 1 := ⟨by decide +kernel, by decide +kernel, by decide +kernel⟩
theorem qmb_X9_append (E : qe_E) (L : Nat) : qx_mb (qZ E L) 1 := ⟨show plainName yX9_append.cls = true by decide +kernel, Nat.le_of_ble_eq_true rfl, rfl, Or.inl ⟨qw_G, rfl, fun c h => List.eq_nil_iff_forall_not_mem.mpr h⟩⟩
theorem qh_X9_clear : qw_d yX9_clear 0 := ⟨by decide +kernel, by decide +kernel, by decide +kernel⟩
theorem qmb_X9_clear (E : qe_E) (L : Nat) : qx_mb (qZ E L) 2 := ⟨show plainName yX9_clear.cls = true by decide +kernel, Nat.le_of_ble_eq_true rfl, rfl, Or.inl ⟨qw_G, rfl, fun c h => List.eq_nil_iff_forall_not_mem.mpr h⟩⟩
theorem qh_X9_add : qw_d yX9_add 1 := ⟨by decide +kernel, by decide +kernel, by decide +kernel⟩
theorem qmb_X9_add (E : qe_E) (L : Nat) : qx_mb (qZ E L) 3 := ⟨show plainName yX9_add.cls = true by decide +kernel, Nat.le_of_ble_eq_true rfl, rfl, Or.inl ⟨qw_G, rfl, fun c h => List.eq_nil_iff_forall_not_mem.mpr h⟩⟩
theorem qh_X9_remove : qw_d yX9_remove 1 := ⟨by decide +kernel, by decide +kernel, by decide +kernel⟩
theorem qmb_X9_remove (E : qe_E) (L : Nat) : qx_mb (qZ E L) 4 := ⟨show plainName yX9_remove.cls = true by decide +kernel, Nat.le_of_ble_eq_true rfl, rfl, Or.inl ⟨qw_G, rfl, fun c h => List.eq_nil_iff_forall_not_mem.mpr h⟩⟩
theorem qh_X9_setBranch : qw_d yX9_setBranch 2 := ⟨by decide +kernel, by decide +kernel, by decide +kernel⟩
theorem qmb_X9_setBranch (E : qe_E) (L : Nat) : qx_mb (qZ E L) 5 := ⟨show plainName yX9_setBranch.cls = true by decide +kernel, Nat.le_of_ble_eq_true rfl, rfl, Or.inl ⟨qw_G, rfl, fun c h => List.eq_nil_iff_forall_not_mem.mpr h⟩⟩
theorem qh_X9_setWeight : qw_d yX9_setWeight 2 := ⟨by decide +kernel, by decide +kernel, by decide +kernel⟩
theorem qmb_X9_setWeight (E : qe_E) (L : Nat) : qx_mb (qZ E L) 6 := ⟨show plainName yX9_setWeight.cls = true by decide +kernel, Nat.le_of_ble_eq_true rfl, rfl, Or.inl ⟨qw_G, rfl, fun c h => List.eq_nil_iff_forall_not_mem.mpr h⟩⟩
theorem qh_X9_setLoad : qw_d yX9_setLoad 1 := ⟨by decide +kernel, by decide +kernel, by decide +kernel⟩
theorem qmb_X9_setLoad (E : qe_E) (L : Nat) : qx_mb (qZ E L) 7 := ⟨show plainName yX9_setLoad.cls = true by decide +kernel, Nat.le_of_ble_eq_true rfl, rfl, Or.inl ⟨qw_G, rfl, fun c h => List.eq_nil_iff_forall_not_mem.mpr h⟩⟩
theorem qh_X9_execute : qw_d yX9_execute 0 := ⟨by decide +kernel, by decide +kernel, by decide +kernel⟩
theorem qmb_X9_execute (E : qe_E) (L : Nat) : qx_mb (qZ E L) 8 := ⟨show plainName yX9_execute.cls = true by decide +kernel, Nat.le_of_ble_eq_true rfl, rfl, Or.inl ⟨qw_G, rfl, fun c h => List.eq_nil_iff_forall_not_mem.mpr h⟩⟩
theorem qh_X9_errorPosition : qw_d yX9_errorPosition 0 := ⟨by decide +kernel, by decide +kernel, by decide +kernel⟩
theorem qmb_X9_errorPosition (E : qe_E) (L : Nat) : qx_mb (qZ E L) 9 := ⟨show plainName yX9_errorPosition.cls = true by decide +kernel, Nat.le_of_ble_eq_true rfl, rfl, Or.inl ⟨qw_G, rfl, fun c h => List.eq_nil_iff_forall_not_mem.mpr h⟩⟩
theorem qh_X9_property : qw_d yX9_property 2 := ⟨by decide +kernel, by decide +kernel, by decide +kernel⟩
theorem qmb_X9_property (E : qe_E) (L : Nat) : qx_mb (qZ E L) 10 := ⟨show plainName yX9_property.cls = true by decide +kernel, Nat.le_of_ble_eq_true rfl, rfl, Or.inl ⟨qw_G, rfl, fun c h => List.eq_nil_iff_forall_not_mem.mpr h⟩⟩
theorem qh_X9_character : qw_d yX9_character 2 := ⟨by decide +kernel, by decide +kernel, by decide +kernel⟩
theorem qmb_X9_character (E : qe_E) (L : Nat) : qx_mb (qZ E L) 11 := ⟨show plainName yX9_character.cls = true by decide +kernel, Nat.le_of_ble_eq_true rfl, rfl, Or.inl ⟨qw_G, rfl, fun c h => List.eq_nil_iff_forall_not_mem.mpr h⟩⟩
theorem qh_X9_difference : qw_d yX9_difference 2 := ⟨by decide +kernel, by decide +kernel, by decide +kernel⟩
theorem qmb_X9_difference (E : qe_E) (L : Nat) : qx_mb (qZ E L) 12 := ⟨show plainName yX9_difference.cls = true by decide +kernel, Nat.le_of_ble_eq_true rfl, rfl, Or.inl ⟨qw_G, rfl, fun c h => List.eq_nil_iff_forall_not_mem.mpr h⟩⟩
theorem qh_X9_size : qw_d yX9_size 1 := ⟨by decide +kernel, by decide +kernel, by decide +kernel⟩
theorem qmb_X9_size (E : qe_E) (L : Nat) : qx_mb (qZ E L) 13 := ⟨show plainName yX9_size.cls = true by decide +kernel, Nat.le_of_ble_eq_true rfl, rfl, Or.inl ⟨qw_G, rfl, fun c h => List.eq_nil_iff_forall_not_mem.mpr h⟩⟩
theorem qh_X9_find : qw_d yX9_find 1 := ⟨by decide +kernel, by decide +kernel, by decide +kernel⟩
theorem qmb_X9_find (E : qe_E) (L : Nat) : qx_mb (qZ E L) 14 := ⟨show plainName yX9_find.cls = true by decide +kernel, Nat.le_of_ble_eq_true rfl, rfl, Or.inl ⟨qw_G, rfl, fun c h => List.eq_nil_iff_forall_not_mem.mpr h⟩⟩
theorem qh_X9_branch : qw_d yX9_branch 1 := ⟨by decide +kernel, by decide +kernel, by decide +kernel⟩
theorem qmb_X9_branch (E : qe_E) (L : Nat) : qx_mb (qZ E L) 15 := ⟨show plainName yX9_branch.cls = true by decide +kernel, Nat.le_of_ble_eq_true rfl, rfl, Or.inl ⟨qw_G, rfl, fun c h => List.eq_nil_iff_forall_not_mem.mpr h⟩⟩
theorem qh_X9_examined : qw_d yX9_examined 1 := ⟨by decide +kernel, by decide +kernel, by decide +kernel⟩
theorem qmb_X9_examined (E : qe_E) (L : Nat) : qx_mb (qZ E L) 16 := ⟨show plainName yX9_examined.cls = true by decide +kernel, Nat.le_of_ble_eq_true rfl, rfl, Or.inl ⟨qw_G, rfl, fun c h => List.eq_nil_iff_forall_not_mem.mpr h⟩⟩
theorem qh_X9_cost : qw_d yX9_cost 1 := ⟨by decide +kernel, by decide +kernel, by decide +kernel⟩
theorem qmb_X9_cost (E : qe_E) (L : Nat) : qx_mb (qZ E L) 17 := ⟨show plainName yX9_cost.cls = true by decide +kernel, Nat.le_of_ble_eq_true rfl, rfl, Or.inl ⟨qw_G, rfl, fun c h => List.eq_nil_iff_forall_not_mem.mpr h⟩⟩
theorem qh_X9_worst : qw_d yX9_worst 1 := ⟨by decide +kernel, by decide +kernel, by decide +kernel⟩
theorem qmb_X9_worst (E : qe_E) (L : Nat) : qx_mb (qZ E L) 18 := ⟨show plainName yX9_worst.cls = true by decide +kernel, Nat.le_of_ble_eq_true rfl, rfl, Or.inl ⟨qw_G, rfl, fun c h => List.eq_nil_iff_forall_not_mem.mpr h⟩⟩
theorem qh_X9_meanBits : qw_d yX9_meanBits 1 := ⟨by decide +kernel, by decide +kernel, by decide +kernel⟩
theorem qmb_X9_meanBits (E : qe_E) (L : Nat) : qx_mb (qZ E L) 19 := ⟨show plainName yX9_meanBits.cls = true by decide +kernel, Nat.le_of_ble_eq_true rfl, rfl, Or.inl ⟨qw_G, rfl, fun c h => List.eq_nil_iff_forall_not_mem.mpr h⟩⟩
theorem qh_X9_best : qw_d yX9_best 0 := ⟨by decide +kernel, by decide +kernel, by decide +kernel⟩
theorem qmb_X9_best (E : qe_E) (L : Nat) : qx_mb (qZ E L) 20 := ⟨show plainName yX9_best.cls = true by decide +kernel, Nat.le_of_ble_eq_true rfl, rfl, Or.inl ⟨qw_G, rfl, fun c h => List.eq_nil_iff_forall_not_mem.mpr h⟩⟩
theorem qh_X9_trees : qw_d yX9_trees 1 := ⟨by decide +kernel, by decide +kernel, by decide +kernel⟩
theorem qmb_X9_trees (E : qe_E) (L : Nat) : qx_mb (qZ E L) 21 := ⟨show plainName yX9_trees.cls = true by decide +kernel, Nat.le_of_ble_eq_true rfl, rfl, Or.inl ⟨qw_G, rfl, fun c h => List.eq_nil_iff_forall_not_mem.mpr h⟩⟩
theorem qh_X9_selected : qw_d yX9_selected 0 := ⟨by decide +kernel, by decide +kernel, by decide +kernel⟩
theorem qmb_X9_selected (E : qe_E) (L : Nat) : qx_mb (qZ E L) 22 := ⟨show plainName yX9_selected.cls = true by decide +kernel, Nat.le_of_ble_eq_true rfl, rfl, Or.inl ⟨qw_G, rfl, fun c h => List.eq_nil_iff_forall_not_mem.mpr h⟩⟩
theorem qh_X9_hash : qw_d yX9_hash 1 := ⟨by decide +kernel, by decide +kernel, by decide +kernel⟩
theorem qmb_X9_hash (E : qe_E) (L : Nat) : qx_mb (qZ E L) 23 := ⟨show plainName yX9_hash.cls = true by decide +kernel, Nat.le_of_ble_eq_true rfl, rfl, Or.inl ⟨qw_G, rfl, fun c h => List.eq_nil_iff_forall_not_mem.mpr h⟩⟩
theorem qh_X9_table : qw_d yX9_table 1 := ⟨by decide +kernel, by decide +kernel, by decide +kernel⟩
theorem qmb_X9_table (E : qe_E) (L : Nat) : qx_mb (qZ E L) 24 := ⟨show plainName yX9_table.cls = true by decide +kernel, Nat.le_of_ble_eq_true rfl, rfl, Or.inl ⟨qw_G, rfl, fun c h => List.eq_nil_iff_forall_not_mem.mpr h⟩⟩
theorem qh_X9_slot : qw_d yX9_slot 1 := ⟨by decide +kernel, by decide +kernel, by decide +kernel⟩
theorem qmb_X9_slot (E : qe_E) (L : Nat) : qx_mb (qZ E L) 25 := ⟨show plainName yX9_slot.cls = true by decide +kernel, Nat.le_of_ble_eq_true rfl, rfl, Or.inl ⟨qw_G, rfl, fun c h => List.eq_nil_iff_forall_not_mem.mpr h⟩⟩
theorem qh_X9_displacement : qw_d yX9_displacement 1 := ⟨by decide +kernel, by decide +kernel, by decide +kernel⟩
theorem qmb_X9_displacement (E : qe_E) (L : Nat) : qx_mb (qZ E L) 26 := ⟨show plainName yX9_displacement.cls = true by decide +kernel, Nat.le_of_ble_eq_true rfl, rfl, Or.inl ⟨qw_G, rfl, fun c h => List.eq_nil_iff_forall_not_mem.mpr h⟩⟩
theorem qh_X9_densityBits : qw_d yX9_densityBits 0 := ⟨by decide +kernel, by decide +kernel, by decide +kernel⟩
theorem qmb_X9_densityBits (E : qe_E) (L : Nat) : qx_mb (qZ E L) 27 := ⟨show plainName yX9_densityBits.cls = true by decide +kernel, Nat.le_of_ble_eq_true rfl, rfl, Or.inl ⟨qw_G, rfl, fun c h => List.eq_nil_iff_forall_not_mem.mpr h⟩⟩
theorem qh_X9_listing : qw_d yX9_listing 2 := ⟨by decide +kernel, by decide +kernel, by decide +kernel⟩
theorem qmb_X9_listing (E : qe_E) (L : Nat) : qx_mb (qZ E L) 28 := ⟨show plainName yX9_listing.cls = true by decide +kernel, Nat.le_of_ble_eq_true rfl, rfl, Or.inl ⟨qw_G, rfl, fun c h => List.eq_nil_iff_forall_not_mem.mpr h⟩⟩
theorem qh_X9_save : qw_d yX9_save 0 := ⟨by decide +kernel, by decide +kernel, by decide +kernel⟩
theorem qmb_X9_save (E : qe_E) (L : Nat) : qx_mb (qZ E L) 29 := ⟨show plainName yX9_save.cls = true by decide +kernel, Nat.le_of_ble_eq_true rfl, rfl, Or.inl ⟨qw_G, rfl, fun c h => List.eq_nil_iff_forall_not_mem.mpr h⟩⟩
theorem qh_X9_restore : qw_d yX9_restore 0 := ⟨by decide +kernel, by decide +kernel, by decide +kernel⟩
theorem qmb_X9_restore (E : qe_E) (L : Nat) : qx_mb (qZ E L) 30 := ⟨show plainName yX9_restore.cls = true by decide +kernel, Nat.le_of_ble_eq_true rfl, rfl, Or.inl ⟨qw_G, rfl, fun c h => List.eq_nil_iff_forall_not_mem.mpr h⟩⟩
theorem qh_X9_requireKey : qw_d yX9_requireKey 1 := ⟨by decide +kernel, by decide +kernel, by decide +kernel⟩
theorem qmb_X9_requireKey (E : qe_E) (L : Nat) : qx_mb (qZ E L) 31 := ⟨show plainName yX9_requireKey.cls = true by decide +kernel, Nat.le_of_ble_eq_true rfl, rfl, Or.inl ⟨qw_G, rfl, fun c h => List.eq_nil_iff_forall_not_mem.mpr h⟩⟩
theorem qh_X9_requireStrategy : qw_d yX9_requireStrategy 1 := ⟨by decide +kernel, by decide +kernel, by decide +kernel⟩
theorem qmb_X9_requireStrategy (E : qe_E) (L : Nat) : qx_mb (qZ E L) 33 := ⟨show plainName yX9_requireStrategy.cls = true by decide +kernel, Nat.le_of_ble_eq_true rfl, rfl, Or.inl ⟨qw_G, rfl, fun c h => List.eq_nil_iff_forall_not_mem.mpr h⟩⟩
theorem qh_X9_requireRunnable : qw_d yX9_requireRunnable 1 := ⟨by decide +kernel, by decide +kernel, by decide +kernel⟩
theorem qmb_X9_requireRunnable (E : qe_E) (L : Nat) : qx_mb (qZ E L) 34 := ⟨show plainName yX9_requireRunnable.cls = true by decide +kernel, Nat.le_of_ble_eq_true rfl, rfl, Or.inl ⟨qw_G, rfl, fun c h => List.eq_nil_iff_forall_not_mem.mpr h⟩⟩
theorem qh_X9_requireTable : qw_d yX9_requireTable 0 := ⟨by decide +kernel, by decide +kernel, by decide +kernel⟩
theorem qmb_X9_requireTable (E : qe_E) (L : Nat) : qx_mb (qZ E L) 35 := ⟨show plainName yX9_requireTable.cls = true by decide +kernel, Nat.le_of_ble_eq_true rfl, rfl, Or.inl ⟨qw_G, rfl, fun c h => List.eq_nil_iff_forall_not_mem.mpr h⟩⟩
theorem qh_X9_canRun : qw_d yX9_canRun 1 := ⟨by decide +kernel, by decide +kernel, by decide +kernel⟩
theorem qmb_X9_canRun (E : qe_E) (L : Nat) : qx_mb (qZ E L) 36 := ⟨show plainName yX9_canRun.cls = true by decide +kernel, Nat.le_of_ble_eq_true rfl, rfl, Or.inl ⟨qw_G, rfl, fun c h => List.eq_nil_iff_forall_not_mem.mpr h⟩⟩
theorem qh_X9_prepare : qw_d yX9_prepare 0 := ⟨by decide +kernel, by decide +kernel, by decide +kernel⟩
theorem qmb_X9_prepare (E : qe_E) (L : Nat) : qx_mb (qZ E L) 37 := ⟨show plainName yX9_prepare.cls = true by decide +kernel, Nat.le_of_ble_eq_true rfl, rfl, Or.inl ⟨qw_G, rfl, fun c h => List.eq_nil_iff_forall_not_mem.mpr h⟩⟩
theorem qh_X9_put : qw_d yX9_put 3 := ⟨by decide +kernel, by decide +kernel, by decide +kernel⟩
theorem qmb_X9_put (E : qe_E) (L : Nat) : qx_mb (qZ E L) 39 := ⟨show plainName yX9_put.cls = true by decide +kernel, Nat.le_of_ble_eq_true rfl, rfl, Or.inl ⟨qw_G, rfl, fun c h => List.eq_nil_iff_forall_not_mem.mpr h⟩⟩
theorem qh_X9_copy : qw_d yX9_copy 2 := ⟨by decide +kernel, by decide +kernel, by decide +kernel⟩
theorem qmb_X9_copy (E : qe_E) (L : Nat) : qx_mb (qZ E L) 40 := ⟨show plainName yX9_copy.cls = true by decide +kernel, Nat.le_of_ble_eq_true rfl, rfl, Or.inl ⟨qw_G, rfl, fun c h => List.eq_nil_iff_forall_not_mem.mpr h⟩⟩
theorem qh_X9_contains : qw_d yX9_contains 2 := ⟨by decide +kernel, by decide +kernel, by decide +kernel⟩
theorem qmb_X9_contains (E : qe_E) (L : Nat) : qx_mb (qZ E L) 42 := ⟨show plainName yX9_contains.cls = true by decide +kernel, Nat.le_of_ble_eq_true rfl, rfl, Or.inl ⟨qw_G, rfl, fun c h => List.eq_nil_iff_forall_not_mem.mpr h⟩⟩
theorem qh_X10_init : qw_d yX10_init 0 := ⟨by decide +kernel, by decide +kernel, by decide +kernel⟩
theorem qmb_X10_init (E : qe_E) (L : Nat) : qx_mb (qZ E L) 47 := ⟨show plainName yX10_init.cls = true by decide +kernel, Nat.le_of_ble_eq_true rfl, rfl, Or.inl ⟨qw_G, rfl, fun c h => List.eq_nil_iff_forall_not_mem.mpr h⟩⟩
theorem qh_X10_thrown : qw_d yX10_thrown 0 := ⟨by decide +kernel, by decide +kernel, by decide +kernel⟩
theorem qmb_X10_thrown (E : qe_E) (L : Nat) : qx_mb (qZ E L) 48 := ⟨show plainName yX10_thrown.cls = true by decide +kernel, Nat.le_of_ble_eq_true rfl, rfl, Or.inl ⟨qw_G, rfl, fun c h => List.eq_nil_iff_forall_not_mem.mpr h⟩⟩
theorem qh_X10_in : qw_d yX10_in 3 := ⟨by decide +kernel, by decide +kernel, by decide +kernel⟩
theorem qmb_X10_in (E : qe_E) (L : Nat) : qx_mb (qZ E L) 49 := ⟨show plainName yX10_in.cls = true by decide +kernel, Nat.le_of_ble_eq_true rfl, rfl, Or.inl ⟨qw_G, rfl, fun c h => List.eq_nil_iff_forall_not_mem.mpr h⟩⟩
theorem qh_X10_isKey : qw_d yX10_isKey 1 := ⟨by decide +kernel, by decide +kernel, by decide +kernel⟩
theorem qmb_X10_isKey (E : qe_E) (L : Nat) : qx_mb (qZ E L) 50 := ⟨show plainName yX10_isKey.cls = true by decide +kernel, Nat.le_of_ble_eq_true rfl, rfl, Or.inl ⟨qw_G, rfl, fun c h => List.eq_nil_iff_forall_not_mem.mpr h⟩⟩
theorem qh_X10_append : qw_d yX10_append 1 := ⟨by decide +kernel, by decide +kernel, by decide +kernel⟩
theorem qmb_X10_append (E : qe_E) (L : Nat) : qx_mb (qZ E L) 53 := ⟨show plainName yX10_append.cls = true by decide +kernel, Nat.le_of_ble_eq_true rfl, rfl, Or.inl ⟨qw_G, rfl, fun c h => List.eq_nil_iff_forall_not_mem.mpr h⟩⟩
theorem qh_X10_clear : qw_d yX10_clear 0 := ⟨by decide +kernel, by decide +kernel, by decide +kernel⟩
theorem qmb_X10_clear (E : qe_E) (L : Nat) : qx_mb (qZ E L) 54 := ⟨show plainName yX10_clear.cls = true by decide +kernel, Nat.le_of_ble_eq_true rfl, rfl, Or.inl ⟨qw_G, rfl, fun c h => List.eq_nil_iff_forall_not_mem.mpr h⟩⟩
theorem qh_X10_add : qw_d yX10_add 1 := ⟨by decide +kernel, by decide +kernel, by decide +kernel⟩
theorem qmb_X10_add (E : qe_E) (L : Nat) : qx_mb (qZ E L) 58 := ⟨show plainName yX10_add.cls = true by decide +kernel, Nat.le_of_ble_eq_true rfl, rfl, Or.inl ⟨qw_G, rfl, fun c h => List.eq_nil_iff_forall_not_mem.mpr h⟩⟩
theorem qh_X10_remove : qw_d yX10_remove 1 := ⟨by decide +kernel, by decide +kernel, by decide +kernel⟩
theorem qmb_X10_remove (E : qe_E) (L : Nat) : qx_mb (qZ E L) 59 := ⟨show plainName yX10_remove.cls = true by decide +kernel, Nat.le_of_ble_eq_true rfl, rfl, Or.inl ⟨qw_G, rfl, fun c h => List.eq_nil_iff_forall_not_mem.mpr h⟩⟩
theorem qh_X10_setBranch : qw_d yX10_setBranch 2 := ⟨by decide +kernel, by decide +kernel, by decide +kernel⟩
theorem qmb_X10_setBranch (E : qe_E) (L : Nat) : qx_mb (qZ E L) 60 := ⟨show plainName yX10_setBranch.cls = true by decide +kernel, Nat.le_of_ble_eq_true rfl, rfl, Or.inl ⟨qw_G, rfl, fun c h => List.eq_nil_iff_forall_not_mem.mpr h⟩⟩
theorem qh_X10_setWeight : qw_d yX10_setWeight 2 := ⟨by decide +kernel, by decide +kernel, by decide +kernel⟩
theorem qmb_X10_setWeight (E : qe_E) (L : Nat) : qx_mb (qZ E L) 61 := ⟨show plainName yX10_setWeight.cls = true by decide +kernel, Nat.le_of_ble_eq_true rfl, rfl, Or.inl ⟨qw_G, rfl, fun c h => List.eq_nil_iff_forall_not_mem.mpr h⟩⟩
theorem qh_X10_setLoad : qw_d yX10_setLoad 1 := ⟨by decide +kernel, by decide +kernel, by decide +kernel⟩
theorem qmb_X10_setLoad (E : qe_E) (L : Nat) : qx_mb (qZ E L) 62 := ⟨show plainName yX10_setLoad.cls = true by decide +kernel, Nat.le_of_ble_eq_true rfl, rfl, Or.inl ⟨qw_G, rfl, fun c h => List.eq_nil_iff_forall_not_mem.mpr h⟩⟩
theorem qh_X10_here : qw_d yX10_here 0 := ⟨by decide +kernel, by decide +kernel, by decide +kernel⟩
theorem qmb_X10_here (E : qe_E) (L : Nat) : qx_mb (qZ E L) 63 := ⟨show plainName yX10_here.cls = true by decide +kernel, Nat.le_of_ble_eq_true rfl, rfl, Or.inl ⟨qw_G, rfl, fun c h => List.eq_nil_iff_forall_not_mem.mpr h⟩⟩
theorem qh_X10_isWord : qw_d yX10_isWord 2 := ⟨by decide +kernel, by decide +kernel, by decide +kernel⟩
theorem qmb_X10_isWord (E : qe_E) (L : Nat) : qx_mb (qZ E L) 65 := ⟨show plainName yX10_isWord.cls = true by decide +kernel, Nat.le_of_ble_eq_true rfl, rfl, Or.inl ⟨qw_G, rfl, fun c h => List.eq_nil_iff_forall_not_mem.mpr h⟩⟩
theorem qh_X10_word : qw_d yX10_word 0 := ⟨by decide +kernel, by decide +kernel, by decide +kernel⟩
theorem qmb_X10_word (E : qe_E) (L : Nat) : qx_mb (qZ E L) 66 := ⟨show plainName yX10_word.cls = true by decide +kernel, Nat.le_of_ble_eq_true rfl, rfl, Or.inl ⟨qw_G, rfl, fun c h => List.eq_nil_iff_forall_not_mem.mpr h⟩⟩
theorem qh_X10_readCommand : qw_d yX10_readCommand 0 := ⟨by decide +kernel, by decide +kernel, by decide +kernel⟩
theorem qmb_X10_readCommand (E : qe_E) (L : Nat) : qx_mb (qZ E L) 70 := ⟨show plainName yX10_readCommand.cls = true by decide +kernel, Nat.le_of_ble_eq_true rfl, rfl, Or.inl ⟨qw_G, rfl, fun c h => List.eq_nil_iff_forall_not_mem.mpr h⟩⟩
theorem qh_X10_execute : qw_d yX10_execute 0 := ⟨by decide +kernel, by decide +kernel, by decide +kernel⟩
theorem qmb_X10_execute (E : qe_E) (L : Nat) : qx_mb (qZ E L) 72 := ⟨show plainName yX10_execute.cls = true by decide +kernel, Nat.le_of_ble_eq_true rfl, rfl, Or.inl ⟨qw_G, rfl, fun c h => List.eq_nil_iff_forall_not_mem.mpr h⟩⟩
theorem qh_X10_errorPosition : qw_d yX10_errorPosition 0 := ⟨by decide +kernel, by decide +kernel, by decide +kernel⟩
theorem qmb_X10_errorPosition (E : qe_E) (L : Nat) : qx_mb (qZ E L) 73 := ⟨show plainName yX10_errorPosition.cls = true by decide +kernel, Nat.le_of_ble_eq_true rfl, rfl, Or.inl ⟨qw_G, rfl, fun c h => List.eq_nil_iff_forall_not_mem.mpr h⟩⟩
theorem qh_X10_property : qw_d yX10_property 2 := ⟨by decide +kernel, by decide +kernel, by decide +kernel⟩
theorem qmb_X10_property (E : qe_E) (L : Nat) : qx_mb (qZ E L) 78 := ⟨show plainName yX10_property.cls = true by decide +kernel, Nat.le_of_ble_eq_true rfl, rfl, Or.inl ⟨qw_G, rfl, fun c h => List.eq_nil_iff_forall_not_mem.mpr h⟩⟩
theorem qh_X10_character : qw_d yX10_character 2 := ⟨by decide +kernel, by decide +kernel, by decide +kernel⟩
theorem qmb_X10_character (E : qe_E) (L : Nat) : qx_mb (qZ E L) 79 := ⟨show plainName yX10_character.cls = true by decide +kernel, Nat.le_of_ble_eq_true rfl, rfl, Or.inl ⟨qw_G, rfl, fun c h => List.eq_nil_iff_forall_not_mem.mpr h⟩⟩
theorem qh_X10_difference : qw_d yX10_difference 2 := ⟨by decide +kernel, by decide +kernel, by decide +kernel⟩
theorem qmb_X10_difference (E : qe_E) (L : Nat) : qx_mb (qZ E L) 80 := ⟨show plainName yX10_difference.cls = true by decide +kernel, Nat.le_of_ble_eq_true rfl, rfl, Or.inl ⟨qw_G, rfl, fun c h => List.eq_nil_iff_forall_not_mem.mpr h⟩⟩
theorem qh_X10_size : qw_d yX10_size 1 := ⟨by decide +kernel, by decide +kernel, by decide +kernel⟩
theorem qmb_X10_size (E : qe_E) (L : Nat) : qx_mb (qZ E L) 81 := ⟨show plainName yX10_size.cls = true by decide +kernel, Nat.le_of_ble_eq_true rfl, rfl, Or.inl ⟨qw_G, rfl, fun c h => List.eq_nil_iff_forall_not_mem.mpr h⟩⟩
theorem qh_X10_takeBuffer : qw_d yX10_takeBuffer 0 := ⟨by decide +kernel, by decide +kernel, by decide +kernel⟩
theorem qmb_X10_takeBuffer (E : qe_E) (L : Nat) : qx_mb (qZ E L) 82 := ⟨show plainName yX10_takeBuffer.cls = true by decide +kernel, Nat.le_of_ble_eq_true rfl, rfl, Or.inl ⟨qw_G, rfl, fun c h => List.eq_nil_iff_forall_not_mem.mpr h⟩⟩
theorem qh_X10_linear : qw_d yX10_linear 0 := ⟨by decide +kernel, by decide +kernel, by decide +kernel⟩
theorem qmb_X10_linear (E : qe_E) (L : Nat) : qx_mb (qZ E L) 85 := ⟨show plainName yX10_linear.cls = true by decide +kernel, Nat.le_of_ble_eq_true rfl, rfl, Or.inl ⟨qw_G, rfl, fun c h => List.eq_nil_iff_forall_not_mem.mpr h⟩⟩
theorem qh_X10_search : qw_d yX10_search 0 := ⟨by decide +kernel, by decide +kernel, by decide +kernel⟩
theorem qmb_X10_search (E : qe_E) (L : Nat) : qx_mb (qZ E L) 88 := ⟨show plainName yX10_search.cls = true by decide +kernel, Nat.le_of_ble_eq_true rfl, rfl, Or.inl ⟨qw_G, rfl, fun c h => List.eq_nil_iff_forall_not_mem.mpr h⟩⟩
theorem qh_X10_marked : qw_d yX10_marked 1 := ⟨by decide +kernel, by decide +kernel, by decide +kernel⟩
theorem qmb_X10_marked (E : qe_E) (L : Nat) : qx_mb (qZ E L) 89 := ⟨show plainName yX10_marked.cls = true by decide +kernel, Nat.le_of_ble_eq_true rfl, rfl, Or.inl ⟨qw_G, rfl, fun c h => List.eq_nil_iff_forall_not_mem.mpr h⟩⟩
theorem qh_X10_ofLength : qw_d yX10_ofLength 1 := ⟨by decide +kernel, by decide +kernel, by decide +kernel⟩
theorem qmb_X10_ofLength (E : qe_E) (L : Nat) : qx_mb (qZ E L) 92 := ⟨show plainName yX10_ofLength.cls = true by decide +kernel, Nat.le_of_ble_eq_true rfl, rfl, Or.inl ⟨qw_G, rfl, fun c h => List.eq_nil_iff_forall_not_mem.mpr h⟩⟩
theorem qh_X10_climb : qw_d yX10_climb 0 := ⟨by decide +kernel, by decide +kernel, by decide +kernel⟩
theorem qmb_X10_climb (E : qe_E) (L : Nat) : qx_mb (qZ E L) 94 := ⟨show plainName yX10_climb.cls = true by decide +kernel, Nat.le_of_ble_eq_true rfl, rfl, Or.inl ⟨qw_G, rfl, fun c h => List.eq_nil_iff_forall_not_mem.mpr h⟩⟩
theorem qh_X10_trees : qw_d yX10_trees 1 := ⟨by decide +kernel, by decide +kernel, by decide +kernel⟩
theorem qmb_X10_trees (E : qe_E) (L : Nat) : qx_mb (qZ E L) 96 := ⟨show plainName yX10_trees.cls = true by decide +kernel, Nat.le_of_ble_eq_true rfl, rfl, Or.inl ⟨qw_G, rfl, fun c h => List.eq_nil_iff_forall_not_mem.mpr h⟩⟩
theorem qh_X10_separates : qw_d yX10_separates 1 := ⟨by decide +kernel, by decide +kernel, by decide +kernel⟩
theorem qmb_X10_separates (E : qe_E) (L : Nat) : qx_mb (qZ E L) 97 := ⟨show plainName yX10_separates.cls = true by decide +kernel, Nat.le_of_ble_eq_true rfl, rfl, Or.inl ⟨qw_G, rfl, fun c h => List.eq_nil_iff_forall_not_mem.mpr h⟩⟩
theorem qh_X10_sizeOf : qw_d yX10_sizeOf 1 := ⟨by decide +kernel, by decide +kernel, by decide +kernel⟩
theorem qmb_X10_sizeOf (E : qe_E) (L : Nat) : qx_mb (qZ E L) 98 := ⟨show plainName yX10_sizeOf.cls = true by decide +kernel, Nat.le_of_ble_eq_true rfl, rfl, Or.inl ⟨qw_G, rfl, fun c h => List.eq_nil_iff_forall_not_mem.mpr h⟩⟩
theorem qh_X10_select : qw_d yX10_select 0 := ⟨by decide +kernel, by decide +kernel, by decide +kernel⟩
theorem qmb_X10_select (E : qe_E) (L : Nat) : qx_mb (qZ E L) 100 := ⟨show plainName yX10_select.cls = true by decide +kernel, Nat.le_of_ble_eq_true rfl, rfl, Or.inl ⟨qw_G, rfl, fun c h => List.eq_nil_iff_forall_not_mem.mpr h⟩⟩
theorem qh_X10_hashOfText : qw_d yX10_hashOfText 1 := ⟨by decide +kernel, by decide +kernel, by decide +kernel⟩
theorem qmb_X10_hashOfText (E : qe_E) (L : Nat) : qx_mb (qZ E L) 101 := ⟨show plainName yX10_hashOfText.cls = true by decide +kernel, Nat.le_of_ble_eq_true rfl, rfl, Or.inl ⟨qw_G, rfl, fun c h => List.eq_nil_iff_forall_not_mem.mpr h⟩⟩
theorem qh_X10_prepare : qw_d yX10_prepare 0 := ⟨by decide +kernel, by decide +kernel, by decide +kernel⟩
theorem qmb_X10_prepare (E : qe_E) (L : Nat) : qx_mb (qZ E L) 106 := ⟨show plainName yX10_prepare.cls = true by decide +kernel, Nat.le_of_ble_eq_true rfl, rfl, Or.inl ⟨qw_G, rfl, fun c h => List.eq_nil_iff_forall_not_mem.mpr h⟩⟩
theorem qh_X10_hashed : qw_d yX10_hashed 0 := ⟨by decide +kernel, by decide +kernel, by decide +kernel⟩
theorem qmb_X10_hashed (E : qe_E) (L : Nat) : qx_mb (qZ E L) 107 := ⟨show plainName yX10_hashed.cls = true by decide +kernel, Nat.le_of_ble_eq_true rfl, rfl, Or.inl ⟨qw_G, rfl, fun c h => List.eq_nil_iff_forall_not_mem.mpr h⟩⟩
theorem qh_X10_canRun : qw_d yX10_canRun 1 := ⟨by decide +kernel, by decide +kernel, by decide +kernel⟩
theorem qmb_X10_canRun (E : qe_E) (L : Nat) : qx_mb (qZ E L) 108 := ⟨show plainName yX10_canRun.cls = true by decide +kernel, Nat.le_of_ble_eq_true rfl, rfl, Or.inl ⟨qw_G, rfl, fun c h => List.eq_nil_iff_forall_not_mem.mpr h⟩⟩
theorem qh_X10_refusal : qw_d yX10_refusal 1 := ⟨by decide +kernel, by decide +kernel, by decide +kernel⟩
theorem qmb_X10_refusal (E : qe_E) (L : Nat) : qx_mb (qZ E L) 109 := ⟨show plainName yX10_refusal.cls = true by decide +kernel, Nat.le_of_ble_eq_true rfl, rfl, Or.inl ⟨qw_G, rfl, fun c h => List.eq_nil_iff_forall_not_mem.mpr h⟩⟩
theorem qh_X10_run : qw_d yX10_run 1 := ⟨by decide +kernel, by decide +kernel, by decide +kernel⟩
theorem qmb_X10_run (E : qe_E) (L : Nat) : qx_mb (qZ E L) 110 := ⟨show plainName yX10_run.cls = true by decide +kernel, Nat.le_of_ble_eq_true rfl, rfl, Or.inl ⟨qw_G, rfl, fun c h => List.eq_nil_iff_forall_not_mem.mpr h⟩⟩
theorem qh_X10_find : qw_d yX10_find 1 := ⟨by decide +kernel, by decide +kernel, by decide +kernel⟩
theorem qmb_X10_find (E : qe_E) (L : Nat) : qx_mb (qZ E L) 111 := ⟨show plainName yX10_find.cls = true by decide +kernel, Nat.le_of_ble_eq_true rfl, rfl, Or.inl ⟨qw_G, rfl, fun c h => List.eq_nil_iff_forall_not_mem.mpr h⟩⟩
theorem qh_X10_branch : qw_d yX10_branch 1 := ⟨by decide +kernel, by decide +kernel, by decide +kernel⟩
theorem qmb_X10_branch (E : qe_E) (L : Nat) : qx_mb (qZ E L) 112 := ⟨show plainName yX10_branch.cls = true by decide +kernel, Nat.le_of_ble_eq_true rfl, rfl, Or.inl ⟨qw_G, rfl, fun c h => List.eq_nil_iff_forall_not_mem.mpr h⟩⟩
theorem qh_X10_examined : qw_d yX10_examined 1 := ⟨by decide +kernel, by decide +kernel, by decide +kernel⟩
theorem qmb_X10_examined (E : qe_E) (L : Nat) : qx_mb (qZ E L) 113 := ⟨show plainName yX10_examined.cls = true by decide +kernel, Nat.le_of_ble_eq_true rfl, rfl, Or.inl ⟨qw_G, rfl, fun c h => List.eq_nil_iff_forall_not_mem.mpr h⟩⟩
theorem qh_X10_costOf : qw_d yX10_costOf 1 := ⟨by decide +kernel, by decide +kernel, by decide +kernel⟩
theorem qmb_X10_costOf (E : qe_E) (L : Nat) : qx_mb (qZ E L) 114 := ⟨show plainName yX10_costOf.cls = true by decide +kernel, Nat.le_of_ble_eq_true rfl, rfl, Or.inl ⟨qw_G, rfl, fun c h => List.eq_nil_iff_forall_not_mem.mpr h⟩⟩
theorem qh_X10_cost : qw_d yX10_cost 1 := ⟨by decide +kernel, by decide +kernel, by decide +kernel⟩
theorem qmb_X10_cost (E : qe_E) (L : Nat) : qx_mb (qZ E L) 115 := ⟨show plainName yX10_cost.cls = true by decide +kernel, Nat.le_of_ble_eq_true rfl, rfl, Or.inl ⟨qw_G, rfl, fun c h => List.eq_nil_iff_forall_not_mem.mpr h⟩⟩
theorem qh_X10_worst : qw_d yX10_worst 1 := ⟨by decide +kernel, by decide +kernel, by decide +kernel⟩
theorem qmb_X10_worst (E : qe_E) (L : Nat) : qx_mb (qZ E L) 116 := ⟨show plainName yX10_worst.cls = true by decide +kernel, Nat.le_of_ble_eq_true rfl, rfl, Or.inl ⟨qw_G, rfl, fun c h => List.eq_nil_iff_forall_not_mem.mpr h⟩⟩
theorem qh_X10_meanBits : qw_d yX10_meanBits 1 := ⟨by decide +kernel, by decide +kernel, by decide +kernel⟩
theorem qmb_X10_meanBits (E : qe_E) (L : Nat) : qx_mb (qZ E L) 117 := ⟨show plainName yX10_meanBits.cls = true by decide +kernel, Nat.le_of_ble_eq_true rfl, rfl, Or.inl ⟨qw_G, rfl, fun c h => List.eq_nil_iff_forall_not_mem.mpr h⟩⟩
theorem qh_X10_best : qw_d yX10_best 0 := ⟨by decide +kernel, by decide +kernel, by decide +kernel⟩
theorem qmb_X10_best (E : qe_E) (L : Nat) : qx_mb (qZ E L) 118 := ⟨show plainName yX10_best.cls = true by decide +kernel, Nat.le_of_ble_eq_true rfl, rfl, Or.inl ⟨qw_G, rfl, fun c h => List.eq_nil_iff_forall_not_mem.mpr h⟩⟩
theorem qh_X10_selected : qw_d yX10_selected 0 := ⟨by decide +kernel, by decide +kernel, by decide +kernel⟩
theorem qmb_X10_selected (E : qe_E) (L : Nat) : qx_mb (qZ E L) 119 := ⟨show plainName yX10_selected.cls = true by decide +kernel, Nat.le_of_ble_eq_true rfl, rfl, Or.inl ⟨qw_G, rfl, fun c h => List.eq_nil_iff_forall_not_mem.mpr h⟩⟩
theorem qh_X10_hash : qw_d yX10_hash 1 := ⟨by decide +kernel, by decide +kernel, by decide +kernel⟩
theorem qmb_X10_hash (E : qe_E) (L : Nat) : qx_mb (qZ E L) 120 := ⟨show plainName yX10_hash.cls = true by decide +kernel, Nat.le_of_ble_eq_true rfl, rfl, Or.inl ⟨qw_G, rfl, fun c h => List.eq_nil_iff_forall_not_mem.mpr h⟩⟩
theorem qh_X10_hasTable : qw_d yX10_hasTable 0 := ⟨by decide +kernel, by decide +kernel, by decide +kernel⟩
theorem qmb_X10_hasTable (E : qe_E) (L : Nat) : qx_mb (qZ E L) 121 := ⟨show plainName yX10_hasTable.cls = true by decide +kernel, Nat.le_of_ble_eq_true rfl, rfl, Or.inl ⟨qw_G, rfl, fun c h => List.eq_nil_iff_forall_not_mem.mpr h⟩⟩
theorem qh_X10_table : qw_d yX10_table 1 := ⟨by decide +kernel, by decide +kernel, by decide +kernel⟩
theorem qmb_X10_table (E : qe_E) (L : Nat) : qx_mb (qZ E L) 123 := ⟨show plainName yX10_table.cls = true by decide +kernel, Nat.le_of_ble_eq_true rfl, rfl, Or.inl ⟨qw_G, rfl, fun c h => List.eq_nil_iff_forall_not_mem.mpr h⟩⟩
theorem qh_X10_slot : qw_d yX10_slot 1 := ⟨by decide +kernel, by decide +kernel, by decide +kernel⟩
theorem qmb_X10_slot (E : qe_E) (L : Nat) : qx_mb (qZ E L) 124 := ⟨show plainName yX10_slot.cls = true by decide +kernel, Nat.le_of_ble_eq_true rfl, rfl, Or.inl ⟨qw_G, rfl, fun c h => List.eq_nil_iff_forall_not_mem.mpr h⟩⟩
theorem qh_X10_displacement : qw_d yX10_displacement 1 := ⟨by decide +kernel, by decide +kernel, by decide +kernel⟩
theorem qmb_X10_displacement (E : qe_E) (L : Nat) : qx_mb (qZ E L) 125 := ⟨show plainName yX10_displacement.cls = true by decide +kernel, Nat.le_of_ble_eq_true rfl, rfl, Or.inl ⟨qw_G, rfl, fun c h => List.eq_nil_iff_forall_not_mem.mpr h⟩⟩
theorem qh_X10_densityBits : qw_d yX10_densityBits 0 := ⟨by decide +kernel, by decide +kernel, by decide +kernel⟩
theorem qmb_X10_densityBits (E : qe_E) (L : Nat) : qx_mb (qZ E L) 126 := ⟨show plainName yX10_densityBits.cls = true by decide +kernel, Nat.le_of_ble_eq_true rfl, rfl, Or.inl ⟨qw_G, rfl, fun c h => List.eq_nil_iff_forall_not_mem.mpr h⟩⟩
theorem qh_X10_putTrees : qw_d yX10_putTrees 0 := ⟨by decide +kernel, by decide +kernel, by decide +kernel⟩
theorem qmb_X10_putTrees (E : qe_E) (L : Nat) : qx_mb (qZ E L) 132 := ⟨show plainName yX10_putTrees.cls = true by decide +kernel, Nat.le_of_ble_eq_true rfl, rfl, Or.inl ⟨qw_G, rfl, fun c h => List.eq_nil_iff_forall_not_mem.mpr h⟩⟩
theorem qh_X10_list : qw_d yX10_list 1 := ⟨by decide +kernel, by decide +kernel, by decide +kernel⟩
theorem qmb_X10_list (E : qe_E) (L : Nat) : qx_mb (qZ E L) 134 := ⟨show plainName yX10_list.cls = true by decide +kernel, Nat.le_of_ble_eq_true rfl, rfl, Or.inl ⟨qw_G, rfl, fun c h => List.eq_nil_iff_forall_not_mem.mpr h⟩⟩
theorem qh_X10_listing : qw_d yX10_listing 2 := ⟨by decide +kernel, by decide +kernel, by decide +kernel⟩
theorem qmb_X10_listing (E : qe_E) (L : Nat) : qx_mb (qZ E L) 135 := ⟨show plainName yX10_listing.cls = true by decide +kernel, Nat.le_of_ble_eq_true rfl, rfl, Or.inl ⟨qw_G, rfl, fun c h => List.eq_nil_iff_forall_not_mem.mpr h⟩⟩
theorem qh_X10_save : qw_d yX10_save 0 := ⟨by decide +kernel, by decide +kernel, by decide +kernel⟩
theorem qmb_X10_save (E : qe_E) (L : Nat) : qx_mb (qZ E L) 136 := ⟨show plainName yX10_save.cls = true by decide +kernel, Nat.le_of_ble_eq_true rfl, rfl, Or.inl ⟨qw_G, rfl, fun c h => List.eq_nil_iff_forall_not_mem.mpr h⟩⟩
theorem qh_X10_restore : qw_d yX10_restore 0 := ⟨by decide +kernel, by decide +kernel, by decide +kernel⟩
theorem qmb_X10_restore (E : qe_E) (L : Nat) : qx_mb (qZ E L) 137 := ⟨show plainName yX10_restore.cls = true by decide +kernel, Nat.le_of_ble_eq_true rfl, rfl, Or.inl ⟨qw_G, rfl, fun c h => List.eq_nil_iff_forall_not_mem.mpr h⟩⟩
theorem qh_X0_init : qw_d yX0_init 0 := ⟨by decide +kernel, by decide +kernel, by decide +kernel⟩
theorem qmb_X0_init (E : qe_E) (L : Nat) : qx_mb (qZ E L) 138 := ⟨show plainName yX0_init.cls = true by decide +kernel, Nat.le_of_ble_eq_true rfl, rfl, Or.inl ⟨qw_G, rfl, fun c h => List.eq_nil_iff_forall_not_mem.mpr h⟩⟩
theorem qh_X0_read : qw_d yX0_read 1 := ⟨by decide +kernel, by decide +kernel, by decide +kernel⟩
theorem qmb_X0_read (E : qe_E) (L : Nat) : qx_mb (qZ E L) 139 := ⟨show plainName yX0_read.cls = true by decide +kernel, Nat.le_of_ble_eq_true rfl, rfl, Or.inl ⟨qw_G, rfl, fun c h => List.eq_nil_iff_forall_not_mem.mpr h⟩⟩
theorem qh_X0_readCommand : qw_d yX0_readCommand 1 := ⟨by decide +kernel, by decide +kernel, by decide +kernel⟩
theorem qmb_X0_readCommand (E : qe_E) (L : Nat) : qx_mb (qZ E L) 140 := ⟨show plainName yX0_readCommand.cls = true by decide +kernel, Nat.le_of_ble_eq_true rfl, rfl, Or.inl ⟨qw_G, rfl, fun c h => List.eq_nil_iff_forall_not_mem.mpr h⟩⟩
theorem qh_X0_readWord : qw_d yX0_readWord 1 := ⟨by decide +kernel, by decide +kernel, by decide +kernel⟩
theorem qmb_X0_readWord (E : qe_E) (L : Nat) : qx_mb (qZ E L) 142 := ⟨show plainName yX0_readWord.cls = true by decide +kernel, Nat.le_of_ble_eq_true rfl, rfl, Or.inl ⟨qw_G, rfl, fun c h => List.eq_nil_iff_forall_not_mem.mpr h⟩⟩
theorem qh_X0_isWord : qw_d yX0_isWord 3 := ⟨by decide +kernel, by decide +kernel, by decide +kernel⟩
theorem qmb_X0_isWord (E : qe_E) (L : Nat) : qx_mb (qZ E L) 143 := ⟨show plainName yX0_isWord.cls = true by decide +kernel, Nat.le_of_ble_eq_true rfl, rfl, Or.inl ⟨qw_G, rfl, fun c h => List.eq_nil_iff_forall_not_mem.mpr h⟩⟩
theorem qh_X1_init : qw_d yX1_init 1 := ⟨by decide +kernel, by decide +kernel, by decide +kernel⟩
theorem qmb_X1_init (E : qe_E) (L : Nat) : qx_mb (qZ E L) 152 := ⟨show plainName yX1_init.cls = true by decide +kernel, Nat.le_of_ble_eq_true rfl, rfl, Or.inl ⟨qw_G, rfl, fun c h => List.eq_nil_iff_forall_not_mem.mpr h⟩⟩
theorem qh_X1_grow : qw_d yX1_grow 0 := ⟨by decide +kernel, by decide +kernel, by decide +kernel⟩
theorem qmb_X1_grow (E : qe_E) (L : Nat) : qx_mb (qZ E L) 153 := ⟨show plainName yX1_grow.cls = true by decide +kernel, Nat.le_of_ble_eq_true rfl, rfl, Or.inl ⟨qw_G, rfl, fun c h => List.eq_nil_iff_forall_not_mem.mpr h⟩⟩
theorem qh_X1_rootWith : qw_d yX1_rootWith 1 := ⟨by decide +kernel, by decide +kernel, by decide +kernel⟩
theorem qmb_X1_rootWith (E : qe_E) (L : Nat) : qx_mb (qZ E L) 157 := ⟨show plainName yX1_rootWith.cls = true by decide +kernel, Nat.le_of_ble_eq_true rfl, rfl, Or.inl ⟨qw_G, rfl, fun c h => List.eq_nil_iff_forall_not_mem.mpr h⟩⟩
theorem qh_X1_treeWith : qw_d yX1_treeWith 3 := ⟨by decide +kernel, by decide +kernel, by decide +kernel⟩
theorem qmb_X1_treeWith (E : qe_E) (L : Nat) : qx_mb (qZ E L) 158 := ⟨show plainName yX1_treeWith.cls = true by decide +kernel, Nat.le_of_ble_eq_true rfl, rfl, Or.inl ⟨qw_G, rfl, fun c h => List.eq_nil_iff_forall_not_mem.mpr h⟩⟩
theorem qh_X1_plantRoots : qw_d yX1_plantRoots 0 := ⟨by decide +kernel, by decide +kernel, by decide +kernel⟩
theorem qmb_X1_plantRoots (E : qe_E) (L : Nat) : qx_mb (qZ E L) 160 := ⟨show plainName yX1_plantRoots.cls = true by decide +kernel, Nat.le_of_ble_eq_true rfl, rfl, Or.inl ⟨qw_G, rfl, fun c h => List.eq_nil_iff_forall_not_mem.mpr h⟩⟩
theorem qh_X2_init : qw_d yX2_init 0 := ⟨by decide +kernel, by decide +kernel, by decide +kernel⟩
theorem qmb_X2_init (E : qe_E) (L : Nat) : qx_mb (qZ E L) 165 := ⟨show plainName yX2_init.cls = true by decide +kernel, Nat.le_of_ble_eq_true rfl, rfl, Or.inl ⟨qw_G, rfl, fun c h => List.eq_nil_iff_forall_not_mem.mpr h⟩⟩
theorem qh_X2_has : qw_d yX2_has 1 := ⟨by decide +kernel, by decide +kernel, by decide +kernel⟩
theorem qmb_X2_has (E : qe_E) (L : Nat) : qx_mb (qZ E L) 166 := ⟨show plainName yX2_has.cls = true by decide +kernel, Nat.le_of_ble_eq_true rfl, rfl, Or.inl ⟨qw_G, rfl, fun c h => List.eq_nil_iff_forall_not_mem.mpr h⟩⟩
theorem qh_X2_changeLoad : qw_d yX2_changeLoad 1 := ⟨by decide +kernel, by decide +kernel, by decide +kernel⟩
theorem qmb_X2_changeLoad (E : qe_E) (L : Nat) : qx_mb (qZ E L) 173 := ⟨show plainName yX2_changeLoad.cls = true by decide +kernel, Nat.le_of_ble_eq_true rfl, rfl, Or.inl ⟨qw_G, rfl, fun c h => List.eq_nil_iff_forall_not_mem.mpr h⟩⟩
theorem qh_X2_takeOver : qw_d yX2_takeOver 1 := ⟨by decide +kernel, by decide +kernel, by decide +kernel⟩
theorem qmb_X2_takeOver (E : qe_E) (L : Nat) : qx_mb (qZ E L) 174 := ⟨show plainName yX2_takeOver.cls = true by decide +kernel, Nat.le_of_ble_eq_true rfl, rfl, Or.inl ⟨qw_G, rfl, fun c h => List.eq_nil_iff_forall_not_mem.mpr h⟩⟩
theorem qh_X2_totalWeight : qw_d yX2_totalWeight 0 := ⟨by decide +kernel, by decide +kernel, by decide +kernel⟩
theorem qmb_X2_totalWeight (E : qe_E) (L : Nat) : qx_mb (qZ E L) 180 := ⟨show plainName yX2_totalWeight.cls = true by decide +kernel, Nat.le_of_ble_eq_true rfl, rfl, Or.inl ⟨qw_G, rfl, fun c h => List.eq_nil_iff_forall_not_mem.mpr h⟩⟩
theorem qh_X3_init : qw_d yX3_init 4 := ⟨by decide +kernel, by decide +kernel, by decide +kernel⟩
theorem qmb_X3_init (E : qe_E) (L : Nat) : qx_mb (qZ E L) 182 := ⟨show plainName yX3_init.cls = true by decide +kernel, Nat.le_of_ble_eq_true rfl, rfl, Or.inl ⟨qw_G, rfl, fun c h => List.eq_nil_iff_forall_not_mem.mpr h⟩⟩
theorem qh_X3_list : qw_d yX3_list 1 := ⟨by decide +kernel, by decide +kernel, by decide +kernel⟩
theorem qmb_X3_list (E : qe_E) (L : Nat) : qx_mb (qZ E L) 183 := ⟨show plainName yX3_list.cls = true by decide +kernel, Nat.le_of_ble_eq_true rfl, rfl, Or.inl ⟨qw_G, rfl, fun c h => List.eq_nil_iff_forall_not_mem.mpr h⟩⟩
theorem qh_X3_listKeys : qw_d yX3_listKeys 1 := ⟨by decide +kernel, by decide +kernel, by decide +kernel⟩
theorem qmb_X3_listKeys (E : qe_E) (L : Nat) : qx_mb (qZ E L) 186 := ⟨show plainName yX3_listKeys.cls = true by decide +kernel, Nat.le_of_ble_eq_true rfl, rfl, Or.inl ⟨qw_G, rfl, fun c h => List.eq_nil_iff_forall_not_mem.mpr h⟩⟩
theorem qh_X3_listForest : qw_d yX3_listForest 0 := ⟨by decide +kernel, by decide +kernel, by decide +kernel⟩
theorem qmb_X3_listForest (E : qe_E) (L : Nat) : qx_mb (qZ E L) 187 := ⟨show plainName yX3_listForest.cls = true by decide +kernel, Nat.le_of_ble_eq_true rfl, rfl, Or.inl ⟨qw_G, rfl, fun c h => List.eq_nil_iff_forall_not_mem.mpr h⟩⟩
theorem qh_X4_init : qw_d yX4_init 1 := ⟨by decide +kernel, by decide +kernel, by decide +kernel⟩
theorem qmb_X4_init (E : qe_E) (L : Nat) : qx_mb (qZ E L) 190 := ⟨show plainName yX4_init.cls = true by decide +kernel, Nat.le_of_ble_eq_true rfl, rfl, Or.inl ⟨qw_G, rfl, fun c h => List.eq_nil_iff_forall_not_mem.mpr h⟩⟩
theorem qh_X4_sort : qw_d yX4_sort 0 := ⟨by decide +kernel, by decide +kernel, by decide +kernel⟩
theorem qmb_X4_sort (E : qe_E) (L : Nat) : qx_mb (qZ E L) 191 := ⟨show plainName yX4_sort.cls = true by decide +kernel, Nat.le_of_ble_eq_true rfl, rfl, Or.inl ⟨qw_G, rfl, fun c h => List.eq_nil_iff_forall_not_mem.mpr h⟩⟩
theorem qh_X5_init : qw_d yX5_init 4 := ⟨by decide +kernel, by decide +kernel, by decide +kernel⟩
theorem qmb_X5_init (E : qe_E) (L : Nat) : qx_mb (qZ E L) 192 := ⟨show plainName yX5_init.cls = true by decide +kernel, Nat.le_of_ble_eq_true rfl, rfl, Or.inl ⟨qw_G, rfl, fun c h => List.eq_nil_iff_forall_not_mem.mpr h⟩⟩
theorem qh_X5_run : qw_d yX5_run 2 := ⟨by decide +kernel, by decide +kernel, by decide +kernel⟩
theorem qmb_X5_run (E : qe_E) (L : Nat) : qx_mb (qZ E L) 193 := ⟨show plainName yX5_run.cls = true by decide +kernel, Nat.le_of_ble_eq_true rfl, rfl, Or.inl ⟨qw_G, rfl, fun c h => List.eq_nil_iff_forall_not_mem.mpr h⟩⟩
theorem qh_X5_measure : qw_d yX5_measure 1 := ⟨by decide +kernel, by decide +kernel, by decide +kernel⟩
theorem qmb_X5_measure (E : qe_E) (L : Nat) : qx_mb (qZ E L) 194 := ⟨show plainName yX5_measure.cls = true by decide +kernel, Nat.le_of_ble_eq_true rfl, rfl, Or.inl ⟨qw_G, rfl, fun c h => List.eq_nil_iff_forall_not_mem.mpr h⟩⟩
theorem qh_X5_runLinear : qw_d yX5_runLinear 1 := ⟨by decide +kernel, by decide +kernel, by decide +kernel⟩
theorem qmb_X5_runLinear (E : qe_E) (L : Nat) : qx_mb (qZ E L) 197 := ⟨show plainName yX5_runLinear.cls = true by decide +kernel, Nat.le_of_ble_eq_true rfl, rfl, Or.inl ⟨qw_G, rfl, fun c h => List.eq_nil_iff_forall_not_mem.mpr h⟩⟩
theorem qh_X5_runBinary : qw_d yX5_runBinary 1 := ⟨by decide +kernel, by decide +kernel, by decide +kernel⟩
theorem qmb_X5_runBinary (E : qe_E) (L : Nat) : qx_mb (qZ E L) 198 := ⟨show plainName yX5_runBinary.cls = true by decide +kernel, Nat.le_of_ble_eq_true rfl, rfl, Or.inl ⟨qw_G, rfl, fun c h => List.eq_nil_iff_forall_not_mem.mpr h⟩⟩
theorem qh_X5_runTrees : qw_d yX5_runTrees 1 := ⟨by decide +kernel, by decide +kernel, by decide +kernel⟩
theorem qmb_X5_runTrees (E : qe_E) (L : Nat) : qx_mb (qZ E L) 199 := ⟨show plainName yX5_runTrees.cls = true by decide +kernel, Nat.le_of_ble_eq_true rfl, rfl, Or.inl ⟨qw_G, rfl, fun c h => List.eq_nil_iff_forall_not_mem.mpr h⟩⟩
theorem qh_X5_runTable : qw_d yX5_runTable 1 := ⟨by decide +kernel, by decide +kernel, by decide +kernel⟩
theorem qmb_X5_runTable (E : qe_E) (L : Nat) : qx_mb (qZ E L) 201 := ⟨show plainName yX5_runTable.cls = true by decide +kernel, Nat.le_of_ble_eq_true rfl, rfl, Or.inl ⟨qw_G, rfl, fun c h => List.eq_nil_iff_forall_not_mem.mpr h⟩⟩
theorem qh_X6_init : qw_d yX6_init 1 := ⟨by decide +kernel, by decide +kernel, by decide +kernel⟩
theorem qmb_X6_init (E : qe_E) (L : Nat) : qx_mb (qZ E L) 202 := ⟨show plainName yX6_init.cls = true by decide +kernel, Nat.le_of_ble_eq_true rfl, rfl, Or.inl ⟨qw_G, rfl, fun c h => List.eq_nil_iff_forall_not_mem.mpr h⟩⟩
theorem qh_X6_choose : qw_d yX6_choose 0 := ⟨by decide +kernel, by decide +kernel, by decide +kernel⟩
theorem qmb_X6_choose (E : qe_E) (L : Nat) : qx_mb (qZ E L) 203 := ⟨show plainName yX6_choose.cls = true by decide +kernel, Nat.le_of_ble_eq_true rfl, rfl, Or.inl ⟨qw_G, rfl, fun c h => List.eq_nil_iff_forall_not_mem.mpr h⟩⟩
theorem qh_X6_turned : qw_d yX6_turned 1 := ⟨by decide +kernel, by decide +kernel, by decide +kernel⟩
theorem qmb_X6_turned (E : qe_E) (L : Nat) : qx_mb (qZ E L) 204 := ⟨show plainName yX6_turned.cls = true by decide +kernel, Nat.le_of_ble_eq_true rfl, rfl, Or.inl ⟨qw_G, rfl, fun c h => List.eq_nil_iff_forall_not_mem.mpr h⟩⟩
theorem qh_X6_collectPairs : qw_d yX6_collectPairs 0 := ⟨by decide +kernel, by decide +kernel, by decide +kernel⟩
theorem qmb_X6_collectPairs (E : qe_E) (L : Nat) : qx_mb (qZ E L) 205 := ⟨show plainName yX6_collectPairs.cls = true by decide +kernel, Nat.le_of_ble_eq_true rfl, rfl, Or.inl ⟨qw_G, rfl, fun c h => List.eq_nil_iff_forall_not_mem.mpr h⟩⟩
theorem qh_X6_separates : qw_d yX6_separates 1 := ⟨by decide +kernel, by decide +kernel, by decide +kernel⟩
theorem qmb_X6_separates (E : qe_E) (L : Nat) : qx_mb (qZ E L) 206 := ⟨show plainName yX6_separates.cls = true by decide +kernel, Nat.le_of_ble_eq_true rfl, rfl, Or.inl ⟨qw_G, rfl, fun c h => List.eq_nil_iff_forall_not_mem.mpr h⟩⟩
theorem qh_X6_hashOf : qw_d yX6_hashOf 2 := ⟨by decide +kernel, by decide +kernel, by decide +kernel⟩
theorem qmb_X6_hashOf (E : qe_E) (L : Nat) : qx_mb (qZ E L) 207 := ⟨show plainName yX6_hashOf.cls = true by decide +kernel, Nat.le_of_ble_eq_true rfl, rfl, Or.inl ⟨qw_G, rfl, fun c h => List.eq_nil_iff_forall_not_mem.mpr h⟩⟩
theorem qh_X7_init : qw_d yX7_init 2 := ⟨by decide +kernel, by decide +kernel, by decide +kernel⟩
theorem qmb_X7_init (E : qe_E) (L : Nat) : qx_mb (qZ E L) 208 := ⟨show plainName yX7_init.cls = true by decide +kernel, Nat.le_of_ble_eq_true rfl, rfl, Or.inl ⟨qw_G, rfl, fun c h => List.eq_nil_iff_forall_not_mem.mpr h⟩⟩
theorem qh_X7_build : qw_d yX7_build 0 := ⟨by decide +kernel, by decide +kernel, by decide +kernel⟩
theorem qmb_X7_build (E : qe_E) (L : Nat) : qx_mb (qZ E L) 209 := ⟨show plainName yX7_build.cls = true by decide +kernel, Nat.le_of_ble_eq_true rfl, rfl, Or.inl ⟨qw_G, rfl, fun c h => List.eq_nil_iff_forall_not_mem.mpr h⟩⟩
theorem qh_X8_init : qw_d yX8_init 1 := ⟨by decide +kernel, by decide +kernel, by decide +kernel⟩
theorem qmb_X8_init (E : qe_E) (L : Nat) : qx_mb (qZ E L) 218 := ⟨show plainName yX8_init.cls = true by decide +kernel, Nat.le_of_ble_eq_true rfl, rfl, Or.inl ⟨qw_G, rfl, fun c h => List.eq_nil_iff_forall_not_mem.mpr h⟩⟩
theorem qh_X8_empty : qw_d yX8_empty 0 := ⟨by decide +kernel, by decide +kernel, by decide +kernel⟩
theorem qmb_X8_empty (E : qe_E) (L : Nat) : qx_mb (qZ E L) 219 := ⟨show plainName yX8_empty.cls = true by decide +kernel, Nat.le_of_ble_eq_true rfl, rfl, Or.inl ⟨qw_G, rfl, fun c h => List.eq_nil_iff_forall_not_mem.mpr h⟩⟩
theorem qh_X8_write : qw_d yX8_write 1 := ⟨by decide +kernel, by decide +kernel, by decide +kernel⟩
theorem qmb_X8_write (E : qe_E) (L : Nat) : qx_mb (qZ E L) 221 := ⟨show plainName yX8_write.cls = true by decide +kernel, Nat.le_of_ble_eq_true rfl, rfl, Or.inl ⟨qw_G, rfl, fun c h => List.eq_nil_iff_forall_not_mem.mpr h⟩⟩
theorem qh_X8_isKey : qw_d yX8_isKey 0 := ⟨by decide +kernel, by decide +kernel, by decide +kernel⟩
theorem qmb_X8_isKey (E : qe_E) (L : Nat) : qx_mb (qZ E L) 224 := ⟨show plainName yX8_isKey.cls = true by decide +kernel, Nat.le_of_ble_eq_true rfl, rfl, Or.inl ⟨qw_G, rfl, fun c h => List.eq_nil_iff_forall_not_mem.mpr h⟩⟩
theorem qh_L_append : qw_d yL_append 3 := ⟨by decide +kernel, by decide +kernel, by decide +kernel⟩
theorem qmb_L_append (E : qe_E) (L : Nat) : qx_mb (qZ E L) 225 := ⟨show plainName yL_append.cls = true by decide +kernel, Nat.le_of_ble_eq_true rfl, rfl, Or.inr ⟨qw_G, [(0, 9, 12, 13), (0, 9, 15, 15)], rfl, fun c h => h⟩⟩
theorem qh_L_add : qw_d yL_add 3 := ⟨by decide +kernel, by decide +kernel, by decide +kernel⟩
theorem qmb_L_add (E : qe_E) (L : Nat) : qx_mb (qZ E L) 226 := ⟨show plainName yL_add.cls = true by decide +kernel, Nat.le_of_ble_eq_true rfl, rfl, Or.inr ⟨qw_G, [(0, 9, 12, 13), (0, 9, 15, 15)], rfl, fun c h => h⟩⟩
theorem qh_L_remove : qw_d yL_remove 3 := ⟨by decide +kernel, by decide +kernel, by decide +kernel⟩
theorem qmb_L_remove (E : qe_E) (L : Nat) : qx_mb (qZ E L) 227 := ⟨show plainName yL_remove.cls = true by decide +kernel, Nat.le_of_ble_eq_true rfl, rfl, Or.inr ⟨qw_G, [(0, 9, 12, 23)], rfl, fun c h => h⟩⟩
theorem qh_L_setBranch : qw_d yL_setBranch 4 := ⟨by decide +kernel, by decide +kernel, by decide +kernel⟩
theorem qmb_L_setBranch (E : qe_E) (L : Nat) : qx_mb (qZ E L) 228 := ⟨show plainName yL_setBranch.cls = true by decide +kernel, Nat.le_of_ble_eq_true rfl, rfl, Or.inr ⟨qw_G, [(0, 10, 13, 23), (0, 10, 17, 13)], rfl, fun c h => h⟩⟩
theorem qh_L_setWeight : qw_d yL_setWeight 4 := ⟨by decide +kernel, by decide +kernel, by decide +kernel⟩
theorem qmb_L_setWeight (E : qe_E) (L : Nat) : qx_mb (qZ E L) 229 := ⟨show plainName yL_setWeight.cls = true by decide +kernel, Nat.le_of_ble_eq_true rfl, rfl, Or.inr ⟨qw_G, [(0, 10, 13, 23), (0, 10, 17, 13)], rfl, fun c h => h⟩⟩
theorem qh_L_setLoad : qw_d yL_setLoad 3 := ⟨by decide +kernel, by decide +kernel, by decide +kernel⟩
theorem qmb_L_setLoad (E : qe_E) (L : Nat) : qx_mb (qZ E L) 230 := ⟨show plainName yL_setLoad.cls = true by decide +kernel, Nat.le_of_ble_eq_true rfl, rfl, Or.inr ⟨qw_G, [(0, 9, 12, 13)], rfl, fun c h => h⟩⟩
theorem qh_L_execute : qw_d yL_execute 2 := ⟨by decide +kernel, by decide +kernel, by decide +kernel⟩
theorem qmb_L_execute (E : qe_E) (L : Nat) : qx_mb (qZ E L) 231 := ⟨show plainName yL_execute.cls = true by decide +kernel, Nat.le_of_ble_eq_true rfl, rfl, Or.inr ⟨qw_G, [(0, 8, 11, 13), (0, 8, 14, 15)], rfl, fun c h => h⟩⟩
theorem qh_L_property : qw_d yL_property 4 := ⟨by decide +kernel, by decide +kernel, by decide +kernel⟩
theorem qmb_L_property (E : qe_E) (L : Nat) : qx_mb (qZ E L) 232 := ⟨show plainName yL_property.cls = true by decide +kernel, Nat.le_of_ble_eq_true rfl, rfl, Or.inr ⟨qw_G, [(0, 10, 13, 23), (0, 10, 17, 13)], rfl, fun c h => h⟩⟩
theorem qh_L_character : qw_d yL_character 4 := ⟨by decide +kernel, by decide +kernel, by decide +kernel⟩
theorem qmb_L_character (E : qe_E) (L : Nat) : qx_mb (qZ E L) 233 := ⟨show plainName yL_character.cls = true by decide +kernel, Nat.le_of_ble_eq_true rfl, rfl, Or.inr ⟨qw_G, [(0, 10, 13, 23)], rfl, fun c h => h⟩⟩
theorem qh_L_difference : qw_d yL_difference 4 := ⟨by decide +kernel, by decide +kernel, by decide +kernel⟩
theorem qmb_L_difference (E : qe_E) (L : Nat) : qx_mb (qZ E L) 234 := ⟨show plainName yL_difference.cls = true by decide +kernel, Nat.le_of_ble_eq_true rfl, rfl, Or.inr ⟨qw_G, [(0, 10, 13, 23), (0, 10, 17, 13)], rfl, fun c h => h⟩⟩
theorem qh_L_size : qw_d yL_size 3 := ⟨by decide +kernel, by decide +kernel, by decide +kernel⟩
theorem qmb_L_size (E : qe_E) (L : Nat) : qx_mb (qZ E L) 235 := ⟨show plainName yL_size.cls = true by decide +kernel, Nat.le_of_ble_eq_true rfl, rfl, Or.inr ⟨qw_G, [(0, 9, 12, 13)], rfl, fun c h => h⟩⟩
theorem qh_L_find : qw_d yL_find 3 := ⟨by decide +kernel, by decide +kernel, by decide +kernel⟩
theorem qmb_L_find (E : qe_E) (L : Nat) : qx_mb (qZ E L) 236 := ⟨show plainName yL_find.cls = true by decide +kernel, Nat.le_of_ble_eq_true rfl, rfl, Or.inr ⟨qw_G, [(0, 9, 12, 13), (0, 9, 15, 15)], rfl, fun c h => h⟩⟩
theorem qh_L_branch : qw_d yL_branch 3 := ⟨by decide +kernel, by decide +kernel, by decide +kernel⟩
theorem qmb_L_branch (E : qe_E) (L : Nat) : qx_mb (qZ E L) 237 := ⟨show plainName yL_branch.cls = true by decide +kernel, Nat.le_of_ble_eq_true rfl, rfl, Or.inr ⟨qw_G, [(0, 9, 12, 13), (0, 9, 15, 15)], rfl, fun c h => h⟩⟩
theorem qh_L_examined : qw_d yL_examined 3 := ⟨by decide +kernel, by decide +kernel, by decide +kernel⟩
theorem qmb_L_examined (E : qe_E) (L : Nat) : qx_mb (qZ E L) 238 := ⟨show plainName yL_examined.cls = true by decide +kernel, Nat.le_of_ble_eq_true rfl, rfl, Or.inr ⟨qw_G, [(0, 9, 12, 13), (0, 9, 15, 15)], rfl, fun c h => h⟩⟩
theorem qh_L_cost : qw_d yL_cost 3 := ⟨by decide +kernel, by decide +kernel, by decide +kernel⟩
theorem qmb_L_cost (E : qe_E) (L : Nat) : qx_mb (qZ E L) 239 := ⟨show plainName yL_cost.cls = true by decide +kernel, Nat.le_of_ble_eq_true rfl, rfl, Or.inr ⟨qw_G, [(0, 9, 12, 13), (0, 9, 15, 15)], rfl, fun c h => h⟩⟩
theorem qh_L_worst : qw_d yL_worst 3 := ⟨by decide +kernel, by decide +kernel, by decide +kernel⟩
theorem qmb_L_worst (E : qe_E) (L : Nat) : qx_mb (qZ E L) 240 := ⟨show plainName yL_worst.cls = true by decide +kernel, Nat.le_of_ble_eq_true rfl, rfl, Or.inr ⟨qw_G, [(0, 9, 12, 13), (0, 9, 15, 15)], rfl, fun c h => h⟩⟩
theorem qh_L_meanBits : qw_d yL_meanBits 3 := ⟨by decide +kernel, by decide +kernel, by decide +kernel⟩
theorem qmb_L_meanBits (E : qe_E) (L : Nat) : qx_mb (qZ E L) 241 := ⟨show plainName yL_meanBits.cls = true by decide +kernel, Nat.le_of_ble_eq_true rfl, rfl, Or.inr ⟨qw_G, [(0, 8, 11, 13), (0, 8, 14, 15), (0, 8, 17, 70)], rfl, fun c h => h⟩⟩
theorem qh_L_trees : qw_d yL_trees 3 := ⟨by decide +kernel, by decide +kernel, by decide +kernel⟩
theorem qmb_L_trees (E : qe_E) (L : Nat) : qx_mb (qZ E L) 242 := ⟨show plainName yL_trees.cls = true by decide +kernel, Nat.le_of_ble_eq_true rfl, rfl, Or.inr ⟨qw_G, [(0, 9, 12, 13)], rfl, fun c h => h⟩⟩
theorem qh_L_table : qw_d yL_table 3 := ⟨by decide +kernel, by decide +kernel, by decide +kernel⟩
theorem qmb_L_table (E : qe_E) (L : Nat) : qx_mb (qZ E L) 243 := ⟨show plainName yL_table.cls = true by decide +kernel, Nat.le_of_ble_eq_true rfl, rfl, Or.inr ⟨qw_G, [(0, 9, 12, 13), (0, 9, 15, 15)], rfl, fun c h => h⟩⟩
theorem qh_L_slot : qw_d yL_slot 3 := ⟨by decide +kernel, by decide +kernel, by decide +kernel⟩
theorem qmb_L_slot (E : qe_E) (L : Nat) : qx_mb (qZ E L) 244 := ⟨show plainName yL_slot.cls = true by decide +kernel, Nat.le_of_ble_eq_true rfl, rfl, Or.inr ⟨qw_G, [(0, 9, 12, 15), (0, 9, 15, 23)], rfl, fun c h => h⟩⟩
theorem qh_L_displacement : qw_d yL_displacement 3 := ⟨by decide +kernel, by decide +kernel, by decide +kernel⟩
theorem qmb_L_displacement (E : qe_E) (L : Nat) : qx_mb (qZ E L) 245 := ⟨show plainName yL_displacement.cls = true by decide +kernel, Nat.le_of_ble_eq_true rfl, rfl, Or.inr ⟨qw_G, [(0, 9, 12, 15), (0, 9, 15, 23)], rfl, fun c h => h⟩⟩
theorem qh_L_densityBits : qw_d yL_densityBits 2 := ⟨by decide +kernel, by decide +kernel, by decide +kernel⟩
theorem qmb_L_densityBits (E : qe_E) (L : Nat) : qx_mb (qZ E L) 246 := ⟨show plainName yL_densityBits.cls = true by decide +kernel, Nat.le_of_ble_eq_true rfl, rfl, Or.inr ⟨qw_G, [(0, 8, 11, 15)], rfl, fun c h => h⟩⟩
theorem qh_L_listing : qw_d yL_listing 4 := ⟨by decide +kernel, by decide +kernel, by decide +kernel⟩
theorem qmb_L_listing (E : qe_E) (L : Nat) : qx_mb (qZ E L) 247 := ⟨show plainName yL_listing.cls = true by decide +kernel, Nat.le_of_ble_eq_true rfl, rfl, Or.inr ⟨qw_G, [(0, 10, 13, 13), (0, 10, 17, 15), (0, 10, 21, 23)], rfl, fun c h => h⟩⟩
theorem qh_L_restore : qw_d yL_restore 2 := ⟨by decide +kernel, by decide +kernel, by decide +kernel⟩
theorem qmb_L_restore (E : qe_E) (L : Nat) : qx_mb (qZ E L) 248 := ⟨show plainName yL_restore.cls = true by decide +kernel, Nat.le_of_ble_eq_true rfl, rfl, Or.inr ⟨qw_G, [(0, 8, 11, 15)], rfl, fun c h => h⟩⟩
theorem qh_J6_bitCount_0f7a4 : qw_d yJ6_bitCount_0f7a4 1 := ⟨by decide +kernel, by decide +kernel, by decide +kernel⟩
theorem qmb_J6_bitCount_0f7a4 (E : qe_E) (L : Nat) : qx_mb (qZ E L) 250 := ⟨show plainName yJ6_bitCount_0f7a4.cls = true by decide +kernel, Nat.le_of_ble_eq_true rfl, rfl, Or.inl ⟨qw_G, rfl, fun c h => List.eq_nil_iff_forall_not_mem.mpr h⟩⟩
theorem qo_X9_init (E : qe_E) (L : Nat) : ∀ c : Code, zT (qZ E L) 0 c → ∀ x ∈ c.exceptionTable.toList, False := fun c h x hx => absurd ((show c.exceptionTable.toList = [] from h) ▸ hx) List.not_mem_nil
theorem qo_X9_append (E : qe_E) (L : Nat) : ∀ c : Code, zT (qZ E L) 1 c → ∀ x ∈ c.exceptionTable.toList, False := fun c h x hx => absurd ((show c.exceptionTable.toList = [] from h) ▸ hx) List.not_mem_nil
theorem qo_X9_clear (E : qe_E) (L : Nat) : ∀ c : Code, zT (qZ E L) 2 c → ∀ x ∈ c.exceptionTable.toList, False := fun c h x hx => absurd ((show c.exceptionTable.toList = [] from h) ▸ hx) List.not_mem_nil
theorem qo_X9_add (E : qe_E) (L : Nat) : ∀ c : Code, zT (qZ E L) 3 c → ∀ x ∈ c.exceptionTable.toList, False := fun c h x hx => absurd ((show c.exceptionTable.toList = [] from h) ▸ hx) List.not_mem_nil
theorem qo_X9_remove (E : qe_E) (L : Nat) : ∀ c : Code, zT (qZ E L) 4 c → ∀ x ∈ c.exceptionTable.toList, False := fun c h x hx => absurd ((show c.exceptionTable.toList = [] from h) ▸ hx) List.not_mem_nil
theorem qo_X9_setBranch (E : qe_E) (L : Nat) : ∀ c : Code, zT (qZ E L) 5 c → ∀ x ∈ c.exceptionTable.toList, False := fun c h x hx => absurd ((show c.exceptionTable.toList = [] from h) ▸ hx) List.not_mem_nil
theorem qo_X9_setWeight (E : qe_E) (L : Nat) : ∀ c : Code, zT (qZ E L) 6 c → ∀ x ∈ c.exceptionTable.toList, False := fun c h x hx => absurd ((show c.exceptionTable.toList = [] from h) ▸ hx) List.not_mem_nil
theorem qo_X9_setLoad (E : qe_E) (L : Nat) : ∀ c : Code, zT (qZ E L) 7 c → ∀ x ∈ c.exceptionTable.toList, False := fun c h x hx => absurd ((show c.exceptionTable.toList = [] from h) ▸ hx) List.not_mem_nil
theorem qo_X9_execute (E : qe_E) (L : Nat) : ∀ c : Code, zT (qZ E L) 8 c → ∀ x ∈ c.exceptionTable.toList, False := fun c h x hx => absurd ((show c.exceptionTable.toList = [] from h) ▸ hx) List.not_mem_nil
theorem qo_X9_errorPosition (E : qe_E) (L : Nat) : ∀ c : Code, zT (qZ E L) 9 c → ∀ x ∈ c.exceptionTable.toList, False := fun c h x hx => absurd ((show c.exceptionTable.toList = [] from h) ▸ hx) List.not_mem_nil
theorem qo_X9_property (E : qe_E) (L : Nat) : ∀ c : Code, zT (qZ E L) 10 c → ∀ x ∈ c.exceptionTable.toList, False := fun c h x hx => absurd ((show c.exceptionTable.toList = [] from h) ▸ hx) List.not_mem_nil
theorem qo_X9_character (E : qe_E) (L : Nat) : ∀ c : Code, zT (qZ E L) 11 c → ∀ x ∈ c.exceptionTable.toList, False := fun c h x hx => absurd ((show c.exceptionTable.toList = [] from h) ▸ hx) List.not_mem_nil
theorem qo_X9_difference (E : qe_E) (L : Nat) : ∀ c : Code, zT (qZ E L) 12 c → ∀ x ∈ c.exceptionTable.toList, False := fun c h x hx => absurd ((show c.exceptionTable.toList = [] from h) ▸ hx) List.not_mem_nil
theorem qo_X9_size (E : qe_E) (L : Nat) : ∀ c : Code, zT (qZ E L) 13 c → ∀ x ∈ c.exceptionTable.toList, False := fun c h x hx => absurd ((show c.exceptionTable.toList = [] from h) ▸ hx) List.not_mem_nil
theorem qo_X9_find (E : qe_E) (L : Nat) : ∀ c : Code, zT (qZ E L) 14 c → ∀ x ∈ c.exceptionTable.toList, False := fun c h x hx => absurd ((show c.exceptionTable.toList = [] from h) ▸ hx) List.not_mem_nil
theorem qo_X9_branch (E : qe_E) (L : Nat) : ∀ c : Code, zT (qZ E L) 15 c → ∀ x ∈ c.exceptionTable.toList, False := fun c h x hx => absurd ((show c.exceptionTable.toList = [] from h) ▸ hx) List.not_mem_nil
theorem qo_X9_examined (E : qe_E) (L : Nat) : ∀ c : Code, zT (qZ E L) 16 c → ∀ x ∈ c.exceptionTable.toList, False := fun c h x hx => absurd ((show c.exceptionTable.toList = [] from h) ▸ hx) List.not_mem_nil
theorem qo_X9_cost (E : qe_E) (L : Nat) : ∀ c : Code, zT (qZ E L) 17 c → ∀ x ∈ c.exceptionTable.toList, False := fun c h x hx => absurd ((show c.exceptionTable.toList = [] from h) ▸ hx) List.not_mem_nil
theorem qo_X9_worst (E : qe_E) (L : Nat) : ∀ c : Code, zT (qZ E L) 18 c → ∀ x ∈ c.exceptionTable.toList, False := fun c h x hx => absurd ((show c.exceptionTable.toList = [] from h) ▸ hx) List.not_mem_nil
theorem qo_X9_meanBits (E : qe_E) (L : Nat) : ∀ c : Code, zT (qZ E L) 19 c → ∀ x ∈ c.exceptionTable.toList, False := fun c h x hx => absurd ((show c.exceptionTable.toList = [] from h) ▸ hx) List.not_mem_nil
theorem qo_X9_best (E : qe_E) (L : Nat) : ∀ c : Code, zT (qZ E L) 20 c → ∀ x ∈ c.exceptionTable.toList, False := fun c h x hx => absurd ((show c.exceptionTable.toList = [] from h) ▸ hx) List.not_mem_nil
theorem qo_X9_trees (E : qe_E) (L : Nat) : ∀ c : Code, zT (qZ E L) 21 c → ∀ x ∈ c.exceptionTable.toList, False := fun c h x hx => absurd ((show c.exceptionTable.toList = [] from h) ▸ hx) List.not_mem_nil
theorem qo_X9_selected (E : qe_E) (L : Nat) : ∀ c : Code, zT (qZ E L) 22 c → ∀ x ∈ c.exceptionTable.toList, False := fun c h x hx => absurd ((show c.exceptionTable.toList = [] from h) ▸ hx) List.not_mem_nil
theorem qo_X9_hash (E : qe_E) (L : Nat) : ∀ c : Code, zT (qZ E L) 23 c → ∀ x ∈ c.exceptionTable.toList, False := fun c h x hx => absurd ((show c.exceptionTable.toList = [] from h) ▸ hx) List.not_mem_nil
theorem qo_X9_table (E : qe_E) (L : Nat) : ∀ c : Code, zT (qZ E L) 24 c → ∀ x ∈ c.exceptionTable.toList, False := fun c h x hx => absurd ((show c.exceptionTable.toList = [] from h) ▸ hx) List.not_mem_nil
theorem qo_X9_slot (E : qe_E) (L : Nat) : ∀ c : Code, zT (qZ E L) 25 c → ∀ x ∈ c.exceptionTable.toList, False := fun c h x hx => absurd ((show c.exceptionTable.toList = [] from h) ▸ hx) List.not_mem_nil
theorem qo_X9_displacement (E : qe_E) (L : Nat) : ∀ c : Code, zT (qZ E L) 26 c → ∀ x ∈ c.exceptionTable.toList, False := fun c h x hx => absurd ((show c.exceptionTable.toList = [] from h) ▸ hx) List.not_mem_nil
theorem qo_X9_densityBits (E : qe_E) (L : Nat) : ∀ c : Code, zT (qZ E L) 27 c → ∀ x ∈ c.exceptionTable.toList, False := fun c h x hx => absurd ((show c.exceptionTable.toList = [] from h) ▸ hx) List.not_mem_nil
theorem qo_X9_listing (E : qe_E) (L : Nat) : ∀ c : Code, zT (qZ E L) 28 c → ∀ x ∈ c.exceptionTable.toList, False := fun c h x hx => absurd ((show c.exceptionTable.toList = [] from h) ▸ hx) List.not_mem_nil
theorem qo_X9_save (E : qe_E) (L : Nat) : ∀ c : Code, zT (qZ E L) 29 c → ∀ x ∈ c.exceptionTable.toList, False := fun c h x hx => absurd ((show c.exceptionTable.toList = [] from h) ▸ hx) List.not_mem_nil
theorem qo_X9_restore (E : qe_E) (L : Nat) : ∀ c : Code, zT (qZ E L) 30 c → ∀ x ∈ c.exceptionTable.toList, False := fun c h x hx => absurd ((show c.exceptionTable.toList = [] from h) ▸ hx) List.not_mem_nil
theorem qo_X9_requireKey (E : qe_E) (L : Nat) : ∀ c : Code, zT (qZ E L) 31 c → ∀ x ∈ c.exceptionTable.toList, False := fun c h x hx => absurd ((show c.exceptionTable.toList = [] from h) ▸ hx) List.not_mem_nil
theorem qo_X9_requireStrategy (E : qe_E) (L : Nat) : ∀ c : Code, zT (qZ E L) 33 c → ∀ x ∈ c.exceptionTable.toList, False := fun c h x hx => absurd ((show c.exceptionTable.toList = [] from h) ▸ hx) List.not_mem_nil
theorem qo_X9_requireRunnable (E : qe_E) (L : Nat) : ∀ c : Code, zT (qZ E L) 34 c → ∀ x ∈ c.exceptionTable.toList, False := fun c h x hx => absurd ((show c.exceptionTable.toList = [] from h) ▸ hx) List.not_mem_nil
theorem qo_X9_requireTable (E : qe_E) (L : Nat) : ∀ c : Code, zT (qZ E L) 35 c → ∀ x ∈ c.exceptionTable.toList, False := fun c h x hx => absurd ((show c.exceptionTable.toList = [] from h) ▸ hx) List.not_mem_nil
theorem qo_X9_canRun (E : qe_E) (L : Nat) : ∀ c : Code, zT (qZ E L) 36 c → ∀ x ∈ c.exceptionTable.toList, False := fun c h x hx => absurd ((show c.exceptionTable.toList = [] from h) ▸ hx) List.not_mem_nil
theorem qo_X9_prepare (E : qe_E) (L : Nat) : ∀ c : Code, zT (qZ E L) 37 c → ∀ x ∈ c.exceptionTable.toList, False := fun c h x hx => absurd ((show c.exceptionTable.toList = [] from h) ▸ hx) List.not_mem_nil
theorem qo_X9_put (E : qe_E) (L : Nat) : ∀ c : Code, zT (qZ E L) 39 c → ∀ x ∈ c.exceptionTable.toList, False := fun c h x hx => absurd ((show c.exceptionTable.toList = [] from h) ▸ hx) List.not_mem_nil
theorem qo_X9_copy (E : qe_E) (L : Nat) : ∀ c : Code, zT (qZ E L) 40 c → ∀ x ∈ c.exceptionTable.toList, False := fun c h x hx => absurd ((show c.exceptionTable.toList = [] from h) ▸ hx) List.not_mem_nil
theorem qo_X9_contains (E : qe_E) (L : Nat) : ∀ c : Code, zT (qZ E L) 42 c → ∀ x ∈ c.exceptionTable.toList, False := fun c h x hx => absurd ((show c.exceptionTable.toList = [] from h) ▸ hx) List.not_mem_nil
theorem qo_X10_init (E : qe_E) (L : Nat) : ∀ c : Code, zT (qZ E L) 47 c → ∀ x ∈ c.exceptionTable.toList, False := fun c h x hx => absurd ((show c.exceptionTable.toList = [] from h) ▸ hx) List.not_mem_nil
theorem qo_X10_thrown (E : qe_E) (L : Nat) : ∀ c : Code, zT (qZ E L) 48 c → ∀ x ∈ c.exceptionTable.toList, False := fun c h x hx => absurd ((show c.exceptionTable.toList = [] from h) ▸ hx) List.not_mem_nil
theorem qo_X10_in (E : qe_E) (L : Nat) : ∀ c : Code, zT (qZ E L) 49 c → ∀ x ∈ c.exceptionTable.toList, False := fun c h x hx => absurd ((show c.exceptionTable.toList = [] from h) ▸ hx) List.not_mem_nil
theorem qo_X10_isKey (E : qe_E) (L : Nat) : ∀ c : Code, zT (qZ E L) 50 c → ∀ x ∈ c.exceptionTable.toList, False := fun c h x hx => absurd ((show c.exceptionTable.toList = [] from h) ▸ hx) List.not_mem_nil
theorem qo_X10_append (E : qe_E) (L : Nat) : ∀ c : Code, zT (qZ E L) 53 c → ∀ x ∈ c.exceptionTable.toList, False := fun c h x hx => absurd ((show c.exceptionTable.toList = [] from h) ▸ hx) List.not_mem_nil
theorem qo_X10_clear (E : qe_E) (L : Nat) : ∀ c : Code, zT (qZ E L) 54 c → ∀ x ∈ c.exceptionTable.toList, False := fun c h x hx => absurd ((show c.exceptionTable.toList = [] from h) ▸ hx) List.not_mem_nil
theorem qo_X10_add (E : qe_E) (L : Nat) : ∀ c : Code, zT (qZ E L) 58 c → ∀ x ∈ c.exceptionTable.toList, False := fun c h x hx => absurd ((show c.exceptionTable.toList = [] from h) ▸ hx) List.not_mem_nil
theorem qo_X10_remove (E : qe_E) (L : Nat) : ∀ c : Code, zT (qZ E L) 59 c → ∀ x ∈ c.exceptionTable.toList, False := fun c h x hx => absurd ((show c.exceptionTable.toList = [] from h) ▸ hx) List.not_mem_nil
theorem qo_X10_setBranch (E : qe_E) (L : Nat) : ∀ c : Code, zT (qZ E L) 60 c → ∀ x ∈ c.exceptionTable.toList, False := fun c h x hx => absurd ((show c.exceptionTable.toList = [] from h) ▸ hx) List.not_mem_nil
theorem qo_X10_setWeight (E : qe_E) (L : Nat) : ∀ c : Code, zT (qZ E L) 61 c → ∀ x ∈ c.exceptionTable.toList, False := fun c h x hx => absurd ((show c.exceptionTable.toList = [] from h) ▸ hx) List.not_mem_nil
theorem qo_X10_setLoad (E : qe_E) (L : Nat) : ∀ c : Code, zT (qZ E L) 62 c → ∀ x ∈ c.exceptionTable.toList, False := fun c h x hx => absurd ((show c.exceptionTable.toList = [] from h) ▸ hx) List.not_mem_nil
theorem qo_X10_here (E : qe_E) (L : Nat) : ∀ c : Code, zT (qZ E L) 63 c → ∀ x ∈ c.exceptionTable.toList, False := fun c h x hx => absurd ((show c.exceptionTable.toList = [] from h) ▸ hx) List.not_mem_nil
theorem qo_X10_isWord (E : qe_E) (L : Nat) : ∀ c : Code, zT (qZ E L) 65 c → ∀ x ∈ c.exceptionTable.toList, False := fun c h x hx => absurd ((show c.exceptionTable.toList = [] from h) ▸ hx) List.not_mem_nil
theorem qo_X10_word (E : qe_E) (L : Nat) : ∀ c : Code, zT (qZ E L) 66 c → ∀ x ∈ c.exceptionTable.toList, False := fun c h x hx => absurd ((show c.exceptionTable.toList = [] from h) ▸ hx) List.not_mem_nil
theorem qo_X10_readCommand (E : qe_E) (L : Nat) : ∀ c : Code, zT (qZ E L) 70 c → ∀ x ∈ c.exceptionTable.toList, False := fun c h x hx => absurd ((show c.exceptionTable.toList = [] from h) ▸ hx) List.not_mem_nil
theorem qo_X10_execute (E : qe_E) (L : Nat) : ∀ c : Code, zT (qZ E L) 72 c → ∀ x ∈ c.exceptionTable.toList, False := fun c h x hx => absurd ((show c.exceptionTable.toList = [] from h) ▸ hx) List.not_mem_nil
theorem qo_X10_errorPosition (E : qe_E) (L : Nat) : ∀ c : Code, zT (qZ E L) 73 c → ∀ x ∈ c.exceptionTable.toList, False := fun c h x hx => absurd ((show c.exceptionTable.toList = [] from h) ▸ hx) List.not_mem_nil
theorem qo_X10_property (E : qe_E) (L : Nat) : ∀ c : Code, zT (qZ E L) 78 c → ∀ x ∈ c.exceptionTable.toList, False := fun c h x hx => absurd ((show c.exceptionTable.toList = [] from h) ▸ hx) List.not_mem_nil
theorem qo_X10_character (E : qe_E) (L : Nat) : ∀ c : Code, zT (qZ E L) 79 c → ∀ x ∈ c.exceptionTable.toList, False := fun c h x hx => absurd ((show c.exceptionTable.toList = [] from h) ▸ hx) List.not_mem_nil
theorem qo_X10_difference (E : qe_E) (L : Nat) : ∀ c : Code, zT (qZ E L) 80 c → ∀ x ∈ c.exceptionTable.toList, False := fun c h x hx => absurd ((show c.exceptionTable.toList = [] from h) ▸ hx) List.not_mem_nil
theorem qo_X10_size (E : qe_E) (L : Nat) : ∀ c : Code, zT (qZ E L) 81 c → ∀ x ∈ c.exceptionTable.toList, False := fun c h x hx => absurd ((show c.exceptionTable.toList = [] from h) ▸ hx) List.not_mem_nil
theorem qo_X10_takeBuffer (E : qe_E) (L : Nat) : ∀ c : Code, zT (qZ E L) 82 c → ∀ x ∈ c.exceptionTable.toList, False := fun c h x hx => absurd ((show c.exceptionTable.toList = [] from h) ▸ hx) List.not_mem_nil
theorem qo_X10_linear (E : qe_E) (L : Nat) : ∀ c : Code, zT (qZ E L) 85 c → ∀ x ∈ c.exceptionTable.toList, False := fun c h x hx => absurd ((show c.exceptionTable.toList = [] from h) ▸ hx) List.not_mem_nil
theorem qo_X10_search (E : qe_E) (L : Nat) : ∀ c : Code, zT (qZ E L) 88 c → ∀ x ∈ c.exceptionTable.toList, False := fun c h x hx => absurd ((show c.exceptionTable.toList = [] from h) ▸ hx) List.not_mem_nil
theorem qo_X10_marked (E : qe_E) (L : Nat) : ∀ c : Code, zT (qZ E L) 89 c → ∀ x ∈ c.exceptionTable.toList, False := fun c h x hx => absurd ((show c.exceptionTable.toList = [] from h) ▸ hx) List.not_mem_nil
theorem qo_X10_ofLength (E : qe_E) (L : Nat) : ∀ c : Code, zT (qZ E L) 92 c → ∀ x ∈ c.exceptionTable.toList, False := fun c h x hx => absurd ((show c.exceptionTable.toList = [] from h) ▸ hx) List.not_mem_nil
theorem qo_X10_climb (E : qe_E) (L : Nat) : ∀ c : Code, zT (qZ E L) 94 c → ∀ x ∈ c.exceptionTable.toList, False := fun c h x hx => absurd ((show c.exceptionTable.toList = [] from h) ▸ hx) List.not_mem_nil
theorem qo_X10_trees (E : qe_E) (L : Nat) : ∀ c : Code, zT (qZ E L) 96 c → ∀ x ∈ c.exceptionTable.toList, False := fun c h x hx => absurd ((show c.exceptionTable.toList = [] from h) ▸ hx) List.not_mem_nil
theorem qo_X10_separates (E : qe_E) (L : Nat) : ∀ c : Code, zT (qZ E L) 97 c → ∀ x ∈ c.exceptionTable.toList, False := fun c h x hx => absurd ((show c.exceptionTable.toList = [] from h) ▸ hx) List.not_mem_nil
theorem qo_X10_sizeOf (E : qe_E) (L : Nat) : ∀ c : Code, zT (qZ E L) 98 c → ∀ x ∈ c.exceptionTable.toList, False := fun c h x hx => absurd ((show c.exceptionTable.toList = [] from h) ▸ hx) List.not_mem_nil
theorem qo_X10_select (E : qe_E) (L : Nat) : ∀ c : Code, zT (qZ E L) 100 c → ∀ x ∈ c.exceptionTable.toList, False := fun c h x hx => absurd ((show c.exceptionTable.toList = [] from h) ▸ hx) List.not_mem_nil
theorem qo_X10_hashOfText (E : qe_E) (L : Nat) : ∀ c : Code, zT (qZ E L) 101 c → ∀ x ∈ c.exceptionTable.toList, False := fun c h x hx => absurd ((show c.exceptionTable.toList = [] from h) ▸ hx) List.not_mem_nil
theorem qo_X10_prepare (E : qe_E) (L : Nat) : ∀ c : Code, zT (qZ E L) 106 c → ∀ x ∈ c.exceptionTable.toList, False := fun c h x hx => absurd ((show c.exceptionTable.toList = [] from h) ▸ hx) List.not_mem_nil
theorem qo_X10_hashed (E : qe_E) (L : Nat) : ∀ c : Code, zT (qZ E L) 107 c → ∀ x ∈ c.exceptionTable.toList, False := fun c h x hx => absurd ((show c.exceptionTable.toList = [] from h) ▸ hx) List.not_mem_nil
theorem qo_X10_canRun (E : qe_E) (L : Nat) : ∀ c : Code, zT (qZ E L) 108 c → ∀ x ∈ c.exceptionTable.toList, False := fun c h x hx => absurd ((show c.exceptionTable.toList = [] from h) ▸ hx) List.not_mem_nil
theorem qo_X10_refusal (E : qe_E) (L : Nat) : ∀ c : Code, zT (qZ E L) 109 c → ∀ x ∈ c.exceptionTable.toList, False := fun c h x hx => absurd ((show c.exceptionTable.toList = [] from h) ▸ hx) List.not_mem_nil
theorem qo_X10_run (E : qe_E) (L : Nat) : ∀ c : Code, zT (qZ E L) 110 c → ∀ x ∈ c.exceptionTable.toList, False := fun c h x hx => absurd ((show c.exceptionTable.toList = [] from h) ▸ hx) List.not_mem_nil
theorem qo_X10_find (E : qe_E) (L : Nat) : ∀ c : Code, zT (qZ E L) 111 c → ∀ x ∈ c.exceptionTable.toList, False := fun c h x hx => absurd ((show c.exceptionTable.toList = [] from h) ▸ hx) List.not_mem_nil
theorem qo_X10_branch (E : qe_E) (L : Nat) : ∀ c : Code, zT (qZ E L) 112 c → ∀ x ∈ c.exceptionTable.toList, False := fun c h x hx => absurd ((show c.exceptionTable.toList = [] from h) ▸ hx) List.not_mem_nil
theorem qo_X10_examined (E : qe_E) (L : Nat) : ∀ c : Code, zT (qZ E L) 113 c → ∀ x ∈ c.exceptionTable.toList, False := fun c h x hx => absurd ((show c.exceptionTable.toList = [] from h) ▸ hx) List.not_mem_nil
theorem qo_X10_costOf (E : qe_E) (L : Nat) : ∀ c : Code, zT (qZ E L) 114 c → ∀ x ∈ c.exceptionTable.toList, False := fun c h x hx => absurd ((show c.exceptionTable.toList = [] from h) ▸ hx) List.not_mem_nil
theorem qo_X10_cost (E : qe_E) (L : Nat) : ∀ c : Code, zT (qZ E L) 115 c → ∀ x ∈ c.exceptionTable.toList, False := fun c h x hx => absurd ((show c.exceptionTable.toList = [] from h) ▸ hx) List.not_mem_nil
theorem qo_X10_worst (E : qe_E) (L : Nat) : ∀ c : Code, zT (qZ E L) 116 c → ∀ x ∈ c.exceptionTable.toList, False := fun c h x hx => absurd ((show c.exceptionTable.toList = [] from h) ▸ hx) List.not_mem_nil
theorem qo_X10_meanBits (E : qe_E) (L : Nat) : ∀ c : Code, zT (qZ E L) 117 c → ∀ x ∈ c.exceptionTable.toList, False := fun c h x hx => absurd ((show c.exceptionTable.toList = [] from h) ▸ hx) List.not_mem_nil
theorem qo_X10_best (E : qe_E) (L : Nat) : ∀ c : Code, zT (qZ E L) 118 c → ∀ x ∈ c.exceptionTable.toList, False := fun c h x hx => absurd ((show c.exceptionTable.toList = [] from h) ▸ hx) List.not_mem_nil
theorem qo_X10_selected (E : qe_E) (L : Nat) : ∀ c : Code, zT (qZ E L) 119 c → ∀ x ∈ c.exceptionTable.toList, False := fun c h x hx => absurd ((show c.exceptionTable.toList = [] from h) ▸ hx) List.not_mem_nil
theorem qo_X10_hash (E : qe_E) (L : Nat) : ∀ c : Code, zT (qZ E L) 120 c → ∀ x ∈ c.exceptionTable.toList, False := fun c h x hx => absurd ((show c.exceptionTable.toList = [] from h) ▸ hx) List.not_mem_nil
theorem qo_X10_hasTable (E : qe_E) (L : Nat) : ∀ c : Code, zT (qZ E L) 121 c → ∀ x ∈ c.exceptionTable.toList, False := fun c h x hx => absurd ((show c.exceptionTable.toList = [] from h) ▸ hx) List.not_mem_nil
theorem qo_X10_table (E : qe_E) (L : Nat) : ∀ c : Code, zT (qZ E L) 123 c → ∀ x ∈ c.exceptionTable.toList, False := fun c h x hx => absurd ((show c.exceptionTable.toList = [] from h) ▸ hx) List.not_mem_nil
theorem qo_X10_slot (E : qe_E) (L : Nat) : ∀ c : Code, zT (qZ E L) 124 c → ∀ x ∈ c.exceptionTable.toList, False := fun c h x hx => absurd ((show c.exceptionTable.toList = [] from h) ▸ hx) List.not_mem_nil
theorem qo_X10_displacement (E : qe_E) (L : Nat) : ∀ c : Code, zT (qZ E L) 125 c → ∀ x ∈ c.exceptionTable.toList, False := fun c h x hx => absurd ((show c.exceptionTable.toList = [] from h) ▸ hx) List.not_mem_nil
theorem qo_X10_densityBits (E : qe_E) (L : Nat) : ∀ c : Code, zT (qZ E L) 126 c → ∀ x ∈ c.exceptionTable.toList, False := fun c h x hx => absurd ((show c.exceptionTable.toList = [] from h) ▸ hx) List.not_mem_nil
theorem qo_X10_putTrees (E : qe_E) (L : Nat) : ∀ c : Code, zT (qZ E L) 132 c → ∀ x ∈ c.exceptionTable.toList, False := fun c h x hx => absurd ((show c.exceptionTable.toList = [] from h) ▸ hx) List.not_mem_nil
theorem qo_X10_list (E : qe_E) (L : Nat) : ∀ c : Code, zT (qZ E L) 134 c → ∀ x ∈ c.exceptionTable.toList, False := fun c h x hx => absurd ((show c.exceptionTable.toList = [] from h) ▸ hx) List.not_mem_nil
theorem qo_X10_listing (E : qe_E) (L : Nat) : ∀ c : Code, zT (qZ E L) 135 c → ∀ x ∈ c.exceptionTable.toList, False := fun c h x hx => absurd ((show c.exceptionTable.toList = [] from h) ▸ hx) List.not_mem_nil
theorem qo_X10_save (E : qe_E) (L : Nat) : ∀ c : Code, zT (qZ E L) 136 c → ∀ x ∈ c.exceptionTable.toList, False := fun c h x hx => absurd ((show c.exceptionTable.toList = [] from h) ▸ hx) List.not_mem_nil
theorem qo_X10_restore (E : qe_E) (L : Nat) : ∀ c : Code, zT (qZ E L) 137 c → ∀ x ∈ c.exceptionTable.toList, False := fun c h x hx => absurd ((show c.exceptionTable.toList = [] from h) ▸ hx) List.not_mem_nil
theorem qo_X0_init (E : qe_E) (L : Nat) : ∀ c : Code, zT (qZ E L) 138 c → ∀ x ∈ c.exceptionTable.toList, False := fun c h x hx => absurd ((show c.exceptionTable.toList = [] from h) ▸ hx) List.not_mem_nil
theorem qo_X0_read (E : qe_E) (L : Nat) : ∀ c : Code, zT (qZ E L) 139 c → ∀ x ∈ c.exceptionTable.toList, False := fun c h x hx => absurd ((show c.exceptionTable.toList = [] from h) ▸ hx) List.not_mem_nil
theorem qo_X0_readCommand (E : qe_E) (L : Nat) : ∀ c : Code, zT (qZ E L) 140 c → ∀ x ∈ c.exceptionTable.toList, False := fun c h x hx => absurd ((show c.exceptionTable.toList = [] from h) ▸ hx) List.not_mem_nil
theorem qo_X0_readWord (E : qe_E) (L : Nat) : ∀ c : Code, zT (qZ E L) 142 c → ∀ x ∈ c.exceptionTable.toList, False := fun c h x hx => absurd ((show c.exceptionTable.toList = [] from h) ▸ hx) List.not_mem_nil
theorem qo_X0_isWord (E : qe_E) (L : Nat) : ∀ c : Code, zT (qZ E L) 143 c → ∀ x ∈ c.exceptionTable.toList, False := fun c h x hx => absurd ((show c.exceptionTable.toList = [] from h) ▸ hx) List.not_mem_nil
theorem qo_X1_init (E : qe_E) (L : Nat) : ∀ c : Code, zT (qZ E L) 152 c → ∀ x ∈ c.exceptionTable.toList, False := fun c h x hx => absurd ((show c.exceptionTable.toList = [] from h) ▸ hx) List.not_mem_nil
theorem qo_X1_grow (E : qe_E) (L : Nat) : ∀ c : Code, zT (qZ E L) 153 c → ∀ x ∈ c.exceptionTable.toList, False := fun c h x hx => absurd ((show c.exceptionTable.toList = [] from h) ▸ hx) List.not_mem_nil
theorem qo_X1_rootWith (E : qe_E) (L : Nat) : ∀ c : Code, zT (qZ E L) 157 c → ∀ x ∈ c.exceptionTable.toList, False := fun c h x hx => absurd ((show c.exceptionTable.toList = [] from h) ▸ hx) List.not_mem_nil
theorem qo_X1_treeWith (E : qe_E) (L : Nat) : ∀ c : Code, zT (qZ E L) 158 c → ∀ x ∈ c.exceptionTable.toList, False := fun c h x hx => absurd ((show c.exceptionTable.toList = [] from h) ▸ hx) List.not_mem_nil
theorem qo_X1_plantRoots (E : qe_E) (L : Nat) : ∀ c : Code, zT (qZ E L) 160 c → ∀ x ∈ c.exceptionTable.toList, False := fun c h x hx => absurd ((show c.exceptionTable.toList = [] from h) ▸ hx) List.not_mem_nil
theorem qo_X2_init (E : qe_E) (L : Nat) : ∀ c : Code, zT (qZ E L) 165 c → ∀ x ∈ c.exceptionTable.toList, False := fun c h x hx => absurd ((show c.exceptionTable.toList = [] from h) ▸ hx) List.not_mem_nil
theorem qo_X2_has (E : qe_E) (L : Nat) : ∀ c : Code, zT (qZ E L) 166 c → ∀ x ∈ c.exceptionTable.toList, False := fun c h x hx => absurd ((show c.exceptionTable.toList = [] from h) ▸ hx) List.not_mem_nil
theorem qo_X2_changeLoad (E : qe_E) (L : Nat) : ∀ c : Code, zT (qZ E L) 173 c → ∀ x ∈ c.exceptionTable.toList, False := fun c h x hx => absurd ((show c.exceptionTable.toList = [] from h) ▸ hx) List.not_mem_nil
theorem qo_X2_takeOver (E : qe_E) (L : Nat) : ∀ c : Code, zT (qZ E L) 174 c → ∀ x ∈ c.exceptionTable.toList, False := fun c h x hx => absurd ((show c.exceptionTable.toList = [] from h) ▸ hx) List.not_mem_nil
theorem qo_X2_totalWeight (E : qe_E) (L : Nat) : ∀ c : Code, zT (qZ E L) 180 c → ∀ x ∈ c.exceptionTable.toList, False := fun c h x hx => absurd ((show c.exceptionTable.toList = [] from h) ▸ hx) List.not_mem_nil
theorem qo_X3_init (E : qe_E) (L : Nat) : ∀ c : Code, zT (qZ E L) 182 c → ∀ x ∈ c.exceptionTable.toList, False := fun c h x hx => absurd ((show c.exceptionTable.toList = [] from h) ▸ hx) List.not_mem_nil
theorem qo_X3_list (E : qe_E) (L : Nat) : ∀ c : Code, zT (qZ E L) 183 c → ∀ x ∈ c.exceptionTable.toList, False := fun c h x hx => absurd ((show c.exceptionTable.toList = [] from h) ▸ hx) List.not_mem_nil
theorem qo_X3_listKeys (E : qe_E) (L : Nat) : ∀ c : Code, zT (qZ E L) 186 c → ∀ x ∈ c.exceptionTable.toList, False := fun c h x hx => absurd ((show c.exceptionTable.toList = [] from h) ▸ hx) List.not_mem_nil
theorem qo_X3_listForest (E : qe_E) (L : Nat) : ∀ c : Code, zT (qZ E L) 187 c → ∀ x ∈ c.exceptionTable.toList, False := fun c h x hx => absurd ((show c.exceptionTable.toList = [] from h) ▸ hx) List.not_mem_nil
theorem qo_X4_init (E : qe_E) (L : Nat) : ∀ c : Code, zT (qZ E L) 190 c → ∀ x ∈ c.exceptionTable.toList, False := fun c h x hx => absurd ((show c.exceptionTable.toList = [] from h) ▸ hx) List.not_mem_nil
theorem qo_X4_sort (E : qe_E) (L : Nat) : ∀ c : Code, zT (qZ E L) 191 c → ∀ x ∈ c.exceptionTable.toList, False := fun c h x hx => absurd ((show c.exceptionTable.toList = [] from h) ▸ hx) List.not_mem_nil
theorem qo_X5_init (E : qe_E) (L : Nat) : ∀ c : Code, zT (qZ E L) 192 c → ∀ x ∈ c.exceptionTable.toList, False := fun c h x hx => absurd ((show c.exceptionTable.toList = [] from h) ▸ hx) List.not_mem_nil
theorem qo_X5_run (E : qe_E) (L : Nat) : ∀ c : Code, zT (qZ E L) 193 c → ∀ x ∈ c.exceptionTable.toList, False := fun c h x hx => absurd ((show c.exceptionTable.toList = [] from h) ▸ hx) List.not_mem_nil
theorem qo_X5_measure (E : qe_E) (L : Nat) : ∀ c : Code, zT (qZ E L) 194 c → ∀ x ∈ c.exceptionTable.toList, False := fun c h x hx => absurd ((show c.exceptionTable.toList = [] from h) ▸ hx) List.not_mem_nil
theorem qo_X5_runLinear (E : qe_E) (L : Nat) : ∀ c : Code, zT (qZ E L) 197 c → ∀ x ∈ c.exceptionTable.toList, False := fun c h x hx => absurd ((show c.exceptionTable.toList = [] from h) ▸ hx) List.not_mem_nil
theorem qo_X5_runBinary (E : qe_E) (L : Nat) : ∀ c : Code, zT (qZ E L) 198 c → ∀ x ∈ c.exceptionTable.toList, False := fun c h x hx => absurd ((show c.exceptionTable.toList = [] from h) ▸ hx) List.not_mem_nil
theorem qo_X5_runTrees (E : qe_E) (L : Nat) : ∀ c : Code, zT (qZ E L) 199 c → ∀ x ∈ c.exceptionTable.toList, False := fun c h x hx => absurd ((show c.exceptionTable.toList = [] from h) ▸ hx) List.not_mem_nil
theorem qo_X5_runTable (E : qe_E) (L : Nat) : ∀ c : Code, zT (qZ E L) 201 c → ∀ x ∈ c.exceptionTable.toList, False := fun c h x hx => absurd ((show c.exceptionTable.toList = [] from h) ▸ hx) List.not_mem_nil
theorem qo_X6_init (E : qe_E) (L : Nat) : ∀ c : Code, zT (qZ E L) 202 c → ∀ x ∈ c.exceptionTable.toList, False := fun c h x hx => absurd ((show c.exceptionTable.toList = [] from h) ▸ hx) List.not_mem_nil
theorem qo_X6_choose (E : qe_E) (L : Nat) : ∀ c : Code, zT (qZ E L) 203 c → ∀ x ∈ c.exceptionTable.toList, False := fun c h x hx => absurd ((show c.exceptionTable.toList = [] from h) ▸ hx) List.not_mem_nil
theorem qo_X6_turned (E : qe_E) (L : Nat) : ∀ c : Code, zT (qZ E L) 204 c → ∀ x ∈ c.exceptionTable.toList, False := fun c h x hx => absurd ((show c.exceptionTable.toList = [] from h) ▸ hx) List.not_mem_nil
theorem qo_X6_collectPairs (E : qe_E) (L : Nat) : ∀ c : Code, zT (qZ E L) 205 c → ∀ x ∈ c.exceptionTable.toList, False := fun c h x hx => absurd ((show c.exceptionTable.toList = [] from h) ▸ hx) List.not_mem_nil
theorem qo_X6_separates (E : qe_E) (L : Nat) : ∀ c : Code, zT (qZ E L) 206 c → ∀ x ∈ c.exceptionTable.toList, False := fun c h x hx => absurd ((show c.exceptionTable.toList = [] from h) ▸ hx) List.not_mem_nil
theorem qo_X6_hashOf (E : qe_E) (L : Nat) : ∀ c : Code, zT (qZ E L) 207 c → ∀ x ∈ c.exceptionTable.toList, False := fun c h x hx => absurd ((show c.exceptionTable.toList = [] from h) ▸ hx) List.not_mem_nil
theorem qo_X7_init (E : qe_E) (L : Nat) : ∀ c : Code, zT (qZ E L) 208 c → ∀ x ∈ c.exceptionTable.toList, False := fun c h x hx => absurd ((show c.exceptionTable.toList = [] from h) ▸ hx) List.not_mem_nil
theorem qo_X7_build (E : qe_E) (L : Nat) : ∀ c : Code, zT (qZ E L) 209 c → ∀ x ∈ c.exceptionTable.toList, False := fun c h x hx => absurd ((show c.exceptionTable.toList = [] from h) ▸ hx) List.not_mem_nil
theorem qo_X8_init (E : qe_E) (L : Nat) : ∀ c : Code, zT (qZ E L) 218 c → ∀ x ∈ c.exceptionTable.toList, False := fun c h x hx => absurd ((show c.exceptionTable.toList = [] from h) ▸ hx) List.not_mem_nil
theorem qo_X8_empty (E : qe_E) (L : Nat) : ∀ c : Code, zT (qZ E L) 219 c → ∀ x ∈ c.exceptionTable.toList, False := fun c h x hx => absurd ((show c.exceptionTable.toList = [] from h) ▸ hx) List.not_mem_nil
theorem qo_X8_write (E : qe_E) (L : Nat) : ∀ c : Code, zT (qZ E L) 221 c → ∀ x ∈ c.exceptionTable.toList, False := fun c h x hx => absurd ((show c.exceptionTable.toList = [] from h) ▸ hx) List.not_mem_nil
theorem qo_X8_isKey (E : qe_E) (L : Nat) : ∀ c : Code, zT (qZ E L) 224 c → ∀ x ∈ c.exceptionTable.toList, False := fun c h x hx => absurd ((show c.exceptionTable.toList = [] from h) ▸ hx) List.not_mem_nil
theorem qo_J6_bitCount_0f7a4 (E : qe_E) (L : Nat) : ∀ c : Code, zT (qZ E L) 250 c → ∀ x ∈ c.exceptionTable.toList, False := fun c h x hx => absurd ((show c.exceptionTable.toList = [] from h) ▸ hx) List.not_mem_nil
end QEY
end
