section
-- ===== PART A: goes FIRST, ahead of the names: the tables' words, and 'selects' of the private methods out of them =====
/-- a private method of a class that the tables say can be made, by its rows of tables_1 -/
def lw_okq (q : MethodName × Nat) : Prop := (q.1.cls ≠ "java/lang/invoke/MethodHandle" ∧ q.1.cls ≠ "java/lang/invoke/VarHandle") ∧ Cond.instantiable q.1.cls q.2 ∈ tables_1 ∧ Cond.privateMethod q.1 ∈ tables_1 ∧ Cond.instanceMethod q.1 ∈ tables_1
theorem lw_p0 : lw_okq (⟨"BodyAccounts$Reader", "skipBlanks", "()V"⟩, 5) := ⟨⟨by decide +kernel, by decide +kernel⟩, List.mem_of_getElem? (i := 20) (by decide +kernel), List.mem_of_getElem? (i := 250) (by decide +kernel), List.mem_of_getElem? (i := 251) (by decide +kernel)⟩
theorem lw_p1 : lw_okq (⟨"BodyAccounts$Reader", "letter", "()I"⟩, 5) := ⟨⟨by decide +kernel, by decide +kernel⟩, List.mem_of_getElem? (i := 20) (by decide +kernel), List.mem_of_getElem? (i := 254) (by decide +kernel), List.mem_of_getElem? (i := 255) (by decide +kernel)⟩
theorem lw_p2 : lw_okq (⟨"BodyAccounts$Reader", "readClause", "(LBodyAccounts$Branch;)V"⟩, 5) := ⟨⟨by decide +kernel, by decide +kernel⟩, List.mem_of_getElem? (i := 20) (by decide +kernel), List.mem_of_getElem? (i := 258) (by decide +kernel), List.mem_of_getElem? (i := 259) (by decide +kernel)⟩
theorem lw_p3 : lw_okq (⟨"BodyAccounts$Reader", "readParts", "(LBodyAccounts$Branch;)V"⟩, 5) := ⟨⟨by decide +kernel, by decide +kernel⟩, List.mem_of_getElem? (i := 20) (by decide +kernel), List.mem_of_getElem? (i := 266) (by decide +kernel), List.mem_of_getElem? (i := 267) (by decide +kernel)⟩
theorem lw_p4 : lw_okq (⟨"BodyAccounts$Reader", "readNumber", "(I)I"⟩, 5) := ⟨⟨by decide +kernel, by decide +kernel⟩, List.mem_of_getElem? (i := 20) (by decide +kernel), List.mem_of_getElem? (i := 270) (by decide +kernel), List.mem_of_getElem? (i := 271) (by decide +kernel)⟩
theorem lw_p5 : lw_okq (⟨"BodyAccounts$Reader", "fail", "(II)V"⟩, 5) := ⟨⟨by decide +kernel, by decide +kernel⟩, List.mem_of_getElem? (i := 20) (by decide +kernel), List.mem_of_getElem? (i := 277) (by decide +kernel), List.mem_of_getElem? (i := 278) (by decide +kernel)⟩
theorem lw_p6 : lw_okq (⟨"BodyAccounts$Reader", "readWord", "(I)V"⟩, 5) := ⟨⟨by decide +kernel, by decide +kernel⟩, List.mem_of_getElem? (i := 20) (by decide +kernel), List.mem_of_getElem? (i := 285) (by decide +kernel), List.mem_of_getElem? (i := 286) (by decide +kernel)⟩
theorem lw_p7 : lw_okq (⟨"BodyAccounts$Reader", "readCustomer", "(LBodyAccounts$Branch;)V"⟩, 5) := ⟨⟨by decide +kernel, by decide +kernel⟩, List.mem_of_getElem? (i := 20) (by decide +kernel), List.mem_of_getElem? (i := 289) (by decide +kernel), List.mem_of_getElem? (i := 290) (by decide +kernel)⟩
theorem lw_p8 : lw_okq (⟨"BodyAccounts", "hats", "()I"⟩, 12) := ⟨⟨by decide +kernel, by decide +kernel⟩, List.mem_of_getElem? (i := 12) (by decide +kernel), List.mem_of_getElem? (i := 325) (by decide +kernel), List.mem_of_getElem? (i := 326) (by decide +kernel)⟩
theorem lw_p9 : lw_okq (⟨"BodyAccounts", "wholes", "(Z)I"⟩, 12) := ⟨⟨by decide +kernel, by decide +kernel⟩, List.mem_of_getElem? (i := 12) (by decide +kernel), List.mem_of_getElem? (i := 333) (by decide +kernel), List.mem_of_getElem? (i := 334) (by decide +kernel)⟩
theorem lw_p10 : lw_okq (⟨"BodyAccounts", "cleared", "()I"⟩, 12) := ⟨⟨by decide +kernel, by decide +kernel⟩, List.mem_of_getElem? (i := 12) (by decide +kernel), List.mem_of_getElem? (i := 355) (by decide +kernel), List.mem_of_getElem? (i := 356) (by decide +kernel)⟩
theorem lw_p11 : lw_okq (⟨"BodyAccounts", "areTwo", "(II)Z"⟩, 12) := ⟨⟨by decide +kernel, by decide +kernel⟩, List.mem_of_getElem? (i := 12) (by decide +kernel), List.mem_of_getElem? (i := 382) (by decide +kernel), List.mem_of_getElem? (i := 383) (by decide +kernel)⟩
theorem lw_p12 : lw_okq (⟨"BodyAccounts", "wager", "()V"⟩, 12) := ⟨⟨by decide +kernel, by decide +kernel⟩, List.mem_of_getElem? (i := 12) (by decide +kernel), List.mem_of_getElem? (i := 458) (by decide +kernel), List.mem_of_getElem? (i := 459) (by decide +kernel)⟩
theorem lw_p13 : lw_okq (⟨"BodyAccounts", "draw", "(I)I"⟩, 12) := ⟨⟨by decide +kernel, by decide +kernel⟩, List.mem_of_getElem? (i := 12) (by decide +kernel), List.mem_of_getElem? (i := 462) (by decide +kernel), List.mem_of_getElem? (i := 463) (by decide +kernel)⟩
theorem lw_p14 : lw_okq (⟨"BodyAccounts$Planner", "give", "(III)V"⟩, 1) := ⟨⟨by decide +kernel, by decide +kernel⟩, List.mem_of_getElem? (i := 135) (by decide +kernel), List.mem_of_getElem? (i := 516) (by decide +kernel), List.mem_of_getElem? (i := 517) (by decide +kernel)⟩
theorem lw_p15 : lw_okq (⟨"BodyAccounts$Planner", "works", "(LBodyAccounts$Branch;LBodyAccounts$Slate;III)Z"⟩, 1) := ⟨⟨by decide +kernel, by decide +kernel⟩, List.mem_of_getElem? (i := 135) (by decide +kernel), List.mem_of_getElem? (i := 520) (by decide +kernel), List.mem_of_getElem? (i := 521) (by decide +kernel)⟩
def lw_privs_1 : List (MethodName × Nat) := [(⟨"BodyAccounts$Reader", "skipBlanks", "()V"⟩, 5), (⟨"BodyAccounts$Reader", "letter", "()I"⟩, 5), (⟨"BodyAccounts$Reader", "readClause", "(LBodyAccounts$Branch;)V"⟩, 5), (⟨"BodyAccounts$Reader", "readParts", "(LBodyAccounts$Branch;)V"⟩, 5), (⟨"BodyAccounts$Reader", "readNumber", "(I)I"⟩, 5), (⟨"BodyAccounts$Reader", "fail", "(II)V"⟩, 5), (⟨"BodyAccounts$Reader", "readWord", "(I)V"⟩, 5), (⟨"BodyAccounts$Reader", "readCustomer", "(LBodyAccounts$Branch;)V"⟩, 5), (⟨"BodyAccounts", "hats", "()I"⟩, 12), (⟨"BodyAccounts", "wholes", "(Z)I"⟩, 12), (⟨"BodyAccounts", "cleared", "()I"⟩, 12), (⟨"BodyAccounts", "areTwo", "(II)Z"⟩, 12), (⟨"BodyAccounts", "wager", "()V"⟩, 12), (⟨"BodyAccounts", "draw", "(I)I"⟩, 12), (⟨"BodyAccounts$Planner", "give", "(III)V"⟩, 1), (⟨"BodyAccounts$Planner", "works", "(LBodyAccounts$Branch;LBodyAccounts$Slate;III)Z"⟩, 1)]
theorem lw_r1 : ∀ q ∈ lw_privs_1, lw_okq q := List.forall_mem_cons.mpr ⟨lw_p0, List.forall_mem_cons.mpr ⟨lw_p1, List.forall_mem_cons.mpr ⟨lw_p2, List.forall_mem_cons.mpr ⟨lw_p3, List.forall_mem_cons.mpr ⟨lw_p4, List.forall_mem_cons.mpr ⟨lw_p5, List.forall_mem_cons.mpr ⟨lw_p6, List.forall_mem_cons.mpr ⟨lw_p7, List.forall_mem_cons.mpr ⟨lw_p8, List.forall_mem_cons.mpr ⟨lw_p9, List.forall_mem_cons.mpr ⟨lw_p10, List.forall_mem_cons.mpr ⟨lw_p11, List.forall_mem_cons.mpr ⟨lw_p12, List.forall_mem_cons.mpr ⟨lw_p13, List.forall_mem_cons.mpr ⟨lw_p14, List.forall_mem_cons.mpr ⟨lw_p15, fun _ h => absurd h List.not_mem_nil⟩⟩⟩⟩⟩⟩⟩⟩⟩⟩⟩⟩⟩⟩⟩⟩
theorem lw_p16 : lw_okq (⟨"BodyAccounts$Planner", "sumGivenTo", "(ILBodyAccounts$Slate;)I"⟩, 1) := ⟨⟨by decide +kernel, by decide +kernel⟩, List.mem_of_getElem? (i := 135) (by decide +kernel), List.mem_of_getElem? (i := 525) (by decide +kernel), List.mem_of_getElem? (i := 526) (by decide +kernel)⟩
theorem lw_p17 : lw_okq (⟨"BodyAccounts", "isDoableOnlyAsOne", "(III)Z"⟩, 12) := ⟨⟨by decide +kernel, by decide +kernel⟩, List.mem_of_getElem? (i := 12) (by decide +kernel), List.mem_of_getElem? (i := 538) (by decide +kernel), List.mem_of_getElem? (i := 539) (by decide +kernel)⟩
theorem lw_p18 : lw_okq (⟨"BodyAccountsModel", "here", "()I"⟩, 35) := ⟨⟨by decide +kernel, by decide +kernel⟩, List.mem_of_getElem? (i := 619) (by decide +kernel), List.mem_of_getElem? (i := 745) (by decide +kernel), List.mem_of_getElem? (i := 746) (by decide +kernel)⟩
theorem lw_p19 : lw_okq (⟨"BodyAccountsModel", "letterAt", "(I)I"⟩, 35) := ⟨⟨by decide +kernel, by decide +kernel⟩, List.mem_of_getElem? (i := 619) (by decide +kernel), List.mem_of_getElem? (i := 749) (by decide +kernel), List.mem_of_getElem? (i := 750) (by decide +kernel)⟩
theorem lw_p20 : lw_okq (⟨"BodyAccountsModel", "takesClause", "()Z"⟩, 35) := ⟨⟨by decide +kernel, by decide +kernel⟩, List.mem_of_getElem? (i := 619) (by decide +kernel), List.mem_of_getElem? (i := 753) (by decide +kernel), List.mem_of_getElem? (i := 754) (by decide +kernel)⟩
theorem lw_p21 : lw_okq (⟨"BodyAccountsModel", "fails", "(II)Z"⟩, 35) := ⟨⟨by decide +kernel, by decide +kernel⟩, List.mem_of_getElem? (i := 619) (by decide +kernel), List.mem_of_getElem? (i := 757) (by decide +kernel), List.mem_of_getElem? (i := 758) (by decide +kernel)⟩
theorem lw_p22 : lw_okq (⟨"BodyAccountsModel", "takesBranch", "()Z"⟩, 35) := ⟨⟨by decide +kernel, by decide +kernel⟩, List.mem_of_getElem? (i := 619) (by decide +kernel), List.mem_of_getElem? (i := 761) (by decide +kernel), List.mem_of_getElem? (i := 762) (by decide +kernel)⟩
theorem lw_p23 : lw_okq (⟨"BodyAccountsModel", "takesNumber", "(II)Z"⟩, 35) := ⟨⟨by decide +kernel, by decide +kernel⟩, List.mem_of_getElem? (i := 619) (by decide +kernel), List.mem_of_getElem? (i := 765) (by decide +kernel), List.mem_of_getElem? (i := 766) (by decide +kernel)⟩
theorem lw_p24 : lw_okq (⟨"BodyAccountsModel", "takesCustomer", "()Z"⟩, 35) := ⟨⟨by decide +kernel, by decide +kernel⟩, List.mem_of_getElem? (i := 619) (by decide +kernel), List.mem_of_getElem? (i := 771) (by decide +kernel), List.mem_of_getElem? (i := 772) (by decide +kernel)⟩
theorem lw_p25 : lw_okq (⟨"BodyAccountsModel", "takesTask", "()Z"⟩, 35) := ⟨⟨by decide +kernel, by decide +kernel⟩, List.mem_of_getElem? (i := 619) (by decide +kernel), List.mem_of_getElem? (i := 775) (by decide +kernel), List.mem_of_getElem? (i := 776) (by decide +kernel)⟩
theorem lw_p26 : lw_okq (⟨"BodyAccountsModel", "takes", "(I)Z"⟩, 35) := ⟨⟨by decide +kernel, by decide +kernel⟩, List.mem_of_getElem? (i := 619) (by decide +kernel), List.mem_of_getElem? (i := 779) (by decide +kernel), List.mem_of_getElem? (i := 780) (by decide +kernel)⟩
theorem lw_p27 : lw_okq (⟨"BodyAccountsModel", "hats", "()I"⟩, 35) := ⟨⟨by decide +kernel, by decide +kernel⟩, List.mem_of_getElem? (i := 619) (by decide +kernel), List.mem_of_getElem? (i := 791) (by decide +kernel), List.mem_of_getElem? (i := 792) (by decide +kernel)⟩
theorem lw_p28 : lw_okq (⟨"BodyAccountsModel", "thereOf", "(I)I"⟩, 35) := ⟨⟨by decide +kernel, by decide +kernel⟩, List.mem_of_getElem? (i := 619) (by decide +kernel), List.mem_of_getElem? (i := 795) (by decide +kernel), List.mem_of_getElem? (i := 796) (by decide +kernel)⟩
theorem lw_p29 : lw_okq (⟨"BodyAccountsModel", "thereBy", "(I)I"⟩, 35) := ⟨⟨by decide +kernel, by decide +kernel⟩, List.mem_of_getElem? (i := 619) (by decide +kernel), List.mem_of_getElem? (i := 799) (by decide +kernel), List.mem_of_getElem? (i := 800) (by decide +kernel)⟩
theorem lw_p30 : lw_okq (⟨"BodyAccountsModel", "wholes", "(Z)I"⟩, 35) := ⟨⟨by decide +kernel, by decide +kernel⟩, List.mem_of_getElem? (i := 619) (by decide +kernel), List.mem_of_getElem? (i := 803) (by decide +kernel), List.mem_of_getElem? (i := 804) (by decide +kernel)⟩
theorem lw_p31 : lw_okq (⟨"BodyAccountsModel", "net", "(I)I"⟩, 35) := ⟨⟨by decide +kernel, by decide +kernel⟩, List.mem_of_getElem? (i := 619) (by decide +kernel), List.mem_of_getElem? (i := 807) (by decide +kernel), List.mem_of_getElem? (i := 808) (by decide +kernel)⟩
def lw_privs_2 : List (MethodName × Nat) := [(⟨"BodyAccounts$Planner", "sumGivenTo", "(ILBodyAccounts$Slate;)I"⟩, 1), (⟨"BodyAccounts", "isDoableOnlyAsOne", "(III)Z"⟩, 12), (⟨"BodyAccountsModel", "here", "()I"⟩, 35), (⟨"BodyAccountsModel", "letterAt", "(I)I"⟩, 35), (⟨"BodyAccountsModel", "takesClause", "()Z"⟩, 35), (⟨"BodyAccountsModel", "fails", "(II)Z"⟩, 35), (⟨"BodyAccountsModel", "takesBranch", "()Z"⟩, 35), (⟨"BodyAccountsModel", "takesNumber", "(II)Z"⟩, 35), (⟨"BodyAccountsModel", "takesCustomer", "()Z"⟩, 35), (⟨"BodyAccountsModel", "takesTask", "()Z"⟩, 35), (⟨"BodyAccountsModel", "takes", "(I)Z"⟩, 35), (⟨"BodyAccountsModel", "hats", "()I"⟩, 35), (⟨"BodyAccountsModel", "thereOf", "(I)I"⟩, 35), (⟨"BodyAccountsModel", "thereBy", "(I)I"⟩, 35), (⟨"BodyAccountsModel", "wholes", "(Z)I"⟩, 35), (⟨"BodyAccountsModel", "net", "(I)I"⟩, 35)]
theorem lw_r2 : ∀ q ∈ lw_privs_2, lw_okq q := List.forall_mem_cons.mpr ⟨lw_p16, List.forall_mem_cons.mpr ⟨lw_p17, List.forall_mem_cons.mpr ⟨lw_p18, List.forall_mem_cons.mpr ⟨lw_p19, List.forall_mem_cons.mpr ⟨lw_p20, List.forall_mem_cons.mpr ⟨lw_p21, List.forall_mem_cons.mpr ⟨lw_p22, List.forall_mem_cons.mpr ⟨lw_p23, List.forall_mem_cons.mpr ⟨lw_p24, List.forall_mem_cons.mpr ⟨lw_p25, List.forall_mem_cons.mpr ⟨lw_p26, List.forall_mem_cons.mpr ⟨lw_p27, List.forall_mem_cons.mpr ⟨lw_p28, List.forall_mem_cons.mpr ⟨lw_p29, List.forall_mem_cons.mpr ⟨lw_p30, List.forall_mem_cons.mpr ⟨lw_p31, fun _ h => absurd h List.not_mem_nil⟩⟩⟩⟩⟩⟩⟩⟩⟩⟩⟩⟩⟩⟩⟩⟩
theorem lw_p32 : lw_okq (⟨"BodyAccountsModel", "whole", "()I"⟩, 35) := ⟨⟨by decide +kernel, by decide +kernel⟩, List.mem_of_getElem? (i := 619) (by decide +kernel), List.mem_of_getElem? (i := 811) (by decide +kernel), List.mem_of_getElem? (i := 812) (by decide +kernel)⟩
theorem lw_p33 : lw_okq (⟨"BodyAccountsModel", "cleared", "()I"⟩, 35) := ⟨⟨by decide +kernel, by decide +kernel⟩, List.mem_of_getElem? (i := 619) (by decide +kernel), List.mem_of_getElem? (i := 815) (by decide +kernel), List.mem_of_getElem? (i := 816) (by decide +kernel)⟩
theorem lw_p34 : lw_okq (⟨"BodyAccountsModel", "isPart", "(I)Z"⟩, 35) := ⟨⟨by decide +kernel, by decide +kernel⟩, List.mem_of_getElem? (i := 619) (by decide +kernel), List.mem_of_getElem? (i := 823) (by decide +kernel), List.mem_of_getElem? (i := 824) (by decide +kernel)⟩
theorem lw_p35 : lw_okq (⟨"BodyAccountsModel", "isCustomer", "(I)Z"⟩, 35) := ⟨⟨by decide +kernel, by decide +kernel⟩, List.mem_of_getElem? (i := 619) (by decide +kernel), List.mem_of_getElem? (i := 832) (by decide +kernel), List.mem_of_getElem? (i := 833) (by decide +kernel)⟩
theorem lw_p36 : lw_okq (⟨"BodyAccountsModel", "areTwo", "(II)Z"⟩, 35) := ⟨⟨by decide +kernel, by decide +kernel⟩, List.mem_of_getElem? (i := 619) (by decide +kernel), List.mem_of_getElem? (i := 841) (by decide +kernel), List.mem_of_getElem? (i := 842) (by decide +kernel)⟩
theorem lw_p37 : lw_okq (⟨"BodyAccountsModel", "isTask", "(I)Z"⟩, 35) := ⟨⟨by decide +kernel, by decide +kernel⟩, List.mem_of_getElem? (i := 619) (by decide +kernel), List.mem_of_getElem? (i := 849) (by decide +kernel), List.mem_of_getElem? (i := 850) (by decide +kernel)⟩
theorem lw_p38 : lw_okq (⟨"BodyAccountsModel", "canBy", "(II)Z"⟩, 35) := ⟨⟨by decide +kernel, by decide +kernel⟩, List.mem_of_getElem? (i := 619) (by decide +kernel), List.mem_of_getElem? (i := 853) (by decide +kernel), List.mem_of_getElem? (i := 854) (by decide +kernel)⟩
theorem lw_p39 : lw_okq (⟨"BodyAccountsModel", "copy", "(II)V"⟩, 35) := ⟨⟨by decide +kernel, by decide +kernel⟩, List.mem_of_getElem? (i := 619) (by decide +kernel), List.mem_of_getElem? (i := 862) (by decide +kernel), List.mem_of_getElem? (i := 863) (by decide +kernel)⟩
theorem lw_p40 : lw_okq (⟨"BodyAccountsModel", "minds", "()V"⟩, 35) := ⟨⟨by decide +kernel, by decide +kernel⟩, List.mem_of_getElem? (i := 619) (by decide +kernel), List.mem_of_getElem? (i := 871) (by decide +kernel), List.mem_of_getElem? (i := 872) (by decide +kernel)⟩
theorem lw_p41 : lw_okq (⟨"BodyAccountsModel", "behindMonth", "(II)I"⟩, 35) := ⟨⟨by decide +kernel, by decide +kernel⟩, List.mem_of_getElem? (i := 619) (by decide +kernel), List.mem_of_getElem? (i := 875) (by decide +kernel), List.mem_of_getElem? (i := 876) (by decide +kernel)⟩
theorem lw_p42 : lw_okq (⟨"BodyAccountsModel", "changes", "(II)V"⟩, 35) := ⟨⟨by decide +kernel, by decide +kernel⟩, List.mem_of_getElem? (i := 619) (by decide +kernel), List.mem_of_getElem? (i := 887) (by decide +kernel), List.mem_of_getElem? (i := 888) (by decide +kernel)⟩
theorem lw_p43 : lw_okq (⟨"BodyAccountsModel", "owesMore", "(III)V"⟩, 35) := ⟨⟨by decide +kernel, by decide +kernel⟩, List.mem_of_getElem? (i := 619) (by decide +kernel), List.mem_of_getElem? (i := 895) (by decide +kernel), List.mem_of_getElem? (i := 896) (by decide +kernel)⟩
theorem lw_p44 : lw_okq (⟨"BodyAccountsModel", "draw", "(I)I"⟩, 35) := ⟨⟨by decide +kernel, by decide +kernel⟩, List.mem_of_getElem? (i := 619) (by decide +kernel), List.mem_of_getElem? (i := 907) (by decide +kernel), List.mem_of_getElem? (i := 908) (by decide +kernel)⟩
theorem lw_p45 : lw_okq (⟨"BodyAccountsModel", "isPlan", "(II)Z"⟩, 35) := ⟨⟨by decide +kernel, by decide +kernel⟩, List.mem_of_getElem? (i := 619) (by decide +kernel), List.mem_of_getElem? (i := 937) (by decide +kernel), List.mem_of_getElem? (i := 938) (by decide +kernel)⟩
theorem lw_p46 : lw_okq (⟨"BodyAccountsModel", "isSeen", "(I)Z"⟩, 35) := ⟨⟨by decide +kernel, by decide +kernel⟩, List.mem_of_getElem? (i := 619) (by decide +kernel), List.mem_of_getElem? (i := 972) (by decide +kernel), List.mem_of_getElem? (i := 973) (by decide +kernel)⟩
def lw_privs_3 : List (MethodName × Nat) := [(⟨"BodyAccountsModel", "whole", "()I"⟩, 35), (⟨"BodyAccountsModel", "cleared", "()I"⟩, 35), (⟨"BodyAccountsModel", "isPart", "(I)Z"⟩, 35), (⟨"BodyAccountsModel", "isCustomer", "(I)Z"⟩, 35), (⟨"BodyAccountsModel", "areTwo", "(II)Z"⟩, 35), (⟨"BodyAccountsModel", "isTask", "(I)Z"⟩, 35), (⟨"BodyAccountsModel", "canBy", "(II)Z"⟩, 35), (⟨"BodyAccountsModel", "copy", "(II)V"⟩, 35), (⟨"BodyAccountsModel", "minds", "()V"⟩, 35), (⟨"BodyAccountsModel", "behindMonth", "(II)I"⟩, 35), (⟨"BodyAccountsModel", "changes", "(II)V"⟩, 35), (⟨"BodyAccountsModel", "owesMore", "(III)V"⟩, 35), (⟨"BodyAccountsModel", "draw", "(I)I"⟩, 35), (⟨"BodyAccountsModel", "isPlan", "(II)Z"⟩, 35), (⟨"BodyAccountsModel", "isSeen", "(I)Z"⟩, 35)]
theorem lw_r3 : ∀ q ∈ lw_privs_3, lw_okq q := List.forall_mem_cons.mpr ⟨lw_p32, List.forall_mem_cons.mpr ⟨lw_p33, List.forall_mem_cons.mpr ⟨lw_p34, List.forall_mem_cons.mpr ⟨lw_p35, List.forall_mem_cons.mpr ⟨lw_p36, List.forall_mem_cons.mpr ⟨lw_p37, List.forall_mem_cons.mpr ⟨lw_p38, List.forall_mem_cons.mpr ⟨lw_p39, List.forall_mem_cons.mpr ⟨lw_p40, List.forall_mem_cons.mpr ⟨lw_p41, List.forall_mem_cons.mpr ⟨lw_p42, List.forall_mem_cons.mpr ⟨lw_p43, List.forall_mem_cons.mpr ⟨lw_p44, List.forall_mem_cons.mpr ⟨lw_p45, List.forall_mem_cons.mpr ⟨lw_p46, fun _ h => absurd h List.not_mem_nil⟩⟩⟩⟩⟩⟩⟩⟩⟩⟩⟩⟩⟩⟩⟩
def lw_privs : List (MethodName × Nat) := lw_privs_1 ++ (lw_privs_2 ++ (lw_privs_3))
def lw_tbl : List Cond := k2_sels lw_privs ++ tables_1
theorem lw_privs_ok : ∀ q ∈ lw_privs, lw_okq q := by
  show ∀ q ∈ lw_privs_1 ++ (lw_privs_2 ++ (lw_privs_3)), lw_okq q
  exact List.forall_mem_append.mpr ⟨lw_r1, List.forall_mem_append.mpr ⟨lw_r2, lw_r3⟩⟩
-- ===== end of PART A; then your names; then what follows =====
/-! the words that go along with every call -/
def TB : List Cond := lw_tbl.filter goodWord
theorem TB_of {w : Cond} (h : w ∈ lw_tbl) (g : goodWord w = true) : w ∈ TB := List.mem_filter.mpr ⟨h, g⟩
theorem TB_at {w : Cond} (i : Nat) (h : lw_tbl[i]? = some w) (g : goodWord w = true) : w ∈ TB := TB_of (List.mem_of_getElem? h) g
theorem TB_lw {w : Cond} (h : w ∈ TB) : w ∈ lw_tbl := (List.mem_filter.mp h).1
theorem TB_good : ∀ w ∈ TB, w ∈ TB ∧ ((w.onTables && w.keeps) = true ∨ ∃ ty, w = .arrayClass ty) := fun w h => ⟨h, good_of_word (List.mem_filter.mp h).2⟩
theorem TB_code {y : MethodName} {cc : ByteArray} {n : Nat} {rt : Option FieldType} (h : Cond.code y cc n rt ∈ TB) : GoodIn TB (Cond.code y cc n rt :: TB) := fun w hw => (List.mem_cons.mp hw).elim (fun e => e ▸ TB_good _ h) (fun h => TB_good w h)
end
section
/-! The classes, their fields; which cell is what (numbers by the order in which the law makes them). Printed by wip/whole/gworld.py. -/
def TBr : u_T := fun k => match k with
  | 0 => ("BodyAccounts$Branch", "needs", "[I", true)
  | 1 => ("BodyAccounts$Branch", "starts", "[I", true)
  | 2 => ("BodyAccounts$Branch", "pays", "[I", true)
  | 3 => ("BodyAccounts$Branch", "costs", "[I", true)
  | 4 => ("BodyAccounts$Branch", "takes", "[I", true)
  | 5 => ("BodyAccounts$Branch", "parts", "I", false)
  | 6 => ("BodyAccounts$Branch", "customers", "I", false)
  | _ => ("BodyAccounts$Branch", "tasks", "I", false)
def yBr : Nat → FieldType := fun k => match k with
  | 0 => (.array .int)
  | 1 => (.array .int)
  | 2 => (.array .int)
  | 3 => (.array .int)
  | 4 => (.array .int)
  | 5 => .int
  | 6 => .int
  | _ => .int
theorem nBr_ok : ∀ a, a < 8 → ∀ b, b < 8 → a ≠ b → (TBr a).2.1 ≠ (TBr b).2.1 := by decide +kernel
theorem yBr_ok : ∀ k, k < 8 → parseFieldDescriptor (TBr k).2.2.1 = some (yBr k) := by decide +kernel
theorem iBr_ok : ∀ w ∈ u_ws "BodyAccounts$Branch" TBr 8, w ∈ TB := by
  intro w hw
  exact TB_of (by revert w; decide +kernel) (by revert w; decide +kernel)
def TPa : u_T := fun k => match k with
  | 0 => ("BodyAccounts$Past", "ring", "[LBodyAccounts$Standing;", true)
  | 1 => ("BodyAccounts$Past", "next", "I", false)
  | _ => ("BodyAccounts$Past", "count", "I", false)
def yPa : Nat → FieldType := fun k => match k with
  | 0 => (.array (.object "BodyAccounts$Standing"))
  | 1 => .int
  | _ => .int
theorem nPa_ok : ∀ a, a < 3 → ∀ b, b < 3 → a ≠ b → (TPa a).2.1 ≠ (TPa b).2.1 := by decide +kernel
theorem yPa_ok : ∀ k, k < 3 → parseFieldDescriptor (TPa k).2.2.1 = some (yPa k) := by decide +kernel
theorem iPa_ok : ∀ w ∈ u_ws "BodyAccounts$Past" TPa 3, w ∈ TB := by
  intro w hw
  exact TB_of (by revert w; decide +kernel) (by revert w; decide +kernel)
def TPl : u_T := fun k => match k with
  | _ => ("BodyAccounts$Planner", "given", "[I", true)
def yPl : Nat → FieldType := fun k => match k with
  | _ => (.array .int)
theorem nPl_ok : ∀ a, a < 1 → ∀ b, b < 1 → a ≠ b → (TPl a).2.1 ≠ (TPl b).2.1 := by decide +kernel
theorem yPl_ok : ∀ k, k < 1 → parseFieldDescriptor (TPl k).2.2.1 = some (yPl k) := by decide +kernel
theorem iPl_ok : ∀ w ∈ u_ws "BodyAccounts$Planner" TPl 1, w ∈ TB := by
  intro w hw
  exact TB_of (by revert w; decide +kernel) (by revert w; decide +kernel)
def TRe : u_T := fun k => match k with
  | 0 => ("BodyAccounts$Reader", "letters", "[I", true)
  | 1 => ("BodyAccounts$Reader", "length", "I", false)
  | 2 => ("BodyAccounts$Reader", "faultPlace", "I", false)
  | 3 => ("BodyAccounts$Reader", "faultNumber", "I", false)
  | _ => ("BodyAccounts$Reader", "place", "I", false)
def yRe : Nat → FieldType := fun k => match k with
  | 0 => (.array .int)
  | 1 => .int
  | 2 => .int
  | 3 => .int
  | _ => .int
theorem nRe_ok : ∀ a, a < 5 → ∀ b, b < 5 → a ≠ b → (TRe a).2.1 ≠ (TRe b).2.1 := by decide +kernel
theorem yRe_ok : ∀ k, k < 5 → parseFieldDescriptor (TRe k).2.2.1 = some (yRe k) := by decide +kernel
theorem iRe_ok : ∀ w ∈ u_ws "BodyAccounts$Reader" TRe 5, w ∈ TB := by
  intro w hw
  exact TB_of (by revert w; decide +kernel) (by revert w; decide +kernel)
def TSl : u_T := fun k => match k with
  | 0 => ("BodyAccounts$Slate", "sums", "[I", true)
  | 1 => ("BodyAccounts$Slate", "mustTasks", "[I", true)
  | 2 => ("BodyAccounts$Slate", "mustMonths", "[I", true)
  | 3 => ("BodyAccounts$Slate", "seenParts", "[I", true)
  | 4 => ("BodyAccounts$Slate", "seenThere", "[Z", true)
  | 5 => ("BodyAccounts$Slate", "entryCustomers", "[I", true)
  | 6 => ("BodyAccounts$Slate", "entryBalances", "[I", true)
  | 7 => ("BodyAccounts$Slate", "spendings", "I", false)
  | 8 => ("BodyAccounts$Slate", "musts", "I", false)
  | 9 => ("BodyAccounts$Slate", "seen", "I", false)
  | _ => ("BodyAccounts$Slate", "entries", "I", false)
def ySl : Nat → FieldType := fun k => match k with
  | 0 => (.array .int)
  | 1 => (.array .int)
  | 2 => (.array .int)
  | 3 => (.array .int)
  | 4 => (.array .boolean)
  | 5 => (.array .int)
  | 6 => (.array .int)
  | 7 => .int
  | 8 => .int
  | 9 => .int
  | _ => .int
theorem nSl_ok : ∀ a, a < 11 → ∀ b, b < 11 → a ≠ b → (TSl a).2.1 ≠ (TSl b).2.1 := by decide +kernel
theorem ySl_ok : ∀ k, k < 11 → parseFieldDescriptor (TSl k).2.2.1 = some (ySl k) := by decide +kernel
theorem iSl_ok : ∀ w ∈ u_ws "BodyAccounts$Slate" TSl 11, w ∈ TB := by
  intro w hw
  exact TB_of (by revert w; decide +kernel) (by revert w; decide +kernel)
def TSt : u_T := fun k => match k with
  | 0 => ("BodyAccounts$Standing", "balances", "[I", true)
  | 1 => ("BodyAccounts$Standing", "debts", "[I", true)
  | _ => ("BodyAccounts$Standing", "months", "I", false)
def ySt : Nat → FieldType := fun k => match k with
  | 0 => (.array .int)
  | 1 => (.array .int)
  | _ => .int
theorem nSt_ok : ∀ a, a < 3 → ∀ b, b < 3 → a ≠ b → (TSt a).2.1 ≠ (TSt b).2.1 := by decide +kernel
theorem ySt_ok : ∀ k, k < 3 → parseFieldDescriptor (TSt k).2.2.1 = some (ySt k) := by decide +kernel
theorem iSt_ok : ∀ w ∈ u_ws "BodyAccounts$Standing" TSt 3, w ∈ TB := by
  intro w hw
  exact TB_of (by revert w; decide +kernel) (by revert w; decide +kernel)
def TBA : u_T := fun k => match k with
  | 0 => ("BodyAccounts", "reader", "LBodyAccounts$Reader;", true)
  | 1 => ("BodyAccounts", "now", "LBodyAccounts$Standing;", true)
  | 2 => ("BodyAccounts", "past", "LBodyAccounts$Past;", true)
  | 3 => ("BodyAccounts", "slate", "LBodyAccounts$Slate;", true)
  | 4 => ("BodyAccounts", "planner", "LBodyAccounts$Planner;", true)
  | 5 => ("BodyAccounts", "images", "[LBodyAccounts$Standing;", true)
  | 6 => ("BodyAccounts", "imageSeeds", "[I", true)
  | 7 => ("BodyAccounts", "imageKept", "[Z", true)
  | 8 => ("BodyAccounts", "current", "LBodyAccounts$Branch;", false)
  | 9 => ("BodyAccounts", "spare", "LBodyAccounts$Branch;", false)
  | 10 => ("BodyAccounts", "faultPlace", "I", false)
  | _ => ("BodyAccounts", "seedNow", "I", false)
def yBA : Nat → FieldType := fun k => match k with
  | 0 => (.object "BodyAccounts$Reader")
  | 1 => (.object "BodyAccounts$Standing")
  | 2 => (.object "BodyAccounts$Past")
  | 3 => (.object "BodyAccounts$Slate")
  | 4 => (.object "BodyAccounts$Planner")
  | 5 => (.array (.object "BodyAccounts$Standing"))
  | 6 => (.array .int)
  | 7 => (.array .boolean)
  | 8 => (.object "BodyAccounts$Branch")
  | 9 => (.object "BodyAccounts$Branch")
  | 10 => .int
  | _ => .int
theorem nBA_ok : ∀ a, a < 12 → ∀ b, b < 12 → a ≠ b → (TBA a).2.1 ≠ (TBA b).2.1 := by decide +kernel
theorem yBA_ok : ∀ k, k < 12 → parseFieldDescriptor (TBA k).2.2.1 = some (yBA k) := by decide +kernel
theorem iBA_ok : ∀ w ∈ u_ws "BodyAccounts" TBA 12, w ∈ TB := by
  intro w hw
  exact TB_of (by revert w; decide +kernel) (by revert w; decide +kernel)
def TMo : u_T := fun k => match k with
  | 0 => ("BodyAccountsModel", "w", "[I", true)
  | 1 => ("BodyAccountsModel", "isKept", "[Z", true)
  | 2 => ("BodyAccountsModel", "undoes", "I", false)
  | 3 => ("BodyAccountsModel", "parts", "I", false)
  | 4 => ("BodyAccountsModel", "needs", "[I", true)
  | 5 => ("BodyAccountsModel", "customers", "I", false)
  | 6 => ("BodyAccountsModel", "pay", "[I", true)
  | 7 => ("BodyAccountsModel", "spends", "[I", true)
  | 8 => ("BodyAccountsModel", "tasks", "I", false)
  | 9 => ("BodyAccountsModel", "takesParts", "[I", true)
  | 10 => ("BodyAccountsModel", "text", "[I", true)
  | 11 => ("BodyAccountsModel", "texted", "I", false)
  | 12 => ("BodyAccountsModel", "at", "I", false)
  | 13 => ("BodyAccountsModel", "start", "I", false)
  | 14 => ("BodyAccountsModel", "number", "I", false)
  | 15 => ("BodyAccountsModel", "faulty", "I", false)
  | 16 => ("BodyAccountsModel", "faultAt", "I", false)
  | 17 => ("BodyAccountsModel", "readParts", "I", false)
  | 18 => ("BodyAccountsModel", "readNeeds", "[I", true)
  | 19 => ("BodyAccountsModel", "readCustomers", "I", false)
  | 20 => ("BodyAccountsModel", "readCustomer", "[I", true)
  | 21 => ("BodyAccountsModel", "readTasks", "I", false)
  | 22 => ("BodyAccountsModel", "readTask", "[I", true)
  | 23 => ("BodyAccountsModel", "spendings", "I", false)
  | 24 => ("BodyAccountsModel", "spending", "[I", true)
  | 25 => ("BodyAccountsModel", "musts", "I", false)
  | 26 => ("BodyAccountsModel", "mustTask", "[I", true)
  | 27 => ("BodyAccountsModel", "mustMonth", "[I", true)
  | 28 => ("BodyAccountsModel", "given", "[I", true)
  | 29 => ("BodyAccountsModel", "seen", "I", false)
  | 30 => ("BodyAccountsModel", "seenPart", "[I", true)
  | 31 => ("BodyAccountsModel", "seenThere", "[Z", true)
  | 32 => ("BodyAccountsModel", "booked", "I", false)
  | 33 => ("BodyAccountsModel", "bookOf", "[I", true)
  | _ => ("BodyAccountsModel", "bookBalance", "[I", true)
def yMo : Nat → FieldType := fun k => match k with
  | 0 => (.array .int)
  | 1 => (.array .boolean)
  | 2 => .int
  | 3 => .int
  | 4 => (.array .int)
  | 5 => .int
  | 6 => (.array .int)
  | 7 => (.array .int)
  | 8 => .int
  | 9 => (.array .int)
  | 10 => (.array .int)
  | 11 => .int
  | 12 => .int
  | 13 => .int
  | 14 => .int
  | 15 => .int
  | 16 => .int
  | 17 => .int
  | 18 => (.array .int)
  | 19 => .int
  | 20 => (.array .int)
  | 21 => .int
  | 22 => (.array .int)
  | 23 => .int
  | 24 => (.array .int)
  | 25 => .int
  | 26 => (.array .int)
  | 27 => (.array .int)
  | 28 => (.array .int)
  | 29 => .int
  | 30 => (.array .int)
  | 31 => (.array .boolean)
  | 32 => .int
  | 33 => (.array .int)
  | _ => (.array .int)
theorem nMo_ok : ∀ a, a < 35 → ∀ b, b < 35 → a ≠ b → (TMo a).2.1 ≠ (TMo b).2.1 := by decide +kernel
theorem yMo_ok : ∀ k, k < 35 → parseFieldDescriptor (TMo k).2.2.1 = some (yMo k) := by decide +kernel
theorem iMo_ok : ∀ w ∈ u_ws "BodyAccountsModel" TMo 35, w ∈ TB := by
  intro w hw
  exact TB_of (by revert w; decide +kernel) (by revert w; decide +kernel)
abbrev classes : List vw_C := [("BodyAccounts$Branch", TBr, 8), ("BodyAccounts$Past", TPa, 3), ("BodyAccounts$Planner", TPl, 1), ("BodyAccounts$Reader", TRe, 5), ("BodyAccounts$Slate", TSl, 11), ("BodyAccounts$Standing", TSt, 3), ("BodyAccounts", TBA, 12), ("BodyAccountsModel", TMo, 35)]
def NC : Nat := 118
def shL : List (Nat × Nat) := [(6, 0), (3, 0), (20, 240), (5, 0), (20, 5), (20, 25), (1, 0), (22, 20), (5, 0), (20, 5), (20, 25), (5, 0), (20, 5), (20, 25), (5, 0), (20, 5), (20, 25), (5, 0), (20, 5), (20, 25), (5, 0), (20, 5), (20, 25), (5, 0), (20, 5), (20, 25), (5, 0), (20, 5), (20, 25), (5, 0), (20, 5), (20, 25), (5, 0), (20, 5), (20, 25), (5, 0), (20, 5), (20, 25), (5, 0), (20, 5), (20, 25), (5, 0), (20, 5), (20, 25), (5, 0), (20, 5), (20, 25), (5, 0), (20, 5), (20, 25), (5, 0), (20, 5), (20, 25), (5, 0), (20, 5), (20, 25), (5, 0), (20, 5), (20, 25), (5, 0), (20, 5), (20, 25), (5, 0), (20, 5), (20, 25), (5, 0), (20, 5), (20, 25), (4, 0), (20, 5), (20, 4), (20, 4), (20, 8), (21, 8), (20, 15), (20, 15), (2, 0), (20, 5), (22, 2), (5, 0), (20, 5), (20, 25), (5, 0), (20, 5), (20, 25), (20, 2), (21, 2), (0, 0), (20, 8), (20, 5), (20, 5), (20, 5), (20, 6), (0, 0), (20, 8), (20, 5), (20, 5), (20, 5), (20, 6), (7, 0), (20, 736), (21, 2), (20, 8), (20, 5), (20, 5), (20, 6), (20, 240), (20, 8), (20, 15), (20, 6), (20, 5), (20, 4), (20, 4), (20, 5), (20, 8), (21, 8), (20, 15), (20, 15)]
def fkL : List (List (Nat × Nat)) := [[(1, 1), (1, 2), (1, 3), (1, 4), (1, 5), (0, 0), (0, 0), (0, 0)], [(1, 1), (0, 0), (0, 0)], [(1, 1)], [(1, 1), (0, 0), (0, 0), (0, 0), (0, 0)], [(1, 1), (1, 2), (1, 3), (1, 4), (1, 5), (1, 6), (1, 7), (0, 0), (0, 0), (0, 0), (0, 0)], [(1, 1), (1, 2), (0, 0)], [(1, 1), (1, 3), (1, 6), (1, 68), (1, 76), (1, 78), (1, 85), (1, 86), (2, 0), (2, 0), (0, 0), (0, 0)], [(1, 1), (1, 2), (0, 0), (0, 0), (1, 3), (0, 0), (1, 4), (1, 5), (0, 0), (1, 6), (1, 7), (0, 0), (0, 0), (0, 0), (0, 0), (0, 0), (0, 0), (0, 0), (1, 8), (0, 0), (1, 9), (0, 0), (1, 10), (0, 0), (1, 11), (0, 0), (1, 12), (1, 13), (1, 14), (0, 0), (1, 15), (1, 16), (0, 0), (1, 17), (1, 18)]]
def NWs : List (String × Nat × MethodName × String) := [("BodyAccounts", 9, ⟨"BodyAccounts$Reader", "<init>", "()V"⟩, "BodyAccounts"), ("BodyAccounts", 18, ⟨"BodyAccounts$Standing", "<init>", "()V"⟩, "BodyAccounts"), ("BodyAccounts$Past", 17, ⟨"BodyAccounts$Standing", "<init>", "()V"⟩, "BodyAccounts"), ("BodyAccounts", 32, ⟨"BodyAccounts$Slate", "<init>", "()V"⟩, "BodyAccounts"), ("BodyAccounts", 39, ⟨"BodyAccounts$Planner", "<init>", "()V"⟩, "BodyAccounts"), ("BodyAccounts", 58, ⟨"BodyAccounts$Branch", "<init>", "()V"⟩, "BodyAccounts"), ("BodyAccounts$Branch", 37, ⟨"BodyAccounts", "within", "(III)Z"⟩, "BodyAccounts"), ("BodyAccounts$Branch", 52, ⟨"BodyAccounts", "bounded", "(I)I"⟩, "BodyAccounts"), ("BodyAccounts$Standing", 36, ⟨"BodyAccounts", "bounded", "(I)I"⟩, "BodyAccounts"), ("BodyAccounts$Planner", 39, ⟨"BodyAccounts", "bounded", "(I)I"⟩, "BodyAccounts")]
end
section
/-! A heap as a function (cell, place) -> int; the world that it says; V: the machine at a place of a method's code comes to its end. -/
abbrev HP : Type := Nat → Nat → Int32
def setc (hp : HP) (k : Nat) (f : Nat → Int32) : HP := fun q => if q = k then f else hp q
def up (hp : HP) (k j : Nat) (v : Int32) : HP := setc hp k (upd (hp k) j v)
def sh (k : Nat) : Nat × Nat := shL.getD k (99, 0)
def fk (ci j : Nat) : Nat × Nat := (fkL.getD ci []).getD j (9, 0)
def nf (ci : Nat) : Nat := (fkL.getD ci []).length
def rb (k : Nat) : Nat := k + 1
abbrev GT : Type := va_G × (Nat → Nat) × (ClassId × ClassId × ClassId)
abbrev gD (G : GT) : va_G := G.1
abbrev gA (G : GT) : Nat → Nat := G.2.1
def fv (ad : Nat → Nat) (hp : HP) (k : Nat) (t : Nat × Nat) (j : Nat) : Value := match t.1 with
  | 0 => .int (hp k j)
  | 1 => .ref (ad (k + t.2))
  | _ => .ref (ad (hp k j).toNatClampNeg)
def flds (ad : Nat → Nat) (hp : HP) (k ci : Nat) : List Value := (List.range (nf ci)).map (fun j => fv ad hp k (fk ci j) j)
def ent (G : GT) (hp : HP) (k : Nat) : va_E := match (sh k).1 with
  | 20 => .inl (G.2.2.1, (sh k).2, .inl (hp k))
  | 21 => .inl (G.2.2.2.1, (sh k).2, .inl (hp k))
  | 22 => .inl (G.2.2.2.2, (sh k).2, .inr (.inr (.inr (.inr (fun j => some (gA G (rb k + 3 * j)))))))
  | ci => .inr (ci, flds (gA G) hp k ci)
def wsO (G : GT) (hp : HP) : va_W := (List.range NC).map (fun k => (gA G k, ent G hp k))
def tysO (G : GT) : List (ClassId × FieldType) := [(G.2.2.1, .int), (G.2.2.2.1, .boolean), (G.2.2.2.2, .object "BodyAccounts$Standing")]
def GI (G : GT) : Prop := ∀ i j, i < NC → j < NC → gA G i = gA G j → i = j
def KK (G : GT) (U : State) : Prop := va_K (gD G) classes (tysO G) U ∧ (∀ q ∈ NWs, va_Nw (.methodLinkNest q.1 q.2.1 q.2.2.1 q.2.2.2) U) ∧ GI G
def AA (G : GT) : Nat → Prop := fun q => ∃ k, k < NC ∧ q = gA G k
theorem KK.warm {G : GT} {s U : State} (hW : s.WarmedH U.vm) (h : KK G s) : KK G U := ⟨va_K.moved hW.alike h.1, fun q hq => va_Nw.warmM hW (h.2.1 q hq), h.2.2⟩
theorem KK.same {G : GT} {s U : State} (hv : s.vm = U.vm) (h : KK G s) : KK G U := ⟨va_K.moved (by rw [hv]; exact Vm.Alike.refl U.vm) h.1, fun q hq => va_Nw.same rfl hv (h.2.1 q hq), h.2.2⟩
theorem wsO_at (G : GT) (hp : HP) {k : Nat} (h : k < NC) : (wsO G hp)[k]? = some (gA G k, ent G hp k) := by
  simp [wsO, List.getElem?_map, List.getElem?_range h]
theorem wsO_len (G : GT) (hp : HP) : (wsO G hp).length = NC := by simp [wsO]
theorem wsO_D (G : GT) (hp : HP) (h : GI G) {A : Nat → Prop} (hA : ∀ k, k < NC → A (gA G k)) : va_D A (wsO G hp) := by
  have key : ∀ (k : Nat) (q : Nat × va_E), (wsO G hp)[k]? = some q → k < NC ∧ q.1 = gA G k := by
    intro k q hk
    have hl : k < NC := by
      have := (List.getElem?_eq_some_iff.mp hk).1
      rwa [wsO_len] at this
    rw [wsO_at G hp hl] at hk
    cases hk
    exact ⟨hl, rfl⟩
  refine ⟨fun i j p q hi hj hpq => ?_, fun k q hk => ?_⟩
  · obtain ⟨a1, a2⟩ := key i p hi
    obtain ⟨b1, b2⟩ := key j q hj
    exact h i j a1 b1 (by rw [← a2, ← b2, hpq])
  · obtain ⟨a1, a2⟩ := key k q hk
    rw [a2]
    exact hA k a1
theorem wsO_set (G : GT) (hp : HP) {k : Nat} (f : Nat → Int32) (h : k < NC) : (wsO G hp).set k (gA G k, ent G (setc hp k f) k) = wsO G (setc hp k f) := by
  apply List.ext_getElem?
  intro i
  rw [List.getElem?_set]
  by_cases hi : k = i
  · subst hi
    rw [if_pos rfl, if_pos (by rw [wsO_len]; exact h), wsO_at G _ h]
  · rw [if_neg hi]
    by_cases hl : i < NC
    · rw [wsO_at G _ hl, wsO_at G _ hl]
      have : setc hp k f i = hp i := by unfold setc; rw [if_neg (Ne.symm hi)]
      simp only [ent, flds, fv, this]
    · rw [List.getElem?_eq_none (by rw [wsO_len]; omega), List.getElem?_eq_none (by rw [wsO_len]; omega)]
theorem setc_at (hp : HP) (k : Nat) (f : Nat → Int32) : setc hp k f k = f := by unfold setc; rw [if_pos rfl]
theorem ent_i (G : GT) (hp : HP) {k n : Nat} (h : sh k = (20, n)) : ent G hp k = .inl (G.2.2.1, n, .inl (hp k)) := by unfold ent; rw [h]; rfl
theorem ent_z (G : GT) (hp : HP) {k n : Nat} (h : sh k = (21, n)) : ent G hp k = .inl (G.2.2.2.1, n, .inl (hp k)) := by unfold ent; rw [h]; rfl
theorem ent_q (G : GT) (hp : HP) {k n : Nat} (h : sh k = (22, n)) : ent G hp k = .inl (G.2.2.2.2, n, .inr (.inr (.inr (.inr (fun j => some (gA G (rb k + 3 * j))))))) := by unfold ent; rw [h]; rfl
theorem ent_o (G : GT) (hp : HP) {k ci : Nat} (hc : ci < 20) (h : sh k = (ci, 0)) : ent G hp k = .inr (ci, flds (gA G) hp k ci) := by
  unfold ent
  rw [h]
  match ci, hc with
  | 0, _ | 1, _ | 2, _ | 3, _ | 4, _ | 5, _ | 6, _ | 7, _ | 8, _ | 9, _ | 10, _ | 11, _ | 12, _ | 13, _ | 14, _ | 15, _ | 16, _ | 17, _ | 18, _ | 19, _ => rfl
  | n + 20, h => exact absurd h (by omega)
theorem flds_at (ad : Nat → Nat) (hp : HP) (k : Nat) {ci j : Nat} (h : j < nf ci) : (flds ad hp k ci)[j]? = some (fv ad hp k (fk ci j) j) := by
  simp [flds, List.getElem?_map, List.getElem?_range h]
theorem flds_len (ad : Nat → Nat) (hp : HP) (k ci : Nat) : (flds ad hp k ci).length = nf ci := by simp [flds]
theorem flds_set (ad : Nat → Nat) (hp : HP) (k : Nat) {ci j : Nat} (v : Int32) (h : j < nf ci) : (flds ad hp k ci).set j (fv ad (up hp k j v) k (fk ci j) j) = flds ad (up hp k j v) k ci := by
  apply List.ext_getElem?
  intro i
  rw [List.getElem?_set]
  by_cases hi : j = i
  · subst hi
    rw [if_pos rfl, if_pos (by rw [flds_len]; exact h), flds_at _ _ _ h]
  · rw [if_neg hi]
    by_cases hl : i < nf ci
    · rw [flds_at _ _ _ hl, flds_at _ _ _ hl]
      have : up hp k j v k i = hp k i := by unfold up; rw [setc_at]; unfold upd; rw [if_neg (Ne.symm hi)]
      simp only [fv, this]
    · rw [List.getElem?_eq_none (by rw [flds_len]; omega), List.getElem?_eq_none (by rw [flds_len]; omega)]
abbrev ZT : Type := (Program × Launch × Env × Room × State × MethodId) × (Array Value × List Frame × Method × Code × Nat × Nat) × ((State → Prop) × (Nat → Prop) × GT)
abbrev zp (Z : ZT) := Z.1.1
abbrev zl (Z : ZT) := Z.1.2.1
abbrev ze (Z : ZT) := Z.1.2.2.1
abbrev zR (Z : ZT) := Z.1.2.2.2.1
abbrev zs (Z : ZT) := Z.1.2.2.2.2.1
abbrev zm (Z : ZT) := Z.1.2.2.2.2.2
abbrev za (Z : ZT) := Z.2.1.1
abbrev zb (Z : ZT) := Z.2.1.2.1
abbrev zt (Z : ZT) := Z.2.1.2.2.1
abbrev zc (Z : ZT) := Z.2.1.2.2.2.1
abbrev zn (Z : ZT) := Z.2.1.2.2.2.2.1
abbrev zo (Z : ZT) := Z.2.1.2.2.2.2.2
abbrev zQ (Z : ZT) := Z.2.2.1
abbrev zA (Z : ZT) := Z.2.2.2.1
abbrev zG (Z : ZT) := Z.2.2.2.2
/-- a method: its bytes, its class, its locals, how many calls deep it goes -/
abbrev YT : Type := ByteArray × String × Nat × Nat
def rmd (d : Nat) : Room := { frames := d, cells := 0, slots := 0, locals := 30 * d }
def CX (Z : ZT) (Y : YT) : Prop := (zp Z).tables.exec = Jvm.exec ∧ (zc Z).code = Y.1 ∧ (zc Z).maxLocals = Y.2.2.1 ∧ (zs Z).vm.findClass Y.2.1 = some (zm Z).cls ∧ (∀ w ∈ TB, w.before (za Z) (zs Z) = true) ∧ KK (zG Z) (zs Z) ∧ (∀ k, k < NC → zA Z (gA (zG Z) k)) ∧ (Y.2.2.2 ≤ (zR Z).frames ∧ 30 * Y.2.2.2 ≤ (zR Z).locals ∧ zn Z ≤ (zR Z).cells ∧ zo Z ≤ (zR Z).slots)
def V (Z : ZT) (Y : YT) (hp : HP) (pc : Nat) (L : List (Nat × Value)) (st : List Value) : Prop :=
  ∀ (H : Heap) (locs : List Loc) (ls : Array Slot), va_P (gD (zG Z)) classes (wsO (zG Z) hp) H → va_S (zA Z) (zs Z).heap H locs → lv_has ls Y.2.2.1 L → W (zp Z) (zl Z) (ze Z) (zR Z) (zs Z) (zm Z) (za Z) (zb Z) (zt Z) (zc Z) H locs (zn Z) (zo Z) (zQ Z) (F0 (zm Z) pc ls st)
section Rows
variable {Z : ZT} {Y : YT} {hp : HP} {pc : Nat} {L : List (Nat × Value)} {st : List Value}
theorem CX.D (X : CX Z Y) (hp : HP) : va_D (zA Z) (wsO (zG Z) hp) := wsO_D _ hp X.2.2.2.2.2.1.2.2 X.2.2.2.2.2.2.1
theorem R_loc {L' : List (Nat × Value)} (ks : List Nat) (hl : lv_pick L ks = L') (k : V Z Y hp pc L' st) : V Z Y hp pc L st := fun H locs ls hP hS h => k H locs ls hP hS (lv_sub h ks hl)
theorem R_iconst (X : CX Z Y) {n : Int} {v : Int32} (hd : decode Y.1 pc = .ok (.iconst n, 1)) (hv : Int32.ofInt n = v) (k : V Z Y hp (pc + 1) L (.int v :: st)) : V Z Y hp pc L st := fun H locs ls hP hS h => lv_iconst X.1 X.2.1 hd hv (k H locs ls hP hS h)
theorem R_bipush (X : CX Z Y) {n : Int} {v : Int32} (hd : decode Y.1 pc = .ok (.bipush n, 2)) (hv : (Int8.ofInt n).toInt32 = v) (k : V Z Y hp (pc + 2) L (.int v :: st)) : V Z Y hp pc L st := fun H locs ls hP hS h => lv_bipush X.1 X.2.1 hd hv (k H locs ls hP hS h)
theorem R_sipush (X : CX Z Y) {n : Int} {v : Int32} (hd : decode Y.1 pc = .ok (.sipush n, 3)) (hv : (Int16.ofInt n).toInt32 = v) (k : V Z Y hp (pc + 3) L (.int v :: st)) : V Z Y hp pc L st := fun H locs ls hP hS h => lv_sipush X.1 X.2.1 hd hv (k H locs ls hP hS h)
theorem R_lconst (X : CX Z Y) {n : Fin 2} {v : Int64} (hd : decode Y.1 pc = .ok (.lconst n, 1)) (hv : Int64.ofNat (n : Nat) = v) (k : V Z Y hp (pc + 1) L (.long v :: st)) : V Z Y hp pc L st := fun H locs ls hP hS h => lv_lconst X.1 X.2.1 hd hv (k H locs ls hP hS h)
theorem R_ldc (X : CX Z Y) {i : Nat} {v : Int32} (hw : Cond.constant Y.2.1 i v ∈ TB) (hd : decode Y.1 pc = .ok (.ldc i, 2)) (k : V Z Y hp (pc + 2) L (.int v :: st)) : V Z Y hp pc L st := fun H locs ls hP hS h => lv_ldc X.1 X.2.1 X.2.2.2.1 (X.2.2.2.2.1 _ hw) hd (k H locs ls hP hS h)
theorem R_ldc2 (X : CX Z Y) {i : Nat} {v : Int64} (hw : Cond.constantLong Y.2.1 i v ∈ TB) (hd : decode Y.1 pc = .ok (.ldc2_w i, 3)) (k : V Z Y hp (pc + 3) L (.long v :: st)) : V Z Y hp pc L st := fun H locs ls hP hS h => lv_ldc2 X.1 X.2.1 X.2.2.2.1 (X.2.2.2.2.1 _ hw) hd (k H locs ls hP hS h)
theorem R_iload_n (X : CX Z Y) (q : Nat) {n : Fin 4} {x : Int32} (hd : decode Y.1 pc = .ok (.iload_n n, 1)) (hq : L[q]? = some ((n : Nat), .int x)) (k : V Z Y hp (pc + 1) L (.int x :: st)) : V Z Y hp pc L st := fun H locs ls hP hS h => lv_iload_n X.1 X.2.1 hd rfl (lv_at h q hq) (k H locs ls hP hS h)
theorem R_iload (X : CX Z Y) (q : Nat) {n : Nat} {x : Int32} (hd : decode Y.1 pc = .ok (.iload n, 2)) (hq : L[q]? = some (n, .int x)) (k : V Z Y hp (pc + 2) L (.int x :: st)) : V Z Y hp pc L st := fun H locs ls hP hS h => lv_iload X.1 X.2.1 hd (lv_at h q hq) (k H locs ls hP hS h)
theorem R_lload_n (X : CX Z Y) (q : Nat) {n : Fin 4} {x : Int64} (hd : decode Y.1 pc = .ok (.lload_n n, 1)) (hq : L[q]? = some ((n : Nat), .long x)) (k : V Z Y hp (pc + 1) L (.long x :: st)) : V Z Y hp pc L st := fun H locs ls hP hS h => lv_lload_n X.1 X.2.1 hd rfl (lv_at h q hq) (k H locs ls hP hS h)
theorem R_lload (X : CX Z Y) (q : Nat) {n : Nat} {x : Int64} (hd : decode Y.1 pc = .ok (.lload n, 2)) (hq : L[q]? = some (n, .long x)) (k : V Z Y hp (pc + 2) L (.long x :: st)) : V Z Y hp pc L st := fun H locs ls hP hS h => lv_lload X.1 X.2.1 hd (lv_at h q hq) (k H locs ls hP hS h)
theorem R_aload_n (X : CX Z Y) (q : Nat) {n : Fin 4} {x : Nat} (hd : decode Y.1 pc = .ok (.aload_n n, 1)) (hq : L[q]? = some ((n : Nat), .ref x)) (k : V Z Y hp (pc + 1) L (.ref x :: st)) : V Z Y hp pc L st := fun H locs ls hP hS h => lv_aload_n X.1 X.2.1 hd rfl (lv_at h q hq) (k H locs ls hP hS h)
theorem R_istore_n (X : CX Z Y) {n : Fin 4} {x : Int32} {L' : List (Nat × Value)} (hd : decode Y.1 pc = .ok (.istore_n n, 1)) (hn : (n : Nat) < Y.2.2.1) (hl : ((n : Nat), Value.int x) :: L.filter (fun q => !(q.1 == (n : Nat)) && !(q.1 + 1 == (n : Nat) && q.2.category == 2)) = L') (k : V Z Y hp (pc + 1) L' st) : V Z Y hp pc L (.int x :: st) := fun H locs ls hP hS h => lv_istore_n X.1 X.2.1 hd rfl h hn hl (fun ls' h' => k H locs ls' hP hS h')
theorem R_istore (X : CX Z Y) {n : Nat} {x : Int32} {L' : List (Nat × Value)} (hd : decode Y.1 pc = .ok (.istore n, 2)) (hn : n < Y.2.2.1) (hl : (n, Value.int x) :: L.filter (fun q => !(q.1 == n) && !(q.1 + 1 == n && q.2.category == 2)) = L') (k : V Z Y hp (pc + 2) L' st) : V Z Y hp pc L (.int x :: st) := fun H locs ls hP hS h => lv_istore X.1 X.2.1 hd h hn hl (fun ls' h' => k H locs ls' hP hS h')
theorem R_lstore_n (X : CX Z Y) {n : Fin 4} {x : Int64} {L' : List (Nat × Value)} (hd : decode Y.1 pc = .ok (.lstore_n n, 1)) (hn : (n : Nat) + 1 < Y.2.2.1) (hl : ((n : Nat), Value.long x) :: L.filter (fun q => !(q.1 == (n : Nat)) && (!(q.1 == (n : Nat) + 1) && !(q.1 + 1 == (n : Nat) && q.2.category == 2))) = L') (k : V Z Y hp (pc + 1) L' st) : V Z Y hp pc L (.long x :: st) := fun H locs ls hP hS h => lv_lstore_n X.1 X.2.1 hd rfl h hn hl (fun ls' h' => k H locs ls' hP hS h')
theorem R_astore_n (X : CX Z Y) {n : Fin 4} {x : Nat} {L' : List (Nat × Value)} (hd : decode Y.1 pc = .ok (.astore_n n, 1)) (hn : (n : Nat) < Y.2.2.1) (hl : ((n : Nat), Value.ref x) :: L.filter (fun q => !(q.1 == (n : Nat)) && !(q.1 + 1 == (n : Nat) && q.2.category == 2)) = L') (k : V Z Y hp (pc + 1) L' st) : V Z Y hp pc L (.ref x :: st) := fun H locs ls hP hS h => lv_astore_n X.1 X.2.1 hd rfl h hn hl (fun ls' h' => k H locs ls' hP hS h')
theorem R_iinc (X : CX Z Y) (q : Nat) {i : Nat} {n : Int} {x v : Int32} {L' : List (Nat × Value)} (hd : decode Y.1 pc = .ok (.iinc i n, 3)) (hq : L[q]? = some (i, .int x)) (hv : x + Int32.ofInt n = v) (hn : i < Y.2.2.1) (hl : (i, Value.int v) :: L.filter (fun q => !(q.1 == i) && !(q.1 + 1 == i && q.2.category == 2)) = L') (k : V Z Y hp (pc + 3) L' st) : V Z Y hp pc L st := fun H locs ls hP hS h => lv_iinc X.1 X.2.1 hd h hq hv hn hl (fun ls' h' => k H locs ls' hP hS h')
theorem R_iadd (X : CX Z Y) {x y : Int32} (hd : decode Y.1 pc = .ok (.iadd, 1)) (k : V Z Y hp (pc + 1) L (.int (x + y) :: st)) : V Z Y hp pc L (.int y :: .int x :: st) := fun H locs ls hP hS h => lv_iadd X.1 X.2.1 hd (k H locs ls hP hS h)
theorem R_isub (X : CX Z Y) {x y : Int32} (hd : decode Y.1 pc = .ok (.isub, 1)) (k : V Z Y hp (pc + 1) L (.int (x - y) :: st)) : V Z Y hp pc L (.int y :: .int x :: st) := fun H locs ls hP hS h => lv_isub X.1 X.2.1 hd (k H locs ls hP hS h)
theorem R_imul (X : CX Z Y) {x y : Int32} (hd : decode Y.1 pc = .ok (.imul, 1)) (k : V Z Y hp (pc + 1) L (.int (x * y) :: st)) : V Z Y hp pc L (.int y :: .int x :: st) := fun H locs ls hP hS h => lv_imul X.1 X.2.1 hd (k H locs ls hP hS h)
theorem R_iand (X : CX Z Y) {x y : Int32} (hd : decode Y.1 pc = .ok (.iand, 1)) (k : V Z Y hp (pc + 1) L (.int (x &&& y) :: st)) : V Z Y hp pc L (.int y :: .int x :: st) := fun H locs ls hP hS h => lv_iand X.1 X.2.1 hd (k H locs ls hP hS h)
theorem R_ior (X : CX Z Y) {x y : Int32} (hd : decode Y.1 pc = .ok (.ior, 1)) (k : V Z Y hp (pc + 1) L (.int (x ||| y) :: st)) : V Z Y hp pc L (.int y :: .int x :: st) := fun H locs ls hP hS h => lv_ior X.1 X.2.1 hd (k H locs ls hP hS h)
theorem R_ixor (X : CX Z Y) {x y : Int32} (hd : decode Y.1 pc = .ok (.ixor, 1)) (k : V Z Y hp (pc + 1) L (.int (x ^^^ y) :: st)) : V Z Y hp pc L (.int y :: .int x :: st) := fun H locs ls hP hS h => lv_ixor X.1 X.2.1 hd (k H locs ls hP hS h)
theorem R_ishl (X : CX Z Y) {x y : Int32} (hd : decode Y.1 pc = .ok (.ishl, 1)) (k : V Z Y hp (pc + 1) L (.int (x <<< (y &&& 31)) :: st)) : V Z Y hp pc L (.int y :: .int x :: st) := fun H locs ls hP hS h => lv_ishl X.1 X.2.1 hd (k H locs ls hP hS h)
theorem R_ishr (X : CX Z Y) {x y : Int32} (hd : decode Y.1 pc = .ok (.ishr, 1)) (k : V Z Y hp (pc + 1) L (.int (x >>> (y &&& 31)) :: st)) : V Z Y hp pc L (.int y :: .int x :: st) := fun H locs ls hP hS h => lv_ishr X.1 X.2.1 hd (k H locs ls hP hS h)
theorem R_ineg (X : CX Z Y) {x : Int32} (hd : decode Y.1 pc = .ok (.ineg, 1)) (k : V Z Y hp (pc + 1) L (.int (-x) :: st)) : V Z Y hp pc L (.int x :: st) := fun H locs ls hP hS h => lv_ineg X.1 X.2.1 hd (k H locs ls hP hS h)
theorem R_idiv (X : CX Z Y) {x y : Int32} (hd : decode Y.1 pc = .ok (.idiv, 1)) (hne : ¬ y = 0) (k : V Z Y hp (pc + 1) L (.int (x / y) :: st)) : V Z Y hp pc L (.int y :: .int x :: st) := fun H locs ls hP hS h => lv_idiv X.1 X.2.1 hd hne (k H locs ls hP hS h)
theorem R_irem (X : CX Z Y) {x y : Int32} (hd : decode Y.1 pc = .ok (.irem, 1)) (hne : ¬ y = 0) (k : V Z Y hp (pc + 1) L (.int (x - x / y * y) :: st)) : V Z Y hp pc L (.int y :: .int x :: st) := fun H locs ls hP hS h => lv_irem X.1 X.2.1 hd hne (k H locs ls hP hS h)
theorem R_ladd (X : CX Z Y) {x y : Int64} (hd : decode Y.1 pc = .ok (.ladd, 1)) (k : V Z Y hp (pc + 1) L (.long (x + y) :: st)) : V Z Y hp pc L (.long y :: .long x :: st) := fun H locs ls hP hS h => lv_ladd X.1 X.2.1 hd (k H locs ls hP hS h)
theorem R_lmul (X : CX Z Y) {x y : Int64} (hd : decode Y.1 pc = .ok (.lmul, 1)) (k : V Z Y hp (pc + 1) L (.long (x * y) :: st)) : V Z Y hp pc L (.long y :: .long x :: st) := fun H locs ls hP hS h => lv_lmul X.1 X.2.1 hd (k H locs ls hP hS h)
theorem R_land (X : CX Z Y) {x y : Int64} (hd : decode Y.1 pc = .ok (.land, 1)) (k : V Z Y hp (pc + 1) L (.long (x &&& y) :: st)) : V Z Y hp pc L (.long y :: .long x :: st) := fun H locs ls hP hS h => lv_land X.1 X.2.1 hd (k H locs ls hP hS h)
theorem R_ldiv (X : CX Z Y) {x y : Int64} (hd : decode Y.1 pc = .ok (.ldiv, 1)) (hne : ¬ y = 0) (k : V Z Y hp (pc + 1) L (.long (x / y) :: st)) : V Z Y hp pc L (.long y :: .long x :: st) := fun H locs ls hP hS h => lv_ldiv X.1 X.2.1 hd hne (k H locs ls hP hS h)
theorem R_lrem (X : CX Z Y) {x y : Int64} (hd : decode Y.1 pc = .ok (.lrem, 1)) (hne : ¬ y = 0) (k : V Z Y hp (pc + 1) L (.long (x - x / y * y) :: st)) : V Z Y hp pc L (.long y :: .long x :: st) := fun H locs ls hP hS h => lv_lrem X.1 X.2.1 hd hne (k H locs ls hP hS h)
theorem R_lcmp (X : CX Z Y) {x y : Int64} (hd : decode Y.1 pc = .ok (.lcmp, 1)) (k : V Z Y hp (pc + 1) L (.int (lg_cmp x y) :: st)) : V Z Y hp pc L (.long y :: .long x :: st) := fun H locs ls hP hS h => W.lcmp X.1 X.2.1 hd (k H locs ls hP hS h)
theorem R_i2l (X : CX Z Y) {x : Int32} (hd : decode Y.1 pc = .ok (.i2l, 1)) (k : V Z Y hp (pc + 1) L (.long x.toInt64 :: st)) : V Z Y hp pc L (.int x :: st) := fun H locs ls hP hS h => lv_i2l X.1 X.2.1 hd rfl (k H locs ls hP hS h)
theorem R_l2i (X : CX Z Y) {x : Int64} (hd : decode Y.1 pc = .ok (.l2i, 1)) (k : V Z Y hp (pc + 1) L (.int x.toInt32 :: st)) : V Z Y hp pc L (.long x :: st) := fun H locs ls hP hS h => lv_l2i X.1 X.2.1 hd rfl (k H locs ls hP hS h)
theorem R_dup (X : CX Z Y) {v : Value} (hd : decode Y.1 pc = .ok (.dup, 1)) (hv : v.category = 1) (k : V Z Y hp (pc + 1) L (v :: v :: st)) : V Z Y hp pc L (v :: st) := fun H locs ls hP hS h => lv_dup X.1 X.2.1 hd hv (k H locs ls hP hS h)
theorem R_goto (X : CX Z Y) {off : Int} {tgt : Nat} (hd : decode Y.1 pc = .ok (.goto off, 3)) (ht : (pc : Int) + off = (tgt : Int)) (k : V Z Y hp tgt L st) : V Z Y hp pc L st := fun H locs ls hP hS h => lv_goto X.1 X.2.1 hd ht (k H locs ls hP hS h)
theorem R_ifeq (X : CX Z Y) {x : Int32} {off : Int} {tgt : Nat} (hd : decode Y.1 pc = .ok (.ifCond .eq off, 3)) (ht : (pc : Int) + off = (tgt : Int)) (kt : x = 0 → V Z Y hp tgt L st) (kf : ¬ x = 0 → V Z Y hp (pc + 3) L st) : V Z Y hp pc L (.int x :: st) := fun H locs ls hP hS h => lv_if_eq X.1 X.2.1 hd ht (fun c => kt c H locs ls hP hS h) (fun c => kf c H locs ls hP hS h)
theorem R_ifne (X : CX Z Y) {x : Int32} {off : Int} {tgt : Nat} (hd : decode Y.1 pc = .ok (.ifCond .ne off, 3)) (ht : (pc : Int) + off = (tgt : Int)) (kt : ¬ x = 0 → V Z Y hp tgt L st) (kf : x = 0 → V Z Y hp (pc + 3) L st) : V Z Y hp pc L (.int x :: st) := fun H locs ls hP hS h => lv_if_ne X.1 X.2.1 hd ht (fun c => kt c H locs ls hP hS h) (fun c => kf c H locs ls hP hS h)
theorem R_iflt (X : CX Z Y) {x : Int32} {off : Int} {tgt : Nat} (hd : decode Y.1 pc = .ok (.ifCond .lt off, 3)) (ht : (pc : Int) + off = (tgt : Int)) (kt : x < 0 → V Z Y hp tgt L st) (kf : ¬ x < 0 → V Z Y hp (pc + 3) L st) : V Z Y hp pc L (.int x :: st) := fun H locs ls hP hS h => lv_if_lt X.1 X.2.1 hd ht (fun c => kt c H locs ls hP hS h) (fun c => kf c H locs ls hP hS h)
theorem R_ifge (X : CX Z Y) {x : Int32} {off : Int} {tgt : Nat} (hd : decode Y.1 pc = .ok (.ifCond .ge off, 3)) (ht : (pc : Int) + off = (tgt : Int)) (kt : 0 ≤ x → V Z Y hp tgt L st) (kf : ¬ 0 ≤ x → V Z Y hp (pc + 3) L st) : V Z Y hp pc L (.int x :: st) := fun H locs ls hP hS h => lv_if_ge X.1 X.2.1 hd ht (fun c => kt c H locs ls hP hS h) (fun c => kf c H locs ls hP hS h)
theorem R_ifgt (X : CX Z Y) {x : Int32} {off : Int} {tgt : Nat} (hd : decode Y.1 pc = .ok (.ifCond .gt off, 3)) (ht : (pc : Int) + off = (tgt : Int)) (kt : 0 < x → V Z Y hp tgt L st) (kf : ¬ 0 < x → V Z Y hp (pc + 3) L st) : V Z Y hp pc L (.int x :: st) := fun H locs ls hP hS h => lv_if_gt X.1 X.2.1 hd ht (fun c => kt c H locs ls hP hS h) (fun c => kf c H locs ls hP hS h)
theorem R_ifle (X : CX Z Y) {x : Int32} {off : Int} {tgt : Nat} (hd : decode Y.1 pc = .ok (.ifCond .le off, 3)) (ht : (pc : Int) + off = (tgt : Int)) (kt : x ≤ 0 → V Z Y hp tgt L st) (kf : ¬ x ≤ 0 → V Z Y hp (pc + 3) L st) : V Z Y hp pc L (.int x :: st) := fun H locs ls hP hS h => lv_if_le X.1 X.2.1 hd ht (fun c => kt c H locs ls hP hS h) (fun c => kf c H locs ls hP hS h)
theorem R_icmp_eq (X : CX Z Y) {x y : Int32} {off : Int} {tgt : Nat} (hd : decode Y.1 pc = .ok (.if_icmp .eq off, 3)) (ht : (pc : Int) + off = (tgt : Int)) (kt : x = y → V Z Y hp tgt L st) (kf : ¬ x = y → V Z Y hp (pc + 3) L st) : V Z Y hp pc L (.int y :: .int x :: st) := fun H locs ls hP hS h => lv_icmp_eq X.1 X.2.1 hd ht (fun c => kt c H locs ls hP hS h) (fun c => kf c H locs ls hP hS h)
theorem R_icmp_ne (X : CX Z Y) {x y : Int32} {off : Int} {tgt : Nat} (hd : decode Y.1 pc = .ok (.if_icmp .ne off, 3)) (ht : (pc : Int) + off = (tgt : Int)) (kt : ¬ x = y → V Z Y hp tgt L st) (kf : x = y → V Z Y hp (pc + 3) L st) : V Z Y hp pc L (.int y :: .int x :: st) := fun H locs ls hP hS h => lv_icmp_ne X.1 X.2.1 hd ht (fun c => kt c H locs ls hP hS h) (fun c => kf c H locs ls hP hS h)
theorem R_icmp_lt (X : CX Z Y) {x y : Int32} {off : Int} {tgt : Nat} (hd : decode Y.1 pc = .ok (.if_icmp .lt off, 3)) (ht : (pc : Int) + off = (tgt : Int)) (kt : x < y → V Z Y hp tgt L st) (kf : ¬ x < y → V Z Y hp (pc + 3) L st) : V Z Y hp pc L (.int y :: .int x :: st) := fun H locs ls hP hS h => lv_icmp_lt X.1 X.2.1 hd ht (fun c => kt c H locs ls hP hS h) (fun c => kf c H locs ls hP hS h)
theorem R_icmp_ge (X : CX Z Y) {x y : Int32} {off : Int} {tgt : Nat} (hd : decode Y.1 pc = .ok (.if_icmp .ge off, 3)) (ht : (pc : Int) + off = (tgt : Int)) (kt : y ≤ x → V Z Y hp tgt L st) (kf : ¬ y ≤ x → V Z Y hp (pc + 3) L st) : V Z Y hp pc L (.int y :: .int x :: st) := fun H locs ls hP hS h => lv_icmp_ge X.1 X.2.1 hd ht (fun c => kt c H locs ls hP hS h) (fun c => kf c H locs ls hP hS h)
theorem R_icmp_gt (X : CX Z Y) {x y : Int32} {off : Int} {tgt : Nat} (hd : decode Y.1 pc = .ok (.if_icmp .gt off, 3)) (ht : (pc : Int) + off = (tgt : Int)) (kt : y < x → V Z Y hp tgt L st) (kf : ¬ y < x → V Z Y hp (pc + 3) L st) : V Z Y hp pc L (.int y :: .int x :: st) := fun H locs ls hP hS h => lv_icmp_gt X.1 X.2.1 hd ht (fun c => kt c H locs ls hP hS h) (fun c => kf c H locs ls hP hS h)
theorem R_icmp_le (X : CX Z Y) {x y : Int32} {off : Int} {tgt : Nat} (hd : decode Y.1 pc = .ok (.if_icmp .le off, 3)) (ht : (pc : Int) + off = (tgt : Int)) (kt : x ≤ y → V Z Y hp tgt L st) (kf : ¬ x ≤ y → V Z Y hp (pc + 3) L st) : V Z Y hp pc L (.int y :: .int x :: st) := fun H locs ls hP hS h => lv_icmp_le X.1 X.2.1 hd ht (fun c => kt c H locs ls hP hS h) (fun c => kf c H locs ls hP hS h)
end Rows
end
section
/-! Rows of fields, arrays, switches, calls, ends. -/
def inb (i : Int32) (n : Nat) : Bool := decide (0 ≤ i.toInt ∧ i.toInt < n)
theorem inb_in {i : Int32} {n : Nat} (h : inb i n = true) : vp_in i n := vp_in_iff.mpr (of_decide_eq_true h)
def bz (x : Int32) : Int32 := vp_nar .boolean x
def rz (v : Int32) (hp : HP) : Option (Int32 × HP) := if v = 0 ∨ v = 1 then some (v, hp) else none
def mx (x y : Int32) : Int32 := if x < y then y else x
def mn (x y : Int32) : Int32 := if y < x then y else x
def isB (q : Nat) : Bool := q == 87 || q == 93
def isS (q : Nat) : Bool := decide (q < 118) && (sh q == (5, 0))
theorem ob {α β : Type} {o : Option α} {k : α → Option β} {x : β} (h : o.bind k = some x) : ∃ p, o = some p ∧ k p = some x := by
  cases o with
  | none => cases h
  | some p => exact ⟨p, rfl, h⟩
theorem ck {α : Type} {b : Bool} {a : Option α} {x : α} (h : (if b = true then a else none) = some x) : b = true ∧ a = some x := by
  by_cases hb : b = true
  · rw [if_pos hb] at h
    exact ⟨hb, h⟩
  · rw [if_neg hb] at h
    cases h
theorem cz {α : Type} {c : Prop} {_ : Decidable c} {a : Option α} {x : α} (h : (if c then none else a) = some x) : ¬ c ∧ a = some x := by
  by_cases hb : c
  · rw [if_pos hb] at h
    cases h
  · rw [if_neg hb] at h
    exact ⟨hb, h⟩
theorem sw_def {x : Int32} (n : Nat) (hn : n < 2 ^ 31) (h : ∀ k : Nat, k < n → ¬ x = nI k) : x.toInt < 0 ∨ (n : Int) - 1 < x.toInt := by
  rcases Int.lt_or_le x.toInt 0 with h0 | h0
  · exact Or.inl h0
  · rcases Int.lt_or_le ((n : Int) - 1) x.toInt with h1 | h1
    · exact Or.inr h1
    · exfalso
      obtain ⟨j, hj⟩ := Int.eq_ofNat_of_zero_le h0
      refine h j (by omega) (Int32.toInt_inj.mp ?_)
      rw [hj, nI_toInt (by omega)]
theorem B_all : ∀ q, isB q = true → (q < NC ∧ sh q = (0, 0)) ∧ (q + 1 < NC ∧ sh (q + 1) = (20, 8)) ∧ (q + 2 < NC ∧ sh (q + 2) = (20, 5)) ∧ (q + 3 < NC ∧ sh (q + 3) = (20, 5)) ∧ (q + 4 < NC ∧ sh (q + 4) = (20, 5)) ∧ (q + 5 < NC ∧ sh (q + 5) = (20, 6)) := by
  intro q h
  have : q = 87 ∨ q = 93 := by simpa [isB] using h
  rcases this with rfl | rfl <;> decide
theorem S_all : ∀ q, isS q = true → (q < NC ∧ sh q = (5, 0)) ∧ (q + 1 < NC ∧ sh (q + 1) = (20, 5)) ∧ (q + 2 < NC ∧ sh (q + 2) = (20, 25)) := by
  intro q h
  have hq : q < 118 := by
    unfold isS at h
    simp only [Bool.and_eq_true, decide_eq_true_eq] at h
    exact h.1
  have key : ∀ q, q < 118 → isS q = true → (q < NC ∧ sh q = (5, 0)) ∧ (q + 1 < NC ∧ sh (q + 1) = (20, 5)) ∧ (q + 2 < NC ∧ sh (q + 2) = (20, 25)) := by decide +kernel
  exact key q hq h
section HeapRows
theorem V_pc {Z : ZT} {Y : YT} {hp : HP} {pc pc' : Nat} {L : List (Nat × Value)} {st : List Value} (h : pc = pc') (k : V Z Y hp pc' L st) : V Z Y hp pc L st := h ▸ k
variable {Z : ZT} {Y : YT} {hp : HP} {pc : Nat} {L : List (Nat × Value)} {st : List Value}
theorem R_dup2 (X : CX Z Y) {v w : Value} (hd : decode Y.1 pc = .ok (.dup2, 1)) (hv : v.category = 1) (hw : w.category = 1) (k : V Z Y hp (pc + 1) L (v :: w :: v :: w :: st)) : V Z Y hp pc L (v :: w :: st) := fun H locs ls hP hS h => lv_dup2_11 X.1 X.2.1 hd hv hw (k H locs ls hP hS h)
theorem R_ldcw (X : CX Z Y) {i : Nat} {v : Int32} (hw : Cond.constant Y.2.1 i v ∈ TB) (hd : decode Y.1 pc = .ok (.ldc_w i, 3)) (k : V Z Y hp (pc + 3) L (.int v :: st)) : V Z Y hp pc L st := fun H locs ls hP hS h => lv_ldcw X.1 X.2.1 X.2.2.2.1 (X.2.2.2.2.1 _ hw) hd (k H locs ls hP hS h)
theorem R_swOut (X : CX Z Y) {dflt lo hi : Int} {offs : Array Int} {len : Nat} {x : Int32} {tgt : Nat} (hd : decode Y.1 pc = .ok (.tableswitch dflt lo hi offs, len)) (h9 : x.toInt < lo ∨ hi < x.toInt) (ht : (pc : Int) + dflt = (tgt : Int)) (k : V Z Y hp tgt L st) : V Z Y hp pc L (.int x :: st) := fun H locs ls hP hS h => lv_tableOut X.1 X.2.1 hd h9 ht (k H locs ls hP hS h)
theorem R_swIn (X : CX Z Y) {dflt lo hi : Int} {offs : Array Int} {len : Nat} {x : Int32} {off : Int} {tgt : Nat} (hd : decode Y.1 pc = .ok (.tableswitch dflt lo hi offs, len)) (n : Int) (hx : x.toInt = n) (h1 : ¬ n < lo) (h2 : ¬ hi < n) (ho : offs[(n - lo).toNat]? = some off) (ht : (pc : Int) + off = (tgt : Int)) (k : V Z Y hp tgt L st) : V Z Y hp pc L (.int x :: st) := fun H locs ls hP hS h => lv_tableIn X.1 X.2.1 hd (by rw [hx]; exact h1) (by rw [hx]; exact h2) (by rw [hx]; exact ho) ht (k H locs ls hP hS h)
/-- a field that holds an int -/
theorem R_getI (X : CX Z Y) {C : String} {T : u_T} {N ci idx k : Nat} (hc : classes[ci]? = some (C, T, N)) (hin : ∀ w ∈ u_ws C T N, w ∈ TB) (hk : k < NC) (hs : sh k = (ci, 0)) (j : Nat) (hf : fk ci j = (0, 0)) (hj : (decide (j < N) && decide (j < nf ci) && decide (ci < 20)) = true) (hlink : Cond.fieldLink Y.2.1 idx (T j).1 (T j).2.1 (T j).2.2.1 ∈ TB) (hd : decode Y.1 pc = .ok (.getfield idx, 3)) (kk : V Z Y hp (pc + 3) L (.int (hp k j) :: st)) : V Z Y hp pc L (.ref (gA (zG Z) k) :: st) := by
  intro H locs ls hP hS h
  simp only [Bool.and_eq_true, decide_eq_true_eq] at hj
  have he := wsO_at (zG Z) hp hk
  rw [ent_o _ _ hj.2 hs] at he
  have hv := flds_at (gA (zG Z)) hp k hj.1.2
  rw [hf] at hv
  exact va_get (D := gD (zG Z)) X.1 X.2.1 X.2.2.2.2.1 hin X.2.2.2.1 X.2.2.2.2.2.1.1 hP k he hc j hj.1.1 (X.2.2.2.2.1 _ hlink) (fun _ h9 => h9) hv hd (kk H locs ls hP hS h)
/-- a field that holds a reference that never changes -/
theorem R_getR (X : CX Z Y) {C : String} {T : u_T} {N ci idx k : Nat} (hc : classes[ci]? = some (C, T, N)) (hin : ∀ w ∈ u_ws C T N, w ∈ TB) (hk : k < NC) (hs : sh k = (ci, 0)) (j : Nat) {o : Nat} (hf : fk ci j = (1, o)) (hj : (decide (j < N) && decide (j < nf ci) && decide (ci < 20)) = true) (hlink : Cond.fieldLink Y.2.1 idx (T j).1 (T j).2.1 (T j).2.2.1 ∈ TB) (hd : decode Y.1 pc = .ok (.getfield idx, 3)) (kk : V Z Y hp (pc + 3) L (.ref (gA (zG Z) (k + o)) :: st)) : V Z Y hp pc L (.ref (gA (zG Z) k) :: st) := by
  intro H locs ls hP hS h
  simp only [Bool.and_eq_true, decide_eq_true_eq] at hj
  have he := wsO_at (zG Z) hp hk
  rw [ent_o _ _ hj.2 hs] at he
  have hv := flds_at (gA (zG Z)) hp k hj.1.2
  rw [hf] at hv
  exact va_get (D := gD (zG Z)) X.1 X.2.1 X.2.2.2.2.1 hin X.2.2.2.1 X.2.2.2.2.2.1.1 hP k he hc j hj.1.1 (X.2.2.2.2.1 _ hlink) (fun _ h9 => h9) hv hd (kk H locs ls hP hS h)
/-- a field that holds a reference that changes: the heap has its cell's number -/
theorem R_getD (X : CX Z Y) {C : String} {T : u_T} {N ci idx k : Nat} (hc : classes[ci]? = some (C, T, N)) (hin : ∀ w ∈ u_ws C T N, w ∈ TB) (hk : k < NC) (hs : sh k = (ci, 0)) (j : Nat) (hf : fk ci j = (2, 0)) (hj : (decide (j < N) && decide (j < nf ci) && decide (ci < 20)) = true) (hlink : Cond.fieldLink Y.2.1 idx (T j).1 (T j).2.1 (T j).2.2.1 ∈ TB) (hd : decode Y.1 pc = .ok (.getfield idx, 3)) (kk : V Z Y hp (pc + 3) L (.ref (gA (zG Z) (hp k j).toNatClampNeg) :: st)) : V Z Y hp pc L (.ref (gA (zG Z) k) :: st) := by
  intro H locs ls hP hS h
  simp only [Bool.and_eq_true, decide_eq_true_eq] at hj
  have he := wsO_at (zG Z) hp hk
  rw [ent_o _ _ hj.2 hs] at he
  have hv := flds_at (gA (zG Z)) hp k hj.1.2
  rw [hf] at hv
  exact va_get (D := gD (zG Z)) X.1 X.2.1 X.2.2.2.2.1 hin X.2.2.2.1 X.2.2.2.2.2.1.1 hP k he hc j hj.1.1 (X.2.2.2.2.1 _ hlink) (fun _ h9 => h9) hv hd (kk H locs ls hP hS h)
theorem put_world {G : GT} {k ci j : Nat} {v : Int32} (hk : k < NC) (hs : sh k = (ci, 0)) (hci : ci < 20) (hj : j < nf ci) : (wsO G hp).set k (gA G k, .inr (ci, (flds (gA G) hp k ci).set j (fv (gA G) (up hp k j v) k (fk ci j) j))) = wsO G (up hp k j v) := by
  rw [flds_set _ _ _ _ hj, ← ent_o G (up hp k j v) hci hs]
  exact wsO_set G hp _ hk
theorem R_putI (X : CX Z Y) {C : String} {T : u_T} {ty0 : Nat → FieldType} {N ci idx k : Nat} {v : Int32} (hc : classes[ci]? = some (C, T, N)) (hin : ∀ w ∈ u_ws C T N, w ∈ TB) (hty : ∀ k, k < N → parseFieldDescriptor (T k).2.2.1 = some (ty0 k)) (hnm : ∀ a, a < N → ∀ b, b < N → a ≠ b → (T a).2.1 ≠ (T b).2.1) (hk : k < NC) (hs : sh k = (ci, 0)) (j : Nat) (hf : fk ci j = (0, 0)) (hj : (decide (j < N) && decide (j < nf ci) && decide (ci < 20)) = true) (hfin : (T j).2.2.2 = false) (hdj : parseFieldDescriptor (T j).2.2.1 = some .int) (hlink : Cond.fieldLink Y.2.1 idx (T j).1 (T j).2.1 (T j).2.2.1 ∈ TB) (hd : decode Y.1 pc = .ok (.putfield idx, 3)) (kk : V Z Y (up hp k j v) (pc + 3) L st) : V Z Y hp pc L (.int v :: .ref (gA (zG Z) k) :: st) := by
  intro H locs ls hP hS h
  simp only [Bool.and_eq_true, decide_eq_true_eq] at hj
  have he := wsO_at (zG Z) hp hk
  rw [ent_o _ _ hj.2 hs] at he
  refine va_put (D := gD (zG Z)) (v := .int v) (ty := .int) X.1 X.2.1 X.2.2.2.2.1 hin ty0 hty hnm X.2.2.2.1 X.2.2.2.2.2.1.1 hP (X.D hp) hS k he hc j hj.1.1 (X.2.2.2.2.1 _ hlink) (fun _ h9 => h9) hfin hdj rfl rfl (by rw [flds_len]; exact hj.1.2) hd (fun H1 locs1 hP1 _ hS1 => ?_)
  have e : Value.int v = fv (gA (zG Z)) (up hp k j v) k (fk ci j) j := by
    rw [hf]
    show Value.int v = .int (up hp k j v k j)
    unfold up
    rw [setc_at]
    unfold upd
    rw [if_pos rfl]
  rw [e, put_world hk hs hj.2 hj.1.2] at hP1
  exact kk H1 locs1 ls hP1 hS1 h
theorem R_putD (X : CX Z Y) {C D : String} {T : u_T} {ty0 : Nat → FieldType} {N ci idx k q : Nat} (hc : classes[ci]? = some (C, T, N)) (hin : ∀ w ∈ u_ws C T N, w ∈ TB) (hty : ∀ k, k < N → parseFieldDescriptor (T k).2.2.1 = some (ty0 k)) (hnm : ∀ a, a < N → ∀ b, b < N → a ≠ b → (T a).2.1 ≠ (T b).2.1) (hk : k < NC) (hs : sh k = (ci, 0)) (j : Nat) (hf : fk ci j = (2, 0)) (hj : (decide (j < N) && decide (j < nf ci) && decide (ci < 20)) = true) (hfin : (T j).2.2.2 = false) (hdj : parseFieldDescriptor (T j).2.2.1 = some (.object D)) (hq : q < NC) (hlink : Cond.fieldLink Y.2.1 idx (T j).1 (T j).2.1 (T j).2.2.1 ∈ TB) (hd : decode Y.1 pc = .ok (.putfield idx, 3)) (kk : V Z Y (up hp k j (nI q)) (pc + 3) L st) : V Z Y hp pc L (.ref (gA (zG Z) q) :: .ref (gA (zG Z) k) :: st) := by
  intro H locs ls hP hS h
  simp only [Bool.and_eq_true, decide_eq_true_eq] at hj
  have he := wsO_at (zG Z) hp hk
  rw [ent_o _ _ hj.2 hs] at he
  refine va_put (D := gD (zG Z)) (v := .ref (gA (zG Z) q)) (ty := .object D) X.1 X.2.1 X.2.2.2.2.1 hin ty0 hty hnm X.2.2.2.1 X.2.2.2.2.2.1.1 hP (X.D hp) hS k he hc j hj.1.1 (X.2.2.2.2.1 _ hlink) (fun _ h9 => h9) hfin hdj rfl rfl (by rw [flds_len]; exact hj.1.2) hd (fun H1 locs1 hP1 _ hS1 => ?_)
  have e : Value.ref (gA (zG Z) q) = fv (gA (zG Z)) (up hp k j (nI q)) k (fk ci j) j := by
    rw [hf]
    show Value.ref (gA (zG Z) q) = .ref (gA (zG Z) (up hp k j (nI q) k j).toNatClampNeg)
    unfold up
    rw [setc_at]
    unfold upd
    rw [if_pos rfl, nI_clamp (Nat.lt_trans hq (by decide))]
  rw [e, put_world hk hs hj.2 hj.1.2] at hP1
  exact kk H1 locs1 ls hP1 hS1 h
theorem R_iald (X : CX Z Y) {k n : Nat} {i : Int32} (hk : k < NC) (hs : sh k = (20, n)) (hi : inb i n = true) (hd : decode Y.1 pc = .ok (.iaload, 1)) (kk : V Z Y hp (pc + 1) L (.int (hp k i.toNatClampNeg) :: st)) : V Z Y hp pc L (.int i :: .ref (gA (zG Z) k) :: st) := by
  intro H locs ls hP hS h
  have he := wsO_at (zG Z) hp hk
  rw [ent_i _ _ hs] at he
  exact va_iald X.1 X.2.1 X.2.2.2.2.2.1.1 hP k 0 he rfl (inb_in hi) hd (kk H locs ls hP hS h)
theorem R_zald (X : CX Z Y) {k n : Nat} {i : Int32} (hk : k < NC) (hs : sh k = (21, n)) (hi : inb i n = true) (hd : decode Y.1 pc = .ok (.baload, 1)) (kk : V Z Y hp (pc + 1) L (.int (hp k i.toNatClampNeg) :: st)) : V Z Y hp pc L (.int i :: .ref (gA (zG Z) k) :: st) := by
  intro H locs ls hP hS h
  have he := wsO_at (zG Z) hp hk
  rw [ent_z _ _ hs] at he
  exact va_zald X.1 X.2.1 X.2.2.2.2.2.1.1 hP k 1 he rfl (inb_in hi) hd (kk H locs ls hP hS h)
theorem R_aald (X : CX Z Y) {k n : Nat} {i : Int32} (hk : k < NC) (hs : sh k = (22, n)) (hi : inb i n = true) (hd : decode Y.1 pc = .ok (.aaload, 1)) (kk : V Z Y hp (pc + 1) L (.ref (gA (zG Z) (k + 1 + 3 * i.toNatClampNeg)) :: st)) : V Z Y hp pc L (.int i :: .ref (gA (zG Z) k) :: st) := by
  intro H locs ls hP hS h
  have he := wsO_at (zG Z) hp hk
  rw [ent_q _ _ hs] at he
  exact va_aldq X.1 X.2.1 X.2.2.2.2.2.1.1 hP k 2 he rfl (inb_in hi) hd (kk H locs ls hP hS h)
theorem R_iast (X : CX Z Y) {k n : Nat} {i x : Int32} (hk : k < NC) (hs : sh k = (20, n)) (hi : inb i n = true) (hd : decode Y.1 pc = .ok (.iastore, 1)) (kk : V Z Y (up hp k i.toNatClampNeg x) (pc + 1) L st) : V Z Y hp pc L (.int x :: .int i :: .ref (gA (zG Z) k) :: st) := by
  intro H locs ls hP hS h
  have he := wsO_at (zG Z) hp hk
  rw [ent_i _ _ hs] at he
  refine va_iast X.1 X.2.1 X.2.2.2.2.2.1.1 hP (X.D hp) hS k 0 he rfl (inb_in hi) hd (fun H1 locs1 hP1 _ hS1 => kk H1 locs1 ls ?_ hS1 h)
  have e := ent_i (zG Z) (up hp k i.toNatClampNeg x) hs
  rw [show up hp k i.toNatClampNeg x k = upd (hp k) i.toNatClampNeg x from setc_at _ _ _] at e
  rw [← e, show up hp k i.toNatClampNeg x = setc hp k (upd (hp k) i.toNatClampNeg x) from rfl, wsO_set _ _ _ hk] at hP1
  exact hP1
theorem R_zast (X : CX Z Y) {k n : Nat} {i x : Int32} (hk : k < NC) (hs : sh k = (21, n)) (hi : inb i n = true) (hd : decode Y.1 pc = .ok (.bastore, 1)) (kk : V Z Y (up hp k i.toNatClampNeg (bz x)) (pc + 1) L st) : V Z Y hp pc L (.int x :: .int i :: .ref (gA (zG Z) k) :: st) := by
  intro H locs ls hP hS h
  have he := wsO_at (zG Z) hp hk
  rw [ent_z _ _ hs] at he
  refine va_zast X.1 X.2.1 X.2.2.2.2.2.1.1 hP (X.D hp) hS k 1 he rfl (inb_in hi) hd (fun H1 locs1 hP1 _ hS1 => kk H1 locs1 ls ?_ hS1 h)
  have e := ent_z (zG Z) (up hp k i.toNatClampNeg (bz x)) hs
  rw [show up hp k i.toNatClampNeg (bz x) k = upd (hp k) i.toNatClampNeg (bz x) from setc_at _ _ _] at e
  rw [show vp_nar .boolean x = bz x from rfl, ← e, show up hp k i.toNatClampNeg (bz x) = setc hp k (upd (hp k) i.toNatClampNeg (bz x)) from rfl, wsO_set _ _ _ hk] at hP1
  exact hP1
theorem R_alen (X : CX Z Y) {k n : Nat} (hk : k < NC) (hs : sh k = (20, n)) (hd : decode Y.1 pc = .ok (.arraylength, 1)) (kk : V Z Y hp (pc + 1) L (.int (Int32.ofNat n) :: st)) : V Z Y hp pc L (.ref (gA (zG Z) k) :: st) := by
  intro H locs ls hP hS h
  have he := wsO_at (zG Z) hp hk
  rw [ent_i _ _ hs] at he
  exact va_alen X.1 X.2.1 X.2.2.2.2.2.1.1 hP k 0 he (ty := .int) rfl rfl hd (kk H locs ls hP hS h)
theorem R_mmax (X : CX Z Y) {idx : Nat} {x y : Int32} (hl : Cond.methodLink Y.2.1 idx Lib.Math.max.name ∈ TB) (h1 : Cond.static Lib.Math.max.name ∈ TB) (h2 : Cond.initialized "java/lang/Math" ∈ TB) (h3 : Cond.code Lib.Math.max.name Lib.Math.max.code 2 (some .int) ∈ TB) (hy : (decide (0 < Y.2.2.2) && decide ((st.map fun v => v.category).sum ≤ 8)) = true) (hd : decode Y.1 pc = .ok (.invokestatic idx, 3)) (kk : V Z Y hp (pc + 3) L (.int (mx x y) :: st)) : V Z Y hp pc L (.int y :: .int x :: st) := by
  intro H locs ls hP hS h
  simp only [Bool.and_eq_true, decide_eq_true_eq] at hy
  obtain ⟨r1, r2, r3, r4⟩ := X.2.2.2.2.2.2.2
  exact va_mmax X.1 X.2.1 (X.2.2.1.trans h.1.symm) X.2.2.2.1 (X.2.2.2.2.1 _ hl) (X.2.2.2.2.1 _ h1) (X.2.2.2.2.1 _ h2) (X.2.2.2.2.1 _ h3) (by omega) (by omega) r3 r4 hd (kk H locs ls hP hS h)
theorem R_mmin (X : CX Z Y) {idx : Nat} {x y : Int32} (hl : Cond.methodLink Y.2.1 idx Lib.Math.min.name ∈ TB) (h1 : Cond.static Lib.Math.min.name ∈ TB) (h2 : Cond.initialized "java/lang/Math" ∈ TB) (h3 : Cond.code Lib.Math.min.name Lib.Math.min.code 2 (some .int) ∈ TB) (hy : (decide (0 < Y.2.2.2) && decide ((st.map fun v => v.category).sum ≤ 8)) = true) (hd : decode Y.1 pc = .ok (.invokestatic idx, 3)) (kk : V Z Y hp (pc + 3) L (.int (mn x y) :: st)) : V Z Y hp pc L (.int y :: .int x :: st) := by
  intro H locs ls hP hS h
  simp only [Bool.and_eq_true, decide_eq_true_eq] at hy
  obtain ⟨r1, r2, r3, r4⟩ := X.2.2.2.2.2.2.2
  exact va_mmin X.1 X.2.1 (X.2.2.1.trans h.1.symm) X.2.2.2.1 (X.2.2.2.2.1 _ hl) (X.2.2.2.2.1 _ h1) (X.2.2.2.2.1 _ h2) (X.2.2.2.2.1 _ h3) (by omega) (by omega) r3 r4 hd (kk H locs ls hP hS h)
theorem R_copy (X : CX Z Y) {idx k0 k1 n0 n1 : Nat} {sp dp n : Int32} (hl : Cond.methodLink Y.2.1 idx arraycopyName ∈ TB) (h1 : Cond.native arraycopyName ∈ TB) (h2 : Cond.static arraycopyName ∈ TB) (h3 : Cond.initialized "java/lang/System" ∈ TB) (hk0 : k0 < NC) (hs0 : sh k0 = (20, n0)) (hk1 : k1 < NC) (hs1 : sh k1 = (20, n1)) (hb : (decide (0 ≤ sp.toInt) && decide (0 ≤ dp.toInt) && decide (0 ≤ n.toInt) && decide (sp.toNatClampNeg + n.toNatClampNeg ≤ n0) && decide (dp.toNatClampNeg + n.toNatClampNeg ≤ n1)) = true) (hy : (decide (0 < Y.2.2.2) && decide ((st.map fun v => v.category).sum ≤ 8)) = true) (hd : decode Y.1 pc = .ok (.invokestatic idx, 3)) (kk : V Z Y (setc hp k1 (va_cpy (hp k0) (hp k1) sp.toNatClampNeg dp.toNatClampNeg n.toNatClampNeg)) (pc + 3) L st) : V Z Y hp pc L (.int n :: .int dp :: .ref (gA (zG Z) k1) :: .int sp :: .ref (gA (zG Z) k0) :: st) := by
  intro H locs ls hP hS h
  simp only [Bool.and_eq_true, decide_eq_true_eq] at hy hb
  obtain ⟨r1, r2, r3, r4⟩ := X.2.2.2.2.2.2.2
  have he0 := wsO_at (zG Z) hp hk0
  rw [ent_i _ _ hs0] at he0
  have he1 := wsO_at (zG Z) hp hk1
  rw [ent_i _ _ hs1] at he1
  have nz : ∀ z : Int32, 0 ≤ z.toInt → ¬ z < 0 := fun z hz hlt => by
    rw [Int32.lt_iff_toInt_lt] at hlt
    have : (0 : Int32).toInt = 0 := by decide
    omega
  refine va_copyi X.1 X.2.1 (X.2.2.1.trans h.1.symm) X.2.2.2.1 (X.2.2.2.2.1 _ hl) (X.2.2.2.2.1 _ h1) (X.2.2.2.2.1 _ h2) (X.2.2.2.2.1 _ h3) X.2.2.2.2.2.1.1 hP (X.D hp) hS k0 k1 0 0 he0 he1 (ty := .int) rfl rfl rfl (nz _ hb.1.1.1.1) (nz _ hb.1.1.1.2) (nz _ hb.1.1.2) hb.1.2 hb.2 (fun _ _ => rfl) (by omega) (by show _ + (nativeFrameWords "java/lang/System" "arraycopy" 5 + 11) ≤ _; rw [show nativeFrameWords "java/lang/System" "arraycopy" 5 = 7 by decide]; omega) hd (fun H1 locs1 hP1 _ hS1 => kk H1 locs1 ls ?_ hS1 h)
  have e := ent_i (zG Z) (setc hp k1 (va_cpy (hp k0) (hp k1) sp.toNatClampNeg dp.toNatClampNeg n.toNatClampNeg)) hs1
  rw [setc_at] at e
  rw [← e, wsO_set _ _ _ hk1] at hP1
  exact hP1
end HeapRows
end
section
/-! Contracts of methods, calls, ends. -/
def PreW (G : GT) (hp : HP) (U : State) : Prop := va_P (gD G) classes (wsO G hp) U.heap ∧ KK G U
def MI (G : GT) (y : MethodName) (Y : YT) (rt : FieldType) (av : List Value) (hp : HP) (r : Int32) (hp1 : HP) : Prop := ∀ l, Met l y (Cond.code y Y.1 Y.2.2.1 (some rt) :: TB) (rmd Y.2.2.2) (va_Pc av (PreW G hp)) (va_Qi (fun (a : Int32) (u : HP) => a = r ∧ u = hp1) (fun u t => va_P (gD G) classes (wsO G u) t.heap) (AA G)) 0 0 (AA G)
def MV (G : GT) (y : MethodName) (Y : YT) (av : List Value) (hp : HP) (hp1 : HP) : Prop := ∀ l, Met l y (Cond.code y Y.1 Y.2.2.1 none :: TB) (rmd Y.2.2.2) (va_Pc av (PreW G hp)) (va_Qv (fun (u : HP) => u = hp1) (fun u t => va_P (gD G) classes (wsO G u) t.heap) (AA G)) 0 0 (AA G)
def RetI (Z : ZT) (Y : YT) (rt : FieldType) (r : Int32) (hp1 : HP) : Prop := narrow rt (.int r) = .int r → ∀ pc L, decode Y.1 pc = .ok (.ireturn, 1) → V Z Y hp1 pc L [.int r]
def RetV (Z : ZT) (Y : YT) (hp1 : HP) : Prop := ∀ pc L, decode Y.1 pc = .ok (.return_, 1) → V Z Y hp1 pc L []
theorem MI_of {G : GT} {y : MethodName} {Y : YT} {rt : FieldType} {av : List Value} {hp hp1 : HP} {r : Int32} (hy : (plainName y.cls && decide (y.cls = Y.2.1) && decide ((lg_sl av).length ≤ Y.2.2.1)) = true) (h : ∀ Z : ZT, zG Z = G → CX Z Y → RetI Z Y rt r hp1 → V Z Y hp 0 (lv_args 0 av) []) : MI G y Y rt av hp r hp1 := by
  intro l
  simp only [Bool.and_eq_true, decide_eq_true_eq] at hy
  refine Met.ofW (cc := Y.1) (maxL := Y.2.2.1) (ret := some rt) hy.1.1 rfl ?_
  intro p e s m args below meth c s₁ B hml hv
  obtain ⟨rfl, hP, hK⟩ := hv
  have hts : ∀ w ∈ TB, w.before av.toArray s = true := fun w hw => atoms_spec (ws := Cond.code y Y.1 Y.2.2.1 (some rt) :: TB) B.pre w (List.mem_cons_of_mem _ hw)
  have hown : s.vm.findClass y.cls = some m.cls := findClass_of_methodNamed B.named
  rw [hy.1.2] at hown
  have hlocks := B.notSynchronized
  have hS : va_S (AA G) s.heap s.heap [] := va_S.rf
  have hl := lv_entry av (n := Y.2.2.1) hy.2
  rw [lg_entry_eq]
  have X : CX ((p, l, e, rmd Y.2.2.2, s, m), (av.toArray, below, meth, c, 0, 0), (MQ below (va_Qi (fun (a : Int32) (u : HP) => a = r ∧ u = hp1) (fun u t => va_P (gD G) classes (wsO G u) t.heap) (AA G)) av.toArray s 0 0 (AA G), AA G, G)) Y :=
    ⟨B.exec, B.bytes, hml, hown, hts, hK, fun k hk => ⟨k, hk, rfl⟩, Nat.le_refl _, Nat.le_refl _, Nat.le_refl _, Nat.le_refl _⟩
  refine h _ rfl X ?_ s.heap [] _ hP hS hl
  intro hn pc L hd H locs ls hP hS hl
  exact W.zret (v := r) B.exec B.bytes B.returns hn (fun t ht _ => ⟨⟨r, hp1, rfl, ⟨rfl, rfl⟩, by show va_P _ _ _ t.heap; rw [ht]; exact hP⟩, hS.F ht⟩) hS.2.2 hd
theorem MV_of {G : GT} {y : MethodName} {Y : YT} {av : List Value} {hp hp1 : HP} (hy : (plainName y.cls && decide (y.cls = Y.2.1) && decide ((lg_sl av).length ≤ Y.2.2.1)) = true) (h : ∀ Z : ZT, zG Z = G → CX Z Y → RetV Z Y hp1 → V Z Y hp 0 (lv_args 0 av) []) : MV G y Y av hp hp1 := by
  intro l
  simp only [Bool.and_eq_true, decide_eq_true_eq] at hy
  refine Met.ofW (cc := Y.1) (maxL := Y.2.2.1) (ret := none) hy.1.1 rfl ?_
  intro p e s m args below meth c s₁ B hml hv
  obtain ⟨rfl, hP, hK⟩ := hv
  have hts : ∀ w ∈ TB, w.before av.toArray s = true := fun w hw => atoms_spec (ws := Cond.code y Y.1 Y.2.2.1 none :: TB) B.pre w (List.mem_cons_of_mem _ hw)
  have hown : s.vm.findClass y.cls = some m.cls := findClass_of_methodNamed B.named
  rw [hy.1.2] at hown
  have hlocks := B.notSynchronized
  have hS : va_S (AA G) s.heap s.heap [] := va_S.rf
  have hl := lv_entry av (n := Y.2.2.1) hy.2
  rw [lg_entry_eq]
  have X : CX ((p, l, e, rmd Y.2.2.2, s, m), (av.toArray, below, meth, c, 0, 0), (MQ below (va_Qv (fun (u : HP) => u = hp1) (fun u t => va_P (gD G) classes (wsO G u) t.heap) (AA G)) av.toArray s 0 0 (AA G), AA G, G)) Y :=
    ⟨B.exec, B.bytes, hml, hown, hts, hK, fun k hk => ⟨k, hk, rfl⟩, Nat.le_refl _, Nat.le_refl _, Nat.le_refl _, Nat.le_refl _⟩
  refine h _ rfl X ?_ s.heap [] _ hP hS hl
  intro pc L hd H locs ls hP hS hl
  exact W.vret B.exec B.bytes B.returns (fun t ht _ => ⟨⟨hp1, rfl, rfl, by show va_P _ _ _ t.heap; rw [ht]; exact hP⟩, hS.F ht⟩) hS.2.2 hd
/-- what every call of an instance method, of a static method, needs of the tables -/
def CFv (y : MethodName) (Y : YT) (rt : Option FieldType) (n : Nat) : Prop := Cond.instanceMethod y ∈ TB ∧ Cond.selects y.cls y y ∈ TB ∧ Cond.initialized y.cls ∈ TB ∧ Cond.code y Y.1 Y.2.2.1 rt ∈ TB ∧ (y.cls ≠ "java/lang/invoke/MethodHandle" ∧ y.cls ≠ "java/lang/invoke/VarHandle" ∧ (parseMethodDescriptor y.desc).map (fun d => d.parameters.length) = some n)
def CFs (y : MethodName) (Y : YT) (rt : Option FieldType) (n : Nat) : Prop := Cond.static y ∈ TB ∧ Cond.initialized y.cls ∈ TB ∧ Cond.code y Y.1 Y.2.2.1 rt ∈ TB ∧ (y.cls ≠ "java/lang/invoke/MethodHandle" ∧ y.cls ≠ "java/lang/invoke/VarHandle" ∧ (parseMethodDescriptor y.desc).map (fun d => d.parameters.length) = some n)
theorem PreW_blind (G : GT) (hp : HP) (av : List Value) : FrameBlind (va_Pc av (PreW G hp)) := fun _ U _ _ q => ⟨q.1, q.2.1, KK.same (s := U) rfl q.2.2⟩
/-- the most rounds that a loop may take -/
def FU : Nat := 3000
section Calls4
variable {Z : ZT} {Y : YT} {hp hp1 : HP} {pc : Nat} {L : List (Nat × Value)} {st : List Value}
theorem R_ret {p : Int32 × HP} {v : Int32} (hR : RetI Z Y .int p.1 p.2) (h : some (v, hp) = some p) (hd : decode Y.1 pc = .ok (.ireturn, 1)) : V Z Y hp pc L [.int v] := by
  cases h
  exact hR rfl pc L hd
theorem R_retz {p : Int32 × HP} {v : Int32} (hR : RetI Z Y .boolean p.1 p.2) (h : rz v hp = some p) (hd : decode Y.1 pc = .ok (.ireturn, 1)) : V Z Y hp pc L [.int v] := by
  unfold rz at h
  split at h
  · rename_i hv
    cases h
    refine hR ?_ pc L hd
    rcases hv with rfl | rfl
    · exact (by decide : narrow .boolean (.int 0) = .int 0)
    · exact (by decide : narrow .boolean (.int 1) = .int 1)
  · cases h
theorem R_retc {p : Int32 × HP} {v : Int32} (hR : RetI Z Y .boolean p.1 p.2) (hv : narrow .boolean (.int v) = .int v) (h : some (v, hp) = some p) (hd : decode Y.1 pc = .ok (.ireturn, 1)) : V Z Y hp pc L [.int v] := by
  cases h
  exact hR hv pc L hd
theorem R_retv {p : Int32 × HP} {v : Int32} (hR : RetV Z Y p.2) (h : some (v, hp) = some p) (hd : decode Y.1 pc = .ok (.return_, 1)) : V Z Y hp pc L [] := by
  cases h
  exact hR pc L hd
theorem AA_zA (X : CX Z Y) : ∀ q, AA (zG Z) q → zA Z q := fun q hq => by
  obtain ⟨k, hk, rfl⟩ := hq
  exact X.2.2.2.2.2.2.1 k hk
theorem room4 (X : CX Z Y) {Y' : YT} (hdep : (decide (Y'.2.2.2 + 1 ≤ Y.2.2.2) && decide (Y'.2.2.1 ≤ 11)) = true) : (rmd Y'.2.2.2).frames + 1 ≤ (zR Z).frames ∧ 8 + (Y'.2.2.1 + 11) + (rmd Y'.2.2.2).locals ≤ (zR Z).locals := by
  simp only [Bool.and_eq_true, decide_eq_true_eq] at hdep
  obtain ⟨r1, r2, r3, r4⟩ := X.2.2.2.2.2.2.2
  have e1 : (rmd Y'.2.2.2).frames = Y'.2.2.2 := rfl
  have e2 : (rmd Y'.2.2.2).locals = 30 * Y'.2.2.2 := rfl
  omega
theorem R_vcall (X : CX Z Y) {y : MethodName} {Y' : YT} {rt : FieldType} {T : u_T} {N ci idx k n : Nat} {As S : List Value} {r : Int32} (hM : MI (zG Z) y Y' rt (.ref (gA (zG Z) k) :: As) hp r hp1) (hl : Cond.methodLink Y.2.1 idx y ∈ TB) (cf : CFv y Y' (some rt) n) (hk : k < NC) (hs : sh k = (ci, 0)) (hc : classes[ci]? = some (y.cls, T, N)) (hg : (decide (As.length = n) && decide (ci < 20) && decide ((st.map fun v => v.category).sum ≤ 8)) = true) (hdep : (decide (Y'.2.2.2 + 1 ≤ Y.2.2.2) && decide (Y'.2.2.1 ≤ 11)) = true) (hS : S = As.reverse ++ .ref (gA (zG Z) k) :: st) (hd : decode Y.1 pc = .ok (.invokevirtual idx, 3)) (kk : V Z Y hp1 (pc + 3) L (.int r :: st)) : V Z Y hp pc L S := by
  subst hS
  intro H locs ls hP hS h
  simp only [Bool.and_eq_true, decide_eq_true_eq] at hg
  obtain ⟨c1, c2, c3, c4, c5⟩ := cf
  have hts := X.2.2.2.2.1
  obtain ⟨r1, r2, r3, r4⟩ := X.2.2.2.2.2.2.2
  have he := wsO_at (zG Z) hp hk
  rw [ent_o _ _ hg.1.2 hs] at he
  refine va_calli (va_runV (As := As) (rest := st) ⟨X.1, X.2.1, X.2.2.1, X.2.2.2.1, hts⟩ (hM (zl Z)) ⟨callB_of n hts (TB_code c4) rfl rfl rfl (hts _ c3) (hts _ hl) c5 (room4 X hdep), hts _ c1, hts _ c2⟩ ⟨PreW_blind _ _ _, va_recv X.2.2.2.2.2.1.1 hP hc he, fun U hU hW => ⟨rfl, by rw [hU]; exact hP, KK.warm hW X.2.2.2.2.2.1⟩⟩ rfl hg.1.1 h.1 rfl (lv_room hg.2) hd ⟨r3, r4⟩) hS (fun q _ hq => AA_zA X q hq) (fun q hq => AA_zA X q hq) (fun a u t H1 locs1 ht hvm hw hB _ _ hS1 => ?_)
  obtain ⟨rfl, rfl⟩ := hw
  replace hB : va_P _ _ _ _ := hB
  rw [ht] at hB
  exact kk H1 locs1 ls hB hS1 h
theorem R_vcallv (X : CX Z Y) {y : MethodName} {Y' : YT} {T : u_T} {N ci idx k n : Nat} {As S : List Value} (hM : MV (zG Z) y Y' (.ref (gA (zG Z) k) :: As) hp hp1) (hl : Cond.methodLink Y.2.1 idx y ∈ TB) (cf : CFv y Y' none n) (hk : k < NC) (hs : sh k = (ci, 0)) (hc : classes[ci]? = some (y.cls, T, N)) (hg : (decide (As.length = n) && decide (ci < 20) && decide ((st.map fun v => v.category).sum ≤ 8)) = true) (hdep : (decide (Y'.2.2.2 + 1 ≤ Y.2.2.2) && decide (Y'.2.2.1 ≤ 11)) = true) (hS : S = As.reverse ++ .ref (gA (zG Z) k) :: st) (hd : decode Y.1 pc = .ok (.invokevirtual idx, 3)) (kk : V Z Y hp1 (pc + 3) L st) : V Z Y hp pc L S := by
  subst hS
  intro H locs ls hP hS h
  simp only [Bool.and_eq_true, decide_eq_true_eq] at hg
  obtain ⟨c1, c2, c3, c4, c5⟩ := cf
  have hts := X.2.2.2.2.1
  obtain ⟨r1, r2, r3, r4⟩ := X.2.2.2.2.2.2.2
  have he := wsO_at (zG Z) hp hk
  rw [ent_o _ _ hg.1.2 hs] at he
  refine va_callv (va_runV (As := As) (rest := st) ⟨X.1, X.2.1, X.2.2.1, X.2.2.2.1, hts⟩ (hM (zl Z)) ⟨callB_of n hts (TB_code c4) rfl rfl rfl (hts _ c3) (hts _ hl) c5 (room4 X hdep), hts _ c1, hts _ c2⟩ ⟨PreW_blind _ _ _, va_recv X.2.2.2.2.2.1.1 hP hc he, fun U hU hW => ⟨rfl, by rw [hU]; exact hP, KK.warm hW X.2.2.2.2.2.1⟩⟩ rfl hg.1.1 h.1 rfl (lv_room hg.2) hd ⟨r3, r4⟩) hS (fun q _ hq => AA_zA X q hq) (fun q hq => AA_zA X q hq) (fun u t H1 locs1 ht hvm hw hB _ _ hS1 => ?_)
  subst hw
  replace hB : va_P _ _ _ _ := hB
  rw [ht] at hB
  exact kk H1 locs1 ls hB hS1 h
theorem R_scall (X : CX Z Y) {y : MethodName} {Y' : YT} {rt : FieldType} {idx n : Nat} {As S : List Value} {r : Int32} (hM : MI (zG Z) y Y' rt As hp r hp1) (hl : Cond.methodLink Y.2.1 idx y ∈ TB) (cf : CFs y Y' (some rt) n) (hg : (decide (As.length = n) && decide ((st.map fun v => v.category).sum ≤ 8)) = true) (hdep : (decide (Y'.2.2.2 + 1 ≤ Y.2.2.2) && decide (Y'.2.2.1 ≤ 11)) = true) (hS : S = As.reverse ++ st) (hd : decode Y.1 pc = .ok (.invokestatic idx, 3)) (kk : V Z Y hp1 (pc + 3) L (.int r :: st)) : V Z Y hp pc L S := by
  subst hS
  intro H locs ls hP hS h
  simp only [Bool.and_eq_true, decide_eq_true_eq] at hg
  obtain ⟨c1, c3, c4, c5⟩ := cf
  have hts := X.2.2.2.2.1
  obtain ⟨r1, r2, r3, r4⟩ := X.2.2.2.2.2.2.2
  refine va_calli (va_runS (As := As) (rest := st) ⟨X.1, X.2.1, X.2.2.1, X.2.2.2.1, hts⟩ (hM (zl Z)) ⟨callB_of n hts (TB_code c4) rfl rfl rfl (hts _ c3) (hts _ hl) c5 (room4 X hdep), hts _ c1⟩ ⟨PreW_blind _ _ _, fun U hU hW => ⟨rfl, by rw [hU]; exact hP, KK.warm hW X.2.2.2.2.2.1⟩⟩ rfl hg.1 h.1 rfl (lv_room hg.2) hd ⟨r3, r4⟩) hS (fun q _ hq => AA_zA X q hq) (fun q hq => AA_zA X q hq) (fun a u t H1 locs1 ht hvm hw hB _ _ hS1 => ?_)
  obtain ⟨rfl, rfl⟩ := hw
  replace hB : va_P _ _ _ _ := hB
  rw [ht] at hB
  exact kk H1 locs1 ls hB hS1 h
/-- a static method that is private in a nest mate -/
theorem R_ncall (X : CX Z Y) {y : MethodName} {Y' : YT} {rt : FieldType} {idx n : Nat} {host : String} {As S : List Value} {r : Int32} (hM : MI (zG Z) y Y' rt As hp r hp1) (hl : (Y.2.1, idx, y, host) ∈ NWs) (cf : CFs y Y' (some rt) n) (hg : (decide (As.length = n) && decide ((st.map fun v => v.category).sum ≤ 8)) = true) (hdep : (decide (Y'.2.2.2 + 1 ≤ Y.2.2.2) && decide (Y'.2.2.1 ≤ 11)) = true) (hS : S = As.reverse ++ st) (hd : decode Y.1 pc = .ok (.invokestatic idx, 3)) (kk : V Z Y hp1 (pc + 3) L (.int r :: st)) : V Z Y hp pc L S := by
  subst hS
  intro H locs ls hP hS h
  simp only [Bool.and_eq_true, decide_eq_true_eq] at hg
  obtain ⟨c1, c3, c4, c5⟩ := cf
  have hts := X.2.2.2.2.1
  obtain ⟨r1, r2, r3, r4⟩ := X.2.2.2.2.2.2.2
  refine va_calli (va_runSN (As := As) (rest := st) ⟨X.1, X.2.1, X.2.2.1, X.2.2.2.1, hts⟩ (hM (zl Z)) ⟨va_cnB n hts (TB_code c4) rfl rfl rfl (X.2.2.2.2.2.1.2.1 _ hl) (hts _ c3) c5 (room4 X hdep), hts _ c1, trivial⟩ ⟨PreW_blind _ _ _, fun U hU hW => ⟨rfl, by rw [hU]; exact hP, KK.warm hW X.2.2.2.2.2.1⟩⟩ rfl hg.1 h.1 rfl (lv_room hg.2) hd ⟨r3, r4⟩) hS (fun q _ hq => AA_zA X q hq) (fun q hq => AA_zA X q hq) (fun a u t H1 locs1 ht hvm hw hB _ _ hS1 => ?_)
  obtain ⟨rfl, rfl⟩ := hw
  replace hB : va_P _ _ _ _ := hB
  rw [ht] at hB
  exact kk H1 locs1 ls hB hS1 h
end Calls4
end
section
/-! For every method a function over the heap: what its bytecode does. Printed by wip/whole/walk.py. -/
def f_BA_within (hp : HP) (a0 : Int32) (a1 : Int32) (a2 : Int32) : Option (Int32 × HP) :=
  if a0 < a1 then
    some ((0 : Int32), hp)
  else
    if a2 < a0 then
      some ((0 : Int32), hp)
    else
      some ((1 : Int32), hp)
def f_Re_append (hp : HP) (a1 : Int32) : Option (Int32 × HP) :=
  if (240 : Int32) ≤ (hp 1 1) then
    some (0, hp)
  else
    (if inb (hp 1 1) 240 then some (0, (up (up hp 2 ((hp 1 1)).toNatClampNeg a1) 1 1 (((up hp 2 ((hp 1 1)).toNatClampNeg a1) 1 1) + (1 : Int32)))) else none)
def f_BA_feed (hp : HP) (a1 : Int32) : Option (Int32 × HP) :=
  ((f_BA_within hp a1 (0 : Int32) (255 : Int32)).bind fun p2 => if p2.1 = 0 then
    some ((-1000000002 : Int32), p2.2)
  else
    if (p2.2 1 1) < (240 : Int32) then
      ((f_Re_append p2.2 a1).bind fun p6 => some ((p6.2 1 1), p6.2))
    else
      some ((-1000000004 : Int32), p2.2))
def f_Br_clear (hp : HP) (q0 : Nat) : Option (Int32 × HP) :=
  some (0, (up (up (up hp q0 5 (0 : Int32)) q0 6 (0 : Int32)) q0 7 (0 : Int32)))
def f_Re_letter (hp : HP) : Option (Int32 × HP) :=
  if (hp 1 4) < 0 then
    some ((-1 : Int32), hp)
  else
    if (hp 1 1) ≤ (hp 1 4) then
      some ((-1 : Int32), hp)
    else
      if (240 : Int32) ≤ (hp 1 4) then
        some ((-1 : Int32), hp)
      else
        (if inb (hp 1 4) 240 then some ((hp 2 ((hp 1 4)).toNatClampNeg), hp) else none)
def f_Re_skipBlanks_L0 (K : HP → Option (Int32 × HP)) : Nat → HP → Option (Int32 × HP)
  | 0, _ => none
  | n + 1, hp =>
      if (hp 1 1) ≤ (hp 1 4) then
        K hp
      else
        ((f_Re_letter hp).bind fun p3 => if p3.1 = (32 : Int32) then
          f_Re_skipBlanks_L0 K n (up p3.2 1 4 ((p3.2 1 4) + (1 : Int32)))
        else
          K p3.2)
def f_Re_skipBlanks (hp : HP) : Option (Int32 × HP) :=
  f_Re_skipBlanks_L0 (fun hp5 =>
    some (0, hp5)) FU hp
def f_Br_isThere (hp : HP) (q0 : Nat) : Option (Int32 × HP) :=
  if (hp q0 5) ≤ 0 then
    some ((0 : Int32), hp)
  else
    some ((1 : Int32), hp)
def f_Re_isFigure (hp : HP) (a0 : Int32) : Option (Int32 × HP) :=
  if a0 < (48 : Int32) then
    some ((0 : Int32), hp)
  else
    if (57 : Int32) < a0 then
      some ((0 : Int32), hp)
    else
      some ((1 : Int32), hp)
def f_Re_fail (hp : HP) (a1 : Int32) (a2 : Int32) : Option (Int32 × HP) :=
  if (hp 1 3) = 0 then
    some (0, (up (up hp 1 3 a1) 1 2 a2))
  else
    some (0, hp)
def f_Re_readNumber_L11 (v1 : Int32) (v2 : Int32) (K : HP → Int32 → Option (Int32 × HP)) : Nat → HP → Int32 → Option (Int32 × HP)
  | 0, _, _ => none
  | n + 1, hp, x3 =>
      if (hp 1 1) ≤ (hp 1 4) then
        K hp x3
      else
        ((f_Re_letter hp).bind fun p5 => ((f_Re_isFigure p5.2 p5.1).bind fun p7 => if p7.1 = 0 then
          K p7.2 x3
        else
          if (3 : Int32) ≤ ((p7.2 1 4) - v2) then
            f_Re_readNumber_L11 v1 v2 K n (up p7.2 1 4 ((p7.2 1 4) + (1 : Int32))) x3
          else
            ((f_Re_letter p7.2).bind fun p11 => f_Re_readNumber_L11 v1 v2 K n (up p11.2 1 4 ((p11.2 1 4) + (1 : Int32))) (((x3 * (10 : Int32)) + p11.1) - (48 : Int32)))))
def f_Re_readNumber (hp : HP) (a1 : Int32) : Option (Int32 × HP) :=
  ((f_Re_skipBlanks hp).bind fun p2 => f_Re_readNumber_L11 a1 (p2.2 1 4) (fun hp13 w12 =>
    if (hp13 1 4) = (p2.2 1 4) then
      ((f_Re_fail hp13 (1 : Int32) (p2.2 1 4)).bind fun p16 => some (w12, p16.2))
    else
      if (3 : Int32) < ((hp13 1 4) - (p2.2 1 4)) then
        ((f_Re_fail hp13 (2 : Int32) (p2.2 1 4)).bind fun p19 => some (w12, p19.2))
      else
        if w12 ≤ a1 then
          some (w12, hp13)
        else
          ((f_Re_fail hp13 (2 : Int32) (p2.2 1 4)).bind fun p22 => some (w12, p22.2))) FU p2.2 (0 : Int32))
def f_Br_addPart (hp : HP) (q0 : Nat) (a1 : Int32) : Option (Int32 × HP) :=
  if (8 : Int32) ≤ (hp q0 5) then
    some (0, hp)
  else
    (if inb (hp q0 5) 8 then some (0, (up (up hp (q0 + 1) ((hp q0 5)).toNatClampNeg (a1 - (500 : Int32))) q0 5 (((up hp (q0 + 1) ((hp q0 5)).toNatClampNeg (a1 - (500 : Int32))) q0 5) + (1 : Int32)))) else none)
def f_Re_readWord (hp : HP) (a1 : Int32) : Option (Int32 × HP) :=
  ((f_Re_skipBlanks hp).bind fun p2 => ((f_Re_letter p2.2).bind fun p4 => if p4.1 = a1 then
    some (0, (up p4.2 1 4 ((p4.2 1 4) + (1 : Int32))))
  else
    ((f_Re_fail p4.2 (1 : Int32) (p4.2 1 4)).bind fun p7 => some (0, p7.2))))
def f_Re_readParts_L17 (q1 : Nat) (K : HP → Option (Int32 × HP)) : Nat → HP → Int32 → Option (Int32 × HP)
  | 0, _, _ => none
  | n + 1, hp, x2 =>
      if (8 : Int32) ≤ x2 then
        K hp
      else
        if (hp 1 3) = 0 then
          ((f_Re_letter hp).bind fun p10 => if p10.1 = (44 : Int32) then
            ((f_Re_readNumber (up p10.2 1 4 ((p10.2 1 4) + (1 : Int32))) (999 : Int32)).bind fun p13 => ((f_Br_addPart p13.2 q1 p13.1).bind fun p15 => ((f_Re_skipBlanks p15.2).bind fun p17 => f_Re_readParts_L17 q1 K n p17.2 (x2 + 1))))
          else
            K p10.2)
        else
          K hp
def f_Re_readParts (hp : HP) (q1 : Nat) : Option (Int32 × HP) :=
  ((f_Re_readNumber hp (999 : Int32)).bind fun p2 => ((f_Br_addPart p2.2 q1 p2.1).bind fun p4 => ((f_Re_skipBlanks p4.2).bind fun p6 => f_Re_readParts_L17 q1 (fun hp18 =>
    ((f_Re_readWord hp18 (59 : Int32)).bind fun p20 => some (0, p20.2))) FU p6.2 (1 : Int32))))
def f_Br_addCustomer (hp : HP) (q0 : Nat) (a1 : Int32) (a2 : Int32) (a3 : Int32) : Option (Int32 × HP) :=
  if (5 : Int32) ≤ (hp q0 6) then
    some (0, hp)
  else
    (if inb (hp q0 6) 5 then (if inb ((up hp (q0 + 2) ((hp q0 6)).toNatClampNeg (a1 - (500 : Int32))) q0 6) 5 then (if inb ((up (up hp (q0 + 2) ((hp q0 6)).toNatClampNeg (a1 - (500 : Int32))) (q0 + 3) (((up hp (q0 + 2) ((hp q0 6)).toNatClampNeg (a1 - (500 : Int32))) q0 6)).toNatClampNeg a2) q0 6) 5 then some (0, (up (up (up (up hp (q0 + 2) ((hp q0 6)).toNatClampNeg (a1 - (500 : Int32))) (q0 + 3) (((up hp (q0 + 2) ((hp q0 6)).toNatClampNeg (a1 - (500 : Int32))) q0 6)).toNatClampNeg a2) (q0 + 4) (((up (up hp (q0 + 2) ((hp q0 6)).toNatClampNeg (a1 - (500 : Int32))) (q0 + 3) (((up hp (q0 + 2) ((hp q0 6)).toNatClampNeg (a1 - (500 : Int32))) q0 6)).toNatClampNeg a2) q0 6)).toNatClampNeg a3) q0 6 (((up (up (up hp (q0 + 2) ((hp q0 6)).toNatClampNeg (a1 - (500 : Int32))) (q0 + 3) (((up hp (q0 + 2) ((hp q0 6)).toNatClampNeg (a1 - (500 : Int32))) q0 6)).toNatClampNeg a2) (q0 + 4) (((up (up hp (q0 + 2) ((hp q0 6)).toNatClampNeg (a1 - (500 : Int32))) (q0 + 3) (((up hp (q0 + 2) ((hp q0 6)).toNatClampNeg (a1 - (500 : Int32))) q0 6)).toNatClampNeg a2) q0 6)).toNatClampNeg a3) q0 6) + (1 : Int32)))) else none) else none) else none)
def f_Re_readCustomer (hp : HP) (q1 : Nat) : Option (Int32 × HP) :=
  ((f_Re_readNumber hp (999 : Int32)).bind fun p2 => ((f_Re_readNumber p2.2 (99 : Int32)).bind fun p4 => ((f_Re_readNumber p4.2 (99 : Int32)).bind fun p6 => ((f_Br_addCustomer p6.2 q1 p2.1 p4.1 p6.1).bind fun p8 => ((f_Re_readWord p8.2 (59 : Int32)).bind fun p10 => some (0, p10.2))))))
def f_Br_allParts (hp : HP) (q0 : Nat) : Option (Int32 × HP) :=
  some ((((1 : Int32) <<< ((hp q0 5) &&& 31)) - (1 : Int32)), hp)
def f_Br_addTask (hp : HP) (q0 : Nat) (a1 : Int32) : Option (Int32 × HP) :=
  if (6 : Int32) ≤ (hp q0 7) then
    some (0, hp)
  else
    (if inb (hp q0 7) 6 then some (0, (up (up hp (q0 + 5) ((hp q0 7)).toNatClampNeg a1) q0 7 (((up hp (q0 + 5) ((hp q0 7)).toNatClampNeg a1) q0 7) + (1 : Int32)))) else none)
def f_Re_readClause (hp : HP) (q1 : Nat) : Option (Int32 × HP) :=
  ((f_Re_letter hp).bind fun p2 => if p2.1 = (98 : Int32) then
    ((f_Br_isThere p2.2 q1).bind fun p5 => if p5.1 = 0 then
      ((f_Re_readParts (up p5.2 1 4 ((p5.2 1 4) + (1 : Int32))) q1).bind fun p8 => some (0, p8.2))
    else
      ((f_Br_isThere p5.2 q1).bind fun p10 => if p10.1 = 0 then
        ((f_Re_fail p10.2 (1 : Int32) (p10.2 1 4)).bind fun p13 => some (0, p13.2))
      else
        if p2.1 = (99 : Int32) then
          if (5 : Int32) ≤ (p10.2 q1 6) then
            if p2.1 = (116 : Int32) then
              if (6 : Int32) ≤ (p10.2 q1 7) then
                ((f_Re_fail p10.2 (3 : Int32) (p10.2 1 4)).bind fun p20 => some (0, p20.2))
              else
                ((f_Br_allParts (up p10.2 1 4 ((p10.2 1 4) + (1 : Int32))) q1).bind fun p22 => ((f_Re_readNumber p22.2 p22.1).bind fun p24 => ((f_Br_addTask p24.2 q1 p24.1).bind fun p26 => ((f_Re_readWord p26.2 (59 : Int32)).bind fun p28 => some (0, p28.2)))))
            else
              ((f_Re_fail p10.2 (3 : Int32) (p10.2 1 4)).bind fun p30 => some (0, p30.2))
          else
            ((f_Re_readCustomer (up p10.2 1 4 ((p10.2 1 4) + (1 : Int32))) q1).bind fun p32 => some (0, p32.2))
        else
          if p2.1 = (116 : Int32) then
            if (6 : Int32) ≤ (p10.2 q1 7) then
              ((f_Re_fail p10.2 (3 : Int32) (p10.2 1 4)).bind fun p36 => some (0, p36.2))
            else
              ((f_Br_allParts (up p10.2 1 4 ((p10.2 1 4) + (1 : Int32))) q1).bind fun p38 => ((f_Re_readNumber p38.2 p38.1).bind fun p40 => ((f_Br_addTask p40.2 q1 p40.1).bind fun p42 => ((f_Re_readWord p42.2 (59 : Int32)).bind fun p44 => some (0, p44.2)))))
          else
            ((f_Re_fail p10.2 (3 : Int32) (p10.2 1 4)).bind fun p46 => some (0, p46.2))))
  else
    ((f_Br_isThere p2.2 q1).bind fun p48 => if p48.1 = 0 then
      ((f_Re_fail p48.2 (1 : Int32) (p48.2 1 4)).bind fun p51 => some (0, p51.2))
    else
      if p2.1 = (99 : Int32) then
        if (5 : Int32) ≤ (p48.2 q1 6) then
          if p2.1 = (116 : Int32) then
            if (6 : Int32) ≤ (p48.2 q1 7) then
              ((f_Re_fail p48.2 (3 : Int32) (p48.2 1 4)).bind fun p59 => some (0, p59.2))
            else
              ((f_Br_allParts (up p48.2 1 4 ((p48.2 1 4) + (1 : Int32))) q1).bind fun p61 => ((f_Re_readNumber p61.2 p61.1).bind fun p63 => ((f_Br_addTask p63.2 q1 p63.1).bind fun p65 => ((f_Re_readWord p65.2 (59 : Int32)).bind fun p67 => some (0, p67.2)))))
          else
            ((f_Re_fail p48.2 (3 : Int32) (p48.2 1 4)).bind fun p69 => some (0, p69.2))
        else
          ((f_Re_readCustomer (up p48.2 1 4 ((p48.2 1 4) + (1 : Int32))) q1).bind fun p71 => some (0, p71.2))
      else
        if p2.1 = (116 : Int32) then
          if (6 : Int32) ≤ (p48.2 q1 7) then
            ((f_Re_fail p48.2 (3 : Int32) (p48.2 1 4)).bind fun p77 => some (0, p77.2))
          else
            ((f_Br_allParts (up p48.2 1 4 ((p48.2 1 4) + (1 : Int32))) q1).bind fun p79 => ((f_Re_readNumber p79.2 p79.1).bind fun p81 => ((f_Br_addTask p81.2 q1 p81.1).bind fun p83 => ((f_Re_readWord p83.2 (59 : Int32)).bind fun p85 => some (0, p85.2)))))
        else
          ((f_Re_fail p48.2 (1 : Int32) (p48.2 1 4)).bind fun p87 => some (0, p87.2))))
def f_Re_readInto_L25 (q1 : Nat) (K : HP → Option (Int32 × HP)) : Nat → HP → Int32 → Option (Int32 × HP)
  | 0, _, _ => none
  | n + 1, hp, x2 =>
      if (240 : Int32) ≤ x2 then
        K hp
      else
        if (hp 1 1) ≤ (hp 1 4) then
          K hp
        else
          if (hp 1 3) = 0 then
            ((f_Re_readClause hp q1).bind fun p9 => ((f_Re_skipBlanks p9.2).bind fun p11 => f_Re_readInto_L25 q1 K n p11.2 (x2 + 1)))
          else
            K hp
def f_Re_readInto (hp : HP) (q1 : Nat) : Option (Int32 × HP) :=
  ((f_Br_clear hp q1).bind fun p2 => ((f_Re_skipBlanks (up (up (up p2.2 1 4 (0 : Int32)) 1 3 (0 : Int32)) 1 2 (-1 : Int32))).bind fun p4 => f_Re_readInto_L25 q1 (fun hp12 =>
    some ((hp12 1 3), hp12)) FU p4.2 (0 : Int32)))
def f_St_begin_L2 (q0 : Nat) (q1 : Nat) (K : HP → Option (Int32 × HP)) : Nat → HP → Int32 → Option (Int32 × HP)
  | 0, _, _ => none
  | n + 1, hp, x2 =>
      if (5 : Int32) ≤ x2 then
        K hp
      else
        if (hp q1 6) ≤ x2 then
          (if inb x2 5 then f_St_begin_L2 q0 q1 K n (up hp (q0 + 1) (x2).toNatClampNeg (0 : Int32)) (x2 + 1) else none)
        else
          (if inb x2 5 then f_St_begin_L2 q0 q1 K n (up hp (q0 + 1) (x2).toNatClampNeg (hp (q1 + 2) (x2).toNatClampNeg)) (x2 + 1) else none)
def f_St_begin_L39 (q0 : Nat) (K : HP → Option (Int32 × HP)) : Nat → HP → Int32 → Option (Int32 × HP)
  | 0, _, _ => none
  | n + 1, hp, x2 =>
      if (25 : Int32) ≤ x2 then
        K hp
      else
        (if inb x2 25 then f_St_begin_L39 q0 K n (up hp (q0 + 2) (x2).toNatClampNeg (0 : Int32)) (x2 + 1) else none)
def f_St_begin (hp : HP) (q0 : Nat) (q1 : Nat) : Option (Int32 × HP) :=
  f_St_begin_L2 q0 q1 (fun hp5 =>
    f_St_begin_L39 q0 (fun hp8 =>
      some (0, (up hp8 q0 2 (0 : Int32)))) FU hp5 (0 : Int32)) FU hp (0 : Int32)
def f_Pa_clear (hp : HP) : Option (Int32 × HP) :=
  some (0, (up hp 6 2 (0 : Int32)))
def f_Sl_clear (hp : HP) : Option (Int32 × HP) :=
  some (0, (up (up (up (up hp 68 7 (0 : Int32)) 68 8 (0 : Int32)) 68 9 (0 : Int32)) 68 10 (0 : Int32)))
def f_BA_branch_L85 (K : HP → Option (Int32 × HP)) : Nat → HP → Int32 → Option (Int32 × HP)
  | 0, _, _ => none
  | n + 1, hp, x3 =>
      if (2 : Int32) ≤ x3 then
        K hp
      else
        (if inb x3 2 then f_BA_branch_L85 K n (up hp 86 (x3).toNatClampNeg (bz (0 : Int32))) (x3 + 1) else none)
def f_BA_branch (hp : HP) : Option (Int32 × HP) :=
  (if isB (hp 0 9).toNatClampNeg then ((f_Re_readInto hp (hp 0 9).toNatClampNeg).bind fun p3 => if p3.1 = 0 then
    (if isB ((up (up p3.2 0 10 (p3.2 1 2)) 1 1 (0 : Int32)) 0 8).toNatClampNeg then (if isB ((up (up p3.2 0 10 (p3.2 1 2)) 1 1 (0 : Int32)) 0 9).toNatClampNeg then (if isB ((up (up (up (up p3.2 0 10 (p3.2 1 2)) 1 1 (0 : Int32)) 0 8 (nI ((up (up p3.2 0 10 (p3.2 1 2)) 1 1 (0 : Int32)) 0 9).toNatClampNeg)) 0 9 (nI ((up (up p3.2 0 10 (p3.2 1 2)) 1 1 (0 : Int32)) 0 8).toNatClampNeg)) 0 8).toNatClampNeg then ((f_St_begin (up (up (up (up p3.2 0 10 (p3.2 1 2)) 1 1 (0 : Int32)) 0 8 (nI ((up (up p3.2 0 10 (p3.2 1 2)) 1 1 (0 : Int32)) 0 9).toNatClampNeg)) 0 9 (nI ((up (up p3.2 0 10 (p3.2 1 2)) 1 1 (0 : Int32)) 0 8).toNatClampNeg)) 3 ((up (up (up (up p3.2 0 10 (p3.2 1 2)) 1 1 (0 : Int32)) 0 8 (nI ((up (up p3.2 0 10 (p3.2 1 2)) 1 1 (0 : Int32)) 0 9).toNatClampNeg)) 0 9 (nI ((up (up p3.2 0 10 (p3.2 1 2)) 1 1 (0 : Int32)) 0 8).toNatClampNeg)) 0 8).toNatClampNeg).bind fun p9 => ((f_Pa_clear p9.2).bind fun p11 => ((f_Sl_clear p11.2).bind fun p13 => f_BA_branch_L85 (fun hp16 =>
      (if isB (hp16 0 8).toNatClampNeg then some ((hp16 (hp16 0 8).toNatClampNeg 6), hp16) else none)) FU p13.2 (0 : Int32)))) else none) else none) else none)
  else
    some (((-10 : Int32) - p3.1), (up (up p3.2 0 10 (p3.2 1 2)) 1 1 (0 : Int32)))) else none)
def f_BA_fault (hp : HP) : Option (Int32 × HP) :=
  some ((hp 0 10), hp)
def f_Br_partsAt_L4 (q0 : Nat) (v1 : Int32) (K : HP → Int32 → Option (Int32 × HP)) : Nat → HP → Int32 → Int32 → Option (Int32 × HP)
  | 0, _, _, _ => none
  | n + 1, hp, x2, x3 =>
      if (hp q0 5) ≤ x3 then
        K hp x2
      else
        (if inb x3 8 then if v1 < (hp (q0 + 1) (x3).toNatClampNeg) then
          f_Br_partsAt_L4 q0 v1 K n hp x2 (x3 + 1)
        else
          f_Br_partsAt_L4 q0 v1 K n hp (x2 ||| ((1 : Int32) <<< (x3 &&& 31))) (x3 + 1) else none)
def f_Br_partsAt (hp : HP) (q0 : Nat) (a1 : Int32) : Option (Int32 × HP) :=
  f_Br_partsAt_L4 q0 a1 (fun hp5 w4 =>
    some (w4, hp5)) FU hp (0 : Int32) (0 : Int32)
def f_BA_hats_L4 (K : HP → Int32 → Option (Int32 × HP)) : Nat → HP → Int32 → Int32 → Option (Int32 × HP)
  | 0, _, _, _ => none
  | n + 1, hp, x1, x2 =>
      (if isB (hp 0 8).toNatClampNeg then if (hp (hp 0 8).toNatClampNeg 6) ≤ x2 then
        K hp x1
      else
        (if inb x2 5 then ((f_Br_partsAt hp (hp 0 8).toNatClampNeg (hp 4 (x2).toNatClampNeg)).bind fun p5 => if p5.1 = 0 then
          f_BA_hats_L4 K n p5.2 (x1 ||| ((1 : Int32) <<< (x2 &&& 31))) (x2 + 1)
        else
          f_BA_hats_L4 K n p5.2 x1 (x2 + 1)) else none) else none)
def f_BA_hats (hp : HP) : Option (Int32 × HP) :=
  f_BA_hats_L4 (fun hp8 w7 =>
    some (w7, hp8)) FU hp (0 : Int32) (0 : Int32)
def f_St_debt (hp : HP) (q0 : Nat) (a1 : Int32) (a2 : Int32) : Option (Int32 × HP) :=
  (if inb ((a1 * (5 : Int32)) + a2) 25 then some ((hp (q0 + 2) (((a1 * (5 : Int32)) + a2)).toNatClampNeg), hp) else none)
def f_St_netOf_L4 (q0 : Nat) (v1 : Int32) (K : HP → Int32 → Option (Int32 × HP)) : Nat → HP → Int32 → Int32 → Option (Int32 × HP)
  | 0, _, _, _ => none
  | n + 1, hp, x2, x3 =>
      if (5 : Int32) ≤ x3 then
        K hp x2
      else
        ((f_St_debt hp q0 x3 v1).bind fun p3 => f_St_netOf_L4 q0 v1 K n p3.2 (x2 + p3.1) (x3 + 1))
def f_St_netOf (hp : HP) (q0 : Nat) (a1 : Int32) : Option (Int32 × HP) :=
  f_St_netOf_L4 q0 a1 (fun hp5 w4 =>
    some (w4, hp5)) FU hp (0 : Int32) (0 : Int32)
def f_BA_bounded (hp : HP) (a0 : Int32) : Option (Int32 × HP) :=
  some ((mx (-9999 : Int32) (mn (9999 : Int32) a0)), hp)
def f_BA_wholes_L4 (v1 : Int32) (K : HP → Int32 → Option (Int32 × HP)) : Nat → HP → Int32 → Int32 → Option (Int32 × HP)
  | 0, _, _, _ => none
  | n + 1, hp, x2, x3 =>
      (if isB (hp 0 8).toNatClampNeg then if (hp (hp 0 8).toNatClampNeg 6) ≤ x3 then
        K hp x2
      else
        (if inb x3 5 then if v1 = 0 then
          ((f_BA_bounded hp ((hp 4 (x3).toNatClampNeg) + (0 : Int32))).bind fun p6 => ((f_Br_partsAt p6.2 (hp 0 8).toNatClampNeg p6.1).bind fun p8 => (if isB (p8.2 0 8).toNatClampNeg then ((f_Br_allParts p8.2 (p8.2 0 8).toNatClampNeg).bind fun p11 => if p8.1 = p11.1 then
            f_BA_wholes_L4 v1 K n p11.2 (x2 ||| ((1 : Int32) <<< (x3 &&& 31))) (x3 + 1)
          else
            f_BA_wholes_L4 v1 K n p11.2 x2 (x3 + 1)) else none)))
        else
          ((f_St_netOf hp 3 x3).bind fun p14 => (if isB (p14.2 0 8).toNatClampNeg then ((f_BA_bounded p14.2 ((hp 4 (x3).toNatClampNeg) + p14.1)).bind fun p17 => ((f_Br_partsAt p17.2 (p14.2 0 8).toNatClampNeg p17.1).bind fun p19 => (if isB (p19.2 0 8).toNatClampNeg then ((f_Br_allParts p19.2 (p19.2 0 8).toNatClampNeg).bind fun p22 => if p19.1 = p22.1 then
            f_BA_wholes_L4 v1 K n p22.2 (x2 ||| ((1 : Int32) <<< (x3 &&& 31))) (x3 + 1)
          else
            f_BA_wholes_L4 v1 K n p22.2 x2 (x3 + 1)) else none))) else none)) else none) else none)
def f_BA_wholes (hp : HP) (a1 : Int32) : Option (Int32 × HP) :=
  f_BA_wholes_L4 a1 (fun hp25 w24 =>
    some (w24, hp25)) FU hp (0 : Int32) (0 : Int32)
def f_BA_cleared_L4 (K : HP → Int32 → Option (Int32 × HP)) : Nat → HP → Int32 → Int32 → Option (Int32 × HP)
  | 0, _, _, _ => none
  | n + 1, hp, x1, x2 =>
      (if isB (hp 0 8).toNatClampNeg then if (hp (hp 0 8).toNatClampNeg 6) ≤ x2 then
        K hp x1
      else
        ((f_St_netOf hp 3 x2).bind fun p4 => if 0 ≤ p4.1 then
          f_BA_cleared_L4 K n p4.2 x1 (x2 + 1)
        else
          f_BA_cleared_L4 K n p4.2 (x1 + 1) (x2 + 1)) else none)
def f_BA_cleared (hp : HP) : Option (Int32 × HP) :=
  f_BA_cleared_L4 (fun hp7 w6 =>
    some (w6, hp7)) FU hp (0 : Int32) (0 : Int32)
def f_BA_told (hp : HP) (a1 : Int32) : Option (Int32 × HP) :=
  if a1 = 0 then
    (if isB (hp 0 8).toNatClampNeg then some ((hp (hp 0 8).toNatClampNeg 5), hp) else none)
  else if a1 = 1 then
    (if isB (hp 0 8).toNatClampNeg then some ((hp (hp 0 8).toNatClampNeg 6), hp) else none)
  else if a1 = 2 then
    (if isB (hp 0 8).toNatClampNeg then some ((hp (hp 0 8).toNatClampNeg 7), hp) else none)
  else if a1 = 3 then
    some ((hp 1 1), hp)
  else if a1 = 4 then
    some ((hp 3 2), hp)
  else if a1 = 5 then
    ((f_BA_hats hp).bind fun p11 => some (p11.1, p11.2))
  else if a1 = 6 then
    ((f_BA_wholes hp (0 : Int32)).bind fun p14 => some (p14.1, p14.2))
  else if a1 = 7 then
    ((f_BA_cleared hp).bind fun p17 => some (p17.1, p17.2))
  else if a1 = 8 then
    ((f_BA_wholes hp (1 : Int32)).bind fun p20 => some (p20.1, p20.2))
  else if a1 = 9 then
    some ((hp 68 7), hp)
  else if a1 = 10 then
    some ((hp 68 8), hp)
  else if a1 = 11 then
    some ((hp 68 9), hp)
  else if a1 = 12 then
    some ((hp 68 10), hp)
  else if a1 = 13 then
    some ((hp 6 2), hp)
  else 
  some ((-1000000002 : Int32), hp)
def f_Br_hasPart (hp : HP) (q0 : Nat) (a1 : Int32) : Option (Int32 × HP) :=
  ((f_BA_within hp a1 (0 : Int32) ((hp q0 5) - (1 : Int32))).bind fun p2 => rz p2.1 p2.2)
def f_BA_part (hp : HP) (a1 : Int32) : Option (Int32 × HP) :=
  (if isB (hp 0 8).toNatClampNeg then ((f_Br_hasPart hp (hp 0 8).toNatClampNeg a1).bind fun p3 => if p3.1 = 0 then
    some ((-1000000001 : Int32), p3.2)
  else
    (if isB (p3.2 0 8).toNatClampNeg then (if inb a1 8 then some (((p3.2 ((p3.2 0 8).toNatClampNeg + 1) (a1).toNatClampNeg) + (500 : Int32)), p3.2) else none) else none)) else none)
def f_Br_hasCustomer (hp : HP) (q0 : Nat) (a1 : Int32) : Option (Int32 × HP) :=
  ((f_BA_within hp a1 (0 : Int32) ((hp q0 6) - (1 : Int32))).bind fun p2 => rz p2.1 p2.2)
def f_BA_customer (hp : HP) (a1 : Int32) (a2 : Int32) : Option (Int32 × HP) :=
  (if isB (hp 0 8).toNatClampNeg then ((f_Br_hasCustomer hp (hp 0 8).toNatClampNeg a1).bind fun p3 => if p3.1 = 0 then
    some ((-1000000001 : Int32), p3.2)
  else
    if a2 = 0 then
      (if inb a1 5 then some (((p3.2 4 (a1).toNatClampNeg) + (10000 : Int32)), p3.2) else none)
    else if a2 = 1 then
      (if isB (p3.2 0 8).toNatClampNeg then (if inb a1 5 then ((f_Br_partsAt p3.2 (p3.2 0 8).toNatClampNeg (p3.2 4 (a1).toNatClampNeg)).bind fun p11 => some (p11.1, p11.2)) else none) else none)
    else if a2 = 2 then
      (if isB (p3.2 0 8).toNatClampNeg then (if inb a1 5 then some ((p3.2 ((p3.2 0 8).toNatClampNeg + 3) (a1).toNatClampNeg), p3.2) else none) else none)
    else if a2 = 3 then
      (if isB (p3.2 0 8).toNatClampNeg then (if inb a1 5 then some ((p3.2 ((p3.2 0 8).toNatClampNeg + 4) (a1).toNatClampNeg), p3.2) else none) else none)
    else if a2 = 4 then
      ((f_St_netOf p3.2 3 a1).bind fun p20 => some ((p20.1 + (100000 : Int32)), p20.2))
    else 
    some ((-1000000002 : Int32), p3.2)) else none)
def f_BA_areTwo (hp : HP) (a1 : Int32) (a2 : Int32) : Option (Int32 × HP) :=
  (if isB (hp 0 8).toNatClampNeg then ((f_Br_hasCustomer hp (hp 0 8).toNatClampNeg a1).bind fun p3 => if p3.1 = 0 then
    some ((0 : Int32), p3.2)
  else
    (if isB (p3.2 0 8).toNatClampNeg then ((f_Br_hasCustomer p3.2 (p3.2 0 8).toNatClampNeg a2).bind fun p7 => if p7.1 = 0 then
      some ((0 : Int32), p7.2)
    else
      if a1 = a2 then
        some ((0 : Int32), p7.2)
      else
        some ((1 : Int32), p7.2)) else none)) else none)
def f_BA_owes (hp : HP) (a1 : Int32) (a2 : Int32) : Option (Int32 × HP) :=
  ((f_BA_areTwo hp a1 a2).bind fun p2 => if p2.1 = 0 then
    some ((-1000000001 : Int32), p2.2)
  else
    ((f_St_debt p2.2 3 a1 a2).bind fun p5 => some ((p5.1 + (100000 : Int32)), p5.2)))
def f_Br_hasTask (hp : HP) (q0 : Nat) (a1 : Int32) : Option (Int32 × HP) :=
  ((f_BA_within hp a1 (0 : Int32) ((hp q0 7) - (1 : Int32))).bind fun p2 => rz p2.1 p2.2)
def f_Br_needOf_L5 (q0 : Nat) (v1 : Int32) (K : HP → Int32 → Option (Int32 × HP)) : Nat → HP → Int32 → Int32 → Option (Int32 × HP)
  | 0, _, _, _ => none
  | n + 1, hp, x2, x3 =>
      if (hp q0 5) ≤ x3 then
        K hp x2
      else
        (if inb v1 6 then if (((hp (q0 + 5) (v1).toNatClampNeg) >>> (x3 &&& 31)) &&& (1 : Int32)) = (1 : Int32) then
          (if inb x3 8 then f_Br_needOf_L5 q0 v1 K n hp (mx x2 (hp (q0 + 1) (x3).toNatClampNeg)) (x3 + 1) else none)
        else
          f_Br_needOf_L5 q0 v1 K n hp x2 (x3 + 1) else none)
def f_Br_needOf (hp : HP) (q0 : Nat) (a1 : Int32) : Option (Int32 × HP) :=
  f_Br_needOf_L5 q0 a1 (fun hp6 w5 =>
    some (w5, hp6)) FU hp (-100000 : Int32) (0 : Int32)
def f_Br_isDoable (hp : HP) (q0 : Nat) (a1 : Int32) (a2 : Int32) : Option (Int32 × HP) :=
  ((f_Br_needOf hp q0 a1).bind fun p2 => if a2 < p2.1 then
    some ((0 : Int32), p2.2)
  else
    some ((1 : Int32), p2.2))
def f_BA_can (hp : HP) (a1 : Int32) (a2 : Int32) : Option (Int32 × HP) :=
  (if isB (hp 0 8).toNatClampNeg then ((f_Br_hasCustomer hp (hp 0 8).toNatClampNeg a1).bind fun p3 => if p3.1 = 0 then
    some ((-1000000001 : Int32), p3.2)
  else
    (if isB (p3.2 0 8).toNatClampNeg then ((f_Br_hasTask p3.2 (p3.2 0 8).toNatClampNeg a2).bind fun p7 => if p7.1 = 0 then
      some ((-1000000001 : Int32), p7.2)
    else
      (if isB (p7.2 0 8).toNatClampNeg then (if inb a1 5 then ((f_Br_isDoable p7.2 (p7.2 0 8).toNatClampNeg a2 (p7.2 4 (a1).toNatClampNeg)).bind fun p12 => if p12.1 = 0 then
        some ((0 : Int32), p12.2)
      else
        some ((1 : Int32), p12.2)) else none) else none)) else none)) else none)
def f_St_copyFrom (hp : HP) (q0 : Nat) (q1 : Nat) : Option (Int32 × HP) :=
  some (0, (up (setc (setc hp (q0 + 1) (va_cpy (hp (q1 + 1)) (hp (q0 + 1)) 0 0 5)) (q0 + 2) (va_cpy ((setc hp (q0 + 1) (va_cpy (hp (q1 + 1)) (hp (q0 + 1)) 0 0 5)) (q1 + 2)) ((setc hp (q0 + 1) (va_cpy (hp (q1 + 1)) (hp (q0 + 1)) 0 0 5)) (q0 + 2)) 0 0 25)) q0 2 ((setc (setc hp (q0 + 1) (va_cpy (hp (q1 + 1)) (hp (q0 + 1)) 0 0 5)) (q0 + 2) (va_cpy ((setc hp (q0 + 1) (va_cpy (hp (q1 + 1)) (hp (q0 + 1)) 0 0 5)) (q1 + 2)) ((setc hp (q0 + 1) (va_cpy (hp (q1 + 1)) (hp (q0 + 1)) 0 0 5)) (q0 + 2)) 0 0 25)) q1 2)))
def f_Pa_push (hp : HP) (q1 : Nat) : Option (Int32 × HP) :=
  (if inb (hp 6 1) 20 then (if isS (7 + 1 + 3 * ((hp 6 1)).toNatClampNeg) then ((f_St_copyFrom hp (7 + 1 + 3 * ((hp 6 1)).toNatClampNeg) q1).bind fun p4 => some (0, (up (up p4.2 6 1 (((p4.2 6 1) + (1 : Int32)) - ((p4.2 6 1) + (1 : Int32)) / (20 : Int32) * (20 : Int32))) 6 2 (mn (((up p4.2 6 1 (((p4.2 6 1) + (1 : Int32)) - ((p4.2 6 1) + (1 : Int32)) / (20 : Int32) * (20 : Int32))) 6 2) + (1 : Int32)) (20 : Int32))))) else none) else none)
def f_Br_afterMonth (hp : HP) (q0 : Nat) (a1 : Int32) (a2 : Int32) : Option (Int32 × HP) :=
  (if inb a1 5 then ((f_BA_bounded hp (a2 + (hp (q0 + 3) (a1).toNatClampNeg))).bind fun p3 => ((f_BA_bounded p3.2 (p3.1 - (p3.2 (q0 + 4) (a1).toNatClampNeg))).bind fun p5 => some (p5.1, p5.2))) else none)
def f_St_passMonth_L2 (q0 : Nat) (q1 : Nat) (K : HP → Option (Int32 × HP)) : Nat → HP → Int32 → Option (Int32 × HP)
  | 0, _, _ => none
  | n + 1, hp, x2 =>
      if (hp q1 6) ≤ x2 then
        K hp
      else
        (if inb x2 5 then ((f_Br_afterMonth hp q1 x2 (hp (q0 + 1) (x2).toNatClampNeg)).bind fun p4 => f_St_passMonth_L2 q0 q1 K n (up p4.2 (q0 + 1) (x2).toNatClampNeg p4.1) (x2 + 1)) else none)
def f_St_passMonth (hp : HP) (q0 : Nat) (q1 : Nat) : Option (Int32 × HP) :=
  f_St_passMonth_L2 q0 q1 (fun hp5 =>
    some (0, (up hp5 q0 2 ((hp5 q0 2) + (1 : Int32))))) FU hp (0 : Int32)
def f_BA_month_L55 (v1 : Int32) (K : HP → Option (Int32 × HP)) : Nat → HP → Int32 → Option (Int32 × HP)
  | 0, _, _ => none
  | n + 1, hp, x2 =>
      if v1 ≤ x2 then
        K hp
      else
        (if isB (hp 0 8).toNatClampNeg then ((f_St_passMonth hp 3 (hp 0 8).toNatClampNeg).bind fun p14 => f_BA_month_L55 v1 K n p14.2 (x2 + 1)) else none)
def f_BA_month (hp : HP) (a1 : Int32) : Option (Int32 × HP) :=
  ((f_BA_within hp a1 (1 : Int32) (60 : Int32)).bind fun p2 => if p2.1 = 0 then
    some ((-1000000002 : Int32), p2.2)
  else
    (if isB (p2.2 0 8).toNatClampNeg then ((f_Br_isThere p2.2 (p2.2 0 8).toNatClampNeg).bind fun p6 => if p6.1 = 0 then
      some ((-1000000003 : Int32), p6.2)
    else
      if (p6.2 3 2) ≤ (9000 : Int32) then
        ((f_Pa_push p6.2 3).bind fun p10 => f_BA_month_L55 a1 (fun hp15 =>
          some ((hp15 3 2), hp15)) FU p10.2 (0 : Int32))
      else
        some ((-1000000004 : Int32), p6.2)) else none))
def f_St_change (hp : HP) (q0 : Nat) (a1 : Int32) (a2 : Int32) : Option (Int32 × HP) :=
  (if inb a1 5 then ((f_BA_bounded hp ((hp (q0 + 1) (a1).toNatClampNeg) + a2)).bind fun p3 => some (0, (up p3.2 (q0 + 1) (a1).toNatClampNeg p3.1))) else none)
def f_BA_spend (hp : HP) (a1 : Int32) (a2 : Int32) : Option (Int32 × HP) :=
  (if isB (hp 0 8).toNatClampNeg then ((f_Br_hasCustomer hp (hp 0 8).toNatClampNeg a1).bind fun p3 => if p3.1 = 0 then
    some ((-1000000001 : Int32), p3.2)
  else
    ((f_BA_within p3.2 a2 (1 : Int32) (999 : Int32)).bind fun p6 => if p6.1 = 0 then
      some ((-1000000002 : Int32), p6.2)
    else
      ((f_Pa_push p6.2 3).bind fun p9 => ((f_St_change p9.2 3 a1 (-a2)).bind fun p11 => (if isB (p11.2 0 8).toNatClampNeg then (if inb a1 5 then ((f_Br_partsAt p11.2 (p11.2 0 8).toNatClampNeg (p11.2 4 (a1).toNatClampNeg)).bind fun p15 => some (p15.1, p15.2)) else none) else none))))) else none)
def f_St_hand (hp : HP) (q0 : Nat) (a1 : Int32) (a2 : Int32) (a3 : Int32) : Option (Int32 × HP) :=
  ((f_St_change hp q0 a1 (-a3)).bind fun p2 => ((f_St_change p2.2 q0 a2 a3).bind fun p4 => (if inb ((a1 * (5 : Int32)) + a2) 25 then (if inb ((a2 * (5 : Int32)) + a1) 25 then some (0, (up (up p4.2 (q0 + 2) (((a1 * (5 : Int32)) + a2)).toNatClampNeg ((p4.2 (q0 + 2) (((a1 * (5 : Int32)) + a2)).toNatClampNeg) - a3)) (q0 + 2) (((a2 * (5 : Int32)) + a1)).toNatClampNeg (((up p4.2 (q0 + 2) (((a1 * (5 : Int32)) + a2)).toNatClampNeg ((p4.2 (q0 + 2) (((a1 * (5 : Int32)) + a2)).toNatClampNeg) - a3)) (q0 + 2) (((a2 * (5 : Int32)) + a1)).toNatClampNeg) + a3))) else none) else none)))
def f_BA_lend (hp : HP) (a1 : Int32) (a2 : Int32) (a3 : Int32) : Option (Int32 × HP) :=
  ((f_BA_areTwo hp a1 a2).bind fun p2 => if p2.1 = 0 then
    some ((-1000000001 : Int32), p2.2)
  else
    ((f_BA_within p2.2 a3 (1 : Int32) (999 : Int32)).bind fun p5 => if p5.1 = 0 then
      some ((-1000000002 : Int32), p5.2)
    else
      ((f_St_debt p5.2 3 a2 a1).bind fun p8 => if (p8.1 + a3) ≤ (9999 : Int32) then
        ((f_Pa_push p8.2 3).bind fun p11 => ((f_St_hand p11.2 3 a1 a2 a3).bind fun p13 => (if isB (p13.2 0 8).toNatClampNeg then (if inb a2 5 then ((f_Br_partsAt p13.2 (p13.2 0 8).toNatClampNeg (p13.2 4 (a2).toNatClampNeg)).bind fun p17 => some (p17.1, p17.2)) else none) else none)))
      else
        some ((-1000000004 : Int32), p8.2))))
def f_BA_payBack (hp : HP) (a1 : Int32) (a2 : Int32) (a3 : Int32) : Option (Int32 × HP) :=
  ((f_BA_areTwo hp a1 a2).bind fun p2 => if p2.1 = 0 then
    some ((-1000000001 : Int32), p2.2)
  else
    ((f_BA_within p2.2 a3 (1 : Int32) (999 : Int32)).bind fun p5 => if p5.1 = 0 then
      some ((-1000000002 : Int32), p5.2)
    else
      ((f_St_debt p5.2 3 a1 a2).bind fun p8 => if a3 ≤ p8.1 then
        ((f_Pa_push p8.2 3).bind fun p11 => ((f_St_hand p11.2 3 a1 a2 a3).bind fun p13 => ((f_St_debt p13.2 3 a1 a2).bind fun p15 => some (p15.1, p15.2))))
      else
        some ((-1000000003 : Int32), p8.2))))
def f_BA_draw (hp : HP) (a1 : Int32) : Option (Int32 × HP) :=
  if a1 ≤ 0 then
    some ((0 : Int32), (up hp 0 11 ((((((hp 0 11)).toInt64 * (1103515245 : Int64)) + (12345 : Int64)) &&& (2147483647 : Int64))).toInt32))
  else
    (if a1 = 0 then none else some (((((up hp 0 11 ((((((hp 0 11)).toInt64 * (1103515245 : Int64)) + (12345 : Int64)) &&& (2147483647 : Int64))).toInt32) 0 11) / (65536 : Int32)) - (((up hp 0 11 ((((((hp 0 11)).toInt64 * (1103515245 : Int64)) + (12345 : Int64)) &&& (2147483647 : Int64))).toInt32) 0 11) / (65536 : Int32)) / a1 * a1), (up hp 0 11 ((((((hp 0 11)).toInt64 * (1103515245 : Int64)) + (12345 : Int64)) &&& (2147483647 : Int64))).toInt32)))
def f_BA_wager (hp : HP) : Option (Int32 × HP) :=
  (if isB (hp 0 8).toNatClampNeg then ((f_BA_draw hp (hp (hp 0 8).toNatClampNeg 6)).bind fun p3 => ((f_BA_draw p3.2 (100 : Int32)).bind fun p5 => ((f_BA_draw p5.2 (2 : Int32)).bind fun p7 => if p7.1 = 0 then
    ((f_St_change p7.2 3 p3.1 (-p5.1)).bind fun p10 => some (0, p10.2))
  else
    ((f_St_change p7.2 3 p3.1 p5.1).bind fun p12 => some (0, p12.2))))) else none)
def f_BA_drift_L49 (v1 : Int32) (K : HP → Option (Int32 × HP)) : Nat → HP → Int32 → Option (Int32 × HP)
  | 0, _, _ => none
  | n + 1, hp, x2 =>
      if v1 ≤ x2 then
        K hp
      else
        ((f_BA_wager hp).bind fun p16 => f_BA_drift_L49 v1 K n p16.2 (x2 + 1))
def f_BA_drift (hp : HP) (a1 : Int32) : Option (Int32 × HP) :=
  ((f_BA_within hp a1 (1 : Int32) (60 : Int32)).bind fun p2 => if p2.1 = 0 then
    some ((-1000000002 : Int32), p2.2)
  else
    (if isB (p2.2 0 8).toNatClampNeg then ((f_Br_isThere p2.2 (p2.2 0 8).toNatClampNeg).bind fun p6 => if p6.1 = 0 then
      some ((-1000000003 : Int32), p6.2)
    else
      ((f_Pa_push p6.2 3).bind fun p9 => (if isB (p9.2 0 8).toNatClampNeg then if (p9.2 (p9.2 0 8).toNatClampNeg 6) ≤ 0 then
        ((f_BA_hats p9.2).bind fun p13 => some (p13.1, p13.2))
      else
        f_BA_drift_L49 a1 (fun hp17 =>
          ((f_BA_hats hp17).bind fun p19 => some (p19.1, p19.2))) FU p9.2 (0 : Int32) else none))) else none))
def f_Pa_popInto (hp : HP) (q1 : Nat) : Option (Int32 × HP) :=
  if (hp 6 2) ≤ 0 then
    some (0, hp)
  else
    (if inb ((up hp 6 1 ((((hp 6 1) + (20 : Int32)) - (1 : Int32)) - (((hp 6 1) + (20 : Int32)) - (1 : Int32)) / (20 : Int32) * (20 : Int32))) 6 1) 20 then (if isS (7 + 1 + 3 * (((up hp 6 1 ((((hp 6 1) + (20 : Int32)) - (1 : Int32)) - (((hp 6 1) + (20 : Int32)) - (1 : Int32)) / (20 : Int32) * (20 : Int32))) 6 1)).toNatClampNeg) then ((f_St_copyFrom (up hp 6 1 ((((hp 6 1) + (20 : Int32)) - (1 : Int32)) - (((hp 6 1) + (20 : Int32)) - (1 : Int32)) / (20 : Int32) * (20 : Int32))) q1 (7 + 1 + 3 * (((up hp 6 1 ((((hp 6 1) + (20 : Int32)) - (1 : Int32)) - (((hp 6 1) + (20 : Int32)) - (1 : Int32)) / (20 : Int32) * (20 : Int32))) 6 1)).toNatClampNeg)).bind fun p5 => some (0, (up p5.2 6 2 ((p5.2 6 2) - (1 : Int32))))) else none) else none)
def f_BA_undo (hp : HP) : Option (Int32 × HP) :=
  if (hp 6 2) = 0 then
    some ((-1000000003 : Int32), hp)
  else
    ((f_Pa_popInto hp 3).bind fun p3 => some ((p3.2 6 2), p3.2))
def f_BA_hat_L26 (v1 : Int32) (K : HP → Option (Int32 × HP)) : Nat → HP → Int32 → Int32 → Option (Int32 × HP)
  | 0, _, _, _ => none
  | n + 1, hp, x2, x3 =>
      if (200 : Int32) < x3 then
        K hp
      else
        (if isB (hp 0 8).toNatClampNeg then ((f_Br_partsAt hp (hp 0 8).toNatClampNeg x2).bind fun p9 => if p9.1 = 0 then
          some (x3, p9.2)
        else
          (if isB (p9.2 0 8).toNatClampNeg then ((f_Br_afterMonth p9.2 (p9.2 0 8).toNatClampNeg v1 x2).bind fun p13 => f_BA_hat_L26 v1 K n p13.2 p13.1 (x3 + 1)) else none)) else none)
def f_BA_hat (hp : HP) (a1 : Int32) : Option (Int32 × HP) :=
  (if isB (hp 0 8).toNatClampNeg then ((f_Br_hasCustomer hp (hp 0 8).toNatClampNeg a1).bind fun p3 => if p3.1 = 0 then
    some ((-1000000001 : Int32), p3.2)
  else
    (if inb a1 5 then f_BA_hat_L26 a1 (fun hp14 =>
      some ((-1 : Int32), hp14)) FU p3.2 (p3.2 4 (a1).toNatClampNeg) (0 : Int32) else none)) else none)
def f_BA_able_L55 (v1 : Int32) (v2 : Int32) (v3 : Int32) (K : HP → Int32 → Option (Int32 × HP)) : Nat → HP → Int32 → Int32 → Int32 → Option (Int32 × HP)
  | 0, _, _, _, _ => none
  | n + 1, hp, x4, x5, x6 =>
      if v3 ≤ x6 then
        K hp x5
      else
        (if isB (hp 0 8).toNatClampNeg then ((f_Br_isDoable hp (hp 0 8).toNatClampNeg v2 x4).bind fun p16 => if p16.1 = 0 then
          (if isB (p16.2 0 8).toNatClampNeg then ((f_Br_afterMonth p16.2 (p16.2 0 8).toNatClampNeg v1 x4).bind fun p20 => f_BA_able_L55 v1 v2 v3 K n p20.2 p20.1 x5 (x6 + 1)) else none)
        else
          (if isB (p16.2 0 8).toNatClampNeg then ((f_Br_afterMonth p16.2 (p16.2 0 8).toNatClampNeg v1 x4).bind fun p23 => f_BA_able_L55 v1 v2 v3 K n p23.2 p23.1 (x5 + 1) (x6 + 1)) else none)) else none)
def f_BA_able (hp : HP) (a1 : Int32) (a2 : Int32) (a3 : Int32) : Option (Int32 × HP) :=
  (if isB (hp 0 8).toNatClampNeg then ((f_Br_hasCustomer hp (hp 0 8).toNatClampNeg a1).bind fun p3 => if p3.1 = 0 then
    some ((-1000000001 : Int32), p3.2)
  else
    (if isB (p3.2 0 8).toNatClampNeg then ((f_Br_hasTask p3.2 (p3.2 0 8).toNatClampNeg a2).bind fun p7 => if p7.1 = 0 then
      some ((-1000000001 : Int32), p7.2)
    else
      ((f_BA_within p7.2 a3 (1 : Int32) (60 : Int32)).bind fun p10 => if p10.1 = 0 then
        some ((-1000000002 : Int32), p10.2)
      else
        (if inb a1 5 then f_BA_able_L55 a1 a2 a3 (fun hp25 w24 =>
          some (w24, hp25)) FU p10.2 (p10.2 4 (a1).toNatClampNeg) (0 : Int32) (0 : Int32) else none))) else none)) else none)
def f_Sl_addSpending (hp : HP) (a1 : Int32) : Option (Int32 × HP) :=
  if (5 : Int32) ≤ (hp 68 7) then
    some (0, hp)
  else
    (if inb (hp 68 7) 5 then some (0, (up (up hp 69 ((hp 68 7)).toNatClampNeg a1) 68 7 (((up hp 69 ((hp 68 7)).toNatClampNeg a1) 68 7) + (1 : Int32)))) else none)
def f_BA_spending (hp : HP) (a1 : Int32) : Option (Int32 × HP) :=
  ((f_BA_within hp a1 (1 : Int32) (999 : Int32)).bind fun p2 => if p2.1 = 0 then
    some ((-1000000002 : Int32), p2.2)
  else
    if (p2.2 68 7) < (5 : Int32) then
      ((f_Sl_addSpending p2.2 a1).bind fun p6 => some ((p6.2 68 7), p6.2))
    else
      some ((-1000000004 : Int32), p2.2))
def f_Sl_addMust (hp : HP) (a1 : Int32) (a2 : Int32) : Option (Int32 × HP) :=
  if (4 : Int32) ≤ (hp 68 8) then
    some (0, hp)
  else
    (if inb (hp 68 8) 4 then (if inb ((up hp 70 ((hp 68 8)).toNatClampNeg a1) 68 8) 4 then some (0, (up (up (up hp 70 ((hp 68 8)).toNatClampNeg a1) 71 (((up hp 70 ((hp 68 8)).toNatClampNeg a1) 68 8)).toNatClampNeg a2) 68 8 (((up (up hp 70 ((hp 68 8)).toNatClampNeg a1) 71 (((up hp 70 ((hp 68 8)).toNatClampNeg a1) 68 8)).toNatClampNeg a2) 68 8) + (1 : Int32)))) else none) else none)
def f_BA_must (hp : HP) (a1 : Int32) (a2 : Int32) : Option (Int32 × HP) :=
  (if isB (hp 0 8).toNatClampNeg then ((f_Br_hasTask hp (hp 0 8).toNatClampNeg a1).bind fun p3 => if p3.1 = 0 then
    some ((-1000000001 : Int32), p3.2)
  else
    ((f_BA_within p3.2 a2 (0 : Int32) (3 : Int32)).bind fun p6 => if p6.1 = 0 then
      some ((-1000000002 : Int32), p6.2)
    else
      if (p6.2 68 8) < (4 : Int32) then
        ((f_Sl_addMust p6.2 a1 a2).bind fun p10 => some ((p10.2 68 8), p10.2))
      else
        some ((-1000000004 : Int32), p6.2))) else none)
def f_Sl_lastMustMonth_L4 (K : HP → Int32 → Option (Int32 × HP)) : Nat → HP → Int32 → Int32 → Option (Int32 × HP)
  | 0, _, _, _ => none
  | n + 1, hp, x1, x2 =>
      if (hp 68 8) ≤ x2 then
        K hp x1
      else
        (if inb x2 4 then f_Sl_lastMustMonth_L4 K n hp (mx x1 (hp 71 (x2).toNatClampNeg)) (x2 + 1) else none)
def f_Sl_lastMustMonth (hp : HP) : Option (Int32 × HP) :=
  f_Sl_lastMustMonth_L4 (fun hp4 w3 =>
    some (w3, hp4)) FU hp (-1 : Int32) (0 : Int32)
def f_Pl_give_L8 (v3 : Int32) (K : HP → Option (Int32 × HP)) : Nat → HP → Int32 → Int32 → Option (Int32 × HP)
  | 0, _, _, _ => none
  | n + 1, hp, x4, x5 =>
      if x5 < 0 then
        K hp
      else
        if v3 ≤ 0 then
          (if inb x5 5 then f_Pl_give_L8 v3 K n (up hp 77 (x5).toNatClampNeg (0 : Int32)) (0 : Int32) (x5 + (-1)) else none)
        else
          (if v3 = 0 then none else (if inb x5 5 then f_Pl_give_L8 v3 K n (up hp 77 (x5).toNatClampNeg (x4 - x4 / v3 * v3)) (x4 / v3) (x5 + (-1)) else none))
def f_Pl_give (hp : HP) (a1 : Int32) (a2 : Int32) (a3 : Int32) : Option (Int32 × HP) :=
  f_Pl_give_L8 a3 (fun hp8 =>
    some (0, hp8)) FU hp a1 (a2 - (1 : Int32))
def f_Pl_sumGivenTo_L5 (v1 : Int32) (K : HP → Int32 → Option (Int32 × HP)) : Nat → HP → Int32 → Int32 → Option (Int32 × HP)
  | 0, _, _, _ => none
  | n + 1, hp, x3, x4 =>
      if (hp 68 7) ≤ x4 then
        K hp x3
      else
        (if inb x4 5 then if (hp 77 (x4).toNatClampNeg) = v1 then
          f_Pl_sumGivenTo_L5 v1 K n hp (x3 + (hp 69 (x4).toNatClampNeg)) (x4 + 1)
        else
          f_Pl_sumGivenTo_L5 v1 K n hp x3 (x4 + 1) else none)
def f_Pl_sumGivenTo (hp : HP) (a1 : Int32) : Option (Int32 × HP) :=
  f_Pl_sumGivenTo_L5 a1 (fun hp5 w4 =>
    some (w4, hp5)) FU hp (0 : Int32) (0 : Int32)
def f_Pl_isAllDoable_L3 (v0 : Int32) (v1 : Int32) (q2 : Nat) (K : HP → Option (Int32 × HP)) : Nat → HP → Int32 → Option (Int32 × HP)
  | 0, _, _ => none
  | n + 1, hp, x4 =>
      if (hp 68 8) ≤ x4 then
        K hp
      else
        (if inb x4 4 then if (hp 71 (x4).toNatClampNeg) = v0 then
          ((f_Br_isDoable hp q2 (hp 70 (x4).toNatClampNeg) v1).bind fun p5 => if p5.1 = 0 then
            some ((0 : Int32), p5.2)
          else
            f_Pl_isAllDoable_L3 v0 v1 q2 K n p5.2 (x4 + 1))
        else
          f_Pl_isAllDoable_L3 v0 v1 q2 K n hp (x4 + 1) else none)
def f_Pl_isAllDoable (hp : HP) (a0 : Int32) (a1 : Int32) (q2 : Nat) : Option (Int32 × HP) :=
  f_Pl_isAllDoable_L3 a0 a1 q2 (fun hp7 =>
    some ((1 : Int32), hp7)) FU hp (0 : Int32)
def f_Pl_works_L7 (q1 : Nat) (v3 : Int32) (v5 : Int32) (K : HP → Option (Int32 × HP)) : Nat → HP → Int32 → Int32 → Option (Int32 × HP)
  | 0, _, _, _ => none
  | n + 1, hp, x6, x7 =>
      if v5 ≤ x7 then
        K hp
      else
        if x7 ≤ 0 then
          ((f_Pl_sumGivenTo hp x7).bind fun p4 => ((f_BA_bounded p4.2 (x6 - p4.1)).bind fun p6 => ((f_Pl_isAllDoable p6.2 x7 p6.1 q1).bind fun p8 => if p8.1 = 0 then
            some ((0 : Int32), p8.2)
          else
            f_Pl_works_L7 q1 v3 v5 K n p8.2 p6.1 (x7 + 1))))
        else
          ((f_Br_afterMonth hp q1 v3 x6).bind fun p11 => ((f_Pl_sumGivenTo p11.2 x7).bind fun p13 => ((f_BA_bounded p13.2 (p11.1 - p13.1)).bind fun p15 => ((f_Pl_isAllDoable p15.2 x7 p15.1 q1).bind fun p17 => if p17.1 = 0 then
            some ((0 : Int32), p17.2)
          else
            f_Pl_works_L7 q1 v3 v5 K n p17.2 p15.1 (x7 + 1)))))
def f_Pl_works (hp : HP) (q1 : Nat) (a3 : Int32) (a4 : Int32) (a5 : Int32) : Option (Int32 × HP) :=
  f_Pl_works_L7 q1 a3 a5 (fun hp19 =>
    some ((1 : Int32), hp19)) FU hp a4 (0 : Int32)
def f_Pl_find_L6 (q1 : Nat) (v3 : Int32) (v4 : Int32) (v5 : Int32) (K : HP → Int32 → Option (Int32 × HP)) : Nat → HP → Int32 → Int32 → Option (Int32 × HP)
  | 0, _, _, _ => none
  | n + 1, hp, x6, x7 =>
      if (hp 68 7) ≤ x7 then
        K hp x6
      else
        f_Pl_find_L6 q1 v3 v4 v5 K n hp (x6 * v5) (x7 + 1)
def f_Pl_find_L31 (q1 : Nat) (v3 : Int32) (v4 : Int32) (v5 : Int32) (v6 : Int32) (K : HP → Option (Int32 × HP)) : Nat → HP → Int32 → Option (Int32 × HP)
  | 0, _, _ => none
  | n + 1, hp, x7 =>
      if v6 ≤ x7 then
        K hp
      else
        ((f_Pl_give hp x7 (hp 68 7) v5).bind fun p6 => ((f_Pl_works p6.2 q1 v3 v4 v5).bind fun p8 => if p8.1 = 0 then
          f_Pl_find_L31 q1 v3 v4 v5 v6 K n p8.2 (x7 + 1)
        else
          some ((1 : Int32), p8.2)))
def f_Pl_find (hp : HP) (q1 : Nat) (a3 : Int32) (a4 : Int32) (a5 : Int32) : Option (Int32 × HP) :=
  f_Pl_find_L6 q1 a3 a4 a5 (fun hp3 w2 =>
    f_Pl_find_L31 q1 a3 a4 a5 w2 (fun hp10 =>
      some ((0 : Int32), hp10)) FU hp3 (0 : Int32)) FU hp (1 : Int32) (0 : Int32)
def f_BA_plan (hp : HP) (a1 : Int32) (a2 : Int32) (a3 : Int32) : Option (Int32 × HP) :=
  (if isB (hp 0 8).toNatClampNeg then ((f_Br_hasCustomer hp (hp 0 8).toNatClampNeg a1).bind fun p3 => if p3.1 = 0 then
    some ((-1000000001 : Int32), p3.2)
  else
    ((f_BA_within p3.2 a2 (1 : Int32) (4 : Int32)).bind fun p6 => if p6.1 = 0 then
      some ((-1000000002 : Int32), p6.2)
    else
      ((f_Sl_lastMustMonth p6.2).bind fun p9 => if p9.1 < a2 then
        (if isB (p9.2 0 8).toNatClampNeg then (if inb a1 5 then ((f_Pl_find p9.2 (p9.2 0 8).toNatClampNeg a1 (p9.2 4 (a1).toNatClampNeg) a2).bind fun p14 => if a3 = (-1 : Int32) then
          if p14.1 = 0 then
            some ((0 : Int32), p14.2)
          else
            some ((1 : Int32), p14.2)
        else
          if p14.1 = 0 then
            some ((-1 : Int32), p14.2)
          else
            ((f_BA_within p14.2 a3 (0 : Int32) ((p14.2 68 7) - (1 : Int32))).bind fun p19 => if p19.1 = 0 then
              some ((-1 : Int32), p19.2)
            else
              (if inb a3 5 then some ((p19.2 77 (a3).toNatClampNeg), p19.2) else none))) else none) else none)
      else
        some ((-1000000002 : Int32), p9.2)))) else none)
def f_BA_isDoableOnlyAsOne (hp : HP) (a1 : Int32) (a2 : Int32) (a3 : Int32) : Option (Int32 × HP) :=
  (if inb a2 5 then (if inb a3 5 then (if isB (hp 0 8).toNatClampNeg then ((f_Br_isDoable hp (hp 0 8).toNatClampNeg a1 (hp 4 (a2).toNatClampNeg)).bind fun p5 => if p5.1 = 0 then
    (if isB (p5.2 0 8).toNatClampNeg then ((f_Br_isDoable p5.2 (p5.2 0 8).toNatClampNeg a1 (hp 4 (a3).toNatClampNeg)).bind fun p9 => if p9.1 = 0 then
      (if isB (p9.2 0 8).toNatClampNeg then ((f_BA_bounded p9.2 ((hp 4 (a2).toNatClampNeg) + (hp 4 (a3).toNatClampNeg))).bind fun p13 => ((f_Br_isDoable p13.2 (p9.2 0 8).toNatClampNeg a1 p13.1).bind fun p15 => if p15.1 = 0 then
        some ((0 : Int32), p15.2)
      else
        some ((1 : Int32), p15.2))) else none)
    else
      some ((0 : Int32), p9.2)) else none)
  else
    some ((0 : Int32), p5.2)) else none) else none) else none)
def f_BA_asOne_L37 (v1 : Int32) (v2 : Int32) (v4 : Int32) (K : HP → Int32 → Option (Int32 × HP)) : Nat → HP → Int32 → Int32 → Option (Int32 × HP)
  | 0, _, _, _ => none
  | n + 1, hp, x3, x5 =>
      (if isB (hp 0 8).toNatClampNeg then if (hp (hp 0 8).toNatClampNeg 6) ≤ x5 then
        K hp x3
      else
        ((f_BA_isDoableOnlyAsOne hp v1 v4 x5).bind fun p10 => if p10.1 = 0 then
          f_BA_asOne_L37 v1 v2 v4 K n p10.2 x3 (x5 + 1)
        else
          if x3 = v2 then
            some ((((10 : Int32) * v4) + x5), p10.2)
          else
            f_BA_asOne_L37 v1 v2 v4 K n p10.2 (x3 + 1) (x5 + 1)) else none)
def f_BA_asOne_L19 (v1 : Int32) (v2 : Int32) (K : HP → Int32 → Option (Int32 × HP)) : Nat → HP → Int32 → Int32 → Option (Int32 × HP)
  | 0, _, _, _ => none
  | n + 1, hp, x3, x4 =>
      (if isB (hp 0 8).toNatClampNeg then if (hp (hp 0 8).toNatClampNeg 6) ≤ x4 then
        K hp x3
      else
        f_BA_asOne_L37 v1 v2 x4 (fun hp14 w13 =>
          f_BA_asOne_L19 v1 v2 K n hp14 w13 (x4 + 1)) FU hp x3 (x4 + (1 : Int32)) else none)
def f_BA_asOne (hp : HP) (a1 : Int32) (a2 : Int32) : Option (Int32 × HP) :=
  (if isB (hp 0 8).toNatClampNeg then ((f_Br_hasTask hp (hp 0 8).toNatClampNeg a1).bind fun p3 => if p3.1 = 0 then
    some ((-1000000001 : Int32), p3.2)
  else
    f_BA_asOne_L19 a1 a2 (fun hp16 w15 =>
      if a2 = (-1 : Int32) then
        some (w15, hp16)
      else
        some ((-1 : Int32), hp16)) FU p3.2 (0 : Int32) (0 : Int32)) else none)
def f_BA_loan (hp : HP) (a1 : Int32) (a2 : Int32) (a3 : Int32) : Option (Int32 × HP) :=
  (if isB (hp 0 8).toNatClampNeg then ((f_Br_hasCustomer hp (hp 0 8).toNatClampNeg a1).bind fun p3 => if p3.1 = 0 then
    some ((-1000000001 : Int32), p3.2)
  else
    (if isB (p3.2 0 8).toNatClampNeg then ((f_Br_hasTask p3.2 (p3.2 0 8).toNatClampNeg a2).bind fun p7 => if p7.1 = 0 then
      some ((-1000000001 : Int32), p7.2)
    else
      ((f_BA_within p7.2 a3 (0 : Int32) (1 : Int32)).bind fun p10 => if p10.1 = 0 then
        some ((-1000000002 : Int32), p10.2)
      else
        (if inb a1 5 then (if isB (p10.2 0 8).toNatClampNeg then ((f_Br_needOf p10.2 (p10.2 0 8).toNatClampNeg a2).bind fun p15 => if a3 = (1 : Int32) then
          if 0 ≤ ((p10.2 4 (a1).toNatClampNeg) - p15.1) then
            some ((mn ((p10.2 4 (a1).toNatClampNeg) - p15.1) (9999 : Int32)), p15.2)
          else
            some ((-1 : Int32), p15.2)
        else
          if ((p10.2 4 (a1).toNatClampNeg) - p15.1) < 0 then
            if (9999 : Int32) < (-((p10.2 4 (a1).toNatClampNeg) - p15.1)) then
              some ((-1 : Int32), p15.2)
            else
              some ((-((p10.2 4 (a1).toNatClampNeg) - p15.1)), p15.2)
          else
            some ((0 : Int32), p15.2)) else none) else none))) else none)) else none)
def f_Br_goneAheadOf_L4 (q0 : Nat) (v1 : Int32) (K : HP → Int32 → Option (Int32 × HP)) : Nat → HP → Int32 → Int32 → Option (Int32 × HP)
  | 0, _, _, _ => none
  | n + 1, hp, x2, x3 =>
      if (hp q0 5) ≤ x3 then
        K hp x2
      else
        (if inb x3 8 then (if inb v1 8 then if (hp (q0 + 1) (v1).toNatClampNeg) < (hp (q0 + 1) (x3).toNatClampNeg) then
          f_Br_goneAheadOf_L4 q0 v1 K n hp (x2 + 1) (x3 + 1)
        else
          if (hp (q0 + 1) (x3).toNatClampNeg) = (hp (q0 + 1) (v1).toNatClampNeg) then
            if v1 ≤ x3 then
              f_Br_goneAheadOf_L4 q0 v1 K n hp x2 (x3 + 1)
            else
              f_Br_goneAheadOf_L4 q0 v1 K n hp (x2 + 1) (x3 + 1)
          else
            f_Br_goneAheadOf_L4 q0 v1 K n hp x2 (x3 + 1) else none) else none)
def f_Br_goneAheadOf (hp : HP) (q0 : Nat) (a1 : Int32) : Option (Int32 × HP) :=
  f_Br_goneAheadOf_L4 q0 a1 (fun hp8 w7 =>
    some (w7, hp8)) FU hp (0 : Int32) (0 : Int32)
def f_BA_order_L2 (v1 : Int32) (K : HP → Option (Int32 × HP)) : Nat → HP → Int32 → Option (Int32 × HP)
  | 0, _, _ => none
  | n + 1, hp, x2 =>
      (if isB (hp 0 8).toNatClampNeg then if (hp (hp 0 8).toNatClampNeg 5) ≤ x2 then
        K hp
      else
        ((f_Br_goneAheadOf hp (hp 0 8).toNatClampNeg x2).bind fun p4 => if p4.1 = v1 then
          some (x2, p4.2)
        else
          f_BA_order_L2 v1 K n p4.2 (x2 + 1)) else none)
def f_BA_order (hp : HP) (a1 : Int32) : Option (Int32 × HP) :=
  f_BA_order_L2 a1 (fun hp6 =>
    some ((-1 : Int32), hp6)) FU hp (0 : Int32)
def f_BA_wage_L30 (v1 : Int32) (v2 : Int32) (K : HP → Int64 → Option (Int32 × HP)) : Nat → HP → Int64 → Int32 → Option (Int32 × HP)
  | 0, _, _, _ => none
  | n + 1, hp, x3, x5 =>
      if v1 ≤ x5 then
        K hp x3
      else
        f_BA_wage_L30 v1 v2 K n hp ((x3 * (((100 : Int32) - v2)).toInt64) / (100 : Int64)) (x5 + 1)
def f_BA_wage (hp : HP) (a1 : Int32) (a2 : Int32) : Option (Int32 × HP) :=
  ((f_BA_within hp a1 (0 : Int32) (60 : Int32)).bind fun p2 => if p2.1 = 0 then
    some ((-1000000002 : Int32), p2.2)
  else
    ((f_BA_within p2.2 a2 (0 : Int32) (100 : Int32)).bind fun p5 => if p5.1 = 0 then
      some ((-1000000002 : Int32), p5.2)
    else
      f_BA_wage_L30 a1 a2 (fun hp9 w8 =>
        some ((w8).toInt32, hp9)) FU p5.2 (1000000000 : Int64) (0 : Int32)))
def f_Sl_addSeen (hp : HP) (a1 : Int32) (a2 : Int32) : Option (Int32 × HP) :=
  if (8 : Int32) ≤ (hp 68 9) then
    some (0, hp)
  else
    (if inb (hp 68 9) 8 then (if inb ((up hp 72 ((hp 68 9)).toNatClampNeg a1) 68 9) 8 then some (0, (up (up (up hp 72 ((hp 68 9)).toNatClampNeg a1) 73 (((up hp 72 ((hp 68 9)).toNatClampNeg a1) 68 9)).toNatClampNeg (bz a2)) 68 9 (((up (up hp 72 ((hp 68 9)).toNatClampNeg a1) 73 (((up hp 72 ((hp 68 9)).toNatClampNeg a1) 68 9)).toNatClampNeg (bz a2)) 68 9) + (1 : Int32)))) else none) else none)
def f_BA_see (hp : HP) (a1 : Int32) (a2 : Int32) : Option (Int32 × HP) :=
  (if isB (hp 0 8).toNatClampNeg then ((f_Br_hasPart hp (hp 0 8).toNatClampNeg a1).bind fun p3 => if p3.1 = 0 then
    some ((-1000000001 : Int32), p3.2)
  else
    if (p3.2 68 9) < (8 : Int32) then
      ((f_Sl_addSeen p3.2 a1 a2).bind fun p7 => some ((p7.2 68 9), p7.2))
    else
      some ((-1000000004 : Int32), p3.2)) else none)
def f_Sl_leastSeen_L6 (q1 : Nat) (K : HP → Int32 → Option (Int32 × HP)) : Nat → HP → Int32 → Int32 → Option (Int32 × HP)
  | 0, _, _, _ => none
  | n + 1, hp, x2, x3 =>
      if (hp 68 9) ≤ x3 then
        K hp x2
      else
        (if inb x3 8 then if (hp 73 (x3).toNatClampNeg) = 0 then
          f_Sl_leastSeen_L6 q1 K n hp x2 (x3 + 1)
        else
          (if inb (hp 72 (x3).toNatClampNeg) 8 then f_Sl_leastSeen_L6 q1 K n hp (mx x2 (hp (q1 + 1) ((hp 72 (x3).toNatClampNeg)).toNatClampNeg)) (x3 + 1) else none) else none)
def f_Sl_leastSeen (hp : HP) (q1 : Nat) : Option (Int32 × HP) :=
  f_Sl_leastSeen_L6 q1 (fun hp6 w5 =>
    some (w5, hp6)) FU hp (-500 : Int32) (0 : Int32)
def f_Sl_greatestSeen_L6 (q1 : Nat) (K : HP → Int32 → Option (Int32 × HP)) : Nat → HP → Int32 → Int32 → Option (Int32 × HP)
  | 0, _, _, _ => none
  | n + 1, hp, x2, x3 =>
      if (hp 68 9) ≤ x3 then
        K hp x2
      else
        (if inb x3 8 then if (hp 73 (x3).toNatClampNeg) = 0 then
          (if inb (hp 72 (x3).toNatClampNeg) 8 then f_Sl_greatestSeen_L6 q1 K n hp (mn x2 ((hp (q1 + 1) ((hp 72 (x3).toNatClampNeg)).toNatClampNeg) - (1 : Int32))) (x3 + 1) else none)
        else
          f_Sl_greatestSeen_L6 q1 K n hp x2 (x3 + 1) else none)
def f_Sl_greatestSeen (hp : HP) (q1 : Nat) : Option (Int32 × HP) :=
  f_Sl_greatestSeen_L6 q1 (fun hp6 w5 =>
    some (w5, hp6)) FU hp (499 : Int32) (0 : Int32)
def f_BA_has (hp : HP) (a1 : Int32) : Option (Int32 × HP) :=
  ((f_BA_within hp a1 (0 : Int32) (2 : Int32)).bind fun p2 => if p2.1 = 0 then
    some ((-1000000002 : Int32), p2.2)
  else
    (if isB (p2.2 0 8).toNatClampNeg then ((f_Sl_leastSeen p2.2 (p2.2 0 8).toNatClampNeg).bind fun p6 => (if isB (p6.2 0 8).toNatClampNeg then ((f_Sl_greatestSeen p6.2 (p6.2 0 8).toNatClampNeg).bind fun p9 => if a1 = 0 then
      some ((mx (0 : Int32) ((p9.1 - p6.1) + (1 : Int32))), p9.2)
    else
      if (mx (0 : Int32) ((p9.1 - p6.1) + (1 : Int32))) = 0 then
        some ((-1 : Int32), p9.2)
      else
        if a1 = (1 : Int32) then
          some ((p6.1 + (10000 : Int32)), p9.2)
        else
          some ((p9.1 + (10000 : Int32)), p9.2)) else none)) else none))
def f_BA_look_L36 (v1 : Int32) (v2 : Int32) (K : HP → Int32 → Option (Int32 × HP)) : Nat → HP → Int32 → Int32 → Int32 → Option (Int32 × HP)
  | 0, _, _, _, _ => none
  | n + 1, hp, x3, x4, x5 =>
      (if isB (hp 0 8).toNatClampNeg then if (hp (hp 0 8).toNatClampNeg 5) ≤ x5 then
        K hp x3
      else
        (if inb x5 8 then if ((hp ((hp 0 8).toNatClampNeg + 1) (x5).toNatClampNeg) - v1) ≤ 0 then
          f_BA_look_L36 v1 v2 K n hp x3 x4 (x5 + 1)
        else
          if ((v2 - (hp ((hp 0 8).toNatClampNeg + 1) (x5).toNatClampNeg)) + (1 : Int32)) ≤ 0 then
            f_BA_look_L36 v1 v2 K n hp x3 x4 (x5 + 1)
          else
            if x4 ≤ (mx ((hp ((hp 0 8).toNatClampNeg + 1) (x5).toNatClampNeg) - v1) ((v2 - (hp ((hp 0 8).toNatClampNeg + 1) (x5).toNatClampNeg)) + (1 : Int32))) then
              f_BA_look_L36 v1 v2 K n hp x3 x4 (x5 + 1)
            else
              f_BA_look_L36 v1 v2 K n hp x5 (mx ((hp ((hp 0 8).toNatClampNeg + 1) (x5).toNatClampNeg) - v1) ((v2 - (hp ((hp 0 8).toNatClampNeg + 1) (x5).toNatClampNeg)) + (1 : Int32))) (x5 + 1) else none) else none)
def f_BA_look (hp : HP) : Option (Int32 × HP) :=
  (if isB (hp 0 8).toNatClampNeg then ((f_Sl_leastSeen hp (hp 0 8).toNatClampNeg).bind fun p3 => (if isB (p3.2 0 8).toNatClampNeg then ((f_Sl_greatestSeen p3.2 (p3.2 0 8).toNatClampNeg).bind fun p6 => f_BA_look_L36 p3.1 p6.1 (fun hp14 w13 =>
    some (w13, hp14)) FU p6.2 (-1 : Int32) ((p6.1 - p3.1) + (1 : Int32)) (0 : Int32)) else none)) else none)
def f_Sl_addEntry (hp : HP) (a1 : Int32) (a2 : Int32) : Option (Int32 × HP) :=
  if (15 : Int32) ≤ (hp 68 10) then
    some (0, hp)
  else
    (if inb (hp 68 10) 15 then (if inb ((up hp 74 ((hp 68 10)).toNatClampNeg a1) 68 10) 15 then some (0, (up (up (up hp 74 ((hp 68 10)).toNatClampNeg a1) 75 (((up hp 74 ((hp 68 10)).toNatClampNeg a1) 68 10)).toNatClampNeg a2) 68 10 (((up (up hp 74 ((hp 68 10)).toNatClampNeg a1) 75 (((up hp 74 ((hp 68 10)).toNatClampNeg a1) 68 10)).toNatClampNeg a2) 68 10) + (1 : Int32)))) else none) else none)
def f_BA_write (hp : HP) (a1 : Int32) (a2 : Int32) : Option (Int32 × HP) :=
  (if isB (hp 0 8).toNatClampNeg then ((f_Br_hasCustomer hp (hp 0 8).toNatClampNeg a1).bind fun p3 => if p3.1 = 0 then
    some ((-1000000001 : Int32), p3.2)
  else
    ((f_BA_within p3.2 a2 (0 : Int32) (20000 : Int32)).bind fun p6 => if p6.1 = 0 then
      some ((-1000000002 : Int32), p6.2)
    else
      if (p6.2 68 10) < (15 : Int32) then
        ((f_Sl_addEntry p6.2 a1 (a2 - (10000 : Int32))).bind fun p10 => some ((p10.2 68 10), p10.2))
      else
        some ((-1000000004 : Int32), p6.2))) else none)
def f_Sl_countAll (hp : HP) : Option (Int32 × HP) :=
  some (((((hp 68 7) + (hp 68 8)) + (hp 68 9)) + (hp 68 10)), hp)
def f_BA_tear (hp : HP) : Option (Int32 × HP) :=
  ((f_Sl_countAll hp).bind fun p2 => ((f_Sl_clear p2.2).bind fun p4 => some (p2.1, p4.2)))
def f_BA_judge_L2 (K : HP → Option (Int32 × HP)) : Nat → HP → Int32 → Option (Int32 × HP)
  | 0, _, _ => none
  | n + 1, hp, x1 =>
      if (hp 68 10) ≤ x1 then
        K hp
      else
        (if inb x1 15 then (if isB (hp 0 8).toNatClampNeg then ((f_Br_hasCustomer hp (hp 0 8).toNatClampNeg (hp 74 (x1).toNatClampNeg)).bind fun p5 => if p5.1 = 0 then
          f_BA_judge_L2 K n p5.2 (x1 + 1)
        else
          (if inb (hp 74 (x1).toNatClampNeg) 5 then if (p5.2 4 ((hp 74 (x1).toNatClampNeg)).toNatClampNeg) = (p5.2 75 (x1).toNatClampNeg) then
            f_BA_judge_L2 K n p5.2 (x1 + 1)
          else
            some (x1, p5.2) else none)) else none) else none)
def f_BA_judge (hp : HP) : Option (Int32 × HP) :=
  f_BA_judge_L2 (fun hp9 =>
    some ((-1 : Int32), hp9)) FU hp (0 : Int32)
def f_BA_seed (hp : HP) (a1 : Int32) : Option (Int32 × HP) :=
  if 0 ≤ a1 then
    some ((hp 0 11), (up hp 0 11 a1))
  else
    some ((-1000000002 : Int32), hp)
def f_BA_keep (hp : HP) (a1 : Int32) : Option (Int32 × HP) :=
  ((f_BA_within hp a1 (0 : Int32) (1 : Int32)).bind fun p2 => if p2.1 = 0 then
    some ((-1000000001 : Int32), p2.2)
  else
    (if inb a1 2 then (if isS (78 + 1 + 3 * (a1).toNatClampNeg) then ((f_St_copyFrom p2.2 (78 + 1 + 3 * (a1).toNatClampNeg) 3).bind fun p7 => ((f_Pa_clear (up (up p7.2 85 (a1).toNatClampNeg (p7.2 0 11)) 86 (a1).toNatClampNeg (bz (1 : Int32)))).bind fun p9 => some ((1 : Int32), p9.2))) else none) else none))
def f_BA_goBack (hp : HP) (a1 : Int32) : Option (Int32 × HP) :=
  ((f_BA_within hp a1 (0 : Int32) (1 : Int32)).bind fun p2 => if p2.1 = 0 then
    some ((-1000000001 : Int32), p2.2)
  else
    (if inb a1 2 then if (p2.2 86 (a1).toNatClampNeg) = 0 then
      some ((-1000000003 : Int32), p2.2)
    else
      (if isS (78 + 1 + 3 * (a1).toNatClampNeg) then ((f_St_copyFrom p2.2 3 (78 + 1 + 3 * (a1).toNatClampNeg)).bind fun p8 => ((f_Pa_clear (up p8.2 0 11 (p8.2 85 (a1).toNatClampNeg))).bind fun p10 => some ((1 : Int32), p10.2))) else none) else none))
def f_Mo_in (hp : HP) (a0 : Int64) (a1 : Int64) (a2 : Int64) : Option (Int32 × HP) :=
  if (lg_cmp a0 a1) < 0 then
    some ((0 : Int32), hp)
  else
    if 0 < (lg_cmp a0 a2) then
      some ((0 : Int32), hp)
    else
      some ((1 : Int32), hp)
def f_Mo_isIn (hp : HP) (a0 : Int32) (a1 : Int32) : Option (Int32 × HP) :=
  if ((a0 >>> (a1 &&& 31)) &&& (1 : Int32)) = (1 : Int32) then
    some ((1 : Int32), hp)
  else
    some ((0 : Int32), hp)
def f_Mo_copy_L2 (v1 : Int32) (v2 : Int32) (K : HP → Option (Int32 × HP)) : Nat → HP → Int32 → Option (Int32 × HP)
  | 0, _, _ => none
  | n + 1, hp, x3 =>
      if (32 : Int32) ≤ x3 then
        K hp
      else
        (if inb (v1 + x3) 736 then (if inb (v2 + x3) 736 then f_Mo_copy_L2 v1 v2 K n (up hp 100 ((v2 + x3)).toNatClampNeg (hp 100 ((v1 + x3)).toNatClampNeg)) (x3 + 1) else none) else none)
def f_Mo_copy (hp : HP) (a1 : Int32) (a2 : Int32) : Option (Int32 × HP) :=
  f_Mo_copy_L2 a1 a2 (fun hp4 =>
    some (0, hp4)) FU hp (0 : Int32)
def f_Mo_isPart (hp : HP) (a1 : Int32) : Option (Int32 × HP) :=
  ((f_Mo_in hp (a1).toInt64 (0 : Int64) (((hp 99 3) - (1 : Int32))).toInt64).bind fun p2 => rz p2.1 p2.2)
def f_Mo_isCustomer (hp : HP) (a1 : Int32) : Option (Int32 × HP) :=
  ((f_Mo_in hp (a1).toInt64 (0 : Int64) (((hp 99 5) - (1 : Int32))).toInt64).bind fun p2 => rz p2.1 p2.2)
def f_Mo_areTwo (hp : HP) (a1 : Int32) (a2 : Int32) : Option (Int32 × HP) :=
  ((f_Mo_isCustomer hp a1).bind fun p2 => if p2.1 = 0 then
    some ((0 : Int32), p2.2)
  else
    ((f_Mo_isCustomer p2.2 a2).bind fun p5 => if p5.1 = 0 then
      some ((0 : Int32), p5.2)
    else
      if a1 = a2 then
        some ((0 : Int32), p5.2)
      else
        some ((1 : Int32), p5.2)))
def f_Mo_isTask (hp : HP) (a1 : Int32) : Option (Int32 × HP) :=
  ((f_Mo_in hp (a1).toInt64 (0 : Int64) (((hp 99 8) - (1 : Int32))).toInt64).bind fun p2 => rz p2.1 p2.2)
def f_Mo_bounded (hp : HP) (a0 : Int32) : Option (Int32 × HP) :=
  if a0 ≤ (9999 : Int32) then
    if (-9999 : Int32) ≤ a0 then
      some (a0, hp)
    else
      some ((-9999 : Int32), hp)
  else
    some ((9999 : Int32), hp)
def f_Mo_feed (hp : HP) (a1 : Int32) : Option (Int32 × HP) :=
  ((f_Mo_in hp (a1).toInt64 (0 : Int64) (255 : Int64)).bind fun p2 => if p2.1 = 0 then
    some ((-1000000002 : Int32), p2.2)
  else
    if (p2.2 99 11) = (240 : Int32) then
      some ((-1000000004 : Int32), p2.2)
    else
      (if inb (p2.2 99 11) 240 then some (((up (up p2.2 106 ((p2.2 99 11)).toNatClampNeg a1) 99 11 (((up p2.2 106 ((p2.2 99 11)).toNatClampNeg a1) 99 11) + (1 : Int32))) 99 11), (up (up p2.2 106 ((p2.2 99 11)).toNatClampNeg a1) 99 11 (((up p2.2 106 ((p2.2 99 11)).toNatClampNeg a1) 99 11) + (1 : Int32)))) else none))
def f_Mo_letterAt (hp : HP) (a1 : Int32) : Option (Int32 × HP) :=
  if (hp 99 11) ≤ a1 then
    some ((-1 : Int32), hp)
  else
    (if inb a1 240 then some ((hp 106 (a1).toNatClampNeg), hp) else none)
def f_Mo_here_L0 (K : HP → Option (Int32 × HP)) : Nat → HP → Option (Int32 × HP)
  | 0, _ => none
  | n + 1, hp =>
      ((f_Mo_letterAt hp (hp 99 12)).bind fun p2 => if p2.1 = (32 : Int32) then
        f_Mo_here_L0 K n (up p2.2 99 12 ((p2.2 99 12) + (1 : Int32)))
      else
        K p2.2)
def f_Mo_here (hp : HP) : Option (Int32 × HP) :=
  f_Mo_here_L0 (fun hp4 =>
    ((f_Mo_letterAt (up hp4 99 13 (hp4 99 12)) ((up hp4 99 13 (hp4 99 12)) 99 12)).bind fun p6 => some (p6.1, p6.2))) FU hp
def f_Mo_fails (hp : HP) (a1 : Int32) (a2 : Int32) : Option (Int32 × HP) :=
  some ((0 : Int32), (up (up hp 99 15 a1) 99 16 a2))
def f_Mo_takes (hp : HP) (a1 : Int32) : Option (Int32 × HP) :=
  ((f_Mo_here hp).bind fun p2 => if p2.1 = a1 then
    some ((1 : Int32), (up p2.2 99 12 ((p2.2 99 12) + (1 : Int32))))
  else
    ((f_Mo_fails p2.2 (1 : Int32) (p2.2 99 13)).bind fun p5 => rz p5.1 p5.2))
def f_Mo_takesNumber_L32 (v1 : Int32) (v2 : Int32) (K : HP → Option (Int32 × HP)) : Nat → HP → Option (Int32 × HP)
  | 0, _ => none
  | n + 1, hp =>
      ((f_Mo_letterAt hp (hp 99 12)).bind fun p9 => ((f_Mo_in p9.2 (p9.1).toInt64 (48 : Int64) (57 : Int64)).bind fun p11 => if p11.1 = 0 then
        K p11.2
      else
        if (3 : Int32) ≤ ((p11.2 99 12) - (p11.2 99 13)) then
          f_Mo_takesNumber_L32 v1 v2 K n (up (up p11.2 99 14 (p11.2 99 14)) 99 12 (((up p11.2 99 14 (p11.2 99 14)) 99 12) + (1 : Int32)))
        else
          ((f_Mo_letterAt p11.2 (p11.2 99 12)).bind fun p15 => f_Mo_takesNumber_L32 v1 v2 K n (up (up p15.2 99 14 ((((10 : Int32) * (p11.2 99 14)) + p15.1) - (48 : Int32))) 99 12 (((up p15.2 99 14 ((((10 : Int32) * (p11.2 99 14)) + p15.1) - (48 : Int32))) 99 12) + (1 : Int32))))))
def f_Mo_takesNumber (hp : HP) (a1 : Int32) (a2 : Int32) : Option (Int32 × HP) :=
  ((f_Mo_here hp).bind fun p2 => ((f_Mo_in p2.2 (p2.1).toInt64 (48 : Int64) (57 : Int64)).bind fun p4 => if p4.1 = 0 then
    ((f_Mo_fails p4.2 (1 : Int32) (p4.2 99 13)).bind fun p7 => rz p7.1 p7.2)
  else
    f_Mo_takesNumber_L32 a1 a2 (fun hp16 =>
      if (4 : Int32) ≤ ((hp16 99 12) - (hp16 99 13)) then
        ((f_Mo_fails hp16 (2 : Int32) (hp16 99 13)).bind fun p19 => if p19.1 = 0 then
          some ((0 : Int32), p19.2)
        else
          some ((1 : Int32), p19.2))
      else
        ((f_Mo_in hp16 ((hp16 99 14)).toInt64 (a1).toInt64 (a2).toInt64).bind fun p22 => if p22.1 = 0 then
          ((f_Mo_fails p22.2 (2 : Int32) (p22.2 99 13)).bind fun p25 => if p25.1 = 0 then
            some ((0 : Int32), p25.2)
          else
            some ((1 : Int32), p25.2))
        else
          some ((1 : Int32), p22.2))) FU (up p4.2 99 14 (0 : Int32))))
def f_Mo_takesBranch_L2 (K : HP → Option (Int32 × HP)) : Nat → HP → Int32 → Option (Int32 × HP)
  | 0, _, _ => none
  | n + 1, hp, x1 =>
      if x1 = 0 then
        K hp
      else
        ((f_Mo_takesNumber hp (0 : Int32) (999 : Int32)).bind fun p3 => if p3.1 = 0 then
          some ((0 : Int32), p3.2)
        else
          (if inb (p3.2 99 17) 8 then ((f_Mo_here (up (up p3.2 107 ((p3.2 99 17)).toNatClampNeg (p3.2 99 14)) 99 17 (((up p3.2 107 ((p3.2 99 17)).toNatClampNeg (p3.2 99 14)) 99 17) + (1 : Int32)))).bind fun p7 => if p7.1 = (44 : Int32) then
            if (p7.2 99 17) = (8 : Int32) then
              ((f_Mo_fails p7.2 (1 : Int32) (p7.2 99 13)).bind fun p12 => rz p12.1 p12.2)
            else
              f_Mo_takesBranch_L2 K n (up p7.2 99 12 ((p7.2 99 12) + (1 : Int32))) (1 : Int32)
          else
            f_Mo_takesBranch_L2 K n (up p7.2 99 12 ((p7.2 99 12) + (0 : Int32))) (0 : Int32)) else none))
def f_Mo_takesBranch (hp : HP) : Option (Int32 × HP) :=
  f_Mo_takesBranch_L2 (fun hp16 =>
    some ((1 : Int32), hp16)) FU hp (1 : Int32)
def f_Mo_takesCustomer_L2 (K : HP → Option (Int32 × HP)) : Nat → HP → Int32 → Option (Int32 × HP)
  | 0, _, _ => none
  | n + 1, hp, x1 =>
      if (3 : Int32) ≤ x1 then
        K hp
      else
        if x1 = 0 then
          ((f_Mo_takesNumber hp (0 : Int32) (999 : Int32)).bind fun p4 => if p4.1 = 0 then
            some ((0 : Int32), p4.2)
          else
            (if inb (((3 : Int32) * (p4.2 99 19)) + x1) 15 then f_Mo_takesCustomer_L2 K n (up p4.2 108 ((((3 : Int32) * (p4.2 99 19)) + x1)).toNatClampNeg (p4.2 99 14)) (x1 + 1) else none))
        else
          ((f_Mo_takesNumber hp (0 : Int32) (99 : Int32)).bind fun p8 => if p8.1 = 0 then
            some ((0 : Int32), p8.2)
          else
            (if inb (((3 : Int32) * (p8.2 99 19)) + x1) 15 then f_Mo_takesCustomer_L2 K n (up p8.2 108 ((((3 : Int32) * (p8.2 99 19)) + x1)).toNatClampNeg (p8.2 99 14)) (x1 + 1) else none))
def f_Mo_takesCustomer (hp : HP) : Option (Int32 × HP) :=
  f_Mo_takesCustomer_L2 (fun hp11 =>
    some ((1 : Int32), (up hp11 99 19 ((hp11 99 19) + (1 : Int32))))) FU hp (0 : Int32)
def f_Mo_takesTask (hp : HP) : Option (Int32 × HP) :=
  ((f_Mo_takesNumber hp (0 : Int32) (((1 : Int32) <<< ((hp 99 17) &&& 31)) - (1 : Int32))).bind fun p2 => if p2.1 = 0 then
    some ((0 : Int32), p2.2)
  else
    (if inb (p2.2 99 21) 6 then some ((1 : Int32), (up (up p2.2 109 ((p2.2 99 21)).toNatClampNeg (p2.2 99 14)) 99 21 (((up p2.2 109 ((p2.2 99 21)).toNatClampNeg (p2.2 99 14)) 99 21) + (1 : Int32)))) else none))
def f_Mo_takesClause (hp : HP) : Option (Int32 × HP) :=
  ((f_Mo_here hp).bind fun p2 => if p2.1 = (98 : Int32) then
    if (p2.2 99 17) ≤ 0 then
      ((f_Mo_takesBranch (up p2.2 99 12 ((p2.2 99 12) + (1 : Int32)))).bind fun p10 => if p10.1 = 0 then
        some ((0 : Int32), p10.2)
      else
        ((f_Mo_takes p10.2 (59 : Int32)).bind fun p13 => if p13.1 = 0 then
          some ((0 : Int32), p13.2)
        else
          some ((1 : Int32), p13.2)))
    else
      ((f_Mo_fails p2.2 (3 : Int32) (p2.2 99 13)).bind fun p17 => rz p17.1 p17.2)
  else
    if (p2.2 99 17) ≤ 0 then
      ((f_Mo_fails p2.2 (1 : Int32) (p2.2 99 13)).bind fun p21 => rz p21.1 p21.2)
    else
      if p2.1 = (99 : Int32) then
        if (p2.2 99 19) = (5 : Int32) then
          ((f_Mo_fails p2.2 (3 : Int32) (p2.2 99 13)).bind fun p29 => rz p29.1 p29.2)
        else
          ((f_Mo_takesCustomer (up p2.2 99 12 ((p2.2 99 12) + (1 : Int32)))).bind fun p34 => if p34.1 = 0 then
            some ((0 : Int32), p34.2)
          else
            ((f_Mo_takes p34.2 (59 : Int32)).bind fun p37 => if p37.1 = 0 then
              some ((0 : Int32), p37.2)
            else
              some ((1 : Int32), p37.2)))
      else
        if p2.1 = (116 : Int32) then
          if (p2.2 99 21) = (6 : Int32) then
            ((f_Mo_fails p2.2 (3 : Int32) (p2.2 99 13)).bind fun p46 => rz p46.1 p46.2)
          else
            ((f_Mo_takesTask (up p2.2 99 12 ((p2.2 99 12) + (1 : Int32)))).bind fun p51 => if p51.1 = 0 then
              some ((0 : Int32), p51.2)
            else
              ((f_Mo_takes p51.2 (59 : Int32)).bind fun p54 => if p54.1 = 0 then
                some ((0 : Int32), p54.2)
              else
                some ((1 : Int32), p54.2)))
        else
          ((f_Mo_fails p2.2 (1 : Int32) (p2.2 99 13)).bind fun p58 => rz p58.1 p58.2))
def f_Mo_branch_L32 (K : HP → Int32 → Option (Int32 × HP)) : Nat → HP → Int32 → Option (Int32 × HP)
  | 0, _, _ => none
  | n + 1, hp, x1 =>
      if x1 = 0 then
        K hp x1
      else
        ((f_Mo_here hp).bind fun p3 => if p3.1 = (-1 : Int32) then
          K p3.2 x1
        else
          ((f_Mo_takesClause p3.2).bind fun p6 => f_Mo_branch_L32 K n p6.2 p6.1))
def f_Mo_branch_L79 (v2 : Int32) (K : HP → Option (Int32 × HP)) : Nat → HP → Int32 → Option (Int32 × HP)
  | 0, _, _ => none
  | n + 1, hp, x3 =>
      if (32 : Int32) ≤ x3 then
        K hp
      else
        (if inb x3 736 then f_Mo_branch_L79 v2 K n (up hp 100 (x3).toNatClampNeg (0 : Int32)) (x3 + 1) else none)
def f_Mo_branch_L132 (K : HP → Option (Int32 × HP)) : Nat → HP → Int32 → Option (Int32 × HP)
  | 0, _, _ => none
  | n + 1, hp, x3 =>
      if (hp 99 3) ≤ x3 then
        K hp
      else
        (if inb x3 8 then f_Mo_branch_L132 K n (up hp 102 (x3).toNatClampNeg (hp 107 (x3).toNatClampNeg)) (x3 + 1) else none)
def f_Mo_branch_L160 (K : HP → Option (Int32 × HP)) : Nat → HP → Int32 → Option (Int32 × HP)
  | 0, _, _ => none
  | n + 1, hp, x3 =>
      if (hp 99 5) ≤ x3 then
        K hp
      else
        (if inb ((3 : Int32) * x3) 15 then (if inb ((1 : Int32) + x3) 736 then (if inb (((3 : Int32) * x3) + (1 : Int32)) 15 then (if inb x3 5 then (if inb (((3 : Int32) * x3) + (2 : Int32)) 15 then f_Mo_branch_L160 K n (up (up (up hp 100 (((1 : Int32) + x3)).toNatClampNeg ((hp 108 (((3 : Int32) * x3)).toNatClampNeg) - (500 : Int32))) 103 (x3).toNatClampNeg ((up hp 100 (((1 : Int32) + x3)).toNatClampNeg ((hp 108 (((3 : Int32) * x3)).toNatClampNeg) - (500 : Int32))) 108 ((((3 : Int32) * x3) + (1 : Int32))).toNatClampNeg)) 104 (x3).toNatClampNeg ((up (up hp 100 (((1 : Int32) + x3)).toNatClampNeg ((hp 108 (((3 : Int32) * x3)).toNatClampNeg) - (500 : Int32))) 103 (x3).toNatClampNeg ((up hp 100 (((1 : Int32) + x3)).toNatClampNeg ((hp 108 (((3 : Int32) * x3)).toNatClampNeg) - (500 : Int32))) 108 ((((3 : Int32) * x3) + (1 : Int32))).toNatClampNeg)) 108 ((((3 : Int32) * x3) + (2 : Int32))).toNatClampNeg)) (x3 + 1) else none) else none) else none) else none) else none)
def f_Mo_branch_L228 (K : HP → Option (Int32 × HP)) : Nat → HP → Int32 → Option (Int32 × HP)
  | 0, _, _ => none
  | n + 1, hp, x3 =>
      if (hp 99 8) ≤ x3 then
        K hp
      else
        (if inb x3 6 then f_Mo_branch_L228 K n (up hp 105 (x3).toNatClampNeg (hp 109 (x3).toNatClampNeg)) (x3 + 1) else none)
def f_Mo_branch (hp : HP) : Option (Int32 × HP) :=
  f_Mo_branch_L32 (fun hp8 w7 =>
    if w7 = 0 then
      some (((-10 : Int32) - ((up hp8 99 11 (0 : Int32)) 99 15)), (up hp8 99 11 (0 : Int32)))
    else
      f_Mo_branch_L79 ((up hp8 99 11 (0 : Int32)) 100 31) (fun hp12 =>
        f_Mo_branch_L132 (fun hp15 =>
          f_Mo_branch_L160 (fun hp22 =>
            f_Mo_branch_L228 (fun hp25 =>
              some (((up (up (up (up (up (up (up hp25 99 23 (0 : Int32)) 99 25 (0 : Int32)) 99 29 (0 : Int32)) 99 32 (0 : Int32)) 99 2 (0 : Int32)) 101 0 (bz (0 : Int32))) 101 1 (bz (0 : Int32))) 99 5), (up (up (up (up (up (up (up hp25 99 23 (0 : Int32)) 99 25 (0 : Int32)) 99 29 (0 : Int32)) 99 32 (0 : Int32)) 99 2 (0 : Int32)) 101 0 (bz (0 : Int32))) 101 1 (bz (0 : Int32))))) FU hp22 (0 : Int32)) FU hp15 (0 : Int32)) FU (up (up (up (up hp12 100 31 ((up hp8 99 11 (0 : Int32)) 100 31)) 99 3 ((up hp12 100 31 ((up hp8 99 11 (0 : Int32)) 100 31)) 99 17)) 99 5 ((up (up hp12 100 31 ((up hp8 99 11 (0 : Int32)) 100 31)) 99 3 ((up hp12 100 31 ((up hp8 99 11 (0 : Int32)) 100 31)) 99 17)) 99 19)) 99 8 ((up (up (up hp12 100 31 ((up hp8 99 11 (0 : Int32)) 100 31)) 99 3 ((up hp12 100 31 ((up hp8 99 11 (0 : Int32)) 100 31)) 99 17)) 99 5 ((up (up hp12 100 31 ((up hp8 99 11 (0 : Int32)) 100 31)) 99 3 ((up hp12 100 31 ((up hp8 99 11 (0 : Int32)) 100 31)) 99 17)) 99 19)) 99 21)) (0 : Int32)) FU (up hp8 99 11 (0 : Int32)) (0 : Int32)) FU (up (up (up (up (up (up hp 99 12 (0 : Int32)) 99 15 (0 : Int32)) 99 16 (-1 : Int32)) 99 17 (0 : Int32)) 99 19 (0 : Int32)) 99 21 (0 : Int32)) (1 : Int32)
def f_Mo_fault (hp : HP) : Option (Int32 × HP) :=
  some ((hp 99 16), hp)
def f_Mo_thereBy_L4 (v1 : Int32) (K : HP → Int32 → Option (Int32 × HP)) : Nat → HP → Int32 → Int32 → Option (Int32 × HP)
  | 0, _, _, _ => none
  | n + 1, hp, x2, x3 =>
      if (hp 99 3) ≤ x3 then
        K hp x2
      else
        (if inb x3 8 then if v1 < ((hp 102 (x3).toNatClampNeg) - (500 : Int32)) then
          f_Mo_thereBy_L4 v1 K n hp (x2 ||| (0 : Int32)) (x3 + 1)
        else
          f_Mo_thereBy_L4 v1 K n hp (x2 ||| ((1 : Int32) <<< (x3 &&& 31))) (x3 + 1) else none)
def f_Mo_thereBy (hp : HP) (a1 : Int32) : Option (Int32 × HP) :=
  f_Mo_thereBy_L4 a1 (fun hp5 w4 =>
    some (w4, hp5)) FU hp (0 : Int32) (0 : Int32)
def f_Mo_thereOf (hp : HP) (a1 : Int32) : Option (Int32 × HP) :=
  (if inb ((1 : Int32) + a1) 736 then ((f_Mo_thereBy hp (hp 100 (((1 : Int32) + a1)).toNatClampNeg)).bind fun p3 => some (p3.1, p3.2)) else none)
def f_Mo_whole (hp : HP) : Option (Int32 × HP) :=
  some ((((1 : Int32) <<< ((hp 99 3) &&& 31)) - (1 : Int32)), hp)
def f_Mo_hats_L4 (K : HP → Int32 → Option (Int32 × HP)) : Nat → HP → Int32 → Int32 → Option (Int32 × HP)
  | 0, _, _, _ => none
  | n + 1, hp, x1, x2 =>
      if (hp 99 5) ≤ x2 then
        K hp x1
      else
        ((f_Mo_thereOf hp x2).bind fun p3 => if p3.1 = 0 then
          f_Mo_hats_L4 K n p3.2 (x1 ||| ((1 : Int32) <<< (x2 &&& 31))) (x2 + 1)
        else
          f_Mo_hats_L4 K n p3.2 (x1 ||| (0 : Int32)) (x2 + 1))
def f_Mo_hats (hp : HP) : Option (Int32 × HP) :=
  f_Mo_hats_L4 (fun hp6 w5 =>
    some (w5, hp6)) FU hp (0 : Int32) (0 : Int32)
def f_Mo_net_L4 (v1 : Int32) (K : HP → Int32 → Option (Int32 × HP)) : Nat → HP → Int32 → Int32 → Option (Int32 × HP)
  | 0, _, _, _ => none
  | n + 1, hp, x2, x3 =>
      if (hp 99 5) ≤ x3 then
        K hp x2
      else
        (if inb (((6 : Int32) + ((5 : Int32) * v1)) + x3) 736 then f_Mo_net_L4 v1 K n hp (x2 - (hp 100 ((((6 : Int32) + ((5 : Int32) * v1)) + x3)).toNatClampNeg)) (x3 + 1) else none)
def f_Mo_net (hp : HP) (a1 : Int32) : Option (Int32 × HP) :=
  f_Mo_net_L4 a1 (fun hp4 w3 =>
    some (w3, hp4)) FU hp (0 : Int32) (0 : Int32)
def f_Mo_wholes_L4 (v1 : Int32) (K : HP → Int32 → Option (Int32 × HP)) : Nat → HP → Int32 → Int32 → Option (Int32 × HP)
  | 0, _, _, _ => none
  | n + 1, hp, x2, x3 =>
      if (hp 99 5) ≤ x3 then
        K hp x2
      else
        (if inb ((1 : Int32) + x3) 736 then if v1 = 0 then
          ((f_Mo_thereBy hp ((hp 100 (((1 : Int32) + x3)).toNatClampNeg) + (0 : Int32))).bind fun p5 => ((f_Mo_whole p5.2).bind fun p7 => if p5.1 = p7.1 then
            f_Mo_wholes_L4 v1 K n p7.2 (x2 ||| ((1 : Int32) <<< (x3 &&& 31))) (x3 + 1)
          else
            f_Mo_wholes_L4 v1 K n p7.2 (x2 ||| (0 : Int32)) (x3 + 1)))
        else
          ((f_Mo_net hp x3).bind fun p10 => ((f_Mo_thereBy p10.2 ((hp 100 (((1 : Int32) + x3)).toNatClampNeg) + p10.1)).bind fun p12 => ((f_Mo_whole p12.2).bind fun p14 => if p12.1 = p14.1 then
            f_Mo_wholes_L4 v1 K n p14.2 (x2 ||| ((1 : Int32) <<< (x3 &&& 31))) (x3 + 1)
          else
            f_Mo_wholes_L4 v1 K n p14.2 (x2 ||| (0 : Int32)) (x3 + 1)))) else none)
def f_Mo_wholes (hp : HP) (a1 : Int32) : Option (Int32 × HP) :=
  f_Mo_wholes_L4 a1 (fun hp17 w16 =>
    some (w16, hp17)) FU hp (0 : Int32) (0 : Int32)
def f_Mo_cleared_L4 (K : HP → Int32 → Option (Int32 × HP)) : Nat → HP → Int32 → Int32 → Option (Int32 × HP)
  | 0, _, _, _ => none
  | n + 1, hp, x1, x2 =>
      if (hp 99 5) ≤ x2 then
        K hp x1
      else
        ((f_Mo_net hp x2).bind fun p3 => if 0 ≤ p3.1 then
          f_Mo_cleared_L4 K n p3.2 (x1 + (0 : Int32)) (x2 + 1)
        else
          f_Mo_cleared_L4 K n p3.2 (x1 + (1 : Int32)) (x2 + 1))
def f_Mo_cleared (hp : HP) : Option (Int32 × HP) :=
  f_Mo_cleared_L4 (fun hp6 w5 =>
    some (w5, hp6)) FU hp (0 : Int32) (0 : Int32)
def f_Mo_told (hp : HP) (a1 : Int32) : Option (Int32 × HP) :=
  if a1 = 0 then
    some ((hp 99 3), hp)
  else if a1 = 1 then
    some ((hp 99 5), hp)
  else if a1 = 2 then
    some ((hp 99 8), hp)
  else if a1 = 3 then
    some ((hp 99 11), hp)
  else if a1 = 4 then
    some ((hp 100 0), hp)
  else if a1 = 5 then
    ((f_Mo_hats hp).bind fun p8 => some (p8.1, p8.2))
  else if a1 = 6 then
    ((f_Mo_wholes hp (0 : Int32)).bind fun p11 => some (p11.1, p11.2))
  else if a1 = 7 then
    ((f_Mo_cleared hp).bind fun p14 => some (p14.1, p14.2))
  else if a1 = 8 then
    ((f_Mo_wholes hp (1 : Int32)).bind fun p17 => some (p17.1, p17.2))
  else if a1 = 9 then
    some ((hp 99 23), hp)
  else if a1 = 10 then
    some ((hp 99 25), hp)
  else if a1 = 11 then
    some ((hp 99 29), hp)
  else if a1 = 12 then
    some ((hp 99 32), hp)
  else if a1 = 13 then
    some ((hp 99 2), hp)
  else 
  some ((-1000000002 : Int32), hp)
def f_Mo_part (hp : HP) (a1 : Int32) : Option (Int32 × HP) :=
  ((f_Mo_isPart hp a1).bind fun p2 => if p2.1 = 0 then
    some ((-1000000001 : Int32), p2.2)
  else
    (if inb a1 8 then some ((p2.2 102 (a1).toNatClampNeg), p2.2) else none))
def f_Mo_customer (hp : HP) (a1 : Int32) (a2 : Int32) : Option (Int32 × HP) :=
  ((f_Mo_isCustomer hp a1).bind fun p2 => if p2.1 = 0 then
    some ((-1000000001 : Int32), p2.2)
  else
    if a2 = 0 then
      (if inb ((1 : Int32) + a1) 736 then some (((p2.2 100 (((1 : Int32) + a1)).toNatClampNeg) + (10000 : Int32)), p2.2) else none)
    else if a2 = 1 then
      ((f_Mo_thereOf p2.2 a1).bind fun p8 => some (p8.1, p8.2))
    else if a2 = 2 then
      (if inb a1 5 then some ((p2.2 103 (a1).toNatClampNeg), p2.2) else none)
    else if a2 = 3 then
      (if inb a1 5 then some ((p2.2 104 (a1).toNatClampNeg), p2.2) else none)
    else if a2 = 4 then
      ((f_Mo_net p2.2 a1).bind fun p15 => some ((p15.1 + (100000 : Int32)), p15.2))
    else 
    some ((-1000000002 : Int32), p2.2))
def f_Mo_owes (hp : HP) (a1 : Int32) (a2 : Int32) : Option (Int32 × HP) :=
  ((f_Mo_areTwo hp a1 a2).bind fun p2 => if p2.1 = 0 then
    some ((-1000000001 : Int32), p2.2)
  else
    (if inb (((6 : Int32) + ((5 : Int32) * a1)) + a2) 736 then some (((p2.2 100 ((((6 : Int32) + ((5 : Int32) * a1)) + a2)).toNatClampNeg) + (100000 : Int32)), p2.2) else none))
def f_Mo_canBy (hp : HP) (a1 : Int32) (a2 : Int32) : Option (Int32 × HP) :=
  (if inb a2 6 then ((f_Mo_thereBy hp a1).bind fun p3 => if ((hp 105 (a2).toNatClampNeg) &&& (p3.1 ^^^ (-1 : Int32))) = 0 then
    some ((1 : Int32), p3.2)
  else
    some ((0 : Int32), p3.2)) else none)
def f_Mo_can (hp : HP) (a1 : Int32) (a2 : Int32) : Option (Int32 × HP) :=
  ((f_Mo_isCustomer hp a1).bind fun p2 => if p2.1 = 0 then
    some ((-1000000001 : Int32), p2.2)
  else
    ((f_Mo_isTask p2.2 a2).bind fun p5 => if p5.1 = 0 then
      some ((-1000000001 : Int32), p5.2)
    else
      (if inb ((1 : Int32) + a1) 736 then ((f_Mo_canBy p5.2 (p5.2 100 (((1 : Int32) + a1)).toNatClampNeg) a2).bind fun p9 => if p9.1 = 0 then
        some ((0 : Int32), p9.2)
      else
        some ((1 : Int32), p9.2)) else none)))
def f_Mo_minds_L11 (K : HP → Option (Int32 × HP)) : Nat → HP → Int32 → Option (Int32 × HP)
  | 0, _, _ => none
  | n + 1, hp, x1 =>
      if (608 : Int32) ≤ x1 then
        K hp
      else
        (if inb (((96 : Int32) + x1) + (32 : Int32)) 736 then (if inb ((96 : Int32) + x1) 736 then f_Mo_minds_L11 K n (up hp 100 (((96 : Int32) + x1)).toNatClampNeg (hp 100 ((((96 : Int32) + x1) + (32 : Int32))).toNatClampNeg)) (x1 + 1) else none) else none)
def f_Mo_minds (hp : HP) : Option (Int32 × HP) :=
  if (hp 99 2) = (20 : Int32) then
    f_Mo_minds_L11 (fun hp5 =>
      ((f_Mo_copy (up hp5 99 2 ((hp5 99 2) - (1 : Int32))) (0 : Int32) ((96 : Int32) + ((32 : Int32) * ((up hp5 99 2 ((hp5 99 2) - (1 : Int32))) 99 2)))).bind fun p7 => some (0, (up p7.2 99 2 ((p7.2 99 2) + (1 : Int32)))))) FU hp (0 : Int32)
  else
    ((f_Mo_copy hp (0 : Int32) ((96 : Int32) + ((32 : Int32) * (hp 99 2)))).bind fun p9 => some (0, (up p9.2 99 2 ((p9.2 99 2) + (1 : Int32)))))
def f_Mo_undo (hp : HP) : Option (Int32 × HP) :=
  if (hp 99 2) = 0 then
    some ((-1000000003 : Int32), hp)
  else
    ((f_Mo_copy (up hp 99 2 ((hp 99 2) - (1 : Int32))) ((96 : Int32) + ((32 : Int32) * ((up hp 99 2 ((hp 99 2) - (1 : Int32))) 99 2))) (0 : Int32)).bind fun p3 => some (((up p3.2 100 31 (hp 100 31)) 99 2), (up p3.2 100 31 (hp 100 31))))
def f_Mo_behindMonth (hp : HP) (a1 : Int32) (a2 : Int32) : Option (Int32 × HP) :=
  (if inb a1 5 then ((f_Mo_bounded hp (a2 + (hp 103 (a1).toNatClampNeg))).bind fun p3 => ((f_Mo_bounded p3.2 (p3.1 - (p3.2 104 (a1).toNatClampNeg))).bind fun p5 => some (p5.1, p5.2))) else none)
def f_Mo_month_L53 (v1 : Int32) (v2 : Int32) (K : HP → Option (Int32 × HP)) : Nat → HP → Int32 → Option (Int32 × HP)
  | 0, _, _ => none
  | n + 1, hp, x3 =>
      if (hp 99 5) ≤ x3 then
        K hp
      else
        (if inb ((1 : Int32) + x3) 736 then ((f_Mo_behindMonth hp x3 (hp 100 (((1 : Int32) + x3)).toNatClampNeg)).bind fun p12 => f_Mo_month_L53 v1 v2 K n (up p12.2 100 (((1 : Int32) + x3)).toNatClampNeg p12.1) (x3 + 1)) else none)
def f_Mo_month_L46 (v1 : Int32) (K : HP → Option (Int32 × HP)) : Nat → HP → Int32 → Option (Int32 × HP)
  | 0, _, _ => none
  | n + 1, hp, x2 =>
      if v1 ≤ x2 then
        K hp
      else
        f_Mo_month_L53 v1 x2 (fun hp13 =>
          f_Mo_month_L46 v1 K n (up hp13 100 0 ((hp13 100 0) + (1 : Int32))) (x2 + 1)) FU hp (0 : Int32)
def f_Mo_month (hp : HP) (a1 : Int32) : Option (Int32 × HP) :=
  ((f_Mo_in hp (a1).toInt64 (1 : Int64) (60 : Int64)).bind fun p2 => if p2.1 = 0 then
    some ((-1000000002 : Int32), p2.2)
  else
    if (p2.2 99 3) = 0 then
      some ((-1000000003 : Int32), p2.2)
    else
      if (p2.2 100 0) ≤ (9000 : Int32) then
        ((f_Mo_minds p2.2).bind fun p7 => f_Mo_month_L46 a1 (fun hp14 =>
          some ((hp14 100 0), hp14)) FU p7.2 (0 : Int32))
      else
        some ((-1000000004 : Int32), p2.2))
def f_Mo_changes (hp : HP) (a1 : Int32) (a2 : Int32) : Option (Int32 × HP) :=
  (if inb ((1 : Int32) + a1) 736 then ((f_Mo_bounded hp ((hp 100 (((1 : Int32) + a1)).toNatClampNeg) + a2)).bind fun p3 => some (0, (up p3.2 100 (((1 : Int32) + a1)).toNatClampNeg p3.1))) else none)
def f_Mo_spend (hp : HP) (a1 : Int32) (a2 : Int32) : Option (Int32 × HP) :=
  ((f_Mo_isCustomer hp a1).bind fun p2 => if p2.1 = 0 then
    some ((-1000000001 : Int32), p2.2)
  else
    ((f_Mo_in p2.2 (a2).toInt64 (1 : Int64) (999 : Int64)).bind fun p5 => if p5.1 = 0 then
      some ((-1000000002 : Int32), p5.2)
    else
      ((f_Mo_minds p5.2).bind fun p8 => ((f_Mo_changes p8.2 a1 (-a2)).bind fun p10 => ((f_Mo_thereOf p10.2 a1).bind fun p12 => some (p12.1, p12.2))))))
def f_Mo_owesMore (hp : HP) (a1 : Int32) (a2 : Int32) (a3 : Int32) : Option (Int32 × HP) :=
  (if inb (((6 : Int32) + ((5 : Int32) * a1)) + a2) 736 then (if inb (((6 : Int32) + ((5 : Int32) * a2)) + a1) 736 then some (0, (up (up hp 100 ((((6 : Int32) + ((5 : Int32) * a1)) + a2)).toNatClampNeg ((hp 100 ((((6 : Int32) + ((5 : Int32) * a1)) + a2)).toNatClampNeg) + a3)) 100 ((((6 : Int32) + ((5 : Int32) * a2)) + a1)).toNatClampNeg (((up hp 100 ((((6 : Int32) + ((5 : Int32) * a1)) + a2)).toNatClampNeg ((hp 100 ((((6 : Int32) + ((5 : Int32) * a1)) + a2)).toNatClampNeg) + a3)) 100 ((((6 : Int32) + ((5 : Int32) * a2)) + a1)).toNatClampNeg) - a3))) else none) else none)
def f_Mo_lend (hp : HP) (a1 : Int32) (a2 : Int32) (a3 : Int32) : Option (Int32 × HP) :=
  ((f_Mo_areTwo hp a1 a2).bind fun p2 => if p2.1 = 0 then
    some ((-1000000001 : Int32), p2.2)
  else
    ((f_Mo_in p2.2 (a3).toInt64 (1 : Int64) (999 : Int64)).bind fun p5 => if p5.1 = 0 then
      some ((-1000000002 : Int32), p5.2)
    else
      (if inb (((6 : Int32) + ((5 : Int32) * a2)) + a1) 736 then if ((p5.2 100 ((((6 : Int32) + ((5 : Int32) * a2)) + a1)).toNatClampNeg) + a3) ≤ (9999 : Int32) then
        ((f_Mo_minds p5.2).bind fun p10 => ((f_Mo_changes p10.2 a1 (-a3)).bind fun p12 => ((f_Mo_changes p12.2 a2 a3).bind fun p14 => ((f_Mo_owesMore p14.2 a2 a1 a3).bind fun p16 => ((f_Mo_thereOf p16.2 a2).bind fun p18 => some (p18.1, p18.2))))))
      else
        some ((-1000000004 : Int32), p5.2) else none)))
def f_Mo_payBack (hp : HP) (a1 : Int32) (a2 : Int32) (a3 : Int32) : Option (Int32 × HP) :=
  ((f_Mo_areTwo hp a1 a2).bind fun p2 => if p2.1 = 0 then
    some ((-1000000001 : Int32), p2.2)
  else
    ((f_Mo_in p2.2 (a3).toInt64 (1 : Int64) (999 : Int64)).bind fun p5 => if p5.1 = 0 then
      some ((-1000000002 : Int32), p5.2)
    else
      (if inb (((6 : Int32) + ((5 : Int32) * a1)) + a2) 736 then if a3 ≤ (p5.2 100 ((((6 : Int32) + ((5 : Int32) * a1)) + a2)).toNatClampNeg) then
        ((f_Mo_minds p5.2).bind fun p10 => ((f_Mo_changes p10.2 a1 (-a3)).bind fun p12 => ((f_Mo_changes p12.2 a2 a3).bind fun p14 => ((f_Mo_owesMore p14.2 a1 a2 (-a3)).bind fun p16 => some ((p16.2 100 ((((6 : Int32) + ((5 : Int32) * a1)) + a2)).toNatClampNeg), p16.2)))))
      else
        some ((-1000000003 : Int32), p5.2) else none)))
def f_Mo_draw (hp : HP) (a1 : Int32) : Option (Int32 × HP) :=
  (if a1 = 0 then none else some (((((up hp 100 31 ((((((hp 100 31)).toInt64 * (1103515245 : Int64)) + (12345 : Int64)) - ((((hp 100 31)).toInt64 * (1103515245 : Int64)) + (12345 : Int64)) / (2147483648 : Int64) * (2147483648 : Int64))).toInt32) 100 31) / (65536 : Int32)) - (((up hp 100 31 ((((((hp 100 31)).toInt64 * (1103515245 : Int64)) + (12345 : Int64)) - ((((hp 100 31)).toInt64 * (1103515245 : Int64)) + (12345 : Int64)) / (2147483648 : Int64) * (2147483648 : Int64))).toInt32) 100 31) / (65536 : Int32)) / a1 * a1), (up hp 100 31 ((((((hp 100 31)).toInt64 * (1103515245 : Int64)) + (12345 : Int64)) - ((((hp 100 31)).toInt64 * (1103515245 : Int64)) + (12345 : Int64)) / (2147483648 : Int64) * (2147483648 : Int64))).toInt32)))
def f_Mo_drift_L31 (v1 : Int32) (K : HP → Option (Int32 × HP)) : Nat → HP → Int32 → Option (Int32 × HP)
  | 0, _, _ => none
  | n + 1, hp, x2 =>
      if v1 ≤ x2 then
        K hp
      else
        if (hp 99 5) ≤ 0 then
          K hp
        else
          ((f_Mo_draw hp (hp 99 5)).bind fun p10 => ((f_Mo_draw p10.2 (100 : Int32)).bind fun p12 => ((f_Mo_draw p12.2 (2 : Int32)).bind fun p14 => if p14.1 = 0 then
            ((f_Mo_changes p14.2 p10.1 (-p12.1)).bind fun p17 => f_Mo_drift_L31 v1 K n p17.2 (x2 + 1))
          else
            ((f_Mo_changes p14.2 p10.1 p12.1).bind fun p19 => f_Mo_drift_L31 v1 K n p19.2 (x2 + 1)))))
def f_Mo_drift (hp : HP) (a1 : Int32) : Option (Int32 × HP) :=
  ((f_Mo_in hp (a1).toInt64 (1 : Int64) (60 : Int64)).bind fun p2 => if p2.1 = 0 then
    some ((-1000000002 : Int32), p2.2)
  else
    if (p2.2 99 3) = 0 then
      some ((-1000000003 : Int32), p2.2)
    else
      ((f_Mo_minds p2.2).bind fun p6 => f_Mo_drift_L31 a1 (fun hp20 =>
        ((f_Mo_hats hp20).bind fun p22 => some (p22.1, p22.2))) FU p6.2 (0 : Int32)))
def f_Mo_hat_L22 (v1 : Int32) (K : HP → Option (Int32 × HP)) : Nat → HP → Int32 → Int32 → Option (Int32 × HP)
  | 0, _, _, _ => none
  | n + 1, hp, x2, x3 =>
      if (200 : Int32) < x3 then
        K hp
      else
        ((f_Mo_thereBy hp x2).bind fun p7 => if p7.1 = 0 then
          some (x3, p7.2)
        else
          ((f_Mo_behindMonth p7.2 v1 x2).bind fun p10 => f_Mo_hat_L22 v1 K n p10.2 p10.1 (x3 + 1)))
def f_Mo_hat (hp : HP) (a1 : Int32) : Option (Int32 × HP) :=
  ((f_Mo_isCustomer hp a1).bind fun p2 => if p2.1 = 0 then
    some ((-1000000001 : Int32), p2.2)
  else
    (if inb ((1 : Int32) + a1) 736 then f_Mo_hat_L22 a1 (fun hp11 =>
      some ((-1 : Int32), hp11)) FU p2.2 (p2.2 100 (((1 : Int32) + a1)).toNatClampNeg) (0 : Int32) else none))
def f_Mo_able_L50 (v1 : Int32) (v2 : Int32) (v3 : Int32) (K : HP → Int32 → Option (Int32 × HP)) : Nat → HP → Int32 → Int32 → Int32 → Option (Int32 × HP)
  | 0, _, _, _, _ => none
  | n + 1, hp, x4, x5, x6 =>
      if v3 ≤ x6 then
        K hp x5
      else
        ((f_Mo_canBy hp x4 v2).bind fun p13 => if p13.1 = 0 then
          ((f_Mo_behindMonth p13.2 v1 x4).bind fun p16 => f_Mo_able_L50 v1 v2 v3 K n p16.2 p16.1 (x5 + (0 : Int32)) (x6 + 1))
        else
          ((f_Mo_behindMonth p13.2 v1 x4).bind fun p18 => f_Mo_able_L50 v1 v2 v3 K n p18.2 p18.1 (x5 + (1 : Int32)) (x6 + 1)))
def f_Mo_able (hp : HP) (a1 : Int32) (a2 : Int32) (a3 : Int32) : Option (Int32 × HP) :=
  ((f_Mo_isCustomer hp a1).bind fun p2 => if p2.1 = 0 then
    some ((-1000000001 : Int32), p2.2)
  else
    ((f_Mo_isTask p2.2 a2).bind fun p5 => if p5.1 = 0 then
      some ((-1000000001 : Int32), p5.2)
    else
      ((f_Mo_in p5.2 (a3).toInt64 (1 : Int64) (60 : Int64)).bind fun p8 => if p8.1 = 0 then
        some ((-1000000002 : Int32), p8.2)
      else
        (if inb ((1 : Int32) + a1) 736 then f_Mo_able_L50 a1 a2 a3 (fun hp20 w19 =>
          some (w19, hp20)) FU p8.2 (p8.2 100 (((1 : Int32) + a1)).toNatClampNeg) (0 : Int32) (0 : Int32) else none))))
def f_Mo_spending (hp : HP) (a1 : Int32) : Option (Int32 × HP) :=
  ((f_Mo_in hp (a1).toInt64 (1 : Int64) (999 : Int64)).bind fun p2 => if p2.1 = 0 then
    some ((-1000000002 : Int32), p2.2)
  else
    if (p2.2 99 23) = (5 : Int32) then
      some ((-1000000004 : Int32), p2.2)
    else
      (if inb (p2.2 99 23) 5 then some (((up (up p2.2 110 ((p2.2 99 23)).toNatClampNeg a1) 99 23 (((up p2.2 110 ((p2.2 99 23)).toNatClampNeg a1) 99 23) + (1 : Int32))) 99 23), (up (up p2.2 110 ((p2.2 99 23)).toNatClampNeg a1) 99 23 (((up p2.2 110 ((p2.2 99 23)).toNatClampNeg a1) 99 23) + (1 : Int32)))) else none))
def f_Mo_must (hp : HP) (a1 : Int32) (a2 : Int32) : Option (Int32 × HP) :=
  ((f_Mo_isTask hp a1).bind fun p2 => if p2.1 = 0 then
    some ((-1000000001 : Int32), p2.2)
  else
    ((f_Mo_in p2.2 (a2).toInt64 (0 : Int64) (3 : Int64)).bind fun p5 => if p5.1 = 0 then
      some ((-1000000002 : Int32), p5.2)
    else
      if (p5.2 99 25) = (4 : Int32) then
        some ((-1000000004 : Int32), p5.2)
      else
        (if inb (p5.2 99 25) 4 then (if inb ((up p5.2 111 ((p5.2 99 25)).toNatClampNeg a1) 99 25) 4 then some (((up (up (up p5.2 111 ((p5.2 99 25)).toNatClampNeg a1) 112 (((up p5.2 111 ((p5.2 99 25)).toNatClampNeg a1) 99 25)).toNatClampNeg a2) 99 25 (((up (up p5.2 111 ((p5.2 99 25)).toNatClampNeg a1) 112 (((up p5.2 111 ((p5.2 99 25)).toNatClampNeg a1) 99 25)).toNatClampNeg a2) 99 25) + (1 : Int32))) 99 25), (up (up (up p5.2 111 ((p5.2 99 25)).toNatClampNeg a1) 112 (((up p5.2 111 ((p5.2 99 25)).toNatClampNeg a1) 99 25)).toNatClampNeg a2) 99 25 (((up (up p5.2 111 ((p5.2 99 25)).toNatClampNeg a1) 112 (((up p5.2 111 ((p5.2 99 25)).toNatClampNeg a1) 99 25)).toNatClampNeg a2) 99 25) + (1 : Int32)))) else none) else none)))
def f_Mo_isPlan_L21 (v1 : Int32) (v2 : Int32) (v4 : Int32) (K : HP → Int32 → Option (Int32 × HP)) : Nat → HP → Int32 → Int32 → Option (Int32 × HP)
  | 0, _, _, _ => none
  | n + 1, hp, x3, x5 =>
      if (hp 99 23) ≤ x5 then
        K hp x3
      else
        (if inb x5 5 then if (hp 113 (x5).toNatClampNeg) = v4 then
          ((f_Mo_bounded hp (x3 - (hp 110 (x5).toNatClampNeg))).bind fun p7 => f_Mo_isPlan_L21 v1 v2 v4 K n p7.2 p7.1 (x5 + 1))
        else
          f_Mo_isPlan_L21 v1 v2 v4 K n hp x3 (x5 + 1) else none)
def f_Mo_isPlan_L68 (v1 : Int32) (v2 : Int32) (v3 : Int32) (v4 : Int32) (K : HP → Option (Int32 × HP)) : Nat → HP → Int32 → Option (Int32 × HP)
  | 0, _, _ => none
  | n + 1, hp, x5 =>
      if (hp 99 25) ≤ x5 then
        K hp
      else
        (if inb x5 4 then if (hp 112 (x5).toNatClampNeg) = v4 then
          ((f_Mo_canBy hp v3 (hp 111 (x5).toNatClampNeg)).bind fun p14 => if p14.1 = 0 then
            some ((0 : Int32), p14.2)
          else
            f_Mo_isPlan_L68 v1 v2 v3 v4 K n p14.2 (x5 + 1))
        else
          f_Mo_isPlan_L68 v1 v2 v3 v4 K n hp (x5 + 1) else none)
def f_Mo_isPlan_L12 (v1 : Int32) (v2 : Int32) (K : HP → Option (Int32 × HP)) : Nat → HP → Int32 → Int32 → Option (Int32 × HP)
  | 0, _, _, _ => none
  | n + 1, hp, x3, x4 =>
      if v2 ≤ x4 then
        K hp
      else
        f_Mo_isPlan_L21 v1 v2 x4 (fun hp9 w8 =>
          f_Mo_isPlan_L68 v1 v2 w8 x4 (fun hp16 =>
            ((f_Mo_behindMonth hp16 v1 w8).bind fun p18 => f_Mo_isPlan_L12 v1 v2 K n p18.2 p18.1 (x4 + 1))) FU hp9 (0 : Int32)) FU hp x3 (0 : Int32)
def f_Mo_isPlan (hp : HP) (a1 : Int32) (a2 : Int32) : Option (Int32 × HP) :=
  (if inb ((1 : Int32) + a1) 736 then f_Mo_isPlan_L12 a1 a2 (fun hp19 =>
    some ((1 : Int32), hp19)) FU hp (hp 100 (((1 : Int32) + a1)).toNatClampNeg) (0 : Int32) else none)
def f_Mo_plan_L17 (v1 : Int32) (v2 : Int32) (v3 : Int32) (K : HP → Int32 → Option (Int32 × HP)) : Nat → HP → Int32 → Int32 → Option (Int32 × HP)
  | 0, _, _, _ => none
  | n + 1, hp, x4, x5 =>
      if (hp 99 25) ≤ x5 then
        K hp x4
      else
        if x4 = 0 then
          (if inb x5 4 then if (hp 112 (x5).toNatClampNeg) < v2 then
            f_Mo_plan_L17 v1 v2 v3 K n hp (0 : Int32) (x5 + 1)
          else
            f_Mo_plan_L17 v1 v2 v3 K n hp (1 : Int32) (x5 + 1) else none)
        else
          f_Mo_plan_L17 v1 v2 v3 K n hp (1 : Int32) (x5 + 1)
def f_Mo_plan_L81 (v1 : Int32) (v2 : Int32) (v3 : Int32) (K : HP → Int32 → Option (Int32 × HP)) : Nat → HP → Int32 → Int32 → Option (Int32 × HP)
  | 0, _, _, _ => none
  | n + 1, hp, x5, x6 =>
      if (hp 99 23) ≤ x6 then
        K hp x5
      else
        f_Mo_plan_L81 v1 v2 v3 K n hp (x5 * v2) (x6 + 1)
def f_Mo_plan_L124 (v1 : Int32) (v2 : Int32) (v3 : Int32) (v5 : Int32) (v6 : Int32) (K : HP → Option (Int32 × HP)) : Nat → HP → Int32 → Int32 → Option (Int32 × HP)
  | 0, _, _, _ => none
  | n + 1, hp, x7, x8 =>
      if x8 < 0 then
        K hp
      else
        (if v2 = 0 then none else (if inb x8 5 then f_Mo_plan_L124 v1 v2 v3 v5 v6 K n (up hp 113 (x8).toNatClampNeg (x7 - x7 / v2 * v2)) (x7 / v2) (x8 + (-1)) else none))
def f_Mo_plan_L105 (v1 : Int32) (v2 : Int32) (v3 : Int32) (v5 : Int32) (K : HP → Option (Int32 × HP)) : Nat → HP → Int32 → Option (Int32 × HP)
  | 0, _, _ => none
  | n + 1, hp, x6 =>
      if v5 ≤ x6 then
        K hp
      else
        f_Mo_plan_L124 v1 v2 v3 v5 x6 (fun hp21 =>
          ((f_Mo_isPlan hp21 v1 v2).bind fun p23 => if p23.1 = 0 then
            f_Mo_plan_L105 v1 v2 v3 v5 K n p23.2 (x6 + 1)
          else
            if v3 = (-1 : Int32) then
              some ((1 : Int32), p23.2)
            else
              ((f_Mo_in p23.2 (v3).toInt64 (0 : Int64) (((p23.2 99 23) - (1 : Int32))).toInt64).bind fun p27 => if p27.1 = 0 then
                some ((-1 : Int32), p27.2)
              else
                (if inb v3 5 then some ((p27.2 113 (v3).toNatClampNeg), p27.2) else none)))) FU hp x6 ((hp 99 23) - (1 : Int32))
def f_Mo_plan (hp : HP) (a1 : Int32) (a2 : Int32) (a3 : Int32) : Option (Int32 × HP) :=
  ((f_Mo_isCustomer hp a1).bind fun p2 => if p2.1 = 0 then
    some ((-1000000001 : Int32), p2.2)
  else
    f_Mo_plan_L17 a1 a2 a3 (fun hp9 w8 =>
      ((f_Mo_in hp9 (a2).toInt64 (1 : Int64) (4 : Int64)).bind fun p11 => if p11.1 = 0 then
        some ((-1000000002 : Int32), p11.2)
      else
        if w8 = 0 then
          f_Mo_plan_L81 a1 a2 a3 (fun hp16 w15 =>
            f_Mo_plan_L105 a1 a2 a3 w15 (fun hp30 =>
              if a3 = (-1 : Int32) then
                some ((0 : Int32), hp30)
              else
                some ((-1 : Int32), hp30)) FU hp16 (0 : Int32)) FU p11.2 (1 : Int32) (0 : Int32)
        else
          some ((-1000000002 : Int32), p11.2))) FU p2.2 (0 : Int32) (0 : Int32))
def f_Mo_asOne_L31 (v1 : Int32) (v2 : Int32) (v4 : Int32) (K : HP → Int32 → Option (Int32 × HP)) : Nat → HP → Int32 → Int32 → Option (Int32 × HP)
  | 0, _, _, _ => none
  | n + 1, hp, x3, x5 =>
      if (hp 99 5) ≤ x5 then
        K hp x3
      else
        (if inb ((1 : Int32) + v4) 736 then ((f_Mo_canBy hp (hp 100 (((1 : Int32) + v4)).toNatClampNeg) v1).bind fun p8 => if p8.1 = 0 then
          (if inb ((1 : Int32) + x5) 736 then ((f_Mo_canBy p8.2 (p8.2 100 (((1 : Int32) + x5)).toNatClampNeg) v1).bind fun p12 => if p12.1 = 0 then
            ((f_Mo_canBy p12.2 ((p12.2 100 (((1 : Int32) + v4)).toNatClampNeg) + (p12.2 100 (((1 : Int32) + x5)).toNatClampNeg)) v1).bind fun p16 => if p16.1 = 0 then
              f_Mo_asOne_L31 v1 v2 v4 K n p16.2 x3 (x5 + 1)
            else
              if x3 = v2 then
                some ((((10 : Int32) * v4) + x5), p16.2)
              else
                f_Mo_asOne_L31 v1 v2 v4 K n p16.2 (x3 + 1) (x5 + 1))
          else
            f_Mo_asOne_L31 v1 v2 v4 K n p12.2 x3 (x5 + 1)) else none)
        else
          f_Mo_asOne_L31 v1 v2 v4 K n p8.2 x3 (x5 + 1)) else none)
def f_Mo_asOne_L16 (v1 : Int32) (v2 : Int32) (K : HP → Int32 → Option (Int32 × HP)) : Nat → HP → Int32 → Int32 → Option (Int32 × HP)
  | 0, _, _, _ => none
  | n + 1, hp, x3, x4 =>
      if (hp 99 5) ≤ x4 then
        K hp x3
      else
        f_Mo_asOne_L31 v1 v2 x4 (fun hp22 w21 =>
          f_Mo_asOne_L16 v1 v2 K n hp22 w21 (x4 + 1)) FU hp x3 (x4 + (1 : Int32))
def f_Mo_asOne (hp : HP) (a1 : Int32) (a2 : Int32) : Option (Int32 × HP) :=
  ((f_Mo_isTask hp a1).bind fun p2 => if p2.1 = 0 then
    some ((-1000000001 : Int32), p2.2)
  else
    f_Mo_asOne_L16 a1 a2 (fun hp24 w23 =>
      if a2 = (-1 : Int32) then
        some (w23, hp24)
      else
        some ((-1 : Int32), hp24)) FU p2.2 (0 : Int32) (0 : Int32))
def f_Mo_loan_L39 (v1 : Int32) (v2 : Int32) (v3 : Int32) (K : HP → Int32 → Option (Int32 × HP)) : Nat → HP → Int32 → Int32 → Option (Int32 × HP)
  | 0, _, _, _ => none
  | n + 1, hp, x4, x5 =>
      if (hp 99 3) ≤ x5 then
        K hp x4
      else
        (if inb v2 6 then ((f_Mo_isIn hp (hp 105 (v2).toNatClampNeg) x5).bind fun p13 => if p13.1 = 0 then
          f_Mo_loan_L39 v1 v2 v3 K n p13.2 x4 (x5 + 1)
        else
          (if inb x5 8 then if ((p13.2 102 (x5).toNatClampNeg) - (500 : Int32)) ≤ x4 then
            f_Mo_loan_L39 v1 v2 v3 K n p13.2 x4 (x5 + 1)
          else
            f_Mo_loan_L39 v1 v2 v3 K n p13.2 ((p13.2 102 (x5).toNatClampNeg) - (500 : Int32)) (x5 + 1) else none)) else none)
def f_Mo_loan (hp : HP) (a1 : Int32) (a2 : Int32) (a3 : Int32) : Option (Int32 × HP) :=
  ((f_Mo_isCustomer hp a1).bind fun p2 => if p2.1 = 0 then
    some ((-1000000001 : Int32), p2.2)
  else
    ((f_Mo_isTask p2.2 a2).bind fun p5 => if p5.1 = 0 then
      some ((-1000000001 : Int32), p5.2)
    else
      ((f_Mo_in p5.2 (a3).toInt64 (0 : Int64) (1 : Int64)).bind fun p8 => if p8.1 = 0 then
        some ((-1000000002 : Int32), p8.2)
      else
        f_Mo_loan_L39 a1 a2 a3 (fun hp18 w17 =>
          (if inb ((1 : Int32) + a1) 736 then if a3 = 0 then
            if ((hp18 100 (((1 : Int32) + a1)).toNatClampNeg) - w17) < 0 then
              if (-((hp18 100 (((1 : Int32) + a1)).toNatClampNeg) - w17)) ≤ (9999 : Int32) then
                some ((-((hp18 100 (((1 : Int32) + a1)).toNatClampNeg) - w17)), hp18)
              else
                some ((-1 : Int32), hp18)
            else
              some ((0 : Int32), hp18)
          else
            if 0 ≤ ((hp18 100 (((1 : Int32) + a1)).toNatClampNeg) - w17) then
              if ((hp18 100 (((1 : Int32) + a1)).toNatClampNeg) - w17) ≤ (9999 : Int32) then
                some (((hp18 100 (((1 : Int32) + a1)).toNatClampNeg) - w17), hp18)
              else
                some ((9999 : Int32), hp18)
            else
              some ((-1 : Int32), hp18) else none)) FU p8.2 (-1000000 : Int32) (0 : Int32))))
def f_Mo_order_L27 (v1 : Int32) (v2 : Int32) (v4 : Int32) (K : HP → Int32 → Option (Int32 × HP)) : Nat → HP → Int32 → Int32 → Option (Int32 × HP)
  | 0, _, _, _ => none
  | n + 1, hp, x3, x5 =>
      if (hp 99 3) ≤ x5 then
        K hp x3
      else
        ((f_Mo_isIn hp v2 x5).bind fun p5 => if p5.1 = 0 then
          if x3 = (-1 : Int32) then
            f_Mo_order_L27 v1 v2 v4 K n p5.2 x5 (x5 + 1)
          else
            (if inb x5 8 then (if inb x3 8 then if (p5.2 102 (x5).toNatClampNeg) ≤ (p5.2 102 (x3).toNatClampNeg) then
              f_Mo_order_L27 v1 v2 v4 K n p5.2 x3 (x5 + 1)
            else
              f_Mo_order_L27 v1 v2 v4 K n p5.2 x5 (x5 + 1) else none) else none)
        else
          f_Mo_order_L27 v1 v2 v4 K n p5.2 x3 (x5 + 1))
def f_Mo_order_L7 (v1 : Int32) (K : HP → Int32 → Option (Int32 × HP)) : Nat → HP → Int32 → Int32 → Int32 → Option (Int32 × HP)
  | 0, _, _, _, _ => none
  | n + 1, hp, x2, x3, x4 =>
      if v1 < x4 then
        K hp x3
      else
        if (hp 99 3) ≤ x4 then
          K hp x3
        else
          f_Mo_order_L27 v1 x2 x4 (fun hp12 w11 =>
            f_Mo_order_L7 v1 K n hp12 (x2 ||| ((1 : Int32) <<< (w11 &&& 31))) w11 (x4 + 1)) FU hp (-1 : Int32) (0 : Int32)
def f_Mo_order (hp : HP) (a1 : Int32) : Option (Int32 × HP) :=
  f_Mo_order_L7 a1 (fun hp14 w13 =>
    ((f_Mo_in hp14 (a1).toInt64 (0 : Int64) (((hp14 99 3) - (1 : Int32))).toInt64).bind fun p16 => if p16.1 = 0 then
      some ((-1 : Int32), p16.2)
    else
      some (w13, p16.2))) FU hp (0 : Int32) (-1 : Int32) (0 : Int32)
def f_Mo_wage_L34 (v1 : Int32) (v2 : Int32) (K : HP → Int64 → Option (Int32 × HP)) : Nat → HP → Int64 → Int32 → Option (Int32 × HP)
  | 0, _, _, _ => none
  | n + 1, hp, x3, x5 =>
      if v1 ≤ x5 then
        K hp x3
      else
        f_Mo_wage_L34 v1 v2 K n hp ((x3 * (((100 : Int32) - v2)).toInt64) / (100 : Int64)) (x5 + 1)
def f_Mo_wage (hp : HP) (a1 : Int32) (a2 : Int32) : Option (Int32 × HP) :=
  ((f_Mo_in hp (a1).toInt64 (0 : Int64) (60 : Int64)).bind fun p2 => if p2.1 = 0 then
    some ((-1000000002 : Int32), p2.2)
  else
    ((f_Mo_in p2.2 (a2).toInt64 (0 : Int64) (100 : Int64)).bind fun p5 => if p5.1 = 0 then
      some ((-1000000002 : Int32), p5.2)
    else
      f_Mo_wage_L34 a1 a2 (fun hp9 w8 =>
        some ((w8).toInt32, hp9)) FU p5.2 (1000000000 : Int64) (0 : Int32)))
def f_Mo_see (hp : HP) (a1 : Int32) (a2 : Int32) : Option (Int32 × HP) :=
  ((f_Mo_isPart hp a1).bind fun p2 => if p2.1 = 0 then
    some ((-1000000001 : Int32), p2.2)
  else
    if (p2.2 99 29) = (8 : Int32) then
      some ((-1000000004 : Int32), p2.2)
    else
      (if inb (p2.2 99 29) 8 then (if inb ((up p2.2 114 ((p2.2 99 29)).toNatClampNeg a1) 99 29) 8 then some (((up (up (up p2.2 114 ((p2.2 99 29)).toNatClampNeg a1) 115 (((up p2.2 114 ((p2.2 99 29)).toNatClampNeg a1) 99 29)).toNatClampNeg (bz a2)) 99 29 (((up (up p2.2 114 ((p2.2 99 29)).toNatClampNeg a1) 115 (((up p2.2 114 ((p2.2 99 29)).toNatClampNeg a1) 99 29)).toNatClampNeg (bz a2)) 99 29) + (1 : Int32))) 99 29), (up (up (up p2.2 114 ((p2.2 99 29)).toNatClampNeg a1) 115 (((up p2.2 114 ((p2.2 99 29)).toNatClampNeg a1) 99 29)).toNatClampNeg (bz a2)) 99 29 (((up (up p2.2 114 ((p2.2 99 29)).toNatClampNeg a1) 115 (((up p2.2 114 ((p2.2 99 29)).toNatClampNeg a1) 99 29)).toNatClampNeg (bz a2)) 99 29) + (1 : Int32)))) else none) else none))
def f_Mo_isSeen_L4 (v1 : Int32) (K : HP → Int32 → Option (Int32 × HP)) : Nat → HP → Int32 → Int32 → Option (Int32 × HP)
  | 0, _, _, _ => none
  | n + 1, hp, x2, x3 =>
      if (hp 99 29) ≤ x3 then
        K hp x2
      else
        if x2 = 0 then
          f_Mo_isSeen_L4 v1 K n hp (0 : Int32) (x3 + 1)
        else
          (if inb x3 8 then (if inb (hp 114 (x3).toNatClampNeg) 8 then if v1 < ((hp 102 ((hp 114 (x3).toNatClampNeg)).toNatClampNeg) - (500 : Int32)) then
            if (0 : Int32) = (hp 115 (x3).toNatClampNeg) then
              f_Mo_isSeen_L4 v1 K n hp (1 : Int32) (x3 + 1)
            else
              f_Mo_isSeen_L4 v1 K n hp (0 : Int32) (x3 + 1)
          else
            if (1 : Int32) = (hp 115 (x3).toNatClampNeg) then
              f_Mo_isSeen_L4 v1 K n hp (1 : Int32) (x3 + 1)
            else
              f_Mo_isSeen_L4 v1 K n hp (0 : Int32) (x3 + 1) else none) else none)
def f_Mo_isSeen (hp : HP) (a1 : Int32) : Option (Int32 × HP) :=
  f_Mo_isSeen_L4 a1 (fun hp9 w8 =>
    rz w8 hp9) FU hp (1 : Int32) (0 : Int32)
def f_Mo_has_L27 (v1 : Int32) (K : HP → Int32 → Int32 → Int32 → Option (Int32 × HP)) : Nat → HP → Int32 → Int32 → Int32 → Int32 → Option (Int32 × HP)
  | 0, _, _, _, _, _ => none
  | n + 1, hp, x2, x3, x4, x5 =>
      if (500 : Int32) ≤ x5 then
        K hp x2 x3 x4
      else
        ((f_Mo_isSeen hp x5).bind fun p6 => if p6.1 = 0 then
          f_Mo_has_L27 v1 K n p6.2 x2 x3 x4 (x5 + 1)
        else
          if x2 = 0 then
            f_Mo_has_L27 v1 K n p6.2 (x2 + 1) (x5 + (10000 : Int32)) (x5 + (10000 : Int32)) (x5 + 1)
          else
            f_Mo_has_L27 v1 K n p6.2 (x2 + 1) x3 (x5 + (10000 : Int32)) (x5 + 1))
def f_Mo_has (hp : HP) (a1 : Int32) : Option (Int32 × HP) :=
  ((f_Mo_in hp (a1).toInt64 (0 : Int64) (2 : Int64)).bind fun p2 => if p2.1 = 0 then
    some ((-1000000002 : Int32), p2.2)
  else
    f_Mo_has_L27 a1 (fun hp12 w9 w10 w11 =>
      if a1 = 0 then
        some (w9, hp12)
      else
        if a1 = (1 : Int32) then
          some (w10, hp12)
        else
          some (w11, hp12)) FU p2.2 (0 : Int32) (-1 : Int32) (-1 : Int32) (-500 : Int32))
def f_Mo_look_L30 (v1 : Int32) (v2 : Int32) (v3 : Int32) (v4 : Int32) (K : HP → Int32 → Option (Int32 × HP)) : Nat → HP → Int32 → Int32 → Option (Int32 × HP)
  | 0, _, _, _ => none
  | n + 1, hp, x5, x6 =>
      if (500 : Int32) ≤ x6 then
        K hp x5
      else
        ((f_Mo_isSeen hp x6).bind fun p6 => if p6.1 = 0 then
          f_Mo_look_L30 v1 v2 v3 v4 K n p6.2 (x5 + (0 : Int32)) (x6 + 1)
        else
          (if inb v4 8 then if x6 < ((p6.2 102 (v4).toNatClampNeg) - (500 : Int32)) then
            f_Mo_look_L30 v1 v2 v3 v4 K n p6.2 (x5 + (0 : Int32)) (x6 + 1)
          else
            f_Mo_look_L30 v1 v2 v3 v4 K n p6.2 (x5 + (1 : Int32)) (x6 + 1) else none))
def f_Mo_look_L13 (v1 : Int32) (K : HP → Int32 → Option (Int32 × HP)) : Nat → HP → Int32 → Int32 → Int32 → Option (Int32 × HP)
  | 0, _, _, _, _ => none
  | n + 1, hp, x2, x3, x4 =>
      if (hp 99 3) ≤ x4 then
        K hp x2
      else
        f_Mo_look_L30 v1 x2 x3 x4 (fun hp11 w10 =>
          if w10 ≤ (v1 - w10) then
            if x3 ≤ (v1 - w10) then
              f_Mo_look_L13 v1 K n hp11 x2 x3 (x4 + 1)
            else
              f_Mo_look_L13 v1 K n hp11 x4 (v1 - w10) (x4 + 1)
          else
            if x3 ≤ w10 then
              f_Mo_look_L13 v1 K n hp11 x2 x3 (x4 + 1)
            else
              f_Mo_look_L13 v1 K n hp11 x4 w10 (x4 + 1)) FU hp (0 : Int32) (-500 : Int32)
def f_Mo_look (hp : HP) : Option (Int32 × HP) :=
  ((f_Mo_has hp (0 : Int32)).bind fun p2 => f_Mo_look_L13 p2.1 (fun hp20 w19 =>
    some (w19, hp20)) FU p2.2 (-1 : Int32) p2.1 (0 : Int32))
def f_Mo_write (hp : HP) (a1 : Int32) (a2 : Int32) : Option (Int32 × HP) :=
  ((f_Mo_isCustomer hp a1).bind fun p2 => if p2.1 = 0 then
    some ((-1000000001 : Int32), p2.2)
  else
    ((f_Mo_in p2.2 (a2).toInt64 (0 : Int64) (20000 : Int64)).bind fun p5 => if p5.1 = 0 then
      some ((-1000000002 : Int32), p5.2)
    else
      if (p5.2 99 32) = (15 : Int32) then
        some ((-1000000004 : Int32), p5.2)
      else
        (if inb (p5.2 99 32) 15 then (if inb ((up p5.2 116 ((p5.2 99 32)).toNatClampNeg a1) 99 32) 15 then some (((up (up (up p5.2 116 ((p5.2 99 32)).toNatClampNeg a1) 117 (((up p5.2 116 ((p5.2 99 32)).toNatClampNeg a1) 99 32)).toNatClampNeg a2) 99 32 (((up (up p5.2 116 ((p5.2 99 32)).toNatClampNeg a1) 117 (((up p5.2 116 ((p5.2 99 32)).toNatClampNeg a1) 99 32)).toNatClampNeg a2) 99 32) + (1 : Int32))) 99 32), (up (up (up p5.2 116 ((p5.2 99 32)).toNatClampNeg a1) 117 (((up p5.2 116 ((p5.2 99 32)).toNatClampNeg a1) 99 32)).toNatClampNeg a2) 99 32 (((up (up p5.2 116 ((p5.2 99 32)).toNatClampNeg a1) 117 (((up p5.2 116 ((p5.2 99 32)).toNatClampNeg a1) 99 32)).toNatClampNeg a2) 99 32) + (1 : Int32)))) else none) else none)))
def f_Mo_tear (hp : HP) : Option (Int32 × HP) :=
  some (((((hp 99 23) + (hp 99 25)) + (hp 99 29)) + (hp 99 32)), (up (up (up (up hp 99 23 (0 : Int32)) 99 25 (0 : Int32)) 99 29 (0 : Int32)) 99 32 (0 : Int32)))
def f_Mo_judge_L2 (K : HP → Option (Int32 × HP)) : Nat → HP → Int32 → Option (Int32 × HP)
  | 0, _, _ => none
  | n + 1, hp, x1 =>
      if (hp 99 32) ≤ x1 then
        K hp
      else
        (if inb x1 15 then (if inb ((1 : Int32) + (hp 116 (x1).toNatClampNeg)) 736 then if ((hp 100 (((1 : Int32) + (hp 116 (x1).toNatClampNeg))).toNatClampNeg) + (10000 : Int32)) = (hp 117 (x1).toNatClampNeg) then
          f_Mo_judge_L2 K n hp (x1 + 1)
        else
          some (x1, hp) else none) else none)
def f_Mo_judge (hp : HP) : Option (Int32 × HP) :=
  f_Mo_judge_L2 (fun hp5 =>
    some ((-1 : Int32), hp5)) FU hp (0 : Int32)
def f_Mo_seed (hp : HP) (a1 : Int32) : Option (Int32 × HP) :=
  if 0 ≤ a1 then
    some ((hp 100 31), (up hp 100 31 a1))
  else
    some ((-1000000002 : Int32), hp)
def f_Mo_keep (hp : HP) (a1 : Int32) : Option (Int32 × HP) :=
  ((f_Mo_in hp (a1).toInt64 (0 : Int64) (1 : Int64)).bind fun p2 => if p2.1 = 0 then
    some ((-1000000001 : Int32), p2.2)
  else
    ((f_Mo_copy p2.2 (0 : Int32) ((32 : Int32) + ((32 : Int32) * a1))).bind fun p5 => (if inb a1 2 then some ((1 : Int32), (up (up p5.2 101 (a1).toNatClampNeg (bz (1 : Int32))) 99 2 (0 : Int32))) else none)))
def f_Mo_goBack (hp : HP) (a1 : Int32) : Option (Int32 × HP) :=
  ((f_Mo_in hp (a1).toInt64 (0 : Int64) (1 : Int64)).bind fun p2 => if p2.1 = 0 then
    some ((-1000000001 : Int32), p2.2)
  else
    (if inb a1 2 then if (p2.2 101 (a1).toNatClampNeg) = 0 then
      some ((-1000000003 : Int32), p2.2)
    else
      ((f_Mo_copy p2.2 ((32 : Int32) + ((32 : Int32) * a1)) (0 : Int32)).bind fun p7 => some ((1 : Int32), (up p7.2 99 2 (0 : Int32)))) else none))
end
section
/-! Numbers, heaps, loops. -/
theorem up_ap (hp : HP) (k j : Nat) (v : Int32) (q : Nat) : up hp k j v q = if q = k then upd (hp k) j v else hp q := rfl
theorem setc_ap (hp : HP) (k : Nat) (f : Nat → Int32) (q : Nat) : setc hp k f q = if q = k then f else hp q := rfl
theorem upd_ap (f : Nat → Int32) (k : Nat) (x : Int32) (j : Nat) : upd f k x j = if j = k then x else f j := rfl
theorem le_i (a b : Int32) : a ≤ b ↔ a.toInt ≤ b.toInt := Int32.le_iff_toInt_le
theorem lt_i (a b : Int32) : a < b ↔ a.toInt < b.toInt := Int32.lt_iff_toInt_lt
theorem eq_i (a b : Int32) : a = b ↔ a.toInt = b.toInt := Int32.toInt_inj.symm
theorem rg_i (a : Int32) : -2147483648 ≤ a.toInt ∧ a.toInt ≤ 2147483647 := by
  have h1 := Int32.le_toInt a
  have h2 := Int32.toInt_lt a
  omega
theorem bm_id {x : Int} (h : -2147483648 ≤ x) (h2 : x ≤ 2147483647) : x.bmod (2 ^ 32) = x := by
  rw [Int.bmod_eq_of_le] <;> omega
theorem add_i {a b : Int32} (h : -2147483648 ≤ a.toInt + b.toInt ∧ a.toInt + b.toInt ≤ 2147483647) : (a + b).toInt = a.toInt + b.toInt := by
  rw [Int32.toInt_add]; exact bm_id h.1 h.2
theorem sub_i {a b : Int32} (h : -2147483648 ≤ a.toInt - b.toInt ∧ a.toInt - b.toInt ≤ 2147483647) : (a - b).toInt = a.toInt - b.toInt := by
  rw [Int32.toInt_sub]; exact bm_id h.1 h.2
theorem mul_i {a b : Int32} (h : -2147483648 ≤ a.toInt * b.toInt ∧ a.toInt * b.toInt ≤ 2147483647) : (a * b).toInt = a.toInt * b.toInt := by
  rw [Int32.toInt_mul]; exact bm_id h.1 h.2
theorem neg_i {a : Int32} (h : -2147483647 ≤ a.toInt) : (-a).toInt = -a.toInt := by
  have h2 := rg_i a
  rw [Int32.toInt_neg]; exact bm_id (by omega) (by omega)
theorem inb_i (i : Int32) (n : Nat) : inb i n = true ↔ 0 ≤ i.toInt ∧ i.toInt < n := by unfold inb; exact decide_eq_true_iff
theorem inb_n {k n : Nat} (h : k < n) (hn : n < 2 ^ 31) : inb (nI k) n = true := by
  rw [inb_i, nI_toInt (by omega)]; omega
theorem cl_n {k : Nat} (h : k < 2 ^ 31) : (nI k).toNatClampNeg = k := nI_clamp h
theorem lit_n (n : Nat) : (OfNat.ofNat n : Int32) = nI n := rfl
theorem of_rg {x : Int32} {n : Nat} (h0 : 0 ≤ x.toInt) (h1 : x.toInt < n) : ∃ k : Nat, k < n ∧ x = nI k := by
  obtain ⟨k, hk⟩ := Int.eq_ofNat_of_zero_le h0
  have h2 := rg_i x
  refine ⟨k, by omega, Int32.toInt_inj.mp ?_⟩
  rw [hk, nI_toInt (by omega)]
theorem mx_i (a b : Int32) : (mx a b).toInt = max a.toInt b.toInt := by
  unfold mx
  split
  · rename_i h; rw [lt_i] at h; omega
  · rename_i h; rw [lt_i] at h; omega
theorem mn_i (a b : Int32) : (mn a b).toInt = min a.toInt b.toInt := by
  unfold mn
  split
  · rename_i h; rw [lt_i] at h; omega
  · rename_i h; rw [lt_i] at h; omega
/-- the bounded balance -/
def cla (x : Int32) : Int32 := mx (-9999) (mn 9999 x)
theorem cla_i (x : Int32) : (cla x).toInt = max (-9999) (min 9999 x.toInt) := by
  unfold cla; rw [mx_i, mn_i]; rfl
theorem x_bounded (hp : HP) (x : Int32) : f_BA_bounded hp x = some (cla x, hp) := rfl
theorem m_bounded (hp : HP) (x : Int32) : f_Mo_bounded hp x = some (cla x, hp) := by
  unfold f_Mo_bounded
  have e1 : (9999 : Int32).toInt = 9999 := rfl
  have e2 : (-9999 : Int32).toInt = -9999 := rfl
  by_cases h1 : x ≤ 9999
  · rw [if_pos h1]
    rw [le_i, e1] at h1
    by_cases h2 : -9999 ≤ x
    · rw [if_pos h2]
      rw [le_i, e2] at h2
      have : cla x = x := by rw [eq_i, cla_i]; omega
      rw [this]
    · rw [if_neg h2]
      rw [le_i, e2] at h2
      have : cla x = -9999 := by rw [eq_i, cla_i, e2]; omega
      rw [this]
  · rw [if_neg h1]
    rw [le_i, e1] at h1
    have : cla x = 9999 := by rw [eq_i, cla_i, e1]; omega
    rw [this]
/-- within, in -/
def wi (x a b : Int32) : Int32 := if x < a then 0 else if b < x then 0 else 1
theorem x_within (hp : HP) (x a b : Int32) : f_BA_within hp x a b = some (wi x a b, hp) := by
  unfold f_BA_within wi
  split
  · rfl
  · split <;> rfl
theorem lg_lt (x y : Int64) : lg_cmp x y < 0 ↔ x < y := by
  have h := lg_cmp_ge x y
  constructor
  · intro h1
    rcases Int64.lt_or_le x y with h2 | h2
    · exact h2
    · have h3 := h.mpr h2
      rw [lt_i] at h1; rw [le_i] at h3; omega
  · intro h1
    rcases Int32.lt_or_le (lg_cmp x y) 0 with h2 | h2
    · exact h2
    · have h3 := h.mp h2
      rw [Int64.lt_iff_toInt_lt] at h1; rw [Int64.le_iff_toInt_le] at h3; omega
theorem lg_gt (x y : Int64) : 0 < lg_cmp x y ↔ y < x := lg_cmp_gt x y
theorem wide_lt (a b : Int32) : a.toInt64 < b.toInt64 ↔ a < b := by
  rw [Int64.lt_iff_toInt_lt, lt_i, Int32.toInt_toInt64, Int32.toInt_toInt64]
theorem m_in (hp : HP) (x a b : Int32) {A B : Int64} (hA : A = a.toInt64) (hB : B = b.toInt64) : f_Mo_in hp x.toInt64 A B = some (wi x a b, hp) := by
  subst hA; subst hB
  unfold f_Mo_in wi
  by_cases h1 : x < a
  · rw [if_pos h1, if_pos ((lg_lt _ _).mpr ((wide_lt _ _).mpr h1))]
  · rw [if_neg h1, if_neg (fun h => h1 ((wide_lt _ _).mp ((lg_lt _ _).mp h)))]
    by_cases h2 : b < x
    · rw [if_pos h2, if_pos ((lg_gt _ _).mpr ((wide_lt _ _).mpr h2))]
    · rw [if_neg h2, if_neg (fun h => h2 ((wide_lt _ _).mp ((lg_gt _ _).mp h)))]
theorem wi_01 (x a b : Int32) : wi x a b = 0 ∨ wi x a b = 1 := by
  unfold wi
  split
  · exact Or.inl rfl
  · split
    · exact Or.inl rfl
    · exact Or.inr rfl
theorem rz_wi (x a b : Int32) (hp : HP) : rz (wi x a b) hp = some (wi x a b, hp) := by
  unfold rz; rw [if_pos (wi_01 x a b)]
theorem rz_0 (hp : HP) : rz 0 hp = some (0, hp) := rfl
theorem rz_1 (hp : HP) : rz 1 hp = some (1, hp) := rfl
/-- within literal bounds, or not -/
theorem wi_lit (x : Int32) {a b : Int32} : (wi x a b = 0 ∧ (x.toInt < a.toInt ∨ b.toInt < x.toInt)) ∨ (wi x a b = 1 ∧ a.toInt ≤ x.toInt ∧ x.toInt ≤ b.toInt) := by
  unfold wi
  by_cases h1 : x < a
  · rw [if_pos h1]; rw [lt_i] at h1; exact Or.inl ⟨rfl, Or.inl h1⟩
  · rw [if_neg h1]; rw [lt_i] at h1
    by_cases h2 : b < x
    · rw [if_pos h2]; rw [lt_i] at h2; exact Or.inl ⟨rfl, Or.inr h2⟩
    · rw [if_neg h2]; rw [lt_i] at h2; exact Or.inr ⟨rfl, by omega, by omega⟩
theorem nI_m1 {N : Nat} (h : N < 2 ^ 31) : (nI N - 1).toInt = (N : Int) - 1 := by
  rw [sub_i (by rw [nI_toInt h]; have : (1 : Int32).toInt = 1 := rfl; omega), nI_toInt h]; rfl
/-- a number of something that there is, or not -/
theorem wi_n (x : Int32) {N : Nat} (h : N < 2 ^ 31) : wi x 0 (nI N - 1) = 0 ∨ (∃ k, k < N ∧ x = nI k ∧ wi x 0 (nI N - 1) = 1) := by
  rcases @wi_lit x 0 (nI N - 1) with h1 | ⟨h1, h2, h3⟩
  · exact Or.inl h1.1
  · rw [nI_m1 h] at h3
    obtain ⟨k, hk, e⟩ := of_rg (n := N) h2 (by omega)
    exact Or.inr ⟨k, hk, e, h1⟩
theorem wi_in {N k : Nat} (h : N < 2 ^ 31) (hk : k < N) : wi (nI k) 0 (nI N - 1) = 1 := by
  rcases @wi_lit (nI k) 0 (nI N - 1) with ⟨_, h1⟩ | h1
  · rw [nI_m1 h, nI_toInt (by omega)] at h1
    have : (0 : Int32).toInt = 0 := rfl
    omega
  · exact h1.1
/-- loops that count up -/
def it {α : Type} (g : Nat → α → α) : Nat → Nat → α → α
  | _, 0, s => s
  | k, d + 1, s => it g (k + 1) d (g k s)
theorem it_cong {α : Type} {g g' : Nat → α → α} : ∀ (d k : Nat) (s : α), (∀ j s, k ≤ j → j < k + d → g j s = g' j s) → it g k d s = it g' k d s
  | 0, _, _, _ => rfl
  | d + 1, k, s, h => by
    unfold it
    rw [h k s (Nat.le_refl k) (by omega)]
    exact it_cong d (k + 1) _ (fun j s h1 h2 => h j s (by omega) (by omega))
theorem it_succ {α : Type} (g : Nat → α → α) : ∀ (d k : Nat) (s : α), it g k (d + 1) s = g (k + d) (it g k d s)
  | 0, _, _ => rfl
  | d + 1, k, s => by
    show it g (k + 1) (d + 1) (g k s) = _
    rw [it_succ g d (k + 1) (g k s)]
    show g (k + 1 + d) _ = g (k + (d + 1)) _
    rw [show k + 1 + d = k + (d + 1) by omega]
    rfl
theorem it_inv {α : Type} {g : Nat → α → α} (I : Nat → α → Prop) : ∀ (d k : Nat) (s : α), (∀ j s, k ≤ j → j < k + d → I j s → I (j + 1) (g j s)) → I k s → I (k + d) (it g k d s)
  | 0, _, _, _, h => h
  | d + 1, k, s, hs, h => by
    have := it_inv I d (k + 1) (g k s) (fun j s h1 h2 => hs j s (by omega) (by omega)) (hs k s (Nat.le_refl k) (by omega) h)
    rw [show k + 1 + d = k + (d + 1) by omega] at this
    exact this
theorem for_up {α β : Type} (loop : Nat → Nat → α → β) (N : Nat) (g : Nat → α → α) (fin : α → β) (I : Nat → α → Prop) (hs : ∀ n k s, k < N → I k s → loop (n + 1) k s = loop n (k + 1) (g k s) ∧ I (k + 1) (g k s)) (he : ∀ n s, I N s → loop (n + 1) N s = fin s) : ∀ d k n s, k + d = N → d < n → I k s → loop n k s = fin (it g k d s) ∧ I N (it g k d s) := by
  intro d
  induction d with
  | zero =>
    intro k n s hk hn hI
    obtain ⟨m, rfl⟩ : ∃ m, n = m + 1 := ⟨n - 1, by omega⟩
    have : k = N := by omega
    subst this
    exact ⟨he m s hI, hI⟩
  | succ d ih =>
    intro k n s hk hn hI
    obtain ⟨m, rfl⟩ : ∃ m, n = m + 1 := ⟨n - 1, by omega⟩
    obtain ⟨h1, h2⟩ := hs m k s (by omega) hI
    rw [h1]
    exact ih (k + 1) m (g k s) (by omega) (by omega) h2
/-- loops that count up, or leave -/
def itx {α β : Type} (ex : Nat → α → Option β) (g : Nat → α → α) (fin : α → β) : Nat → Nat → α → β
  | _, 0, s => fin s
  | k, d + 1, s => match ex k s with
    | some v => v
    | none => itx ex g fin (k + 1) d (g k s)
theorem for_ex {α β : Type} (loop : Nat → Nat → α → β) (N : Nat) (ex : Nat → α → Option β) (g : Nat → α → α) (fin : α → β) (I : Nat → α → Prop) (hs : ∀ n k s, k < N → I k s → loop (n + 1) k s = (match ex k s with | some v => v | none => loop n (k + 1) (g k s)) ∧ (ex k s = none → I (k + 1) (g k s))) (he : ∀ n s, I N s → loop (n + 1) N s = fin s) : ∀ d k n s, k + d = N → d < n → I k s → loop n k s = itx ex g fin k d s := by
  intro d
  induction d with
  | zero =>
    intro k n s hk hn hI
    obtain ⟨m, rfl⟩ : ∃ m, n = m + 1 := ⟨n - 1, by omega⟩
    have : k = N := by omega
    subst this
    exact he m s hI
  | succ d ih =>
    intro k n s hk hn hI
    obtain ⟨m, rfl⟩ : ∃ m, n = m + 1 := ⟨n - 1, by omega⟩
    obtain ⟨h1, h2⟩ := hs m k s (by omega) hI
    rw [h1]
    unfold itx
    cases hx : ex k s with
    | some v => rfl
    | none => exact ih (k + 1) m (g k s) (by omega) (by omega) (h2 hx)
theorem FU_gt {n : Nat} (h : n < 2900) : n < FU := by unfold FU; omega
end
section
/-! The relation between the class's cells and the reference's. -/
/-- a standing (months, balances, debts) and a block of the reference's row -/
def SE (Cn : Nat) (mo : Int32) (ba de w : Nat → Int32) (o : Nat) : Prop :=
  mo = w o ∧ (∀ c, c < 5 → ba c = w (o + 1 + c) ∧ -9999 ≤ (ba c).toInt ∧ (ba c).toInt ≤ 9999) ∧ (∀ k, k < 25 → de k = w (o + 6 + k)) ∧ (∀ c d, c < 5 → d < 5 → de (5 * c + d) = - de (5 * d + c)) ∧ (∀ c d, c < 5 → d < 5 → Cn ≤ d → de (5 * c + d) = 0)
def Rr (hp : HP) (b b' : Nat) : Prop := ((b = 87 ∧ b' = 93) ∨ (b = 93 ∧ b' = 87)) ∧ hp 0 8 = nI b ∧ hp 0 9 = nI b' ∧ hp 0 10 = hp 99 16
def Rtx (hp : HP) : Prop := ∃ N, N ≤ 240 ∧ hp 1 1 = nI N ∧ hp 99 11 = nI N ∧ ∀ i, i < N → hp 2 i = hp 106 i ∧ 0 ≤ (hp 106 i).toInt ∧ (hp 106 i).toInt ≤ 255
def Rbr (hp : HP) (b P Cn Tn : Nat) : Prop := (P ≤ 8 ∧ Cn ≤ 5 ∧ Tn ≤ 6) ∧ (hp b 5 = nI P ∧ hp b 6 = nI Cn ∧ hp b 7 = nI Tn) ∧ (hp 99 3 = nI P ∧ hp 99 5 = nI Cn ∧ hp 99 8 = nI Tn) ∧ (∀ k, k < P → hp (b + 1) k = hp 102 k - 500 ∧ 0 ≤ (hp 102 k).toInt ∧ (hp 102 k).toInt ≤ 999) ∧ (∀ c, c < Cn → hp (b + 3) c = hp 103 c ∧ hp (b + 4) c = hp 104 c ∧ (0 ≤ (hp 103 c).toInt ∧ (hp 103 c).toInt ≤ 99) ∧ 0 ≤ (hp 104 c).toInt ∧ (hp 104 c).toInt ≤ 99) ∧ (∀ t, t < Tn → hp (b + 5) t = hp 105 t ∧ ∃ n, n < 2 ^ P ∧ hp 105 t = nI n)
def Rst (hp : HP) (Cn : Nat) : Prop := SE Cn (hp 3 2) (hp 4) (hp 5) (hp 100) 0 ∧ hp 0 11 = hp 100 31 ∧ 0 ≤ (hp 100 31).toInt
def Rim (hp : HP) (Cn : Nat) : Prop := ∀ i, i < 2 → (hp 86 i = 0 ∧ hp 101 i = 0) ∨ ((hp 86 i = 1 ∧ hp 101 i = 1) ∧ SE Cn (hp (79 + 3 * i) 2) (hp (80 + 3 * i)) (hp (81 + 3 * i)) (hp 100) (32 + 32 * i) ∧ hp 85 i = hp 100 (63 + 32 * i) ∧ 0 ≤ (hp 85 i).toInt)
def rg (nx ct j : Nat) : Nat := (nx + 20 - ct + j) % 20
def Rpa (hp : HP) (Cn : Nat) : Prop := ∃ nx ct, nx < 20 ∧ ct ≤ 20 ∧ hp 6 1 = nI nx ∧ hp 6 2 = nI ct ∧ hp 99 2 = nI ct ∧ ∀ j, j < ct → SE Cn (hp (8 + 3 * rg nx ct j) 2) (hp (9 + 3 * rg nx ct j)) (hp (10 + 3 * rg nx ct j)) (hp 100) (96 + 32 * j)
def Rsl (hp : HP) (P Cn Tn : Nat) : Prop := ∃ s m e z, (s ≤ 5 ∧ m ≤ 4 ∧ e ≤ 8 ∧ z ≤ 15) ∧ (hp 68 7 = nI s ∧ hp 68 8 = nI m ∧ hp 68 9 = nI e ∧ hp 68 10 = nI z) ∧ (hp 99 23 = nI s ∧ hp 99 25 = nI m ∧ hp 99 29 = nI e ∧ hp 99 32 = nI z) ∧ (∀ i, i < s → hp 69 i = hp 110 i ∧ 1 ≤ (hp 110 i).toInt ∧ (hp 110 i).toInt ≤ 999) ∧ (∀ i, i < m → hp 70 i = hp 111 i ∧ hp 71 i = hp 112 i ∧ (∃ t, t < Tn ∧ hp 111 i = nI t) ∧ ∃ k, k < 4 ∧ hp 112 i = nI k) ∧ (∀ i, i < e → hp 72 i = hp 114 i ∧ hp 73 i = hp 115 i ∧ (∃ k, k < P ∧ hp 114 i = nI k) ∧ (hp 115 i = 0 ∨ hp 115 i = 1)) ∧ (∀ i, i < z → hp 74 i = hp 116 i ∧ hp 75 i = hp 117 i - 10000 ∧ (∃ c, c < Cn ∧ hp 116 i = nI c) ∧ 0 ≤ (hp 117 i).toInt ∧ (hp 117 i).toInt ≤ 20000)
def R (hp : HP) : Prop := ∃ b b' P Cn Tn, Rr hp b b' ∧ Rtx hp ∧ Rbr hp b P Cn Tn ∧ Rst hp Cn ∧ Rim hp Cn ∧ Rpa hp Cn ∧ Rsl hp P Cn Tn
/-- one call on both: equal answers, and they go on alike -/
def Sim (hp : HP) (f g : HP → Option (Int32 × HP)) : Prop := ∃ v hp1 hp2, f hp = some (v, hp1) ∧ g hp1 = some (v, hp2) ∧ R hp2
theorem Sim.pure {hp : HP} {f g : HP → Option (Int32 × HP)} (v : Int32) (h1 : f hp = some (v, hp)) (h2 : g hp = some (v, hp)) (hR : R hp) : Sim hp f g := ⟨v, hp, hp, h1, h2, hR⟩
theorem isB_nI {hp : HP} {b b' : Nat} (h : Rr hp b b') : isB (hp 0 8).toNatClampNeg = true ∧ (hp 0 8).toNatClampNeg = b := by
  obtain ⟨h1, h2, -⟩ := h
  rw [h2]
  rcases h1 with ⟨rfl, -⟩ | ⟨rfl, -⟩ <;> decide
theorem x_hasC {hp : HP} {b Cn : Nat} (h : hp b 6 = nI Cn) (a : Int32) : f_Br_hasCustomer hp b a = some (wi a 0 (nI Cn - 1), hp) := by
  unfold f_Br_hasCustomer
  rw [x_within, h]
  exact rz_wi _ _ _ _
theorem x_hasP {hp : HP} {b P : Nat} (h : hp b 5 = nI P) (a : Int32) : f_Br_hasPart hp b a = some (wi a 0 (nI P - 1), hp) := by
  unfold f_Br_hasPart
  rw [x_within, h]
  exact rz_wi _ _ _ _
theorem x_hasT {hp : HP} {b Tn : Nat} (h : hp b 7 = nI Tn) (a : Int32) : f_Br_hasTask hp b a = some (wi a 0 (nI Tn - 1), hp) := by
  unfold f_Br_hasTask
  rw [x_within, h]
  exact rz_wi _ _ _ _
theorem m_isC {hp : HP} {Cn : Nat} (h : hp 99 5 = nI Cn) (a : Int32) : f_Mo_isCustomer hp a = some (wi a 0 (nI Cn - 1), hp) := by
  unfold f_Mo_isCustomer
  rw [h, m_in hp a 0 (nI Cn - 1) (A := 0) rfl rfl]
  exact rz_wi _ _ _ _
theorem m_isP {hp : HP} {P : Nat} (h : hp 99 3 = nI P) (a : Int32) : f_Mo_isPart hp a = some (wi a 0 (nI P - 1), hp) := by
  unfold f_Mo_isPart
  rw [h, m_in hp a 0 (nI P - 1) (A := 0) rfl rfl]
  exact rz_wi _ _ _ _
theorem m_isT {hp : HP} {Tn : Nat} (h : hp 99 8 = nI Tn) (a : Int32) : f_Mo_isTask hp a = some (wi a 0 (nI Tn - 1), hp) := by
  unfold f_Mo_isTask
  rw [h, m_in hp a 0 (nI Tn - 1) (A := 0) rfl rfl]
  exact rz_wi _ _ _ _
/-- the set of parts that are there by a balance -/
def pset (nd : Nat → Int32) (v : Int32) : Nat → Int32 → Int32 := fun k s => if v < nd k then s else s ||| ((1 : Int32) <<< (nI k &&& 31))
def ps (nd : Nat → Int32) (v : Int32) (P : Nat) : Int32 := it (pset nd v) 0 P 0
theorem ps_cong {nd nd' : Nat → Int32} {v : Int32} {P : Nat} (h : ∀ k, k < P → nd k = nd' k) : ps nd v P = ps nd' v P := it_cong P 0 0 (fun j s _ h2 => by unfold pset; rw [h j (by omega)])
theorem x_partsAt {hp : HP} {b P : Nat} (h : hp b 5 = nI P) (h8 : P ≤ 8) (v : Int32) : f_Br_partsAt hp b v = some (ps (hp (b + 1)) v P, hp) := by
  unfold f_Br_partsAt
  refine (for_up (fun n k s => f_Br_partsAt_L4 b v (fun hp5 w4 => some (w4, hp5)) n hp s (nI k)) P (pset (hp (b + 1)) v) (fun s => some (s, hp)) (fun _ _ => True) ?_ ?_ P 0 FU 0 (by omega) (FU_gt (by omega)) trivial).1
  · intro n k s hk _
    refine ⟨?_, trivial⟩
    show f_Br_partsAt_L4 b v _ (n + 1) hp s (nI k) = _
    rw [f_Br_partsAt_L4]
    rw [if_neg (by rw [h, nI_leI (by omega) (by omega)]; omega), if_pos (inb_n (by omega) (by decide)), cl_n (by omega)]
    unfold pset
    split <;> rw [nI_1]
  · intro n s _
    show f_Br_partsAt_L4 b v _ (n + 1) hp s (nI P) = _
    rw [f_Br_partsAt_L4]
    rw [if_pos (by rw [h, nI_leI (by omega) (by omega)]; omega)]
theorem or_0 (s : Int32) : s ||| 0 = s := by simp
theorem m_thereBy {hp : HP} {P : Nat} (h : hp 99 3 = nI P) (h8 : P ≤ 8) (v : Int32) : f_Mo_thereBy hp v = some (ps (fun k => hp 102 k - 500) v P, hp) := by
  unfold f_Mo_thereBy
  refine (for_up (fun n k s => f_Mo_thereBy_L4 v (fun hp5 w4 => some (w4, hp5)) n hp s (nI k)) P (pset (fun k => hp 102 k - 500) v) (fun s => some (s, hp)) (fun _ _ => True) ?_ ?_ P 0 FU 0 (by omega) (FU_gt (by omega)) trivial).1
  · intro n k s hk _
    refine ⟨?_, trivial⟩
    show f_Mo_thereBy_L4 v _ (n + 1) hp s (nI k) = _
    rw [f_Mo_thereBy_L4]
    rw [if_neg (by rw [h, nI_leI (by omega) (by omega)]; omega), if_pos (inb_n (by omega) (by decide)), cl_n (by omega)]
    unfold pset
    split
    · rw [nI_1, or_0]
    · rw [nI_1]
  · intro n s _
    show f_Mo_thereBy_L4 v _ (n + 1) hp s (nI P) = _
    rw [f_Mo_thereBy_L4]
    rw [if_pos (by rw [h, nI_leI (by omega) (by omega)]; omega)]
end
section
/-! Which rows a part of the relation looks at; the methods that only write a place or two. -/
theorem Rr_cong (hp : HP) {hp' : HP} {b b' : Nat} (h1 : hp' 0 8 = hp 0 8) (h2 : hp' 0 9 = hp 0 9) (h3 : hp' 0 10 = hp 0 10) (h4 : hp' 99 16 = hp 99 16) (h : Rr hp b b') : Rr hp' b b' := by
  unfold Rr at *; rw [h1, h2, h3, h4]; exact h
theorem Rtx_cong (hp : HP) {hp' : HP} (h : hp' 2 = hp 2 ∧ hp' 106 = hp 106) (h1 : hp' 1 1 = hp 1 1) (h2 : hp' 99 11 = hp 99 11) (k : Rtx hp) : Rtx hp' := by
  unfold Rtx at *; rw [h.1, h.2, h1, h2]; exact k
theorem Rbr_cong (hp : HP) {hp' : HP} {b P Cn Tn : Nat} (hb : b = 87 ∨ b = 93) (h : ∀ q, (87 ≤ q ∧ q ≤ 98) ∨ (102 ≤ q ∧ q ≤ 105) → hp' q = hp q) (h1 : hp' 99 3 = hp 99 3) (h2 : hp' 99 5 = hp 99 5) (h3 : hp' 99 8 = hp 99 8) (k : Rbr hp b P Cn Tn) : Rbr hp' b P Cn Tn := by
  unfold Rbr at *
  rw [h b (by omega), h (b + 1) (by omega), h (b + 3) (by omega), h (b + 4) (by omega), h (b + 5) (by omega), h 102 (by omega), h 103 (by omega), h 104 (by omega), h 105 (by omega), h1, h2, h3]
  exact k
theorem Rst_cong (hp : HP) {hp' : HP} {Cn : Nat} (h : ∀ q, (3 ≤ q ∧ q ≤ 5) ∨ q = 100 → hp' q = hp q) (h1 : hp' 0 11 = hp 0 11) (k : Rst hp Cn) : Rst hp' Cn := by
  unfold Rst at *
  rw [h 3 (by omega), h 4 (by omega), h 5 (by omega), h 100 (by omega), h1]
  exact k
theorem Rim_cong (hp : HP) {hp' : HP} {Cn : Nat} (h : ∀ q, (79 ≤ q ∧ q ≤ 86) ∨ q = 100 ∨ q = 101 → hp' q = hp q) (k : Rim hp Cn) : Rim hp' Cn := by
  unfold Rim at *
  intro i hi
  rw [h 86 (by omega), h 101 (by omega), h (79 + 3 * i) (by omega), h (80 + 3 * i) (by omega), h (81 + 3 * i) (by omega), h 100 (by omega), h 85 (by omega)]
  exact k i hi
theorem rg_lt (nx ct j : Nat) : rg nx ct j < 20 := Nat.mod_lt _ (by decide)
theorem Rpa_cong (hp : HP) {hp' : HP} {Cn : Nat} (h : ∀ q, (6 ≤ q ∧ q ≤ 67) ∨ q = 100 → hp' q = hp q) (h1 : hp' 99 2 = hp 99 2) (k : Rpa hp Cn) : Rpa hp' Cn := by
  obtain ⟨nx, ct, a1, a2, a3, a4, a5, a6⟩ := k
  refine ⟨nx, ct, a1, a2, by rw [h 6 (by omega)]; exact a3, by rw [h 6 (by omega)]; exact a4, by rw [h1]; exact a5, fun j hj => ?_⟩
  have := rg_lt nx ct j
  rw [h (8 + 3 * rg nx ct j) (by omega), h (9 + 3 * rg nx ct j) (by omega), h (10 + 3 * rg nx ct j) (by omega), h 100 (by omega)]
  exact a6 j hj
theorem Rsl_cong (hp : HP) {hp' : HP} {P Cn Tn : Nat} (h : ∀ q, (68 ≤ q ∧ q ≤ 75) ∨ (110 ≤ q ∧ q ≤ 112) ∨ (114 ≤ q ∧ q ≤ 117) → hp' q = hp q) (h1 : hp' 99 23 = hp 99 23) (h2 : hp' 99 25 = hp 99 25) (h3 : hp' 99 29 = hp 99 29) (h4 : hp' 99 32 = hp 99 32) (k : Rsl hp P Cn Tn) : Rsl hp' P Cn Tn := by
  unfold Rsl at *
  rw [h 68 (by omega), h 69 (by omega), h 70 (by omega), h 71 (by omega), h 72 (by omega), h 73 (by omega), h 74 (by omega), h 75 (by omega), h 110 (by omega), h 111 (by omega), h 112 (by omega), h 114 (by omega), h 115 (by omega), h 116 (by omega), h 117 (by omega), h1, h2, h3, h4]
  exact k
theorem Rr_or {hp : HP} {b b' : Nat} (h : Rr hp b b') : b = 87 ∨ b = 93 := by
  rcases h.1 with ⟨h, -⟩ | ⟨h, -⟩
  · exact Or.inl h
  · exact Or.inr h
theorem nI_s (a : Nat) : nI a + (1 : Int32) = nI (a + 1) := nI_1 a
theorem n_le (a b : Nat) (h : a ≤ b) (hb : b < 2 ^ 31) : nI a ≤ nI b := nI_le h hb
theorem n_nle (a b : Nat) (h : b < a) (ha : a < 2 ^ 31) : ¬ nI a ≤ nI b := nI_ge h ha
theorem n_lt (a b : Nat) (h : a < b) (hb : b < 2 ^ 31) : nI a < nI b := nI_lt h hb
theorem n_nlt (a b : Nat) (h : b ≤ a) (ha : a < 2 ^ 31) : ¬ nI a < nI b := nI_nlt h ha
theorem n_ne (a b : Nat) (h : a ≠ b) (ha : a < 2 ^ 31) (hb : b < 2 ^ 31) : ¬ nI a = nI b := fun e => h ((nI_eq ha hb).mp e)
theorem S_feed {hp : HP} (h : R hp) (a : Int32) : Sim hp (fun x => f_BA_feed x a) (fun x => f_Mo_feed x a) := by
  have hR := h
  obtain ⟨b, b', P, Cn, Tn, hr, ⟨N, hN, t1, t2, t3⟩, hbr, hst, him, hpa, hsl⟩ := h
  rcases @wi_lit a 0 255 with ⟨e, -⟩ | ⟨e, h1, h2⟩
  · refine Sim.pure (-1000000002) ?_ ?_ hR
    · simp only [f_BA_feed, x_within, e, Option.bind_some, if_true]
    · simp only [f_Mo_feed, m_in hp a 0 255 (A := 0) (B := 255) rfl rfl, e, Option.bind_some, if_true]
  · by_cases hF : N = 240
    · subst hF
      refine Sim.pure (-1000000004) ?_ ?_ hR
      · simp only [f_BA_feed, x_within, e, Option.bind_some, t1]; rfl
      · simp only [f_Mo_feed, m_in hp a 0 255 (A := 0) (B := 255) rfl rfl, e, Option.bind_some, t2]; rfl
    · refine ⟨nI (N + 1), up (up hp 2 N a) 1 1 (nI (N + 1)), up (up (up (up hp 2 N a) 1 1 (nI (N + 1))) 106 N a) 99 11 (nI (N + 1)), ?_, ?_, ?_⟩
      · simp only [f_BA_feed, x_within, e, Option.bind_some, t1, f_Re_append]
        rw [if_neg (by decide), if_pos (by exact n_lt N 240 (by omega) (by omega)), if_neg (by exact n_nle 240 N (by omega) (by omega)), if_pos (inb_n (by omega) (by omega)), cl_n (by omega)]
        have e1 : up hp 2 N a 1 1 = nI N := t1
        simp only [e1, nI_s, Option.bind_some]
        rfl
      · have e1 : up (up hp 2 N a) 1 1 (nI (N + 1)) 99 11 = nI N := t2
        simp only [f_Mo_feed, m_in _ a 0 255 (A := 0) (B := 255) rfl rfl, e, Option.bind_some, e1]
        rw [if_neg (by decide), if_neg (by exact n_ne N 240 (by omega) (by omega) (by omega)), if_pos (inb_n (by omega) (by omega)), cl_n (by omega)]
        have e2 : up (up (up hp 2 N a) 1 1 (nI (N + 1))) 106 N a 99 11 = nI N := t2
        simp only [e2, nI_s]
        rfl
      · refine ⟨b, b', P, Cn, Tn, Rr_cong hp rfl rfl rfl rfl hr, ⟨N + 1, by omega, rfl, rfl, fun i hi => ?_⟩, Rbr_cong hp (Rr_or hr) (by intro q hq; simp only [up_ap, setc_ap]; repeat rw [if_neg (by omega)]) rfl rfl rfl hbr, Rst_cong hp (by intro q hq; simp only [up_ap, setc_ap]; repeat rw [if_neg (by omega)]) rfl hst, Rim_cong hp (by intro q hq; simp only [up_ap, setc_ap]; repeat rw [if_neg (by omega)]) him, Rpa_cong hp (by intro q hq; simp only [up_ap, setc_ap]; repeat rw [if_neg (by omega)]) rfl hpa, Rsl_cong hp (by intro q hq; simp only [up_ap, setc_ap]; repeat rw [if_neg (by omega)]) rfl rfl rfl rfl hsl⟩
        show upd (hp 2) N a i = upd (hp 106) N a i ∧ 0 ≤ (upd (hp 106) N a i).toInt ∧ (upd (hp 106) N a i).toInt ≤ 255
        by_cases hiN : i = N
        · subst hiN
          rw [upd_ap, if_pos rfl, upd_ap, if_pos rfl]
          exact ⟨rfl, h1, h2⟩
        · rw [upd_ap, if_neg hiN, upd_ap, if_neg hiN]
          exact t3 i (by omega)
end
section
theorem isB_b {hp : HP} {b b' : Nat} (h : Rr hp b b') : isB b = true ∧ (hp 0 8).toNatClampNeg = b := by
  obtain ⟨h1, h2⟩ := isB_nI h
  rw [h2] at h1
  exact ⟨h1, h2⟩
theorem sac (x y : Int32) : x - y + y = x := by
  rw [eq_i, Int32.toInt_add, Int32.toInt_sub]
  simp
theorem S_fault {hp : HP} (h : R hp) : Sim hp (fun x => f_BA_fault x) (fun x => f_Mo_fault x) := by
  have hR := h
  obtain ⟨b, b', P, Cn, Tn, hr, htx, hbr, hst, him, hpa, hsl⟩ := h
  refine Sim.pure (hp 0 10) rfl ?_ hR
  show some (hp 99 16, hp) = _
  rw [hr.2.2.2]
theorem S_part {hp : HP} (h : R hp) (a : Int32) : Sim hp (fun x => f_BA_part x a) (fun x => f_Mo_part x a) := by
  have hR := h
  obtain ⟨b, b', P, Cn, Tn, hr, htx, hbr, hst, him, hpa, hsl⟩ := h
  obtain ⟨ib, eb⟩ := isB_b hr
  obtain ⟨⟨p8, c5, t6⟩, ⟨b5, b6, b7⟩, ⟨m3, m5, m8⟩, hnd, hpy, htk⟩ := hbr
  rcases wi_n a (N := P) (by omega) with e | ⟨k, hk, rfl, e⟩
  · refine Sim.pure (-1000000001) ?_ ?_ hR
    · simp only [f_BA_part, eb, ib, x_hasP b5, e, Option.bind_some, if_true]
    · simp only [f_Mo_part, m_isP m3, e, Option.bind_some, if_true]
  · refine Sim.pure (hp 102 k) ?_ ?_ hR
    · simp only [f_BA_part, eb, ib, x_hasP b5, e, Option.bind_some, if_true]
      rw [if_neg (by decide), if_pos (inb_n (by omega) (by decide)), cl_n (by omega), (hnd k hk).1, sac]
    · simp only [f_Mo_part, m_isP m3, e, Option.bind_some]
      rw [if_neg (by decide), if_pos (inb_n (by omega) (by decide)), cl_n (by omega)]
theorem S_spending {hp : HP} (h : R hp) (a : Int32) : Sim hp (fun x => f_BA_spending x a) (fun x => f_Mo_spending x a) := by
  have hR := h
  obtain ⟨b, b', P, Cn, Tn, hr, htx, hbr, hst, him, hpa, hsl⟩ := h
  obtain ⟨s, m, e, z, ⟨ls, lm, le, lz⟩, ⟨x7, x8, x9, x10⟩, ⟨y7, y8, y9, y10⟩, hs, hm, he, hz⟩ := hsl
  rcases @wi_lit a 1 999 with ⟨e0, -⟩ | ⟨e0, h1, h2⟩
  · refine Sim.pure (-1000000002) ?_ ?_ hR
    · simp only [f_BA_spending, x_within, e0, Option.bind_some, if_true]
    · simp only [f_Mo_spending, m_in hp a 1 999 (A := 1) (B := 999) rfl rfl, e0, Option.bind_some, if_true]
  · by_cases hF : s = 5
    · subst hF
      refine Sim.pure (-1000000004) ?_ ?_ hR
      · simp only [f_BA_spending, x_within, e0, Option.bind_some, x7]; rfl
      · simp only [f_Mo_spending, m_in hp a 1 999 (A := 1) (B := 999) rfl rfl, e0, Option.bind_some, y7]; rfl
    · refine ⟨nI (s + 1), up (up hp 69 s a) 68 7 (nI (s + 1)), up (up (up (up hp 69 s a) 68 7 (nI (s + 1))) 110 s a) 99 23 (nI (s + 1)), ?_, ?_, ?_⟩
      · simp only [f_BA_spending, x_within, e0, Option.bind_some, x7, f_Sl_addSpending]
        rw [if_neg (by decide), if_pos (by exact n_lt s 5 (by omega) (by omega)), if_neg (by exact n_nle 5 s (by omega) (by omega)), if_pos (inb_n (by omega) (by omega)), cl_n (by omega)]
        have e1 : up hp 69 s a 68 7 = nI s := x7
        simp only [e1, nI_s, Option.bind_some]
        rfl
      · have e1 : up (up hp 69 s a) 68 7 (nI (s + 1)) 99 23 = nI s := y7
        simp only [f_Mo_spending, m_in _ a 1 999 (A := 1) (B := 999) rfl rfl, e0, Option.bind_some, e1]
        rw [if_neg (by decide), if_neg (by exact n_ne s 5 (by omega) (by omega) (by omega)), if_pos (inb_n (by omega) (by omega)), cl_n (by omega)]
        have e2 : up (up (up hp 69 s a) 68 7 (nI (s + 1))) 110 s a 99 23 = nI s := y7
        simp only [e2, nI_s]
        rfl
      · refine ⟨b, b', P, Cn, Tn, Rr_cong hp rfl rfl rfl rfl hr, Rtx_cong hp ⟨rfl, rfl⟩ rfl rfl htx, Rbr_cong hp (Rr_or hr) (by intro q hq; simp only [up_ap, setc_ap]; repeat rw [if_neg (by omega)]) rfl rfl rfl hbr, Rst_cong hp (by intro q hq; simp only [up_ap, setc_ap]; repeat rw [if_neg (by omega)]) rfl hst, Rim_cong hp (by intro q hq; simp only [up_ap, setc_ap]; repeat rw [if_neg (by omega)]) him, Rpa_cong hp (by intro q hq; simp only [up_ap, setc_ap]; repeat rw [if_neg (by omega)]) rfl hpa, s + 1, m, e, z, ⟨by omega, lm, le, lz⟩, ⟨rfl, x8, x9, x10⟩, ⟨rfl, y8, y9, y10⟩, fun i hi => ?_, hm, he, hz⟩
        show upd (hp 69) s a i = upd (hp 110) s a i ∧ 1 ≤ (upd (hp 110) s a i).toInt ∧ (upd (hp 110) s a i).toInt ≤ 999
        by_cases hiN : i = s
        · subst hiN
          rw [upd_ap, if_pos rfl, upd_ap, if_pos rfl]
          exact ⟨rfl, h1, h2⟩
        · rw [upd_ap, if_neg hiN, upd_ap, if_neg hiN]
          exact hs i (by omega)
theorem S_must {hp : HP} (h : R hp) (a c : Int32) : Sim hp (fun x => f_BA_must x a c) (fun x => f_Mo_must x a c) := by
  have hR := h
  obtain ⟨b, b', P, Cn, Tn, hr, htx, hbr, hst, him, hpa, hsl⟩ := h
  obtain ⟨ib, eb⟩ := isB_b hr
  obtain ⟨s, m, e, z, ⟨ls, lm, le, lz⟩, ⟨x7, x8, x9, x10⟩, ⟨y7, y8, y9, y10⟩, hs, hm, he, hz⟩ := hsl
  have b7 := hbr.2.1.2.2
  have m8 := hbr.2.2.1.2.2
  have t6 := hbr.1.2.2
  rcases wi_n a (N := Tn) (by omega) with e1 | ⟨t, ht, rfl, e1⟩
  · refine Sim.pure (-1000000001) ?_ ?_ hR
    · simp only [f_BA_must, eb, ib, x_hasT b7, e1, Option.bind_some, if_true]
    · simp only [f_Mo_must, m_isT m8, e1, Option.bind_some, if_true]
  · rcases @wi_lit c 0 3 with ⟨e0, -⟩ | ⟨e0, h1, h2⟩
    · refine Sim.pure (-1000000002) ?_ ?_ hR
      · simp only [f_BA_must, eb, ib, x_hasT b7, e1, x_within, e0, Option.bind_some, if_true]
        rw [if_neg (by decide)]
      · simp only [f_Mo_must, m_isT m8, e1, m_in hp c 0 3 (A := 0) (B := 3) rfl rfl, e0, Option.bind_some, if_true]
        rw [if_neg (by decide)]
    · by_cases hF : m = 4
      · subst hF
        refine Sim.pure (-1000000004) ?_ ?_ hR
        · simp only [f_BA_must, eb, ib, x_hasT b7, e1, x_within, e0, Option.bind_some, if_true, x8]; rfl
        · simp only [f_Mo_must, m_isT m8, e1, m_in hp c 0 3 (A := 0) (B := 3) rfl rfl, e0, Option.bind_some, y8]; rfl
      · obtain ⟨mo, hmo, rfl⟩ := of_rg (x := c) (n := 4) h1 (by have : (3 : Int32).toInt = 3 := rfl; omega)
        refine ⟨nI (m + 1), up (up (up hp 70 m (nI t)) 71 m (nI mo)) 68 8 (nI (m + 1)), up (up (up (up (up (up hp 70 m (nI t)) 71 m (nI mo)) 68 8 (nI (m + 1))) 111 m (nI t)) 112 m (nI mo)) 99 25 (nI (m + 1)), ?_, ?_, ?_⟩
        · simp only [f_BA_must, eb, ib, x_hasT b7, e1, x_within, e0, Option.bind_some, x8, f_Sl_addMust, if_true]
          rw [if_neg (by decide), if_neg (by decide), if_pos (by exact n_lt m 4 (by omega) (by omega)), if_neg (by exact n_nle 4 m (by omega) (by omega)), if_pos (inb_n (by omega) (by omega)), cl_n (by omega)]
          have e2 : up hp 70 m (nI t) 68 8 = nI m := x8
          simp only [e2]
          rw [if_pos (inb_n (by omega) (by omega)), cl_n (by omega)]
          have e3 : up (up hp 70 m (nI t)) 71 m (nI mo) 68 8 = nI m := x8
          simp only [e3, nI_s, Option.bind_some]
          rfl
        · have e2 : up (up (up hp 70 m (nI t)) 71 m (nI mo)) 68 8 (nI (m + 1)) 99 25 = nI m := y8
          have m8' : up (up (up hp 70 m (nI t)) 71 m (nI mo)) 68 8 (nI (m + 1)) 99 8 = nI Tn := m8
          simp only [f_Mo_must, m_isT m8', e1, m_in _ (nI mo) 0 3 (A := 0) (B := 3) rfl rfl, e0, Option.bind_some, e2]
          rw [if_neg (by decide), if_neg (by decide), if_neg (by exact n_ne m 4 (by omega) (by omega) (by omega)), if_pos (inb_n (by omega) (by omega)), cl_n (by omega)]
          have e3 : up (up (up (up hp 70 m (nI t)) 71 m (nI mo)) 68 8 (nI (m + 1))) 111 m (nI t) 99 25 = nI m := y8
          simp only [e3]
          rw [if_pos (inb_n (by omega) (by omega)), cl_n (by omega)]
          have e4 : up (up (up (up (up hp 70 m (nI t)) 71 m (nI mo)) 68 8 (nI (m + 1))) 111 m (nI t)) 112 m (nI mo) 99 25 = nI m := y8
          simp only [e4, nI_s]
          rfl
        · refine ⟨b, b', P, Cn, Tn, Rr_cong hp rfl rfl rfl rfl hr, Rtx_cong hp ⟨rfl, rfl⟩ rfl rfl htx, Rbr_cong hp (Rr_or hr) (by intro q hq; simp only [up_ap, setc_ap]; repeat rw [if_neg (by omega)]) rfl rfl rfl hbr, Rst_cong hp (by intro q hq; simp only [up_ap, setc_ap]; repeat rw [if_neg (by omega)]) rfl hst, Rim_cong hp (by intro q hq; simp only [up_ap, setc_ap]; repeat rw [if_neg (by omega)]) him, Rpa_cong hp (by intro q hq; simp only [up_ap, setc_ap]; repeat rw [if_neg (by omega)]) rfl hpa, s, m + 1, e, z, ⟨ls, by omega, le, lz⟩, ⟨x7, rfl, x9, x10⟩, ⟨y7, rfl, y9, y10⟩, hs, fun i hi => ?_, he, hz⟩
          show upd (hp 70) m (nI t) i = upd (hp 111) m (nI t) i ∧ upd (hp 71) m (nI mo) i = upd (hp 112) m (nI mo) i ∧ (∃ t2, t2 < Tn ∧ upd (hp 111) m (nI t) i = nI t2) ∧ ∃ k, k < 4 ∧ upd (hp 112) m (nI mo) i = nI k
          by_cases hiN : i = m
          · subst hiN
            simp only [upd_ap, if_true]
            exact ⟨trivial, trivial, ⟨t, ht, rfl⟩, mo, hmo, rfl⟩
          · simp only [upd_ap, if_neg hiN]
            exact hm i (by omega)
end
section
theorem bz_0 : bz 0 = 0 := rfl
theorem bz_1 : bz 1 = 1 := rfl
theorem S_see {hp : HP} (h : R hp) (a c : Int32) (hc : c = 0 ∨ c = 1) : Sim hp (fun x => f_BA_see x a c) (fun x => f_Mo_see x a c) := by
  have hR := h
  obtain ⟨b, b', P, Cn, Tn, hr, htx, hbr, hst, him, hpa, hsl⟩ := h
  obtain ⟨ib, eb⟩ := isB_b hr
  obtain ⟨s, m, e, z, ⟨ls, lm, le, lz⟩, ⟨x7, x8, x9, x10⟩, ⟨y7, y8, y9, y10⟩, hs, hm, he, hz⟩ := hsl
  have b5 := hbr.2.1.1
  have m3 := hbr.2.2.1.1
  have p8 := hbr.1.1
  have hb : bz c = c := by rcases hc with rfl | rfl <;> rfl
  rcases wi_n a (N := P) (by omega) with e1 | ⟨t, ht, rfl, e1⟩
  · refine Sim.pure (-1000000001) ?_ ?_ hR
    · simp only [f_BA_see, eb, ib, x_hasP b5, e1, Option.bind_some, if_true]
    · simp only [f_Mo_see, m_isP m3, e1, Option.bind_some, if_true]
  · by_cases hF : e = 8
    · subst hF
      refine Sim.pure (-1000000004) ?_ ?_ hR
      · simp only [f_BA_see, eb, ib, x_hasP b5, e1, Option.bind_some, if_true, x9]; rfl
      · simp only [f_Mo_see, m_isP m3, e1, Option.bind_some, y9]; rfl
    · refine ⟨nI (e + 1), up (up (up hp 72 e (nI t)) 73 e c) 68 9 (nI (e + 1)), up (up (up (up (up (up hp 72 e (nI t)) 73 e c) 68 9 (nI (e + 1))) 114 e (nI t)) 115 e c) 99 29 (nI (e + 1)), ?_, ?_, ?_⟩
      · simp only [f_BA_see, eb, ib, x_hasP b5, e1, Option.bind_some, x9, f_Sl_addSeen, if_true, hb]
        rw [if_neg (by decide), if_pos (by exact n_lt e 8 (by omega) (by omega)), if_neg (by exact n_nle 8 e (by omega) (by omega)), if_pos (inb_n (by omega) (by omega)), cl_n (by omega)]
        have e2 : up hp 72 e (nI t) 68 9 = nI e := x9
        simp only [e2]
        rw [if_pos (inb_n (by omega) (by omega)), cl_n (by omega)]
        have e3 : up (up hp 72 e (nI t)) 73 e c 68 9 = nI e := x9
        simp only [e3, nI_s, Option.bind_some]
        rfl
      · have e2 : up (up (up hp 72 e (nI t)) 73 e c) 68 9 (nI (e + 1)) 99 29 = nI e := y9
        have m3' : up (up (up hp 72 e (nI t)) 73 e c) 68 9 (nI (e + 1)) 99 3 = nI P := m3
        simp only [f_Mo_see, m_isP m3', e1, Option.bind_some, e2, hb]
        rw [if_neg (by decide), if_neg (by exact n_ne e 8 (by omega) (by omega) (by omega)), if_pos (inb_n (by omega) (by omega)), cl_n (by omega)]
        have e3 : up (up (up (up hp 72 e (nI t)) 73 e c) 68 9 (nI (e + 1))) 114 e (nI t) 99 29 = nI e := y9
        simp only [e3]
        rw [if_pos (inb_n (by omega) (by omega)), cl_n (by omega)]
        have e4 : up (up (up (up (up hp 72 e (nI t)) 73 e c) 68 9 (nI (e + 1))) 114 e (nI t)) 115 e c 99 29 = nI e := y9
        simp only [e4, nI_s]
        rfl
      · refine ⟨b, b', P, Cn, Tn, Rr_cong hp rfl rfl rfl rfl hr, Rtx_cong hp ⟨rfl, rfl⟩ rfl rfl htx, Rbr_cong hp (Rr_or hr) (by intro q hq; simp only [up_ap, setc_ap]; repeat rw [if_neg (by omega)]) rfl rfl rfl hbr, Rst_cong hp (by intro q hq; simp only [up_ap, setc_ap]; repeat rw [if_neg (by omega)]) rfl hst, Rim_cong hp (by intro q hq; simp only [up_ap, setc_ap]; repeat rw [if_neg (by omega)]) him, Rpa_cong hp (by intro q hq; simp only [up_ap, setc_ap]; repeat rw [if_neg (by omega)]) rfl hpa, s, m, e + 1, z, ⟨ls, lm, by omega, lz⟩, ⟨x7, x8, rfl, x10⟩, ⟨y7, y8, rfl, y10⟩, hs, hm, fun i hi => ?_, hz⟩
        show upd (hp 72) e (nI t) i = upd (hp 114) e (nI t) i ∧ upd (hp 73) e c i = upd (hp 115) e c i ∧ (∃ k, k < P ∧ upd (hp 114) e (nI t) i = nI k) ∧ (upd (hp 115) e c i = 0 ∨ upd (hp 115) e c i = 1)
        by_cases hiN : i = e
        · subst hiN
          simp only [upd_ap, if_true]
          exact ⟨trivial, trivial, ⟨t, ht, rfl⟩, hc⟩
        · simp only [upd_ap, if_neg hiN]
          exact he i (by omega)
theorem S_write {hp : HP} (h : R hp) (a c : Int32) : Sim hp (fun x => f_BA_write x a c) (fun x => f_Mo_write x a c) := by
  have hR := h
  obtain ⟨b, b', P, Cn, Tn, hr, htx, hbr, hst, him, hpa, hsl⟩ := h
  obtain ⟨ib, eb⟩ := isB_b hr
  obtain ⟨s, m, e, z, ⟨ls, lm, le, lz⟩, ⟨x7, x8, x9, x10⟩, ⟨y7, y8, y9, y10⟩, hs, hm, he, hz⟩ := hsl
  have b6 := hbr.2.1.2.1
  have m5 := hbr.2.2.1.2.1
  have c5 := hbr.1.2.1
  rcases wi_n a (N := Cn) (by omega) with e1 | ⟨t, ht, rfl, e1⟩
  · refine Sim.pure (-1000000001) ?_ ?_ hR
    · simp only [f_BA_write, eb, ib, x_hasC b6, e1, Option.bind_some, if_true]
    · simp only [f_Mo_write, m_isC m5, e1, Option.bind_some, if_true]
  · rcases @wi_lit c 0 20000 with ⟨e0, -⟩ | ⟨e0, h1, h2⟩
    · refine Sim.pure (-1000000002) ?_ ?_ hR
      · simp only [f_BA_write, eb, ib, x_hasC b6, e1, x_within, e0, Option.bind_some, if_true]
        rw [if_neg (by decide)]
      · simp only [f_Mo_write, m_isC m5, e1, m_in hp c 0 20000 (A := 0) (B := 20000) rfl rfl, e0, Option.bind_some, if_true]
        rw [if_neg (by decide)]
    · by_cases hF : z = 15
      · subst hF
        refine Sim.pure (-1000000004) ?_ ?_ hR
        · simp only [f_BA_write, eb, ib, x_hasC b6, e1, x_within, e0, Option.bind_some, if_true, x10]; rfl
        · simp only [f_Mo_write, m_isC m5, e1, m_in hp c 0 20000 (A := 0) (B := 20000) rfl rfl, e0, Option.bind_some, y10]; rfl
      · refine ⟨nI (z + 1), up (up (up hp 74 z (nI t)) 75 z (c - 10000)) 68 10 (nI (z + 1)), up (up (up (up (up (up hp 74 z (nI t)) 75 z (c - 10000)) 68 10 (nI (z + 1))) 116 z (nI t)) 117 z c) 99 32 (nI (z + 1)), ?_, ?_, ?_⟩
        · simp only [f_BA_write, eb, ib, x_hasC b6, e1, x_within, e0, Option.bind_some, x10, f_Sl_addEntry, if_true]
          rw [if_neg (by decide), if_neg (by decide), if_pos (by exact n_lt z 15 (by omega) (by omega)), if_neg (by exact n_nle 15 z (by omega) (by omega)), if_pos (inb_n (by omega) (by omega)), cl_n (by omega)]
          have e2 : up hp 74 z (nI t) 68 10 = nI z := x10
          simp only [e2]
          rw [if_pos (inb_n (by omega) (by omega)), cl_n (by omega)]
          have e3 : up (up hp 74 z (nI t)) 75 z (c - 10000) 68 10 = nI z := x10
          simp only [e3, nI_s, Option.bind_some]
          rfl
        · have e2 : up (up (up hp 74 z (nI t)) 75 z (c - 10000)) 68 10 (nI (z + 1)) 99 32 = nI z := y10
          have m5' : up (up (up hp 74 z (nI t)) 75 z (c - 10000)) 68 10 (nI (z + 1)) 99 5 = nI Cn := m5
          simp only [f_Mo_write, m_isC m5', e1, m_in _ c 0 20000 (A := 0) (B := 20000) rfl rfl, e0, Option.bind_some, e2]
          rw [if_neg (by decide), if_neg (by decide), if_neg (by exact n_ne z 15 (by omega) (by omega) (by omega)), if_pos (inb_n (by omega) (by omega)), cl_n (by omega)]
          have e3 : up (up (up (up hp 74 z (nI t)) 75 z (c - 10000)) 68 10 (nI (z + 1))) 116 z (nI t) 99 32 = nI z := y10
          simp only [e3]
          rw [if_pos (inb_n (by omega) (by omega)), cl_n (by omega)]
          have e4 : up (up (up (up (up hp 74 z (nI t)) 75 z (c - 10000)) 68 10 (nI (z + 1))) 116 z (nI t)) 117 z c 99 32 = nI z := y10
          simp only [e4, nI_s]
          rfl
        · refine ⟨b, b', P, Cn, Tn, Rr_cong hp rfl rfl rfl rfl hr, Rtx_cong hp ⟨rfl, rfl⟩ rfl rfl htx, Rbr_cong hp (Rr_or hr) (by intro q hq; simp only [up_ap, setc_ap]; repeat rw [if_neg (by omega)]) rfl rfl rfl hbr, Rst_cong hp (by intro q hq; simp only [up_ap, setc_ap]; repeat rw [if_neg (by omega)]) rfl hst, Rim_cong hp (by intro q hq; simp only [up_ap, setc_ap]; repeat rw [if_neg (by omega)]) him, Rpa_cong hp (by intro q hq; simp only [up_ap, setc_ap]; repeat rw [if_neg (by omega)]) rfl hpa, s, m, e, z + 1, ⟨ls, lm, le, by omega⟩, ⟨x7, x8, x9, rfl⟩, ⟨y7, y8, y9, rfl⟩, hs, hm, he, fun i hi => ?_⟩
          show upd (hp 74) z (nI t) i = upd (hp 116) z (nI t) i ∧ upd (hp 75) z (c - 10000) i = upd (hp 117) z c i - 10000 ∧ (∃ k, k < Cn ∧ upd (hp 116) z (nI t) i = nI k) ∧ 0 ≤ (upd (hp 117) z c i).toInt ∧ (upd (hp 117) z c i).toInt ≤ 20000
          by_cases hiN : i = z
          · subst hiN
            simp only [upd_ap, if_true]
            exact ⟨trivial, trivial, ⟨t, ht, rfl⟩, h1, h2⟩
          · simp only [upd_ap, if_neg hiN]
            exact hz i (by omega)
theorem S_tear {hp : HP} (h : R hp) : Sim hp (fun x => f_BA_tear x) (fun x => f_Mo_tear x) := by
  obtain ⟨b, b', P, Cn, Tn, hr, htx, hbr, hst, him, hpa, hsl⟩ := h
  obtain ⟨s, m, e, z, ⟨ls, lm, le, lz⟩, ⟨x7, x8, x9, x10⟩, ⟨y7, y8, y9, y10⟩, hs, hm, he, hz⟩ := hsl
  refine ⟨nI s + nI m + nI e + nI z, up (up (up (up hp 68 7 0) 68 8 0) 68 9 0) 68 10 0, up (up (up (up (up (up (up (up hp 68 7 0) 68 8 0) 68 9 0) 68 10 0) 99 23 0) 99 25 0) 99 29 0) 99 32 0, ?_, ?_, ?_⟩
  · simp only [f_BA_tear, f_Sl_countAll, f_Sl_clear, Option.bind_some, x7, x8, x9, x10]
  · show some (hp 99 23 + hp 99 25 + hp 99 29 + hp 99 32, _) = _
    rw [y7, y8, y9, y10]
  · refine ⟨b, b', P, Cn, Tn, Rr_cong hp rfl rfl rfl rfl hr, Rtx_cong hp ⟨rfl, rfl⟩ rfl rfl htx, Rbr_cong hp (Rr_or hr) (by intro q hq; simp only [up_ap, setc_ap]; repeat rw [if_neg (by omega)]) rfl rfl rfl hbr, Rst_cong hp (by intro q hq; simp only [up_ap, setc_ap]; repeat rw [if_neg (by omega)]) rfl hst, Rim_cong hp (by intro q hq; simp only [up_ap, setc_ap]; repeat rw [if_neg (by omega)]) him, Rpa_cong hp (by intro q hq; simp only [up_ap, setc_ap]; repeat rw [if_neg (by omega)]) rfl hpa, 0, 0, 0, 0, ⟨by omega, by omega, by omega, by omega⟩, ⟨rfl, rfl, rfl, rfl⟩, ⟨rfl, rfl, rfl, rfl⟩, fun i hi => by omega, fun i hi => by omega, fun i hi => by omega, fun i hi => by omega⟩
theorem S_seed {hp : HP} (h : R hp) (a : Int32) : Sim hp (fun x => f_BA_seed x a) (fun x => f_Mo_seed x a) := by
  have hR := h
  obtain ⟨b, b', P, Cn, Tn, hr, htx, hbr, hst, him, hpa, hsl⟩ := h
  by_cases ha : 0 ≤ a
  · refine ⟨hp 0 11, up hp 0 11 a, up (up hp 0 11 a) 100 31 a, ?_, ?_, ?_⟩
    · show f_BA_seed hp a = _
      unfold f_BA_seed
      rw [if_pos ha]
    · show f_Mo_seed _ a = _
      unfold f_Mo_seed
      rw [if_pos ha]
      show some (hp 100 31, _) = _
      rw [← hst.2.1]
    · have e100 : ∀ j, j ≠ 31 → up (up hp 0 11 a) 100 31 a 100 j = hp 100 j := fun j hj => by
        show upd (hp 100) 31 a j = _
        rw [upd_ap, if_neg hj]
      have hSE : ∀ {mo : Int32} {ba de : Nat → Int32} {o : Nat}, (∀ j, o ≤ j → j ≤ o + 30 → j ≠ 31) → SE Cn mo ba de (hp 100) o → SE Cn mo ba de (up (up hp 0 11 a) 100 31 a 100) o := by
        intro mo ba de o ho k
        obtain ⟨k1, k2, k3, k4, k5⟩ := k
        refine ⟨by rw [e100 o (ho o (by omega) (by omega))]; exact k1, fun c hc => by rw [e100 _ (ho _ (by omega) (by omega))]; exact k2 c hc, fun k hk => by rw [e100 _ (ho _ (by omega) (by omega))]; exact k3 k hk, k4, k5⟩
      refine ⟨b, b', P, Cn, Tn, Rr_cong hp rfl rfl rfl rfl hr, Rtx_cong hp ⟨rfl, rfl⟩ rfl rfl htx, Rbr_cong hp (Rr_or hr) (by intro q hq; simp only [up_ap, setc_ap]; repeat rw [if_neg (by omega)]) rfl rfl rfl hbr, ⟨hSE (by omega) hst.1, rfl, by rw [le_i] at ha; exact ha⟩, fun i hi => ?_, ?_, Rsl_cong hp (by intro q hq; simp only [up_ap, setc_ap]; repeat rw [if_neg (by omega)]) rfl rfl rfl rfl hsl⟩
      · have fr : ∀ q, (79 ≤ q ∧ q ≤ 86) ∨ q = 101 → up (up hp 0 11 a) 100 31 a q = hp q := (by intro q hq; simp only [up_ap, setc_ap]; repeat rw [if_neg (by omega)])
        rw [fr 86 (by omega), fr 101 (by omega), fr (79 + 3 * i) (by omega), fr (80 + 3 * i) (by omega), fr (81 + 3 * i) (by omega), fr 85 (by omega), e100 _ (by omega)]
        rcases him i hi with k | ⟨k1, k2, k3⟩
        · exact Or.inl k
        · exact Or.inr ⟨k1, hSE (by omega) k2, k3⟩
      · obtain ⟨nx, ct, a1, a2, a3, a4, a5, a6⟩ := hpa
        refine ⟨nx, ct, a1, a2, a3, a4, a5, fun j hj => ?_⟩
        have := rg_lt nx ct j
        have fr : ∀ q, (6 ≤ q ∧ q ≤ 67) → up (up hp 0 11 a) 100 31 a q = hp q := (by intro q hq; simp only [up_ap, setc_ap]; repeat rw [if_neg (by omega)])
        rw [fr (8 + 3 * rg nx ct j) (by omega), fr (9 + 3 * rg nx ct j) (by omega), fr (10 + 3 * rg nx ct j) (by omega)]
        exact hSE (by omega) (a6 j hj)
  · refine Sim.pure (-1000000002) ?_ ?_ hR
    · show f_BA_seed hp a = _
      unfold f_BA_seed
      rw [if_neg ha]
    · show f_Mo_seed hp a = _
      unfold f_Mo_seed
      rw [if_neg ha]
end
section
theorem it_add {α : Type} (g : Nat → α → α) : ∀ (d e k : Nat) (s : α), it g k (d + e) s = it g (k + d) e (it g k d s)
  | 0, e, k, s => by rw [Nat.zero_add, Nat.add_zero]; rfl
  | d + 1, e, k, s => by
    rw [show d + 1 + e = (d + e) + 1 by omega]
    show it g (k + 1) (d + e) (g k s) = it g (k + (d + 1)) e (it g (k + 1) d (g k s))
    rw [it_add g d e (k + 1) (g k s), show k + 1 + d = k + (d + 1) by omega]
theorem it_same {α : Type} {g : Nat → α → α} : ∀ (d k : Nat) (s : α), (∀ j s, k ≤ j → j < k + d → g j s = s) → it g k d s = s
  | 0, _, _, _ => rfl
  | d + 1, k, s, h => by
    show it g (k + 1) d (g k s) = s
    rw [h k s (Nat.le_refl k) (by omega)]
    exact it_same d (k + 1) s (fun j s h1 h2 => h j s (by omega) (by omega))
theorem n_ma (a b : Nat) : nI a * (5 : Int32) + nI b = nI (a * 5 + b) := by
  show nI a * nI 5 + nI b = _
  rw [pk_mul, nI_add]
theorem n_65 (a b : Nat) : (6 : Int32) + (5 : Int32) * nI a + nI b = nI (6 + 5 * a + b) := by
  show nI 6 + nI 5 * nI a + nI b = _
  rw [pk_mul, nI_add, nI_add]
theorem n_1 (a : Nat) : (1 : Int32) + nI a = nI (1 + a) := by
  show nI 1 + nI a = _
  rw [nI_add]
theorem x_debt (hp : HP) (q : Nat) {c d : Nat} (hc : c < 5) (hd : d < 5) : f_St_debt hp q (nI c) (nI d) = some (hp (q + 2) (c * 5 + d), hp) := by
  unfold f_St_debt
  rw [n_ma, if_pos (inb_n (by omega) (by decide)), cl_n (by omega)]
/-- what others owe one less what he owes: as the class sums it, as the reference does -/
def ntx (de : Nat → Int32) (c : Nat) : Int32 := it (fun d s => s + de (d * 5 + c)) 0 5 0
def ntm (w : Nat → Int32) (c n : Nat) : Int32 := it (fun d s => s - w (6 + 5 * c + d)) 0 n 0
theorem x_netOf (hp : HP) (q : Nat) {c : Nat} (hc : c < 5) : f_St_netOf hp q (nI c) = some (ntx (hp (q + 2)) c, hp) := by
  unfold f_St_netOf
  refine (for_up (fun n k s => f_St_netOf_L4 q (nI c) (fun hp5 w4 => some (w4, hp5)) n hp s (nI k)) 5 (fun d s => s + hp (q + 2) (d * 5 + c)) (fun s => some (s, hp)) (fun _ _ => True) ?_ ?_ 5 0 FU 0 (by omega) (FU_gt (by omega)) trivial).1
  · intro n k s hk _
    refine ⟨?_, trivial⟩
    show f_St_netOf_L4 q (nI c) _ (n + 1) hp s (nI k) = _
    rw [f_St_netOf_L4, if_neg (by exact n_nle 5 k (by omega) (by omega)), x_debt hp q hk hc]
    simp only [Option.bind_some, nI_1]
  · intro n s _
    show f_St_netOf_L4 q (nI c) _ (n + 1) hp s (nI 5) = _
    rw [f_St_netOf_L4, if_pos (by exact n_le 5 5 (by omega) (by omega))]
theorem m_net {hp : HP} {Cn : Nat} (h : hp 99 5 = nI Cn) (h5 : Cn ≤ 5) {c : Nat} (hc : c < 5) : f_Mo_net hp (nI c) = some (ntm (hp 100) c Cn, hp) := by
  unfold f_Mo_net
  refine (for_up (fun n k s => f_Mo_net_L4 (nI c) (fun hp5 w4 => some (w4, hp5)) n hp s (nI k)) Cn (fun d s => s - hp 100 (6 + 5 * c + d)) (fun s => some (s, hp)) (fun _ _ => True) ?_ ?_ Cn 0 FU 0 (by omega) (FU_gt (by omega)) trivial).1
  · intro n k s hk _
    refine ⟨?_, trivial⟩
    show f_Mo_net_L4 (nI c) _ (n + 1) hp s (nI k) = _
    rw [f_Mo_net_L4, h, if_neg (by exact n_nle Cn k (by omega) (by omega)), n_65, if_pos (inb_n (by omega) (by omega)), cl_n (by omega), nI_1]
  · intro n s _
    show f_Mo_net_L4 (nI c) _ (n + 1) hp s (nI Cn) = _
    rw [f_Mo_net_L4, h, if_pos (by exact n_le Cn Cn (by omega) (by omega))]
theorem add_neg32 (s y : Int32) : s + -y = s - y := (Int32.sub_eq_add_neg s y).symm
theorem SE.net {Cn : Nat} {mo : Int32} {ba de w : Nat → Int32} (h : SE Cn mo ba de w 0) (h5 : Cn ≤ 5) {c : Nat} (hc : c < 5) : ntx de c = ntm w c Cn := by
  obtain ⟨-, -, k3, k4, k5⟩ := h
  unfold ntx ntm
  have e : ∀ g : Nat → Int32 → Int32, it g 0 5 0 = it g (0 + Cn) (5 - Cn) (it g 0 Cn 0) := fun g => by
    have := it_add g Cn (5 - Cn) 0 0
    rw [show Cn + (5 - Cn) = 5 by omega] at this
    exact this
  rw [e, it_same (5 - Cn) (0 + Cn)]
  · refine it_cong Cn 0 0 (fun j s _ hj => ?_)
    show s + de (j * 5 + c) = s - w (6 + 5 * c + j)
    rw [show j * 5 + c = 5 * j + c by omega, k4 j c (by omega) hc, add_neg32, k3 (5 * c + j) (by omega), show 0 + 6 + (5 * c + j) = 6 + 5 * c + j by omega]
  · intro j s h1 h2
    show s + de (j * 5 + c) = s
    rw [show j * 5 + c = 5 * j + c by omega, k4 j c (by omega) hc, k5 c j hc (by omega) (by omega)]
    simp
/-- the parts by a bounded balance are those by the balance -/
theorem ps_cla {nd : Nat → Int32} {v : Int32} {P : Nat} (h : ∀ k, k < P → -500 ≤ (nd k).toInt ∧ (nd k).toInt ≤ 499) : ps nd (cla v) P = ps nd v P := by
  refine it_cong P 0 0 (fun j s _ hj => ?_)
  have hb := h j (by omega)
  have e : cla v < nd j ↔ v < nd j := by rw [lt_i, lt_i, cla_i]; omega
  unfold pset
  by_cases h1 : v < nd j
  · rw [if_pos h1, if_pos (e.mpr h1)]
  · rw [if_neg h1, if_neg (fun h => h1 (e.mp h))]
def nd (hp : HP) : Nat → Int32 := fun k => hp 102 k - 500
theorem nd_rg {hp : HP} {b P Cn Tn : Nat} (h : Rbr hp b P Cn Tn) : ∀ k, k < P → -500 ≤ (nd hp k).toInt ∧ (nd hp k).toInt ≤ 499 := by
  intro k hk
  obtain ⟨-, h1, h2⟩ := h.2.2.2.1 k hk
  have e5 : (500 : Int32).toInt = 500 := rfl
  unfold nd
  rw [sub_i (by rw [e5]; omega), e5]
  omega
theorem x_ps {hp : HP} {b P Cn Tn : Nat} (h : Rbr hp b P Cn Tn) (v : Int32) : f_Br_partsAt hp b v = some (ps (nd hp) v P, hp) := by
  rw [x_partsAt h.2.1.1 h.1.1, ps_cong (fun k hk => (h.2.2.2.1 k hk).1)]
  rfl
theorem m_ps {hp : HP} {b P Cn Tn : Nat} (h : Rbr hp b P Cn Tn) (v : Int32) : f_Mo_thereBy hp v = some (ps (nd hp) v P, hp) := m_thereBy h.2.2.1.1 h.1.1 v
theorem m_thereOf {hp : HP} {b P Cn Tn : Nat} (h : Rbr hp b P Cn Tn) {c : Nat} (hc : c < 5) : f_Mo_thereOf hp (nI c) = some (ps (nd hp) (hp 100 (1 + c)) P, hp) := by
  unfold f_Mo_thereOf
  rw [n_1, if_pos (inb_n (by omega) (by decide)), cl_n (by omega), m_ps h]
  rfl
def hatg (nd : Nat → Int32) (P : Nat) (ba : Nat → Int32) : Nat → Int32 → Int32 := fun c s => if ps nd (ba c) P = 0 then s ||| ((1 : Int32) <<< (nI c &&& 31)) else s
theorem Rst_ba {hp : HP} {Cn : Nat} (h : Rst hp Cn) {c : Nat} (hc : c < 5) : hp 4 c = hp 100 (1 + c) := by
  have := (h.1.2.1 c hc).1
  rw [Nat.zero_add] at this
  exact this
theorem x_hats {hp : HP} {b b' P Cn Tn : Nat} (hr : Rr hp b b') (h : Rbr hp b P Cn Tn) : f_BA_hats hp = some (it (hatg (nd hp) P (hp 4)) 0 Cn 0, hp) := by
  obtain ⟨ib, eb⟩ := isB_b hr
  have c5 := h.1.2.1
  unfold f_BA_hats
  refine (for_up (fun n k s => f_BA_hats_L4 (fun hp5 w4 => some (w4, hp5)) n hp s (nI k)) Cn (hatg (nd hp) P (hp 4)) (fun s => some (s, hp)) (fun _ _ => True) ?_ ?_ Cn 0 FU 0 (by omega) (FU_gt (by omega)) trivial).1
  · intro n k s hk _
    refine ⟨?_, trivial⟩
    show f_BA_hats_L4 _ (n + 1) hp s (nI k) = _
    rw [f_BA_hats_L4, eb, if_pos ib, h.2.1.2.1, if_neg (by exact n_nle Cn k (by omega) (by omega)), if_pos (inb_n (by omega) (by omega)), cl_n (by omega), x_ps h]
    simp only [Option.bind_some, nI_1]
    unfold hatg
    split <;> rfl
  · intro n s _
    show f_BA_hats_L4 _ (n + 1) hp s (nI Cn) = _
    rw [f_BA_hats_L4, eb, if_pos ib, h.2.1.2.1, if_pos (by exact n_le Cn Cn (by omega) (by omega))]
theorem m_hats {hp : HP} {b P Cn Tn : Nat} (h : Rbr hp b P Cn Tn) : f_Mo_hats hp = some (it (hatg (nd hp) P (fun c => hp 100 (1 + c))) 0 Cn 0, hp) := by
  have c5 := h.1.2.1
  unfold f_Mo_hats
  refine (for_up (fun n k s => f_Mo_hats_L4 (fun hp5 w4 => some (w4, hp5)) n hp s (nI k)) Cn (hatg (nd hp) P (fun c => hp 100 (1 + c))) (fun s => some (s, hp)) (fun _ _ => True) ?_ ?_ Cn 0 FU 0 (by omega) (FU_gt (by omega)) trivial).1
  · intro n k s hk _
    refine ⟨?_, trivial⟩
    show f_Mo_hats_L4 _ (n + 1) hp s (nI k) = _
    rw [f_Mo_hats_L4, h.2.2.1.2.1, if_neg (by exact n_nle Cn k (by omega) (by omega)), m_thereOf h (by omega)]
    simp only [Option.bind_some, nI_1, or_0]
    unfold hatg
    split <;> rfl
  · intro n s _
    show f_Mo_hats_L4 _ (n + 1) hp s (nI Cn) = _
    rw [f_Mo_hats_L4, h.2.2.1.2.1, if_pos (by exact n_le Cn Cn (by omega) (by omega))]
theorem hats_eq {hp : HP} {P Cn : Nat} (h : Rst hp Cn) (h5 : Cn ≤ 5) : it (hatg (nd hp) P (hp 4)) 0 Cn 0 = it (hatg (nd hp) P (fun c => hp 100 (1 + c))) 0 Cn 0 :=
  it_cong Cn 0 0 (fun j s _ hj => by unfold hatg; rw [Rst_ba h (by omega)])
def whog (nd : Nat → Int32) (P : Nat) (ba : Nat → Int32) : Nat → Int32 → Int32 := fun c s => if ps nd (ba c) P = ((1 : Int32) <<< (nI P &&& 31)) - 1 then s ||| ((1 : Int32) <<< (nI c &&& 31)) else s
theorem x_all {hp : HP} {b P : Nat} (h : hp b 5 = nI P) : f_Br_allParts hp b = some (((1 : Int32) <<< (nI P &&& 31)) - 1, hp) := by unfold f_Br_allParts; rw [h]
theorem m_whole {hp : HP} {P : Nat} (h : hp 99 3 = nI P) : f_Mo_whole hp = some (((1 : Int32) <<< (nI P &&& 31)) - 1, hp) := by unfold f_Mo_whole; rw [h]
theorem add_00 (x : Int32) : x + 0 = x := by simp
theorem x_wholes {hp : HP} {b b' P Cn Tn : Nat} (hr : Rr hp b b') (h : Rbr hp b P Cn Tn) (v : Int32) : f_BA_wholes hp v = some (it (whog (nd hp) P (fun c => hp 4 c + (if v = 0 then 0 else ntx (hp 5) c))) 0 Cn 0, hp) := by
  obtain ⟨ib, eb⟩ := isB_b hr
  have c5 := h.1.2.1
  unfold f_BA_wholes
  refine (for_up (fun n k s => f_BA_wholes_L4 v (fun hp5 w4 => some (w4, hp5)) n hp s (nI k)) Cn (whog (nd hp) P (fun c => hp 4 c + (if v = 0 then 0 else ntx (hp 5) c))) (fun s => some (s, hp)) (fun _ _ => True) ?_ ?_ Cn 0 FU 0 (by omega) (FU_gt (by omega)) trivial).1
  · intro n k s hk _
    refine ⟨?_, trivial⟩
    show f_BA_wholes_L4 v _ (n + 1) hp s (nI k) = _
    rw [f_BA_wholes_L4, eb, if_pos ib, h.2.1.2.1, if_neg (by exact n_nle Cn k (by omega) (by omega)), if_pos (inb_n (by omega) (by omega)), cl_n (by omega)]
    unfold whog
    by_cases hv : v = 0
    · rw [if_pos hv]
      simp only [x_bounded, Option.bind_some, x_ps h, eb, ib, if_true, x_all h.2.1.1, ps_cla (nd_rg h), nI_1, hv]
      split <;> rfl
    · rw [if_neg hv]
      simp only [x_netOf hp 3 (show k < 5 by omega), x_bounded, Option.bind_some, x_ps h, eb, ib, if_true, x_all h.2.1.1, ps_cla (nd_rg h), nI_1, if_neg hv]
      split <;> rfl
  · intro n s _
    show f_BA_wholes_L4 v _ (n + 1) hp s (nI Cn) = _
    rw [f_BA_wholes_L4, eb, if_pos ib, h.2.1.2.1, if_pos (by exact n_le Cn Cn (by omega) (by omega))]
theorem m_wholes {hp : HP} {b P Cn Tn : Nat} (h : Rbr hp b P Cn Tn) (v : Int32) : f_Mo_wholes hp v = some (it (whog (nd hp) P (fun c => hp 100 (1 + c) + (if v = 0 then 0 else ntm (hp 100) c Cn))) 0 Cn 0, hp) := by
  have c5 := h.1.2.1
  unfold f_Mo_wholes
  refine (for_up (fun n k s => f_Mo_wholes_L4 v (fun hp5 w4 => some (w4, hp5)) n hp s (nI k)) Cn (whog (nd hp) P (fun c => hp 100 (1 + c) + (if v = 0 then 0 else ntm (hp 100) c Cn))) (fun s => some (s, hp)) (fun _ _ => True) ?_ ?_ Cn 0 FU 0 (by omega) (FU_gt (by omega)) trivial).1
  · intro n k s hk _
    refine ⟨?_, trivial⟩
    show f_Mo_wholes_L4 v _ (n + 1) hp s (nI k) = _
    rw [f_Mo_wholes_L4, h.2.2.1.2.1, if_neg (by exact n_nle Cn k (by omega) (by omega)), n_1, if_pos (inb_n (by omega) (by omega)), cl_n (by omega)]
    unfold whog
    by_cases hv : v = 0
    · rw [if_pos hv]
      simp only [Option.bind_some, m_ps h, m_whole h.2.2.1.1, nI_1, or_0, hv, if_true]
      split <;> rfl
    · rw [if_neg hv]
      simp only [m_net h.2.2.1.2.1 c5 (show k < 5 by omega), Option.bind_some, m_ps h, m_whole h.2.2.1.1, nI_1, or_0, if_neg hv]
      split <;> rfl
  · intro n s _
    show f_Mo_wholes_L4 v _ (n + 1) hp s (nI Cn) = _
    rw [f_Mo_wholes_L4, h.2.2.1.2.1, if_pos (by exact n_le Cn Cn (by omega) (by omega))]
theorem wholes_eq {hp : HP} {P Cn : Nat} (h : Rst hp Cn) (h5 : Cn ≤ 5) (v : Int32) : it (whog (nd hp) P (fun c => hp 4 c + (if v = 0 then 0 else ntx (hp 5) c))) 0 Cn 0 = it (whog (nd hp) P (fun c => hp 100 (1 + c) + (if v = 0 then 0 else ntm (hp 100) c Cn))) 0 Cn 0 :=
  it_cong Cn 0 0 (fun j s _ hj => by simp only [whog, Rst_ba h (show j < 5 by omega), h.1.net h5 (show j < 5 by omega)])
theorem x_cleared {hp : HP} {b b' P Cn Tn : Nat} (hr : Rr hp b b') (h : Rbr hp b P Cn Tn) : f_BA_cleared hp = some (it (fun c s => if 0 ≤ ntx (hp 5) c then s else s + 1) 0 Cn 0, hp) := by
  obtain ⟨ib, eb⟩ := isB_b hr
  have c5 := h.1.2.1
  unfold f_BA_cleared
  refine (for_up (fun n k s => f_BA_cleared_L4 (fun hp5 w4 => some (w4, hp5)) n hp s (nI k)) Cn (fun c s => if 0 ≤ ntx (hp 5) c then s else s + 1) (fun s => some (s, hp)) (fun _ _ => True) ?_ ?_ Cn 0 FU 0 (by omega) (FU_gt (by omega)) trivial).1
  · intro n k s hk _
    refine ⟨?_, trivial⟩
    show f_BA_cleared_L4 _ (n + 1) hp s (nI k) = _
    rw [f_BA_cleared_L4, eb, if_pos ib, h.2.1.2.1, if_neg (by exact n_nle Cn k (by omega) (by omega)), x_netOf hp 3 (show k < 5 by omega)]
    simp only [Option.bind_some, nI_1]
    split <;> rfl
  · intro n s _
    show f_BA_cleared_L4 _ (n + 1) hp s (nI Cn) = _
    rw [f_BA_cleared_L4, eb, if_pos ib, h.2.1.2.1, if_pos (by exact n_le Cn Cn (by omega) (by omega))]
theorem m_cleared {hp : HP} {b P Cn Tn : Nat} (h : Rbr hp b P Cn Tn) : f_Mo_cleared hp = some (it (fun c s => if 0 ≤ ntm (hp 100) c Cn then s else s + 1) 0 Cn 0, hp) := by
  have c5 := h.1.2.1
  unfold f_Mo_cleared
  refine (for_up (fun n k s => f_Mo_cleared_L4 (fun hp5 w4 => some (w4, hp5)) n hp s (nI k)) Cn (fun c s => if 0 ≤ ntm (hp 100) c Cn then s else s + 1) (fun s => some (s, hp)) (fun _ _ => True) ?_ ?_ Cn 0 FU 0 (by omega) (FU_gt (by omega)) trivial).1
  · intro n k s hk _
    refine ⟨?_, trivial⟩
    show f_Mo_cleared_L4 _ (n + 1) hp s (nI k) = _
    rw [f_Mo_cleared_L4, h.2.2.1.2.1, if_neg (by exact n_nle Cn k (by omega) (by omega)), m_net h.2.2.1.2.1 c5 (show k < 5 by omega)]
    simp only [Option.bind_some, nI_1, add_00]
    split <;> rfl
  · intro n s _
    show f_Mo_cleared_L4 _ (n + 1) hp s (nI Cn) = _
    rw [f_Mo_cleared_L4, h.2.2.1.2.1, if_pos (by exact n_le Cn Cn (by omega) (by omega))]
def Rd2 (o o' : Option (Int32 × HP)) (hp : HP) : Prop := ∃ v, o = some (v, hp) ∧ o' = some (v, hp)
theorem Rd2.of {o o' : Option (Int32 × HP)} {hp : HP} {v : Int32} (h : o = some (v, hp)) (h' : o' = some (v, hp)) : Rd2 o o' hp := ⟨v, h, h'⟩
theorem Rd2.sim {hp : HP} {f g : HP → Option (Int32 × HP)} (k : Rd2 (f hp) (g hp) hp) (hR : R hp) : Sim hp f g := by
  obtain ⟨v, k1, k2⟩ := k
  exact Sim.pure v k1 k2 hR
theorem S_told {hp : HP} (h : R hp) (a : Int32) : Sim hp (fun x => f_BA_told x a) (fun x => f_Mo_told x a) := by
  have hR := h
  obtain ⟨b, b', P, Cn, Tn, hr, ⟨N, hN, t1, t2, t3⟩, hbr, hst, him, ⟨nx, ct, a1, a2, a3, a4, a5, a6⟩, hsl⟩ := h
  obtain ⟨ib, eb⟩ := isB_b hr
  obtain ⟨s, m, e, z, ⟨ls, lm, le, lz⟩, ⟨x7, x8, x9, x10⟩, ⟨y7, y8, y9, y10⟩, hs, hm, he, hz⟩ := hsl
  have c5 := hbr.1.2.1
  have key : Rd2 (f_BA_told hp a) (f_Mo_told hp a) hp := by
    unfold f_BA_told f_Mo_told
    rw [eb, if_pos ib, if_pos ib, if_pos ib, x_hats hr hbr, m_hats hbr, x_wholes hr hbr, m_wholes hbr, x_cleared hr hbr, m_cleared hbr, x_wholes hr hbr, m_wholes hbr, hats_eq hst c5, wholes_eq hst c5, wholes_eq hst c5]
    have ec : it (fun c s => if 0 ≤ ntx (hp 5) c then s else s + 1) 0 Cn (0 : Int32) = it (fun c s => if 0 ≤ ntm (hp 100) c Cn then s else s + 1) 0 Cn 0 := it_cong Cn 0 0 (fun j s _ hj => by rw [hst.1.net c5 (by omega)])
    rw [ec, hbr.2.1.1, hbr.2.1.2.1, hbr.2.1.2.2, hbr.2.2.1.1, hbr.2.2.1.2.1, hbr.2.2.1.2.2, t1, t2, hst.1.1, x7, x8, x9, x10, y7, y8, y9, y10, a4, a5]
    by_cases h0 : a = 0
    · rw [if_pos h0]; try rw [if_pos h0]
      exact Rd2.of rfl rfl
    rw [if_neg h0]; try rw [if_neg h0]
    by_cases h1 : a = 1
    · rw [if_pos h1]; try rw [if_pos h1]
      exact Rd2.of rfl rfl
    rw [if_neg h1]; try rw [if_neg h1]
    by_cases h2 : a = 2
    · rw [if_pos h2]; try rw [if_pos h2]
      exact Rd2.of rfl rfl
    rw [if_neg h2]; try rw [if_neg h2]
    by_cases h3 : a = 3
    · rw [if_pos h3]; try rw [if_pos h3]
      exact Rd2.of rfl rfl
    rw [if_neg h3]; try rw [if_neg h3]
    by_cases h4 : a = 4
    · rw [if_pos h4]; try rw [if_pos h4]
      exact Rd2.of rfl rfl
    rw [if_neg h4]; try rw [if_neg h4]
    by_cases h5 : a = 5
    · rw [if_pos h5]; try rw [if_pos h5]
      exact Rd2.of rfl rfl
    rw [if_neg h5]; try rw [if_neg h5]
    by_cases h6 : a = 6
    · rw [if_pos h6]; try rw [if_pos h6]
      exact Rd2.of rfl rfl
    rw [if_neg h6]; try rw [if_neg h6]
    by_cases h7 : a = 7
    · rw [if_pos h7]; try rw [if_pos h7]
      exact Rd2.of rfl rfl
    rw [if_neg h7]; try rw [if_neg h7]
    by_cases h8 : a = 8
    · rw [if_pos h8]; try rw [if_pos h8]
      exact Rd2.of rfl rfl
    rw [if_neg h8]; try rw [if_neg h8]
    by_cases h9 : a = 9
    · rw [if_pos h9]; try rw [if_pos h9]
      exact Rd2.of rfl rfl
    rw [if_neg h9]; try rw [if_neg h9]
    by_cases h10 : a = 10
    · rw [if_pos h10]; try rw [if_pos h10]
      exact Rd2.of rfl rfl
    rw [if_neg h10]; try rw [if_neg h10]
    by_cases h11 : a = 11
    · rw [if_pos h11]; try rw [if_pos h11]
      exact Rd2.of rfl rfl
    rw [if_neg h11]; try rw [if_neg h11]
    by_cases h12 : a = 12
    · rw [if_pos h12]; try rw [if_pos h12]
      exact Rd2.of rfl rfl
    rw [if_neg h12]; try rw [if_neg h12]
    by_cases h13 : a = 13
    · rw [if_pos h13]; try rw [if_pos h13]
      exact Rd2.of rfl rfl
    rw [if_neg h13]; try rw [if_neg h13]
    exact Rd2.of rfl rfl
  obtain ⟨v, k1, k2⟩ := key
  exact Sim.pure v k1 k2 hR
end
section
theorem n_or (a b : Nat) : nI a ||| nI b = nI (a ||| b) := by
  apply Int32.toBitVec_inj.mp
  show BitVec.ofNat 32 a ||| BitVec.ofNat 32 b = BitVec.ofNat 32 (a ||| b)
  apply BitVec.eq_of_getLsbD_eq
  intro i hi
  simp [BitVec.getLsbD_ofNat, hi]
theorem n_shl : ∀ k, k < 8 → (1 : Int32) <<< (nI k &&& 31) = nI (2 ^ k) := by decide
theorem n_shr : ∀ k, k < 8 → ((nI k &&& 31).toBitVec.smod 32).toNat = k := by decide
theorem n_bit {n k : Nat} (hn : n < 256) (hk : k < 8) : ((nI n >>> (nI k &&& 31)) &&& (1 : Int32)) = 1 ↔ n.testBit k = true := by
  rw [pk_shrN (by omega) _ k (n_shr k hk), pk_andN (k := 1) (Nat.lt_of_le_of_lt (Nat.div_le_self _ _) (by omega)) (by decide)]
  rw [Nat.testBit_eq_decide_div_mod_eq]
  have h2 : n / 2 ^ k % 2 ^ 1 < 2 := Nat.mod_lt _ (by decide)
  constructor
  · intro h
    have := (nI_eq (by omega) (by decide : 1 < 2 ^ 31)).mp (h : nI (n / 2 ^ k % 2 ^ 1) = nI 1)
    simpa using this
  · intro h
    have : n / 2 ^ k % 2 ^ 1 = 1 := by simpa using h
    rw [this]
    rfl
/-- the set of parts as a number -/
def psN (nd : Nat → Int32) (v : Int32) : Nat → Nat
  | 0 => 0
  | k + 1 => if v < nd k then psN nd v k else psN nd v k ||| 2 ^ k
theorem ps_N (nd : Nat → Int32) (v : Int32) : ∀ P, P ≤ 8 → ps nd v P = nI (psN nd v P)
  | 0, _ => rfl
  | P + 1, h => by
    unfold ps
    rw [it_succ]
    show pset nd v (0 + P) (ps nd v P) = _
    rw [ps_N nd v P (by omega), Nat.zero_add]
    unfold pset
    rw [psN, n_shl P (by omega), n_or]
    split <;> rfl
theorem psN_lt (nd : Nat → Int32) (v : Int32) : ∀ P, psN nd v P < 2 ^ P
  | 0 => Nat.lt_succ_self 0
  | P + 1 => by
    have := psN_lt nd v P
    rw [psN]
    split
    · rw [Nat.pow_succ]; omega
    · exact Nat.or_lt_two_pow (by rw [Nat.pow_succ]; omega) (by rw [Nat.pow_succ]; have := Nat.two_pow_pos P; omega)
theorem psN_bit (nd : Nat → Int32) (v : Int32) : ∀ P k, (psN nd v P).testBit k = true ↔ k < P ∧ ¬ v < nd k
  | 0, k => by simp [psN]
  | P + 1, k => by
    have ih := psN_bit nd v P k
    rw [psN]
    split
    · rename_i h
      rw [ih]
      constructor
      · rintro ⟨h1, h2⟩; exact ⟨by omega, h2⟩
      · rintro ⟨h1, h2⟩
        refine ⟨?_, h2⟩
        rcases Nat.lt_or_ge k P with q | q
        · exact q
        · have : k = P := by omega
          subst this
          exact absurd h h2
    · rename_i h
      rw [Nat.testBit_or, Bool.or_eq_true, ih, Nat.testBit_two_pow]
      constructor
      · rintro (⟨h1, h2⟩ | h1)
        · exact ⟨by omega, h2⟩
        · have : P = k := by simpa using h1
          subst this
          exact ⟨by omega, h⟩
      · rintro ⟨h1, h2⟩
        rcases Nat.lt_or_ge k P with q | q
        · exact Or.inl ⟨q, h2⟩
        · exact Or.inr (by simp; omega)
theorem an0 (n S : Nat) : (nI n &&& (nI S ^^^ (-1 : Int32))) = 0 ↔ ∀ k, k < 32 → n.testBit k = true → S.testBit k = true := by
  rw [← Int32.toBitVec_inj]
  have e : (nI n &&& (nI S ^^^ (-1 : Int32))).toBitVec = BitVec.ofNat 32 n &&& (BitVec.ofNat 32 S ^^^ BitVec.allOnes 32) := rfl
  rw [e]
  have g : ∀ i, i < 32 → BitVec.getLsbD (BitVec.ofNat 32 n &&& (BitVec.ofNat 32 S ^^^ BitVec.allOnes 32)) i = (n.testBit i && !(S.testBit i)) := by
    intro i hi
    rw [BitVec.getLsbD_and, BitVec.getLsbD_xor, BitVec.getLsbD_ofNat, BitVec.getLsbD_ofNat, BitVec.getLsbD_allOnes, decide_eq_true hi]
    simp
  constructor
  · intro h k hk hb
    have h2 := g k hk
    rw [h, hb] at h2
    cases hS : S.testBit k with
    | true => rfl
    | false =>
      rw [hS] at h2
      have h3 : BitVec.getLsbD (0 : Int32).toBitVec k = false := by
        show BitVec.getLsbD (0#32) k = false
        simp
      rw [h3] at h2
      cases h2
  · intro h
    apply BitVec.eq_of_getLsbD_eq
    intro i hi
    rw [g i hi]
    have h3 : BitVec.getLsbD (0 : Int32).toBitVec i = false := by
      show BitVec.getLsbD (0#32) i = false
      simp
    rw [h3]
    cases hn : n.testBit i with
    | false => rfl
    | true => rw [h i hi hn]; rfl
/-- all parts of n are there by the balance -/
def dnb (nd : Nat → Int32) (n P : Nat) (v : Int32) : Bool := (List.range P).all (fun k => !(n.testBit k) || !(decide (v < nd k)))
theorem dnb_iff (nd : Nat → Int32) (n P : Nat) (v : Int32) : dnb nd n P v = true ↔ ∀ k, k < P → n.testBit k = true → ¬ v < nd k := by
  unfold dnb
  simp only [List.all_eq_true, List.mem_range, Bool.or_eq_true, Bool.not_eq_true', decide_eq_false_iff_not]
  constructor
  · intro h k hk hb
    rcases h k hk with h1 | h1
    · rw [hb] at h1; cases h1
    · exact h1
  · intro h k hk
    cases hb : n.testBit k with
    | false => exact Or.inl rfl
    | true => exact Or.inr (h k hk hb)
def zi (c : Bool) : Int32 := if c = true then 1 else 0
theorem pow8 {P : Nat} (h : P ≤ 8) : 2 ^ P ≤ 256 := by
  have := Nat.pow_le_pow_right (n := 2) (by decide) h
  simpa using this
theorem can_m {nd : Nat → Int32} {v : Int32} {n P : Nat} (hP : P ≤ 8) (hn : n < 2 ^ P) : ((nI n &&& (ps nd v P ^^^ (-1 : Int32))) = 0) ↔ dnb nd n P v = true := by
  rw [ps_N nd v P hP, an0, dnb_iff]
  constructor
  · intro h k hk hb
    exact ((psN_bit nd v P k).mp (h k (by omega) hb)).2
  · intro h k _ hb
    have hkP : k < P := by
      rcases Nat.lt_or_ge k P with q | q
      · exact q
      · exact absurd (Nat.testBit_lt_two_pow (Nat.lt_of_lt_of_le hn (Nat.pow_le_pow_right (by decide) q))) (by rw [hb]; decide)
    exact (psN_bit nd v P k).mpr ⟨hkP, h k hkP hb⟩
def needg (nd : Nat → Int32) (tk : Int32) : Nat → Int32 → Int32 := fun k s => if ((tk >>> (nI k &&& 31)) &&& (1 : Int32)) = 1 then mx s (nd k) else s
theorem needg_le {nd : Nat → Int32} {n : Nat} (hn : n < 256) (v : Int32) (s0 : Int32) : ∀ P, P ≤ 8 → (¬ v < it (needg nd (nI n)) 0 P s0 ↔ ¬ v < s0 ∧ ∀ k, k < P → n.testBit k = true → ¬ v < nd k)
  | 0, _ => by
    show ¬ v < s0 ↔ _
    constructor
    · intro h; exact ⟨h, fun k hk => by omega⟩
    · intro h; exact h.1
  | P + 1, h => by
    rw [it_succ, Nat.zero_add]
    have ih := needg_le (nd := nd) hn v s0 P (by omega)
    have hb := n_bit (n := n) (k := P) hn (by omega)
    show ¬ v < needg nd (nI n) P _ ↔ _
    unfold needg
    by_cases hB : n.testBit P = true
    · rw [if_pos (hb.mpr hB)]
      have e : ∀ a b : Int32, (¬ v < mx a b) ↔ (¬ v < a ∧ ¬ v < b) := fun a b => by rw [lt_i, lt_i, lt_i, mx_i]; omega
      rw [e]
      change ¬ v < it (needg nd (nI n)) 0 P s0 ∧ _ ↔ _
      rw [ih]
      constructor
      · rintro ⟨⟨h1, h2⟩, h3⟩
        refine ⟨h1, fun k hk hk2 => ?_⟩
        rcases Nat.lt_or_ge k P with q | q
        · exact h2 k q hk2
        · have : k = P := by omega
          subst this
          exact h3
      · rintro ⟨h1, h2⟩
        exact ⟨⟨h1, fun k hk => h2 k (by omega)⟩, h2 P (by omega) hB⟩
    · rw [if_neg (fun h => hB (hb.mp h))]
      change ¬ v < it (needg nd (nI n)) 0 P s0 ↔ _
      rw [ih]
      constructor
      · rintro ⟨h1, h2⟩
        refine ⟨h1, fun k hk hk2 => ?_⟩
        rcases Nat.lt_or_ge k P with q | q
        · exact h2 k q hk2
        · have : k = P := by omega
          subst this
          exact absurd hk2 hB
      · rintro ⟨h1, h2⟩
        exact ⟨h1, fun k hk => h2 k (by omega)⟩
def tkn (hp : HP) (t : Nat) : Nat := (hp 105 t).toNatClampNeg
theorem tkn_eq {hp : HP} {b P Cn Tn : Nat} (h : Rbr hp b P Cn Tn) {t : Nat} (ht : t < Tn) : tkn hp t < 2 ^ P ∧ hp 105 t = nI (tkn hp t) ∧ hp (b + 5) t = nI (tkn hp t) := by
  obtain ⟨h1, n, hn, h2⟩ := h.2.2.2.2.2 t ht
  have h8 := pow8 h.1.1
  unfold tkn
  rw [h1, h2, nI_clamp (by omega)]
  exact ⟨hn, rfl, rfl⟩
theorem x_needOf {hp : HP} {b P Cn Tn : Nat} (h : Rbr hp b P Cn Tn) {t : Nat} (ht : t < Tn) : f_Br_needOf hp b (nI t) = some (it (needg (nd hp) (nI (tkn hp t))) 0 P (-100000), hp) := by
  have p8 := h.1.1
  have t6 := h.1.2.2
  unfold f_Br_needOf
  refine (for_up (fun n k s => f_Br_needOf_L5 b (nI t) (fun hp5 w4 => some (w4, hp5)) n hp s (nI k)) P (needg (nd hp) (nI (tkn hp t))) (fun s => some (s, hp)) (fun _ _ => True) ?_ ?_ P 0 FU (-100000) (by omega) (FU_gt (by omega)) trivial).1
  · intro n k s hk _
    refine ⟨?_, trivial⟩
    show f_Br_needOf_L5 b (nI t) _ (n + 1) hp s (nI k) = _
    rw [f_Br_needOf_L5, h.2.1.1, if_neg (by exact n_nle P k (by omega) (by omega)), if_pos (inb_n (by omega) (by omega)), cl_n (by omega), (tkn_eq h ht).2.2]
    unfold needg
    split
    · rw [if_pos (inb_n (by omega) (by omega)), cl_n (by omega), (h.2.2.2.1 k hk).1, nI_1]; rfl
    · rw [nI_1]
  · intro n s _
    show f_Br_needOf_L5 b (nI t) _ (n + 1) hp s (nI P) = _
    rw [f_Br_needOf_L5, h.2.1.1, if_pos (by exact n_le P P (by omega) (by omega))]
theorem x_do {hp : HP} {b P Cn Tn : Nat} (h : Rbr hp b P Cn Tn) {t : Nat} (ht : t < Tn) {v : Int32} (hv : -100000 ≤ v.toInt) : f_Br_isDoable hp b (nI t) v = some (zi (dnb (nd hp) (tkn hp t) P v), hp) := by
  unfold f_Br_isDoable
  rw [x_needOf h ht]
  simp only [Option.bind_some]
  have p8 := h.1.1
  have hb := needg_le (nd := nd hp) (n := tkn hp t) (by have := pow8 p8; have := (tkn_eq h ht).1; omega) v (-100000) P p8
  have h0 : ¬ v < (-100000 : Int32) := by rw [lt_i]; have : (-100000 : Int32).toInt = -100000 := rfl; omega
  unfold zi
  by_cases hd : dnb (nd hp) (tkn hp t) P v = true
  · rw [if_pos hd, if_neg (hb.mpr ⟨h0, (dnb_iff _ _ _ _).mp hd⟩)]
  · rw [if_neg hd, if_pos (Classical.not_not.mp (fun hn => hd ((dnb_iff _ _ _ _).mpr (hb.mp hn).2)))]
theorem m_do {hp : HP} {b P Cn Tn : Nat} (h : Rbr hp b P Cn Tn) {t : Nat} (ht : t < Tn) (v : Int32) : f_Mo_canBy hp v (nI t) = some (zi (dnb (nd hp) (tkn hp t) P v), hp) := by
  have t6 := h.1.2.2
  unfold f_Mo_canBy
  rw [if_pos (inb_n (by omega) (by decide)), cl_n (by omega), m_ps h, (tkn_eq h ht).2.1]
  simp only [Option.bind_some]
  have hc := can_m (nd := nd hp) (v := v) h.1.1 (tkn_eq h ht).1
  unfold zi
  by_cases hd : dnb (nd hp) (tkn hp t) P v = true
  · rw [if_pos hd, if_pos (hc.mpr hd)]
  · rw [if_neg hd, if_neg (fun q => hd (hc.mp q))]
theorem dnb_cla {hp : HP} {b P Cn Tn : Nat} (h : Rbr hp b P Cn Tn) (n : Nat) (v : Int32) : dnb (nd hp) n P (cla v) = dnb (nd hp) n P v := by
  have hr := nd_rg h
  have e : dnb (nd hp) n P (cla v) = true ↔ dnb (nd hp) n P v = true := by
    rw [dnb_iff, dnb_iff]
    constructor
    · intro q k hk hb hl
      refine q k hk hb ?_
      have := hr k hk
      rw [lt_i, cla_i]; rw [lt_i] at hl; omega
    · intro q k hk hb hl
      refine q k hk hb ?_
      have := hr k hk
      rw [lt_i, cla_i] at hl; rw [lt_i]; omega
  cases h1 : dnb (nd hp) n P v with
  | true => exact e.mpr h1
  | false =>
    cases h2 : dnb (nd hp) n P (cla v) with
    | false => rfl
    | true => rw [e.mp h2] at h1; cases h1
theorem zi_0 (c : Bool) : (zi c = 0) ↔ c = false := by cases c <;> decide
theorem zi_ite (c : Bool) {α : Type} (x y : α) : (if zi c = 0 then x else y) = if c = true then y else x := by cases c <;> rfl
theorem S_can {hp : HP} (h : R hp) (a t : Int32) : Sim hp (fun x => f_BA_can x a t) (fun x => f_Mo_can x a t) := by
  have hR := h
  obtain ⟨b, b', P, Cn, Tn, hr, htx, hbr, hst, him, hpa, hsl⟩ := h
  obtain ⟨ib, eb⟩ := isB_b hr
  have c5 := hbr.1.2.1
  have t6 := hbr.1.2.2
  rcases wi_n a (N := Cn) (by omega) with e1 | ⟨c, hc, rfl, e1⟩
  · refine Sim.pure (-1000000001) ?_ ?_ hR
    · simp only [f_BA_can, eb, ib, x_hasC hbr.2.1.2.1, e1, Option.bind_some, if_true]
    · simp only [f_Mo_can, m_isC hbr.2.2.1.2.1, e1, Option.bind_some, if_true]
  · rcases wi_n t (N := Tn) (by omega) with e2 | ⟨t, ht, rfl, e2⟩
    · refine Sim.pure (-1000000001) ?_ ?_ hR
      · simp only [f_BA_can, eb, ib, x_hasC hbr.2.1.2.1, e1, x_hasT hbr.2.1.2.2, e2, Option.bind_some, if_true]
        rw [if_neg (by decide)]
      · simp only [f_Mo_can, m_isC hbr.2.2.1.2.1, e1, m_isT hbr.2.2.1.2.2, e2, Option.bind_some, if_true]
        rw [if_neg (by decide)]
    · have hba := hst.1.2.1 c (by omega)
      refine Sim.pure (zi (dnb (nd hp) (tkn hp t) P (hp 4 c))) ?_ ?_ hR
      · simp only [f_BA_can, eb, ib, x_hasC hbr.2.1.2.1, e1, x_hasT hbr.2.1.2.2, e2, Option.bind_some, if_true]
        rw [if_neg (by decide), if_neg (by decide), if_pos (inb_n (by omega) (by omega)), cl_n (by omega), x_do hbr ht (by omega)]
        simp only [Option.bind_some, zi_ite]
        unfold zi
        split <;> rfl
      · simp only [f_Mo_can, m_isC hbr.2.2.1.2.1, e1, m_isT hbr.2.2.1.2.2, e2, Option.bind_some]
        rw [if_neg (by decide), if_neg (by decide), n_1, if_pos (inb_n (by omega) (by omega)), cl_n (by omega), m_do hbr ht, ← Rst_ba hst (by omega)]
        simp only [Option.bind_some, zi_ite]
        unfold zi
        split <;> rfl
end
section
theorem one_ne : ¬ ((1 : Int32) = 0) := by decide
theorem ite_sv {c : Prop} {_ : Decidable c} {r : Int32} {hp : HP} {v : Option (Int32 × HP)} (h : (if c then some (some (r, hp)) else none) = some v) : ∃ r, v = some (r, hp) := by
  by_cases q : c
  · rw [if_pos q] at h; exact ⟨_, (Option.some.inj h).symm⟩
  · rw [if_neg q] at h; cases h
def two (a d : Int32) (Cn : Nat) : Int32 := if wi a 0 (nI Cn - 1) = 0 then 0 else if wi d 0 (nI Cn - 1) = 0 then 0 else if a = d then 0 else 1
theorem x_areTwo {hp : HP} {b b' P Cn Tn : Nat} (hr : Rr hp b b') (h : Rbr hp b P Cn Tn) (a d : Int32) : f_BA_areTwo hp a d = some (two a d Cn, hp) := by
  obtain ⟨ib, eb⟩ := isB_b hr
  simp only [f_BA_areTwo, eb, ib, x_hasC h.2.1.2.1, Option.bind_some, if_true, two]
  split
  · rfl
  · split
    · rfl
    · split <;> rfl
theorem m_areTwo {hp : HP} {b P Cn Tn : Nat} (h : Rbr hp b P Cn Tn) (a d : Int32) : f_Mo_areTwo hp a d = some (two a d Cn, hp) := by
  simp only [f_Mo_areTwo, m_isC h.2.2.1.2.1, Option.bind_some, two]
  split
  · rfl
  · split
    · rfl
    · split <;> rfl
theorem two_c (a d : Int32) {Cn : Nat} (h : Cn ≤ 5) : two a d Cn = 0 ∨ ∃ c e, c < Cn ∧ e < Cn ∧ c ≠ e ∧ a = nI c ∧ d = nI e ∧ two a d Cn = 1 := by
  unfold two
  rcases wi_n a (N := Cn) (by omega) with e1 | ⟨c, hc, ha, e1⟩
  · rw [if_pos e1]; exact Or.inl rfl
  · rw [if_neg (by rw [e1]; decide)]
    rcases wi_n d (N := Cn) (by omega) with e2 | ⟨e, he, hd, e2⟩
    · rw [if_pos e2]; exact Or.inl rfl
    · rw [if_neg (by rw [e2]; decide)]
      by_cases hh : a = d
      · rw [if_pos hh]; exact Or.inl rfl
      · rw [if_neg hh]
        exact Or.inr ⟨c, e, hc, he, fun q => hh (by rw [ha, hd, q]), ha, hd, rfl⟩
theorem Rst_de {hp : HP} {Cn : Nat} (h : Rst hp Cn) {c d : Nat} (hc : c < 5) (hd : d < 5) : hp 5 (c * 5 + d) = hp 100 (6 + 5 * c + d) := by
  have := h.1.2.2.1 (c * 5 + d) (by omega)
  rw [this, show 0 + 6 + (c * 5 + d) = 6 + 5 * c + d by omega]
theorem S_owes {hp : HP} (h : R hp) (a d : Int32) : Sim hp (fun x => f_BA_owes x a d) (fun x => f_Mo_owes x a d) := by
  have hR := h
  obtain ⟨b, b', P, Cn, Tn, hr, htx, hbr, hst, him, hpa, hsl⟩ := h
  have c5 := hbr.1.2.1
  rcases two_c a d c5 with e | ⟨c, e, hc, he, hne, rfl, rfl, e1⟩
  · refine Sim.pure (-1000000001) ?_ ?_ hR
    · simp only [f_BA_owes, x_areTwo hr hbr, e, Option.bind_some, if_true]
    · simp only [f_Mo_owes, m_areTwo hbr, e, Option.bind_some, if_true]
  · refine Sim.pure (hp 5 (c * 5 + e) + 100000) ?_ ?_ hR
    · simp only [f_BA_owes, x_areTwo hr hbr, e1, Option.bind_some]
      rw [if_neg (by decide), x_debt hp 3 (by omega) (by omega)]
      rfl
    · simp only [f_Mo_owes, m_areTwo hbr, e1, Option.bind_some]
      rw [if_neg (by decide), n_65, if_pos (inb_n (by omega) (by omega)), cl_n (by omega), Rst_de hst (by omega) (by omega)]
theorem S_customer {hp : HP} (h : R hp) (a w : Int32) : Sim hp (fun x => f_BA_customer x a w) (fun x => f_Mo_customer x a w) := by
  have hR := h
  obtain ⟨b, b', P, Cn, Tn, hr, htx, hbr, hst, him, hpa, hsl⟩ := h
  obtain ⟨ib, eb⟩ := isB_b hr
  have c5 := hbr.1.2.1
  rcases wi_n a (N := Cn) (by omega) with e1 | ⟨c, hc, rfl, e1⟩
  · refine Sim.pure (-1000000001) ?_ ?_ hR
    · simp only [f_BA_customer, eb, ib, x_hasC hbr.2.1.2.1, e1, Option.bind_some, if_true]
    · simp only [f_Mo_customer, m_isC hbr.2.2.1.2.1, e1, Option.bind_some, if_true]
  · refine Rd2.sim ?_ hR
    simp only [f_BA_customer, f_Mo_customer, eb, ib, x_hasC hbr.2.1.2.1, m_isC hbr.2.2.1.2.1, e1, Option.bind_some, if_true, if_neg one_ne]
    rw [if_pos (inb_n (by omega) (by omega)), cl_n (by omega), n_1, if_pos (inb_n (by omega) (by omega)), cl_n (by omega), x_ps hbr, m_thereOf hbr (by omega), x_netOf hp 3 (by omega), m_net hbr.2.2.1.2.1 c5 (by omega), hst.1.net c5 (by omega), Rst_ba hst (by omega)]
    simp only [Option.bind_some, inb_n (show c < 5 by omega) (show 5 < 2 ^ 31 by decide), inb_n (show 1 + c < 736 by omega) (show 736 < 2 ^ 31 by decide), if_true]
    rw [(hbr.2.2.2.2.1 c hc).1, (hbr.2.2.2.2.1 c hc).2.1]
    by_cases h0 : w = 0
    · rw [if_pos h0]; try rw [if_pos h0]
      exact Rd2.of rfl rfl
    rw [if_neg h0]; try rw [if_neg h0]
    by_cases h1 : w = 1
    · rw [if_pos h1]; try rw [if_pos h1]
      exact Rd2.of rfl rfl
    rw [if_neg h1]; try rw [if_neg h1]
    by_cases h2 : w = 2
    · rw [if_pos h2]; try rw [if_pos h2]
      exact Rd2.of rfl rfl
    rw [if_neg h2]; try rw [if_neg h2]
    by_cases h3 : w = 3
    · rw [if_pos h3]; try rw [if_pos h3]
      exact Rd2.of rfl rfl
    rw [if_neg h3]; try rw [if_neg h3]
    by_cases h4 : w = 4
    · rw [if_pos h4]; try rw [if_pos h4]
      exact Rd2.of rfl rfl
    rw [if_neg h4]; try rw [if_neg h4]
    exact Rd2.of rfl rfl
theorem sub_eq_iff32 (w y z : Int32) : w = y - z ↔ w + z = y := by
  constructor
  · intro h; rw [h, sac]
  · intro h; rw [← h]; simp
theorem S_judge {hp : HP} (h : R hp) : Sim hp (fun x => f_BA_judge x) (fun x => f_Mo_judge x) := by
  have hR := h
  obtain ⟨b, b', P, Cn, Tn, hr, htx, hbr, hst, him, hpa, hsl⟩ := h
  obtain ⟨ib, eb⟩ := isB_b hr
  have c5 := hbr.1.2.1
  obtain ⟨s, m, e, z, ⟨ls, lm, le, lz⟩, ⟨x7, x8, x9, x10⟩, ⟨y7, y8, y9, y10⟩, hs, hm, he, hz⟩ := hsl
  have hx : f_BA_judge hp = itx (fun k (_ : Unit) => if hp 4 (hp 116 k).toNatClampNeg = hp 75 k then none else some (some (nI k, hp))) (fun _ u => u) (fun _ => some (-1, hp)) 0 z () := by
    unfold f_BA_judge
    refine for_ex (fun n k (_ : Unit) => f_BA_judge_L2 (fun hp9 => some (-1, hp9)) n hp (nI k)) z _ _ _ (fun _ _ => True) ?_ ?_ z 0 FU () (by omega) (FU_gt (by omega)) trivial
    · intro n k _ hk _
      refine ⟨?_, fun _ => trivial⟩
      obtain ⟨z1, z2, ⟨c, hc, z3⟩, z4, z5⟩ := hz k hk
      show f_BA_judge_L2 _ (n + 1) hp (nI k) = _
      rw [f_BA_judge_L2, x10, if_neg (by exact n_nle z k (by omega) (by omega)), if_pos (inb_n (by omega) (by omega)), eb, if_pos ib, cl_n (by omega), z1, z3, x_hasC hbr.2.1.2.1, wi_in (by omega) hc]
      simp only [Option.bind_some]
      rw [if_neg (by decide), if_pos (inb_n (by omega) (by omega)), cl_n (by omega)]
      split
      · rw [nI_1]
      · rfl
    · intro n _ _
      show f_BA_judge_L2 _ (n + 1) hp (nI z) = _
      rw [f_BA_judge_L2, x10, if_pos (by exact n_le z z (by omega) (by omega))]
  have hm : f_Mo_judge hp = itx (fun k (_ : Unit) => if hp 4 (hp 116 k).toNatClampNeg = hp 75 k then none else some (some (nI k, hp))) (fun _ u => u) (fun _ => some (-1, hp)) 0 z () := by
    unfold f_Mo_judge
    refine for_ex (fun n k (_ : Unit) => f_Mo_judge_L2 (fun hp9 => some (-1, hp9)) n hp (nI k)) z _ _ _ (fun _ _ => True) ?_ ?_ z 0 FU () (by omega) (FU_gt (by omega)) trivial
    · intro n k _ hk _
      refine ⟨?_, fun _ => trivial⟩
      obtain ⟨z1, z2, ⟨c, hc, z3⟩, z4, z5⟩ := hz k hk
      show f_Mo_judge_L2 _ (n + 1) hp (nI k) = _
      rw [f_Mo_judge_L2, y10, if_neg (by exact n_nle z k (by omega) (by omega)), if_pos (inb_n (by omega) (by omega)), cl_n (by omega), z3, n_1, if_pos (inb_n (by omega) (by omega)), cl_n (by omega), cl_n (by omega), z2, Rst_ba hst (by omega)]
      by_cases hh : hp 100 (1 + c) + 10000 = hp 117 k
      · rw [if_pos hh, if_pos ((sub_eq_iff32 _ _ _).mpr hh), nI_1]
      · rw [if_neg hh, if_neg (fun q => hh ((sub_eq_iff32 _ _ _).mp q))]
    · intro n _ _
      show f_Mo_judge_L2 _ (n + 1) hp (nI z) = _
      rw [f_Mo_judge_L2, y10, if_pos (by exact n_le z z (by omega) (by omega))]
  have hv : ∀ d k, ∃ v, itx (fun k (_ : Unit) => if hp 4 (hp 116 k).toNatClampNeg = hp 75 k then none else some (some (nI k, hp))) (fun _ u => u) (fun _ => some ((-1 : Int32), hp)) k d () = some (v, hp) := by
    intro d
    induction d with
    | zero => intro k; exact ⟨_, rfl⟩
    | succ d ih =>
      intro k
      unfold itx
      by_cases hh : hp 4 (hp 116 k).toNatClampNeg = hp 75 k
      · rw [if_pos hh]; exact ih (k + 1)
      · rw [if_neg hh]; exact ⟨_, rfl⟩
  obtain ⟨v, hv⟩ := hv z 0
  exact Sim.pure v (hx.trans hv) (hm.trans hv) hR
theorem S_wage {hp : HP} (h : R hp) (a q : Int32) : Sim hp (fun x => f_BA_wage x a q) (fun x => f_Mo_wage x a q) := by
  rcases @wi_lit a 0 60 with ⟨e0, -⟩ | ⟨e0, h1, h2⟩
  · refine Sim.pure (-1000000002) ?_ ?_ h
    · simp only [f_BA_wage, x_within, e0, Option.bind_some, if_true]
    · simp only [f_Mo_wage, m_in hp a 0 60 (A := 0) (B := 60) rfl rfl, e0, Option.bind_some, if_true]
  · rcases @wi_lit q 0 100 with ⟨e1, -⟩ | ⟨e1, -, -⟩
    · refine Sim.pure (-1000000002) ?_ ?_ h
      · simp only [f_BA_wage, x_within, e0, e1, Option.bind_some, if_true]
        rw [if_neg (by decide)]
      · simp only [f_Mo_wage, m_in hp a 0 60 (A := 0) (B := 60) rfl rfl, m_in hp q 0 100 (A := 0) (B := 100) rfl rfl, e0, e1, Option.bind_some, if_true]
        rw [if_neg (by decide)]
    · obtain ⟨n, hn, rfl⟩ := of_rg (x := a) (n := 61) h1 (by have : (60 : Int32).toInt = 60 := rfl; omega)
      refine Sim.pure (it (fun _ x3 => (x3 * (((100 : Int32) - q)).toInt64) / (100 : Int64)) 0 n (1000000000 : Int64)).toInt32 ?_ ?_ h
      · simp only [f_BA_wage, x_within, e0, e1, Option.bind_some]
        rw [if_neg (by decide), if_neg (by decide)]
        refine (for_up (fun m k s => f_BA_wage_L30 (nI n) q (fun hp9 w8 => some ((w8).toInt32, hp9)) m hp s (nI k)) n _ (fun s => some (s.toInt32, hp)) (fun _ _ => True) ?_ ?_ n 0 FU _ (by omega) (FU_gt (by omega)) trivial).1
        · intro m k s hk _
          refine ⟨?_, trivial⟩
          show f_BA_wage_L30 _ q _ (m + 1) hp s (nI k) = _
          rw [f_BA_wage_L30, if_neg (by exact n_nle n k (by omega) (by omega)), nI_1]
        · intro m s _
          show f_BA_wage_L30 _ q _ (m + 1) hp s (nI n) = _
          rw [f_BA_wage_L30, if_pos (by exact n_le n n (by omega) (by omega))]
      · simp only [f_Mo_wage, m_in hp (nI n) 0 60 (A := 0) (B := 60) rfl rfl, m_in hp q 0 100 (A := 0) (B := 100) rfl rfl, e0, e1, Option.bind_some]
        rw [if_neg (by decide), if_neg (by decide)]
        refine (for_up (fun m k s => f_Mo_wage_L34 (nI n) q (fun hp9 w8 => some ((w8).toInt32, hp9)) m hp s (nI k)) n _ (fun s => some (s.toInt32, hp)) (fun _ _ => True) ?_ ?_ n 0 FU _ (by omega) (FU_gt (by omega)) trivial).1
        · intro m k s hk _
          refine ⟨?_, trivial⟩
          show f_Mo_wage_L34 _ q _ (m + 1) hp s (nI k) = _
          rw [f_Mo_wage_L34, if_neg (by exact n_nle n k (by omega) (by omega)), nI_1]
        · intro m s _
          show f_Mo_wage_L34 _ q _ (m + 1) hp s (nI n) = _
          rw [f_Mo_wage_L34, if_pos (by exact n_le n n (by omega) (by omega))]
/-- a balance behind a month -/
def am (hp : HP) (c : Nat) (v : Int32) : Int32 := cla (cla (v + hp 103 c) - hp 104 c)
theorem am_rg (hp : HP) (c : Nat) (v : Int32) : -9999 ≤ (am hp c v).toInt ∧ (am hp c v).toInt ≤ 9999 := by unfold am; rw [cla_i]; omega
theorem x_am {hp : HP} {b P Cn Tn : Nat} (h : Rbr hp b P Cn Tn) {c : Nat} (hc : c < Cn) (v : Int32) : f_Br_afterMonth hp b (nI c) v = some (am hp c v, hp) := by
  have c5 := h.1.2.1
  unfold f_Br_afterMonth
  rw [if_pos (inb_n (by omega) (by omega)), cl_n (by omega), (h.2.2.2.2.1 c hc).1]
  simp only [x_bounded, Option.bind_some, (h.2.2.2.2.1 c hc).2.1]
  rfl
theorem m_am {hp : HP} {b P Cn Tn : Nat} (h : Rbr hp b P Cn Tn) {c : Nat} (hc : c < Cn) (v : Int32) : f_Mo_behindMonth hp (nI c) v = some (am hp c v, hp) := by
  have c5 := h.1.2.1
  unfold f_Mo_behindMonth
  rw [if_pos (inb_n (by omega) (by omega)), cl_n (by omega)]
  simp only [m_bounded, Option.bind_some]
  rfl
theorem itx_val {α : Type} {ex : Nat → α → Option (Option (Int32 × HP))} {g : Nat → α → α} {fin : α → Option (Int32 × HP)} {hp : HP} (h1 : ∀ k s v, ex k s = some v → ∃ r, v = some (r, hp)) (h2 : ∀ s, ∃ r, fin s = some (r, hp)) : ∀ d k s, ∃ r, itx ex g fin k d s = some (r, hp) := by
  intro d
  induction d with
  | zero => intro k s; exact h2 s
  | succ d ih =>
    intro k s
    unfold itx
    cases hx : ex k s with
    | some v => obtain ⟨r, hr⟩ := h1 k s v hx; exact ⟨r, hr⟩
    | none => exact ih (k + 1) (g k s)
theorem S_hat {hp : HP} (h : R hp) (a : Int32) : Sim hp (fun x => f_BA_hat x a) (fun x => f_Mo_hat x a) := by
  have hR := h
  obtain ⟨b, b', P, Cn, Tn, hr, htx, hbr, hst, him, hpa, hsl⟩ := h
  obtain ⟨ib, eb⟩ := isB_b hr
  have c5 := hbr.1.2.1
  rcases wi_n a (N := Cn) (by omega) with e1 | ⟨c, hc, rfl, e1⟩
  · refine Sim.pure (-1000000001) ?_ ?_ hR
    · simp only [f_BA_hat, eb, ib, x_hasC hbr.2.1.2.1, e1, Option.bind_some, if_true]
    · simp only [f_Mo_hat, m_isC hbr.2.2.1.2.1, e1, Option.bind_some, if_true]
  · obtain ⟨v, hv⟩ := itx_val (ex := fun k s => if ps (nd hp) s P = 0 then some (some (nI k, hp)) else none) (g := fun _ s => am hp c s) (fin := fun _ => some (-1, hp)) (hp := hp) (fun k s v hv => ite_sv hv) (fun _ => ⟨_, rfl⟩) 201 0 (hp 4 c)
    refine Sim.pure v ?_ ?_ hR
    · simp only [f_BA_hat, eb, ib, x_hasC hbr.2.1.2.1, e1, Option.bind_some, if_true]
      rw [if_neg (by decide), if_pos (inb_n (by omega) (by omega)), cl_n (by omega), ← hv]
      refine for_ex (fun n k s => f_BA_hat_L26 (nI c) (fun hp14 => some (-1, hp14)) n hp s (nI k)) 201 _ _ _ (fun _ _ => True) ?_ ?_ 201 0 FU _ (by omega) (FU_gt (by omega)) trivial
      · intro n k s hk _
        refine ⟨?_, fun _ => trivial⟩
        show f_BA_hat_L26 _ _ (n + 1) hp s (nI k) = _
        rw [f_BA_hat_L26, if_neg (by exact n_nlt 200 k (by omega) (by omega)), eb, if_pos ib, x_ps hbr]
        simp only [Option.bind_some, eb, ib, if_true, x_am hbr hc, nI_1]
        by_cases q : ps (nd hp) s P = 0
        · rw [if_pos q, if_pos q]
        · rw [if_neg q, if_neg q]
      · intro n s _
        show f_BA_hat_L26 _ _ (n + 1) hp s (nI 201) = _
        rw [f_BA_hat_L26, if_pos (by exact n_lt 200 201 (by omega) (by omega))]
    · simp only [f_Mo_hat, m_isC hbr.2.2.1.2.1, e1, Option.bind_some]
      rw [if_neg (by decide), n_1, if_pos (inb_n (by omega) (by omega)), cl_n (by omega), ← hv, ← Rst_ba hst (by omega)]
      refine for_ex (fun n k s => f_Mo_hat_L22 (nI c) (fun hp14 => some (-1, hp14)) n hp s (nI k)) 201 _ _ _ (fun _ _ => True) ?_ ?_ 201 0 FU _ (by omega) (FU_gt (by omega)) trivial
      · intro n k s hk _
        refine ⟨?_, fun _ => trivial⟩
        show f_Mo_hat_L22 _ _ (n + 1) hp s (nI k) = _
        rw [f_Mo_hat_L22, if_neg (by exact n_nlt 200 k (by omega) (by omega)), m_ps hbr]
        simp only [Option.bind_some, m_am hbr hc, nI_1]
        by_cases q : ps (nd hp) s P = 0
        · rw [if_pos q, if_pos q]
        · rw [if_neg q, if_neg q]
      · intro n s _
        show f_Mo_hat_L22 _ _ (n + 1) hp s (nI 201) = _
        rw [f_Mo_hat_L22, if_pos (by exact n_lt 200 201 (by omega) (by omega))]
end
section
def ableg (hp : HP) (c t P : Nat) : Nat → Int32 × Int32 → Int32 × Int32 := fun _ s => (am hp c s.1, if dnb (nd hp) (tkn hp t) P s.1 = true then s.2 + 1 else s.2)
theorem S_able {hp : HP} (h : R hp) (a t n : Int32) : Sim hp (fun x => f_BA_able x a t n) (fun x => f_Mo_able x a t n) := by
  have hR := h
  obtain ⟨b, b', P, Cn, Tn, hr, htx, hbr, hst, him, hpa, hsl⟩ := h
  obtain ⟨ib, eb⟩ := isB_b hr
  have c5 := hbr.1.2.1
  have t6 := hbr.1.2.2
  rcases wi_n a (N := Cn) (by omega) with e1 | ⟨c, hc, rfl, e1⟩
  · refine Sim.pure (-1000000001) ?_ ?_ hR
    · simp only [f_BA_able, eb, ib, x_hasC hbr.2.1.2.1, e1, Option.bind_some, if_true]
    · simp only [f_Mo_able, m_isC hbr.2.2.1.2.1, e1, Option.bind_some, if_true]
  · rcases wi_n t (N := Tn) (by omega) with e2 | ⟨t, ht, rfl, e2⟩
    · refine Sim.pure (-1000000001) ?_ ?_ hR
      · simp only [f_BA_able, eb, ib, x_hasC hbr.2.1.2.1, e1, x_hasT hbr.2.1.2.2, e2, Option.bind_some, if_true, if_neg one_ne]
      · simp only [f_Mo_able, m_isC hbr.2.2.1.2.1, e1, m_isT hbr.2.2.1.2.2, e2, Option.bind_some, if_true, if_neg one_ne]
    · rcases @wi_lit n 1 60 with ⟨e0, -⟩ | ⟨e0, h1, h2⟩
      · refine Sim.pure (-1000000002) ?_ ?_ hR
        · simp only [f_BA_able, eb, ib, x_hasC hbr.2.1.2.1, e1, x_hasT hbr.2.1.2.2, e2, x_within, e0, Option.bind_some, if_true, if_neg one_ne]
        · simp only [f_Mo_able, m_isC hbr.2.2.1.2.1, e1, m_isT hbr.2.2.1.2.2, e2, m_in hp n 1 60 (A := 1) (B := 60) rfl rfl, e0, Option.bind_some, if_true, if_neg one_ne]
      · have i1 : (1 : Int32).toInt = 1 := rfl
        have i60 : (60 : Int32).toInt = 60 := rfl
        obtain ⟨n, hn, rfl⟩ := of_rg (x := n) (n := 61) (by omega) (by omega)
        have hba := hst.1.2.1 c (by omega)
        refine Sim.pure (it (ableg hp c t P) 0 n (hp 4 c, 0)).2 ?_ ?_ hR
        · simp only [f_BA_able, eb, ib, x_hasC hbr.2.1.2.1, e1, x_hasT hbr.2.1.2.2, e2, x_within, e0, Option.bind_some, if_true, if_neg one_ne]
          rw [if_pos (inb_n (by omega) (by omega)), cl_n (by omega)]
          refine (for_up (fun m k (s : Int32 × Int32) => f_BA_able_L55 (nI c) (nI t) (nI n) (fun hp25 w24 => some (w24, hp25)) m hp s.1 s.2 (nI k)) n (ableg hp c t P) (fun s => some (s.2, hp)) (fun _ s => -100000 ≤ s.1.toInt) ?_ ?_ n 0 FU (hp 4 c, 0) (by omega) (FU_gt (by omega)) (by show -100000 ≤ (hp 4 c).toInt; omega)).1
          · intro m k s hk hI
            obtain ⟨v, w⟩ := s
            simp only [ableg]
            refine ⟨?_, by have := am_rg hp c v; omega⟩
            rw [f_BA_able_L55, if_neg (by exact n_nle n k (by omega) (by omega)), eb, if_pos ib, x_do hbr ht hI]
            simp only [Option.bind_some, eb, ib, if_true, x_am hbr hc, nI_1, zi_ite]
            split <;> rfl
          · intro m s _
            show f_BA_able_L55 _ _ _ _ (m + 1) hp s.1 s.2 (nI n) = _
            rw [f_BA_able_L55, if_pos (by exact n_le n n (by omega) (by omega))]
        · simp only [f_Mo_able, m_isC hbr.2.2.1.2.1, e1, m_isT hbr.2.2.1.2.2, e2, m_in hp (nI n) 1 60 (A := 1) (B := 60) rfl rfl, e0, Option.bind_some, if_neg one_ne]
          rw [n_1, if_pos (inb_n (by omega) (by omega)), cl_n (by omega), ← Rst_ba hst (by omega)]
          refine (for_up (fun m k (s : Int32 × Int32) => f_Mo_able_L50 (nI c) (nI t) (nI n) (fun hp25 w24 => some (w24, hp25)) m hp s.1 s.2 (nI k)) n (ableg hp c t P) (fun s => some (s.2, hp)) (fun _ _ => True) ?_ ?_ n 0 FU (hp 4 c, 0) (by omega) (FU_gt (by omega)) trivial).1
          · intro m k s hk hI
            obtain ⟨v, w⟩ := s
            simp only [ableg]
            refine ⟨?_, trivial⟩
            rw [f_Mo_able_L50, if_neg (by exact n_nle n k (by omega) (by omega)), m_do hbr ht]
            simp only [Option.bind_some, m_am hbr hc, nI_1, zi_ite, add_00]
            split <;> rfl
          · intro m s _
            show f_Mo_able_L50 _ _ _ _ (m + 1) hp s.1 s.2 (nI n) = _
            rw [f_Mo_able_L50, if_pos (by exact n_le n n (by omega) (by omega))]
/-- the reference's least balance for a task -/
theorem mx_c (s y : Int32) : mx s y = if y ≤ s then s else y := by
  unfold mx
  by_cases h : s < y
  · rw [if_pos h, if_neg (by rw [lt_i] at h; rw [le_i]; omega)]
  · rw [if_neg h, if_pos (by rw [lt_i] at h; rw [le_i]; omega)]
theorem m_least {hp : HP} {b P Cn Tn : Nat} (h : Rbr hp b P Cn Tn) (v1 v3 : Int32) {t : Nat} (ht : t < Tn) (K : HP → Int32 → Option (Int32 × HP)) (s0 : Int32) : f_Mo_loan_L39 v1 (nI t) v3 K FU hp s0 0 = K hp (it (needg (nd hp) (nI (tkn hp t))) 0 P s0) := by
  have p8 := h.1.1
  have t6 := h.1.2.2
  refine (for_up (fun n k s => f_Mo_loan_L39 v1 (nI t) v3 K n hp s (nI k)) P (needg (nd hp) (nI (tkn hp t))) (fun s => K hp s) (fun _ _ => True) ?_ ?_ P 0 FU s0 (by omega) (FU_gt (by omega)) trivial).1
  · intro n k s hk _
    refine ⟨?_, trivial⟩
    show f_Mo_loan_L39 v1 (nI t) v3 _ (n + 1) hp s (nI k) = f_Mo_loan_L39 v1 (nI t) v3 _ n hp _ (nI (k + 1))
    rw [f_Mo_loan_L39, h.2.2.1.1, if_neg (by exact n_nle P k (by omega) (by omega)), if_pos (inb_n (by omega) (by omega)), cl_n (by omega), (tkn_eq h ht).2.1]
    unfold f_Mo_isIn needg
    by_cases hb : ((nI (tkn hp t) >>> (nI k &&& 31)) &&& (1 : Int32)) = 1
    · rw [if_pos hb, if_pos hb]
      simp only [Option.bind_some, if_neg one_ne]
      rw [if_pos (inb_n (by omega) (by omega)), cl_n (by omega), nI_1, mx_c]
      unfold nd
      split <;> rfl
    · rw [if_neg hb, if_neg hb]
      simp only [Option.bind_some, if_true]
      rw [nI_1]
  · intro n s _
    show f_Mo_loan_L39 v1 (nI t) v3 _ (n + 1) hp s (nI P) = _
    rw [f_Mo_loan_L39, h.2.2.1.1, if_pos (by exact n_le P P (by omega) (by omega))]
/-- either no part is taken, or the need is a part's need -/
theorem need_two {hp : HP} {b P Cn Tn : Nat} (h : Rbr hp b P Cn Tn) (tk : Int32) {s0 : Int32} (h0 : s0.toInt < -500) : ∀ k, k ≤ P → (it (needg (nd hp) tk) 0 k s0 = s0 ∧ ∀ s1 : Int32, s1.toInt < -500 → it (needg (nd hp) tk) 0 k s1 = s1) ∨ (-500 ≤ (it (needg (nd hp) tk) 0 k s0).toInt ∧ (it (needg (nd hp) tk) 0 k s0).toInt ≤ 499 ∧ ∀ s1 : Int32, s1.toInt < -500 → it (needg (nd hp) tk) 0 k s1 = it (needg (nd hp) tk) 0 k s0) := by
  intro k
  induction k with
  | zero => intro _; exact Or.inl ⟨rfl, fun _ _ => rfl⟩
  | succ k ih =>
    intro hk
    have hn := nd_rg h k (by omega)
    have ih := ih (by omega)
    rw [it_succ, Nat.zero_add]
    by_cases hb : ((tk >>> (nI k &&& 31)) &&& (1 : Int32)) = 1
    · refine Or.inr ?_
      have e : ∀ s, needg (nd hp) tk k s = mx s (nd hp k) := fun s => by unfold needg; rw [if_pos hb]
      rw [e]
      rcases ih with ⟨i1, i2⟩ | ⟨i1, i2, i3⟩
      · rw [i1]
        refine ⟨by rw [mx_i]; omega, by rw [mx_i]; omega, fun s1 hs1 => ?_⟩
        rw [it_succ, Nat.zero_add, i2 s1 hs1, e, eq_i, mx_i, mx_i]
        omega
      · refine ⟨by rw [mx_i]; omega, by rw [mx_i]; omega, fun s1 hs1 => ?_⟩
        rw [it_succ, Nat.zero_add, i3 s1 hs1, e]
    · have e : ∀ s, needg (nd hp) tk k s = s := fun s => by unfold needg; rw [if_neg hb]
      rw [e]
      rcases ih with ⟨i1, i2⟩ | ⟨i1, i2, i3⟩
      · exact Or.inl ⟨i1, fun s1 hs1 => by rw [it_succ, Nat.zero_add, e]; exact i2 s1 hs1⟩
      · exact Or.inr ⟨i1, i2, fun s1 hs1 => by rw [it_succ, Nat.zero_add, e]; exact i3 s1 hs1⟩
theorem S_loan {hp : HP} (h : R hp) (a t w : Int32) : Sim hp (fun x => f_BA_loan x a t w) (fun x => f_Mo_loan x a t w) := by
  have hR := h
  obtain ⟨b, b', P, Cn, Tn, hr, htx, hbr, hst, him, hpa, hsl⟩ := h
  obtain ⟨ib, eb⟩ := isB_b hr
  have c5 := hbr.1.2.1
  have t6 := hbr.1.2.2
  rcases wi_n a (N := Cn) (by omega) with e1 | ⟨c, hc, rfl, e1⟩
  · refine Sim.pure (-1000000001) ?_ ?_ hR
    · simp only [f_BA_loan, eb, ib, x_hasC hbr.2.1.2.1, e1, Option.bind_some, if_true]
    · simp only [f_Mo_loan, m_isC hbr.2.2.1.2.1, e1, Option.bind_some, if_true]
  · rcases wi_n t (N := Tn) (by omega) with e2 | ⟨t, ht, rfl, e2⟩
    · refine Sim.pure (-1000000001) ?_ ?_ hR
      · simp only [f_BA_loan, eb, ib, x_hasC hbr.2.1.2.1, e1, x_hasT hbr.2.1.2.2, e2, Option.bind_some, if_true, if_neg one_ne]
      · simp only [f_Mo_loan, m_isC hbr.2.2.1.2.1, e1, m_isT hbr.2.2.1.2.2, e2, Option.bind_some, if_true, if_neg one_ne]
    · rcases @wi_lit w 0 1 with ⟨e0, -⟩ | ⟨e0, h1, h2⟩
      · refine Sim.pure (-1000000002) ?_ ?_ hR
        · simp only [f_BA_loan, eb, ib, x_hasC hbr.2.1.2.1, e1, x_hasT hbr.2.1.2.2, e2, x_within, e0, Option.bind_some, if_true, if_neg one_ne]
        · simp only [f_Mo_loan, m_isC hbr.2.2.1.2.1, e1, m_isT hbr.2.2.1.2.2, e2, m_in hp w 0 1 (A := 0) (B := 1) rfl rfl, e0, Option.bind_some, if_true, if_neg one_ne]
      · have i1 : (1 : Int32).toInt = 1 := rfl
        have i0 : (0 : Int32).toInt = 0 := rfl
        have i9 : (9999 : Int32).toInt = 9999 := rfl
        obtain ⟨n, hn, rfl⟩ := of_rg (x := w) (n := 2) (by omega) (by omega)
        obtain ⟨-, hb1, hb2⟩ := hst.1.2.1 c (by omega)
        refine Rd2.sim ?_ hR
        simp only [f_BA_loan, eb, ib, x_hasC hbr.2.1.2.1, e1, x_hasT hbr.2.1.2.2, e2, x_within, e0, Option.bind_some, if_true, if_neg one_ne, f_Mo_loan, m_isC hbr.2.2.1.2.1, m_isT hbr.2.2.1.2.2, m_in hp (nI n) 0 1 (A := 0) (B := 1) rfl rfl, m_least hbr _ _ ht, x_needOf hbr ht, inb_n (show c < 5 by omega) (show 5 < 2 ^ 31 by decide), n_1, inb_n (show 1 + c < 736 by omega) (show 736 < 2 ^ 31 by decide), cl_n (show c < 2 ^ 31 by omega), cl_n (show 1 + c < 2 ^ 31 by omega), ← Rst_ba hst (show c < 5 by omega)]
        have nt := need_two hbr (nI (tkn hp t)) (s0 := -1000000) (by decide) P (Nat.le_refl P)
        have j1 : (-1000000 : Int32).toInt = -1000000 := rfl
        have j2 : (-100000 : Int32).toInt = -100000 := rfl
        generalize hy : it (needg (nd hp) (nI (tkn hp t))) 0 P (-1000000) = y at nt ⊢
        generalize hx : it (needg (nd hp) (nI (tkn hp t))) 0 P (-100000) = x
        have hxy : (x = y ∧ -500 ≤ y.toInt ∧ y.toInt ≤ 499) ∨ (x.toInt = -100000 ∧ y.toInt = -1000000) := by
          rcases nt with ⟨n1, n2⟩ | ⟨n1, n2, n3⟩
          · refine Or.inr ⟨?_, by rw [n1]; rfl⟩
            rw [← hx, n2 (-100000) (by decide)]; rfl
          · refine Or.inl ⟨?_, n1, n2⟩
            rw [← hx, n3 (-100000) (by decide)]
        generalize hp 4 c = v at hb1 hb2 ⊢
        have hxr : -100000 ≤ x.toInt ∧ x.toInt ≤ 499 := by
          rcases hxy with ⟨q, q1, q2⟩ | ⟨q1, q2⟩
          · rw [q]; omega
          · omega
        have dx : (v - x).toInt = v.toInt - x.toInt := sub_i (by omega)
        have dy : (v - y).toInt = v.toInt - y.toInt := sub_i (by omega)
        have nx : (-(v - x)).toInt = -(v - x).toInt := neg_i (by omega)
        rcases (show n = 0 ∨ n = 1 by omega) with rfl | rfl
        · rw [if_neg (by decide : ¬ nI 0 = 1), if_pos (by decide : nI 0 = 0)]
          rcases hxy with ⟨rfl, -, -⟩ | ⟨q1, q2⟩
          · by_cases g1 : v - x < 0
            · rw [if_pos g1]; try rw [if_pos g1]
              by_cases g2 : (9999 : Int32) < -(v - x)
              · rw [if_pos g2, if_neg (by rw [lt_i] at g2; rw [le_i]; omega)]
                exact Rd2.of rfl rfl
              · rw [if_neg g2, if_pos (by rw [lt_i] at g2; rw [le_i]; omega)]
                exact Rd2.of rfl rfl
            · rw [if_neg g1]; try rw [if_neg g1]
              exact Rd2.of rfl rfl
          · rw [if_neg (by rw [lt_i]; omega), if_neg (by rw [lt_i]; omega)]
            exact Rd2.of rfl rfl
        · rw [if_pos (by decide : nI 1 = 1), if_neg (by decide : ¬ nI 1 = 0)]
          rcases hxy with ⟨rfl, -, -⟩ | ⟨q1, q2⟩
          · by_cases g1 : 0 ≤ v - x
            · rw [if_pos g1]; try rw [if_pos g1]
              by_cases g2 : v - x ≤ 9999
              · rw [if_pos g2]
                have : mn (v - x) 9999 = v - x := by rw [le_i] at g2; rw [eq_i, mn_i]; omega
                rw [this]
                exact Rd2.of rfl rfl
              · rw [if_neg g2]
                have : mn (v - x) 9999 = 9999 := by rw [le_i] at g2; rw [eq_i, mn_i]; omega
                rw [this]
                exact Rd2.of rfl rfl
            · rw [if_neg g1]; try rw [if_neg g1]
              exact Rd2.of rfl rfl
          · rw [if_pos (by rw [le_i]; omega), if_pos (by rw [le_i]; omega), if_neg (by rw [le_i]; omega)]
            have : mn (v - x) 9999 = 9999 := by rw [eq_i, mn_i]; omega
            rw [this]
            exact Rd2.of rfl rfl
end
section
def onl (hp : HP) (P t : Nat) (c d : Nat) : Bool := !(dnb (nd hp) (tkn hp t) P (hp 4 c)) && !(dnb (nd hp) (tkn hp t) P (hp 4 d)) && dnb (nd hp) (tkn hp t) P (hp 4 c + hp 4 d)
def aoEx (on : Nat → Nat → Bool) (i : Int32) (hp : HP) (c : Nat) : Nat → Int32 → Option (Option (Int32 × HP)) := fun d s => if on c d = true then (if s = i then some (some (10 * nI c + nI d, hp)) else none) else none
def aoG (on : Nat → Nat → Bool) (c : Nat) : Nat → Int32 → Int32 := fun d s => if on c d = true then s + 1 else s
def ao (on : Nat → Nat → Bool) (i : Int32) (hp : HP) (fin : Int32 → Option (Int32 × HP)) (Cn : Nat) : Nat → Nat → Int32 → Option (Int32 × HP)
  | 0, _, s => fin s
  | r + 1, c, s => itx (aoEx on i hp c) (aoG on c) (fun s' => ao on i hp fin Cn r (c + 1) s') (c + 1) (Cn - (c + 1)) s
theorem x_only {hp : HP} {b b' P Cn Tn : Nat} (hr : Rr hp b b') (h : Rbr hp b P Cn Tn) (hst : Rst hp Cn) {t c d : Nat} (ht : t < Tn) (hc : c < 5) (hd : d < 5) : f_BA_isDoableOnlyAsOne hp (nI t) (nI c) (nI d) = some (zi (onl hp P t c d), hp) := by
  obtain ⟨ib, eb⟩ := isB_b hr
  have h1 := hst.1.2.1 c hc
  have h2 := hst.1.2.1 d hd
  simp only [f_BA_isDoableOnlyAsOne, inb_n (show c < 5 by omega) (show 5 < 2 ^ 31 by decide), inb_n (show d < 5 by omega) (show 5 < 2 ^ 31 by decide), if_true, eb, ib, cl_n (show c < 2 ^ 31 by omega), cl_n (show d < 2 ^ 31 by omega), x_do h ht (show -100000 ≤ (hp 4 c).toInt by omega), x_do h ht (show -100000 ≤ (hp 4 d).toInt by omega), x_bounded, x_do h ht (show -100000 ≤ (cla (hp 4 c + hp 4 d)).toInt by rw [cla_i]; omega), Option.bind_some, zi_ite, dnb_cla h]
  unfold onl
  cases dnb (nd hp) (tkn hp t) P (hp 4 c) <;> cases dnb (nd hp) (tkn hp t) P (hp 4 d) <;> cases dnb (nd hp) (tkn hp t) P (hp 4 c + hp 4 d) <;> rfl
theorem x_ao {hp : HP} {b b' P Cn Tn : Nat} (hr : Rr hp b b') (h : Rbr hp b P Cn Tn) (hst : Rst hp Cn) {t : Nat} (ht : t < Tn) (i : Int32) (K : HP → Int32 → Option (Int32 × HP)) : ∀ r n c s, c + r = Cn → r < n → f_BA_asOne_L19 (nI t) i K n hp s (nI c) = ao (onl hp P t) i hp (K hp) Cn r c s := by
  obtain ⟨ib, eb⟩ := isB_b hr
  have c5 := h.1.2.1
  intro r
  induction r with
  | zero =>
    intro n c s hc hn
    obtain ⟨m, rfl⟩ : ∃ m, n = m + 1 := ⟨n - 1, by omega⟩
    rw [f_BA_asOne_L19, eb, if_pos ib, h.2.1.2.1, if_pos (by exact n_le Cn c (by omega) (by omega))]
    rfl
  | succ r ih =>
    intro n c s hc hn
    obtain ⟨m, rfl⟩ : ∃ m, n = m + 1 := ⟨n - 1, by omega⟩
    rw [f_BA_asOne_L19, eb, if_pos ib, h.2.1.2.1, if_neg (by exact n_nle Cn c (by omega) (by omega)), nI_1]
    have hin := for_ex (fun n k s => f_BA_asOne_L37 (nI t) i (nI c) (fun hp14 w13 => f_BA_asOne_L19 (nI t) i K m hp14 w13 (nI (c + 1))) n hp s (nI k)) Cn (aoEx (onl hp P t) i hp c) (aoG (onl hp P t) c) (fun s' => ao (onl hp P t) i hp (K hp) Cn r (c + 1) s') (fun k _ => c + 1 ≤ k) ?_ ?_ (Cn - (c + 1)) (c + 1) FU s (by omega) (FU_gt (by omega)) (by omega)
    · exact hin
    · intro n k s hk hI
      refine ⟨?_, fun _ => by omega⟩
      show f_BA_asOne_L37 (nI t) i (nI c) _ (n + 1) hp s (nI k) = _
      rw [f_BA_asOne_L37, eb, if_pos ib, h.2.1.2.1, if_neg (by exact n_nle Cn k (by omega) (by omega)), x_only hr h hst ht (by omega) (by omega)]
      simp only [Option.bind_some, zi_ite, aoEx, aoG, nI_1]
      by_cases ho : onl hp P t c k = true
      · rw [if_pos ho, if_pos ho, if_pos ho]
        by_cases hs : s = i
        · rw [if_pos hs, if_pos hs]
        · rw [if_neg hs, if_neg hs]
      · rw [if_neg ho, if_neg ho, if_neg ho]
    · intro n s _
      show f_BA_asOne_L37 (nI t) i (nI c) _ (n + 1) hp s (nI Cn) = _
      rw [f_BA_asOne_L37, eb, if_pos ib, h.2.1.2.1, if_pos (by exact n_le Cn Cn (by omega) (by omega)), ih m (c + 1) s (by omega) (by omega)]
theorem m_ao {hp : HP} {b P Cn Tn : Nat} (h : Rbr hp b P Cn Tn) (hst : Rst hp Cn) {t : Nat} (ht : t < Tn) (i : Int32) (K : HP → Int32 → Option (Int32 × HP)) : ∀ r n c s, c + r = Cn → r < n → f_Mo_asOne_L16 (nI t) i K n hp s (nI c) = ao (onl hp P t) i hp (K hp) Cn r c s := by
  have c5 := h.1.2.1
  intro r
  induction r with
  | zero =>
    intro n c s hc hn
    obtain ⟨m, rfl⟩ : ∃ m, n = m + 1 := ⟨n - 1, by omega⟩
    rw [f_Mo_asOne_L16, h.2.2.1.2.1, if_pos (by exact n_le Cn c (by omega) (by omega))]
    rfl
  | succ r ih =>
    intro n c s hc hn
    obtain ⟨m, rfl⟩ : ∃ m, n = m + 1 := ⟨n - 1, by omega⟩
    rw [f_Mo_asOne_L16, h.2.2.1.2.1, if_neg (by exact n_nle Cn c (by omega) (by omega)), nI_1]
    have hin := for_ex (fun n k s => f_Mo_asOne_L31 (nI t) i (nI c) (fun hp14 w13 => f_Mo_asOne_L16 (nI t) i K m hp14 w13 (nI (c + 1))) n hp s (nI k)) Cn (aoEx (onl hp P t) i hp c) (aoG (onl hp P t) c) (fun s' => ao (onl hp P t) i hp (K hp) Cn r (c + 1) s') (fun k _ => c + 1 ≤ k) ?_ ?_ (Cn - (c + 1)) (c + 1) FU s (by omega) (FU_gt (by omega)) (by omega)
    · exact hin
    · intro n k s hk hI
      refine ⟨?_, fun _ => by omega⟩
      show f_Mo_asOne_L31 (nI t) i (nI c) _ (n + 1) hp s (nI k) = _
      rw [f_Mo_asOne_L31, h.2.2.1.2.1, if_neg (by exact n_nle Cn k (by omega) (by omega))]
      simp only [n_1, inb_n (show 1 + c < 736 by omega) (show 736 < 2 ^ 31 by decide), inb_n (show 1 + k < 736 by omega) (show 736 < 2 ^ 31 by decide), cl_n (show 1 + c < 2 ^ 31 by omega), cl_n (show 1 + k < 2 ^ 31 by omega), if_true, m_do h ht, Option.bind_some, zi_ite, aoEx, aoG, nI_1, ← Rst_ba hst (show c < 5 by omega), ← Rst_ba hst (show k < 5 by omega)]
      unfold onl
      cases dnb (nd hp) (tkn hp t) P (hp 4 c) <;> cases dnb (nd hp) (tkn hp t) P (hp 4 k) <;> cases dnb (nd hp) (tkn hp t) P (hp 4 c + hp 4 k) <;> (try rfl)
      by_cases hs : s = i
      · simp [hs]
      · simp [hs]
    · intro n s _
      show f_Mo_asOne_L31 (nI t) i (nI c) _ (n + 1) hp s (nI Cn) = _
      rw [f_Mo_asOne_L31, h.2.2.1.2.1, if_pos (by exact n_le Cn Cn (by omega) (by omega)), ih m (c + 1) s (by omega) (by omega)]
theorem ao_val {on : Nat → Nat → Bool} {i : Int32} {hp : HP} {fin : Int32 → Option (Int32 × HP)} {Cn : Nat} (hf : ∀ s, ∃ r, fin s = some (r, hp)) : ∀ r c s, ∃ v, ao on i hp fin Cn r c s = some (v, hp) := by
  intro r
  induction r with
  | zero => intro c s; exact hf s
  | succ r ih =>
    intro c s
    unfold ao
    refine itx_val (fun k s v hv => ?_) (fun s => ih (c + 1) s) _ _ _
    unfold aoEx at hv
    split at hv
    · exact ite_sv hv
    · cases hv
theorem S_asOne {hp : HP} (h : R hp) (t i : Int32) : Sim hp (fun x => f_BA_asOne x t i) (fun x => f_Mo_asOne x t i) := by
  have hR := h
  obtain ⟨b, b', P, Cn, Tn, hr, htx, hbr, hst, him, hpa, hsl⟩ := h
  obtain ⟨ib, eb⟩ := isB_b hr
  have c5 := hbr.1.2.1
  have t6 := hbr.1.2.2
  rcases wi_n t (N := Tn) (by omega) with e2 | ⟨t, ht, rfl, e2⟩
  · refine Sim.pure (-1000000001) ?_ ?_ hR
    · simp only [f_BA_asOne, eb, ib, x_hasT hbr.2.1.2.2, e2, Option.bind_some, if_true]
    · simp only [f_Mo_asOne, m_isT hbr.2.2.1.2.2, e2, Option.bind_some, if_true]
  · have hf : ∀ s, ∃ r, (fun (hp16 : HP) w15 => if i = (-1 : Int32) then some (w15, hp16) else some ((-1 : Int32), hp16)) hp s = some (r, hp) := by
      intro s
      dsimp only
      split
      · exact ⟨_, rfl⟩
      · exact ⟨_, rfl⟩
    obtain ⟨v, hv⟩ := ao_val (on := onl hp P t) (i := i) (Cn := Cn) hf Cn 0 0
    refine Sim.pure v ?_ ?_ hR
    · simp only [f_BA_asOne, eb, ib, x_hasT hbr.2.1.2.2, e2, Option.bind_some, if_true, if_neg one_ne]
      rw [← hv]
      exact x_ao hr hbr hst ht i _ Cn FU 0 0 (by omega) (FU_gt (by omega))
    · simp only [f_Mo_asOne, m_isT hbr.2.2.1.2.2, e2, Option.bind_some, if_neg one_ne]
      rw [← hv]
      exact m_ao hbr hst ht i _ Cn FU 0 0 (by omega) (FU_gt (by omega))
end
section
def spn (hp : HP) (i : Nat) : Nat := (hp 114 i).toNatClampNeg
/-- what of the slate a look at what is seen needs -/
def Seen (hp : HP) (P e : Nat) : Prop := e ≤ 8 ∧ hp 68 9 = nI e ∧ hp 99 29 = nI e ∧ ∀ i, i < e → hp 72 i = nI (spn hp i) ∧ hp 114 i = nI (spn hp i) ∧ spn hp i < P ∧ hp 73 i = hp 115 i ∧ (hp 115 i = 0 ∨ hp 115 i = 1)
theorem Seen.of {hp : HP} {P Cn Tn : Nat} (h8 : P ≤ 8) (h : Rsl hp P Cn Tn) : ∃ e, Seen hp P e := by
  obtain ⟨s, m, e, z, ⟨ls, lm, le, lz⟩, ⟨x7, x8, x9, x10⟩, ⟨y7, y8, y9, y10⟩, hs, hm, he, hz⟩ := h
  refine ⟨e, le, x9, y9, fun i hi => ?_⟩
  obtain ⟨e1, e2, ⟨k, hk, e3⟩, e4⟩ := he i hi
  have : spn hp i = k := by unfold spn; rw [e3, nI_clamp (by omega)]
  rw [this]
  exact ⟨e1.trans e3, e3, hk, e2, e4⟩
def lo (hp : HP) (e : Nat) : Int32 := it (fun i s => if hp 115 i = 0 then s else mx s (nd hp (spn hp i))) 0 e (-500)
def hi (hp : HP) (e : Nat) : Int32 := it (fun i s => if hp 115 i = 0 then mn s (nd hp (spn hp i) - 1) else s) 0 e 499
theorem x_lo {hp : HP} {b P Cn Tn e : Nat} (h : Rbr hp b P Cn Tn) (hs : Seen hp P e) : f_Sl_leastSeen hp b = some (lo hp e, hp) := by
  obtain ⟨e8, s1, s2, s3⟩ := hs
  have p8 := h.1.1
  unfold f_Sl_leastSeen
  refine (for_up (fun n k s => f_Sl_leastSeen_L6 b (fun hp6 w5 => some (w5, hp6)) n hp s (nI k)) e (fun i s => if hp 115 i = 0 then s else mx s (nd hp (spn hp i))) (fun s => some (s, hp)) (fun _ _ => True) ?_ ?_ e 0 FU _ (by omega) (FU_gt (by omega)) trivial).1
  · intro n k s hk _
    refine ⟨?_, trivial⟩
    obtain ⟨k1, k2, k3, k4, k5⟩ := s3 k hk
    show f_Sl_leastSeen_L6 b _ (n + 1) hp s (nI k) = _
    rw [f_Sl_leastSeen_L6, s1, if_neg (by exact n_nle e k (by omega) (by omega)), if_pos (inb_n (by omega) (by omega)), cl_n (by omega), k4, k1, if_pos (inb_n (by omega) (by omega)), cl_n (by omega), (h.2.2.2.1 _ k3).1, nI_1]
    by_cases hq : hp 115 k = 0
    · rw [if_pos hq, if_pos hq]
    · rw [if_neg hq, if_neg hq]; rfl
  · intro n s _
    show f_Sl_leastSeen_L6 b _ (n + 1) hp s (nI e) = _
    rw [f_Sl_leastSeen_L6, s1, if_pos (by exact n_le e e (by omega) (by omega))]
theorem x_hi {hp : HP} {b P Cn Tn e : Nat} (h : Rbr hp b P Cn Tn) (hs : Seen hp P e) : f_Sl_greatestSeen hp b = some (hi hp e, hp) := by
  obtain ⟨e8, s1, s2, s3⟩ := hs
  have p8 := h.1.1
  unfold f_Sl_greatestSeen
  refine (for_up (fun n k s => f_Sl_greatestSeen_L6 b (fun hp6 w5 => some (w5, hp6)) n hp s (nI k)) e (fun i s => if hp 115 i = 0 then mn s (nd hp (spn hp i) - 1) else s) (fun s => some (s, hp)) (fun _ _ => True) ?_ ?_ e 0 FU _ (by omega) (FU_gt (by omega)) trivial).1
  · intro n k s hk _
    refine ⟨?_, trivial⟩
    obtain ⟨k1, k2, k3, k4, k5⟩ := s3 k hk
    show f_Sl_greatestSeen_L6 b _ (n + 1) hp s (nI k) = _
    rw [f_Sl_greatestSeen_L6, s1, if_neg (by exact n_nle e k (by omega) (by omega)), if_pos (inb_n (by omega) (by omega)), cl_n (by omega), k4, k1, if_pos (inb_n (by omega) (by omega)), cl_n (by omega), (h.2.2.2.1 _ k3).1, nI_1]
    by_cases hq : hp 115 k = 0
    · rw [if_pos hq, if_pos hq]; rfl
    · rw [if_neg hq, if_neg hq]
  · intro n s _
    show f_Sl_greatestSeen_L6 b _ (n + 1) hp s (nI e) = _
    rw [f_Sl_greatestSeen_L6, s1, if_pos (by exact n_le e e (by omega) (by omega))]
def snc (hp : HP) (v : Int32) (i : Nat) : Bool := if v < nd hp (spn hp i) then decide ((0 : Int32) = hp 115 i) else decide ((1 : Int32) = hp 115 i)
def snb (hp : HP) (v : Int32) : Nat → Bool
  | 0 => true
  | e + 1 => snb hp v e && snc hp v e
theorem m_isSeen {hp : HP} {P e : Nat} (p8 : P ≤ 8) (hs : Seen hp P e) (v : Int32) : f_Mo_isSeen hp v = some (zi (snb hp v e), hp) := by
  obtain ⟨e8, s1, s2, s3⟩ := hs
  unfold f_Mo_isSeen
  have key : ∀ k, k ≤ e → it (fun i s => if s = 0 then 0 else zi (snc hp v i)) 0 k (1 : Int32) = zi (snb hp v k) := by
    intro k
    induction k with
    | zero => intro _; rfl
    | succ k ih =>
      intro hk
      rw [it_succ, ih (by omega), Nat.zero_add]
      show (if zi (snb hp v k) = 0 then 0 else zi (snc hp v k)) = zi (snb hp v k && snc hp v k)
      cases snb hp v k <;> rfl
  rw [← key e (Nat.le_refl e)]
  have hrz : ∀ s : Int32, s = 0 ∨ s = 1 → rz s hp = some (s, hp) := fun s h => by unfold rz; rw [if_pos h]
  refine (for_up (fun n k s => f_Mo_isSeen_L4 v (fun hp9 w8 => rz w8 hp9) n hp s (nI k)) e (fun i s => if s = 0 then 0 else zi (snc hp v i)) (fun s => some (s, hp)) (fun _ s => s = 0 ∨ s = 1) ?_ ?_ e 0 FU 1 (by omega) (FU_gt (by omega)) (Or.inr rfl)).1
  · intro n k s hk hI
    obtain ⟨k1, k2, k3, k4, k5⟩ := s3 k hk
    refine ⟨?_, ?_⟩
    · show f_Mo_isSeen_L4 v _ (n + 1) hp s (nI k) = _
      rw [f_Mo_isSeen_L4, s2, if_neg (by exact n_nle e k (by omega) (by omega))]
      by_cases hz : s = 0
      · rw [if_pos hz, if_pos hz, nI_1]
      · rw [if_neg hz, if_neg hz, if_pos (inb_n (by omega) (by omega)), cl_n (by omega), k2, if_pos (inb_n (by omega) (by omega)), cl_n (by omega), nI_1]
        unfold snc nd
        split
        · by_cases hq : (0 : Int32) = hp 115 k
          · rw [if_pos hq, decide_eq_true hq]; rfl
          · rw [if_neg hq, decide_eq_false hq]; rfl
        · by_cases hq : (1 : Int32) = hp 115 k
          · rw [if_pos hq, decide_eq_true hq]; rfl
          · rw [if_neg hq, decide_eq_false hq]; rfl
    · split
      · exact Or.inl rfl
      · cases snc hp v k
        · exact Or.inl rfl
        · exact Or.inr rfl
  · intro n s hI
    show f_Mo_isSeen_L4 v _ (n + 1) hp s (nI e) = _
    rw [f_Mo_isSeen_L4, s2, if_pos (by exact n_le e e (by omega) (by omega))]
    exact hrz s hI
theorem i500 : (-500 : Int32).toInt = -500 := rfl
theorem i499 : (499 : Int32).toInt = 499 := rfl
theorem i1 : (1 : Int32).toInt = 1 := rfl
theorem i0 : (0 : Int32).toInt = 0 := rfl
theorem lohi {hp : HP} {b P Cn Tn e : Nat} (h : Rbr hp b P Cn Tn) (hs : Seen hp P e) : ∀ k, k ≤ e → (-500 ≤ (lo hp k).toInt ∧ (lo hp k).toInt ≤ 499 ∧ -501 ≤ (hi hp k).toInt ∧ (hi hp k).toInt ≤ 499) ∧ ∀ v : Int32, -500 ≤ v.toInt → v.toInt ≤ 499 → (snb hp v k = true ↔ (lo hp k).toInt ≤ v.toInt ∧ v.toInt ≤ (hi hp k).toInt) := by
  obtain ⟨e8, s1, s2, s3⟩ := hs
  intro k
  induction k with
  | zero =>
    intro _
    refine ⟨⟨?_, ?_, ?_, ?_⟩, fun v h1 h2 => ?_⟩
    · show -500 ≤ (-500 : Int32).toInt; decide
    · show (-500 : Int32).toInt ≤ 499; decide
    · show -501 ≤ (499 : Int32).toInt; decide
    · show (499 : Int32).toInt ≤ 499; decide
    · show true = true ↔ (-500 : Int32).toInt ≤ v.toInt ∧ v.toInt ≤ (499 : Int32).toInt
      rw [i500, i499]
      exact ⟨fun _ => ⟨h1, h2⟩, fun _ => rfl⟩
  | succ k ih =>
    intro hk
    obtain ⟨⟨r1, r2, r3, r4⟩, ih⟩ := ih (by omega)
    obtain ⟨k1, k2, k3, k4, k5⟩ := s3 k (by omega)
    have hn := nd_rg h _ k3
    have el : lo hp (k + 1) = if hp 115 k = 0 then lo hp k else mx (lo hp k) (nd hp (spn hp k)) := by
      unfold lo; rw [it_succ, Nat.zero_add]
    have eh : hi hp (k + 1) = if hp 115 k = 0 then mn (hi hp k) (nd hp (spn hp k) - 1) else hi hp k := by
      unfold hi; rw [it_succ, Nat.zero_add]
    have dm : (nd hp (spn hp k) - 1).toInt = (nd hp (spn hp k)).toInt - 1 := by rw [sub_i (by rw [i1]; omega), i1]
    rw [el, eh]
    rcases k5 with q | q
    · rw [if_pos q, if_pos q, mn_i, dm]
      refine ⟨⟨r1, r2, by omega, by omega⟩, fun v h1 h2 => ?_⟩
      show (snb hp v k && snc hp v k) = true ↔ _
      rw [Bool.and_eq_true, ih v h1 h2]
      have : snc hp v k = true ↔ v.toInt < (nd hp (spn hp k)).toInt := by
        unfold snc
        rw [q]
        by_cases hv : v < nd hp (spn hp k)
        · rw [if_pos hv]; rw [lt_i] at hv; exact ⟨fun _ => hv, fun _ => rfl⟩
        · rw [if_neg hv]; rw [lt_i] at hv; exact ⟨fun h => absurd h (by decide), fun h => absurd h hv⟩
      rw [this]; omega
    · rw [if_neg (by rw [q]; decide), if_neg (by rw [q]; decide), mx_i]
      refine ⟨⟨by omega, by omega, r3, r4⟩, fun v h1 h2 => ?_⟩
      show (snb hp v k && snc hp v k) = true ↔ _
      rw [Bool.and_eq_true, ih v h1 h2]
      have : snc hp v k = true ↔ ¬ v.toInt < (nd hp (spn hp k)).toInt := by
        unfold snc
        rw [q]
        by_cases hv : v < nd hp (spn hp k)
        · rw [if_pos hv]; rw [lt_i] at hv; exact ⟨fun h => absurd h (by decide), fun h => absurd hv h⟩
        · rw [if_neg hv]; rw [lt_i] at hv; exact ⟨fun _ => hv, fun _ => rfl⟩
      rw [this]; omega
/-- the balances that are tried one by one -/
def vI (k : Nat) : Int32 := nI k + (-500)
theorem vI_i {k : Nat} (h : k ≤ 1000) : (vI k).toInt = (k : Int) - 500 := by
  unfold vI; rw [add_i (by rw [nI_toInt (by omega), i500]; omega), nI_toInt (by omega), i500]; omega
theorem vI_1 {k : Nat} (h : k < 1000) : vI k + 1 = vI (k + 1) := by
  rw [eq_i, add_i (by rw [vI_i (by omega), i1]; omega), vI_i (by omega), vI_i (by omega), i1]; omega
theorem it_eq {α : Type} {g : Nat → α → α} {k d : Nat} {s : α} (F : Nat → α) (h0 : F k = s) (hs : ∀ j, k ≤ j → j < k + d → g j (F j) = F (j + 1)) : it g k d s = F (k + d) := by
  subst h0
  induction d with
  | zero => rfl
  | succ d ih =>
    rw [it_succ, ih (fun j h1 h2 => hs j h1 (by omega)), hs (k + d) (by omega) (by omega)]
    rfl
def cnt (a b : Int) (k : Nat) : Nat := (min ((k : Int) - 500) (b + 1) - a).toNat
def hasF (L H : Int32) (k : Nat) : Int32 × Int32 × Int32 := (nI (cnt L.toInt H.toInt k), if cnt L.toInt H.toInt k = 0 then -1 else L + 10000, if cnt L.toInt H.toInt k = 0 then -1 else mn (vI (k - 1)) H + 10000)
def hasg (hp : HP) (e : Nat) : Nat → Int32 × Int32 × Int32 → Int32 × Int32 × Int32 := fun k s => if snb hp (vI k) e = true then (s.1 + 1, if s.1 = 0 then vI k + 10000 else s.2.1, vI k + 10000) else s
theorem has_it {hp : HP} {b P Cn Tn e : Nat} (h : Rbr hp b P Cn Tn) (hs : Seen hp P e) {N : Nat} (hN : N = 1000) : it (hasg hp e) 0 N (0, -1, -1) = hasF (lo hp e) (hi hp e) N := by
  obtain ⟨⟨r1, r2, r3, r4⟩, hk⟩ := lohi h hs e (Nat.le_refl e)
  generalize lo hp e = L at r1 r2 hk ⊢
  generalize hi hp e = H at r3 r4 hk ⊢
  have key := it_eq (g := hasg hp e) (k := 0) (d := N) (s := (0, -1, -1)) (hasF L H) ?_ ?_
  · rw [Nat.zero_add] at key; exact key
  · have : cnt L.toInt H.toInt 0 = 0 := by unfold cnt; omega
    unfold hasF; rw [this]; rfl
  · intro j _ hj
    have hk := hk (vI j) (by rw [vI_i (by omega)]; omega) (by rw [vI_i (by omega)]; omega)
    rw [vI_i (by omega)] at hk
    unfold hasg
    by_cases hq : snb hp (vI j) e = true
    · rw [if_pos hq]
      obtain ⟨q1, q2⟩ := hk.mp hq
      have ec : cnt L.toInt H.toInt (j + 1) = cnt L.toInt H.toInt j + 1 := by unfold cnt; omega
      have em : mn (vI j) H = vI j := by rw [eq_i, mn_i, vI_i (by omega)]; omega
      have n1 : ¬ (cnt L.toInt H.toInt j + 1 = 0) := Nat.succ_ne_zero _
      simp only [hasF, ec, if_neg n1, nI_s, Nat.add_sub_cancel, em]
      by_cases hz : cnt L.toInt H.toInt j = 0
      · have el : vI j = L := by rw [eq_i, vI_i (by omega)]; unfold cnt at hz; omega
        have n0 : nI (cnt L.toInt H.toInt j) = 0 := by rw [hz]; rfl
        simp only [n0, if_true, el]
      · have n2 : ¬ nI (cnt L.toInt H.toInt j) = 0 := n_ne (cnt L.toInt H.toInt j) 0 hz (by unfold cnt; omega) (by omega)
        simp only [if_neg hz, if_neg n2]
    · rw [if_neg hq]
      have hq2 : ¬ (L.toInt ≤ (j : Int) - 500 ∧ (j : Int) - 500 ≤ H.toInt) := fun q => hq (hk.mpr q)
      have ec : cnt L.toInt H.toInt (j + 1) = cnt L.toInt H.toInt j := by unfold cnt; omega
      unfold hasF
      rw [ec]
      by_cases hz : cnt L.toInt H.toInt j = 0
      · rw [if_pos hz, if_pos hz]
        try rw [if_pos hz]
      · rw [if_neg hz, if_neg hz, if_neg hz]
        have em : mn (vI (j + 1 - 1)) H = mn (vI (j - 1)) H := by
          have : 1 ≤ j := by
            rcases Nat.eq_zero_or_pos j with q | q
            · subst q; exact absurd (by unfold cnt; omega) hz
            · exact q
          unfold cnt at hz
          rw [eq_i, mn_i, mn_i, vI_i (by omega), vI_i (by omega)]; omega
        rw [em]
theorem m_has {hp : HP} {b P Cn Tn e : Nat} (h : Rbr hp b P Cn Tn) (hs : Seen hp P e) (v1 : Int32) (K : HP → Int32 → Int32 → Int32 → Option (Int32 × HP)) {N : Nat} (hN : N = 1000) : f_Mo_has_L27 v1 K FU hp 0 (-1) (-1) (-500) = K hp (hasF (lo hp e) (hi hp e) N).1 (hasF (lo hp e) (hi hp e) N).2.1 (hasF (lo hp e) (hi hp e) N).2.2 := by
  rw [← has_it h hs hN]
  refine (for_up (fun n k (s : Int32 × Int32 × Int32) => f_Mo_has_L27 v1 K n hp s.1 s.2.1 s.2.2 (vI k)) N (hasg hp e) (fun s => K hp s.1 s.2.1 s.2.2) (fun _ _ => True) ?_ ?_ N 0 FU (0, -1, -1) (by omega) (FU_gt (by omega)) trivial).1
  · intro n k s hk _
    obtain ⟨x2, x3, x4⟩ := s
    refine ⟨?_, trivial⟩
    simp only [hasg]
    rw [f_Mo_has_L27, if_neg (by rw [le_i, vI_i (by omega)]; have : (500 : Int32).toInt = 500 := rfl; omega), m_isSeen h.1.1 hs, vI_1 (by omega)]
    simp only [Option.bind_some, zi_ite]
    by_cases hq : snb hp (vI k) e = true
    · rw [if_pos hq, if_pos hq]
      by_cases hz : x2 = 0
      · rw [if_pos hz, if_pos hz]
      · rw [if_neg hz, if_neg hz]
    · rw [if_neg hq, if_neg hq]
  · intro n s _
    show f_Mo_has_L27 v1 K (n + 1) hp s.1 s.2.1 s.2.2 (vI N) = _
    rw [f_Mo_has_L27, if_pos (by rw [le_i, vI_i (by omega)]; have : (500 : Int32).toInt = 500 := rfl; omega)]
theorem m_has0 {hp : HP} {b P Cn Tn e : Nat} (h : Rbr hp b P Cn Tn) (hs : Seen hp P e) {a : Int32} (e0 : wi a 0 2 = 1) {N : Nat} (hN : N = 1000) : f_Mo_has hp a = if a = 0 then some ((hasF (lo hp e) (hi hp e) N).1, hp) else if a = 1 then some ((hasF (lo hp e) (hi hp e) N).2.1, hp) else some ((hasF (lo hp e) (hi hp e) N).2.2, hp) := by
  unfold f_Mo_has
  rw [m_in hp a 0 2 (A := 0) (B := 2) rfl rfl, e0, Option.bind_some, if_neg one_ne]
  exact m_has h hs a _ hN
theorem S_has {hp : HP} (h : R hp) (a : Int32) : Sim hp (fun x => f_BA_has x a) (fun x => f_Mo_has x a) := by
  have hR := h
  obtain ⟨b, b', P, Cn, Tn, hr, htx, hbr, hst, him, hpa, hsl⟩ := h
  obtain ⟨ib, eb⟩ := isB_b hr
  obtain ⟨e, hs⟩ := Seen.of hbr.1.1 hsl
  obtain ⟨⟨r1, r2, r3, r4⟩, -⟩ := lohi hbr hs e (Nat.le_refl e)
  obtain ⟨N, hN⟩ : ∃ N : Nat, N = 1000 := ⟨_, rfl⟩
  rcases @wi_lit a 0 2 with ⟨e0, -⟩ | ⟨e0, h1, h2⟩
  · refine Sim.pure (-1000000002) ?_ ?_ hR
    · simp only [f_BA_has, x_within, e0, Option.bind_some, if_true]
    · simp only [f_Mo_has, m_in hp a 0 2 (A := 0) (B := 2) rfl rfl, e0, Option.bind_some, if_true]
  · refine Rd2.sim ?_ hR
    show Rd2 (f_BA_has hp a) (f_Mo_has hp a) hp
    rw [m_has0 hbr hs e0 hN]
    simp only [f_BA_has, x_within, e0, Option.bind_some, if_neg one_ne, eb, ib, if_true, x_lo hbr hs, x_hi hbr hs]
    unfold hasF
    generalize lo hp e = L at r1 r2 ⊢
    generalize hi hp e = H at r3 r4 ⊢
    have d1 : (H - L).toInt = H.toInt - L.toInt := sub_i (by omega)
    have d2 : (H - L + 1).toInt = H.toInt - L.toInt + 1 := by rw [add_i (by rw [d1, i1]; omega), d1, i1]
    have ec : mx 0 (H - L + 1) = nI (cnt L.toInt H.toInt N) := by
      rw [eq_i, mx_i, d2, nI_toInt (by unfold cnt; omega)]; unfold cnt; rw [i0]; omega
    have em : mn (vI (N - 1)) H = H := by rw [eq_i, mn_i, vI_i (by omega)]; omega
    rw [ec, em]
    by_cases ha : a = 0
    · rw [if_pos ha, if_pos ha]
      exact Rd2.of rfl rfl
    · rw [if_neg ha, if_neg ha]
      by_cases hz : cnt L.toInt H.toInt N = 0
      · rw [if_pos hz, if_pos hz, if_pos (by rw [hz]; rfl)]
        by_cases ha1 : a = 1
        · rw [if_pos ha1]
          exact Rd2.of rfl rfl
        · rw [if_neg ha1]
          exact Rd2.of rfl rfl
      · rw [if_neg hz, if_neg hz, if_neg (by exact n_ne (cnt L.toInt H.toInt N) 0 hz (by unfold cnt; omega) (by omega))]
        by_cases ha1 : a = 1
        · rw [if_pos ha1]; try rw [if_pos ha1]
          exact Rd2.of rfl rfl
        · rw [if_neg ha1]; try rw [if_neg ha1]
          exact Rd2.of rfl rfl
end
section
/-- how many of the balances that fit have the part -/
def thg (hp : HP) (e k : Nat) : Nat → Int32 → Int32 := fun j s => if snb hp (vI j) e = true then (if vI j < nd hp k then s else s + 1) else s
theorem th_it {hp : HP} {b P Cn Tn e : Nat} (h : Rbr hp b P Cn Tn) (hs : Seen hp P e) {k : Nat} (hk : k < P) {N : Nat} (hN : N = 1000) : it (thg hp e k) 0 N 0 = nI (cnt (max (lo hp e).toInt (nd hp k).toInt) (hi hp e).toInt N) := by
  obtain ⟨⟨r1, r2, r3, r4⟩, hl⟩ := lohi h hs e (Nat.le_refl e)
  have hn := nd_rg h k hk
  generalize lo hp e = L at r1 r2 hl ⊢
  generalize hi hp e = H at r3 r4 hl ⊢
  have key := it_eq (g := thg hp e k) (k := 0) (d := N) (s := 0) (fun j => nI (cnt (max L.toInt (nd hp k).toInt) H.toInt j)) ?_ ?_
  · rw [Nat.zero_add] at key; exact key
  · show nI (cnt (max L.toInt (nd hp k).toInt) H.toInt 0) = 0
    have : cnt (max L.toInt (nd hp k).toInt) H.toInt 0 = 0 := by unfold cnt; omega
    rw [this]; rfl
  · intro j _ hj
    have hl := hl (vI j) (by rw [vI_i (by omega)]; omega) (by rw [vI_i (by omega)]; omega)
    rw [vI_i (by omega)] at hl
    unfold thg
    by_cases hq : snb hp (vI j) e = true
    · rw [if_pos hq]
      have q := hl.mp hq
      by_cases hv : vI j < nd hp k
      · rw [if_pos hv]
        rw [lt_i, vI_i (by omega)] at hv
        have : cnt (max L.toInt (nd hp k).toInt) H.toInt (j + 1) = cnt (max L.toInt (nd hp k).toInt) H.toInt j := by unfold cnt; omega
        rw [this]
      · rw [if_neg hv]
        rw [lt_i, vI_i (by omega)] at hv
        have : cnt (max L.toInt (nd hp k).toInt) H.toInt (j + 1) = cnt (max L.toInt (nd hp k).toInt) H.toInt j + 1 := by unfold cnt; omega
        rw [this, nI_s]
    · rw [if_neg hq]
      have q : ¬ (L.toInt ≤ (j : Int) - 500 ∧ (j : Int) - 500 ≤ H.toInt) := fun q => hq (hl.mpr q)
      have : cnt (max L.toInt (nd hp k).toInt) H.toInt (j + 1) = cnt (max L.toInt (nd hp k).toInt) H.toInt j := by unfold cnt; omega
      rw [this]
theorem m_there {hp : HP} {b P Cn Tn e : Nat} (h : Rbr hp b P Cn Tn) (hs : Seen hp P e) {k : Nat} (hk : k < P) (v1 v2 v3 : Int32) (K : HP → Int32 → Option (Int32 × HP)) {N : Nat} (hN : N = 1000) : f_Mo_look_L30 v1 v2 v3 (nI k) K FU hp 0 (-500) = K hp (nI (cnt (max (lo hp e).toInt (nd hp k).toInt) (hi hp e).toInt N)) := by
  have p8 := h.1.1
  rw [← th_it h hs hk hN]
  refine (for_up (fun n j s => f_Mo_look_L30 v1 v2 v3 (nI k) K n hp s (vI j)) N (thg hp e k) (fun s => K hp s) (fun _ _ => True) ?_ ?_ N 0 FU 0 (by omega) (FU_gt (by omega)) trivial).1
  · intro n j s hj _
    refine ⟨?_, trivial⟩
    simp only [thg]
    rw [f_Mo_look_L30, if_neg (by rw [le_i, vI_i (by omega)]; have : (500 : Int32).toInt = 500 := rfl; omega), m_isSeen h.1.1 hs, vI_1 (by omega)]
    simp only [Option.bind_some, zi_ite, add_00]
    by_cases hq : snb hp (vI j) e = true
    · rw [if_pos hq, if_pos hq, if_pos (inb_n (by omega) (by omega)), cl_n (by omega)]
      show (if vI j < nd hp k then _ else _) = _
      by_cases hv : vI j < nd hp k
      · rw [if_pos hv, if_pos hv]
      · rw [if_neg hv, if_neg hv]
    · rw [if_neg hq, if_neg hq]
  · intro n s _
    show f_Mo_look_L30 v1 v2 v3 (nI k) K (n + 1) hp s (vI N) = _
    rw [f_Mo_look_L30, if_pos (by rw [le_i, vI_i (by omega)]; have : (500 : Int32).toInt = 500 := rfl; omega)]
def lkg (nd : Nat → Int32) (L H : Int32) : Nat → Int32 × Int32 → Int32 × Int32 := fun k s => if nd k - L ≤ 0 then s else if H - nd k + 1 ≤ 0 then s else if s.2 ≤ mx (nd k - L) (H - nd k + 1) then s else (nI k, mx (nd k - L) (H - nd k + 1))
theorem x_look {hp : HP} {b b' P Cn Tn e : Nat} (hr : Rr hp b b') (h : Rbr hp b P Cn Tn) (hs : Seen hp P e) : f_BA_look hp = some ((it (lkg (nd hp) (lo hp e) (hi hp e)) 0 P (-1, hi hp e - lo hp e + 1)).1, hp) := by
  obtain ⟨ib, eb⟩ := isB_b hr
  have p8 := h.1.1
  unfold f_BA_look
  rw [eb, if_pos ib, x_lo h hs, Option.bind_some]
  dsimp only
  rw [eb, if_pos ib, x_hi h hs, Option.bind_some]
  dsimp only
  refine (for_up (fun n k (s : Int32 × Int32) => f_BA_look_L36 (lo hp e) (hi hp e) (fun hp14 w13 => some (w13, hp14)) n hp s.1 s.2 (nI k)) P (lkg (nd hp) (lo hp e) (hi hp e)) (fun s => some (s.1, hp)) (fun _ _ => True) ?_ ?_ P 0 FU (-1, hi hp e - lo hp e + 1) (by omega) (FU_gt (by omega)) trivial).1
  · intro n k s hk _
    obtain ⟨x3, x4⟩ := s
    refine ⟨?_, trivial⟩
    simp only [lkg]
    rw [f_BA_look_L36, eb, if_pos ib, h.2.1.1, if_neg (by exact n_nle P k (by omega) (by omega)), if_pos (inb_n (by omega) (by omega)), cl_n (by omega), nI_1, (h.2.2.2.1 k hk).1]
    show (if nd hp k - lo hp e ≤ 0 then _ else if hi hp e - nd hp k + 1 ≤ 0 then _ else if x4 ≤ mx (nd hp k - lo hp e) (hi hp e - nd hp k + 1) then _ else f_BA_look_L36 _ _ _ n hp (nI k) (mx (nd hp k - lo hp e) (hi hp e - nd hp k + 1)) _) = _
    by_cases c1 : nd hp k - lo hp e ≤ 0
    · rw [if_pos c1, if_pos c1]
    · rw [if_neg c1, if_neg c1]
      by_cases c2 : hi hp e - nd hp k + 1 ≤ 0
      · rw [if_pos c2, if_pos c2]
      · rw [if_neg c2, if_neg c2]
        by_cases c3 : x4 ≤ mx (nd hp k - lo hp e) (hi hp e - nd hp k + 1)
        · rw [if_pos c3, if_pos c3]
        · rw [if_neg c3, if_neg c3]
  · intro n s _
    show f_BA_look_L36 _ _ _ (n + 1) hp s.1 s.2 (nI P) = _
    rw [f_BA_look_L36, eb, if_pos ib, h.2.1.1, if_pos (by exact n_le P P (by omega) (by omega))]
def lkm (nd : Nat → Int32) (L H : Int32) (A : Int32) (N : Nat) : Nat → Int32 × Int32 → Int32 × Int32 := fun k s => if nI (cnt (max L.toInt (nd k).toInt) H.toInt N) ≤ A - nI (cnt (max L.toInt (nd k).toInt) H.toInt N) then (if s.2 ≤ A - nI (cnt (max L.toInt (nd k).toInt) H.toInt N) then s else (nI k, A - nI (cnt (max L.toInt (nd k).toInt) H.toInt N))) else (if s.2 ≤ nI (cnt (max L.toInt (nd k).toInt) H.toInt N) then s else (nI k, nI (cnt (max L.toInt (nd k).toInt) H.toInt N)))
theorem m_look {hp : HP} {b P Cn Tn e : Nat} (h : Rbr hp b P Cn Tn) (hs : Seen hp P e) {N : Nat} (hN : N = 1000) : f_Mo_look hp = some ((it (lkm (nd hp) (lo hp e) (hi hp e) (nI (cnt (lo hp e).toInt (hi hp e).toInt N)) N) 0 P (-1, nI (cnt (lo hp e).toInt (hi hp e).toInt N))).1, hp) := by
  have p8 := h.1.1
  unfold f_Mo_look
  rw [m_has0 h hs (by rfl) hN, if_pos rfl, Option.bind_some]
  dsimp only
  unfold hasF
  dsimp only
  generalize hA : nI (cnt (lo hp e).toInt (hi hp e).toInt N) = A
  refine (for_up (fun n k (s : Int32 × Int32) => f_Mo_look_L13 A (fun hp20 w19 => some (w19, hp20)) n hp s.1 s.2 (nI k)) P (lkm (nd hp) (lo hp e) (hi hp e) A N) (fun s => some (s.1, hp)) (fun _ _ => True) ?_ ?_ P 0 FU (-1, A) (by omega) (FU_gt (by omega)) trivial).1
  · intro n k s hk _
    obtain ⟨x3, x4⟩ := s
    refine ⟨?_, trivial⟩
    simp only [lkm]
    rw [f_Mo_look_L13, h.2.2.1.1, if_neg (by exact n_nle P k (by omega) (by omega)), m_there h hs hk _ _ _ _ hN, nI_1]
    generalize nI (cnt (max (lo hp e).toInt (nd hp k).toInt) (hi hp e).toInt N) = c
    by_cases c1 : c ≤ A - c
    · rw [if_pos c1, if_pos c1]
      by_cases c2 : x4 ≤ A - c
      · rw [if_pos c2, if_pos c2]
      · rw [if_neg c2, if_neg c2]
    · rw [if_neg c1, if_neg c1]
      by_cases c2 : x4 ≤ c
      · rw [if_pos c2, if_pos c2]
      · rw [if_neg c2, if_neg c2]
  · intro n s _
    show f_Mo_look_L13 _ _ (n + 1) hp s.1 s.2 (nI P) = _
    rw [f_Mo_look_L13, h.2.2.1.1, if_pos (by exact n_le P P (by omega) (by omega))]
theorem look_eq {hp : HP} {b P Cn Tn e : Nat} (h : Rbr hp b P Cn Tn) (hs : Seen hp P e) {N : Nat} (hN : N = 1000) : ∀ k, k ≤ P → (it (lkm (nd hp) (lo hp e) (hi hp e) (nI (cnt (lo hp e).toInt (hi hp e).toInt N)) N) 0 k (-1, nI (cnt (lo hp e).toInt (hi hp e).toInt N))).1 = (it (lkg (nd hp) (lo hp e) (hi hp e)) 0 k (-1, hi hp e - lo hp e + 1)).1 ∧ (0 < cnt (lo hp e).toInt (hi hp e).toInt N → (it (lkm (nd hp) (lo hp e) (hi hp e) (nI (cnt (lo hp e).toInt (hi hp e).toInt N)) N) 0 k (-1, nI (cnt (lo hp e).toInt (hi hp e).toInt N))).2 = (it (lkg (nd hp) (lo hp e) (hi hp e)) 0 k (-1, hi hp e - lo hp e + 1)).2) ∧ ((it (lkm (nd hp) (lo hp e) (hi hp e) (nI (cnt (lo hp e).toInt (hi hp e).toInt N)) N) 0 k (-1, nI (cnt (lo hp e).toInt (hi hp e).toInt N))).2.toInt ≤ (cnt (lo hp e).toInt (hi hp e).toInt N : Int)) := by
  obtain ⟨⟨r1, r2, r3, r4⟩, -⟩ := lohi h hs e (Nat.le_refl e)
  have hnd := nd_rg h
  generalize lo hp e = L at r1 r2 ⊢
  generalize hi hp e = H at r3 r4 ⊢
  generalize nd hp = nd at hnd ⊢
  have cA : (cnt L.toInt H.toInt N : Int) = max 0 (H.toInt + 1 - L.toInt) := by unfold cnt; omega
  have cN : cnt L.toInt H.toInt N < 2 ^ 31 := by omega
  intro k
  induction k with
  | zero =>
    intro _
    refine ⟨rfl, fun h0 => ?_, ?_⟩
    · show nI (cnt L.toInt H.toInt N) = H - L + 1
      have d1 : (H - L).toInt = H.toInt - L.toInt := sub_i (by omega)
      rw [eq_i, nI_toInt cN, add_i (by rw [d1, i1]; omega), d1, i1]; omega
    · show (nI (cnt L.toInt H.toInt N)).toInt ≤ _
      rw [nI_toInt cN]; omega
  | succ k ih =>
    intro hk
    obtain ⟨ih1, ih2, ih3⟩ := ih (by omega)
    have hn := hnd k (by omega)
    rw [it_succ, it_succ, Nat.zero_add]
    generalize it (lkm nd L H (nI (cnt L.toInt H.toInt N)) N) 0 k (-1, nI (cnt L.toInt H.toInt N)) = sm at ih1 ih2 ih3 ⊢
    generalize it (lkg nd L H) 0 k (-1, H - L + 1) = sx at ih1 ih2 ⊢
    obtain ⟨m1, m2⟩ := sm
    obtain ⟨x1, x2⟩ := sx
    simp only at ih1 ih2 ih3
    subst ih1
    have cc : (cnt (max L.toInt (nd k).toInt) H.toInt N : Int) = max 0 (H.toInt + 1 - max L.toInt (nd k).toInt) := by unfold cnt; omega
    have c31 : cnt (max L.toInt (nd k).toInt) H.toInt N < 2 ^ 31 := by omega
    simp only [lkm, lkg]
    have t1 : (nI (cnt L.toInt H.toInt N)).toInt = (cnt L.toInt H.toInt N : Int) := nI_toInt cN
    have t2 : (nI (cnt (max L.toInt (nd k).toInt) H.toInt N)).toInt = (cnt (max L.toInt (nd k).toInt) H.toInt N : Int) := nI_toInt c31
    generalize nI (cnt L.toInt H.toInt N) = A at t1 ⊢
    generalize nI (cnt (max L.toInt (nd k).toInt) H.toInt N) = c at t2 ⊢
    have d3 : (A - c).toInt = A.toInt - c.toInt := sub_i (by omega)
    have d4 : (nd k - L).toInt = (nd k).toInt - L.toInt := sub_i (by omega)
    have d5 : (H - nd k).toInt = H.toInt - (nd k).toInt := sub_i (by omega)
    have d6 : (H - nd k + 1).toInt = H.toInt - (nd k).toInt + 1 := by rw [add_i (by rw [d5, i1]; omega), d5, i1]
    have same : ∀ s : Int32 × Int32, (A.toInt ≤ c.toInt ∨ c.toInt ≤ 0) → m2.toInt ≤ A.toInt → (if c ≤ A - c then (if m2 ≤ A - c then (m1, m2) else (nI k, A - c)) else (if m2 ≤ c then (m1, m2) else (nI k, c))) = (m1, m2) := by
      intro s hh h2
      by_cases c1 : c ≤ A - c
      · rw [if_pos c1, if_pos (by rw [le_i] at c1 ⊢; omega)]
      · rw [if_neg c1, if_pos (by rw [le_i] at c1 ⊢; omega)]
    by_cases c1 : nd k - L ≤ 0
    · rw [if_pos c1, same (0, 0) (by rw [le_i, d4, i0] at c1; omega) (by omega)]
      exact ⟨rfl, ih2, ih3⟩
    · rw [if_neg c1]
      rw [le_i, d4, i0] at c1
      by_cases c2 : H - nd k + 1 ≤ 0
      · rw [if_pos c2, same (0, 0) (by rw [le_i, d6, i0] at c2; omega) (by omega)]
        exact ⟨rfl, ih2, ih3⟩
      · rw [if_neg c2]
        rw [le_i, d6, i0] at c2
        have hx : m2 = x2 := ih2 (by omega)
        subst hx
        have e1 : c = H - nd k + 1 := by rw [eq_i, d6]; omega
        have e2 : A - c = nd k - L := by rw [eq_i, d3, d4]; omega
        rw [e2]
        rw [e2] at d3
        by_cases c3 : c ≤ nd k - L
        · have e3 : mx (nd k - L) (H - nd k + 1) = nd k - L := by rw [← e1]; rw [le_i] at c3; rw [eq_i, mx_i]; omega
          rw [if_pos c3, e3]
          by_cases c4 : m2 ≤ nd k - L
          · rw [if_pos c4]
            exact ⟨rfl, fun _ => rfl, ih3⟩
          · rw [if_neg c4]
            exact ⟨rfl, fun _ => rfl, by show (nd k - L).toInt ≤ _; omega⟩
        · have e3 : mx (nd k - L) (H - nd k + 1) = c := by rw [← e1]; rw [le_i] at c3; rw [eq_i, mx_i]; omega
          rw [if_neg c3, e3]
          by_cases c4 : m2 ≤ c
          · rw [if_pos c4]
            exact ⟨rfl, fun _ => rfl, ih3⟩
          · rw [if_neg c4]
            exact ⟨rfl, fun _ => rfl, by show c.toInt ≤ _; omega⟩
theorem S_look {hp : HP} (h : R hp) : Sim hp (fun x => f_BA_look x) (fun x => f_Mo_look x) := by
  have hR := h
  obtain ⟨b, b', P, Cn, Tn, hr, htx, hbr, hst, him, hpa, hsl⟩ := h
  obtain ⟨e, hs⟩ := Seen.of hbr.1.1 hsl
  obtain ⟨N, hN⟩ : ∃ N : Nat, N = 1000 := ⟨_, rfl⟩
  refine Sim.pure _ (x_look hr hbr hs) ?_ hR
  show f_Mo_look hp = _
  rw [m_look hbr hs hN, (look_eq hbr hs hN P (Nat.le_refl P)).1]
end
section
def cntb (p : Nat → Bool) : Nat → Nat
  | 0 => 0
  | n + 1 => cntb p n + (if p n = true then 1 else 0)
theorem cntb_le {p q : Nat → Bool} : ∀ {n : Nat}, (∀ k, k < n → p k = true → q k = true) → cntb p n ≤ cntb q n
  | 0, _ => Nat.le_refl _
  | n + 1, h => by
    have ih := cntb_le (n := n) (fun k hk => h k (by omega))
    unfold cntb
    by_cases hp : p n = true
    · rw [if_pos hp, if_pos (h n (by omega) hp)]; omega
    · rw [if_neg hp]; omega
theorem cntb_lt {p q : Nat → Bool} : ∀ {n : Nat}, (∀ k, k < n → p k = true → q k = true) → (∃ k, k < n ∧ q k = true ∧ ¬ p k = true) → cntb p n < cntb q n
  | 0, _, ⟨k, hk, _⟩ => by omega
  | n + 1, h, ⟨k, hk, h1, h2⟩ => by
    unfold cntb
    by_cases e : k = n
    · subst e
      have ih := cntb_le (n := k) (fun j hj => h j (by omega))
      rw [if_neg h2, if_pos h1]; omega
    · have ih := cntb_lt (n := n) (fun j hj => h j (by omega)) ⟨k, by omega, h1, h2⟩
      by_cases hp : p n = true
      · rw [if_pos hp, if_pos (h n (by omega) hp)]; omega
      · rw [if_neg hp]; omega
theorem cntb_cong {p q : Nat → Bool} {n : Nat} (h : ∀ k, k < n → (p k = true ↔ q k = true)) : cntb p n = cntb q n :=
  Nat.le_antisymm (cntb_le (fun k hk => (h k hk).mp)) (cntb_le (fun k hk => (h k hk).mpr))
theorem cntb_max {p : Nat → Bool} : ∀ n, cntb p n ≤ n
  | 0 => Nat.le_refl _
  | n + 1 => by
    have := cntb_max (p := p) n
    unfold cntb
    split <;> omega
theorem cntb_add {p q : Nat → Bool} {l : Nat} : ∀ {n : Nat}, l < n → ¬ p l = true → (∀ k, q k = true ↔ p k = true ∨ k = l) → cntb q n = cntb p n + 1
  | 0, h, _, _ => by omega
  | n + 1, h, h1, h2 => by
    unfold cntb
    by_cases e : l = n
    · subst e
      have : cntb q l = cntb p l := cntb_cong (fun k hk => (h2 k).trans ⟨fun q => q.elim id (fun q => by omega), Or.inl⟩)
      rw [this, if_pos ((h2 l).mpr (Or.inr rfl)), if_neg h1]
    · rw [cntb_add (n := n) (by omega) h1 h2]
      by_cases hp : p n = true
      · rw [if_pos hp, if_pos ((h2 n).mpr (Or.inl hp))]
      · rw [if_neg hp, if_neg (fun q => ((h2 n).mp q).elim hp (fun q => e q.symm))]
/-- one part goes ahead of another -/
def bf (nd : Nat → Int32) (j k : Nat) : Bool := decide (nd k < nd j) || (decide (nd j = nd k) && decide (j < k))
theorem bf_iff (nd : Nat → Int32) (j k : Nat) : bf nd j k = true ↔ (nd k).toInt < (nd j).toInt ∨ ((nd j).toInt = (nd k).toInt ∧ j < k) := by
  unfold bf
  simp only [Bool.or_eq_true, Bool.and_eq_true, decide_eq_true_eq, lt_i, eq_i]
def rk (nd : Nat → Int32) (P k : Nat) : Nat := cntb (fun j => bf nd j k) P
theorem rk_inj {nd : Nat → Int32} {P k l : Nat} (hk : k < P) (hl : l < P) (e : rk nd P k = rk nd P l) : k = l := by
  rcases Nat.lt_trichotomy k l with q | q | q
  · exfalso
    by_cases hb : bf nd k l = true
    · have : rk nd P k < rk nd P l := cntb_lt (fun j _ hj => by rw [bf_iff] at *; omega) ⟨k, hk, hb, by rw [bf_iff]; omega⟩
      omega
    · have : rk nd P l < rk nd P k := cntb_lt (fun j _ hj => by rw [bf_iff] at *; omega) ⟨l, hl, by rw [bf_iff] at *; omega, by rw [bf_iff]; omega⟩
      omega
  · exact q
  · exfalso
    by_cases hb : bf nd k l = true
    · have : rk nd P k < rk nd P l := cntb_lt (fun j _ hj => by rw [bf_iff] at *; omega) ⟨k, hk, hb, by rw [bf_iff]; omega⟩
      omega
    · have : rk nd P l < rk nd P k := cntb_lt (fun j _ hj => by rw [bf_iff] at *; omega) ⟨l, hl, by rw [bf_iff] at *; omega, by rw [bf_iff]; omega⟩
      omega
theorem rk_lt {nd : Nat → Int32} {P k : Nat} (hk : k < P) : rk nd P k < P := by
  have h1 : rk nd P k < cntb (fun _ => true) P := cntb_lt (fun _ _ _ => rfl) ⟨k, hk, rfl, by rw [bf_iff]; omega⟩
  have h2 := cntb_max (p := fun _ => true) P
  omega
theorem x_gone {hp : HP} {b P Cn Tn : Nat} (h : Rbr hp b P Cn Tn) {k : Nat} (hk : k < P) : f_Br_goneAheadOf hp b (nI k) = some (nI (rk (nd hp) P k), hp) := by
  have p8 := h.1.1
  unfold f_Br_goneAheadOf
  have key := it_eq (g := fun j s => if bf (nd hp) j k = true then s + 1 else s) (k := 0) (d := P) (s := (0 : Int32)) (fun j => nI (cntb (fun j => bf (nd hp) j k) j)) rfl (by
    intro j _ _
    show (if bf (nd hp) j k = true then nI _ + 1 else nI _) = nI (cntb _ j + if bf (nd hp) j k = true then 1 else 0)
    split
    · rw [nI_s]
    · rfl)
  rw [Nat.zero_add] at key
  show _ = some (nI (cntb (fun j => bf (nd hp) j k) P), hp)
  rw [← key]
  refine (for_up (fun n j s => f_Br_goneAheadOf_L4 b (nI k) (fun hp8 w7 => some (w7, hp8)) n hp s (nI j)) P (fun j s => if bf (nd hp) j k = true then s + 1 else s) (fun s => some (s, hp)) (fun _ _ => True) ?_ ?_ P 0 FU 0 (by omega) (FU_gt (by omega)) trivial).1
  · intro n j s hj _
    refine ⟨?_, trivial⟩
    show f_Br_goneAheadOf_L4 b (nI k) _ (n + 1) hp s (nI j) = f_Br_goneAheadOf_L4 b (nI k) _ n hp (if bf (nd hp) j k = true then s + 1 else s) (nI (j + 1))
    rw [f_Br_goneAheadOf_L4, h.2.1.1, if_neg (by exact n_nle P j (by omega) (by omega)), if_pos (inb_n (by omega) (by omega)), if_pos (inb_n (by omega) (by omega)), cl_n (by omega), cl_n (by omega), (h.2.2.2.1 k hk).1, (h.2.2.2.1 j hj).1, nI_1]
    show (if nd hp k < nd hp j then _ else if nd hp j = nd hp k then if nI k ≤ nI j then _ else _ else _) = _
    by_cases c1 : nd hp k < nd hp j
    · rw [if_pos c1, if_pos (by rw [bf_iff]; rw [lt_i] at c1; exact Or.inl c1)]
    · rw [if_neg c1]
      by_cases c2 : nd hp j = nd hp k
      · rw [if_pos c2]
        by_cases c3 : k ≤ j
        · rw [if_pos (by exact n_le k j c3 (by omega)), if_neg (by rw [bf_iff]; rw [lt_i] at c1; omega)]
        · rw [if_neg (by exact n_nle k j (by omega) (by omega)), if_pos (by rw [bf_iff]; exact Or.inr ⟨by rw [c2], by omega⟩)]
      · rw [if_neg c2, if_neg (by rw [bf_iff]; rw [lt_i] at c1; rw [eq_i] at c2; omega)]
  · intro n s _
    show f_Br_goneAheadOf_L4 b (nI k) _ (n + 1) hp s (nI P) = _
    rw [f_Br_goneAheadOf_L4, h.2.1.1, if_pos (by exact n_le P P (by omega) (by omega))]
theorem x_order {hp : HP} {b b' P Cn Tn : Nat} (hr : Rr hp b b') (h : Rbr hp b P Cn Tn) (a : Int32) : f_BA_order hp a = itx (fun k (_ : Unit) => if nI (rk (nd hp) P k) = a then some (some (nI k, hp)) else none) (fun _ u => u) (fun _ => some (-1, hp)) 0 P () := by
  obtain ⟨ib, eb⟩ := isB_b hr
  have p8 := h.1.1
  unfold f_BA_order
  refine for_ex (fun n k (_ : Unit) => f_BA_order_L2 a (fun hp6 => some (-1, hp6)) n hp (nI k)) P _ _ _ (fun _ _ => True) ?_ ?_ P 0 FU () (by omega) (FU_gt (by omega)) trivial
  · intro n k _ hk _
    refine ⟨?_, fun _ => trivial⟩
    show f_BA_order_L2 a _ (n + 1) hp (nI k) = _
    rw [f_BA_order_L2, eb, if_pos ib, h.2.1.1, if_neg (by exact n_nle P k (by omega) (by omega)), x_gone h hk]
    simp only [Option.bind_some, nI_1]
    by_cases q : nI (rk (nd hp) P k) = a
    · rw [if_pos q, if_pos q]
    · rw [if_neg q, if_neg q]
  · intro n _ _
    show f_BA_order_L2 a _ (n + 1) hp (nI P) = _
    rw [f_BA_order_L2, eb, if_pos ib, h.2.1.1, if_pos (by exact n_le P P (by omega) (by omega))]
theorem x_order_no {hp : HP} {P : Nat} {a : Int32} (hn : ∀ k, k < P → ¬ nI (rk (nd hp) P k) = a) : ∀ d k, k + d = P → itx (fun k (_ : Unit) => if nI (rk (nd hp) P k) = a then some (some (nI k, hp)) else none) (fun _ u => u) (fun _ => some ((-1 : Int32), hp)) k d () = some (-1, hp)
  | 0, _, _ => rfl
  | d + 1, k, h => by
    unfold itx
    rw [if_neg (hn k (by omega))]
    exact x_order_no hn d (k + 1) (by omega)
theorem x_order_at {hp : HP} {P l : Nat} (h8 : P ≤ 8) (hl : l < P) : ∀ d k, k + d = P → k ≤ l → itx (fun k (_ : Unit) => if nI (rk (nd hp) P k) = nI (rk (nd hp) P l) then some (some (nI k, hp)) else none) (fun _ u => u) (fun _ => some ((-1 : Int32), hp)) k d () = some (nI l, hp)
  | 0, _, _, _ => by omega
  | d + 1, k, h, hk => by
    unfold itx
    by_cases e : k = l
    · subst e; rw [if_pos rfl]
    · have hr1 := rk_lt (nd := nd hp) (P := P) (k := k) (by omega)
      have hr2 := rk_lt (nd := nd hp) (P := P) (k := l) (by omega)
      rw [if_neg (by exact n_ne _ _ (fun q => e (rk_inj (by omega) hl q)) (by omega) (by omega))]
      exact x_order_at h8 hl d (k + 1) (by omega) (by omega)
def enc : Option Nat → Int32
  | none => -1
  | some j => nI j
def slg (nd : Nat → Int32) (g : Nat) : Nat → Option Nat → Option Nat := fun k o => if g.testBit k = true then o else match o with
  | none => some k
  | some j => if (nd k).toInt ≤ (nd j).toInt then some j else some k
def sel (nd : Nat → Int32) (g k : Nat) : Option Nat := it (slg nd g) 0 k none
theorem sel_spec (nd : Nat → Int32) (g : Nat) : ∀ k, (sel nd g k = none ∧ ∀ j, j < k → g.testBit j = true) ∨ ∃ l, sel nd g k = some l ∧ l < k ∧ ¬ g.testBit l = true ∧ ∀ j, j < k → ¬ g.testBit j = true → j ≠ l → bf nd l j = true
  | 0 => Or.inl ⟨rfl, fun j hj => by omega⟩
  | k + 1 => by
    have e : sel nd g (k + 1) = slg nd g k (sel nd g k) := by unfold sel; rw [it_succ, Nat.zero_add]
    rw [e]
    unfold slg
    by_cases hg : g.testBit k = true
    · rw [if_pos hg]
      rcases sel_spec nd g k with ⟨h1, h2⟩ | ⟨l, h1, h2, h3, h4⟩
      · refine Or.inl ⟨h1, fun j hj => ?_⟩
        rcases Nat.lt_or_ge j k with q | q
        · exact h2 j q
        · have : j = k := by omega
          subst this; exact hg
      · refine Or.inr ⟨l, h1, by omega, h3, fun j hj hj2 hj3 => ?_⟩
        rcases Nat.lt_or_ge j k with q | q
        · exact h4 j q hj2 hj3
        · have : j = k := by omega
          subst this; exact absurd hg hj2
    · rw [if_neg hg]
      rcases sel_spec nd g k with ⟨h1, h2⟩ | ⟨l, h1, h2, h3, h4⟩
      · rw [h1]
        refine Or.inr ⟨k, rfl, by omega, hg, fun j hj hj2 hj3 => absurd (h2 j (by omega)) hj2⟩
      · rw [h1]
        show _ ∨ ∃ l', (if (nd k).toInt ≤ (nd l).toInt then some l else some k) = some l' ∧ _
        by_cases hn : (nd k).toInt ≤ (nd l).toInt
        · rw [if_pos hn]
          refine Or.inr ⟨l, rfl, by omega, h3, fun j hj hj2 hj3 => ?_⟩
          rcases Nat.lt_or_ge j k with q | q
          · exact h4 j q hj2 hj3
          · have : j = k := by omega
            subst this; rw [bf_iff]; omega
        · rw [if_neg hn]
          refine Or.inr ⟨k, rfl, by omega, hg, fun j hj hj2 hj3 => ?_⟩
          by_cases hjl : j = l
          · subst hjl; rw [bf_iff]; omega
          · have := h4 j (by omega) hj2 hjl
            rw [bf_iff] at *; omega
theorem m_sel {hp : HP} {b P Cn Tn : Nat} (h : Rbr hp b P Cn Tn) (v1 v4 : Int32) {g : Nat} (hg : g < 256) (K : HP → Int32 → Option (Int32 × HP)) : f_Mo_order_L27 v1 (nI g) v4 K FU hp (-1) 0 = K hp (enc (sel (nd hp) g P)) := by
  have p8 := h.1.1
  refine (for_up (fun n k o => f_Mo_order_L27 v1 (nI g) v4 K n hp (enc o) (nI k)) P (slg (nd hp) g) (fun o => K hp (enc o)) (fun k o => ∀ j, o = some j → j < k) ?_ ?_ P 0 FU none (by omega) (FU_gt (by omega)) (fun j hj => by cases hj)).1
  · intro n k o hk hI
    refine ⟨?_, ?_⟩
    · show f_Mo_order_L27 v1 (nI g) v4 K (n + 1) hp (enc o) (nI k) = f_Mo_order_L27 v1 (nI g) v4 K n hp (enc (slg (nd hp) g k o)) (nI (k + 1))
      rw [f_Mo_order_L27, h.2.2.1.1, if_neg (by exact n_nle P k (by omega) (by omega)), nI_1]
      unfold f_Mo_isIn slg
      have hb := n_bit (n := g) (k := k) hg (by omega)
      by_cases hq : g.testBit k = true
      · rw [if_pos (hb.mpr hq), if_pos hq]
        simp only [Option.bind_some, if_neg one_ne]
      · rw [if_neg (fun q => hq (hb.mp q)), if_neg hq]
        simp only [Option.bind_some, if_true]
        cases o with
        | none =>
          rw [if_pos (show enc none = -1 from rfl)]
          rfl
        | some j =>
          have hj := hI j rfl
          rw [if_neg (show ¬ enc (some j) = -1 by show ¬ nI j = -1; rw [eq_i, nI_toInt (by omega)]; have : (-1 : Int32).toInt = -1 := rfl; omega)]
          show (if inb (nI k) 8 = true then (if inb (nI j) 8 = true then (if hp 102 (nI k).toNatClampNeg ≤ hp 102 (nI j).toNatClampNeg then _ else _) else _) else _) = f_Mo_order_L27 v1 (nI g) v4 K n hp (enc (if (nd hp k).toInt ≤ (nd hp j).toInt then some j else some k)) (nI (k + 1))
          rw [if_pos (inb_n (by omega) (by omega)), if_pos (inb_n (by omega) (by omega)), cl_n (by omega), cl_n (by omega)]
          have r1 := h.2.2.2.1 k hk
          have r2 := h.2.2.2.1 j (by omega)
          have e5 : (500 : Int32).toInt = 500 := rfl
          have d1 : (nd hp k).toInt = (hp 102 k).toInt - 500 := by unfold nd; rw [sub_i (by rw [e5]; omega), e5]
          have d2 : (nd hp j).toInt = (hp 102 j).toInt - 500 := by unfold nd; rw [sub_i (by rw [e5]; omega), e5]
          by_cases hc : hp 102 k ≤ hp 102 j
          · rw [if_pos hc, if_pos (by rw [le_i] at hc; omega)]
          · rw [if_neg hc, if_neg (by rw [le_i] at hc; omega)]
            rfl
    · intro j hj
      unfold slg at hj
      by_cases hq : g.testBit k = true
      · rw [if_pos hq] at hj
        have := hI j hj
        omega
      · rw [if_neg hq] at hj
        cases o with
        | none => cases hj; omega
        | some i =>
          have hi := hI i rfl
          replace hj : (if (nd hp k).toInt ≤ (nd hp i).toInt then some i else some k) = some j := hj
          split at hj
          · cases hj; omega
          · cases hj; omega
  · intro n o _
    show f_Mo_order_L27 v1 (nI g) v4 K (n + 1) hp (enc o) (nI P) = _
    rw [f_Mo_order_L27, h.2.2.1.1, if_pos (by exact n_le P P (by omega) (by omega))]
/-- n parts are gone, the first n of the order -/
def Gn (nd : Nat → Int32) (P n g : Nat) : Prop := g < 2 ^ P ∧ cntb (fun j => g.testBit j) P = n ∧ ∀ j j', j < P → j' < P → g.testBit j = true → ¬ g.testBit j' = true → bf nd j j' = true
theorem Gn_step {nd : Nat → Int32} {P n g : Nat} (h : Gn nd P n g) (hn : n < P) : ∃ l, sel nd g P = some l ∧ l < P ∧ rk nd P l = n ∧ Gn nd P (n + 1) (g ||| 2 ^ l) := by
  obtain ⟨h1, h2, h3⟩ := h
  rcases sel_spec nd g P with ⟨q1, q2⟩ | ⟨l, q1, q2, q3, q4⟩
  · exfalso
    have : cntb (fun _ => true) P ≤ cntb (fun j => g.testBit j) P := cntb_le (fun k hk _ => q2 k hk)
    have hall : ∀ P, cntb (fun _ => true) P = P := by
      intro P
      induction P with
      | zero => rfl
      | succ P ih => unfold cntb; rw [ih, if_pos rfl]
    rw [hall] at this
    omega
  · refine ⟨l, q1, q2, ?_, ?_, ?_, ?_⟩
    · rw [← h2]
      refine cntb_cong (fun j hj => ?_)
      constructor
      · intro hb
        cases hg : g.testBit j with
        | true => rfl
        | false =>
          exfalso
          by_cases e : j = l
          · subst e; rw [bf_iff] at hb; omega
          · have := q4 j hj (by rw [hg]; decide) e
            rw [bf_iff] at *; omega
      · intro hg
        exact h3 j l hj q2 hg q3
    · exact Nat.or_lt_two_pow h1 (Nat.pow_lt_pow_right (by decide) q2)
    · rw [← h2]
      refine cntb_add q2 q3 (fun k => ?_)
      show (g ||| 2 ^ l).testBit k = true ↔ _
      rw [Nat.testBit_or, Bool.or_eq_true, Nat.testBit_two_pow, decide_eq_true_eq]
      constructor
      · rintro (q | q)
        · exact Or.inl q
        · exact Or.inr q.symm
      · rintro (q | q)
        · exact Or.inl q
        · exact Or.inr q.symm
    · intro j j' hj hj' hb hb'
      rw [Nat.testBit_or, Bool.or_eq_true, Nat.testBit_two_pow, decide_eq_true_eq] at hb hb'
      have n1 : ¬ g.testBit j' = true := fun q => hb' (Or.inl q)
      have n2 : j' ≠ l := fun q => hb' (Or.inr q.symm)
      rcases hb with hb | hb
      · exact h3 j j' hj hj' hb n1
      · subst hb
        exact q4 j' hj' n1 n2
theorem m_order_run {hp : HP} {b P Cn Tn : Nat} (h : Rbr hp b P Cn Tn) {v : Int32} (K : HP → Int32 → Option (Int32 × HP)) {i : Nat} (hv : v = nI i) (hi : i < P) : ∀ d m n g last, n + d = i + 1 → d < m → Gn (nd hp) P n g → (n = 0 ∨ ∃ l, l < P ∧ last = nI l ∧ rk (nd hp) P l + 1 = n) → ∃ l, l < P ∧ rk (nd hp) P l = i ∧ f_Mo_order_L7 v K m hp (nI g) last (nI n) = K hp (nI l) := by
  have p8 := h.1.1
  have h8 := pow8 p8
  subst hv
  intro d
  induction d with
  | zero =>
    intro m n g last hn hm hG hl
    obtain ⟨m, rfl⟩ : ∃ k, m = k + 1 := ⟨m - 1, by omega⟩
    rcases hl with hl | ⟨l, hl, rfl, hr⟩
    · omega
    · refine ⟨l, hl, by omega, ?_⟩
      rw [f_Mo_order_L7, if_pos (by exact n_lt i n (by omega) (by omega))]
  | succ d ih =>
    intro m n g last hn hm hG hl
    obtain ⟨m, rfl⟩ : ∃ k, m = k + 1 := ⟨m - 1, by omega⟩
    obtain ⟨l, e1, e2, e3, e4⟩ := Gn_step hG (by omega)
    have hg := hG.1
    rw [f_Mo_order_L7, if_neg (by exact n_nlt i n (by omega) (by omega)), h.2.2.1.1, if_neg (by exact n_nle P n (by omega) (by omega)), m_sel h _ _ (by omega), e1]
    show ∃ l_1, l_1 < P ∧ rk (nd hp) P l_1 = i ∧ f_Mo_order_L7 (nI i) K m hp (nI g ||| ((1 : Int32) <<< (nI l &&& 31))) (nI l) (nI n + 1) = K hp (nI l_1)
    rw [n_shl l (by omega), n_or, nI_s]
    exact ih m (n + 1) (g ||| 2 ^ l) (nI l) (by omega) (by omega) e4 (Or.inr ⟨l, e2, rfl, by omega⟩)
theorem m_order_far {hp : HP} {b P Cn Tn : Nat} (h : Rbr hp b P Cn Tn) {v : Int32} (K : HP → Int32 → Option (Int32 × HP)) (hv : ¬ (0 ≤ v.toInt ∧ v.toInt < P)) : ∀ d m n g last, n + d = P → d < m → Gn (nd hp) P n g → ∃ last', f_Mo_order_L7 v K m hp (nI g) last (nI n) = K hp last' := by
  have p8 := h.1.1
  have h8 := pow8 p8
  intro d
  induction d with
  | zero =>
    intro m n g last hn hm hG
    obtain ⟨m, rfl⟩ : ∃ k, m = k + 1 := ⟨m - 1, by omega⟩
    rw [f_Mo_order_L7]
    by_cases c : v < nI n
    · rw [if_pos c]; exact ⟨_, rfl⟩
    · rw [if_neg c, h.2.2.1.1, if_pos (by exact n_le P n (by omega) (by omega))]; exact ⟨_, rfl⟩
  | succ d ih =>
    intro m n g last hn hm hG
    obtain ⟨m, rfl⟩ : ∃ k, m = k + 1 := ⟨m - 1, by omega⟩
    obtain ⟨l, e1, e2, e3, e4⟩ := Gn_step hG (by omega)
    have hg := hG.1
    rw [f_Mo_order_L7]
    by_cases c : v < nI n
    · rw [if_pos c]; exact ⟨_, rfl⟩
    · rw [if_neg c, h.2.2.1.1, if_neg (by exact n_nle P n (by omega) (by omega)), m_sel h _ _ (by omega), e1]
      show ∃ last', f_Mo_order_L7 v K m hp (nI g ||| ((1 : Int32) <<< (nI l &&& 31))) (nI l) (nI n + 1) = K hp last'
      rw [n_shl l (by omega), n_or, nI_s]
      exact ih m (n + 1) (g ||| 2 ^ l) (nI l) (by omega) (by omega) e4
theorem Gn_0 (nd : Nat → Int32) (P : Nat) : Gn nd P 0 0 := by
  refine ⟨Nat.two_pow_pos P, ?_, fun j j' _ _ h => ?_⟩
  · induction P with
    | zero => rfl
    | succ P ih => unfold cntb; rw [ih]; simp
  · simp at h
theorem S_order {hp : HP} (h : R hp) (a : Int32) : Sim hp (fun x => f_BA_order x a) (fun x => f_Mo_order x a) := by
  have hR := h
  obtain ⟨b, b', P, Cn, Tn, hr, htx, hbr, hst, him, hpa, hsl⟩ := h
  have p8 := hbr.1.1
  by_cases ha : 0 ≤ a.toInt ∧ a.toInt < P
  · obtain ⟨i, hi, rfl⟩ := of_rg (x := a) (n := P) ha.1 ha.2
    obtain ⟨l, hl, e1, e2⟩ := m_order_run hbr (fun hp14 w13 => ((f_Mo_in hp14 (nI i).toInt64 (0 : Int64) (((hp14 99 3) - (1 : Int32))).toInt64).bind fun p16 => if p16.1 = 0 then some ((-1 : Int32), p16.2) else some (w13, p16.2))) rfl hi (i + 1) FU 0 0 (-1) (by omega) (FU_gt (by omega)) (Gn_0 _ _) (Or.inl rfl)
    refine Sim.pure (nI l) ?_ ?_ hR
    · show f_BA_order hp (nI i) = _
      rw [x_order hr hbr, ← e1]
      exact x_order_at p8 hl P 0 (by omega) (by omega)
    · show f_Mo_order hp (nI i) = _
      unfold f_Mo_order
      refine e2.trans ?_
      show ((f_Mo_in hp (nI i).toInt64 0 (hp 99 3 - 1).toInt64).bind fun p16 => if p16.1 = 0 then some ((-1 : Int32), p16.2) else some (nI l, p16.2)) = _
      rw [hbr.2.2.1.1, m_in hp (nI i) 0 (nI P - 1) (A := 0) rfl rfl, wi_in (by omega) hi]
      rfl
  · obtain ⟨l, e2⟩ := m_order_far hbr (v := a) (fun hp14 w13 => ((f_Mo_in hp14 a.toInt64 (0 : Int64) (((hp14 99 3) - (1 : Int32))).toInt64).bind fun p16 => if p16.1 = 0 then some ((-1 : Int32), p16.2) else some (w13, p16.2))) ha P FU 0 0 (-1) (by omega) (FU_gt (by omega)) (Gn_0 _ _)
    refine Sim.pure (-1) ?_ ?_ hR
    · show f_BA_order hp a = _
      rw [x_order hr hbr]
      refine x_order_no (fun k hk q => ha ?_) P 0 (by omega)
      have := rk_lt (nd := nd hp) hk
      rw [← q, nI_toInt (by omega)]; omega
    · show f_Mo_order hp a = _
      unfold f_Mo_order
      refine e2.trans ?_
      show ((f_Mo_in hp a.toInt64 0 (hp 99 3 - 1).toInt64).bind fun p16 => if p16.1 = 0 then some ((-1 : Int32), p16.2) else some (l, p16.2)) = _
      rw [hbr.2.2.1.1, m_in hp a 0 (nI P - 1) (A := 0) rfl rfl]
      rcases wi_n a (N := P) (by omega) with e | ⟨k, hk, rfl, e⟩
      · rw [e]; rfl
      · exact absurd (by rw [nI_toInt (by omega)]; omega) ha
end
section
/-- what of the slate a plan needs -/
def mtn (hp : HP) (i : Nat) : Nat := (hp 111 i).toNatClampNeg
def PS (hp : HP) (Tn s m : Nat) : Prop := (s ≤ 5 ∧ m ≤ 4) ∧ (hp 68 7 = nI s ∧ hp 68 8 = nI m) ∧ (hp 99 23 = nI s ∧ hp 99 25 = nI m) ∧ (∀ i, i < s → hp 69 i = hp 110 i ∧ 1 ≤ (hp 110 i).toInt ∧ (hp 110 i).toInt ≤ 999) ∧ (∀ i, i < m → hp 70 i = nI (mtn hp i) ∧ hp 111 i = nI (mtn hp i) ∧ mtn hp i < Tn ∧ hp 71 i = hp 112 i)
theorem PS.of {hp : HP} {P Cn Tn : Nat} (t6 : Tn ≤ 6) (h : Rsl hp P Cn Tn) : ∃ s m, PS hp Tn s m := by
  obtain ⟨s, m, e, z, ⟨ls, lm, le, lz⟩, ⟨x7, x8, x9, x10⟩, ⟨y7, y8, y9, y10⟩, hs, hm, he, hz⟩ := h
  refine ⟨s, m, ⟨ls, lm⟩, ⟨x7, x8⟩, ⟨y7, y8⟩, hs, fun i hi => ?_⟩
  obtain ⟨e1, e2, ⟨t, ht, e3⟩, -⟩ := hm i hi
  have : mtn hp i = t := by unfold mtn; rw [e3, nI_clamp (by omega)]
  rw [this]
  exact ⟨e1.trans e3, e3, ht, e2⟩
theorem setc_2 (hp : HP) (k : Nat) (f g : Nat → Int32) : setc (setc hp k f) k g = setc hp k g := by
  funext q
  unfold setc
  split <;> rfl
theorem up_setc (hp : HP) (k : Nat) (f : Nat → Int32) (j : Nat) (v : Int32) : up (setc hp k f) k j v = setc hp k (upd f j v) := by
  unfold up
  rw [setc_2, setc_at]
theorem setc_self (hp : HP) (k : Nat) : setc hp k (hp k) = hp := by
  funext q
  unfold setc
  split
  · rename_i h; rw [h]
  · rfl
/-- months of musts, all, in the class: the last is ahead of n -/
def alb (hp : HP) (P m : Nat) (k : Nat) (v : Int32) : Nat → Bool
  | 0 => true
  | i + 1 => alb hp P m k v i && (!(decide (hp 112 i = nI k)) || dnb (nd hp) (tkn hp (mtn hp i)) P v)
def alx (hp : HP) (P k : Nat) (v : Int32) : Nat → Unit → Option (Option (Int32 × HP)) := fun i _ => if hp 112 i = nI k then (if dnb (nd hp) (tkn hp (mtn hp i)) P v = true then none else some (some (0, hp))) else none
theorem alx_b {hp : HP} {P k m : Nat} {v : Int32} {fin : Option (Int32 × HP)} : ∀ d i, i + d = m → itx (alx hp P k v) (fun _ u => u) (fun _ => fin) i d () = if ((List.range d).all (fun j => !(decide (hp 112 (i + j) = nI k)) || dnb (nd hp) (tkn hp (mtn hp (i + j))) P v)) = true then fin else some (0, hp) := by
  intro d
  induction d with
  | zero => intro i _; rfl
  | succ d ih =>
    intro i hi
    unfold itx
    have e : (List.range (d + 1)).all (fun j => !(decide (hp 112 (i + j) = nI k)) || dnb (nd hp) (tkn hp (mtn hp (i + j))) P v) = ((!(decide (hp 112 i = nI k)) || dnb (nd hp) (tkn hp (mtn hp i)) P v) && (List.range d).all (fun j => !(decide (hp 112 (i + 1 + j) = nI k)) || dnb (nd hp) (tkn hp (mtn hp (i + 1 + j))) P v)) := by
      rw [List.range_succ_eq_map, List.all_cons, List.all_map]
      congr 1
      refine congrArg (fun g => (List.range d).all g) (funext fun j => ?_)
      show (!(decide (hp 112 (i + (j + 1)) = nI k)) || _) = _
      rw [show i + (j + 1) = i + 1 + j by omega]
    rw [e]
    unfold alx
    by_cases c1 : hp 112 i = nI k
    · rw [if_pos c1, decide_eq_true c1]
      cases c2 : dnb (nd hp) (tkn hp (mtn hp i)) P v with
      | true =>
        rw [if_pos rfl]
        exact ih (i + 1) (by omega)
      | false =>
        rw [if_neg (by decide)]
        rfl
    · rw [if_neg c1, decide_eq_false c1]
      exact ih (i + 1) (by omega)
def alm (hp : HP) (P m k : Nat) (v : Int32) : Bool := (List.range m).all (fun j => !(decide (hp 112 (0 + j) = nI k)) || dnb (nd hp) (tkn hp (mtn hp (0 + j))) P v)
theorem x_all_do {hp : HP} {b P Cn Tn s m : Nat} (h : Rbr hp b P Cn Tn) (hs : PS hp Tn s m) {k : Nat} {v : Int32} (hv : -100000 ≤ v.toInt) : f_Pl_isAllDoable hp (nI k) v b = some (zi (alm hp P m k v), hp) := by
  obtain ⟨⟨s5, m4⟩, ⟨x7, x8⟩, ⟨y7, y8⟩, hsu, hmu⟩ := hs
  unfold f_Pl_isAllDoable
  have key : f_Pl_isAllDoable_L3 (nI k) v b (fun hp7 => some (1, hp7)) FU hp 0 = itx (alx hp P k v) (fun _ u => u) (fun _ => some (1, hp)) 0 m () := by
    refine for_ex (fun n i (_ : Unit) => f_Pl_isAllDoable_L3 (nI k) v b (fun hp7 => some (1, hp7)) n hp (nI i)) m _ _ _ (fun _ _ => True) ?_ ?_ m 0 FU () (by omega) (FU_gt (by omega)) trivial
    · intro n i _ hi _
      refine ⟨?_, fun _ => trivial⟩
      obtain ⟨k1, k2, k3, k4⟩ := hmu i hi
      show f_Pl_isAllDoable_L3 (nI k) v b _ (n + 1) hp (nI i) = _
      rw [f_Pl_isAllDoable_L3, x8, if_neg (by exact n_nle m i (by omega) (by omega)), if_pos (inb_n (by omega) (by omega)), cl_n (by omega), k4, k1, x_do h k3 hv]
      simp only [Option.bind_some, zi_ite, nI_1, alx]
      by_cases c1 : hp 112 i = nI k
      · rw [if_pos c1, if_pos c1]
        cases dnb (nd hp) (tkn hp (mtn hp i)) P v <;> rfl
      · rw [if_neg c1, if_neg c1]
    · intro n _ _
      show f_Pl_isAllDoable_L3 (nI k) v b _ (n + 1) hp (nI m) = _
      rw [f_Pl_isAllDoable_L3, x8, if_pos (by exact n_le m m (by omega) (by omega))]
  rw [key, alx_b (m := m) m 0 (by omega)]
  unfold zi alm
  split <;> rfl
theorem m_all_do {hp : HP} {b P Cn Tn s m : Nat} (h : Rbr hp b P Cn Tn) (hs : PS hp Tn s m) {k : Nat} (v v1 v2 : Int32) (K : HP → Option (Int32 × HP)) : f_Mo_isPlan_L68 v1 v2 v (nI k) K FU hp 0 = if alm hp P m k v = true then K hp else some (0, hp) := by
  obtain ⟨⟨s5, m4⟩, ⟨x7, x8⟩, ⟨y7, y8⟩, hsu, hmu⟩ := hs
  have key : f_Mo_isPlan_L68 v1 v2 v (nI k) K FU hp 0 = itx (alx hp P k v) (fun _ u => u) (fun _ => K hp) 0 m () := by
    refine for_ex (fun n i (_ : Unit) => f_Mo_isPlan_L68 v1 v2 v (nI k) K n hp (nI i)) m _ _ _ (fun _ _ => True) ?_ ?_ m 0 FU () (by omega) (FU_gt (by omega)) trivial
    · intro n i _ hi _
      refine ⟨?_, fun _ => trivial⟩
      obtain ⟨k1, k2, k3, k4⟩ := hmu i hi
      show f_Mo_isPlan_L68 v1 v2 v (nI k) K (n + 1) hp (nI i) = _
      rw [f_Mo_isPlan_L68, y8, if_neg (by exact n_nle m i (by omega) (by omega)), if_pos (inb_n (by omega) (by omega)), cl_n (by omega), k2, m_do h k3]
      simp only [Option.bind_some, zi_ite, nI_1, alx]
      by_cases c1 : hp 112 i = nI k
      · rw [if_pos c1, if_pos c1]
        cases dnb (nd hp) (tkn hp (mtn hp i)) P v <;> rfl
      · rw [if_neg c1, if_neg c1]
    · intro n _ _
      show f_Mo_isPlan_L68 v1 v2 v (nI k) K (n + 1) hp (nI m) = _
      rw [f_Mo_isPlan_L68, y8, if_pos (by exact n_le m m (by omega) (by omega))]
  rw [key, alx_b (m := m) m 0 (by omega)]
  rfl
/-- the sum that a row of months gives to month k -/
def smg (su ga : Nat → Int32) (k : Nat) : Nat → Int32 → Int32 := fun e s => if ga e = nI k then s + su e else s
def sm (su ga : Nat → Int32) (k s : Nat) : Int32 := it (smg su ga k) 0 s 0
theorem x_sum {hp : HP} {Tn s m : Nat} (hs : PS hp Tn s m) (k : Nat) : f_Pl_sumGivenTo hp (nI k) = some (sm (hp 110) (hp 77) k s, hp) := by
  obtain ⟨⟨s5, m4⟩, ⟨x7, x8⟩, ⟨y7, y8⟩, hsu, hmu⟩ := hs
  unfold f_Pl_sumGivenTo
  refine (for_up (fun n e s => f_Pl_sumGivenTo_L5 (nI k) (fun hp5 w4 => some (w4, hp5)) n hp s (nI e)) s (smg (hp 110) (hp 77) k) (fun s => some (s, hp)) (fun _ _ => True) ?_ ?_ s 0 FU 0 (by omega) (FU_gt (by omega)) trivial).1
  · intro n e v he _
    refine ⟨?_, trivial⟩
    show f_Pl_sumGivenTo_L5 (nI k) _ (n + 1) hp v (nI e) = _
    rw [f_Pl_sumGivenTo_L5, x7, if_neg (by exact n_nle s e (by omega) (by omega)), if_pos (inb_n (by omega) (by omega)), cl_n (by omega), (hsu e he).1, nI_1]
    unfold smg
    by_cases c : hp 77 e = nI k
    · rw [if_pos c, if_pos c]
    · rw [if_neg c, if_neg c]
  · intro n v _
    show f_Pl_sumGivenTo_L5 (nI k) _ (n + 1) hp v (nI s) = _
    rw [f_Pl_sumGivenTo_L5, x7, if_pos (by exact n_le s s (by omega) (by omega))]
theorem sm_rg {su ga : Nat → Int32} {k s : Nat} (s5 : s ≤ 5) (h : ∀ i, i < s → 1 ≤ (su i).toInt ∧ (su i).toInt ≤ 999) : ∀ j, j ≤ s → 0 ≤ (sm su ga k j).toInt ∧ (sm su ga k j).toInt ≤ 999 * j := by
  intro j
  induction j with
  | zero =>
    intro _
    refine ⟨?_, ?_⟩
    · show 0 ≤ (0 : Int32).toInt; decide
    · show (0 : Int32).toInt ≤ 999 * ((0 : Nat) : Int); decide
  | succ j ih =>
    intro hj
    obtain ⟨i1, i2⟩ := ih (by omega)
    have hr := h j (by omega)
    have e : sm su ga k (j + 1) = if ga j = nI k then sm su ga k j + su j else sm su ga k j := by
      unfold sm; rw [it_succ, Nat.zero_add]; rfl
    rw [e]
    split
    · rw [add_i (by omega)]; omega
    · omega
theorem m_sum {hp : HP} {Tn s m : Nat} (hs : PS hp Tn s m) (k : Nat) (v1 v2 v : Int32) (hv : -9999 ≤ v.toInt ∧ v.toInt ≤ 9999) (K : HP → Int32 → Option (Int32 × HP)) : f_Mo_isPlan_L21 v1 v2 (nI k) K FU hp v 0 = K hp (cla (v - sm (hp 110) (hp 113) k s)) := by
  obtain ⟨⟨s5, m4⟩, ⟨x7, x8⟩, ⟨y7, y8⟩, hsu, hmu⟩ := hs
  have key := it_eq (g := fun e w => if hp 113 e = nI k then cla (w - hp 110 e) else w) (k := 0) (d := s) (s := v) (fun j => cla (v - sm (hp 110) (hp 113) k j)) ?_ ?_
  · rw [Nat.zero_add] at key
    rw [← key]
    refine (for_up (fun n e w => f_Mo_isPlan_L21 v1 v2 (nI k) K n hp w (nI e)) s (fun e w => if hp 113 e = nI k then cla (w - hp 110 e) else w) (fun w => K hp w) (fun _ _ => True) ?_ ?_ s 0 FU v (by omega) (FU_gt (by omega)) trivial).1
    · intro n e w he _
      refine ⟨?_, trivial⟩
      show f_Mo_isPlan_L21 v1 v2 (nI k) K (n + 1) hp w (nI e) = _
      rw [f_Mo_isPlan_L21, y7, if_neg (by exact n_nle s e (by omega) (by omega)), if_pos (inb_n (by omega) (by omega)), cl_n (by omega), m_bounded, nI_1]
      simp only [Option.bind_some]
      by_cases c : hp 113 e = nI k
      · rw [if_pos c, if_pos c]
      · rw [if_neg c, if_neg c]
    · intro n w _
      show f_Mo_isPlan_L21 v1 v2 (nI k) K (n + 1) hp w (nI s) = _
      rw [f_Mo_isPlan_L21, y7, if_pos (by exact n_le s s (by omega) (by omega))]
  · show cla (v - 0) = v
    rw [eq_i, cla_i, sub_i (by rw [i0]; omega), i0]; omega
  · intro j _ hj
    have hr := sm_rg (su := hp 110) (ga := hp 113) (k := k) s5 (fun i hi => (hsu i hi).2) j (by omega)
    have hr2 := (hsu j (by omega)).2
    have e : sm (hp 110) (hp 113) k (j + 1) = if hp 113 j = nI k then sm (hp 110) (hp 113) k j + hp 110 j else sm (hp 110) (hp 113) k j := by
      unfold sm; rw [it_succ, Nat.zero_add]; rfl
    show (if hp 113 j = nI k then cla (cla (v - sm (hp 110) (hp 113) k j) - hp 110 j) else cla (v - sm (hp 110) (hp 113) k j)) = cla (v - sm (hp 110) (hp 113) k (j + 1))
    rw [e]
    by_cases c : hp 113 j = nI k
    · rw [if_pos c, if_pos c]
      generalize sm (hp 110) (hp 113) k j = S at hr ⊢
      generalize hp 110 j = x at hr2 ⊢
      have d1 : (v - S).toInt = v.toInt - S.toInt := sub_i (by omega)
      have d2 : (S + x).toInt = S.toInt + x.toInt := add_i (by omega)
      have d3 : (v - (S + x)).toInt = v.toInt - (S.toInt + x.toInt) := by rw [sub_i (by rw [d2]; omega), d2]
      have d4 : (cla (v - S)).toInt = max (-9999) (min 9999 (v.toInt - S.toInt)) := by rw [cla_i, d1]
      have d5 : (cla (v - S) - x).toInt = (cla (v - S)).toInt - x.toInt := sub_i (by rw [d4]; omega)
      rw [eq_i, cla_i, cla_i, d5, d4, d3]; omega
    · rw [if_neg c, if_neg c]
theorem sm_cong {su ga ga' : Nat → Int32} {k s : Nat} (h : ∀ e, e < s → ga e = ga' e) : sm su ga k s = sm su ga' k s := it_cong s 0 0 (fun j v _ hj => by unfold smg; rw [h j (by omega)])
/-- a row of months works -/
def wk (S : Nat → Int32) (A : Nat → Int32 → Bool) (M : Int32 → Int32) : Nat → Nat → Int32 → Bool
  | 0, _, _ => true
  | d + 1, k, v => if A k (cla (v - S k)) = true then wk S A M d (k + 1) (M (cla (v - S k))) else false
theorem wk_cong {S S' : Nat → Int32} {A : Nat → Int32 → Bool} {M : Int32 → Int32} (h : ∀ k, S k = S' k) (d k : Nat) (v : Int32) : wk S A M d k v = wk S' A M d k v := by
  rw [funext h]
theorem cla_rg (x : Int32) : -9999 ≤ (cla x).toInt ∧ (cla x).toInt ≤ 9999 := by rw [cla_i]; omega
theorem x_works {hp : HP} {b P Cn Tn s m : Nat} (h : Rbr hp b P Cn Tn) (hs : PS hp Tn s m) {c n : Nat} (hc : c < Cn) (hn : n ≤ 4) (K : HP → Option (Int32 × HP)) : ∀ d f k u, k + d = n → d < f → (-9999 ≤ u.toInt ∧ u.toInt ≤ 9999) → f_Pl_works_L7 b (nI c) (nI n) K f hp u (nI k) = if wk (fun k => sm (hp 110) (hp 77) k s) (alm hp P m) (am hp c) d k (if k = 0 then u else am hp c u) = true then K hp else some (0, hp) := by
  intro d
  induction d with
  | zero =>
    intro f k u hk hf hu
    obtain ⟨f, rfl⟩ : ∃ j, f = j + 1 := ⟨f - 1, by omega⟩
    rw [f_Pl_works_L7, if_pos (by exact n_le n k (by omega) (by omega))]
    rfl
  | succ d ih =>
    intro f k u hk hf hu
    obtain ⟨f, rfl⟩ : ∃ j, f = j + 1 := ⟨f - 1, by omega⟩
    rw [f_Pl_works_L7, if_neg (by exact n_nle n k (by omega) (by omega))]
    have step : ∀ v : Int32, ((f_Pl_sumGivenTo hp (nI k)).bind fun p4 => ((f_BA_bounded p4.2 (v - p4.1)).bind fun p6 => ((f_Pl_isAllDoable p6.2 (nI k) p6.1 b).bind fun p8 => if p8.1 = 0 then some ((0 : Int32), p8.2) else f_Pl_works_L7 b (nI c) (nI n) K f p8.2 p6.1 (nI k + 1)))) = if wk (fun k => sm (hp 110) (hp 77) k s) (alm hp P m) (am hp c) (d + 1) k v = true then K hp else some (0, hp) := by
      intro v
      have hcr := cla_rg (v - sm (hp 110) (hp 77) k s)
      rw [x_sum hs k]
      simp only [Option.bind_some, x_bounded]
      rw [x_all_do h hs (by omega)]
      simp only [Option.bind_some, zi_ite, nI_s]
      rw [ih f (k + 1) (cla (v - sm (hp 110) (hp 77) k s)) (by omega) (by omega) hcr, if_neg (Nat.succ_ne_zero k)]
      rw [wk]
      cases alm hp P m k (cla (v - sm (hp 110) (hp 77) k s)) <;> rfl
    by_cases hk0 : k = 0
    · subst hk0
      rw [if_pos (by decide), if_pos rfl]
      exact step u
    · rw [if_neg (by exact n_nle k 0 (by omega) (by omega)), if_neg hk0, x_am h hc]
      simp only [Option.bind_some]
      exact step (am hp c u)
theorem m_works {hp : HP} {b P Cn Tn s m : Nat} (h : Rbr hp b P Cn Tn) (hs : PS hp Tn s m) {c n : Nat} (hc : c < Cn) (hn : n ≤ 4) (K : HP → Option (Int32 × HP)) : ∀ d f k u, k + d = n → d < f → (-9999 ≤ u.toInt ∧ u.toInt ≤ 9999) → f_Mo_isPlan_L12 (nI c) (nI n) K f hp u (nI k) = if wk (fun k => sm (hp 110) (hp 113) k s) (alm hp P m) (am hp c) d k u = true then K hp else some (0, hp) := by
  intro d
  induction d with
  | zero =>
    intro f k u hk hf hu
    obtain ⟨f, rfl⟩ : ∃ j, f = j + 1 := ⟨f - 1, by omega⟩
    rw [f_Mo_isPlan_L12, if_pos (by exact n_le n k (by omega) (by omega))]
    rfl
  | succ d ih =>
    intro f k u hk hf hu
    obtain ⟨f, rfl⟩ : ∃ j, f = j + 1 := ⟨f - 1, by omega⟩
    rw [f_Mo_isPlan_L12, if_neg (by exact n_nle n k (by omega) (by omega)), m_sum hs k _ _ u hu]
    rw [m_all_do h hs, m_am h hc]
    simp only [Option.bind_some, nI_s]
    rw [ih f (k + 1) _ (by omega) (by omega) (am_rg hp c _)]
    rw [wk]
    cases alm hp P m k (cla (u - sm (hp 110) (hp 113) k s)) <;> rfl
end
section
def gvg (s n : Nat) : Nat → (Nat → Int32) × Int32 → (Nat → Int32) × Int32 := fun j st => (upd st.1 (s - 1 - j) (st.2 - st.2 / nI n * nI n), st.2 / nI n)
def gv (s n w : Nat) (f : Nat → Int32) : Nat → Int32 := (it (gvg s n) 0 s (f, nI w)).1
theorem gv_rel (s n w : Nat) (f f' : Nat → Int32) : ∀ e, e < s → gv s n w f e = gv s n w f' e := by
  have key : ∀ j, j ≤ s → (it (gvg s n) 0 j (f, nI w)).2 = (it (gvg s n) 0 j (f', nI w)).2 ∧ ∀ e, s - j ≤ e → e < s → (it (gvg s n) 0 j (f, nI w)).1 e = (it (gvg s n) 0 j (f', nI w)).1 e := by
    intro j
    induction j with
    | zero => intro _; exact ⟨rfl, fun e h1 h2 => by omega⟩
    | succ j ih =>
      intro hj
      obtain ⟨h1, h2⟩ := ih (by omega)
      rw [it_succ, it_succ, Nat.zero_add]
      generalize it (gvg s n) 0 j (f, nI w) = x at h1 h2 ⊢
      generalize it (gvg s n) 0 j (f', nI w) = y at h1 h2 ⊢
      obtain ⟨x1, x2⟩ := x
      obtain ⟨y1, y2⟩ := y
      simp only at h1 h2
      subst h1
      simp only [gvg]
      refine ⟨trivial, fun e e1 e2 => ?_⟩
      rw [upd_ap, upd_ap]
      by_cases q : e = s - 1 - j
      · rw [if_pos q, if_pos q]
      · rw [if_neg q, if_neg q]
        exact h2 e (by omega) e2
  intro e he
  exact (key s (Nat.le_refl s)).2 e (by omega) he
def ix (s j : Nat) : Int32 := nI s - nI (j + 1)
theorem ix_n {s j : Nat} (h : j < s) : ix s j = nI (s - 1 - j) := by
  unfold ix; rw [pk_sub (by omega), show s - (j + 1) = s - 1 - j by omega]
theorem ix_i {s j : Nat} (hs : s ≤ 5) (hj : j ≤ 5) : (ix s j).toInt = (s : Int) - j - 1 := by
  unfold ix; rw [sub_i (by rw [nI_toInt (by omega), nI_toInt (by omega)]; omega), nI_toInt (by omega), nI_toInt (by omega)]; omega
theorem ix_s {s j : Nat} (hs : s ≤ 5) (hj : j < s) : ix s j + (-1) = ix s (j + 1) := by
  have im : (-1 : Int32).toInt = -1 := rfl
  rw [eq_i, add_i (by rw [ix_i hs (by omega), im]; omega), ix_i hs (by omega), ix_i hs (by omega), im]; omega
theorem x_give {hp : HP} {s n w : Nat} (s5 : s ≤ 5) (n1 : 1 ≤ n) (n4 : n ≤ 4) (K : HP → Option (Int32 × HP)) (f : Nat → Int32) : f_Pl_give_L8 (nI n) K FU (setc hp 77 f) (nI w) (nI s - 1) = K (setc hp 77 (gv s n w f)) := by
  refine (for_up (fun m j (st : (Nat → Int32) × Int32) => f_Pl_give_L8 (nI n) K m (setc hp 77 st.1) st.2 (ix s j)) s (gvg s n) (fun st => K (setc hp 77 st.1)) (fun _ _ => True) ?_ ?_ s 0 FU (f, nI w) (by omega) (FU_gt (by omega)) trivial).1
  · intro m j st hj _
    obtain ⟨x, r⟩ := st
    refine ⟨?_, trivial⟩
    simp only [gvg]
    rw [f_Pl_give_L8, if_neg (by rw [lt_i, ix_i s5 (by omega), i0]; omega), if_neg (by exact n_nle n 0 (by omega) (by omega)), if_neg (by exact n_ne n 0 (by omega) (by omega) (by omega)), if_pos (by rw [ix_n hj]; exact inb_n (by omega) (by omega)), ix_s s5 hj, up_setc, ix_n hj, cl_n (by omega)]
  · intro m st _
    show f_Pl_give_L8 (nI n) K (m + 1) (setc hp 77 st.1) st.2 (ix s s) = _
    rw [f_Pl_give_L8, if_pos (by rw [lt_i, ix_i s5 s5, i0]; omega)]
theorem m_give {hp : HP} {s n w : Nat} (s5 : s ≤ 5) (n1 : 1 ≤ n) (n4 : n ≤ 4) (v1 v3 v5 v6 : Int32) (K : HP → Option (Int32 × HP)) (f : Nat → Int32) : f_Mo_plan_L124 v1 (nI n) v3 v5 v6 K FU (setc hp 113 f) (nI w) (nI s - 1) = K (setc hp 113 (gv s n w f)) := by
  refine (for_up (fun m j (st : (Nat → Int32) × Int32) => f_Mo_plan_L124 v1 (nI n) v3 v5 v6 K m (setc hp 113 st.1) st.2 (ix s j)) s (gvg s n) (fun st => K (setc hp 113 st.1)) (fun _ _ => True) ?_ ?_ s 0 FU (f, nI w) (by omega) (FU_gt (by omega)) trivial).1
  · intro m j st hj _
    obtain ⟨x, r⟩ := st
    refine ⟨?_, trivial⟩
    simp only [gvg]
    rw [f_Mo_plan_L124, if_neg (by rw [lt_i, ix_i s5 (by omega), i0]; omega), if_neg (by exact n_ne n 0 (by omega) (by omega) (by omega)), if_pos (by rw [ix_n hj]; exact inb_n (by omega) (by omega)), ix_s s5 hj, up_setc, ix_n hj, cl_n (by omega)]
  · intro m st _
    show f_Mo_plan_L124 v1 (nI n) v3 v5 v6 K (m + 1) (setc hp 113 st.1) st.2 (ix s s) = _
    rw [f_Mo_plan_L124, if_pos (by rw [lt_i, ix_i s5 s5, i0]; omega)]
/-- the first way that works -/
def fnd (s n : Nat) (ok : (Nat → Int32) → Bool) : Nat → Nat → (Nat → Int32) → Bool × (Nat → Int32)
  | 0, _, f => (false, f)
  | d + 1, w, f => if ok (gv s n w f) = true then (true, gv s n w f) else fnd s n ok d (w + 1) (gv s n w f)
theorem fnd_rel {s n : Nat} {ok : (Nat → Int32) → Bool} (hok : ∀ f f', (∀ e, e < s → f e = f' e) → ok f = ok f') : ∀ d w f f', (fnd s n ok d w f).1 = (fnd s n ok d w f').1 ∧ ((fnd s n ok d w f).1 = true → ∀ e, e < s → (fnd s n ok d w f).2 e = (fnd s n ok d w f').2 e)
  | 0, _, _, _ => ⟨rfl, fun h => absurd (show false = true from h) (by decide)⟩
  | d + 1, w, f, f' => by
    have hr := gv_rel s n w f f'
    have e := hok _ _ hr
    unfold fnd
    rw [← e]
    by_cases q : ok (gv s n w f) = true
    · rw [if_pos q, if_pos q]
      exact ⟨rfl, fun _ => hr⟩
    · rw [if_neg q, if_neg q]
      exact fnd_rel hok d (w + 1) _ _
def okp (hp : HP) (P m s c n : Nat) (v : Int32) : (Nat → Int32) → Bool := fun ga => wk (fun k => sm (hp 110) ga k s) (alm hp P m) (am hp c) n 0 v
theorem okp_cong {hp : HP} {P m s c n : Nat} {v : Int32} : ∀ f f', (∀ e, e < s → f e = f' e) → okp hp P m s c n v f = okp hp P m s c n v f' := fun f f' h => wk_cong (fun k => sm_cong h) n 0 v
theorem Rbr_setc {hp : HP} {b P Cn Tn q : Nat} (hb : b = 87 ∨ b = 93) (hq : q = 77 ∨ q = 113) (f : Nat → Int32) (h : Rbr hp b P Cn Tn) : Rbr (setc hp q f) b P Cn Tn :=
  Rbr_cong hp hb (by intro x hx; rw [setc_ap, if_neg (by omega)]) (by rw [setc_ap, if_neg (by omega)]) (by rw [setc_ap, if_neg (by omega)]) (by rw [setc_ap, if_neg (by omega)]) h
theorem x_find {hp : HP} {b P Cn Tn s m : Nat} (hb : b = 87 ∨ b = 93) (h : Rbr hp b P Cn Tn) (hs : PS hp Tn s m) {c n : Nat} (hc : c < Cn) (n1 : 1 ≤ n) (n4 : n ≤ 4) {v : Int32} (hv : -9999 ≤ v.toInt ∧ v.toInt ≤ 9999) {W : Nat} (hW : W ≤ 1024) (K : HP → Option (Int32 × HP)) : ∀ d fu w f, w + d = W → d < fu → f_Pl_find_L31 b (nI c) v (nI n) (nI W) K fu (setc hp 77 f) (nI w) = if (fnd s n (okp hp P m s c n v) d w f).1 = true then some (1, setc hp 77 (fnd s n (okp hp P m s c n v) d w f).2) else K (setc hp 77 (fnd s n (okp hp P m s c n v) d w f).2) := by
  have s5 := hs.1.1
  intro d
  induction d with
  | zero =>
    intro fu w f hw hf
    obtain ⟨fu, rfl⟩ : ∃ j, fu = j + 1 := ⟨fu - 1, by omega⟩
    rw [f_Pl_find_L31, if_pos (by exact n_le W w (by omega) (by omega))]
    rfl
  | succ d ih =>
    intro fu w f hw hf
    obtain ⟨fu, rfl⟩ : ∃ j, fu = j + 1 := ⟨fu - 1, by omega⟩
    rw [f_Pl_find_L31, if_neg (by exact n_nle W w (by omega) (by omega))]
    have e1 : setc hp 77 f 68 7 = nI s := hs.2.1.1
    rw [e1]
    unfold f_Pl_give
    rw [x_give s5 n1 n4]
    simp only [Option.bind_some]
    have hs' : PS (setc hp 77 (gv s n w f)) Tn s m := hs
    have hr' := Rbr_setc hb (Or.inl rfl) (gv s n w f) h
    have hw := x_works hr' hs' hc n4 (fun hp19 => some (1, hp19)) n FU 0 v (by omega) (FU_gt (by omega)) hv
    have eo : wk (fun k => sm ((setc hp 77 (gv s n w f)) 110) ((setc hp 77 (gv s n w f)) 77) k s) (alm (setc hp 77 (gv s n w f)) P m) (am (setc hp 77 (gv s n w f)) c) n 0 (if 0 = 0 then v else am (setc hp 77 (gv s n w f)) c v) = okp hp P m s c n v (gv s n w f) := by
      rw [if_pos rfl, setc_at]
      rfl
    rw [eo] at hw
    have hw2 : f_Pl_works (setc hp 77 (gv s n w f)) b (nI c) v (nI n) = if okp hp P m s c n v (gv s n w f) = true then some (1, setc hp 77 (gv s n w f)) else some (0, setc hp 77 (gv s n w f)) := hw
    rw [hw2]
    unfold fnd
    by_cases q : okp hp P m s c n v (gv s n w f) = true
    · rw [if_pos q, if_pos q]
      simp only [Option.bind_some, if_neg one_ne, if_true]
    · rw [if_neg q, if_neg q]
      simp only [Option.bind_some, if_true, nI_s]
      exact ih fu (w + 1) _ (by omega) (by omega)
def ansm (s : Nat) (v3 : Int32) (hp : HP) : Option (Int32 × HP) := if v3 = (-1 : Int32) then some ((1 : Int32), hp) else if wi v3 0 (nI s - 1) = 0 then some ((-1 : Int32), hp) else some (hp 113 v3.toNatClampNeg, hp)
theorem m_find {hp : HP} {b P Cn Tn s m : Nat} (hb : b = 87 ∨ b = 93) (h : Rbr hp b P Cn Tn) (hst : Rst hp Cn) (hs : PS hp Tn s m) {c n : Nat} (hc : c < Cn) (n1 : 1 ≤ n) (n4 : n ≤ 4) {v3 : Int32} {W : Nat} (hW : W ≤ 1024) (K : HP → Option (Int32 × HP)) : ∀ d fu w f, w + d = W → d < fu → f_Mo_plan_L105 (nI c) (nI n) v3 (nI W) K fu (setc hp 113 f) (nI w) = if (fnd s n (okp hp P m s c n (hp 4 c)) d w f).1 = true then ansm s v3 (setc hp 113 (fnd s n (okp hp P m s c n (hp 4 c)) d w f).2) else K (setc hp 113 (fnd s n (okp hp P m s c n (hp 4 c)) d w f).2) := by
  have s5 := hs.1.1
  have c5 := h.1.2.1
  have hv := (hst.1.2.1 c (by omega)).2
  intro d
  induction d with
  | zero =>
    intro fu w f hw hf
    obtain ⟨fu, rfl⟩ : ∃ j, fu = j + 1 := ⟨fu - 1, by omega⟩
    rw [f_Mo_plan_L105, if_pos (by exact n_le W w (by omega) (by omega))]
    rfl
  | succ d ih =>
    intro fu w f hw hf
    obtain ⟨fu, rfl⟩ : ∃ j, fu = j + 1 := ⟨fu - 1, by omega⟩
    rw [f_Mo_plan_L105, if_neg (by exact n_nle W w (by omega) (by omega))]
    have e1 : setc hp 113 f 99 23 = nI s := hs.2.2.1.1
    rw [e1, m_give s5 n1 n4]
    have hs' : PS (setc hp 113 (gv s n w f)) Tn s m := hs
    have hr' := Rbr_setc hb (Or.inr rfl) (gv s n w f) h
    have hw := m_works hr' hs' hc n4 (fun hp19 => some (1, hp19)) n FU 0 (hp 4 c) (by omega) (FU_gt (by omega)) hv
    have eo : wk (fun k => sm ((setc hp 113 (gv s n w f)) 110) ((setc hp 113 (gv s n w f)) 113) k s) (alm (setc hp 113 (gv s n w f)) P m) (am (setc hp 113 (gv s n w f)) c) n 0 (hp 4 c) = okp hp P m s c n (hp 4 c) (gv s n w f) := by
      rw [setc_at]
      rfl
    rw [eo] at hw
    have hw2 : f_Mo_isPlan (setc hp 113 (gv s n w f)) (nI c) (nI n) = if okp hp P m s c n (hp 4 c) (gv s n w f) = true then some (1, setc hp 113 (gv s n w f)) else some (0, setc hp 113 (gv s n w f)) := by
      unfold f_Mo_isPlan
      rw [n_1, if_pos (inb_n (by omega) (by omega)), cl_n (by omega)]
      have e2 : setc hp 113 (gv s n w f) 100 (1 + c) = hp 4 c := (Rst_ba hst (by omega)).symm
      rw [e2]
      exact hw
    rw [hw2]
    unfold fnd
    by_cases q : okp hp P m s c n (hp 4 c) (gv s n w f) = true
    · rw [if_pos q, if_pos q]
      simp only [Option.bind_some, if_neg one_ne, if_true]
      unfold ansm
      by_cases q3 : v3 = -1
      · rw [if_pos q3, if_pos q3]
      · rw [if_neg q3, if_neg q3]
        have e3 : setc hp 113 (gv s n w f) 99 23 = nI s := hs.2.2.1.1
        rw [e3, m_in _ v3 0 (nI s - 1) (A := 0) rfl rfl]
        simp only [Option.bind_some]
        rcases wi_n v3 (N := s) (by omega) with e | ⟨k, hk, rfl, e⟩
        · rw [e, if_pos rfl, if_pos rfl]
        · rw [e, if_neg one_ne, if_neg one_ne, if_pos (inb_n (by omega) (by omega))]
    · rw [if_neg q, if_neg q]
      simp only [Option.bind_some, if_true, nI_s]
      exact ih fu (w + 1) _ (by omega) (by omega)
theorem x_ways {hp : HP} {Tn s m : Nat} (hs : PS hp Tn s m) (q1 : Nat) (v3 v4 : Int32) (n : Nat) (K : HP → Int32 → Option (Int32 × HP)) : f_Pl_find_L6 q1 v3 v4 (nI n) K FU hp 1 0 = K hp (nI (n ^ s)) := by
  have s5 := hs.1.1
  have x7 := hs.2.1.1
  have key := it_eq (g := fun _ w => w * nI n) (k := 0) (d := s) (s := (1 : Int32)) (fun j => nI (n ^ j)) rfl (by intro j _ _; show nI (n ^ j) * nI n = nI (n ^ (j + 1)); rw [pk_mul, Nat.pow_succ])
  rw [Nat.zero_add] at key
  rw [← key]
  refine (for_up (fun f e w => f_Pl_find_L6 q1 v3 v4 (nI n) K f hp w (nI e)) s (fun _ w => w * nI n) (fun w => K hp w) (fun _ _ => True) ?_ ?_ s 0 FU 1 (by omega) (FU_gt (by omega)) trivial).1
  · intro f e w he _
    refine ⟨?_, trivial⟩
    show f_Pl_find_L6 q1 v3 v4 (nI n) K (f + 1) hp w (nI e) = _
    rw [f_Pl_find_L6, x7, if_neg (by exact n_nle s e (by omega) (by omega)), nI_1]
  · intro f w _
    show f_Pl_find_L6 q1 v3 v4 (nI n) K (f + 1) hp w (nI s) = _
    rw [f_Pl_find_L6, x7, if_pos (by exact n_le s s (by omega) (by omega))]
theorem m_ways {hp : HP} {Tn s m : Nat} (hs : PS hp Tn s m) (v1 v3 : Int32) (n : Nat) (K : HP → Int32 → Option (Int32 × HP)) : f_Mo_plan_L81 v1 (nI n) v3 K FU hp 1 0 = K hp (nI (n ^ s)) := by
  have s5 := hs.1.1
  have y7 := hs.2.2.1.1
  have key := it_eq (g := fun _ w => w * nI n) (k := 0) (d := s) (s := (1 : Int32)) (fun j => nI (n ^ j)) rfl (by intro j _ _; show nI (n ^ j) * nI n = nI (n ^ (j + 1)); rw [pk_mul, Nat.pow_succ])
  rw [Nat.zero_add] at key
  rw [← key]
  refine (for_up (fun f e w => f_Mo_plan_L81 v1 (nI n) v3 K f hp w (nI e)) s (fun _ w => w * nI n) (fun w => K hp w) (fun _ _ => True) ?_ ?_ s 0 FU 1 (by omega) (FU_gt (by omega)) trivial).1
  · intro f e w he _
    refine ⟨?_, trivial⟩
    show f_Mo_plan_L81 v1 (nI n) v3 K (f + 1) hp w (nI e) = _
    rw [f_Mo_plan_L81, y7, if_neg (by exact n_nle s e (by omega) (by omega)), nI_1]
  · intro f w _
    show f_Mo_plan_L81 v1 (nI n) v3 K (f + 1) hp w (nI s) = _
    rw [f_Mo_plan_L81, y7, if_pos (by exact n_le s s (by omega) (by omega))]
def ltg (hp : HP) (a : Int32) : Nat → Int32 → Int32 := fun i s => if s = 0 then (if hp 112 i < a then 0 else 1) else 1
theorem m_late {hp : HP} {Tn s m : Nat} (hs : PS hp Tn s m) (v1 a v3 : Int32) (K : HP → Int32 → Option (Int32 × HP)) : f_Mo_plan_L17 v1 a v3 K FU hp 0 0 = K hp (it (ltg hp a) 0 m 0) := by
  have m4 := hs.1.2
  have y8 := hs.2.2.1.2
  refine (for_up (fun f e w => f_Mo_plan_L17 v1 a v3 K f hp w (nI e)) m (ltg hp a) (fun w => K hp w) (fun _ _ => True) ?_ ?_ m 0 FU 0 (by omega) (FU_gt (by omega)) trivial).1
  · intro f e w he _
    refine ⟨?_, trivial⟩
    show f_Mo_plan_L17 v1 a v3 K (f + 1) hp w (nI e) = _
    rw [f_Mo_plan_L17, y8, if_neg (by exact n_nle m e (by omega) (by omega)), nI_1]
    unfold ltg
    by_cases q : w = 0
    · rw [if_pos q, if_pos q, if_pos (inb_n (by omega) (by omega)), cl_n (by omega)]
      split <;> rfl
    · rw [if_neg q, if_neg q]
  · intro f w _
    show f_Mo_plan_L17 v1 a v3 K (f + 1) hp w (nI m) = _
    rw [f_Mo_plan_L17, y8, if_pos (by exact n_le m m (by omega) (by omega))]
theorem ltg_0 (hp : HP) (a : Int32) : ∀ m, (it (ltg hp a) 0 m 0 = 0) ↔ ∀ i, i < m → (hp 112 i).toInt < a.toInt
  | 0 => ⟨fun _ i hi => by omega, fun _ => rfl⟩
  | m + 1 => by
    have ih := ltg_0 hp a m
    rw [it_succ, Nat.zero_add]
    unfold ltg at *
    by_cases q : it (ltg hp a) 0 m 0 = 0
    · have q' := q
      unfold ltg at q'
      rw [if_pos q']
      by_cases c : hp 112 m < a
      · rw [if_pos c]
        rw [lt_i] at c
        refine ⟨fun _ i hi => ?_, fun _ => rfl⟩
        rcases Nat.lt_or_ge i m with r | r
        · exact ih.mp q' i r
        · have : i = m := by omega
          subst this; exact c
      · rw [if_neg c]
        rw [lt_i] at c
        exact ⟨fun h => absurd h one_ne, fun h => absurd (h m (by omega)) c⟩
    · have q' := q
      unfold ltg at q'
      rw [if_neg q']
      exact ⟨fun h => absurd h one_ne, fun h => absurd (ih.mpr (fun i hi => h i (by omega))) q'⟩
theorem x_last {hp : HP} {Tn s m : Nat} (hs : PS hp Tn s m) : ∃ v, f_Sl_lastMustMonth hp = some (v, hp) ∧ ∀ a : Int32, 0 ≤ a.toInt → ((v < a) ↔ ∀ i, i < m → (hp 112 i).toInt < a.toInt) := by
  obtain ⟨⟨s5, m4⟩, ⟨x7, x8⟩, ⟨y7, y8⟩, hsu, hmu⟩ := hs
  refine ⟨it (fun i s => mx s (hp 112 i)) 0 m (-1), ?_, ?_⟩
  · unfold f_Sl_lastMustMonth
    refine (for_up (fun n e w => f_Sl_lastMustMonth_L4 (fun hp4 w3 => some (w3, hp4)) n hp w (nI e)) m (fun i s => mx s (hp 112 i)) (fun w => some (w, hp)) (fun _ _ => True) ?_ ?_ m 0 FU (-1) (by omega) (FU_gt (by omega)) trivial).1
    · intro f e w he _
      refine ⟨?_, trivial⟩
      show f_Sl_lastMustMonth_L4 _ (f + 1) hp w (nI e) = _
      rw [f_Sl_lastMustMonth_L4, x8, if_neg (by exact n_nle m e (by omega) (by omega)), if_pos (inb_n (by omega) (by omega)), cl_n (by omega), (hmu e he).2.2.2, nI_1]
    · intro f w _
      show f_Sl_lastMustMonth_L4 _ (f + 1) hp w (nI m) = _
      rw [f_Sl_lastMustMonth_L4, x8, if_pos (by exact n_le m m (by omega) (by omega))]
  · intro a ha
    have key : ∀ k, (it (fun i s => mx s (hp 112 i)) 0 k (-1) < a) ↔ ∀ i, i < k → (hp 112 i).toInt < a.toInt := by
      intro k
      induction k with
      | zero =>
        refine ⟨fun _ i hi => by omega, fun _ => ?_⟩
        show (-1 : Int32) < a
        rw [lt_i]
        have : (-1 : Int32).toInt = -1 := rfl
        omega
      | succ k ih =>
        rw [it_succ, Nat.zero_add, lt_i, mx_i]
        rw [lt_i] at ih
        constructor
        · intro h i hi
          rcases Nat.lt_or_ge i k with r | r
          · exact ih.mp (by omega) i r
          · have : i = k := by omega
            subst this; omega
        · intro h
          have h1 := ih.mpr (fun i hi => h i (by omega))
          have h2 := h k (by omega)
          omega
    exact key m
theorem pow_1024 {n s : Nat} (hn : n ≤ 4) (hs : s ≤ 5) : n ^ s ≤ 1024 :=
  Nat.le_trans (Nat.pow_le_pow_left hn s) (Nat.le_trans (Nat.pow_le_pow_right (by decide) hs) (by decide))
theorem S_plan {hp : HP} (h : R hp) (a n i : Int32) : Sim hp (fun x => f_BA_plan x a n i) (fun x => f_Mo_plan x a n i) := by
  have hR := h
  obtain ⟨b, b', P, Cn, Tn, hr, htx, hbr, hst, him, hpa, hsl⟩ := h
  obtain ⟨ib, eb⟩ := isB_b hr
  have c5 := hbr.1.2.1
  have t6 := hbr.1.2.2
  obtain ⟨s, m, hs⟩ := PS.of t6 hsl
  have s5 := hs.1.1
  rcases wi_n a (N := Cn) (by omega) with e1 | ⟨c, hc, rfl, e1⟩
  · refine Sim.pure (-1000000001) ?_ ?_ hR
    · simp only [f_BA_plan, eb, ib, x_hasC hbr.2.1.2.1, e1, Option.bind_some, if_true]
    · simp only [f_Mo_plan, m_isC hbr.2.2.1.2.1, e1, Option.bind_some, if_true]
  · have hm0 : ∀ hp' : HP, hp' 99 5 = nI Cn → PS hp' Tn s m → f_Mo_plan hp' (nI c) n i = ((f_Mo_in hp' n.toInt64 (1 : Int64) (4 : Int64)).bind fun p11 => if p11.1 = 0 then some ((-1000000002 : Int32), p11.2) else if it (ltg hp' n) 0 m 0 = 0 then f_Mo_plan_L81 (nI c) n i (fun hp16 w15 => f_Mo_plan_L105 (nI c) n i w15 (fun hp30 => if i = (-1 : Int32) then some ((0 : Int32), hp30) else some ((-1 : Int32), hp30)) FU hp16 (0 : Int32)) FU p11.2 (1 : Int32) (0 : Int32) else some ((-1000000002 : Int32), p11.2)) := by
      intro hp' h5 hps
      unfold f_Mo_plan
      rw [m_isC h5, e1, Option.bind_some]
      show (if (1 : Int32) = 0 then _ else f_Mo_plan_L17 (nI c) n i _ FU hp' 0 0) = _
      rw [if_neg one_ne, m_late hps]
    obtain ⟨lv, hl1, hl2⟩ := x_last hs
    rcases @wi_lit n 1 4 with ⟨e0, -⟩ | ⟨e0, h1, h2⟩
    · refine Sim.pure (-1000000002) ?_ ?_ hR
      · simp only [f_BA_plan, eb, ib, x_hasC hbr.2.1.2.1, e1, x_within, e0, Option.bind_some, if_true, if_neg one_ne]
      · show f_Mo_plan hp (nI c) n i = _
        rw [hm0 hp hbr.2.2.1.2.1 hs, m_in hp n 1 4 (A := 1) (B := 4) rfl rfl, e0]
        rfl
    · have i4 : (4 : Int32).toInt = 4 := rfl
      have hlt := hl2 n (by rw [i1] at h1; omega)
      by_cases hL : ∀ j, j < m → (hp 112 j).toInt < n.toInt
      · rw [i1] at h1
        obtain ⟨n, hn, rfl⟩ := of_rg (x := n) (n := 5) (by omega) (by omega)
        rw [nI_toInt (by omega)] at h1 h2
        have hW := pow_1024 (n := n) (s := s) (by omega) s5
        have hv := (hst.1.2.1 c (by omega)).2
        have hb := Rr_or hr
        have hx : f_BA_plan hp (nI c) (nI n) i = (f_Pl_find hp b (nI c) (hp 4 c) (nI n)).bind fun p14 => if i = (-1 : Int32) then (if p14.1 = 0 then some ((0 : Int32), p14.2) else some ((1 : Int32), p14.2)) else (if p14.1 = 0 then some ((-1 : Int32), p14.2) else ((f_BA_within p14.2 i (0 : Int32) ((p14.2 68 7) - (1 : Int32))).bind fun p19 => if p19.1 = 0 then some ((-1 : Int32), p19.2) else (if inb i 5 then some ((p19.2 77 (i).toNatClampNeg), p19.2) else none))) := by
          unfold f_BA_plan
          rw [eb, if_pos ib, x_hasC hbr.2.1.2.1, e1, Option.bind_some]
          dsimp only
          rw [if_neg one_ne, x_within, e0, Option.bind_some]
          dsimp only
          rw [if_neg one_ne, hl1, Option.bind_some]
          dsimp only
          rw [if_pos (hlt.mpr hL), eb, if_pos ib, if_pos (inb_n (by omega) (by omega)), cl_n (by omega)]
        have hfind : f_Pl_find hp b (nI c) (hp 4 c) (nI n) = if (fnd s n (okp hp P m s c n (hp 4 c)) (n ^ s) 0 (hp 77)).1 = true then some (1, setc hp 77 (fnd s n (okp hp P m s c n (hp 4 c)) (n ^ s) 0 (hp 77)).2) else some (0, setc hp 77 (fnd s n (okp hp P m s c n (hp 4 c)) (n ^ s) 0 (hp 77)).2) := by
          unfold f_Pl_find
          rw [x_ways hs]
          have := x_find hb hbr hs hc (n := n) (by omega) (by omega) hv hW (fun hp10 => some ((0 : Int32), hp10)) (n ^ s) FU 0 (hp 77) (by omega) (FU_gt (by omega))
          rw [setc_self] at this
          exact this
        have hmf : ∀ fx, f_Mo_plan (setc hp 77 fx) (nI c) (nI n) i = if (fnd s n (okp hp P m s c n (hp 4 c)) (n ^ s) 0 (hp 113)).1 = true then ansm s i (setc (setc hp 77 fx) 113 (fnd s n (okp hp P m s c n (hp 4 c)) (n ^ s) 0 (hp 113)).2) else (if i = (-1 : Int32) then some ((0 : Int32), setc (setc hp 77 fx) 113 (fnd s n (okp hp P m s c n (hp 4 c)) (n ^ s) 0 (hp 113)).2) else some ((-1 : Int32), setc (setc hp 77 fx) 113 (fnd s n (okp hp P m s c n (hp 4 c)) (n ^ s) 0 (hp 113)).2)) := by
          intro fx
          have hs' : PS (setc hp 77 fx) Tn s m := hs
          have hr' := Rbr_setc hb (Or.inl rfl) fx hbr
          have hst' : Rst (setc hp 77 fx) Cn := hst
          rw [hm0 (setc hp 77 fx) hbr.2.2.1.2.1 hs', m_in _ (nI n) 1 4 (A := 1) (B := 4) rfl rfl, e0, Option.bind_some]
          dsimp only
          rw [if_neg one_ne, if_pos ((ltg_0 (setc hp 77 fx) (nI n) m).mpr hL), m_ways hs']
          have := m_find hb hr' hst' hs' hc (n := n) (by omega) (by omega) (v3 := i) hW (fun hp30 => if i = (-1 : Int32) then some ((0 : Int32), hp30) else some ((-1 : Int32), hp30)) (n ^ s) FU 0 (setc hp 77 fx 113) (by omega) (FU_gt (by omega))
          rw [setc_self] at this
          exact this
        have hRf : ∀ fx fm, R (setc (setc hp 77 fx) 113 fm) := by
          intro fx fm
          exact ⟨b, b', P, Cn, Tn, Rr_cong hp rfl rfl rfl rfl hr, Rtx_cong hp ⟨rfl, rfl⟩ rfl rfl htx, Rbr_cong hp hb (by intro q hq; simp only [up_ap, setc_ap]; repeat rw [if_neg (by omega)]) rfl rfl rfl hbr, Rst_cong hp (by intro q hq; simp only [up_ap, setc_ap]; repeat rw [if_neg (by omega)]) rfl hst, Rim_cong hp (by intro q hq; simp only [up_ap, setc_ap]; repeat rw [if_neg (by omega)]) him, Rpa_cong hp (by intro q hq; simp only [up_ap, setc_ap]; repeat rw [if_neg (by omega)]) rfl hpa, Rsl_cong hp (by intro q hq; simp only [up_ap, setc_ap]; repeat rw [if_neg (by omega)]) rfl rfl rfl rfl hsl⟩
        have rel := fnd_rel (s := s) (n := n) (ok := okp hp P m s c n (hp 4 c)) okp_cong (n ^ s) 0 (hp 77) (hp 113)
        generalize fnd s n (okp hp P m s c n (hp 4 c)) (n ^ s) 0 (hp 77) = X at hfind rel
        generalize fnd s n (okp hp P m s c n (hp 4 c)) (n ^ s) 0 (hp 113) = Y at hmf rel
        obtain ⟨xb, xf⟩ := X
        obtain ⟨yb, yf⟩ := Y
        simp only at rel hfind hmf
        obtain ⟨rfl, rel⟩ := rel
        cases xb with
        | false =>
          rw [if_neg (by decide)] at hfind
          rw [hfind, Option.bind_some] at hx
          dsimp only at hx
          rw [if_pos rfl, if_pos rfl] at hx
          have hm := hmf xf
          rw [if_neg (by decide)] at hm
          by_cases q : i = -1
          · rw [if_pos q] at hx hm
            exact ⟨_, _, _, hx, hm, hRf _ _⟩
          · rw [if_neg q] at hx hm
            exact ⟨_, _, _, hx, hm, hRf _ _⟩
        | true =>
          rw [if_pos rfl] at hfind
          rw [hfind, Option.bind_some] at hx
          dsimp only at hx
          rw [if_neg one_ne, if_neg one_ne] at hx
          have hm := hmf xf
          rw [if_pos rfl] at hm
          unfold ansm at hm
          by_cases q : i = -1
          · rw [if_pos q] at hx hm
            exact ⟨_, _, _, hx, hm, hRf _ _⟩
          · rw [if_neg q] at hx hm
            have e7 : setc hp 77 xf 68 7 = nI s := hs.2.1.1
            rw [e7, x_within, Option.bind_some] at hx
            dsimp only at hx
            rcases wi_n i (N := s) (by omega) with e | ⟨k, hk, rfl, e⟩
            · rw [e, if_pos rfl] at hx hm
              exact ⟨_, _, _, hx, hm, hRf _ _⟩
            · rw [e, if_neg one_ne] at hx hm
              rw [if_pos (inb_n (by omega) (by omega)), setc_at, cl_n (by omega), rel rfl k hk] at hx
              rw [setc_at, cl_n (by omega)] at hm
              exact ⟨_, _, _, hx, hm, hRf _ _⟩
      · refine Sim.pure (-1000000002) ?_ ?_ hR
        · simp only [f_BA_plan, eb, ib, x_hasC hbr.2.1.2.1, e1, x_within, e0, hl1, Option.bind_some, if_true, if_neg one_ne, if_neg (fun q => hL (hlt.mp q))]
        · show f_Mo_plan hp (nI c) n i = _
          rw [hm0 hp hbr.2.2.1.2.1 hs, m_in hp n 1 4 (A := 1) (B := 4) rfl rfl, e0, Option.bind_some]
          dsimp only
          rw [if_neg one_ne, if_neg (fun q => hL ((ltg_0 hp n m).mp q))]
end
section
theorem SE.cong {Cn : Nat} {mo mo' : Int32} {ba ba' de de' w w' : Nat → Int32} {o o' : Nat} (h1 : mo' = mo) (h2 : ∀ c, c < 5 → ba' c = ba c) (h3 : ∀ k, k < 25 → de' k = de k) (h4 : ∀ i, i < 31 → w' (o' + i) = w (o + i)) (h : SE Cn mo ba de w o) : SE Cn mo' ba' de' w' o' := by
  obtain ⟨k1, k2, k3, k4, k5⟩ := h
  refine ⟨?_, fun c hc => ?_, fun k hk => ?_, fun c d hc hd => ?_, fun c d hc hd hn => ?_⟩
  · have := h4 0 (by omega)
    rw [Nat.add_zero, Nat.add_zero] at this
    rw [h1, this]; exact k1
  · rw [h2 c hc]
    have := h4 (1 + c) (by omega)
    rw [← Nat.add_assoc, ← Nat.add_assoc] at this
    rw [this]; exact k2 c hc
  · rw [h3 k hk]
    have := h4 (6 + k) (by omega)
    rw [← Nat.add_assoc, ← Nat.add_assoc] at this
    rw [this]; exact k3 k hk
  · rw [h3 _ (by omega), h3 _ (by omega)]; exact k4 c d hc hd
  · rw [h3 _ (by omega)]; exact k5 c d hc hd hn
theorem x_copy (hp : HP) {q0 q1 : Nat} (hq : q0 + 3 ≤ q1 ∨ q1 + 3 ≤ q0) : ∃ hp', f_St_copyFrom hp q0 q1 = some (0, hp') ∧ (∀ q, q ≠ q0 → q ≠ q0 + 1 → q ≠ q0 + 2 → hp' q = hp q) ∧ hp' q0 2 = hp q1 2 ∧ (∀ c, c < 5 → hp' (q0 + 1) c = hp (q1 + 1) c) ∧ (∀ k, k < 25 → hp' (q0 + 2) k = hp (q1 + 2) k) := by
  refine ⟨_, rfl, ?_, ?_, ?_, ?_⟩
  · intro q h0 h1 h2
    simp only [up_ap, setc_ap]
    rw [if_neg h0, if_neg h2, if_neg h1]
  · simp only [up_ap, setc_ap]
    rw [if_pos trivial, upd_ap, if_pos rfl, if_neg (show ¬ q1 = q0 + 2 by omega), if_neg (show ¬ q1 = q0 + 1 by omega)]
  · intro c hc
    simp only [up_ap, setc_ap]
    rw [if_neg (by omega), if_neg (by omega), if_pos trivial]
    unfold va_cpy
    rw [if_pos (by omega)]
    congr 1; omega
  · intro k hk
    simp only [up_ap, setc_ap]
    rw [if_neg (by omega), if_pos trivial, if_neg (by omega)]
    unfold va_cpy
    rw [if_pos (by omega)]
    congr 1; omega
theorem rem20 {a : Nat} (h : a < 100) : nI a - nI a / (20 : Int32) * (20 : Int32) = nI (a % 20) := by
  show nI a - nI a / nI 20 * nI 20 = _
  exact pk_rem (by omega) (by omega) (by omega)
theorem isS_ring : ∀ i, i < 20 → isS (7 + 1 + 3 * i) = true := by decide
theorem isS_img : ∀ i, i < 2 → isS (78 + 1 + 3 * i) = true := by decide
/-- one standing more to undo to -/
def PU (hp hp1 : HP) (nx ct : Nat) : Prop := (∀ q, q < 6 ∨ 67 < q → hp1 q = hp q) ∧ hp1 6 1 = nI ((nx + 1) % 20) ∧ hp1 6 2 = nI (min (ct + 1) 20) ∧ (∀ q, 8 ≤ q → q ≤ 67 → q ≠ 8 + 3 * nx → q ≠ 9 + 3 * nx → q ≠ 10 + 3 * nx → hp1 q = hp q) ∧ hp1 (8 + 3 * nx) 2 = hp 3 2 ∧ (∀ c, c < 5 → hp1 (9 + 3 * nx) c = hp 4 c) ∧ (∀ k, k < 25 → hp1 (10 + 3 * nx) k = hp 5 k)
theorem x_push {hp : HP} {nx ct : Nat} (h1 : nx < 20) (h2 : ct ≤ 20) (e1 : hp 6 1 = nI nx) (e2 : hp 6 2 = nI ct) : ∃ hp1, f_Pa_push hp 3 = some (0, hp1) ∧ PU hp hp1 nx ct := by
  obtain ⟨hp', c1, c2, c3, c4, c5⟩ := x_copy hp (q0 := 7 + 1 + 3 * nx) (q1 := 3) (by omega)
  have d1 : hp' 6 1 = nI nx := by rw [c2 6 (by omega) (by omega) (by omega)]; exact e1
  have d2 : hp' 6 2 = nI ct := by rw [c2 6 (by omega) (by omega) (by omega)]; exact e2
  have d3 : ∀ v, up hp' 6 1 v 6 2 = nI ct := fun v => d2
  refine ⟨up (up hp' 6 1 (nI ((nx + 1) % 20))) 6 2 (nI (min (ct + 1) 20)), ?_, ?_, rfl, rfl, ?_, ?_, ?_, ?_⟩
  · unfold f_Pa_push
    rw [e1, if_pos (inb_n (by omega) (by omega)), cl_n (by omega), if_pos (isS_ring nx h1), c1]
    simp only [Option.bind_some, d1, d3, nI_s]
    rw [rem20 (by omega)]
    have em : mn (nI (ct + 1)) 20 = nI (min (ct + 1) 20) := by
      have i20 : (20 : Int32).toInt = 20 := rfl
      rw [eq_i, mn_i, nI_toInt (by omega), nI_toInt (by omega), i20]; omega
    rw [em]
  · intro q hq
    simp only [up_ap]
    rw [if_neg (by omega), if_neg (by omega)]
    exact c2 q (by omega) (by omega) (by omega)
  · intro q q1 q2 q3 q4 q5
    simp only [up_ap]
    rw [if_neg (by omega), if_neg (by omega)]
    exact c2 q (by omega) (by omega) (by omega)
  · simp only [up_ap]
    rw [if_neg (by omega), if_neg (by omega)]
    exact c3
  · intro c hc
    simp only [up_ap]
    rw [if_neg (by omega), if_neg (by omega)]
    have := c4 c hc
    rw [show 7 + 1 + 3 * nx + 1 = 9 + 3 * nx by omega] at this
    exact this
  · intro k hk
    simp only [up_ap]
    rw [if_neg (by omega), if_neg (by omega)]
    have := c5 k hk
    rw [show 7 + 1 + 3 * nx + 2 = 10 + 3 * nx by omega] at this
    exact this
theorem n_add2 (a b : Nat) : nI a + nI b = nI (a + b) := nI_add a b
/-- a block of the reference's row copied -/
def cpb (w : Nat → Int32) (a o : Nat) : Nat → Int32 := fun j => if o ≤ j ∧ j < o + 32 then w (a + (j - o)) else w j
theorem m_copy (hp : HP) {a o : Nat} (ha : a + 32 ≤ 736) (ho : o + 32 ≤ 736) (hd : a + 32 ≤ o ∨ o + 32 ≤ a) : f_Mo_copy hp (nI a) (nI o) = some (0, setc hp 100 (cpb (hp 100) a o)) := by
  unfold f_Mo_copy
  have key := it_eq (g := fun k w => upd w (o + k) (w (a + k))) (k := 0) (d := 32) (s := hp 100) (fun k j => if o ≤ j ∧ j < o + k then hp 100 (a + (j - o)) else hp 100 j) ?_ ?_
  · have e : cpb (hp 100) a o = it (fun k w => upd w (o + k) (w (a + k))) 0 32 (hp 100) := by rw [key]; rfl
    rw [e]
    have := (for_up (fun n k w => f_Mo_copy_L2 (nI a) (nI o) (fun hp4 => some ((0 : Int32), hp4)) n (setc hp 100 w) (nI k)) 32 (fun k w => upd w (o + k) (w (a + k))) (fun w => some (0, setc hp 100 w)) (fun _ _ => True) ?_ ?_ 32 0 FU (hp 100) (by omega) (FU_gt (by omega)) trivial).1
    · rw [setc_self] at this
      exact this
    · intro n k w hk _
      refine ⟨?_, trivial⟩
      show f_Mo_copy_L2 (nI a) (nI o) _ (n + 1) (setc hp 100 w) (nI k) = _
      rw [f_Mo_copy_L2, if_neg (by exact n_nle 32 k (by omega) (by omega)), nI_add, nI_add, if_pos (inb_n (by omega) (by omega)), if_pos (inb_n (by omega) (by omega)), cl_n (by omega), cl_n (by omega), up_setc, setc_at, nI_1]
    · intro n w _
      show f_Mo_copy_L2 (nI a) (nI o) _ (n + 1) (setc hp 100 w) (nI 32) = _
      rw [f_Mo_copy_L2, if_pos (by exact n_le 32 32 (by omega) (by omega))]
  · funext j
    rw [if_neg (by omega)]
  · intro k _ hk
    funext j
    show upd _ (o + k) _ j = _
    rw [upd_ap]
    by_cases q : j = o + k
    · subst q
      rw [if_pos rfl, if_neg (by omega), if_pos (by omega)]
      congr 1; omega
    · rw [if_neg q]
      by_cases q2 : o ≤ j ∧ j < o + k
      · rw [if_pos q2, if_pos (by omega)]
      · rw [if_neg q2, if_neg (by omega)]
/-- the reference's row behind one more to undo to -/
def pw (ct : Nat) (w : Nat → Int32) : Nat → Int32 := fun j => if ct = 20 then (if j < 704 then w (j + 32) else w (j - 704)) else (if 96 + 32 * ct ≤ j ∧ j < 96 + 32 * ct + 32 then w (j - (96 + 32 * ct)) else w j)
def MU (hp hp1 : HP) (ct : Nat) : Prop := (∀ q, q ≠ 99 → q ≠ 100 → hp1 q = hp q) ∧ (∀ j, j ≠ 2 → hp1 99 j = hp 99 j) ∧ hp1 99 2 = nI (min (ct + 1) 20) ∧ (∀ j, j < 96 → hp1 100 j = hp 100 j) ∧ (∀ j, 96 ≤ j → j < 736 → hp1 100 j = pw ct (hp 100) j)
theorem m_minds {hp : HP} {ct : Nat} (h2 : ct ≤ 20) (e2 : hp 99 2 = nI ct) : ∃ hp1, f_Mo_minds hp = some (0, hp1) ∧ MU hp hp1 ct := by
  by_cases hc : ct = 20
  · subst hc
    have key := it_eq (g := fun k w => upd w (96 + k) (w (96 + k + 32))) (k := 0) (d := 608) (s := hp 100) (fun k j => if 96 ≤ j ∧ j < 96 + k then hp 100 (j + 32) else hp 100 j) ?_ ?_
    · have hsh : ∀ K : HP → Option (Int32 × HP), f_Mo_minds_L11 K FU hp 0 = K (setc hp 100 (fun j => if 96 ≤ j ∧ j < 704 then hp 100 (j + 32) else hp 100 j)) := by
        intro K
        have e : (fun j => if 96 ≤ j ∧ j < 704 then hp 100 (j + 32) else hp 100 j) = it (fun k w => upd w (96 + k) (w (96 + k + 32))) 0 608 (hp 100) := by rw [key]
        rw [e]
        have := (for_up (fun n k w => f_Mo_minds_L11 K n (setc hp 100 w) (nI k)) 608 (fun k w => upd w (96 + k) (w (96 + k + 32))) (fun w => K (setc hp 100 w)) (fun _ _ => True) ?_ ?_ 608 0 FU (hp 100) (by omega) (FU_gt (by omega)) trivial).1
        · rw [setc_self] at this
          exact this
        · intro n k w hk _
          refine ⟨?_, trivial⟩
          show f_Mo_minds_L11 K (n + 1) (setc hp 100 w) (nI k) = _
          rw [f_Mo_minds_L11, if_neg (by exact n_nle 608 k (by omega) (by omega)), show (96 : Int32) + nI k = nI (96 + k) from nI_add 96 k, show nI (96 + k) + (32 : Int32) = nI (96 + k + 32) from nI_add (96 + k) 32, if_pos (inb_n (by omega) (by omega)), if_pos (inb_n (by omega) (by omega)), cl_n (by omega), cl_n (by omega), up_setc, setc_at, nI_1]
        · intro n w _
          show f_Mo_minds_L11 K (n + 1) (setc hp 100 w) (nI 608) = _
          rw [f_Mo_minds_L11, if_pos (by exact n_le 608 608 (by omega) (by omega))]
      unfold f_Mo_minds
      rw [if_pos (by rw [e2]; rfl), hsh]
      generalize hW : (fun j => if 96 ≤ j ∧ j < 704 then hp 100 (j + 32) else hp 100 j) = W
      have e3 : setc hp 100 W 99 2 - 1 = nI 19 := by
        show hp 99 2 - 1 = _
        rw [e2]; rfl
      rw [e3]
      have e4 : up (setc hp 100 W) 99 2 (nI 19) 99 2 = nI 19 := rfl
      rw [e4, show (96 : Int32) + (32 : Int32) * nI 19 = nI 704 from rfl]
      have hcp := m_copy (up (setc hp 100 W) 99 2 (nI 19)) (a := 0) (o := 704) (by omega) (by omega) (by omega)
      rw [show (0 : Int32) = nI 0 from rfl, hcp]
      refine ⟨_, rfl, ?_, ?_, ?_, ?_, ?_⟩
      · intro q q1 q2
        simp only [up_ap, setc_ap]
        rw [if_neg q1, if_neg q2, if_neg q1, if_neg q2]
      · intro j hj
        show upd (upd (hp 99) 2 (nI 19)) 2 _ j = _
        rw [upd_ap, if_neg hj, upd_ap, if_neg hj]
      · rfl
      · intro j hj
        show cpb W 0 704 j = _
        unfold cpb
        rw [if_neg (by omega), ← hW]
        show (if 96 ≤ j ∧ j < 704 then _ else _) = _
        rw [if_neg (by omega)]
      · intro j h1 h2
        show cpb W 0 704 j = _
        unfold cpb pw
        rw [if_pos rfl, ← hW]
        by_cases q : j < 704
        · rw [if_neg (by omega), if_pos q]
          show (if 96 ≤ j ∧ j < 704 then _ else _) = _
          rw [if_pos ⟨h1, q⟩]
        · rw [if_pos (by omega), if_neg q]
          show (if 96 ≤ 0 + (j - 704) ∧ 0 + (j - 704) < 704 then _ else hp 100 (0 + (j - 704))) = _
          rw [if_neg (by omega), Nat.zero_add]
    · funext j
      rw [if_neg (by omega)]
    · intro k _ hk
      funext j
      show upd _ (96 + k) _ j = _
      rw [upd_ap]
      by_cases q : j = 96 + k
      · subst q
        rw [if_pos rfl, if_neg (by omega), if_pos (by omega)]
      · rw [if_neg q]
        by_cases q2 : 96 ≤ j ∧ j < 96 + k
        · rw [if_pos q2, if_pos (by omega)]
        · rw [if_neg q2, if_neg (by omega)]
  · unfold f_Mo_minds
    rw [if_neg (by rw [e2]; exact n_ne ct 20 hc (by omega) (by omega)), e2]
    have e3 : (96 : Int32) + (32 : Int32) * nI ct = nI (96 + 32 * ct) := by
      show nI 96 + nI 32 * nI ct = _
      rw [pk_mul, nI_add]
    rw [e3, show (0 : Int32) = nI 0 from rfl, m_copy hp (a := 0) (o := 96 + 32 * ct) (by omega) (by omega) (by omega)]
    refine ⟨_, rfl, ?_, ?_, ?_, ?_, ?_⟩
    · intro q q1 q2
      simp only [up_ap, setc_ap]
      rw [if_neg q1, if_neg q2]
    · intro j hj
      show upd (hp 99) 2 _ j = _
      rw [upd_ap, if_neg hj]
    · show hp 99 2 + 1 = _
      rw [e2, nI_s, Nat.min_eq_left (by omega)]
    · intro j hj
      show cpb (hp 100) 0 (96 + 32 * ct) j = _
      unfold cpb
      rw [if_neg (by omega)]
    · intro j h1 h2
      show cpb (hp 100) 0 (96 + 32 * ct) j = _
      unfold cpb pw
      rw [if_neg hc, Nat.zero_add]
end
section
theorem Rim_w {hp hp2 : HP} {Cn : Nat} (hr : ∀ q, (79 ≤ q ∧ q ≤ 86) ∨ q = 101 → hp2 q = hp q) (hw : ∀ j, 32 ≤ j → j < 96 → hp2 100 j = hp 100 j) (k : Rim hp Cn) : Rim hp2 Cn := by
  intro i hi
  rw [hr 86 (by omega), hr 101 (by omega), hr (79 + 3 * i) (by omega), hr (80 + 3 * i) (by omega), hr (81 + 3 * i) (by omega), hr 85 (by omega), hw (63 + 32 * i) (by omega) (by omega)]
  rcases k i hi with q | ⟨q1, q2, q3⟩
  · exact Or.inl q
  · exact Or.inr ⟨q1, SE.cong rfl (fun _ _ => rfl) (fun _ _ => rfl) (fun i hi => hw _ (by omega) (by omega)) q2, q3⟩
theorem rg_a {nx ct j : Nat} (h1 : nx < 20) (h2 : ct < 20) (hj : j < ct) : rg ((nx + 1) % 20) (ct + 1) j = rg nx ct j ∧ rg nx ct j ≠ nx := by
  unfold rg; omega
theorem rg_b {nx ct : Nat} (h1 : nx < 20) (h2 : ct < 20) : rg ((nx + 1) % 20) (ct + 1) ct = nx := by
  unfold rg; omega
theorem rg_c {nx j : Nat} (h1 : nx < 20) (hj : j < 19) : rg ((nx + 1) % 20) 20 j = rg nx 20 (j + 1) ∧ rg nx 20 (j + 1) ≠ nx := by
  unfold rg; omega
theorem rg_d {nx : Nat} (h1 : nx < 20) : rg ((nx + 1) % 20) 20 19 = nx := by
  unfold rg; omega
theorem Rpa_push {hp hp1 hp2 : HP} {Cn nx ct : Nat} (h1 : nx < 20) (h2 : ct ≤ 20) (hb : ∀ j, j < ct → SE Cn (hp (8 + 3 * rg nx ct j) 2) (hp (9 + 3 * rg nx ct j)) (hp (10 + 3 * rg nx ct j)) (hp 100) (96 + 32 * j)) (hnow : SE Cn (hp 3 2) (hp 4) (hp 5) (hp 100) 0) (pu : PU hp hp1 nx ct) (hr : ∀ q, 6 ≤ q → q ≤ 67 → hp2 q = hp1 q) (h99 : hp2 99 2 = nI (min (ct + 1) 20)) (hw : ∀ j, 96 ≤ j → j < 736 → hp2 100 j = pw ct (hp 100) j) : Rpa hp2 Cn := by
  obtain ⟨u1, u2, u3, u4, u5, u6, u7⟩ := pu
  have ring : ∀ i, i < 20 → i ≠ nx → hp2 (8 + 3 * i) = hp (8 + 3 * i) ∧ hp2 (9 + 3 * i) = hp (9 + 3 * i) ∧ hp2 (10 + 3 * i) = hp (10 + 3 * i) := by
    intro i hi hn
    rw [hr _ (by omega) (by omega), hr _ (by omega) (by omega), hr _ (by omega) (by omega)]
    exact ⟨u4 _ (by omega) (by omega) (by omega) (by omega) (by omega), u4 _ (by omega) (by omega) (by omega) (by omega) (by omega), u4 _ (by omega) (by omega) (by omega) (by omega) (by omega)⟩
  have new : ∀ o, (∀ i, i < 31 → hp2 100 (o + i) = hp 100 (0 + i)) → SE Cn (hp2 (8 + 3 * nx) 2) (hp2 (9 + 3 * nx)) (hp2 (10 + 3 * nx)) (hp2 100) o := by
    intro o ho
    rw [hr _ (by omega) (by omega), hr _ (by omega) (by omega), hr _ (by omega) (by omega)]
    exact SE.cong u5 u6 u7 ho hnow
  refine ⟨(nx + 1) % 20, min (ct + 1) 20, Nat.mod_lt _ (by decide), by omega, by rw [hr 6 (by omega) (by omega)]; exact u2, by rw [hr 6 (by omega) (by omega)]; exact u3, h99, fun j hj => ?_⟩
  by_cases hc : ct = 20
  · subst hc
    have e20 : min (20 + 1) 20 = 20 := by decide
    rw [e20] at hj ⊢
    by_cases hj19 : j < 19
    · obtain ⟨g1, g2⟩ := rg_c h1 hj19
      rw [g1]
      obtain ⟨r1, r2, r3⟩ := ring _ (rg_lt nx 20 (j + 1)) g2
      rw [r1, r2, r3]
      refine SE.cong rfl (fun _ _ => rfl) (fun _ _ => rfl) (fun i hi => ?_) (hb (j + 1) (by omega))
      rw [hw _ (by omega) (by omega)]
      unfold pw
      rw [if_pos rfl, if_pos (by omega)]
      exact congrArg (hp 100) (by omega)
    · have : j = 19 := by omega
      subst this
      rw [rg_d h1]
      refine new _ (fun i hi => ?_)
      rw [hw _ (by omega) (by omega)]
      unfold pw
      rw [if_pos rfl, if_neg (by omega)]
      exact congrArg (hp 100) (by omega)
  · have em : min (ct + 1) 20 = ct + 1 := by omega
    rw [em] at hj ⊢
    by_cases hjc : j < ct
    · obtain ⟨g1, g2⟩ := rg_a h1 (by omega) hjc
      rw [g1]
      obtain ⟨r1, r2, r3⟩ := ring _ (rg_lt nx ct j) g2
      rw [r1, r2, r3]
      refine SE.cong rfl (fun _ _ => rfl) (fun _ _ => rfl) (fun i hi => ?_) (hb j hjc)
      rw [hw _ (by omega) (by omega)]
      unfold pw
      rw [if_neg hc, if_neg (by omega)]
    · have : j = ct := by omega
      subst this
      rw [rg_b h1 (by omega)]
      refine new _ (fun i hi => ?_)
      rw [hw _ (by omega) (by omega)]
      unfold pw
      rw [if_neg hc, if_pos (by omega)]
      exact congrArg (hp 100) (by omega)
/-- what is done: the class pushes its standing and changes it, the reference does so too -/
theorem R_done {hp hp1 hpx hm hp2 : HP} {b b' P Cn Tn nx ct : Nat} (hr : Rr hp b b') (htx : Rtx hp) (hbr : Rbr hp b P Cn Tn) (hst : Rst hp Cn) (him : Rim hp Cn) (h1 : nx < 20) (h2 : ct ≤ 20) (hb : ∀ j, j < ct → SE Cn (hp (8 + 3 * rg nx ct j) 2) (hp (9 + 3 * rg nx ct j)) (hp (10 + 3 * rg nx ct j)) (hp 100) (96 + 32 * j)) (hsl : Rsl hp P Cn Tn) (pu : PU hp hp1 nx ct) (hx : ∀ q, q ≠ 0 → q ≠ 3 → q ≠ 4 → q ≠ 5 → hpx q = hp1 q) (hx0 : ∀ j, j ≠ 11 → hpx 0 j = hp1 0 j) (mu : MU hpx hm ct) (hm2 : ∀ q, q ≠ 100 → hp2 q = hm q) (hw2 : ∀ j, 32 ≤ j → hp2 100 j = hm 100 j) (hst2 : Rst hp2 Cn) : R hp2 := by
  have pu1 := pu.1
  obtain ⟨m1, m2, m3, m4, m5⟩ := mu
  have fr : ∀ q, (q < 6 ∨ 67 < q) → q ≠ 0 → q ≠ 3 → q ≠ 4 → q ≠ 5 → q ≠ 99 → q ≠ 100 → hp2 q = hp q := by
    intro q a0 a1 a2 a3 a4 a5 a6
    rw [hm2 q a6, m1 q a5 a6, hx q a1 a2 a3 a4, pu1 q a0]
  have f0 : ∀ j, j ≠ 11 → hp2 0 j = hp 0 j := by
    intro j hj
    rw [hm2 0 (by omega), m1 0 (by omega) (by omega), hx0 j hj, pu1 0 (by omega)]
  have f99 : ∀ j, j ≠ 2 → hp2 99 j = hp 99 j := by
    intro j hj
    rw [hm2 99 (by omega), m2 j hj, hx 99 (by omega) (by omega) (by omega) (by omega), pu1 99 (by omega)]
  have e100 : ∀ j, hpx 100 j = hp 100 j := by
    intro j
    rw [hx 100 (by omega) (by omega) (by omega) (by omega), pu1 100 (by omega)]
  have fw : ∀ j, 96 ≤ j → j < 736 → hp2 100 j = pw ct (hp 100) j := by
    intro j q1 q2
    rw [hw2 j (by omega), m5 j q1 q2, show hpx 100 = hp 100 from funext e100]
  refine ⟨b, b', P, Cn, Tn, Rr_cong hp (f0 8 (by omega)) (f0 9 (by omega)) (f0 10 (by omega)) (f99 16 (by omega)) hr, Rtx_cong hp ⟨fr 2 (by omega) (by omega) (by omega) (by omega) (by omega) (by omega) (by omega), fr 106 (by omega) (by omega) (by omega) (by omega) (by omega) (by omega) (by omega)⟩ (by rw [fr 1 (by omega) (by omega) (by omega) (by omega) (by omega) (by omega) (by omega)]) (f99 11 (by omega)) htx, Rbr_cong hp (Rr_or hr) (fun q hq => fr q (by omega) (by omega) (by omega) (by omega) (by omega) (by omega) (by omega)) (f99 3 (by omega)) (f99 5 (by omega)) (f99 8 (by omega)) hbr, hst2, ?_, ?_, Rsl_cong hp (fun q hq => fr q (by omega) (by omega) (by omega) (by omega) (by omega) (by omega) (by omega)) (f99 23 (by omega)) (f99 25 (by omega)) (f99 29 (by omega)) (f99 32 (by omega)) hsl⟩
  · refine Rim_w (fun q hq => fr q (by omega) (by omega) (by omega) (by omega) (by omega) (by omega) (by omega)) (fun j q1 q2 => ?_) him
    rw [hw2 j q1, m4 j q2, e100]
  · refine Rpa_push h1 h2 hb hst.1 pu (fun q q1 q2 => ?_) ?_ fw
    · rw [hm2 q (by omega), m1 q (by omega) (by omega), hx q (by omega) (by omega) (by omega) (by omega)]
    · rw [hm2 99 (by omega)]; exact m3
theorem SE_bal {Cn : Nat} {mo : Int32} {ba de w : Nat → Int32} {c : Nat} {v : Int32} (hc : c < 5) (hv : -9999 ≤ v.toInt ∧ v.toInt ≤ 9999) (h : SE Cn mo ba de w 0) : SE Cn mo (upd ba c v) de (upd w (1 + c) v) 0 := by
  obtain ⟨k1, k2, k3, k4, k5⟩ := h
  refine ⟨?_, fun d hd => ?_, fun k hk => ?_, k4, k5⟩
  · rw [upd_ap, if_neg (by omega)]; exact k1
  · rw [upd_ap, upd_ap]
    by_cases e : d = c
    · subst e
      rw [if_pos rfl, if_pos (by omega)]
      exact ⟨rfl, hv⟩
    · rw [if_neg e, if_neg (by omega)]
      exact k2 d hd
  · rw [upd_ap, if_neg (by omega)]; exact k3 k hk
theorem SE_mon {Cn : Nat} {mo : Int32} {ba de w : Nat → Int32} (h : SE Cn mo ba de w 0) : SE Cn (mo + 1) ba de (upd w 0 (w 0 + 1)) 0 := by
  obtain ⟨k1, k2, k3, k4, k5⟩ := h
  refine ⟨?_, fun d hd => ?_, fun k hk => ?_, k4, k5⟩
  · rw [upd_ap, if_pos rfl, k1]
  · rw [upd_ap, if_neg (by omega)]; exact k2 d hd
  · rw [upd_ap, if_neg (by omega)]; exact k3 k hk
theorem neg_neg32 (x : Int32) : - -x = x := by simp
theorem SE_debt {Cn : Nat} {mo : Int32} {ba de w : Nat → Int32} {c d : Nat} {x y : Int32} (h5 : Cn ≤ 5) (hc : c < Cn) (hd : d < Cn) (hn : c ≠ d) (hxy : x = -y) (h : SE Cn mo ba de w 0) : SE Cn mo ba (upd (upd de (c * 5 + d) x) (d * 5 + c) y) (upd (upd w (6 + 5 * c + d) x) (6 + 5 * d + c) y) 0 := by
  obtain ⟨k1, k2, k3, k4, k5⟩ := h
  have hyx : y = -x := by rw [hxy, neg_neg32]
  refine ⟨?_, fun e he => ?_, fun k hk => ?_, fun i j hi hj => ?_, fun i j hi hj hq => ?_⟩
  · rw [upd_ap, if_neg (by omega), upd_ap, if_neg (by omega)]; exact k1
  · rw [upd_ap, if_neg (by omega), upd_ap, if_neg (by omega)]; exact k2 e he
  · rw [upd_ap, upd_ap, upd_ap, upd_ap]
    by_cases q1 : k = d * 5 + c
    · rw [if_pos q1, if_pos (by omega)]
    · rw [if_neg q1, if_neg (show ¬ 0 + 6 + k = 6 + 5 * d + c by omega)]
      by_cases q2 : k = c * 5 + d
      · rw [if_pos q2, if_pos (show 0 + 6 + k = 6 + 5 * c + d by omega)]
      · rw [if_neg q2, if_neg (show ¬ 0 + 6 + k = 6 + 5 * c + d by omega)]; exact k3 k hk
  · rw [upd_ap, upd_ap, upd_ap, upd_ap]
    by_cases q1 : 5 * i + j = d * 5 + c
    · rw [if_pos q1, if_neg (by omega), if_pos (by omega)]; exact hyx
    · rw [if_neg q1]
      by_cases q2 : 5 * i + j = c * 5 + d
      · rw [if_pos q2, if_pos (by omega)]; exact hxy
      · rw [if_neg q2, if_neg (by omega), if_neg (by omega)]; exact k4 i j hi hj
  · rw [upd_ap, upd_ap, if_neg (by omega), if_neg (by omega)]; exact k5 i j hi hj hq
theorem nd_cong {hp hp' : HP} (h : hp' 102 = hp 102) : nd hp' = nd hp := by unfold nd; rw [h]
theorem S_spend {hp : HP} (h : R hp) (a q : Int32) : Sim hp (fun x => f_BA_spend x a q) (fun x => f_Mo_spend x a q) := by
  have hR := h
  obtain ⟨b, b', P, Cn, Tn, hr, htx, hbr, hst, him, ⟨nx, ct, p1, p2, p3, p4, p5, p6⟩, hsl⟩ := h
  obtain ⟨ib, eb⟩ := isB_b hr
  have hb := Rr_or hr
  have c5 := hbr.1.2.1
  rcases wi_n a (N := Cn) (by omega) with e1 | ⟨c, hc, rfl, e1⟩
  · refine Sim.pure (-1000000001) ?_ ?_ hR
    · simp only [f_BA_spend, eb, ib, x_hasC hbr.2.1.2.1, e1, Option.bind_some, if_true]
    · simp only [f_Mo_spend, m_isC hbr.2.2.1.2.1, e1, Option.bind_some, if_true]
  · rcases @wi_lit q 1 999 with ⟨e0, -⟩ | ⟨e0, h1, h2⟩
    · refine Sim.pure (-1000000002) ?_ ?_ hR
      · simp only [f_BA_spend, eb, ib, x_hasC hbr.2.1.2.1, e1, x_within, e0, Option.bind_some, if_true, if_neg one_ne]
      · simp only [f_Mo_spend, m_isC hbr.2.2.1.2.1, e1, m_in hp q 1 999 (A := 1) (B := 999) rfl rfl, e0, Option.bind_some, if_true, if_neg one_ne]
    · obtain ⟨hp1, hpush, pu⟩ := x_push p1 p2 p3 p4
      have g0 : ∀ q, q < 6 ∨ 67 < q → hp1 q = hp q := pu.1
      have e4 : hp1 4 c = hp 4 c := by rw [g0 4 (by omega)]
      generalize hv : cla (hp 4 c + -q) = v
      have hvr : -9999 ≤ v.toInt ∧ v.toInt ≤ 9999 := by rw [← hv]; exact cla_rg _
      have eb1 : (up hp1 4 c v 0 8).toNatClampNeg = b := by
        show (hp1 0 8).toNatClampNeg = b
        rw [g0 0 (by omega)]; exact eb
      have hbx : Rbr (up hp1 4 c v) b P Cn Tn := Rbr_cong hp hb (by intro x hx; rw [up_ap, if_neg (by omega)]; exact g0 x (by omega)) (by show hp1 99 3 = _; rw [g0 99 (by omega)]) (by show hp1 99 5 = _; rw [g0 99 (by omega)]) (by show hp1 99 8 = _; rw [g0 99 (by omega)]) hbr
      have ndx : nd (up hp1 4 c v) = nd hp := nd_cong (by show hp1 102 = _; exact g0 102 (by omega))
      obtain ⟨hm, hmin, mu⟩ := m_minds (hp := up hp1 4 c v) p2 (by show hp1 99 2 = _; rw [g0 99 (by omega)]; exact p5)
      obtain ⟨m1, m2, m3, m4, m5⟩ := id mu
      have w1 : ∀ j, j < 96 → hm 100 j = hp 100 j := fun j hj => by rw [m4 j hj]; show hp1 100 j = _; rw [g0 100 (by omega)]
      have ew : hm 100 (1 + c) = hp 4 c := by rw [w1 _ (by omega), Rst_ba hst (by omega)]
      have hb2 : Rbr (up hm 100 (1 + c) v) b P Cn Tn := Rbr_cong (up hp1 4 c v) hb (by intro x hx; rw [up_ap, if_neg (by omega)]; exact m1 x (by omega) (by omega)) (by show hm 99 3 = _; exact m2 3 (by omega)) (by show hm 99 5 = _; exact m2 5 (by omega)) (by show hm 99 8 = _; exact m2 8 (by omega)) hbx
      have nd2 : nd (up hm 100 (1 + c) v) = nd hp := by rw [← ndx]; exact nd_cong (by show hm 102 = _; exact m1 102 (by omega) (by omega))
      refine ⟨ps (nd hp) v P, up hp1 4 c v, up hm 100 (1 + c) v, ?_, ?_, ?_⟩
      · show f_BA_spend hp (nI c) q = _
        unfold f_BA_spend
        rw [eb, if_pos ib, x_hasC hbr.2.1.2.1, e1, Option.bind_some]
        dsimp only
        rw [if_neg one_ne, x_within, e0, Option.bind_some]
        dsimp only
        rw [if_neg one_ne, hpush, Option.bind_some]
        dsimp only
        unfold f_St_change
        rw [if_pos (inb_n (by omega) (by omega)), cl_n (by omega), x_bounded, Option.bind_some]
        show (if isB (up hp1 4 c (cla (hp1 4 c + -q)) 0 8).toNatClampNeg = true then _ else _) = _
        rw [e4, hv, eb1, if_pos ib, if_pos (inb_n (by omega) (by omega))]
        have e5 : up hp1 4 c v 4 c = v := by rw [up_ap, if_pos rfl, upd_ap, if_pos rfl]
        show (f_Br_partsAt (up hp1 4 c v) b (up hp1 4 c v 4 c)).bind _ = _
        rw [e5, x_ps hbx, ndx]
        rfl
      · show f_Mo_spend (up hp1 4 c v) (nI c) q = _
        unfold f_Mo_spend
        rw [m_isC hbx.2.2.1.2.1, e1, Option.bind_some]
        dsimp only
        rw [if_neg one_ne, m_in _ q 1 999 (A := 1) (B := 999) rfl rfl, e0, Option.bind_some]
        dsimp only
        rw [if_neg one_ne, hmin, Option.bind_some]
        dsimp only
        unfold f_Mo_changes
        rw [n_1, if_pos (inb_n (by omega) (by omega)), cl_n (by omega), m_bounded, ew, hv, Option.bind_some]
        dsimp only
        rw [Option.bind_some]
        dsimp only
        rw [m_thereOf hb2 (by omega)]
        have e5 : up hm 100 (1 + c) v 100 (1 + c) = v := by rw [up_ap, if_pos rfl, upd_ap, if_pos rfl]
        rw [e5, nd2]
        rfl
      · refine R_done hr htx hbr hst him p1 p2 p6 hsl pu (hpx := up hp1 4 c v) (hm := hm) (fun x x0 x3 x4 x5 => by rw [up_ap, if_neg x4]) (fun j hj => rfl) mu (fun x hx => by rw [up_ap, if_neg hx]) (fun j hj => by rw [up_ap, if_pos rfl, upd_ap, if_neg (by omega)]) ?_
        refine ⟨?_, ?_, ?_⟩
        · have k := SE_bal (c := c) (v := v) (by omega) hvr (SE.cong (Cn := Cn) (w' := hm 100) (o' := 0) rfl (fun _ _ => rfl) (fun _ _ => rfl) (fun i hi => w1 _ (by omega)) hst.1)
          have r3 : up hm 100 (1 + c) v 3 2 = hp 3 2 := by show hm 3 2 = _; rw [m1 3 (by omega) (by omega)]; show hp1 3 2 = _; rw [g0 3 (by omega)]
          have r4 : up hm 100 (1 + c) v 4 = upd (hp 4) c v := by show hm 4 = _; rw [m1 4 (by omega) (by omega)]; show upd (hp1 4) c v = _; rw [g0 4 (by omega)]
          have r5 : up hm 100 (1 + c) v 5 = hp 5 := by show hm 5 = _; rw [m1 5 (by omega) (by omega)]; show hp1 5 = _; rw [g0 5 (by omega)]
          rw [r3, r4, r5]
          exact k
        · show hm 0 11 = upd (hm 100) (1 + c) v 31
          rw [upd_ap, if_neg (by omega), w1 31 (by omega), m1 0 (by omega) (by omega)]
          show hp1 0 11 = _
          rw [g0 0 (by omega)]; exact hst.2.1
        · show 0 ≤ (upd (hm 100) (1 + c) v 31).toInt
          rw [upd_ap, if_neg (by omega), w1 31 (by omega)]
          exact hst.2.2
end
section
theorem upd_comm (f : Nat → Int32) {a b : Nat} (h : a ≠ b) (x y : Int32) : upd (upd f a x) b y = upd (upd f b y) a x := by
  funext j
  simp only [upd_ap]
  by_cases q : j = b
  · rw [if_pos q, if_neg (by omega), if_pos q]
  · rw [if_neg q, if_neg q]
theorem neg_add32 (z a : Int32) : -z - a = -(z + a) := by
  rw [Int32.neg_add]
/-- the heap behind a sum that goes from c to d: the class's -/
def hx4 (hp : HP) (c d : Nat) (a : Int32) : HP := up (up (up (up hp 4 c (cla (hp 4 c + -a))) 4 d (cla (hp 4 d + a))) 5 (c * 5 + d) (hp 5 (c * 5 + d) - a)) 5 (d * 5 + c) (hp 5 (d * 5 + c) + a)
theorem x_hand (hp : HP) {c d : Nat} (hc : c < 5) (hd : d < 5) (hn : c ≠ d) (a : Int32) : f_St_hand hp 3 (nI c) (nI d) a = some (0, hx4 hp c d a) := by
  unfold f_St_hand f_St_change
  rw [if_pos (inb_n (by omega) (by omega)), cl_n (by omega), x_bounded, Option.bind_some, Option.bind_some]
  dsimp only
  rw [if_pos (inb_n (by omega) (by omega)), cl_n (by omega), x_bounded, Option.bind_some, Option.bind_some]
  dsimp only
  rw [n_ma, n_ma, if_pos (inb_n (by omega) (by omega)), if_pos (inb_n (by omega) (by omega)), cl_n (by omega), cl_n (by omega)]
  have e1 : up hp 4 c (cla (hp 4 c + -a)) 4 d = hp 4 d := by rw [up_ap, if_pos rfl, upd_ap, if_neg (by omega)]
  unfold hx4
  show some ((0 : Int32), up (up (up (up hp 4 c (cla (hp 4 c + -a))) 4 d (cla (up hp 4 c (cla (hp 4 c + -a)) 4 d + a))) 5 (c * 5 + d) (hp 5 (c * 5 + d) - a)) 5 (d * 5 + c) (upd (hp 5) (c * 5 + d) (hp 5 (c * 5 + d) - a) (d * 5 + c) + a)) = _
  rw [e1, upd_ap, if_neg (by omega)]
theorem m_changes {hp : HP} {c : Nat} (hc : c < 5) (a : Int32) : f_Mo_changes hp (nI c) a = some (0, up hp 100 (1 + c) (cla (hp 100 (1 + c) + a))) := by
  unfold f_Mo_changes
  rw [n_1, if_pos (inb_n (by omega) (by omega)), cl_n (by omega), m_bounded, Option.bind_some]
theorem m_owesMore (hp : HP) {c d : Nat} (hc : c < 5) (hd : d < 5) (hn : c ≠ d) (a : Int32) : f_Mo_owesMore hp (nI c) (nI d) a = some (0, up (up hp 100 (6 + 5 * c + d) (hp 100 (6 + 5 * c + d) + a)) 100 (6 + 5 * d + c) (hp 100 (6 + 5 * d + c) - a)) := by
  unfold f_Mo_owesMore
  rw [n_65, n_65, if_pos (inb_n (by omega) (by omega)), if_pos (inb_n (by omega) (by omega)), cl_n (by omega), cl_n (by omega)]
  have e1 : up hp 100 (6 + 5 * c + d) (hp 100 (6 + 5 * c + d) + a) 100 (6 + 5 * d + c) = hp 100 (6 + 5 * d + c) := by rw [up_ap, if_pos rfl, upd_ap, if_neg (by omega)]
  rw [e1]
/-- the reference's row behind it -/
def w4 (w : Nat → Int32) (c d : Nat) (v1 v2 x y : Int32) : Nat → Int32 := upd (upd (upd (upd w (1 + c) v1) (1 + d) v2) (6 + 5 * c + d) x) (6 + 5 * d + c) y
theorem hand_SE {hp : HP} {Cn c d : Nat} {w : Nat → Int32} {a : Int32} (hst : Rst hp Cn) (h5 : Cn ≤ 5) (hc : c < Cn) (hd : d < Cn) (hn : c ≠ d) (hw : ∀ j, j < 96 → w j = hp 100 j) : SE Cn (hx4 hp c d a 3 2) (hx4 hp c d a 4) (hx4 hp c d a 5) (w4 w c d (cla (hp 4 c + -a)) (cla (hp 4 d + a)) (hp 5 (c * 5 + d) - a) (hp 5 (d * 5 + c) + a)) 0 := by
  have k0 := SE.cong (Cn := Cn) (w' := w) (o' := 0) rfl (fun _ _ => rfl) (fun _ _ => rfl) (fun i hi => hw _ (by omega)) hst.1
  have k1 := SE_bal (c := c) (by omega) (cla_rg (hp 4 c + -a)) k0
  have k2 := SE_bal (c := d) (by omega) (cla_rg (hp 4 d + a)) k1
  have hxy : hp 5 (c * 5 + d) - a = -(hp 5 (d * 5 + c) + a) := by
    have := hst.1.2.2.2.1 c d (by omega) (by omega)
    rw [show c * 5 + d = 5 * c + d by omega, this, show 5 * d + c = d * 5 + c by omega, neg_add32]
  exact SE_debt h5 hc hd hn hxy k2
theorem S_hand {hp : HP} {b b' P Cn Tn : Nat} (hr : Rr hp b b') (htx : Rtx hp) (hbr : Rbr hp b P Cn Tn) (hst : Rst hp Cn) (him : Rim hp Cn) (hpa : Rpa hp Cn) (hsl : Rsl hp P Cn Tn) {c d : Nat} (hc : c < Cn) (hd : d < Cn) (hn : c ≠ d) (a : Int32) : ∃ hp1 hm, f_Pa_push hp 3 = some (0, hp1) ∧ f_Mo_minds (hx4 hp1 c d a) = some (0, hm) ∧ hx4 hp1 c d a 4 d = cla (hp 4 d + a) ∧ hx4 hp1 c d a 5 (c * 5 + d) = hp 5 (c * 5 + d) - a ∧ (hx4 hp1 c d a 0 8).toNatClampNeg = b ∧ Rbr (hx4 hp1 c d a) b P Cn Tn ∧ nd (hx4 hp1 c d a) = nd hp ∧ hx4 hp1 c d a 100 = hp 100 ∧ (∀ j, j < 96 → hm 100 j = hp 100 j) ∧ (∀ w2, Rbr (setc hm 100 w2) b P Cn Tn ∧ nd (setc hm 100 w2) = nd hp) ∧ ∀ w2, (∀ j, w2 j = w4 (hm 100) c d (cla (hp 4 c + -a)) (cla (hp 4 d + a)) (hp 5 (c * 5 + d) - a) (hp 5 (d * 5 + c) + a) j) → R (setc hm 100 w2) := by
  obtain ⟨nx, ct, p1, p2, p3, p4, p5, p6⟩ := hpa
  have hb := Rr_or hr
  have c5 := hbr.1.2.1
  obtain ⟨hp1, hpush, pu⟩ := x_push p1 p2 p3 p4
  have g0 : ∀ q, q < 6 ∨ 67 < q → hp1 q = hp q := pu.1
  have e4 : hp1 4 = hp 4 := g0 4 (by omega)
  have e5 : hp1 5 = hp 5 := g0 5 (by omega)
  have fx : ∀ q, q ≠ 4 → q ≠ 5 → hx4 hp1 c d a q = hp1 q := by
    intro q q4 q5
    unfold hx4
    simp only [up_ap]
    rw [if_neg q5, if_neg q5, if_neg q4, if_neg q4]
  have x4 : hx4 hp1 c d a 4 = hx4 hp c d a 4 := by
    show upd (upd (hp1 4) c _) d _ = upd (upd (hp 4) c _) d _
    rw [e4]
  have x5 : hx4 hp1 c d a 5 = hx4 hp c d a 5 := by
    show upd (upd (hp1 5) _ _) _ _ = upd (upd (hp 5) _ _) _ _
    rw [e5]
  have fxh : ∀ q, q < 6 ∨ 67 < q → q ≠ 4 → q ≠ 5 → hx4 hp1 c d a q = hp q := fun q q1 q2 q3 => by rw [fx q q2 q3, g0 q q1]
  obtain ⟨hm, hmin, mu⟩ := m_minds (hp := hx4 hp1 c d a) p2 (by rw [fxh 99 (by omega) (by omega) (by omega)]; exact p5)
  obtain ⟨m1, m2, m3, m4, m5⟩ := id mu
  have hbx : Rbr (hx4 hp1 c d a) b P Cn Tn := Rbr_cong hp hb (fun q hq => fxh q (by omega) (by omega) (by omega)) (by rw [fxh 99 (by omega) (by omega) (by omega)]) (by rw [fxh 99 (by omega) (by omega) (by omega)]) (by rw [fxh 99 (by omega) (by omega) (by omega)]) hbr
  have w1 : ∀ j, j < 96 → hm 100 j = hp 100 j := fun j hj => by rw [m4 j hj, fxh 100 (by omega) (by omega) (by omega)]
  refine ⟨hp1, hm, hpush, hmin, ?_, ?_, ?_, hbx, nd_cong (fxh 102 (by omega) (by omega) (by omega)), fxh 100 (by omega) (by omega) (by omega), w1, ?_, ?_⟩
  · rw [x4]
    show upd (upd (hp 4) c _) d _ d = _
    rw [upd_ap, if_pos rfl]
  · rw [x5]
    show upd (upd (hp 5) (c * 5 + d) _) (d * 5 + c) _ (c * 5 + d) = _
    rw [upd_ap, if_neg (by omega), upd_ap, if_pos rfl]
  · rw [fxh 0 (by omega) (by omega) (by omega)]; exact (isB_b hr).2
  · intro w2
    refine ⟨Rbr_cong (hx4 hp1 c d a) hb (fun q hq => by rw [setc_ap, if_neg (by omega)]; exact m1 q (by omega) (by omega)) (by show hm 99 3 = _; exact m2 3 (by omega)) (by show hm 99 5 = _; exact m2 5 (by omega)) (by show hm 99 8 = _; exact m2 8 (by omega)) hbx, ?_⟩
    refine nd_cong ?_
    show hm 102 = _
    rw [m1 102 (by omega) (by omega)]
    exact fxh 102 (by omega) (by omega) (by omega)
  · intro w2 hw2
    have ew : w2 = w4 (hm 100) c d (cla (hp 4 c + -a)) (cla (hp 4 d + a)) (hp 5 (c * 5 + d) - a) (hp 5 (d * 5 + c) + a) := funext hw2
    have far : ∀ j, 31 ≤ j → w2 j = hm 100 j := by
      intro j hj
      rw [ew]
      unfold w4
      rw [upd_ap, if_neg (by omega), upd_ap, if_neg (by omega), upd_ap, if_neg (by omega), upd_ap, if_neg (by omega)]
    refine R_done hr htx hbr hst him p1 p2 p6 hsl pu (hpx := hx4 hp1 c d a) (hm := hm) (fun x x0 x3 x4 x5 => fx x x4 x5) (fun j hj => by rw [fx 0 (by omega) (by omega)]) mu (fun x hx => by rw [setc_ap, if_neg hx]) (fun j hj => by rw [setc_at]; exact far j (by omega)) ?_
    refine ⟨?_, ?_, ?_⟩
    · have k := hand_SE (a := a) hst c5 hc hd hn w1
      have r3 : setc hm 100 w2 3 2 = hx4 hp c d a 3 2 := by
        show hm 3 2 = hp 3 2
        rw [m1 3 (by omega) (by omega), fxh 3 (by omega) (by omega) (by omega)]
      have r4 : setc hm 100 w2 4 = hx4 hp c d a 4 := by
        show hm 4 = _
        rw [m1 4 (by omega) (by omega)]; exact x4
      have r5 : setc hm 100 w2 5 = hx4 hp c d a 5 := by
        show hm 5 = _
        rw [m1 5 (by omega) (by omega)]; exact x5
      rw [r3, r4, r5, setc_at, ew]
      exact k
    · rw [setc_at, far 31 (by omega), w1 31 (by omega)]
      show hm 0 11 = _
      rw [m1 0 (by omega) (by omega), fxh 0 (by omega) (by omega) (by omega)]
      exact hst.2.1
    · rw [setc_at, far 31 (by omega), w1 31 (by omega)]
      exact hst.2.2
theorem up4_setc (hp : HP) (a b c d : Nat) (v1 v2 v3 v4 : Int32) : up (up (up (up hp 100 a v1) 100 b v2) 100 c v3) 100 d v4 = setc hp 100 (upd (upd (upd (upd (hp 100) a v1) b v2) c v3) d v4) := by
  have e := setc_self hp 100
  conv => lhs; rw [← e]
  rw [up_setc, up_setc, up_setc, up_setc]
theorem S_lend {hp : HP} (h : R hp) (a1 a2 a : Int32) : Sim hp (fun x => f_BA_lend x a1 a2 a) (fun x => f_Mo_lend x a1 a2 a) := by
  have hR := h
  obtain ⟨b, b', P, Cn, Tn, hr, htx, hbr, hst, him, hpa, hsl⟩ := h
  obtain ⟨ib, eb⟩ := isB_b hr
  have c5 := hbr.1.2.1
  rcases two_c a1 a2 c5 with e | ⟨c, d, hc, hd, hne, rfl, rfl, e1⟩
  · refine Sim.pure (-1000000001) ?_ ?_ hR
    · simp only [f_BA_lend, x_areTwo hr hbr, e, Option.bind_some, if_true]
    · simp only [f_Mo_lend, m_areTwo hbr, e, Option.bind_some, if_true]
  · rcases @wi_lit a 1 999 with ⟨e0, -⟩ | ⟨e0, h1, h2⟩
    · refine Sim.pure (-1000000002) ?_ ?_ hR
      · simp only [f_BA_lend, x_areTwo hr hbr, e1, x_within, e0, Option.bind_some, if_true, if_neg one_ne]
      · simp only [f_Mo_lend, m_areTwo hbr, e1, m_in hp a 1 999 (A := 1) (B := 999) rfl rfl, e0, Option.bind_some, if_true, if_neg one_ne]
    · by_cases hF : hp 5 (d * 5 + c) + a ≤ 9999
      · obtain ⟨hp1, hm, s1, s2, s3, s4, s5, s6, s7, s8, s9, s10, s11⟩ := S_hand hr htx hbr hst him hpa hsl hc hd hne a
        generalize hw : upd (upd (upd (upd (hm 100) (1 + c) (cla (hp 4 c + -a))) (1 + d) (cla (hp 4 d + a))) (6 + 5 * d + c) (hp 5 (d * 5 + c) + a)) (6 + 5 * c + d) (hp 5 (c * 5 + d) - a) = w2
        refine ⟨ps (nd hp) (cla (hp 4 d + a)) P, hx4 hp1 c d a, setc hm 100 w2, ?_, ?_, s11 w2 (fun j => ?_)⟩
        · show f_BA_lend hp (nI c) (nI d) a = _
          unfold f_BA_lend
          rw [x_areTwo hr hbr, e1, Option.bind_some]
          dsimp only
          rw [if_neg one_ne, x_within, e0, Option.bind_some]
          dsimp only
          rw [if_neg one_ne, x_debt hp 3 (by omega) (by omega), Option.bind_some]
          dsimp only
          rw [if_pos hF, s1, Option.bind_some]
          dsimp only
          rw [x_hand hp1 (by omega) (by omega) hne, Option.bind_some]
          dsimp only
          rw [s5, if_pos ib, if_pos (inb_n (by omega) (by omega)), cl_n (by omega), s3, x_ps s6, s7]
          rfl
        · show f_Mo_lend (hx4 hp1 c d a) (nI c) (nI d) a = _
          unfold f_Mo_lend
          rw [m_areTwo s6, e1, Option.bind_some]
          dsimp only
          rw [if_neg one_ne, m_in _ a 1 999 (A := 1) (B := 999) rfl rfl, e0, Option.bind_some]
          dsimp only
          rw [if_neg one_ne, n_65, if_pos (inb_n (by omega) (by omega)), cl_n (by omega), if_pos (by rw [s8, ← Rst_de hst (by omega) (by omega)]; exact hF), s2, Option.bind_some]
          dsimp only
          rw [m_changes (by omega), Option.bind_some]
          dsimp only
          rw [m_changes (by omega), Option.bind_some]
          dsimp only
          rw [m_owesMore _ (by omega) (by omega) (Ne.symm hne), Option.bind_some]
          dsimp only
          rw [up4_setc]
          have v1 : cla (hm 100 (1 + c) + -a) = cla (hp 4 c + -a) := by rw [s9 _ (by omega), Rst_ba hst (by omega)]
          have v2 : up hm 100 (1 + c) (cla (hm 100 (1 + c) + -a)) 100 (1 + d) = hp 4 d := by rw [up_ap, if_pos rfl, upd_ap, if_neg (by omega), s9 _ (by omega), Rst_ba hst (by omega)]
          have v3 : ∀ z1 z2, up (up hm 100 (1 + c) z1) 100 (1 + d) z2 100 (6 + 5 * d + c) = hp 5 (d * 5 + c) := fun z1 z2 => by
            rw [up_ap, if_pos rfl, upd_ap, if_neg (by omega), up_ap, if_pos rfl, upd_ap, if_neg (by omega), s9 _ (by omega), Rst_de hst (by omega) (by omega)]
          have v4 : ∀ z1 z2, up (up hm 100 (1 + c) z1) 100 (1 + d) z2 100 (6 + 5 * c + d) = hp 5 (c * 5 + d) := fun z1 z2 => by
            rw [up_ap, if_pos rfl, upd_ap, if_neg (by omega), up_ap, if_pos rfl, upd_ap, if_neg (by omega), s9 _ (by omega), Rst_de hst (by omega) (by omega)]
          rw [v2, v1, v3, v4, hw, m_thereOf (s10 w2).1 (by omega), (s10 w2).2, setc_at]
          have v5 : w2 (1 + d) = cla (hp 4 d + a) := by rw [← hw, upd_ap, if_neg (by omega), upd_ap, if_neg (by omega), upd_ap, if_pos rfl]
          rw [v5]
          rfl
        · rw [← hw]
          unfold w4
          rw [upd_comm _ (show 6 + 5 * c + d ≠ 6 + 5 * d + c by omega)]
      · refine Sim.pure (-1000000004) ?_ ?_ hR
        · simp only [f_BA_lend, x_areTwo hr hbr, e1, x_within, e0, x_debt hp 3 (show d < 5 by omega) (show c < 5 by omega), Option.bind_some, if_neg one_ne]
          rw [if_neg hF]
        · simp only [f_Mo_lend, m_areTwo hbr, e1, m_in hp a 1 999 (A := 1) (B := 999) rfl rfl, e0, Option.bind_some, if_neg one_ne]
          rw [n_65, if_pos (inb_n (by omega) (by omega)), cl_n (by omega), ← Rst_de hst (by omega) (by omega), if_neg hF]
theorem sub_neg32 (x a : Int32) : x - -a = x + a := by rw [Int32.sub_neg]
theorem S_payBack {hp : HP} (h : R hp) (a1 a2 a : Int32) : Sim hp (fun x => f_BA_payBack x a1 a2 a) (fun x => f_Mo_payBack x a1 a2 a) := by
  have hR := h
  obtain ⟨b, b', P, Cn, Tn, hr, htx, hbr, hst, him, hpa, hsl⟩ := h
  obtain ⟨ib, eb⟩ := isB_b hr
  have c5 := hbr.1.2.1
  rcases two_c a1 a2 c5 with e | ⟨c, d, hc, hd, hne, rfl, rfl, e1⟩
  · refine Sim.pure (-1000000001) ?_ ?_ hR
    · simp only [f_BA_payBack, x_areTwo hr hbr, e, Option.bind_some, if_true]
    · simp only [f_Mo_payBack, m_areTwo hbr, e, Option.bind_some, if_true]
  · rcases @wi_lit a 1 999 with ⟨e0, -⟩ | ⟨e0, h1, h2⟩
    · refine Sim.pure (-1000000002) ?_ ?_ hR
      · simp only [f_BA_payBack, x_areTwo hr hbr, e1, x_within, e0, Option.bind_some, if_true, if_neg one_ne]
      · simp only [f_Mo_payBack, m_areTwo hbr, e1, m_in hp a 1 999 (A := 1) (B := 999) rfl rfl, e0, Option.bind_some, if_true, if_neg one_ne]
    · by_cases hF : a ≤ hp 5 (c * 5 + d)
      · obtain ⟨hp1, hm, s1, s2, s3, s4, s5, s6, s7, s8, s9, s10, s11⟩ := S_hand hr htx hbr hst him hpa hsl hc hd hne a
        generalize hw : upd (upd (upd (upd (hm 100) (1 + c) (cla (hp 4 c + -a))) (1 + d) (cla (hp 4 d + a))) (6 + 5 * c + d) (hp 5 (c * 5 + d) - a)) (6 + 5 * d + c) (hp 5 (d * 5 + c) + a) = w2
        refine ⟨hp 5 (c * 5 + d) - a, hx4 hp1 c d a, setc hm 100 w2, ?_, ?_, s11 w2 (fun j => ?_)⟩
        · show f_BA_payBack hp (nI c) (nI d) a = _
          unfold f_BA_payBack
          rw [x_areTwo hr hbr, e1, Option.bind_some]
          dsimp only
          rw [if_neg one_ne, x_within, e0, Option.bind_some]
          dsimp only
          rw [if_neg one_ne, x_debt hp 3 (by omega) (by omega), Option.bind_some]
          dsimp only
          rw [if_pos hF, s1, Option.bind_some]
          dsimp only
          rw [x_hand hp1 (by omega) (by omega) hne, Option.bind_some]
          dsimp only
          rw [x_debt _ 3 (by omega) (by omega), Option.bind_some]
          show some (hx4 hp1 c d a 5 (c * 5 + d), hx4 hp1 c d a) = _
          rw [s4]
        · show f_Mo_payBack (hx4 hp1 c d a) (nI c) (nI d) a = _
          unfold f_Mo_payBack
          rw [m_areTwo s6, e1, Option.bind_some]
          dsimp only
          rw [if_neg one_ne, m_in _ a 1 999 (A := 1) (B := 999) rfl rfl, e0, Option.bind_some]
          dsimp only
          rw [if_neg one_ne, n_65, if_pos (inb_n (by omega) (by omega)), cl_n (by omega), if_pos (by rw [s8, ← Rst_de hst (by omega) (by omega)]; exact hF), s2, Option.bind_some]
          dsimp only
          rw [m_changes (by omega), Option.bind_some]
          dsimp only
          rw [m_changes (by omega), Option.bind_some]
          dsimp only
          rw [m_owesMore _ (by omega) (by omega) hne, Option.bind_some]
          dsimp only
          rw [up4_setc]
          have v1 : cla (hm 100 (1 + c) + -a) = cla (hp 4 c + -a) := by rw [s9 _ (by omega), Rst_ba hst (by omega)]
          have v2 : up hm 100 (1 + c) (cla (hm 100 (1 + c) + -a)) 100 (1 + d) = hp 4 d := by rw [up_ap, if_pos rfl, upd_ap, if_neg (by omega), s9 _ (by omega), Rst_ba hst (by omega)]
          have v3 : ∀ z1 z2, up (up hm 100 (1 + c) z1) 100 (1 + d) z2 100 (6 + 5 * d + c) = hp 5 (d * 5 + c) := fun z1 z2 => by
            rw [up_ap, if_pos rfl, upd_ap, if_neg (by omega), up_ap, if_pos rfl, upd_ap, if_neg (by omega), s9 _ (by omega), Rst_de hst (by omega) (by omega)]
          have v4 : ∀ z1 z2, up (up hm 100 (1 + c) z1) 100 (1 + d) z2 100 (6 + 5 * c + d) = hp 5 (c * 5 + d) := fun z1 z2 => by
            rw [up_ap, if_pos rfl, upd_ap, if_neg (by omega), up_ap, if_pos rfl, upd_ap, if_neg (by omega), s9 _ (by omega), Rst_de hst (by omega) (by omega)]
          rw [v2, v1, v3, v4, sub_neg32, add_neg32 (hp 5 (c * 5 + d)) a, hw, setc_at]
          have v5 : w2 (6 + 5 * c + d) = hp 5 (c * 5 + d) - a := by rw [← hw, upd_ap, if_neg (by omega), upd_ap, if_pos rfl]
          rw [v5]
        · rw [← hw]
          rfl
      · refine Sim.pure (-1000000003) ?_ ?_ hR
        · simp only [f_BA_payBack, x_areTwo hr hbr, e1, x_within, e0, x_debt hp 3 (show c < 5 by omega) (show d < 5 by omega), Option.bind_some, if_neg one_ne]
          rw [if_neg hF]
        · simp only [f_Mo_payBack, m_areTwo hbr, e1, m_in hp a 1 999 (A := 1) (B := 999) rfl rfl, e0, Option.bind_some, if_neg one_ne]
          rw [n_65, if_pos (inb_n (by omega) (by omega)), cl_n (by omega), ← Rst_de hst (by omega) (by omega), if_neg hF]
end
section
theorem am_cong {hp hp' : HP} (h1 : hp' 103 = hp 103) (h2 : hp' 104 = hp 104) (c : Nat) : am hp' c = am hp c := by
  funext v; unfold am; rw [h1, h2]
def hxm (hp : HP) (ba : Nat → Int32) (mo : Int32) : HP := setc (up hp 3 2 mo) 4 ba
theorem hxm_o (hp : HP) (ba : Nat → Int32) (mo : Int32) {q : Nat} (h3 : q ≠ 3) (h4 : q ≠ 4) : hxm hp ba mo q = hp q := by
  unfold hxm; rw [setc_ap, if_neg h4, up_ap, if_neg h3]
theorem hxm_up (hp : HP) (ba : Nat → Int32) (mo m2 : Int32) : up (hxm hp ba mo) 3 2 m2 = hxm hp ba m2 := by
  funext q
  by_cases q3 : q = 3
  · subst q3
    show upd (upd (hp 3) 2 mo) 2 m2 = upd (hp 3) 2 m2
    funext j
    simp only [upd_ap]
    by_cases e : j = 2
    · rw [if_pos e, if_pos e]
    · rw [if_neg e, if_neg e, if_neg e]
  · rw [up_ap, if_neg q3]
    unfold hxm
    rw [setc_ap, setc_ap, up_ap, up_ap, if_neg q3, if_neg q3]
def pmx (f : Nat → Int32 → Int32) (Cn : Nat) (ba : Nat → Int32) : Nat → Int32 := it (fun c ba => upd ba c (f c (ba c))) 0 Cn ba
def pmm (f : Nat → Int32 → Int32) (Cn : Nat) (w : Nat → Int32) : Nat → Int32 := it (fun c w => upd w (1 + c) (f c (w (1 + c)))) 0 Cn w
theorem pm_SE {f : Nat → Int32 → Int32} (hf : ∀ c v, -9999 ≤ (f c v).toInt ∧ (f c v).toInt ≤ 9999) {Cn : Nat} {mo : Int32} {ba de w : Nat → Int32} (h : SE Cn mo ba de w 0) : ∀ k, k ≤ 5 → SE Cn mo (pmx f k ba) de (pmm f k w) 0 := by
  intro k
  induction k with
  | zero => intro _; exact h
  | succ k ih =>
    intro hk
    have ih := ih (by omega)
    unfold pmx pmm at *
    rw [it_succ, it_succ, Nat.zero_add]
    have e := (ih.2.1 k (by omega)).1
    rw [show 0 + 1 + k = 1 + k by omega] at e
    rw [← e]
    exact SE_bal (by omega) (hf _ _) ih
theorem pmm_far (f : Nat → Int32 → Int32) (w : Nat → Int32) {j : Nat} (hj : 6 ≤ j) : ∀ k, k ≤ 5 → pmm f k w j = w j := by
  intro k
  induction k with
  | zero => intro _; rfl
  | succ k ih =>
    intro hk
    have ih := ih (by omega)
    unfold pmm at *
    rw [it_succ, Nat.zero_add, upd_ap, if_neg (by omega)]
    exact ih
theorem x_pass {hp : HP} {b P Cn Tn : Nat} (hb : b = 87 ∨ b = 93) (h : Rbr hp b P Cn Tn) (ba : Nat → Int32) (mo : Int32) : f_St_passMonth (hxm hp ba mo) 3 b = some (0, hxm hp (pmx (am hp) Cn ba) (mo + 1)) := by
  have c5 := h.1.2.1
  have hB : ∀ ba, Rbr (hxm hp ba mo) b P Cn Tn := fun ba => Rbr_cong hp hb (fun q hq => hxm_o hp ba mo (by omega) (by omega)) rfl rfl rfl h
  unfold f_St_passMonth
  have key := (for_up (fun n k (ba : Nat → Int32) => f_St_passMonth_L2 3 b (fun hp5 => some ((0 : Int32), (up hp5 3 2 ((hp5 3 2) + (1 : Int32))))) n (hxm hp ba mo) (nI k)) Cn (fun c ba => upd ba c (am hp c (ba c))) (fun ba => some (0, up (hxm hp ba mo) 3 2 (mo + 1))) (fun _ _ => True) ?_ ?_ Cn 0 FU ba (by omega) (FU_gt (by omega)) trivial).1
  · rw [hxm_up] at key
    exact key
  · intro n k ba hk _
    refine ⟨?_, trivial⟩
    show f_St_passMonth_L2 3 b _ (n + 1) (hxm hp ba mo) (nI k) = _
    rw [f_St_passMonth_L2, (hB ba).2.1.2.1, if_neg (by exact n_nle Cn k (by omega) (by omega)), if_pos (inb_n (by omega) (by omega)), cl_n (by omega), x_am (hB ba) hk, Option.bind_some]
    dsimp only
    have e1 : hxm hp ba mo (3 + 1) k = ba k := rfl
    have e2 : am (hxm hp ba mo) k = am hp k := am_cong rfl rfl k
    rw [e1, e2, nI_1]
    show f_St_passMonth_L2 3 b _ n (up (setc (up hp 3 2 mo) 4 ba) 4 k (am hp k (ba k))) (nI (k + 1)) = _
    rw [up_setc]
    rfl
  · intro n ba _
    show f_St_passMonth_L2 3 b _ (n + 1) (hxm hp ba mo) (nI Cn) = _
    rw [f_St_passMonth_L2, (hB ba).2.1.2.1, if_pos (by exact n_le Cn Cn (by omega) (by omega))]
    rfl
def gxm (f : Nat → Int32 → Int32) (Cn : Nat) : Nat → (Nat → Int32) × Int32 → (Nat → Int32) × Int32 := fun _ s => (pmx f Cn s.1, s.2 + 1)
def gmm (f : Nat → Int32 → Int32) (Cn : Nat) : Nat → (Nat → Int32) → (Nat → Int32) := fun _ w => upd (pmm f Cn w) 0 (pmm f Cn w 0 + 1)
theorem m_pass {hp : HP} {b P Cn Tn : Nat} (hb : b = 87 ∨ b = 93) (h : Rbr hp b P Cn Tn) (v1 v2 : Int32) (K : HP → Option (Int32 × HP)) (w : Nat → Int32) : f_Mo_month_L53 v1 v2 K FU (setc hp 100 w) 0 = K (setc hp 100 (pmm (am hp) Cn w)) := by
  have c5 := h.1.2.1
  have hB : ∀ w, Rbr (setc hp 100 w) b P Cn Tn := fun w => Rbr_cong hp hb (fun q hq => by rw [setc_ap, if_neg (by omega)]) rfl rfl rfl h
  refine (for_up (fun n k (w : Nat → Int32) => f_Mo_month_L53 v1 v2 K n (setc hp 100 w) (nI k)) Cn (fun c w => upd w (1 + c) (am hp c (w (1 + c)))) (fun w => K (setc hp 100 w)) (fun _ _ => True) ?_ ?_ Cn 0 FU w (by omega) (FU_gt (by omega)) trivial).1
  · intro n k w hk _
    refine ⟨?_, trivial⟩
    show f_Mo_month_L53 v1 v2 K (n + 1) (setc hp 100 w) (nI k) = _
    rw [f_Mo_month_L53, (hB w).2.2.1.2.1, if_neg (by exact n_nle Cn k (by omega) (by omega)), n_1, if_pos (inb_n (by omega) (by omega)), cl_n (by omega), m_am (hB w) hk, Option.bind_some]
    dsimp only
    rw [setc_at, up_setc, nI_1]
    have e2 : am (setc hp 100 w) k = am hp k := am_cong rfl rfl k
    rw [e2]
  · intro n w _
    show f_Mo_month_L53 v1 v2 K (n + 1) (setc hp 100 w) (nI Cn) = _
    rw [f_Mo_month_L53, (hB w).2.2.1.2.1, if_pos (by exact n_le Cn Cn (by omega) (by omega))]
theorem x_months {hp : HP} {b P Cn Tn : Nat} (hb : b = 87 ∨ b = 93) (e0 : hp 0 8 = nI b) (h : Rbr hp b P Cn Tn) {n : Nat} (hn : n ≤ 60) (K : HP → Option (Int32 × HP)) (ba : Nat → Int32) (mo : Int32) : f_BA_month_L55 (nI n) K FU (hxm hp ba mo) 0 = K (hxm hp (it (gxm (am hp) Cn) 0 n (ba, mo)).1 (it (gxm (am hp) Cn) 0 n (ba, mo)).2) := by
  have ib : isB b = true := by rcases hb with rfl | rfl <;> rfl
  have eb : (nI b).toNatClampNeg = b := cl_n (by omega)
  refine (for_up (fun f k (s : (Nat → Int32) × Int32) => f_BA_month_L55 (nI n) K f (hxm hp s.1 s.2) (nI k)) n (gxm (am hp) Cn) (fun s => K (hxm hp s.1 s.2)) (fun _ _ => True) ?_ ?_ n 0 FU (ba, mo) (by omega) (FU_gt (by omega)) trivial).1
  · intro f k s hk _
    obtain ⟨x, m⟩ := s
    refine ⟨?_, trivial⟩
    simp only [gxm]
    rw [f_BA_month_L55, if_neg (by exact n_nle n k (by omega) (by omega)), hxm_o hp x m (by omega) (by omega), e0, eb, if_pos ib, x_pass hb h, Option.bind_some, nI_1]
  · intro f s _
    show f_BA_month_L55 (nI n) K (f + 1) (hxm hp s.1 s.2) (nI n) = _
    rw [f_BA_month_L55, if_pos (by exact n_le n n (by omega) (by omega))]
theorem m_months {hp : HP} {b P Cn Tn : Nat} (hb : b = 87 ∨ b = 93) (h : Rbr hp b P Cn Tn) {n : Nat} (hn : n ≤ 60) (K : HP → Option (Int32 × HP)) (w : Nat → Int32) : f_Mo_month_L46 (nI n) K FU (setc hp 100 w) 0 = K (setc hp 100 (it (gmm (am hp) Cn) 0 n w)) := by
  refine (for_up (fun f k (w : Nat → Int32) => f_Mo_month_L46 (nI n) K f (setc hp 100 w) (nI k)) n (gmm (am hp) Cn) (fun w => K (setc hp 100 w)) (fun _ _ => True) ?_ ?_ n 0 FU w (by omega) (FU_gt (by omega)) trivial).1
  · intro f k w hk _
    refine ⟨?_, trivial⟩
    show f_Mo_month_L46 (nI n) K (f + 1) (setc hp 100 w) (nI k) = _
    rw [f_Mo_month_L46, if_neg (by exact n_nle n k (by omega) (by omega)), m_pass hb h, setc_at, up_setc, nI_1]
    rfl
  · intro f w _
    show f_Mo_month_L46 (nI n) K (f + 1) (setc hp 100 w) (nI n) = _
    rw [f_Mo_month_L46, if_pos (by exact n_le n n (by omega) (by omega))]
theorem months_SE {hp : HP} {Cn : Nat} (c5 : Cn ≤ 5) {mo : Int32} {ba de w : Nat → Int32} (h : SE Cn mo ba de w 0) : ∀ n, SE Cn (it (gxm (am hp) Cn) 0 n (ba, mo)).2 (it (gxm (am hp) Cn) 0 n (ba, mo)).1 de (it (gmm (am hp) Cn) 0 n w) 0 ∧ ∀ j, 6 ≤ j → it (gmm (am hp) Cn) 0 n w j = w j := by
  intro n
  induction n with
  | zero => exact ⟨h, fun _ _ => rfl⟩
  | succ n ih =>
    obtain ⟨i1, i2⟩ := ih
    rw [it_succ, it_succ, Nat.zero_add]
    refine ⟨SE_mon (pm_SE (am_rg hp) i1 Cn c5), fun j hj => ?_⟩
    show upd (pmm (am hp) Cn _) 0 _ j = _
    rw [upd_ap, if_neg (by omega), pmm_far (am hp) _ hj Cn c5]
    exact i2 j hj
theorem S_month {hp : HP} (h : R hp) (n : Int32) : Sim hp (fun x => f_BA_month x n) (fun x => f_Mo_month x n) := by
  have hR := h
  obtain ⟨b, b', P, Cn, Tn, hr, htx, hbr, hst, him, ⟨nx, ct, p1, p2, p3, p4, p5, p6⟩, hsl⟩ := h
  obtain ⟨ib, eb⟩ := isB_b hr
  have hb := Rr_or hr
  have c5 := hbr.1.2.1
  have p8 := hbr.1.1
  rcases @wi_lit n 1 60 with ⟨e0, -⟩ | ⟨e0, h1, h2⟩
  · refine Sim.pure (-1000000002) ?_ ?_ hR
    · simp only [f_BA_month, x_within, e0, Option.bind_some, if_true]
    · simp only [f_Mo_month, m_in hp n 1 60 (A := 1) (B := 60) rfl rfl, e0, Option.bind_some, if_true]
  · have hx0 : f_BA_month hp n = if P = 0 then some ((-1000000003 : Int32), hp) else (if hp 3 2 ≤ 9000 then ((f_Pa_push hp 3).bind fun p10 => f_BA_month_L55 n (fun hp15 => some ((hp15 3 2), hp15)) FU p10.2 (0 : Int32)) else some ((-1000000004 : Int32), hp)) := by
      unfold f_BA_month
      rw [x_within, e0, Option.bind_some]
      dsimp only
      rw [if_neg one_ne, eb, if_pos ib]
      unfold f_Br_isThere
      rw [hbr.2.1.1]
      by_cases q : P = 0
      · rw [if_pos (by exact n_le P 0 (by omega) (by omega)), Option.bind_some, if_pos q]; rfl
      · rw [if_neg (by exact n_nle P 0 (by omega) (by omega)), Option.bind_some, if_neg q]; rfl
    have hm0 : ∀ hp' : HP, hp' 99 3 = nI P → f_Mo_month hp' n = if P = 0 then some ((-1000000003 : Int32), hp') else (if hp' 100 0 ≤ 9000 then ((f_Mo_minds hp').bind fun p7 => f_Mo_month_L46 n (fun hp14 => some ((hp14 100 0), hp14)) FU p7.2 (0 : Int32)) else some ((-1000000004 : Int32), hp')) := by
      intro hp' e3
      unfold f_Mo_month
      rw [m_in hp' n 1 60 (A := 1) (B := 60) rfl rfl, e0, Option.bind_some]
      dsimp only
      rw [if_neg one_ne]
      by_cases q : P = 0
      · rw [if_pos (by rw [e3, q]; rfl), if_pos q]
      · rw [if_neg (by rw [e3]; exact n_ne P 0 q (by omega) (by omega)), if_neg q]
    by_cases q : P = 0
    · rw [if_pos q] at hx0
      have hm := hm0 hp hbr.2.2.1.1
      rw [if_pos q] at hm
      exact Sim.pure _ hx0 hm hR
    · rw [if_neg q] at hx0
      have ew : hp 3 2 = hp 100 0 := hst.1.1
      by_cases qf : hp 3 2 ≤ 9000
      · rw [if_pos qf] at hx0
        rw [i1] at h1
        have i60 : (60 : Int32).toInt = 60 := rfl
        obtain ⟨n, hn, rfl⟩ := of_rg (x := n) (n := 61) (by omega) (by omega)
        obtain ⟨hp1, hpush, pu⟩ := x_push p1 p2 p3 p4
        have g0 : ∀ q, q < 6 ∨ 67 < q → hp1 q = hp q := pu.1
        have hb1 : Rbr hp1 b P Cn Tn := Rbr_cong hp hb (fun q hq => g0 q (by omega)) (by rw [g0 99 (by omega)]) (by rw [g0 99 (by omega)]) (by rw [g0 99 (by omega)]) hbr
        have e1 : hp1 = hxm hp1 (hp 4) (hp 3 2) := by
          funext x
          unfold hxm
          rw [setc_ap]
          by_cases x4 : x = 4
          · rw [if_pos x4, x4, g0 4 (by omega)]
          · rw [if_neg x4, up_ap]
            by_cases x3 : x = 3
            · rw [if_pos x3, x3, ← g0 3 (by omega)]
              funext j
              rw [upd_ap]
              by_cases j2 : j = 2
              · rw [if_pos j2, j2]
              · rw [if_neg j2]
            · rw [if_neg x3]
        rw [hpush, Option.bind_some] at hx0
        dsimp only at hx0
        rw [e1, x_months hb (by rw [g0 0 (by omega)]; exact hr.2.1) hb1 (by omega)] at hx0
        generalize hX : it (gxm (am hp1) Cn) 0 n (hp 4, hp 3 2) = X at hx0
        have amx : ∀ c, am hp1 c = am hp c := fun c => am_cong (g0 103 (by omega)) (g0 104 (by omega)) c
        have amx' : am hp1 = am hp := funext amx
        obtain ⟨hm, hmin, mu⟩ := m_minds (hp := hxm hp1 X.1 X.2) p2 (by rw [hxm_o _ _ _ (by omega) (by omega), g0 99 (by omega)]; exact p5)
        obtain ⟨m1, m2, m3, m4, m5⟩ := id mu
        have w1 : ∀ j, j < 96 → hm 100 j = hp 100 j := fun j hj => by rw [m4 j hj, hxm_o _ _ _ (by omega) (by omega), g0 100 (by omega)]
        have hbm : Rbr hm b P Cn Tn := Rbr_cong hp1 hb (fun q hq => by rw [m1 q (by omega) (by omega), hxm_o _ _ _ (by omega) (by omega)]) (by rw [m2 3 (by omega), hxm_o _ _ _ (by omega) (by omega)]) (by rw [m2 5 (by omega), hxm_o _ _ _ (by omega) (by omega)]) (by rw [m2 8 (by omega), hxm_o _ _ _ (by omega) (by omega)]) hb1
        have amm : am hm = am hp := by
          funext c
          exact am_cong (by rw [m1 103 (by omega) (by omega), hxm_o _ _ _ (by omega) (by omega), g0 103 (by omega)]) (by rw [m1 104 (by omega) (by omega), hxm_o _ _ _ (by omega) (by omega), g0 104 (by omega)]) c
        have hm1 := hm0 (hxm hp1 X.1 X.2) (by rw [hxm_o _ _ _ (by omega) (by omega)]; exact hb1.2.2.1.1)
        rw [if_neg q, if_pos (by rw [hxm_o _ _ _ (by omega) (by omega), g0 100 (by omega), ← ew]; exact qf), hmin, Option.bind_some] at hm1
        dsimp only at hm1
        have e2 := m_months hb hbm (show n ≤ 60 by omega) (fun hp14 => some ((hp14 100 0), hp14)) (hm 100)
        rw [setc_self] at e2
        rw [e2] at hm1
        have sem := months_SE (hp := hp) c5 (SE.cong (Cn := Cn) (w' := hm 100) (o' := 0) rfl (fun _ _ => rfl) (fun _ _ => rfl) (fun i hi => w1 _ (by omega)) hst.1) n
        rw [amx'] at hX
        rw [amm, setc_at] at hm1
        rw [hX] at sem
        generalize it (gmm (am hp) Cn) 0 n (hm 100) = W at hm1 sem
        have eX : hxm hp1 X.1 X.2 3 2 = W 0 := sem.1.1
        rw [eX] at hx0
        refine ⟨W 0, hxm hp1 X.1 X.2, setc hm 100 W, hx0, hm1, ?_⟩
        refine R_done hr htx hbr hst him p1 p2 p6 hsl pu (hpx := hxm hp1 X.1 X.2) (hm := hm) (fun x x0 x3 x4 x5 => hxm_o _ _ _ x3 x4) (fun j hj => by rw [hxm_o _ _ _ (by omega) (by omega)]) mu (fun x hx => by rw [setc_ap, if_neg hx]) (fun j hj => by rw [setc_at]; exact sem.2 j (by omega)) ?_
        refine ⟨?_, ?_, ?_⟩
        · have r3 : setc hm 100 W 3 2 = X.2 := by show hm 3 2 = _; rw [m1 3 (by omega) (by omega)]; rfl
          have r4 : setc hm 100 W 4 = X.1 := by show hm 4 = _; rw [m1 4 (by omega) (by omega)]; rfl
          have r5 : setc hm 100 W 5 = hp 5 := by show hm 5 = _; rw [m1 5 (by omega) (by omega), hxm_o _ _ _ (by omega) (by omega), g0 5 (by omega)]
          rw [r3, r4, r5, setc_at]
          exact sem.1
        · rw [setc_at, sem.2 31 (by omega), w1 31 (by omega)]
          show hm 0 11 = _
          rw [m1 0 (by omega) (by omega), hxm_o _ _ _ (by omega) (by omega), g0 0 (by omega)]
          exact hst.2.1
        · rw [setc_at, sem.2 31 (by omega), w1 31 (by omega)]
          exact hst.2.2
      · rw [if_neg qf] at hx0
        have hm := hm0 hp hbr.2.2.1.1
        rw [if_neg q, if_neg (by rw [← ew]; exact qf)] at hm
        exact Sim.pure _ hx0 hm hR
end
section
/-- the next seed -/
def lc (k : Nat) : Nat := (k * 1103515245 + 12345) % 2147483648
theorem lc_lt (k : Nat) : lc k < 2147483648 := Nat.mod_lt _ (by decide)
theorem andL (a b : Nat) : lN a &&& lN b = lN (a &&& b) := by
  apply Int64.toBitVec_inj.1
  show BitVec.ofNat 64 a &&& BitVec.ofNat 64 b = BitVec.ofNat 64 (a &&& b)
  apply BitVec.eq_of_getLsbD_eq
  intro i hi
  simp [hi]
theorem maskL (n : Nat) : lN n &&& (2147483647 : Int64) = lN (n % 2147483648) := by
  show lN n &&& lN (2 ^ 31 - 1) = lN (n % 2 ^ 31)
  rw [andL, Nat.and_two_pow_sub_one_eq_mod]
theorem seed_l {k : Nat} (h : k < 2147483648) : ((nI k).toInt64 * (1103515245 : Int64)) + (12345 : Int64) = lN (k * 1103515245 + 12345) := by
  rw [nI_l (by omega)]
  show lN k * lN 1103515245 + lN 12345 = _
  rw [lN_mul, lN_add]
theorem seed_x {k : Nat} (h : k < 2147483648) : ((((nI k).toInt64 * (1103515245 : Int64)) + (12345 : Int64)) &&& (2147483647 : Int64)).toInt32 = nI (lc k) := by
  rw [seed_l h, maskL, lN_i]
  rfl
theorem seed_m {k : Nat} (h : k < 2147483648) : ((((nI k).toInt64 * (1103515245 : Int64)) + (12345 : Int64)) - (((nI k).toInt64 * (1103515245 : Int64)) + (12345 : Int64)) / (2147483648 : Int64) * (2147483648 : Int64)).toInt32 = nI (lc k) := by
  rw [seed_l h]
  show (lN (k * 1103515245 + 12345) - lN (k * 1103515245 + 12345) / lN 2147483648 * lN 2147483648).toInt32 = _
  rw [pk_lRem (by omega) (by omega) (by omega), lN_i]
  rfl
/-- a draw of n by a seed -/
def dv (k n : Nat) : Nat := k / 65536 % n
theorem draw_v {k n : Nat} (hk : k < 2147483648) (h0 : 0 < n) (hn : n ≤ 100) : (nI k / (65536 : Int32)) - (nI k / (65536 : Int32)) / nI n * nI n = nI (dv k n) := by
  have e : nI k / (65536 : Int32) = nI (k / 65536) := by
    show nI k / nI 65536 = _
    exact pk_div (by omega) (by omega) (by omega)
  rw [e, pk_rem (by omega) h0 (by omega)]
  rfl
def hxd (hp : HP) (ba : Nat → Int32) (k : Nat) : HP := setc (up hp 0 11 (nI k)) 4 ba
theorem hxd_o (hp : HP) (ba : Nat → Int32) (k : Nat) {q : Nat} (h0 : q ≠ 0) (h4 : q ≠ 4) : hxd hp ba k q = hp q := by
  unfold hxd; rw [setc_ap, if_neg h4, up_ap, if_neg h0]
theorem hxd_0 (hp : HP) (ba : Nat → Int32) (k : Nat) {j : Nat} (h : j ≠ 11) : hxd hp ba k 0 j = hp 0 j := by
  show upd (hp 0) 11 (nI k) j = _
  rw [upd_ap, if_neg h]
theorem hxd_up (hp : HP) (ba : Nat → Int32) (k k2 : Nat) : up (hxd hp ba k) 0 11 (nI k2) = hxd hp ba k2 := by
  funext q
  by_cases q3 : q = 0
  · subst q3
    show upd (upd (hp 0) 11 (nI k)) 11 (nI k2) = upd (hp 0) 11 (nI k2)
    funext j
    simp only [upd_ap]
    by_cases e : j = 11
    · rw [if_pos e, if_pos e]
    · rw [if_neg e, if_neg e, if_neg e]
  · rw [up_ap, if_neg q3]
    unfold hxd
    rw [setc_ap, setc_ap, up_ap, up_ap, if_neg q3, if_neg q3]
theorem x_draw {hp : HP} {ba : Nat → Int32} {k n : Nat} (hk : k < 2147483648) (h0 : 0 < n) (hn : n ≤ 100) : f_BA_draw (hxd hp ba k) (nI n) = some (nI (dv (lc k) n), hxd hp ba (lc k)) := by
  unfold f_BA_draw
  have e1 : hxd hp ba k 0 11 = nI k := rfl
  rw [if_neg (by exact n_nle n 0 (by omega) (by omega)), if_neg (by exact n_ne n 0 (by omega) (by omega) (by omega)), e1, seed_x hk, hxd_up]
  have e2 : hxd hp ba (lc k) 0 11 = nI (lc k) := rfl
  rw [e2, draw_v (lc_lt k) h0 hn]
theorem m_draw {hp : HP} {w : Nat → Int32} {k n : Nat} (hw : w 31 = nI k) (hk : k < 2147483648) (h0 : 0 < n) (hn : n ≤ 100) : f_Mo_draw (setc hp 100 w) (nI n) = some (nI (dv (lc k) n), setc hp 100 (upd w 31 (nI (lc k)))) := by
  unfold f_Mo_draw
  have e1 : setc hp 100 w 100 31 = nI k := hw
  rw [if_neg (by exact n_ne n 0 (by omega) (by omega) (by omega)), e1, seed_m hk, up_setc, setc_at]
  have e2 : upd w 31 (nI (lc k)) 31 = nI (lc k) := by rw [upd_ap, if_pos rfl]
  rw [e2, draw_v (lc_lt k) h0 hn]
/-- one wager -/
def sgn (k : Nat) : Int32 := if dv (lc (lc (lc k))) 2 = 0 then -nI (dv (lc (lc k)) 100) else nI (dv (lc (lc k)) 100)
def wgx (Cn : Nat) : Nat → (Nat → Int32) × Nat → (Nat → Int32) × Nat := fun _ s => (upd s.1 (dv (lc s.2) Cn) (cla (s.1 (dv (lc s.2) Cn) + sgn s.2)), lc (lc (lc s.2)))
def wgm (Cn : Nat) : Nat → (Nat → Int32) × Nat → (Nat → Int32) × Nat := fun _ s => (upd (upd (upd (upd s.1 31 (nI (lc s.2))) 31 (nI (lc (lc s.2)))) 31 (nI (lc (lc (lc s.2))))) (1 + dv (lc s.2) Cn) (cla (s.1 (1 + dv (lc s.2) Cn) + sgn s.2)), lc (lc (lc s.2)))
theorem x_wager {hp : HP} {b P Cn Tn : Nat} (hb : b = 87 ∨ b = 93) (e0 : hp 0 8 = nI b) (h : Rbr hp b P Cn Tn) (hC : 0 < Cn) {ba : Nat → Int32} {k : Nat} (hk : k < 2147483648) : f_BA_wager (hxd hp ba k) = some (0, hxd hp (wgx Cn 0 (ba, k)).1 (wgx Cn 0 (ba, k)).2) := by
  have ib : isB b = true := by rcases hb with rfl | rfl <;> rfl
  have eb : (nI b).toNatClampNeg = b := cl_n (by omega)
  have c5 := h.1.2.1
  have hd : dv (lc k) Cn < Cn := Nat.mod_lt _ hC
  unfold f_BA_wager
  rw [hxd_0 hp ba k (by omega), e0, eb, if_pos ib, hxd_o hp ba k (by omega) (by omega), h.2.1.2.1, x_draw hk hC (by omega), Option.bind_some]
  dsimp only
  rw [show (100 : Int32) = nI 100 from rfl, x_draw (lc_lt k) (by omega) (by omega), Option.bind_some]
  dsimp only
  rw [show (2 : Int32) = nI 2 from rfl, x_draw (lc_lt _) (by omega) (by omega), Option.bind_some]
  dsimp only
  have ch : ∀ v : Int32, f_St_change (hxd hp ba (lc (lc (lc k)))) 3 (nI (dv (lc k) Cn)) v = some (0, hxd hp (upd ba (dv (lc k) Cn) (cla (ba (dv (lc k) Cn) + v))) (lc (lc (lc k)))) := by
    intro v
    unfold f_St_change
    rw [if_pos (inb_n (by omega) (by omega)), cl_n (by omega), x_bounded, Option.bind_some]
    show some ((0 : Int32), up (setc (up hp 0 11 (nI (lc (lc (lc k))))) 4 ba) 4 (dv (lc k) Cn) (cla (ba (dv (lc k) Cn) + v))) = _
    rw [up_setc]
    rfl
  rw [ch, ch]
  simp only [wgx, sgn]
  have d2 : dv (lc (lc (lc k))) 2 < 2 := Nat.mod_lt _ (by decide)
  by_cases q : dv (lc (lc (lc k))) 2 = 0
  · rw [if_pos (by rw [q]; rfl), if_pos q]; rfl
  · rw [if_neg (by exact n_ne _ 0 q (by omega) (by omega)), if_neg q]; rfl
theorem m_wager {hp : HP} {Cn : Nat} (hC : 0 < Cn) (c5 : Cn ≤ 5) {w : Nat → Int32} {k : Nat} (hw : w 31 = nI k) (hk : k < 2147483648) (K : HP → Option (Int32 × HP)) : ((f_Mo_draw (setc hp 100 w) (nI Cn)).bind fun p10 => ((f_Mo_draw p10.2 (100 : Int32)).bind fun p12 => ((f_Mo_draw p12.2 (2 : Int32)).bind fun p14 => if p14.1 = 0 then ((f_Mo_changes p14.2 p10.1 (-p12.1)).bind fun p17 => K p17.2) else ((f_Mo_changes p14.2 p10.1 p12.1).bind fun p19 => K p19.2)))) = K (setc hp 100 (wgm Cn 0 (w, k)).1) := by
  have hd : dv (lc k) Cn < Cn := Nat.mod_lt _ hC
  rw [m_draw hw hk hC (by omega), Option.bind_some]
  dsimp only
  rw [show (100 : Int32) = nI 100 from rfl, m_draw (by rw [upd_ap, if_pos rfl]) (lc_lt k) (by omega) (by omega), Option.bind_some]
  dsimp only
  rw [show (2 : Int32) = nI 2 from rfl, m_draw (by rw [upd_ap, if_pos rfl]) (lc_lt _) (by omega) (by omega), Option.bind_some]
  dsimp only
  rw [m_changes (by omega), m_changes (by omega), Option.bind_some, Option.bind_some]
  dsimp only
  rw [setc_at, up_setc, up_setc]
  have e : upd (upd (upd w 31 (nI (lc k))) 31 (nI (lc (lc k)))) 31 (nI (lc (lc (lc k)))) (1 + dv (lc k) Cn) = w (1 + dv (lc k) Cn) := by
    rw [upd_ap, if_neg (by omega), upd_ap, if_neg (by omega), upd_ap, if_neg (by omega)]
  rw [e]
  simp only [wgm, sgn]
  have d2 : dv (lc (lc (lc k))) 2 < 2 := Nat.mod_lt _ (by decide)
  by_cases q : dv (lc (lc (lc k))) 2 = 0
  · rw [if_pos (by rw [q]; rfl), if_pos q]
  · rw [if_neg (by exact n_ne _ 0 q (by omega) (by omega)), if_neg q]
theorem drift_SE {Cn : Nat} (hC : 0 < Cn) (c5 : Cn ≤ 5) {mo : Int32} {ba de w : Nat → Int32} {k : Nat} (hk : k < 2147483648) (hw : w 31 = nI k) (h : SE Cn mo ba de w 0) : ∀ n, SE Cn mo (it (wgx Cn) 0 n (ba, k)).1 de (it (wgm Cn) 0 n (w, k)).1 0 ∧ (it (wgx Cn) 0 n (ba, k)).2 = (it (wgm Cn) 0 n (w, k)).2 ∧ (it (wgm Cn) 0 n (w, k)).1 31 = nI (it (wgm Cn) 0 n (w, k)).2 ∧ (it (wgm Cn) 0 n (w, k)).2 < 2147483648 ∧ ∀ j, 32 ≤ j → (it (wgm Cn) 0 n (w, k)).1 j = w j := by
  intro n
  induction n with
  | zero => exact ⟨h, rfl, hw, hk, fun _ _ => rfl⟩
  | succ n ih =>
    obtain ⟨j1, j2, j3, j4, j5⟩ := ih
    rw [it_succ, it_succ, Nat.zero_add]
    generalize it (wgx Cn) 0 n (ba, k) = X at j1 j2 ⊢
    generalize it (wgm Cn) 0 n (w, k) = Y at j1 j2 j3 j4 j5 ⊢
    obtain ⟨x1, x2⟩ := X
    obtain ⟨y1, y2⟩ := Y
    simp only at j1 j2 j3 j4 j5
    subst j2
    have hd : dv (lc x2) Cn < Cn := Nat.mod_lt _ hC
    simp only [wgx, wgm]
    refine ⟨?_, trivial, ?_, lc_lt _, fun j hj => ?_⟩
    · have e := (j1.2.1 (dv (lc x2) Cn) (by omega)).1
      rw [show 0 + 1 + dv (lc x2) Cn = 1 + dv (lc x2) Cn by omega] at e
      rw [← e]
      refine SE_bal (by omega) (cla_rg _) ?_
      refine SE.cong rfl (fun _ _ => rfl) (fun _ _ => rfl) (fun i hi => ?_) j1
      rw [upd_ap, if_neg (by omega), upd_ap, if_neg (by omega), upd_ap, if_neg (by omega)]
    · rw [upd_ap, if_neg (by omega), upd_ap, if_pos rfl]
    · rw [upd_ap, if_neg (by omega), upd_ap, if_neg (by omega), upd_ap, if_neg (by omega), upd_ap, if_neg (by omega)]
      exact j5 j hj
theorem x_drifts {hp : HP} {b P Cn Tn : Nat} (hb : b = 87 ∨ b = 93) (e0 : hp 0 8 = nI b) (h : Rbr hp b P Cn Tn) (hC : 0 < Cn) {n : Nat} (hn : n ≤ 60) (K : HP → Option (Int32 × HP)) {ba : Nat → Int32} {k : Nat} (hk : k < 2147483648) : f_BA_drift_L49 (nI n) K FU (hxd hp ba k) 0 = K (hxd hp (it (wgx Cn) 0 n (ba, k)).1 (it (wgx Cn) 0 n (ba, k)).2) := by
  refine (for_up (fun f j (s : (Nat → Int32) × Nat) => f_BA_drift_L49 (nI n) K f (hxd hp s.1 s.2) (nI j)) n (wgx Cn) (fun s => K (hxd hp s.1 s.2)) (fun _ s => s.2 < 2147483648) ?_ ?_ n 0 FU (ba, k) (by omega) (FU_gt (by omega)) hk).1
  · intro f j s hj hI
    obtain ⟨x, m⟩ := s
    refine ⟨?_, lc_lt _⟩
    show f_BA_drift_L49 (nI n) K (f + 1) (hxd hp x m) (nI j) = _
    rw [f_BA_drift_L49, if_neg (by exact n_nle n j (by omega) (by omega)), x_wager hb e0 h hC hI, Option.bind_some, nI_1]
    rfl
  · intro f s _
    show f_BA_drift_L49 (nI n) K (f + 1) (hxd hp s.1 s.2) (nI n) = _
    rw [f_BA_drift_L49, if_pos (by exact n_le n n (by omega) (by omega))]
theorem m_drifts {hp : HP} {b P Cn Tn : Nat} (h : Rbr hp b P Cn Tn) (hC : 0 < Cn) {n : Nat} (hn : n ≤ 60) (K : HP → Option (Int32 × HP)) {w : Nat → Int32} {k : Nat} (hw : w 31 = nI k) (hk : k < 2147483648) : f_Mo_drift_L31 (nI n) K FU (setc hp 100 w) 0 = K (setc hp 100 (it (wgm Cn) 0 n (w, k)).1) := by
  have c5 := h.1.2.1
  refine (for_up (fun f j (s : (Nat → Int32) × Nat) => f_Mo_drift_L31 (nI n) K f (setc hp 100 s.1) (nI j)) n (wgm Cn) (fun s => K (setc hp 100 s.1)) (fun _ s => s.2 < 2147483648 ∧ s.1 31 = nI s.2) ?_ ?_ n 0 FU (w, k) (by omega) (FU_gt (by omega)) ⟨hk, hw⟩).1
  · intro f j s hj hI
    obtain ⟨x, m⟩ := s
    have hd : dv (lc m) Cn < Cn := Nat.mod_lt _ hC
    refine ⟨?_, lc_lt _, ?_⟩
    · show f_Mo_drift_L31 (nI n) K (f + 1) (setc hp 100 x) (nI j) = _
      have e5 : setc hp 100 x 99 5 = nI Cn := h.2.2.1.2.1
      rw [f_Mo_drift_L31, if_neg (by exact n_nle n j (by omega) (by omega)), e5, if_neg (by exact n_nle Cn 0 (by omega) (by omega)), nI_1]
      exact m_wager hC c5 hI.2 hI.1 (fun hp' => f_Mo_drift_L31 (nI n) K f hp' (nI (j + 1)))
    · simp only [wgm]
      rw [upd_ap, if_neg (by omega), upd_ap, if_pos rfl]
  · intro f s _
    show f_Mo_drift_L31 (nI n) K (f + 1) (setc hp 100 s.1) (nI n) = _
    rw [f_Mo_drift_L31, if_pos (by exact n_le n n (by omega) (by omega))]
theorem S_drift {hp : HP} (h : R hp) (n : Int32) : Sim hp (fun x => f_BA_drift x n) (fun x => f_Mo_drift x n) := by
  have hR := h
  obtain ⟨b, b', P, Cn, Tn, hr, htx, hbr, hst, him, ⟨nx, ct, p1, p2, p3, p4, p5, p6⟩, hsl⟩ := h
  obtain ⟨ib, eb⟩ := isB_b hr
  have hb := Rr_or hr
  have c5 := hbr.1.2.1
  have p8 := hbr.1.1
  rcases @wi_lit n 1 60 with ⟨e0, -⟩ | ⟨e0, h1, h2⟩
  · refine Sim.pure (-1000000002) ?_ ?_ hR
    · simp only [f_BA_drift, x_within, e0, Option.bind_some, if_true]
    · simp only [f_Mo_drift, m_in hp n 1 60 (A := 1) (B := 60) rfl rfl, e0, Option.bind_some, if_true]
  · by_cases q : P = 0
    · subst q
      refine Sim.pure (-1000000003) ?_ ?_ hR
      · simp only [f_BA_drift, x_within, e0, Option.bind_some, if_neg one_ne, eb, ib, if_true, f_Br_isThere, hbr.2.1.1]
        rfl
      · simp only [f_Mo_drift, m_in hp n 1 60 (A := 1) (B := 60) rfl rfl, e0, Option.bind_some, if_neg one_ne, hbr.2.2.1.1]
        rfl
    · rw [i1] at h1
      have i60 : (60 : Int32).toInt = 60 := rfl
      obtain ⟨n, hn, rfl⟩ := of_rg (x := n) (n := 61) (by omega) (by omega)
      have n1 : 1 ≤ n := by rw [nI_toInt (by omega)] at h1; omega
      obtain ⟨k, hk, ek⟩ := of_rg (x := hp 100 31) (n := 2147483648) hst.2.2 (by have := rg_i (hp 100 31); omega)
      have ek0 : hp 0 11 = nI k := hst.2.1.trans ek
      obtain ⟨hp1, hpush, pu⟩ := x_push p1 p2 p3 p4
      have g0 : ∀ q, q < 6 ∨ 67 < q → hp1 q = hp q := pu.1
      have hb1 : Rbr hp1 b P Cn Tn := Rbr_cong hp hb (fun q hq => g0 q (by omega)) (by rw [g0 99 (by omega)]) (by rw [g0 99 (by omega)]) (by rw [g0 99 (by omega)]) hbr
      have e1 : hp1 = hxd hp1 (hp 4) k := by
        funext x
        unfold hxd
        rw [setc_ap]
        by_cases x4 : x = 4
        · rw [if_pos x4, x4, g0 4 (by omega)]
        · rw [if_neg x4, up_ap]
          by_cases x3 : x = 0
          · rw [if_pos x3, x3]
            funext j
            rw [upd_ap]
            by_cases j2 : j = 11
            · rw [if_pos j2, j2, g0 0 (by omega)]; exact ek0
            · rw [if_neg j2]
          · rw [if_neg x3]
      generalize hX : (if Cn = 0 then (hp 4, k) else it (wgx Cn) 0 n (hp 4, k)) = X
      have hRx : Rr (hxd hp1 X.1 X.2) b b' := Rr_cong hp (by rw [hxd_0 _ _ _ (by omega), g0 0 (by omega)]) (by rw [hxd_0 _ _ _ (by omega), g0 0 (by omega)]) (by rw [hxd_0 _ _ _ (by omega), g0 0 (by omega)]) (by rw [hxd_o _ _ _ (by omega) (by omega), g0 99 (by omega)]) hr
      have hbx : Rbr (hxd hp1 X.1 X.2) b P Cn Tn := Rbr_cong hp1 hb (fun q hq => hxd_o _ _ _ (by omega) (by omega)) (by rw [hxd_o _ _ _ (by omega) (by omega)]) (by rw [hxd_o _ _ _ (by omega) (by omega)]) (by rw [hxd_o _ _ _ (by omega) (by omega)]) hb1
      have hx0 : f_BA_drift hp (nI n) = some (it (hatg (nd (hxd hp1 X.1 X.2)) P ((hxd hp1 X.1 X.2) 4)) 0 Cn 0, hxd hp1 X.1 X.2) := by
        unfold f_BA_drift
        rw [x_within, e0, Option.bind_some]
        dsimp only
        rw [if_neg one_ne, eb, if_pos ib]
        unfold f_Br_isThere
        rw [hbr.2.1.1, if_neg (by exact n_nle P 0 (by omega) (by omega)), Option.bind_some]
        dsimp only
        rw [if_neg one_ne, hpush, Option.bind_some]
        dsimp only
        have eb1 : (hp1 0 8).toNatClampNeg = b := by rw [g0 0 (by omega)]; exact eb
        rw [eb1, if_pos ib]
        by_cases qC : Cn = 0
        · rw [if_pos (by rw [hb1.2.1.2.1]; exact n_le Cn 0 (by omega) (by omega))]
          rw [if_pos qC] at hX
          have this : hp1 = hxd hp1 X.1 X.2 := by rw [← hX]; exact e1
          have hR1 : Rr hp1 b b' := by rw [this]; exact hRx
          rw [x_hats hR1 hb1, ← this]
          rfl
        · rw [if_neg (by rw [hb1.2.1.2.1]; exact n_nle Cn 0 (by omega) (by omega))]
          rw [if_neg qC] at hX
          have hrun := x_drifts hb (by rw [g0 0 (by omega)]; exact hr.2.1) hb1 (by omega) (show n ≤ 60 by omega) (fun hp17 => ((f_BA_hats hp17).bind fun p19 => some (p19.1, p19.2))) (ba := hp 4) hk
          rw [← e1, hX] at hrun
          rw [hrun, x_hats hRx hbx]
          rfl
      obtain ⟨hm, hmin, mu⟩ := m_minds (hp := hxd hp1 X.1 X.2) p2 (by rw [hxd_o _ _ _ (by omega) (by omega), g0 99 (by omega)]; exact p5)
      obtain ⟨m1, m2, m3, m4, m5⟩ := id mu
      have w1 : ∀ j, j < 96 → hm 100 j = hp 100 j := fun j hj => by rw [m4 j hj, hxd_o _ _ _ (by omega) (by omega), g0 100 (by omega)]
      have hbm : Rbr hm b P Cn Tn := Rbr_cong hp1 hb (fun q hq => by rw [m1 q (by omega) (by omega), hxd_o _ _ _ (by omega) (by omega)]) (by rw [m2 3 (by omega), hxd_o _ _ _ (by omega) (by omega)]) (by rw [m2 5 (by omega), hxd_o _ _ _ (by omega) (by omega)]) (by rw [m2 8 (by omega), hxd_o _ _ _ (by omega) (by omega)]) hb1
      have hW31 : hm 100 31 = nI k := by rw [w1 31 (by omega)]; exact ek
      have se0 := SE.cong (Cn := Cn) (w' := hm 100) (o' := 0) rfl (fun _ _ => rfl) (fun _ _ => rfl) (fun i hi => w1 _ (by omega)) hst.1
      generalize hY : (if Cn = 0 then (hm 100, k) else it (wgm Cn) 0 n (hm 100, k)) = Y
      have sem : SE Cn (hp 3 2) X.1 (hp 5) Y.1 0 ∧ X.2 = Y.2 ∧ Y.1 31 = nI Y.2 ∧ Y.2 < 2147483648 ∧ ∀ j, 32 ≤ j → Y.1 j = hm 100 j := by
        by_cases qC : Cn = 0
        · rw [if_pos qC] at hX hY
          rw [← hX, ← hY]
          exact ⟨se0, rfl, hW31, hk, fun _ _ => rfl⟩
        · rw [if_neg qC] at hX hY
          rw [← hX, ← hY]
          exact drift_SE (by omega) c5 hk hW31 se0 n
      have hb2 : Rbr (setc hm 100 Y.1) b P Cn Tn := Rbr_cong hm hb (fun q hq => by rw [setc_ap, if_neg (by omega)]) rfl rfl rfl hbm
      have hm0 : f_Mo_drift (hxd hp1 X.1 X.2) (nI n) = some (it (hatg (nd (setc hm 100 Y.1)) P (fun c => (setc hm 100 Y.1) 100 (1 + c))) 0 Cn 0, setc hm 100 Y.1) := by
        unfold f_Mo_drift
        rw [m_in _ (nI n) 1 60 (A := 1) (B := 60) rfl rfl, e0, Option.bind_some]
        dsimp only
        rw [if_neg one_ne, if_neg (by rw [hbx.2.2.1.1]; exact n_ne P 0 q (by omega) (by omega)), hmin, Option.bind_some]
        dsimp only
        by_cases qC : Cn = 0
        · have e5 : hm 99 5 = nI 0 := by rw [hbm.2.2.1.2.1, qC]
          have : hm = setc hm 100 Y.1 := by
            rw [if_pos qC] at hY
            rw [← hY]; exact (setc_self hm 100).symm
          rw [show FU = 2999 + 1 from rfl, f_Mo_drift_L31, if_neg (by exact n_nle n 0 (by omega) (by omega)), e5, if_pos (by decide), m_hats hbm, ← this]
          rfl
        · rw [if_neg qC] at hY
          have hrun := m_drifts hbm (by omega) (show n ≤ 60 by omega) (fun hp20 => ((f_Mo_hats hp20).bind fun p22 => some (p22.1, p22.2))) hW31 hk
          rw [setc_self, hY] at hrun
          rw [hrun, m_hats hb2]
          rfl
      have hst2 : Rst (setc hm 100 Y.1) Cn := by
        refine ⟨?_, ?_, ?_⟩
        · have r3 : setc hm 100 Y.1 3 2 = hp 3 2 := by show hm 3 2 = _; rw [m1 3 (by omega) (by omega), hxd_o _ _ _ (by omega) (by omega), g0 3 (by omega)]
          have r4 : setc hm 100 Y.1 4 = X.1 := by show hm 4 = _; rw [m1 4 (by omega) (by omega)]; rfl
          have r5 : setc hm 100 Y.1 5 = hp 5 := by show hm 5 = _; rw [m1 5 (by omega) (by omega), hxd_o _ _ _ (by omega) (by omega), g0 5 (by omega)]
          rw [r3, r4, r5, setc_at]
          exact sem.1
        · rw [setc_at, sem.2.2.1, ← sem.2.1]
          show hm 0 11 = _
          rw [m1 0 (by omega) (by omega)]
          rfl
        · rw [setc_at, sem.2.2.1, nI_toInt (by have := sem.2.2.2.1; omega)]; omega
      have hh := hats_eq (P := P) hst2 c5
      have n9 : nd (setc hm 100 Y.1) = nd (hxd hp1 X.1 X.2) := nd_cong (by show hm 102 = _; exact m1 102 (by omega) (by omega))
      have r4 : setc hm 100 Y.1 4 = hxd hp1 X.1 X.2 4 := by show hm 4 = _; exact m1 4 (by omega) (by omega)
      rw [← hh, n9, r4] at hm0
      refine ⟨_, _, _, hx0, hm0, ?_⟩
      exact R_done hr htx hbr hst him p1 p2 p6 hsl pu (hpx := hxd hp1 X.1 X.2) (hm := hm) (fun x x0 x3 x4 x5 => hxd_o _ _ _ x0 x4) (fun j hj => hxd_0 _ _ _ hj) mu (fun x hx => by rw [setc_ap, if_neg hx]) (fun j hj => by rw [setc_at]; exact sem.2.2.2.2 j hj) hst2
end
section
theorem rg_u {nx ct : Nat} (h1 : nx < 20) (h2 : 1 ≤ ct) (h3 : ct ≤ 20) : rg nx ct (ct - 1) = (nx + 19) % 20 := by
  unfold rg; omega
theorem rg_v {nx ct j : Nat} (h1 : nx < 20) (h3 : ct ≤ 20) (hj : j < ct - 1) : rg ((nx + 19) % 20) (ct - 1) j = rg nx ct j := by
  unfold rg; omega
theorem S_undo {hp : HP} (h : R hp) : Sim hp (fun x => f_BA_undo x) (fun x => f_Mo_undo x) := by
  have hR := h
  obtain ⟨b, b', P, Cn, Tn, hr, htx, hbr, hst, him, ⟨nx, ct, p1, p2, p3, p4, p5, p6⟩, hsl⟩ := h
  have hb := Rr_or hr
  by_cases hc : ct = 0
  · subst hc
    refine Sim.pure (-1000000003) ?_ ?_ hR
    · show f_BA_undo hp = _
      unfold f_BA_undo
      rw [if_pos (by rw [p4]; rfl)]
    · show f_Mo_undo hp = _
      unfold f_Mo_undo
      rw [if_pos (by rw [p5]; rfl)]
  · have hm20 : (nx + 19) % 20 < 20 := Nat.mod_lt _ (by decide)
    obtain ⟨hpc, c1, c2, c3, c4, c5⟩ := x_copy (up hp 6 1 (nI ((nx + 19) % 20))) (q0 := 3) (q1 := 7 + 1 + 3 * ((nx + 19) % 20)) (by omega)
    have e62 : hpc 6 2 = nI ct := by rw [c2 6 (by omega) (by omega) (by omega)]; exact p4
    have f0 : ∀ q, q ≠ 3 → q ≠ 4 → q ≠ 5 → q ≠ 6 → hpc q = hp q := fun q q3 q4 q5 q6 => by rw [c2 q q3 q4 q5, up_ap, if_neg q6]
    have dm : nI ct - (1 : Int32) = nI (ct - 1) := by
      show nI ct - nI 1 = _
      exact pk_sub (by omega)
    generalize hx : up hpc 6 2 (nI (ct - 1)) = hpx
    have fx : ∀ q, q ≠ 3 → q ≠ 4 → q ≠ 5 → q ≠ 6 → hpx q = hp q := fun q q3 q4 q5 q6 => by rw [← hx, up_ap, if_neg q6]; exact f0 q q3 q4 q5 q6
    have hx1 : f_BA_undo hp = some (nI (ct - 1), hpx) := by
      unfold f_BA_undo f_Pa_popInto
      rw [if_neg (by rw [p4]; exact n_ne ct 0 hc (by omega) (by omega)), if_neg (by rw [p4]; exact n_nle ct 0 (by omega) (by omega)), p3]
      have e1 : (nI nx + (20 : Int32) - (1 : Int32)) - (nI nx + (20 : Int32) - (1 : Int32)) / (20 : Int32) * (20 : Int32) = nI ((nx + 19) % 20) := by
        have e2 : nI nx + (20 : Int32) - (1 : Int32) = nI (nx + 19) := by
          show nI nx + nI 20 - nI 1 = _
          rw [nI_add, pk_sub (by omega)]
          congr 1
        rw [e2, rem20 (by omega)]
      rw [e1]
      have e3 : up hp 6 1 (nI ((nx + 19) % 20)) 6 1 = nI ((nx + 19) % 20) := rfl
      rw [e3, if_pos (inb_n (by omega) (by omega)), cl_n (by omega), if_pos (isS_ring _ hm20), c1, Option.bind_some, Option.bind_some]
      dsimp only
      rw [e62, dm, hx]
      have : hpx 6 2 = nI (ct - 1) := by rw [← hx]; rfl
      rw [this]
    have hW : ∀ j, hpx 100 j = hp 100 j := fun j => by rw [fx 100 (by omega) (by omega) (by omega) (by omega)]
    have e99 : ∀ j, hpx 99 j = hp 99 j := fun j => by rw [fx 99 (by omega) (by omega) (by omega) (by omega)]
    generalize hw2 : upd (cpb (hp 100) (96 + 32 * (ct - 1)) 0) 31 (hp 100 31) = w2
    have hm1 : f_Mo_undo hpx = some (nI (ct - 1), setc (up hpx 99 2 (nI (ct - 1))) 100 w2) := by
      unfold f_Mo_undo
      rw [if_neg (by rw [e99, p5]; exact n_ne ct 0 hc (by omega) (by omega)), e99, p5, dm]
      have e1 : up hpx 99 2 (nI (ct - 1)) 99 2 = nI (ct - 1) := rfl
      have e2 : (96 : Int32) + (32 : Int32) * nI (ct - 1) = nI (96 + 32 * (ct - 1)) := by
        show nI 96 + nI 32 * nI (ct - 1) = _
        rw [pk_mul, nI_add]
      rw [e1, e2, show (0 : Int32) = nI 0 from rfl, m_copy _ (a := 96 + 32 * (ct - 1)) (o := 0) (by omega) (by omega) (by omega), Option.bind_some]
      dsimp only
      rw [up_setc]
      have e3 : up hpx 99 2 (nI (ct - 1)) 100 = hp 100 := by
        show hpx 100 = _
        exact fx 100 (by omega) (by omega) (by omega) (by omega)
      rw [e3, hW, hw2]
      rfl
    have wlo : ∀ i, i < 31 → w2 i = hp 100 (96 + 32 * (ct - 1) + i) := by
      intro i hi
      rw [← hw2, upd_ap, if_neg (by omega)]
      unfold cpb
      rw [if_pos (by omega)]
      congr 1
    have whi : ∀ j, 32 ≤ j → w2 j = hp 100 j := by
      intro j hj
      rw [← hw2, upd_ap, if_neg (by omega)]
      unfold cpb
      rw [if_neg (by omega)]
    have w31 : w2 31 = hp 100 31 := by rw [← hw2, upd_ap, if_pos rfl]
    generalize hh2 : setc (up hpx 99 2 (nI (ct - 1))) 100 w2 = hp2
    have f2 : ∀ q, q ≠ 3 → q ≠ 4 → q ≠ 5 → q ≠ 6 → q ≠ 99 → q ≠ 100 → hp2 q = hp q := fun q q3 q4 q5 q6 q9 q10 => by
      rw [← hh2, setc_ap, if_neg q10, up_ap, if_neg q9]; exact fx q q3 q4 q5 q6
    have f2x : ∀ q, q ≠ 99 → q ≠ 100 → hp2 q = hpx q := fun q q9 q10 => by
      rw [← hh2, setc_ap, if_neg q10, up_ap, if_neg q9]
    have g99 : ∀ j, j ≠ 2 → hp2 99 j = hp 99 j := fun j hj => by
      rw [← hh2]
      show upd (hpx 99) 2 _ j = _
      rw [upd_ap, if_neg hj, e99]
    have g100 : hp2 100 = w2 := by rw [← hh2]; exact setc_at _ _ _
    refine ⟨nI (ct - 1), hpx, hp2, hx1, by rw [← hh2]; exact hm1, b, b', P, Cn, Tn, ?_, ?_, ?_, ?_, ?_, ?_, ?_⟩
    · have z : hp2 0 = hp 0 := f2 0 (by omega) (by omega) (by omega) (by omega) (by omega) (by omega)
      exact Rr_cong hp (by rw [z]) (by rw [z]) (by rw [z]) (g99 16 (by omega)) hr
    · have z : hp2 1 = hp 1 := f2 1 (by omega) (by omega) (by omega) (by omega) (by omega) (by omega)
      exact Rtx_cong hp ⟨f2 2 (by omega) (by omega) (by omega) (by omega) (by omega) (by omega), f2 106 (by omega) (by omega) (by omega) (by omega) (by omega) (by omega)⟩ (by rw [z]) (g99 11 (by omega)) htx
    · exact Rbr_cong hp hb (fun q hq => f2 q (by omega) (by omega) (by omega) (by omega) (by omega) (by omega)) (g99 3 (by omega)) (g99 5 (by omega)) (g99 8 (by omega)) hbr
    · refine ⟨?_, ?_, ?_⟩
      · have k := p6 (ct - 1) (by omega)
        rw [rg_u p1 (by omega) p2] at k
        rw [g100, f2x 3 (by omega) (by omega), f2x 4 (by omega) (by omega), f2x 5 (by omega) (by omega)]
        refine SE.cong ?_ (fun c hc => ?_) (fun k hk => ?_) (fun i hi => ?_) k
        · rw [← hx]
          show hpc 3 2 = _
          rw [c3, up_ap, if_neg (by omega)]
        · rw [← hx]
          show hpc 4 c = _
          have := c4 c hc
          rw [up_ap, if_neg (by omega)] at this
          rw [show 7 + 1 + 3 * ((nx + 19) % 20) + 1 = 9 + 3 * ((nx + 19) % 20) by omega] at this
          exact this
        · rw [← hx]
          show hpc 5 k = _
          have := c5 k hk
          rw [up_ap, if_neg (by omega)] at this
          rw [show 7 + 1 + 3 * ((nx + 19) % 20) + 2 = 10 + 3 * ((nx + 19) % 20) by omega] at this
          exact this
        · rw [Nat.zero_add]; exact wlo i hi
      · rw [g100, w31, f2 0 (by omega) (by omega) (by omega) (by omega) (by omega) (by omega)]; exact hst.2.1
      · rw [g100, w31]; exact hst.2.2
    · exact Rim_w (fun q hq => f2 q (by omega) (by omega) (by omega) (by omega) (by omega) (by omega)) (fun j j1 j2 => by rw [g100]; exact whi j j1) him
    · refine ⟨(nx + 19) % 20, ct - 1, hm20, by omega, ?_, ?_, ?_, fun j hj => ?_⟩
      · rw [f2x 6 (by omega) (by omega), ← hx]
        show hpc 6 1 = _
        rw [c2 6 (by omega) (by omega) (by omega)]; rfl
      · rw [f2x 6 (by omega) (by omega), ← hx]; rfl
      · rw [← hh2]; rfl
      · rw [rg_v p1 p2 hj]
        have hl := rg_lt nx ct j
        rw [f2 (8 + 3 * rg nx ct j) (by omega) (by omega) (by omega) (by omega) (by omega) (by omega), f2 (9 + 3 * rg nx ct j) (by omega) (by omega) (by omega) (by omega) (by omega) (by omega), f2 (10 + 3 * rg nx ct j) (by omega) (by omega) (by omega) (by omega) (by omega) (by omega), g100]
        exact SE.cong rfl (fun _ _ => rfl) (fun _ _ => rfl) (fun i hi => whi _ (by omega)) (p6 j (by omega))
    · exact Rsl_cong hp (fun q hq => f2 q (by omega) (by omega) (by omega) (by omega) (by omega) (by omega)) (g99 23 (by omega)) (g99 25 (by omega)) (g99 29 (by omega)) (g99 32 (by omega)) hsl
theorem Rpa_0 {hp : HP} {Cn nx : Nat} (h : nx < 20) (e1 : hp 6 1 = nI nx) (e2 : hp 6 2 = 0) (e3 : hp 99 2 = 0) : Rpa hp Cn := ⟨nx, 0, h, by omega, e1, e2, e3, fun j hj => by omega⟩
theorem S_keep {hp : HP} (h : R hp) (a : Int32) : Sim hp (fun x => f_BA_keep x a) (fun x => f_Mo_keep x a) := by
  have hR := h
  obtain ⟨b, b', P, Cn, Tn, hr, htx, hbr, hst, him, ⟨nx, ct, p1, p2, p3, p4, p5, p6⟩, hsl⟩ := h
  have hb := Rr_or hr
  rcases @wi_lit a 0 1 with ⟨e0, -⟩ | ⟨e0, h1, h2⟩
  · refine Sim.pure (-1000000001) ?_ ?_ hR
    · simp only [f_BA_keep, x_within, e0, Option.bind_some, if_true]
    · simp only [f_Mo_keep, m_in hp a 0 1 (A := 0) (B := 1) rfl rfl, e0, Option.bind_some, if_true]
  · rw [i0] at h1
    rw [i1] at h2
    obtain ⟨i, hi, rfl⟩ := of_rg (x := a) (n := 2) h1 (by omega)
    obtain ⟨hpc, c1, c2, c3, c4, c5⟩ := x_copy hp (q0 := 78 + 1 + 3 * i) (q1 := 3) (by omega)
    generalize hx : up (up (up hpc 85 i (hp 0 11)) 86 i 1) 6 2 0 = hpx
    have fx : ∀ q, q ≠ 6 → q ≠ 85 → q ≠ 86 → q ≠ 79 + 3 * i → q ≠ 80 + 3 * i → q ≠ 81 + 3 * i → hpx q = hp q := fun q a1 a2 a3 a4 a5 a6 => by
      rw [← hx, up_ap, if_neg a1, up_ap, if_neg a3, up_ap, if_neg a2]; exact c2 q (by omega) (by omega) (by omega)
    have hx1 : f_BA_keep hp (nI i) = some (1, hpx) := by
      unfold f_BA_keep f_Pa_clear
      rw [x_within, e0, Option.bind_some]
      dsimp only
      rw [if_neg one_ne, if_pos (inb_n (by omega) (by omega)), cl_n (by omega), if_pos (isS_img i hi), c1, Option.bind_some, Option.bind_some]
      dsimp only
      rw [c2 0 (by omega) (by omega) (by omega), bz_1, hx]
    generalize hw2 : cpb (hp 100) 0 (32 + 32 * i) = w2
    have e100 : hpx 100 = hp 100 := fx 100 (by omega) (by omega) (by omega) (by omega) (by omega) (by omega)
    have hm1 : f_Mo_keep hpx (nI i) = some (1, up (up (setc hpx 100 w2) 101 i 1) 99 2 0) := by
      unfold f_Mo_keep
      rw [m_in hpx (nI i) 0 1 (A := 0) (B := 1) rfl rfl, e0, Option.bind_some]
      dsimp only
      have e2 : (32 : Int32) + (32 : Int32) * nI i = nI (32 + 32 * i) := by
        show nI 32 + nI 32 * nI i = _
        rw [pk_mul, nI_add]
      rw [if_neg one_ne, e2, show (0 : Int32) = nI 0 from rfl, m_copy hpx (a := 0) (o := 32 + 32 * i) (by omega) (by omega) (by omega), Option.bind_some]
      dsimp only
      rw [if_pos (inb_n (by omega) (by omega)), cl_n (by omega), bz_1, e100, hw2]
    have wlo : ∀ j, j < 32 → w2 j = hp 100 j := by
      intro j hj
      rw [← hw2]; unfold cpb; rw [if_neg (by omega)]
    have whi : ∀ j, 96 ≤ j → w2 j = hp 100 j := by
      intro j hj
      rw [← hw2]; unfold cpb; rw [if_neg (by omega)]
    have wi1 : ∀ j, j < 32 → w2 (32 + 32 * i + j) = hp 100 j := by
      intro j hj
      rw [← hw2]; unfold cpb; rw [if_pos (by omega)]
      exact congrArg (hp 100) (by omega)
    have wi2 : ∀ i', i' < 2 → i' ≠ i → ∀ j, j < 32 → w2 (32 + 32 * i' + j) = hp 100 (32 + 32 * i' + j) := by
      intro i' h1 h2 j hj
      rw [← hw2]; unfold cpb; rw [if_neg (by omega)]
    generalize hh2 : up (up (setc hpx 100 w2) 101 i 1) 99 2 0 = hp2
    have f2x : ∀ q, q ≠ 99 → q ≠ 100 → q ≠ 101 → hp2 q = hpx q := fun q q9 q10 q11 => by
      rw [← hh2, up_ap, if_neg q9, up_ap, if_neg q11, setc_ap, if_neg q10]
    have g99 : ∀ j, j ≠ 2 → hp2 99 j = hp 99 j := fun j hj => by
      rw [← hh2]
      show upd (hpx 99) 2 _ j = _
      rw [upd_ap, if_neg hj, fx 99 (by omega) (by omega) (by omega) (by omega) (by omega) (by omega)]
    have g100 : hp2 100 = w2 := by
      rw [← hh2]
      show (setc hpx 100 w2) 100 = _
      exact setc_at _ _ _
    have g101 : hp2 101 = upd (hp 101) i 1 := by
      rw [← hh2]
      show upd (hpx 101) i 1 = _
      rw [fx 101 (by omega) (by omega) (by omega) (by omega) (by omega) (by omega)]
    refine ⟨1, hpx, hp2, hx1, by rw [← hh2]; exact hm1, b, b', P, Cn, Tn, ?_, ?_, ?_, ?_, ?_, ?_, ?_⟩
    · have z : hp2 0 = hp 0 := by rw [f2x 0 (by omega) (by omega) (by omega), fx 0 (by omega) (by omega) (by omega) (by omega) (by omega) (by omega)]
      exact Rr_cong hp (by rw [z]) (by rw [z]) (by rw [z]) (g99 16 (by omega)) hr
    · have z : ∀ q, q = 1 ∨ q = 2 ∨ q = 106 → hp2 q = hp q := fun q hq => by rw [f2x q (by omega) (by omega) (by omega), fx q (by omega) (by omega) (by omega) (by omega) (by omega) (by omega)]
      exact Rtx_cong hp ⟨z 2 (by omega), z 106 (by omega)⟩ (by rw [z 1 (by omega)]) (g99 11 (by omega)) htx
    · exact Rbr_cong hp hb (fun q hq => by rw [f2x q (by omega) (by omega) (by omega), fx q (by omega) (by omega) (by omega) (by omega) (by omega) (by omega)]) (g99 3 (by omega)) (g99 5 (by omega)) (g99 8 (by omega)) hbr
    · have z : ∀ q, q = 0 ∨ q = 3 ∨ q = 4 ∨ q = 5 → hp2 q = hp q := fun q hq => by rw [f2x q (by omega) (by omega) (by omega), fx q (by omega) (by omega) (by omega) (by omega) (by omega) (by omega)]
      refine ⟨?_, ?_, ?_⟩
      · rw [z 3 (by omega), z 4 (by omega), z 5 (by omega), g100]
        exact SE.cong rfl (fun _ _ => rfl) (fun _ _ => rfl) (fun i hi => wlo _ (by omega)) hst.1
      · rw [g100, wlo 31 (by omega), z 0 (by omega)]; exact hst.2.1
      · rw [g100, wlo 31 (by omega)]; exact hst.2.2
    · intro i' hi'
      by_cases e : i' = i
      · subst e
        refine Or.inr ⟨⟨?_, ?_⟩, ?_, ?_, ?_⟩
        · rw [f2x 86 (by omega) (by omega) (by omega), ← hx]
          show upd (hpc 86) i' 1 i' = 1
          rw [upd_ap, if_pos rfl]
        · rw [g101, upd_ap, if_pos rfl]
        · rw [f2x (79 + 3 * i') (by omega) (by omega) (by omega), f2x (80 + 3 * i') (by omega) (by omega) (by omega), f2x (81 + 3 * i') (by omega) (by omega) (by omega), g100]
          have fc : ∀ q, q ≠ 6 → q ≠ 85 → q ≠ 86 → hpx q = hpc q := fun q a1 a2 a3 => by rw [← hx, up_ap, if_neg a1, up_ap, if_neg a3, up_ap, if_neg a2]
          rw [fc (79 + 3 * i') (by omega) (by omega) (by omega), fc (80 + 3 * i') (by omega) (by omega) (by omega), fc (81 + 3 * i') (by omega) (by omega) (by omega)]
          refine SE.cong ?_ (fun c hc => ?_) (fun k hk => ?_) (fun j hj => ?_) hst.1
          · have := c3
            rw [show 78 + 1 + 3 * i' = 79 + 3 * i' by omega] at this
            exact this
          · have := c4 c hc
            rw [show 78 + 1 + 3 * i' + 1 = 80 + 3 * i' by omega] at this
            exact this
          · have := c5 k hk
            rw [show 78 + 1 + 3 * i' + 2 = 81 + 3 * i' by omega] at this
            exact this
          · rw [Nat.zero_add]; exact wi1 j (by omega)
        · have := wi1 31 (by omega)
          rw [show 32 + 32 * i' + 31 = 63 + 32 * i' by omega] at this
          rw [g100, this, f2x 85 (by omega) (by omega) (by omega), ← hx]
          show upd (hpc 85) i' (hp 0 11) i' = _
          rw [upd_ap, if_pos rfl]; exact hst.2.1
        · rw [f2x 85 (by omega) (by omega) (by omega), ← hx]
          show 0 ≤ (upd (hpc 85) i' (hp 0 11) i').toInt
          rw [upd_ap, if_pos rfl, hst.2.1]; exact hst.2.2
      · have fc : ∀ q, q = 79 + 3 * i' ∨ q = 80 + 3 * i' ∨ q = 81 + 3 * i' → hp2 q = hp q := fun q hq => by rw [f2x q (by omega) (by omega) (by omega), fx q (by omega) (by omega) (by omega) (by omega) (by omega) (by omega)]
        have e85 : hp2 85 i' = hp 85 i' := by
          rw [f2x 85 (by omega) (by omega) (by omega), ← hx]
          show upd (hpc 85) i (hp 0 11) i' = _
          rw [upd_ap, if_neg e, c2 85 (by omega) (by omega) (by omega)]
        have e86 : hp2 86 i' = hp 86 i' := by
          rw [f2x 86 (by omega) (by omega) (by omega), ← hx]
          show upd (hpc 86) i 1 i' = _
          rw [upd_ap, if_neg e, c2 86 (by omega) (by omega) (by omega)]
        rw [e85, e86, fc (79 + 3 * i') (by omega), fc (80 + 3 * i') (by omega), fc (81 + 3 * i') (by omega), g101, upd_ap, if_neg e, g100]
        have w63 := wi2 i' hi' e 31 (by omega)
        rw [show 32 + 32 * i' + 31 = 63 + 32 * i' by omega] at w63
        rw [w63]
        rcases him i' hi' with k | ⟨k1, k2, k3⟩
        · exact Or.inl k
        · exact Or.inr ⟨k1, SE.cong rfl (fun _ _ => rfl) (fun _ _ => rfl) (fun j hj => wi2 i' hi' e j (by omega)) k2, k3⟩
    · refine Rpa_0 p1 ?_ ?_ ?_
      · rw [f2x 6 (by omega) (by omega) (by omega), ← hx]
        show hpc 6 1 = _
        rw [c2 6 (by omega) (by omega) (by omega)]; exact p3
      · rw [f2x 6 (by omega) (by omega) (by omega), ← hx]; rfl
      · rw [← hh2]; rfl
    · exact Rsl_cong hp (fun q hq => by rw [f2x q (by omega) (by omega) (by omega), fx q (by omega) (by omega) (by omega) (by omega) (by omega) (by omega)]) (g99 23 (by omega)) (g99 25 (by omega)) (g99 29 (by omega)) (g99 32 (by omega)) hsl
theorem S_goBack {hp : HP} (h : R hp) (a : Int32) : Sim hp (fun x => f_BA_goBack x a) (fun x => f_Mo_goBack x a) := by
  have hR := h
  obtain ⟨b, b', P, Cn, Tn, hr, htx, hbr, hst, him, ⟨nx, ct, p1, p2, p3, p4, p5, p6⟩, hsl⟩ := h
  have hb := Rr_or hr
  rcases @wi_lit a 0 1 with ⟨e0, -⟩ | ⟨e0, h1, h2⟩
  · refine Sim.pure (-1000000001) ?_ ?_ hR
    · simp only [f_BA_goBack, x_within, e0, Option.bind_some, if_true]
    · simp only [f_Mo_goBack, m_in hp a 0 1 (A := 0) (B := 1) rfl rfl, e0, Option.bind_some, if_true]
  · rw [i0] at h1
    rw [i1] at h2
    obtain ⟨i, hi, rfl⟩ := of_rg (x := a) (n := 2) h1 (by omega)
    rcases him i hi with ⟨k1, k2⟩ | ⟨⟨k1, k2⟩, k3, k4, k5⟩
    · refine Sim.pure (-1000000003) ?_ ?_ hR
      · show f_BA_goBack hp (nI i) = _
        unfold f_BA_goBack
        rw [x_within, e0, Option.bind_some]
        dsimp only
        rw [if_neg one_ne, if_pos (inb_n (by omega) (by omega)), if_pos (by rw [cl_n (by omega)]; exact k1)]
      · show f_Mo_goBack hp (nI i) = _
        unfold f_Mo_goBack
        rw [m_in hp (nI i) 0 1 (A := 0) (B := 1) rfl rfl, e0, Option.bind_some]
        dsimp only
        rw [if_neg one_ne, if_pos (inb_n (by omega) (by omega)), if_pos (by rw [cl_n (by omega)]; exact k2)]
    · obtain ⟨hpc, c1, c2, c3, c4, c5⟩ := x_copy hp (q0 := 3) (q1 := 78 + 1 + 3 * i) (by omega)
      generalize hx : up (up hpc 0 11 (hp 85 i)) 6 2 0 = hpx
      have fx : ∀ q, q ≠ 6 → q ≠ 0 → q ≠ 3 → q ≠ 4 → q ≠ 5 → hpx q = hp q := fun q a1 a2 a3 a4 a5 => by
        rw [← hx, up_ap, if_neg a1, up_ap, if_neg a2]; exact c2 q (by omega) (by omega) (by omega)
      have hx1 : f_BA_goBack hp (nI i) = some (1, hpx) := by
        unfold f_BA_goBack f_Pa_clear
        rw [x_within, e0, Option.bind_some]
        dsimp only
        rw [if_neg one_ne, if_pos (inb_n (by omega) (by omega)), if_neg (by rw [cl_n (by omega), k1]; exact one_ne), cl_n (by omega), if_pos (isS_img i hi), c1, Option.bind_some, Option.bind_some]
        dsimp only
        rw [c2 85 (by omega) (by omega) (by omega), hx]
      generalize hw2 : cpb (hp 100) (32 + 32 * i) 0 = w2
      have e100 : hpx 100 = hp 100 := fx 100 (by omega) (by omega) (by omega) (by omega) (by omega)
      have hm1 : f_Mo_goBack hpx (nI i) = some (1, up (setc hpx 100 w2) 99 2 0) := by
        unfold f_Mo_goBack
        rw [m_in hpx (nI i) 0 1 (A := 0) (B := 1) rfl rfl, e0, Option.bind_some]
        dsimp only
        have e2 : (32 : Int32) + (32 : Int32) * nI i = nI (32 + 32 * i) := by
          show nI 32 + nI 32 * nI i = _
          rw [pk_mul, nI_add]
        rw [if_neg one_ne, if_pos (inb_n (by omega) (by omega)), if_neg (by rw [cl_n (by omega), fx 101 (by omega) (by omega) (by omega) (by omega) (by omega), k2]; exact one_ne), e2, show f_Mo_copy hpx (nI (32 + 32 * i)) 0 = _ from m_copy hpx (a := 32 + 32 * i) (o := 0) (by omega) (by omega) (by omega), Option.bind_some, e100, hw2]
      have wlo : ∀ j, j < 32 → w2 j = hp 100 (32 + 32 * i + j) := by
        intro j hj
        rw [← hw2]; unfold cpb; rw [if_pos (by omega)]
        exact congrArg (hp 100) (by omega)
      have whi : ∀ j, 32 ≤ j → w2 j = hp 100 j := by
        intro j hj
        rw [← hw2]; unfold cpb; rw [if_neg (by omega)]
      generalize hh2 : up (setc hpx 100 w2) 99 2 0 = hp2
      have f2x : ∀ q, q ≠ 99 → q ≠ 100 → hp2 q = hpx q := fun q q9 q10 => by
        rw [← hh2, up_ap, if_neg q9, setc_ap, if_neg q10]
      have f2 : ∀ q, q ≠ 99 → q ≠ 100 → q ≠ 6 → q ≠ 0 → q ≠ 3 → q ≠ 4 → q ≠ 5 → hp2 q = hp q := fun q q1 q2 q3 q4 q5 q6 q7 => by
        rw [f2x q q1 q2, fx q q3 q4 q5 q6 q7]
      have g99 : ∀ j, j ≠ 2 → hp2 99 j = hp 99 j := fun j hj => by
        rw [← hh2]
        show upd (hpx 99) 2 _ j = _
        rw [upd_ap, if_neg hj, fx 99 (by omega) (by omega) (by omega) (by omega) (by omega)]
      have g100 : hp2 100 = w2 := by
        rw [← hh2]
        show (setc hpx 100 w2) 100 = _
        exact setc_at _ _ _
      have g0 : ∀ j, j ≠ 11 → hp2 0 j = hp 0 j := fun j hj => by
        rw [f2x 0 (by omega) (by omega), ← hx]
        show upd (hpc 0) 11 _ j = _
        rw [upd_ap, if_neg hj, c2 0 (by omega) (by omega) (by omega)]
      refine ⟨1, hpx, hp2, hx1, by rw [← hh2]; exact hm1, b, b', P, Cn, Tn, ?_, ?_, ?_, ?_, ?_, ?_, ?_⟩
      · exact Rr_cong hp (g0 8 (by omega)) (g0 9 (by omega)) (g0 10 (by omega)) (g99 16 (by omega)) hr
      · exact Rtx_cong hp ⟨f2 2 (by omega) (by omega) (by omega) (by omega) (by omega) (by omega) (by omega), f2 106 (by omega) (by omega) (by omega) (by omega) (by omega) (by omega) (by omega)⟩ (by rw [f2 1 (by omega) (by omega) (by omega) (by omega) (by omega) (by omega) (by omega)]) (g99 11 (by omega)) htx
      · exact Rbr_cong hp hb (fun q hq => f2 q (by omega) (by omega) (by omega) (by omega) (by omega) (by omega) (by omega)) (g99 3 (by omega)) (g99 5 (by omega)) (g99 8 (by omega)) hbr
      · have z11 : hp2 0 11 = hp 85 i := by
          rw [f2x 0 (by omega) (by omega), ← hx]
          show upd (hpc 0) 11 (hp 85 i) 11 = _
          rw [upd_ap, if_pos rfl]
        have z31 : w2 31 = hp 85 i := by
          rw [wlo 31 (by omega), k4, show 32 + 32 * i + 31 = 63 + 32 * i by omega]
        refine ⟨?_, ?_, ?_⟩
        · rw [g100, f2x 3 (by omega) (by omega), f2x 4 (by omega) (by omega), f2x 5 (by omega) (by omega)]
          refine SE.cong ?_ (fun c hc => ?_) (fun k hk => ?_) (fun j hj => ?_) k3
          · rw [← hx]
            show hpc 3 2 = _
            rw [c3]
          · rw [← hx]
            show hpc 4 c = _
            have := c4 c hc
            rw [show 78 + 1 + 3 * i + 1 = 80 + 3 * i by omega] at this
            exact this
          · rw [← hx]
            show hpc 5 k = _
            have := c5 k hk
            rw [show 78 + 1 + 3 * i + 2 = 81 + 3 * i by omega] at this
            exact this
          · rw [Nat.zero_add]; exact wlo j (by omega)
        · rw [g100, z11, z31]
        · rw [g100, z31]; exact k5
      · exact Rim_w (fun q hq => f2 q (by omega) (by omega) (by omega) (by omega) (by omega) (by omega) (by omega)) (fun j j1 j2 => by rw [g100]; exact whi j j1) him
      · refine Rpa_0 p1 ?_ ?_ ?_
        · rw [f2x 6 (by omega) (by omega), ← hx]
          show hpc 6 1 = _
          rw [c2 6 (by omega) (by omega) (by omega)]; exact p3
        · rw [f2x 6 (by omega) (by omega), ← hx]; rfl
        · rw [← hh2]; rfl
      · exact Rsl_cong hp (fun q hq => f2 q (by omega) (by omega) (by omega) (by omega) (by omega) (by omega) (by omega)) (g99 23 (by omega)) (g99 25 (by omega)) (g99 29 (by omega)) (g99 32 (by omega)) hsl
end
section
/-! The text: blanks, figures, words; what the class and what the reference do with them. -/
/-- the letter at a place, -1 behind the end -/
def ltr (T : Nat → Int32) (N i : Nat) : Int32 := if i < N then T i else -1
def skf (T : Nat → Int32) (N : Nat) : Nat → Nat → Nat
  | 0, i => i
  | d + 1, i => if ltr T N i = 32 then skf T N d (i + 1) else i
def sk (T : Nat → Int32) (N i : Nat) : Nat := skf T N (N - i) i
theorem skf_spec (T : Nat → Int32) (N : Nat) : ∀ d i, N - i ≤ d → i ≤ N → i ≤ skf T N d i ∧ skf T N d i ≤ N ∧ ltr T N (skf T N d i) ≠ 32
  | 0, i, h, hi => by
    refine ⟨Nat.le_refl _, hi, ?_⟩
    show ltr T N i ≠ 32
    unfold ltr
    rw [if_neg (by omega)]
    decide
  | d + 1, i, h, hi => by
    unfold skf
    by_cases q : ltr T N i = 32
    · rw [if_pos q]
      have hiN : i < N := by
        unfold ltr at q
        by_cases z : i < N
        · exact z
        · rw [if_neg z] at q; exact absurd q (by decide)
      obtain ⟨a, b, c⟩ := skf_spec T N d (i + 1) (by omega) (by omega)
      exact ⟨by omega, b, c⟩
    · rw [if_neg q]
      exact ⟨Nat.le_refl _, hi, q⟩
theorem sk_spec (T : Nat → Int32) {N i : Nat} (h : i ≤ N) : i ≤ sk T N i ∧ sk T N i ≤ N ∧ ltr T N (sk T N i) ≠ 32 := skf_spec T N (N - i) i (Nat.le_refl _) h
theorem sk_id (T : Nat → Int32) {N i : Nat} (h : ltr T N i ≠ 32) : sk T N i = i := by
  unfold sk
  cases N - i with
  | zero => rfl
  | succ d => unfold skf; rw [if_neg h]
def dg (c : Int32) : Bool := decide (48 ≤ c.toInt) && decide (c.toInt ≤ 57)
def dsf (T : Nat → Int32) (N s : Nat) : Nat → Nat → Int32 → Nat × Int32
  | 0, i, v => (i, v)
  | d + 1, i, v => if dg (ltr T N i) = true then dsf T N s d (i + 1) (if i - s < 3 then v * 10 + ltr T N i - 48 else v) else (i, v)
def ds (T : Nat → Int32) (N s : Nat) : Nat × Int32 := dsf T N s (N - s) s 0
theorem dg_lt {T : Nat → Int32} {N i : Nat} (h : dg (ltr T N i) = true) : i < N := by
  unfold ltr at h
  by_cases z : i < N
  · exact z
  · rw [if_neg z] at h; exact absurd h (by decide)
theorem i48 : (48 : Int32).toInt = 48 := rfl
theorem i57 : (57 : Int32).toInt = 57 := rfl
theorem i10 : (10 : Int32).toInt = 10 := rfl
theorem dsf_spec (T : Nat → Int32) (N s : Nat) : ∀ d i v, N - i ≤ d → s ≤ i → i ≤ N → (0 ≤ v.toInt ∧ v.toInt ≤ 999 ∧ (i - s = 0 → v.toInt ≤ 0) ∧ (i - s = 1 → v.toInt ≤ 9) ∧ (i - s = 2 → v.toInt ≤ 99)) → i ≤ (dsf T N s d i v).1 ∧ (dsf T N s d i v).1 ≤ N ∧ 0 ≤ (dsf T N s d i v).2.toInt ∧ (dsf T N s d i v).2.toInt ≤ 999 ∧ dg (ltr T N (dsf T N s d i v).1) = false
  | 0, i, v, h, hs, hi, hv => by
    refine ⟨Nat.le_refl _, hi, hv.1, hv.2.1, ?_⟩
    show dg (ltr T N i) = false
    cases q : dg (ltr T N i) with
    | false => rfl
    | true => have := dg_lt q; omega
  | d + 1, i, v, h, hs, hi, hv => by
    unfold dsf
    cases q : dg (ltr T N i) with
    | false => rw [if_neg (by decide)]; exact ⟨Nat.le_refl _, hi, hv.1, hv.2.1, q⟩
    | true =>
      rw [if_pos rfl]
      have hiN := dg_lt q
      have hd : 48 ≤ (ltr T N i).toInt ∧ (ltr T N i).toInt ≤ 57 := by
        unfold dg at q
        simpa using q
      have hv' : 0 ≤ (if i - s < 3 then v * 10 + ltr T N i - 48 else v).toInt ∧ (if i - s < 3 then v * 10 + ltr T N i - 48 else v).toInt ≤ 999 ∧ (i + 1 - s = 0 → (if i - s < 3 then v * 10 + ltr T N i - 48 else v).toInt ≤ 0) ∧ (i + 1 - s = 1 → (if i - s < 3 then v * 10 + ltr T N i - 48 else v).toInt ≤ 9) ∧ (i + 1 - s = 2 → (if i - s < 3 then v * 10 + ltr T N i - 48 else v).toInt ≤ 99) := by
        by_cases c : i - s < 3
        · rw [if_pos c]
          have e1 : (v * 10).toInt = v.toInt * 10 := by rw [mul_i (by rw [i10]; omega), i10]
          have e2 : (v * 10 + ltr T N i).toInt = v.toInt * 10 + (ltr T N i).toInt := by rw [add_i (by rw [e1]; omega), e1]
          have e3 : (v * 10 + ltr T N i - 48).toInt = v.toInt * 10 + (ltr T N i).toInt - 48 := by rw [sub_i (by rw [e2, i48]; omega), e2, i48]
          rw [e3]
          obtain ⟨v1, v2, v3, v4, v5⟩ := hv
          rcases (show i - s = 0 ∨ i - s = 1 ∨ i - s = 2 by omega) with z | z | z
          · have := v3 z; omega
          · have := v4 z; omega
          · have := v5 z; omega
        · rw [if_neg c]; obtain ⟨v1, v2, v3, v4, v5⟩ := hv; omega
      obtain ⟨a, b, c, e, f⟩ := dsf_spec T N s d (i + 1) _ (by omega) (by omega) (by omega) hv'
      exact ⟨by omega, b, c, e, f⟩
theorem ds_spec (T : Nat → Int32) {N s : Nat} (h : s ≤ N) : s ≤ (ds T N s).1 ∧ (ds T N s).1 ≤ N ∧ 0 ≤ (ds T N s).2.toInt ∧ (ds T N s).2.toInt ≤ 999 ∧ dg (ltr T N (ds T N s).1) = false := dsf_spec T N s (N - s) s 0 (Nat.le_refl _) (Nat.le_refl _) h ⟨by decide, by decide, fun _ => by decide, fun _ => by decide, fun _ => by decide⟩
theorem ds_same (T : Nat → Int32) {N s : Nat} : (ds T N s).1 = s ↔ dg (ltr T N s) = false := by
  unfold ds
  cases hd : N - s with
  | zero =>
    refine ⟨fun _ => ?_, fun _ => rfl⟩
    cases q : dg (ltr T N s) with
    | false => rfl
    | true => have := dg_lt q; omega
  | succ d =>
    unfold dsf
    cases q : dg (ltr T N s) with
    | false => rw [if_neg (by decide)]; exact ⟨fun _ => rfl, fun _ => rfl⟩
    | true =>
      rw [if_pos rfl]
      have hN := dg_lt q
      have key : ∀ d i v, i ≤ (dsf T N s d i v).1 := by
        intro d
        induction d with
        | zero => intro i v; exact Nat.le_refl _
        | succ d ih =>
          intro i v
          unfold dsf
          split
          · have := ih (i + 1) (if i - s < 3 then v * 10 + ltr T N i - 48 else v); omega
          · exact Nat.le_refl _
      have := key d (s + 1) (if s - s < 3 then 0 * 10 + ltr T N s - 48 else 0)
      exact ⟨fun e => by omega, fun e => by cases e⟩
/-- the class's reader: its text, its place -/
def RX (T : Nat → Int32) (N : Nat) (hp : HP) (i : Nat) : Prop := N ≤ 240 ∧ i ≤ N ∧ hp 1 1 = nI N ∧ hp 1 4 = nI i ∧ ∀ j, j < N → hp 2 j = T j
/-- only the reader's place and fault changed -/
def X1 (hp hp' : HP) (i : Nat) (f p : Int32) : Prop := (∀ c, c ≠ 1 → hp' c = hp c) ∧ hp' 1 1 = hp 1 1 ∧ hp' 1 4 = nI i ∧ hp' 1 3 = f ∧ hp' 1 2 = p
theorem X1.rx {T : Nat → Int32} {N : Nat} {hp hp' : HP} {i i' : Nat} {f p : Int32} (h : RX T N hp i) (x : X1 hp hp' i' f p) (hi : i' ≤ N) : RX T N hp' i' :=
  ⟨h.1, hi, by rw [x.2.1]; exact h.2.2.1, x.2.2.1, fun j hj => by rw [x.1 2 (by omega)]; exact h.2.2.2.2 j hj⟩
theorem X1.trans {hp hp' hp2 : HP} {i i' : Nat} {f p f' p' : Int32} (x : X1 hp hp' i f p) (y : X1 hp' hp2 i' f' p') : X1 hp hp2 i' f' p' :=
  ⟨fun c hc => by rw [y.1 c hc, x.1 c hc], by rw [y.2.1, x.2.1], y.2.2.1, y.2.2.2.1, y.2.2.2.2⟩
theorem X1.up4 (hp : HP) (i : Nat) : X1 hp (up hp 1 4 (nI i)) i (hp 1 3) (hp 1 2) :=
  ⟨fun c hc => by rw [up_ap, if_neg hc], rfl, rfl, rfl, rfl⟩
theorem x_letter {T : Nat → Int32} {N : Nat} {hp : HP} {i : Nat} (h : RX T N hp i) : f_Re_letter hp = some (ltr T N i, hp) := by
  obtain ⟨h1, h2, h3, h4, h5⟩ := h
  unfold f_Re_letter ltr
  rw [h4, h3, if_neg (by exact n_nlt i 0 (by omega) (by omega))]
  by_cases q : i < N
  · rw [if_neg (by exact n_nle N i q (by omega)), if_neg (by exact n_nle 240 i (by omega) (by omega)), if_pos (inb_n (by omega) (by omega)), cl_n (by omega), if_pos q, h5 i q]
  · rw [if_pos (by exact n_le N i (by omega) (by omega)), if_neg q]
theorem x_skipL {T : Nat → Int32} {N : Nat} (K : HP → Option (Int32 × HP)) : ∀ d n hp i, N - i ≤ d → d < n → RX T N hp i → ∃ hp', f_Re_skipBlanks_L0 K n hp = K hp' ∧ X1 hp hp' (skf T N d i) (hp 1 3) (hp 1 2) := by
  intro d
  induction d with
  | zero =>
    intro n hp i hd hn h
    obtain ⟨n, rfl⟩ : ∃ m, n = m + 1 := ⟨n - 1, by omega⟩
    refine ⟨hp, ?_, fun _ _ => rfl, rfl, h.2.2.2.1, rfl, rfl⟩
    rw [f_Re_skipBlanks_L0, if_pos (by rw [h.2.2.1, h.2.2.2.1]; exact n_le N i (by omega) (by have := h.2.1; have := h.1; omega))]
  | succ d ih =>
    intro n hp i hd hn h
    obtain ⟨n, rfl⟩ : ∃ m, n = m + 1 := ⟨n - 1, by omega⟩
    have hN := h.1
    have hi := h.2.1
    rw [f_Re_skipBlanks_L0]
    unfold skf
    by_cases q : i < N
    · rw [if_neg (by rw [h.2.2.1, h.2.2.2.1]; exact n_nle N i q (by omega)), x_letter h, Option.bind_some]
      dsimp only
      by_cases c : ltr T N i = 32
      · rw [if_pos c, if_pos c, h.2.2.2.1, nI_s]
        have x := X1.up4 hp (i + 1)
        obtain ⟨hp', e1, e2⟩ := ih n (up hp 1 4 (nI (i + 1))) (i + 1) (by omega) (by omega) (x.rx h (by omega))
        exact ⟨hp', e1, x.trans e2⟩
      · rw [if_neg c, if_neg c]
        exact ⟨hp, rfl, fun _ _ => rfl, rfl, h.2.2.2.1, rfl, rfl⟩
    · have c : ¬ ltr T N i = 32 := by unfold ltr; rw [if_neg q]; decide
      rw [if_pos (by rw [h.2.2.1, h.2.2.2.1]; exact n_le N i (by omega) (by omega)), if_neg c]
      exact ⟨hp, rfl, fun _ _ => rfl, rfl, h.2.2.2.1, rfl, rfl⟩
theorem x_skip {T : Nat → Int32} {N : Nat} {hp : HP} {i : Nat} (h : RX T N hp i) : ∃ hp', f_Re_skipBlanks hp = some (0, hp') ∧ X1 hp hp' (sk T N i) (hp 1 3) (hp 1 2) := x_skipL _ (N - i) FU hp i (Nat.le_refl _) (FU_gt (by have := h.1; omega)) h
/-- the first fault stays -/
def fn (f n : Int32) : Int32 := if f = 0 then n else f
def fp (f p n : Int32) : Int32 := if f = 0 then n else p
theorem x_fail (hp : HP) (n w : Int32) {i : Nat} (h : hp 1 4 = nI i) : ∃ hp', f_Re_fail hp n w = some (0, hp') ∧ X1 hp hp' i (fn (hp 1 3) n) (fp (hp 1 3) (hp 1 2) w) := by
  unfold f_Re_fail fn fp
  by_cases q : hp 1 3 = 0
  · rw [if_pos q, if_pos q, if_pos q]
    exact ⟨_, rfl, fun c hc => by rw [up_ap, if_neg hc, up_ap, if_neg hc], rfl, h, rfl, rfl⟩
  · rw [if_neg q, if_neg q, if_neg q]
    exact ⟨_, rfl, fun _ _ => rfl, rfl, h, rfl, rfl⟩
theorem x_isFigure (hp : HP) (c : Int32) : f_Re_isFigure hp c = some (zi (dg c), hp) := by
  unfold f_Re_isFigure dg zi
  by_cases h1 : c < 48
  · rw [if_pos h1]
    rw [lt_i, i48] at h1
    rw [decide_eq_false (by omega)]; rfl
  · rw [if_neg h1]
    rw [lt_i, i48] at h1
    by_cases h2 : 57 < c
    · rw [if_pos h2]
      rw [lt_i, i57] at h2
      rw [decide_eq_true (by omega), decide_eq_false (by omega)]; rfl
    · rw [if_neg h2]
      rw [lt_i, i57] at h2
      rw [decide_eq_true (by omega), decide_eq_true (by omega)]; rfl
theorem x_numL {T : Nat → Int32} {N s : Nat} (v1 : Int32) (K : HP → Int32 → Option (Int32 × HP)) : ∀ d n hp i v, N - i ≤ d → d < n → s ≤ i → RX T N hp i → ∃ hp', f_Re_readNumber_L11 v1 (nI s) K n hp v = K hp' (dsf T N s d i v).2 ∧ X1 hp hp' (dsf T N s d i v).1 (hp 1 3) (hp 1 2) := by
  intro d
  induction d with
  | zero =>
    intro n hp i v hd hn hs h
    obtain ⟨n, rfl⟩ : ∃ m, n = m + 1 := ⟨n - 1, by omega⟩
    refine ⟨hp, ?_, fun _ _ => rfl, rfl, h.2.2.2.1, rfl, rfl⟩
    rw [f_Re_readNumber_L11, if_pos (by rw [h.2.2.1, h.2.2.2.1]; exact n_le N i (by omega) (by have := h.2.1; have := h.1; omega))]
    rfl
  | succ d ih =>
    intro n hp i v hd hn hs h
    obtain ⟨n, rfl⟩ : ∃ m, n = m + 1 := ⟨n - 1, by omega⟩
    have hN := h.1
    have hi := h.2.1
    rw [f_Re_readNumber_L11]
    unfold dsf
    by_cases q : i < N
    · rw [if_neg (by rw [h.2.2.1, h.2.2.2.1]; exact n_nle N i q (by omega)), x_letter h, Option.bind_some]
      dsimp only
      rw [x_isFigure, Option.bind_some]
      dsimp only
      rw [zi_ite]
      cases c : dg (ltr T N i) with
      | false =>
        rw [if_neg (by decide), if_neg (by decide)]
        exact ⟨hp, rfl, fun _ _ => rfl, rfl, h.2.2.2.1, rfl, rfl⟩
      | true =>
        rw [if_pos rfl, if_pos rfl, x_letter h, Option.bind_some]
        simp only [h.2.2.2.1, pk_sub hs, nI_s]
        have x := X1.up4 hp (i + 1)
        by_cases c3 : i - s < 3
        · rw [if_neg (by exact n_nle 3 (i - s) c3 (by omega)), if_pos c3]
          obtain ⟨hp', e1, e2⟩ := ih n (up hp 1 4 (nI (i + 1))) (i + 1) (v * 10 + ltr T N i - 48) (by omega) (by omega) (by omega) (x.rx h (by omega))
          exact ⟨hp', e1, x.trans e2⟩
        · rw [if_pos (by exact n_le 3 (i - s) (by omega) (by omega)), if_neg c3]
          obtain ⟨hp', e1, e2⟩ := ih n (up hp 1 4 (nI (i + 1))) (i + 1) v (by omega) (by omega) (by omega) (x.rx h (by omega))
          exact ⟨hp', e1, x.trans e2⟩
    · rw [if_pos (by rw [h.2.2.1, h.2.2.2.1]; exact n_le N i (by omega) (by omega))]
      cases c : dg (ltr T N i) with
      | false =>
        rw [if_neg (by decide)]
        exact ⟨hp, rfl, fun _ _ => rfl, rfl, h.2.2.2.1, rfl, rfl⟩
      | true => have := dg_lt c; omega
/-- what is wrong with a number that begins at s: nothing (0), no number (1), too long or too large (2) -/
def nf2 (T : Nat → Int32) (N s : Nat) (g : Int32) : Int32 := if dg (ltr T N s) = false then 1 else if 3 < (ds T N s).1 - s ∨ g.toInt < (ds T N s).2.toInt then 2 else 0
theorem x_num {T : Nat → Int32} {N : Nat} {hp : HP} {i : Nat} (h : RX T N hp i) (g : Int32) : ∃ hp', f_Re_readNumber hp g = some ((ds T N (sk T N i)).2, hp') ∧ X1 hp hp' (ds T N (sk T N i)).1 (if nf2 T N (sk T N i) g = 0 then hp 1 3 else fn (hp 1 3) (nf2 T N (sk T N i) g)) (if nf2 T N (sk T N i) g = 0 then hp 1 2 else fp (hp 1 3) (hp 1 2) (nI (sk T N i))) := by
  have hN := h.1
  obtain ⟨s1, s2, s3⟩ := sk_spec T h.2.1
  obtain ⟨d1, d2, d3, d4, d5⟩ := ds_spec T s2
  obtain ⟨hp1, e1, x1⟩ := x_skip h
  have h1 := x1.rx h s2
  unfold f_Re_readNumber
  rw [e1, Option.bind_some]
  simp only [h1.2.2.2.1]
  generalize hs : sk T N i = s at *
  have same := ds_same T (N := N) (s := s)
  obtain ⟨hp2, e2, x2⟩ := x_numL (T := T) (N := N) (s := s) g (fun hp13 w12 => if (hp13 1 4) = nI s then ((f_Re_fail hp13 (1 : Int32) (nI s)).bind fun p16 => some (w12, p16.2)) else if (3 : Int32) < ((hp13 1 4) - nI s) then ((f_Re_fail hp13 (2 : Int32) (nI s)).bind fun p19 => some (w12, p19.2)) else if w12 ≤ g then some (w12, hp13) else ((f_Re_fail hp13 (2 : Int32) (nI s)).bind fun p22 => some (w12, p22.2))) (N - s) FU hp1 s 0 (Nat.le_refl _) (FU_gt (by omega)) (Nat.le_refl _) h1
  have x2' : X1 hp1 hp2 (ds T N s).1 (hp1 1 3) (hp1 1 2) := x2
  have h2 := x2'.rx h1 d2
  have xx := x1.trans x2'
  rw [x1.2.2.2.1, x1.2.2.2.2] at xx
  refine (show ∃ hp', _ = _ ∧ _ from ?_)
  rw [e2]
  show ∃ hp', (if hp2 1 4 = nI s then _ else _) = _ ∧ _
  rw [h2.2.2.2.1]
  have ev : (dsf T N s (N - s) s 0).2 = (ds T N s).2 := rfl
  rw [ev]
  by_cases q : dg (ltr T N s) = false
  · have en : nf2 T N s g = 1 := by unfold nf2; rw [if_pos q]
    rw [if_pos (by rw [same.mpr q]), en, if_neg one_ne, if_neg one_ne]
    obtain ⟨hp3, e3, x3⟩ := x_fail hp2 1 (nI s) h2.2.2.2.1
    rw [e3]
    refine ⟨hp3, rfl, ?_⟩
    rw [xx.2.2.2.1, xx.2.2.2.2] at x3
    exact xx.trans x3
  · have ns : (ds T N s).1 ≠ s := fun e => q (same.mp e)
    rw [if_neg (by exact n_ne _ _ ns (by omega) (by omega)), pk_sub (by omega)]
    by_cases c1 : 3 < (ds T N s).1 - s
    · have en : nf2 T N s g = 2 := by unfold nf2; rw [if_neg q, if_pos (Or.inl c1)]
      rw [if_pos (by exact n_lt 3 _ c1 (by omega)), en, if_neg (by decide), if_neg (by decide)]
      obtain ⟨hp3, e3, x3⟩ := x_fail hp2 2 (nI s) h2.2.2.2.1
      rw [e3]
      refine ⟨hp3, rfl, ?_⟩
      rw [xx.2.2.2.1, xx.2.2.2.2] at x3
      exact xx.trans x3
    · rw [if_neg (by exact n_nlt 3 _ (by omega) (by omega))]
      by_cases c2 : (ds T N s).2 ≤ g
      · have en : nf2 T N s g = 0 := by unfold nf2; rw [if_neg q, if_neg (by rw [le_i] at c2; omega)]
        rw [if_pos c2, en, if_pos rfl, if_pos rfl]
        exact ⟨hp2, rfl, xx⟩
      · have en : nf2 T N s g = 2 := by unfold nf2; rw [if_neg q, if_pos (by rw [le_i] at c2; omega)]
        rw [if_neg c2, en, if_neg (by decide), if_neg (by decide)]
        obtain ⟨hp3, e3, x3⟩ := x_fail hp2 2 (nI s) h2.2.2.2.1
        rw [e3]
        refine ⟨hp3, rfl, ?_⟩
        rw [xx.2.2.2.1, xx.2.2.2.2] at x3
        exact xx.trans x3
theorem x_word {T : Nat → Int32} {N : Nat} {hp : HP} {i : Nat} (h : RX T N hp i) (c : Int32) (hc : c ≠ -1) : ∃ hp', f_Re_readWord hp c = some (0, hp') ∧ (ltr T N (sk T N i) = c → sk T N i < N ∧ X1 hp hp' (sk T N i + 1) (hp 1 3) (hp 1 2)) ∧ (ltr T N (sk T N i) ≠ c → X1 hp hp' (sk T N i) (fn (hp 1 3) 1) (fp (hp 1 3) (hp 1 2) (nI (sk T N i)))) := by
  have hN := h.1
  obtain ⟨s1, s2, s3⟩ := sk_spec T h.2.1
  obtain ⟨hp1, e1, x1⟩ := x_skip h
  have h1 := x1.rx h s2
  unfold f_Re_readWord
  rw [e1, Option.bind_some]
  dsimp only
  rw [x_letter h1, Option.bind_some]
  dsimp only
  rw [h1.2.2.2.1]
  by_cases q : ltr T N (sk T N i) = c
  · rw [if_pos q, nI_s]
    refine ⟨_, rfl, fun _ => ⟨?_, ?_⟩, fun n => absurd q n⟩
    · unfold ltr at q
      by_cases z : sk T N i < N
      · exact z
      · rw [if_neg z] at q; exact absurd q.symm hc
    · have := x1.trans (X1.up4 hp1 (sk T N i + 1))
      rw [x1.2.2.2.1, x1.2.2.2.2] at this
      exact this
  · rw [if_neg q]
    obtain ⟨hp3, e3, x3⟩ := x_fail hp1 1 (nI (sk T N i)) h1.2.2.2.1
    rw [e3]
    refine ⟨hp3, rfl, fun n => absurd n q, fun _ => ?_⟩
    have := x1.trans x3
    rw [x1.2.2.2.1, x1.2.2.2.2] at this
    exact this
end
section
/-- the reference's reader -/
def MX (T : Nat → Int32) (N : Nat) (hp : HP) (i : Nat) : Prop := N ≤ 240 ∧ i ≤ N ∧ hp 99 11 = nI N ∧ hp 99 12 = nI i ∧ ∀ j, j < N → hp 106 j = T j
/-- only its place, start, number and fault changed -/
def M1 (hp hp' : HP) (i : Nat) (v f p : Int32) : Prop := (∀ c, c ≠ 99 → hp' c = hp c) ∧ (∀ j, j ≠ 12 → j ≠ 13 → j ≠ 14 → j ≠ 15 → j ≠ 16 → hp' 99 j = hp 99 j) ∧ hp' 99 12 = nI i ∧ hp' 99 14 = v ∧ hp' 99 15 = f ∧ hp' 99 16 = p
theorem M1.mx {T : Nat → Int32} {N : Nat} {hp hp' : HP} {i i' : Nat} {v f p : Int32} (h : MX T N hp i) (x : M1 hp hp' i' v f p) (hi : i' ≤ N) : MX T N hp' i' :=
  ⟨h.1, hi, by rw [x.2.1 11 (by omega) (by omega) (by omega) (by omega) (by omega)]; exact h.2.2.1, x.2.2.1, fun j hj => by rw [x.1 106 (by omega)]; exact h.2.2.2.2 j hj⟩
theorem M1.trans {hp hp' hp2 : HP} {i i' : Nat} {v f p v' f' p' : Int32} (x : M1 hp hp' i v f p) (y : M1 hp' hp2 i' v' f' p') : M1 hp hp2 i' v' f' p' :=
  ⟨fun c hc => by rw [y.1 c hc, x.1 c hc], fun j a1 a2 a3 a4 a5 => by rw [y.2.1 j a1 a2 a3 a4 a5, x.2.1 j a1 a2 a3 a4 a5], y.2.2⟩
theorem M1.rfl' {hp : HP} {i : Nat} (h : hp 99 12 = nI i) : M1 hp hp i (hp 99 14) (hp 99 15) (hp 99 16) := ⟨fun _ _ => rfl, fun _ _ _ _ _ _ => rfl, h, rfl, rfl, rfl⟩
theorem M1.up12 (hp : HP) (i : Nat) : M1 hp (up hp 99 12 (nI i)) i (hp 99 14) (hp 99 15) (hp 99 16) :=
  ⟨fun c hc => by rw [up_ap, if_neg hc], fun j a1 _ _ _ _ => by rw [up_ap, if_pos rfl, upd_ap, if_neg a1], rfl, rfl, rfl, rfl⟩
theorem M1.up13 {hp : HP} {i : Nat} (s : Int32) (h : hp 99 12 = nI i) : M1 hp (up hp 99 13 s) i (hp 99 14) (hp 99 15) (hp 99 16) :=
  ⟨fun c hc => by rw [up_ap, if_neg hc], fun j _ a1 _ _ _ => by rw [up_ap, if_pos rfl, upd_ap, if_neg a1], h, rfl, rfl, rfl⟩
theorem M1.up14 {hp : HP} {i : Nat} (v : Int32) (h : hp 99 12 = nI i) : M1 hp (up hp 99 14 v) i v (hp 99 15) (hp 99 16) :=
  ⟨fun c hc => by rw [up_ap, if_neg hc], fun j _ _ a1 _ _ => by rw [up_ap, if_pos rfl, upd_ap, if_neg a1], h, rfl, rfl, rfl⟩
theorem M1.fail {hp : HP} {i : Nat} (f p : Int32) (h : hp 99 12 = nI i) : M1 hp (up (up hp 99 15 f) 99 16 p) i (hp 99 14) f p :=
  ⟨fun c hc => by rw [up_ap, if_neg hc, up_ap, if_neg hc], fun j _ _ _ a1 a2 => by rw [up_ap, if_pos rfl, upd_ap, if_neg a2, up_ap, if_pos rfl, upd_ap, if_neg a1], h, rfl, rfl, rfl⟩
theorem m_letterAt {T : Nat → Int32} {N : Nat} {hp : HP} {i : Nat} (h : MX T N hp i) : f_Mo_letterAt hp (hp 99 12) = some (ltr T N i, hp) := by
  obtain ⟨h1, h2, h3, h4, h5⟩ := h
  unfold f_Mo_letterAt ltr
  rw [h4, h3]
  by_cases q : i < N
  · rw [if_neg (by exact n_nle N i q (by omega)), if_pos (inb_n (by omega) (by omega)), cl_n (by omega), if_pos q, h5 i q]
  · rw [if_pos (by exact n_le N i (by omega) (by omega)), if_neg q]
theorem m_hereL {T : Nat → Int32} {N : Nat} (K : HP → Option (Int32 × HP)) : ∀ d n hp i, N - i ≤ d → d < n → MX T N hp i → ∃ hp', f_Mo_here_L0 K n hp = K hp' ∧ M1 hp hp' (skf T N d i) (hp 99 14) (hp 99 15) (hp 99 16) := by
  intro d
  induction d with
  | zero =>
    intro n hp i hd hn h
    obtain ⟨n, rfl⟩ : ∃ m, n = m + 1 := ⟨n - 1, by omega⟩
    refine ⟨hp, ?_, M1.rfl' h.2.2.2.1⟩
    rw [f_Mo_here_L0, m_letterAt h, Option.bind_some]
    dsimp only
    have c : ¬ ltr T N i = 32 := by unfold ltr; rw [if_neg (by omega)]; decide
    rw [if_neg c]
  | succ d ih =>
    intro n hp i hd hn h
    obtain ⟨n, rfl⟩ : ∃ m, n = m + 1 := ⟨n - 1, by omega⟩
    rw [f_Mo_here_L0, m_letterAt h, Option.bind_some]
    unfold skf
    dsimp only
    by_cases c : ltr T N i = 32
    · have hiN : i < N := by
        unfold ltr at c
        by_cases z : i < N
        · exact z
        · rw [if_neg z] at c; exact absurd c (by decide)
      rw [if_pos c, if_pos c, h.2.2.2.1, nI_s]
      have x := M1.up12 hp (i + 1)
      obtain ⟨hp', e1, e2⟩ := ih n (up hp 99 12 (nI (i + 1))) (i + 1) (by omega) (by omega) (x.mx h (by omega))
      exact ⟨hp', e1, x.trans e2⟩
    · rw [if_neg c, if_neg c]
      exact ⟨hp, rfl, M1.rfl' h.2.2.2.1⟩
theorem m_here {T : Nat → Int32} {N : Nat} {hp : HP} {i : Nat} (h : MX T N hp i) : ∃ hp', f_Mo_here hp = some (ltr T N (sk T N i), hp') ∧ M1 hp hp' (sk T N i) (hp 99 14) (hp 99 15) (hp 99 16) ∧ hp' 99 13 = nI (sk T N i) := by
  obtain ⟨s1, s2, s3⟩ := sk_spec T h.2.1
  unfold f_Mo_here
  obtain ⟨hp1, e1, x1⟩ := m_hereL (T := T) (N := N) (fun hp4 => ((f_Mo_letterAt (up hp4 99 13 (hp4 99 12)) ((up hp4 99 13 (hp4 99 12)) 99 12)).bind fun p6 => some (p6.1, p6.2))) (N - i) FU hp i (Nat.le_refl _) (FU_gt (by have := h.1; omega)) h
  have h1 := M1.mx h x1 s2
  have x2 := M1.up13 (hp1 99 12) h1.2.2.2.1
  have h2 := M1.mx h1 x2 s2
  rw [e1]
  rw [m_letterAt h2]
  refine ⟨_, rfl, ?_, ?_⟩
  · have := x1.trans x2
    rw [x1.2.2.2.1, x1.2.2.2.2.1, x1.2.2.2.2.2] at this
    exact this
  · show hp1 99 12 = _
    exact h1.2.2.2.1
theorem wi_dg (c : Int32) : wi c 48 57 = zi (dg c) := by
  rcases @wi_lit c 48 57 with ⟨e, h⟩ | ⟨e, h1, h2⟩
  · rw [e]
    unfold dg
    rw [i48, i57] at h
    rcases h with h | h
    · rw [decide_eq_false (by omega)]; rfl
    · rw [decide_eq_false (p := c.toInt ≤ 57) (by omega), Bool.and_false]; rfl
  · rw [e]
    unfold dg
    rw [i48] at h1
    rw [i57] at h2
    rw [decide_eq_true h1, decide_eq_true h2]; rfl
theorem m_numL {T : Nat → Int32} {N s : Nat} (v1 v2 : Int32) (K : HP → Option (Int32 × HP)) : ∀ d n hp i, N - i ≤ d → d < n → s ≤ i → MX T N hp i → hp 99 13 = nI s → ∃ hp', f_Mo_takesNumber_L32 v1 v2 K n hp = K hp' ∧ M1 hp hp' (dsf T N s d i (hp 99 14)).1 (dsf T N s d i (hp 99 14)).2 (hp 99 15) (hp 99 16) ∧ hp' 99 13 = nI s := by
  intro d
  induction d with
  | zero =>
    intro n hp i hd hn hs h h13
    obtain ⟨n, rfl⟩ : ∃ m, n = m + 1 := ⟨n - 1, by omega⟩
    refine ⟨hp, ?_, M1.rfl' h.2.2.2.1, h13⟩
    rw [f_Mo_takesNumber_L32, m_letterAt h, Option.bind_some]
    dsimp only
    rw [m_in hp (ltr T N i) 48 57 (A := 48) (B := 57) rfl rfl, wi_dg, Option.bind_some]
    dsimp only
    rw [zi_ite]
    cases c : dg (ltr T N i) with
    | false => rw [if_neg (by decide)]
    | true => have := dg_lt c; omega
  | succ d ih =>
    intro n hp i hd hn hs h h13
    obtain ⟨n, rfl⟩ : ∃ m, n = m + 1 := ⟨n - 1, by omega⟩
    have hN := h.1
    rw [f_Mo_takesNumber_L32, m_letterAt h, Option.bind_some]
    unfold dsf
    dsimp only
    rw [m_in hp (ltr T N i) 48 57 (A := 48) (B := 57) rfl rfl, wi_dg, Option.bind_some]
    dsimp only
    rw [zi_ite]
    cases c : dg (ltr T N i) with
    | false =>
      rw [if_neg (by decide), if_neg (by decide)]
      exact ⟨hp, rfl, M1.rfl' h.2.2.2.1, h13⟩
    | true =>
      have hiN := dg_lt c
      rw [if_pos rfl, if_pos rfl, m_letterAt h, Option.bind_some]
      simp only [h13]
      by_cases c3 : i - s < 3
      · rw [if_neg (by rw [h.2.2.2.1, pk_sub hs]; exact n_nle 3 (i - s) c3 (by omega)), if_pos c3]
        have ev : ((10 : Int32) * hp 99 14 + ltr T N i) - 48 = hp 99 14 * 10 + ltr T N i - 48 := by rw [Int32.mul_comm]
        rw [ev]
        generalize hp 99 14 * 10 + ltr T N i - 48 = v
        have x1 := M1.up14 v h.2.2.2.1
        have e12 : up hp 99 14 v 99 12 = nI i := h.2.2.2.1
        rw [e12, nI_s]
        have x2 := M1.up12 (up hp 99 14 v) (i + 1)
        have xx := x1.trans x2
        have h2 := M1.mx h xx (by omega)
        obtain ⟨hp', e1, e2, e3⟩ := ih n _ (i + 1) (by omega) (by omega) (by omega) h2 h13
        exact ⟨hp', e1, xx.trans e2, e3⟩
      · rw [if_pos (by rw [h.2.2.2.1, pk_sub hs]; exact n_le 3 (i - s) (by omega) (by omega)), if_neg c3]
        have x1 := M1.up14 (hp 99 14) h.2.2.2.1
        have e12 : up hp 99 14 (hp 99 14) 99 12 = nI i := h.2.2.2.1
        rw [e12, nI_s]
        have x2 := M1.up12 (up hp 99 14 (hp 99 14)) (i + 1)
        have xx := x1.trans x2
        have h2 := M1.mx h xx (by omega)
        obtain ⟨hp', e1, e2, e3⟩ := ih n _ (i + 1) (by omega) (by omega) (by omega) h2 h13
        exact ⟨hp', e1, xx.trans e2, e3⟩
theorem m_num {T : Nat → Int32} {N : Nat} {hp : HP} {i : Nat} (h : MX T N hp i) {g : Int32} (hg : 0 ≤ g.toInt) : ∃ hp' v', f_Mo_takesNumber hp 0 g = some (if nf2 T N (sk T N i) g = 0 then 1 else 0, hp') ∧ (nf2 T N (sk T N i) g = 0 → M1 hp hp' (ds T N (sk T N i)).1 (ds T N (sk T N i)).2 (hp 99 15) (hp 99 16)) ∧ (nf2 T N (sk T N i) g ≠ 0 → ∃ j, M1 hp hp' j v' (nf2 T N (sk T N i) g) (nI (sk T N i))) := by
  have hN := h.1
  obtain ⟨s1, s2, s3⟩ := sk_spec T h.2.1
  obtain ⟨d1, d2, d3, d4, d5⟩ := ds_spec T s2
  obtain ⟨hp1, e1, x1, x13⟩ := m_here h
  have h1 := M1.mx h x1 s2
  unfold f_Mo_takesNumber
  rw [e1, Option.bind_some]
  dsimp only
  rw [m_in hp1 _ 48 57 (A := 48) (B := 57) rfl rfl, wi_dg, Option.bind_some]
  dsimp only
  rw [zi_ite]
  generalize hs : sk T N i = s at *
  by_cases q : dg (ltr T N s) = false
  · have en : nf2 T N s g = 1 := by unfold nf2; rw [if_pos q]
    rw [en, q, if_neg (by decide), if_neg one_ne]
    unfold f_Mo_fails
    rw [Option.bind_some]
    dsimp only
    rw [rz_0]
    refine ⟨_, hp1 99 14, rfl, fun z => absurd z one_ne, fun _ => ⟨s, ?_⟩⟩
    rw [x13]
    exact x1.trans (M1.fail 1 (nI s) h1.2.2.2.1)
  · have qt : dg (ltr T N s) = true := by
      cases z : dg (ltr T N s) with
      | false => exact absurd z q
      | true => rfl
    rw [qt, if_pos rfl]
    have x2 := M1.up14 (0 : Int32) h1.2.2.2.1
    have h2 := M1.mx h1 x2 s2
    obtain ⟨hp3, e3, x3, x33⟩ := m_numL (T := T) (N := N) (s := s) (0 : Int32) g (fun hp16 => if (4 : Int32) ≤ ((hp16 99 12) - (hp16 99 13)) then ((f_Mo_fails hp16 (2 : Int32) (hp16 99 13)).bind fun p19 => if p19.1 = 0 then some ((0 : Int32), p19.2) else some ((1 : Int32), p19.2)) else ((f_Mo_in hp16 ((hp16 99 14)).toInt64 (0 : Int32).toInt64 (g).toInt64).bind fun p22 => if p22.1 = 0 then ((f_Mo_fails p22.2 (2 : Int32) (p22.2 99 13)).bind fun p25 => if p25.1 = 0 then some ((0 : Int32), p25.2) else some ((1 : Int32), p25.2)) else some ((1 : Int32), p22.2))) (N - s) FU (up hp1 99 14 0) s (Nat.le_refl _) (FU_gt (by omega)) (Nat.le_refl _) h2 x13
    have x3' : M1 (up hp1 99 14 0) hp3 (ds T N s).1 (ds T N s).2 (hp1 99 15) (hp1 99 16) := x3
    have h3 := M1.mx h2 x3' d2
    have xx := (x1.trans x2).trans x3'
    rw [x1.2.2.2.2.1, x1.2.2.2.2.2] at xx
    rw [e3]
    simp only [h3.2.2.2.1, x33, pk_sub d1]
    unfold f_Mo_fails
    by_cases c1 : 3 < (ds T N s).1 - s
    · have en : nf2 T N s g = 2 := by unfold nf2; rw [if_neg q, if_pos (Or.inl c1)]
      rw [if_pos (by exact n_le 4 _ (by omega) (by omega)), Option.bind_some]
      dsimp only
      rw [if_pos rfl, en, if_neg (by decide)]
      refine ⟨_, hp3 99 14, rfl, fun z => absurd z (by decide), fun _ => ⟨(ds T N s).1, ?_⟩⟩
      exact xx.trans (M1.fail 2 (nI s) h3.2.2.2.1)
    · rw [if_neg (by exact n_nle 4 _ (by omega) (by omega)), m_in hp3 _ 0 g (A := (0 : Int32).toInt64) rfl rfl, Option.bind_some]
      dsimp only
      rw [xx.2.2.2.1]
      rcases @wi_lit (ds T N s).2 0 g with ⟨ew, hw⟩ | ⟨ew, hw1, hw2⟩
      · rw [i0] at hw
        have en : nf2 T N s g = 2 := by unfold nf2; rw [if_neg q, if_pos (by omega)]
        rw [ew, if_pos rfl, Option.bind_some]
        dsimp only
        rw [if_pos rfl, en, if_neg (by decide), x33]
        refine ⟨_, hp3 99 14, rfl, fun z => absurd z (by decide), fun _ => ⟨(ds T N s).1, ?_⟩⟩
        exact xx.trans (M1.fail 2 (nI s) h3.2.2.2.1)
      · have en : nf2 T N s g = 0 := by unfold nf2; rw [if_neg q, if_neg (by omega)]
        rw [ew, if_neg one_ne, en, if_pos rfl]
        exact ⟨hp3, 0, rfl, fun _ => xx, fun z => absurd rfl z⟩
theorem m_takes {T : Nat → Int32} {N : Nat} {hp : HP} {i : Nat} (h : MX T N hp i) (c : Int32) (hc : c ≠ -1) : ∃ hp', f_Mo_takes hp c = some (if ltr T N (sk T N i) = c then 1 else 0, hp') ∧ (ltr T N (sk T N i) = c → sk T N i < N ∧ M1 hp hp' (sk T N i + 1) (hp 99 14) (hp 99 15) (hp 99 16)) ∧ (ltr T N (sk T N i) ≠ c → M1 hp hp' (sk T N i) (hp 99 14) 1 (nI (sk T N i))) := by
  obtain ⟨s1, s2, s3⟩ := sk_spec T h.2.1
  obtain ⟨hp1, e1, x1, x13⟩ := m_here h
  have h1 := M1.mx h x1 s2
  unfold f_Mo_takes
  rw [e1, Option.bind_some]
  dsimp only
  by_cases q : ltr T N (sk T N i) = c
  · rw [if_pos q, if_pos q, h1.2.2.2.1, nI_s]
    refine ⟨_, rfl, fun _ => ⟨?_, ?_⟩, fun n => absurd q n⟩
    · unfold ltr at q
      by_cases z : sk T N i < N
      · exact z
      · rw [if_neg z] at q; exact absurd q.symm hc
    · have := x1.trans (M1.up12 hp1 (sk T N i + 1))
      rw [x1.2.2.2.1, x1.2.2.2.2.1, x1.2.2.2.2.2] at this
      exact this
  · rw [if_neg q, if_neg q]
    unfold f_Mo_fails
    rw [Option.bind_some]
    dsimp only
    rw [rz_0, x13]
    refine ⟨_, rfl, fun n => absurd n q, fun _ => ?_⟩
    have := x1.trans (M1.fail 1 (nI (sk T N i)) h1.2.2.2.1)
    rw [x1.2.2.2.1] at this
    exact this
end
section
/-! Class and reference read the same text, clause by clause. -/
def XF (q : Nat) (hx0 hx : HP) : Prop := (∀ c, c ≠ 1 → (c < q ∨ q + 5 < c) → hx c = hx0 c) ∧ hx 1 1 = hx0 1 1
def MF (hm0 hm : HP) : Prop := (∀ c, c ≠ 99 → c ≠ 107 → c ≠ 108 → c ≠ 109 → hm c = hm0 c) ∧ (∀ j, j < 12 ∨ j = 18 ∨ j = 20 ∨ 21 < j → hm 99 j = hm0 99 j)
def PR (T : Nat → Int32) (N q : Nat) (hx0 hm0 hx hm : HP) (i j P C Tn : Nat) : Prop :=
  (q = 87 ∨ q = 93) ∧
  (RX T N hx i) ∧
  (MX T N hm j) ∧
  (XF q hx0 hx) ∧
  (MF hm0 hm) ∧
  (hx 1 3 = 0) ∧
  (hx 1 2 = -1) ∧
  (hm 99 15 = 0) ∧
  (hm 99 16 = -1) ∧
  (P ≤ 8) ∧
  (C ≤ 5) ∧
  (Tn ≤ 6) ∧
  (P = 0 → Tn = 0) ∧
  (hx q 5 = nI P) ∧
  (hx q 6 = nI C) ∧
  (hx q 7 = nI Tn) ∧
  (hm 99 17 = nI P) ∧
  (hm 99 19 = nI C) ∧
  (hm 99 21 = nI Tn) ∧
  (∀ k, k < P → hx (q + 1) k = hm 107 k - 500 ∧ 0 ≤ (hm 107 k).toInt ∧ (hm 107 k).toInt ≤ 999) ∧
  (∀ c, c < C → (hx (q + 2) c = hm 108 (3 * c) - 500 ∧ hx (q + 3) c = hm 108 (3 * c + 1) ∧ hx (q + 4) c = hm 108 (3 * c + 2)) ∧ (0 ≤ (hm 108 (3 * c)).toInt ∧ (hm 108 (3 * c)).toInt ≤ 999) ∧ (0 ≤ (hm 108 (3 * c + 1)).toInt ∧ (hm 108 (3 * c + 1)).toInt ≤ 99) ∧ 0 ≤ (hm 108 (3 * c + 2)).toInt ∧ (hm 108 (3 * c + 2)).toInt ≤ 99) ∧
  (∀ t, t < Tn → hx (q + 5) t = hm 109 t ∧ ∃ n, n < 2 ^ P ∧ hm 109 t = nI n)
theorem PR.hq {T : Nat → Int32} {N q : Nat} {hx0 hm0 hx hm : HP} {i j P C Tn : Nat} (h : PR T N q hx0 hm0 hx hm i j P C Tn) : q = 87 ∨ q = 93 := h.1
theorem PR.rx {T : Nat → Int32} {N q : Nat} {hx0 hm0 hx hm : HP} {i j P C Tn : Nat} (h : PR T N q hx0 hm0 hx hm i j P C Tn) : RX T N hx i := h.2.1
theorem PR.mx {T : Nat → Int32} {N q : Nat} {hx0 hm0 hx hm : HP} {i j P C Tn : Nat} (h : PR T N q hx0 hm0 hx hm i j P C Tn) : MX T N hm j := h.2.2.1
theorem PR.xf {T : Nat → Int32} {N q : Nat} {hx0 hm0 hx hm : HP} {i j P C Tn : Nat} (h : PR T N q hx0 hm0 hx hm i j P C Tn) : XF q hx0 hx := h.2.2.2.1
theorem PR.mf {T : Nat → Int32} {N q : Nat} {hx0 hm0 hx hm : HP} {i j P C Tn : Nat} (h : PR T N q hx0 hm0 hx hm i j P C Tn) : MF hm0 hm := h.2.2.2.2.1
theorem PR.x3 {T : Nat → Int32} {N q : Nat} {hx0 hm0 hx hm : HP} {i j P C Tn : Nat} (h : PR T N q hx0 hm0 hx hm i j P C Tn) : hx 1 3 = 0 := h.2.2.2.2.2.1
theorem PR.x2 {T : Nat → Int32} {N q : Nat} {hx0 hm0 hx hm : HP} {i j P C Tn : Nat} (h : PR T N q hx0 hm0 hx hm i j P C Tn) : hx 1 2 = -1 := h.2.2.2.2.2.2.1
theorem PR.m5 {T : Nat → Int32} {N q : Nat} {hx0 hm0 hx hm : HP} {i j P C Tn : Nat} (h : PR T N q hx0 hm0 hx hm i j P C Tn) : hm 99 15 = 0 := h.2.2.2.2.2.2.2.1
theorem PR.m6 {T : Nat → Int32} {N q : Nat} {hx0 hm0 hx hm : HP} {i j P C Tn : Nat} (h : PR T N q hx0 hm0 hx hm i j P C Tn) : hm 99 16 = -1 := h.2.2.2.2.2.2.2.2.1
theorem PR.hP {T : Nat → Int32} {N q : Nat} {hx0 hm0 hx hm : HP} {i j P C Tn : Nat} (h : PR T N q hx0 hm0 hx hm i j P C Tn) : P ≤ 8 := h.2.2.2.2.2.2.2.2.2.1
theorem PR.hC {T : Nat → Int32} {N q : Nat} {hx0 hm0 hx hm : HP} {i j P C Tn : Nat} (h : PR T N q hx0 hm0 hx hm i j P C Tn) : C ≤ 5 := h.2.2.2.2.2.2.2.2.2.2.1
theorem PR.hT {T : Nat → Int32} {N q : Nat} {hx0 hm0 hx hm : HP} {i j P C Tn : Nat} (h : PR T N q hx0 hm0 hx hm i j P C Tn) : Tn ≤ 6 := h.2.2.2.2.2.2.2.2.2.2.2.1
theorem PR.p0 {T : Nat → Int32} {N q : Nat} {hx0 hm0 hx hm : HP} {i j P C Tn : Nat} (h : PR T N q hx0 hm0 hx hm i j P C Tn) : P = 0 → Tn = 0 := h.2.2.2.2.2.2.2.2.2.2.2.2.1
theorem PR.xP {T : Nat → Int32} {N q : Nat} {hx0 hm0 hx hm : HP} {i j P C Tn : Nat} (h : PR T N q hx0 hm0 hx hm i j P C Tn) : hx q 5 = nI P := h.2.2.2.2.2.2.2.2.2.2.2.2.2.1
theorem PR.xC {T : Nat → Int32} {N q : Nat} {hx0 hm0 hx hm : HP} {i j P C Tn : Nat} (h : PR T N q hx0 hm0 hx hm i j P C Tn) : hx q 6 = nI C := h.2.2.2.2.2.2.2.2.2.2.2.2.2.2.1
theorem PR.xT {T : Nat → Int32} {N q : Nat} {hx0 hm0 hx hm : HP} {i j P C Tn : Nat} (h : PR T N q hx0 hm0 hx hm i j P C Tn) : hx q 7 = nI Tn := h.2.2.2.2.2.2.2.2.2.2.2.2.2.2.2.1
theorem PR.mP {T : Nat → Int32} {N q : Nat} {hx0 hm0 hx hm : HP} {i j P C Tn : Nat} (h : PR T N q hx0 hm0 hx hm i j P C Tn) : hm 99 17 = nI P := h.2.2.2.2.2.2.2.2.2.2.2.2.2.2.2.2.1
theorem PR.mC {T : Nat → Int32} {N q : Nat} {hx0 hm0 hx hm : HP} {i j P C Tn : Nat} (h : PR T N q hx0 hm0 hx hm i j P C Tn) : hm 99 19 = nI C := h.2.2.2.2.2.2.2.2.2.2.2.2.2.2.2.2.2.1
theorem PR.mT {T : Nat → Int32} {N q : Nat} {hx0 hm0 hx hm : HP} {i j P C Tn : Nat} (h : PR T N q hx0 hm0 hx hm i j P C Tn) : hm 99 21 = nI Tn := h.2.2.2.2.2.2.2.2.2.2.2.2.2.2.2.2.2.2.1
theorem PR.pp {T : Nat → Int32} {N q : Nat} {hx0 hm0 hx hm : HP} {i j P C Tn : Nat} (h : PR T N q hx0 hm0 hx hm i j P C Tn) : ∀ k, k < P → hx (q + 1) k = hm 107 k - 500 ∧ 0 ≤ (hm 107 k).toInt ∧ (hm 107 k).toInt ≤ 999 := h.2.2.2.2.2.2.2.2.2.2.2.2.2.2.2.2.2.2.2.1
theorem PR.cc {T : Nat → Int32} {N q : Nat} {hx0 hm0 hx hm : HP} {i j P C Tn : Nat} (h : PR T N q hx0 hm0 hx hm i j P C Tn) : ∀ c, c < C → (hx (q + 2) c = hm 108 (3 * c) - 500 ∧ hx (q + 3) c = hm 108 (3 * c + 1) ∧ hx (q + 4) c = hm 108 (3 * c + 2)) ∧ (0 ≤ (hm 108 (3 * c)).toInt ∧ (hm 108 (3 * c)).toInt ≤ 999) ∧ (0 ≤ (hm 108 (3 * c + 1)).toInt ∧ (hm 108 (3 * c + 1)).toInt ≤ 99) ∧ 0 ≤ (hm 108 (3 * c + 2)).toInt ∧ (hm 108 (3 * c + 2)).toInt ≤ 99 := h.2.2.2.2.2.2.2.2.2.2.2.2.2.2.2.2.2.2.2.2.1
theorem PR.tt {T : Nat → Int32} {N q : Nat} {hx0 hm0 hx hm : HP} {i j P C Tn : Nat} (h : PR T N q hx0 hm0 hx hm i j P C Tn) : ∀ t, t < Tn → hx (q + 5) t = hm 109 t ∧ ∃ n, n < 2 ^ P ∧ hm 109 t = nI n := h.2.2.2.2.2.2.2.2.2.2.2.2.2.2.2.2.2.2.2.2.2
/-- the class with a fault: it goes on and keeps it -/
def XG (T : Nat → Int32) (N q : Nat) (hx0 : HP) (f p : Int32) (hx : HP) : Prop := (q = 87 ∨ q = 93) ∧ (∃ i, RX T N hx i) ∧ (hx 1 3 = f ∧ hx 1 2 = p) ∧ (∃ P C Tn, (P ≤ 8 ∧ C ≤ 5 ∧ Tn ≤ 6) ∧ hx q 5 = nI P ∧ hx q 6 = nI C ∧ hx q 7 = nI Tn) ∧ XF q hx0 hx
def FT (T : Nat → Int32) (N q : Nat) (hx0 hm0 hx hm : HP) : Prop := ∃ f p, f ≠ 0 ∧ XG T N q hx0 f p hx ∧ MF hm0 hm ∧ hm 99 15 = f ∧ hm 99 16 = p
theorem XF.x1 {q : Nat} {hx0 hx hx' : HP} {i : Nat} {f p : Int32} (h : XF q hx0 hx) (x : X1 hx hx' i f p) : XF q hx0 hx' :=
  ⟨fun c h1 h2 => by rw [x.1 c h1]; exact h.1 c h1 h2, by rw [x.2.1]; exact h.2⟩
theorem MF.m1 {hm0 hm hm' : HP} {j : Nat} {v f p : Int32} (h : MF hm0 hm) (x : M1 hm hm' j v f p) : MF hm0 hm' :=
  ⟨fun c h1 h2 h3 h4 => by rw [x.1 c h1]; exact h.1 c h1 h2 h3 h4, fun k hk => by rw [x.2.1 k (by omega) (by omega) (by omega) (by omega) (by omega)]; exact h.2 k hk⟩
theorem XG.x1 {T : Nat → Int32} {N q : Nat} {hx0 : HP} {f p : Int32} {hx hx' : HP} {i : Nat} (h : XG T N q hx0 f p hx) (x : X1 hx hx' i f p) (hi : i ≤ N) : XG T N q hx0 f p hx' := by
  obtain ⟨hq, ⟨i0, h1⟩, -, ⟨P, C, Tn, h3, h4, h5, h6⟩, h7⟩ := h
  refine ⟨hq, ⟨i, x.rx h1 hi⟩, ⟨x.2.2.2.1, x.2.2.2.2⟩, ⟨P, C, Tn, h3, ?_⟩, h7.x1 x⟩
  rw [x.1 q (by omega)]
  exact ⟨h4, h5, h6⟩
theorem PR.x1 {T : Nat → Int32} {N q : Nat} {hx0 hm0 hx hm hx' : HP} {i j P C Tn i' : Nat} (h : PR T N q hx0 hm0 hx hm i j P C Tn) (x : X1 hx hx' i' 0 (-1)) (hi : i' ≤ N) : PR T N q hx0 hm0 hx' hm i' j P C Tn := by
  have hq := h.hq
  have e : ∀ c, c ≠ 1 → hx' c = hx c := x.1
  exact ⟨h.hq, x.rx h.rx hi, h.mx, h.xf.x1 x, h.mf, x.2.2.2.1, x.2.2.2.2, h.m5, h.m6, h.hP, h.hC, h.hT, h.p0, by rw [e q (by omega)]; exact h.xP, by rw [e q (by omega)]; exact h.xC, by rw [e q (by omega)]; exact h.xT, h.mP, h.mC, h.mT, by rw [e (q + 1) (by omega)]; exact h.pp, by rw [e (q + 2) (by omega), e (q + 3) (by omega), e (q + 4) (by omega)]; exact h.cc, by rw [e (q + 5) (by omega)]; exact h.tt⟩
theorem PR.m1 {T : Nat → Int32} {N q : Nat} {hx0 hm0 hx hm hm' : HP} {i j P C Tn j' : Nat} {v : Int32} (h : PR T N q hx0 hm0 hx hm i j P C Tn) (x : M1 hm hm' j' v 0 (-1)) (hj : j' ≤ N) : PR T N q hx0 hm0 hx hm' i j' P C Tn := by
  have e : ∀ c, c ≠ 99 → hm' c = hm c := x.1
  have e9 : ∀ k, 16 < k → hm' 99 k = hm 99 k := fun k hk => x.2.1 k (by omega) (by omega) (by omega) (by omega) (by omega)
  exact ⟨h.hq, h.rx, x.mx h.mx hj, h.xf, h.mf.m1 x, h.x3, h.x2, x.2.2.2.2.1, x.2.2.2.2.2, h.hP, h.hC, h.hT, h.p0, h.xP, h.xC, h.xT, by rw [e9 17 (by omega)]; exact h.mP, by rw [e9 19 (by omega)]; exact h.mC, by rw [e9 21 (by omega)]; exact h.mT, by rw [e 107 (by omega)]; exact h.pp, by rw [e 108 (by omega)]; exact h.cc, by rw [e 109 (by omega)]; exact h.tt⟩
theorem PR.xg {T : Nat → Int32} {N q : Nat} {hx0 hm0 hx hm hx' : HP} {i j P C Tn i' : Nat} {f p : Int32} (h : PR T N q hx0 hm0 hx hm i j P C Tn) (x : X1 hx hx' i' f p) (hi : i' ≤ N) : XG T N q hx0 f p hx' := by
  refine ⟨h.hq, ⟨i', x.rx h.rx hi⟩, ⟨x.2.2.2.1, x.2.2.2.2⟩, ⟨P, C, Tn, ⟨h.hP, h.hC, h.hT⟩, ?_⟩, h.xf.x1 x⟩
  have hq := h.hq
  rw [x.1 q (by omega)]
  exact ⟨h.xP, h.xC, h.xT⟩
theorem fn_ne {f n : Int32} (h : f ≠ 0) : fn f n = f := by unfold fn; rw [if_neg h]
theorem fp_ne {f p n : Int32} (h : f ≠ 0) : fp f p n = p := by unfold fp; rw [if_neg h]
theorem fn_0 {n : Int32} : fn 0 n = n := rfl
theorem fp_0 {p n : Int32} : fp 0 p n = n := rfl
theorem g_num {T : Nat → Int32} {N q : Nat} {hx0 : HP} {f p : Int32} {hx : HP} (hf : f ≠ 0) (h : XG T N q hx0 f p hx) (g : Int32) : ∃ v hx', f_Re_readNumber hx g = some (v, hx') ∧ XG T N q hx0 f p hx' := by
  obtain ⟨i, hi⟩ := h.2.1
  obtain ⟨s1, s2, s3⟩ := sk_spec T hi.2.1
  obtain ⟨d1, d2, d3, d4, d5⟩ := ds_spec T s2
  obtain ⟨hx', e1, x1⟩ := x_num hi g
  refine ⟨_, hx', e1, h.x1 (i := (ds T N (sk T N i)).1) ?_ d2⟩
  rw [h.2.2.1.1, h.2.2.1.2, fn_ne hf, fp_ne hf, ite_self, ite_self] at x1
  exact x1
theorem g_skip {T : Nat → Int32} {N q : Nat} {hx0 : HP} {f p : Int32} {hx : HP} (h : XG T N q hx0 f p hx) : ∃ hx', f_Re_skipBlanks hx = some (0, hx') ∧ XG T N q hx0 f p hx' := by
  obtain ⟨i, hi⟩ := h.2.1
  obtain ⟨s1, s2, s3⟩ := sk_spec T hi.2.1
  obtain ⟨hx', e1, x1⟩ := x_skip hi
  rw [h.2.2.1.1, h.2.2.1.2] at x1
  exact ⟨hx', e1, h.x1 x1 s2⟩
theorem g_word {T : Nat → Int32} {N q : Nat} {hx0 : HP} {f p : Int32} {hx : HP} (hf : f ≠ 0) (h : XG T N q hx0 f p hx) (c : Int32) (hc : c ≠ -1) : ∃ hx', f_Re_readWord hx c = some (0, hx') ∧ XG T N q hx0 f p hx' := by
  obtain ⟨i, hi⟩ := h.2.1
  obtain ⟨s1, s2, s3⟩ := sk_spec T hi.2.1
  obtain ⟨hx', e1, x1, x2⟩ := x_word hi c hc
  rw [h.2.2.1.1, h.2.2.1.2] at x1
  rw [h.2.2.1.1, h.2.2.1.2, fn_ne hf, fp_ne hf] at x2
  refine ⟨hx', e1, ?_⟩
  by_cases z : ltr T N (sk T N i) = c
  · exact h.x1 (x1 z).2 (x1 z).1
  · exact h.x1 (x2 z) s2
theorem up_ne {hp : HP} {k j : Nat} {v : Int32} {c : Nat} (h : c ≠ k) : up hp k j v c = hp c := by rw [up_ap, if_neg h]
theorem up_eq (hp : HP) (k j : Nat) (v : Int32) : up hp k j v k = upd (hp k) j v := by rw [up_ap, if_pos rfl]
theorem upd_ne {f : Nat → Int32} {k : Nat} {x : Int32} {j : Nat} (h : j ≠ k) : upd f k x j = f j := by rw [upd_ap, if_neg h]
theorem upd_eq (f : Nat → Int32) (k : Nat) (x : Int32) : upd f k x k = x := by rw [upd_ap, if_pos rfl]
/-- a heap that differs only in the branch's own cells -/
theorem XF.br {q : Nat} {hx0 hx hx' : HP} (hq : q = 87 ∨ q = 93) (h : XF q hx0 hx) (e : ∀ c, c < q ∨ q + 5 < c → hx' c = hx c) : XF q hx0 hx' :=
  ⟨fun c h1 h2 => by rw [e c h2]; exact h.1 c h1 h2, by rw [e 1 (by omega)]; exact h.2⟩
theorem RX.br {T : Nat → Int32} {N q i : Nat} {hx hx' : HP} (hq : q = 87 ∨ q = 93) (h : RX T N hx i) (e : ∀ c, c < q ∨ q + 5 < c → hx' c = hx c) : RX T N hx' i := by
  unfold RX
  rw [e 1 (by omega), e 2 (by omega)]
  exact h
theorem XG.br {T : Nat → Int32} {N q : Nat} {hx0 : HP} {f p : Int32} {hx hx' : HP} (h : XG T N q hx0 f p hx) (e : ∀ c, c < q ∨ q + 5 < c → hx' c = hx c) (k : ∃ P C Tn, (P ≤ 8 ∧ C ≤ 5 ∧ Tn ≤ 6) ∧ hx' q 5 = nI P ∧ hx' q 6 = nI C ∧ hx' q 7 = nI Tn) : XG T N q hx0 f p hx' := by
  obtain ⟨hq, ⟨i, h1⟩, h2, -, h4⟩ := h
  exact ⟨hq, ⟨i, h1.br hq e⟩, by rw [e 1 (by omega)]; exact h2, k, h4.br hq e⟩
/-- a part is written -/
theorem x_addPart {q : Nat} {hx : HP} {P : Nat} (a : Int32) (hP : P < 8) (e : hx q 5 = nI P) : f_Br_addPart hx q a = some (0, up (up hx (q + 1) P (a - 500)) q 5 (nI (P + 1))) := by
  unfold f_Br_addPart
  rw [e, if_neg (by exact n_nle 8 P hP (by omega)), if_pos (inb_n hP (by omega)), cl_n (by omega)]
  simp only [up_ne (show q ≠ q + 1 by omega), e, nI_s]
theorem x_addTask {q : Nat} {hx : HP} {P : Nat} (a : Int32) (hP : P < 6) (e : hx q 7 = nI P) : f_Br_addTask hx q a = some (0, up (up hx (q + 5) P a) q 7 (nI (P + 1))) := by
  unfold f_Br_addTask
  rw [e, if_neg (by exact n_nle 6 P hP (by omega)), if_pos (inb_n hP (by omega)), cl_n (by omega)]
  simp only [up_ne (show q ≠ q + 5 by omega), e, nI_s]
theorem x_addCustomer {q : Nat} {hx : HP} {P : Nat} (a b c : Int32) (hP : P < 5) (e : hx q 6 = nI P) : f_Br_addCustomer hx q a b c = some (0, up (up (up (up hx (q + 2) P (a - 500)) (q + 3) P b) (q + 4) P c) q 6 (nI (P + 1))) := by
  unfold f_Br_addCustomer
  simp only [up_ne (show q ≠ q + 2 by omega), up_ne (show q ≠ q + 3 by omega), up_ne (show q ≠ q + 4 by omega), e, nI_s]
  rw [if_neg (by exact n_nle 5 P hP (by omega)), if_pos (inb_n hP (by omega)), if_pos (inb_n hP (by omega)), if_pos (inb_n hP (by omega)), cl_n (by omega)]
theorem g_addPart {T : Nat → Int32} {N q : Nat} {hx0 : HP} {f p : Int32} {hx : HP} (h : XG T N q hx0 f p hx) (a : Int32) : ∃ hx', f_Br_addPart hx q a = some (0, hx') ∧ XG T N q hx0 f p hx' := by
  obtain ⟨P, C, Tn, ⟨k1, k2, k3⟩, k4, k5, k6⟩ := h.2.2.2.1
  by_cases z : P < 8
  · refine ⟨_, x_addPart a z k4, h.br (fun c hc => by rw [up_ne (by omega), up_ne (by omega)]) ⟨P + 1, C, Tn, by omega, ?_, ?_, ?_⟩⟩
    · rw [up_eq, upd_eq]
    · rw [up_eq, upd_ne (by omega), up_ne (by omega)]; exact k5
    · rw [up_eq, upd_ne (by omega), up_ne (by omega)]; exact k6
  · refine ⟨hx, ?_, h⟩
    unfold f_Br_addPart
    rw [if_pos (by rw [k4]; exact n_le 8 P (by omega) (by omega))]
theorem g_addTask {T : Nat → Int32} {N q : Nat} {hx0 : HP} {f p : Int32} {hx : HP} (h : XG T N q hx0 f p hx) (a : Int32) : ∃ hx', f_Br_addTask hx q a = some (0, hx') ∧ XG T N q hx0 f p hx' := by
  obtain ⟨P, C, Tn, ⟨k1, k2, k3⟩, k4, k5, k6⟩ := h.2.2.2.1
  by_cases z : Tn < 6
  · refine ⟨_, x_addTask a z k6, h.br (fun c hc => by rw [up_ne (by omega), up_ne (by omega)]) ⟨P, C, Tn + 1, by omega, ?_, ?_, ?_⟩⟩
    · rw [up_eq, upd_ne (by omega), up_ne (by omega)]; exact k4
    · rw [up_eq, upd_ne (by omega), up_ne (by omega)]; exact k5
    · rw [up_eq, upd_eq]
  · refine ⟨hx, ?_, h⟩
    unfold f_Br_addTask
    rw [if_pos (by rw [k6]; exact n_le 6 Tn (by omega) (by omega))]
theorem g_addCustomer {T : Nat → Int32} {N q : Nat} {hx0 : HP} {f p : Int32} {hx : HP} (h : XG T N q hx0 f p hx) (a b c : Int32) : ∃ hx', f_Br_addCustomer hx q a b c = some (0, hx') ∧ XG T N q hx0 f p hx' := by
  obtain ⟨P, C, Tn, ⟨k1, k2, k3⟩, k4, k5, k6⟩ := h.2.2.2.1
  by_cases z : C < 5
  · refine ⟨_, x_addCustomer a b c z k5, h.br (fun c hc => by rw [up_ne (by omega), up_ne (by omega), up_ne (by omega), up_ne (by omega)]) ⟨P, C + 1, Tn, by omega, ?_, ?_, ?_⟩⟩
    · rw [up_eq, upd_ne (by omega), up_ne (by omega), up_ne (by omega), up_ne (by omega)]; exact k4
    · rw [up_eq, upd_eq]
    · rw [up_eq, upd_ne (by omega), up_ne (by omega), up_ne (by omega), up_ne (by omega)]; exact k6
  · refine ⟨hx, ?_, h⟩
    unfold f_Br_addCustomer
    rw [if_pos (by rw [k5]; exact n_le 5 C (by omega) (by omega))]
theorem p_num {T : Nat → Int32} {N q : Nat} {hx0 hm0 hx hm : HP} {i P C Tn : Nat} (h : PR T N q hx0 hm0 hx hm i i P C Tn) {g : Int32} (hg : 0 ≤ g.toInt) : ∃ v hx' r hm', f_Re_readNumber hx g = some (v, hx') ∧ f_Mo_takesNumber hm 0 g = some (r, hm') ∧ ((r = 1 ∧ ∃ i', i ≤ i' ∧ PR T N q hx0 hm0 hx' hm' i' i' P C Tn ∧ hm' 99 14 = v ∧ 0 ≤ v.toInt ∧ v.toInt ≤ g.toInt ∧ ∀ c, c ≠ 99 → hm' c = hm c) ∨ (r = 0 ∧ FT T N q hx0 hm0 hx' hm')) := by
  obtain ⟨s1, s2, s3⟩ := sk_spec T h.rx.2.1
  obtain ⟨d1, d2, d3, d4, d5⟩ := ds_spec T s2
  obtain ⟨hx', e1, x1⟩ := x_num h.rx g
  obtain ⟨hm', v', e2, y1, y2⟩ := m_num h.mx hg
  refine ⟨_, hx', _, hm', e1, e2, ?_⟩
  rw [h.x3, h.x2, fn_0, fp_0] at x1
  rw [h.m5, h.m6] at y1
  by_cases z : nf2 T N (sk T N i) g = 0
  · rw [if_pos z, if_pos z] at x1
    rw [if_pos z]
    refine Or.inl ⟨rfl, _, by omega, (h.x1 x1 d2).m1 (y1 z) d2, (y1 z).2.2.2.1, d3, ?_, (y1 z).1⟩
    unfold nf2 at z
    by_cases z1 : dg (ltr T N (sk T N i)) = false
    · rw [if_pos z1] at z; exact absurd z one_ne
    · rw [if_neg z1] at z
      by_cases z2 : 3 < (ds T N (sk T N i)).1 - sk T N i ∨ g.toInt < (ds T N (sk T N i)).2.toInt
      · rw [if_pos z2] at z; exact absurd z (by decide)
      · omega
  · rw [if_neg z, if_neg z] at x1
    rw [if_neg z]
    obtain ⟨j, y⟩ := y2 z
    exact Or.inr ⟨rfl, _, _, z, h.xg x1 d2, h.mf.m1 y, y.2.2.2.2.1, y.2.2.2.2.2⟩
theorem p_word {T : Nat → Int32} {N q : Nat} {hx0 hm0 hx hm : HP} {i P C Tn : Nat} (h : PR T N q hx0 hm0 hx hm i i P C Tn) (c : Int32) (hc : c ≠ -1) : ∃ hx' r hm', f_Re_readWord hx c = some (0, hx') ∧ f_Mo_takes hm c = some (r, hm') ∧ ((r = 1 ∧ ∃ i', i < i' ∧ PR T N q hx0 hm0 hx' hm' i' i' P C Tn) ∨ (r = 0 ∧ FT T N q hx0 hm0 hx' hm')) := by
  obtain ⟨s1, s2, s3⟩ := sk_spec T h.rx.2.1
  obtain ⟨hx', e1, x1, x2⟩ := x_word h.rx c hc
  obtain ⟨hm', e2, y1, y2⟩ := m_takes h.mx c hc
  refine ⟨hx', _, hm', e1, e2, ?_⟩
  rw [h.x3, h.x2] at x1
  rw [h.x3, h.x2, fn_0, fp_0] at x2
  rw [h.m5, h.m6] at y1
  by_cases z : ltr T N (sk T N i) = c
  · rw [if_pos z]
    exact Or.inl ⟨rfl, _, by omega, (h.x1 (x1 z).2 (x1 z).1).m1 (y1 z).2 (y1 z).1⟩
  · rw [if_neg z]
    exact Or.inr ⟨rfl, _, _, one_ne, h.xg (x2 z) s2, h.mf.m1 (y2 z), (y2 z).2.2.2.2.1, (y2 z).2.2.2.2.2⟩
theorem p_skip {T : Nat → Int32} {N q : Nat} {hx0 hm0 hx hm : HP} {i j P C Tn : Nat} (h : PR T N q hx0 hm0 hx hm i j P C Tn) : ∃ hx', f_Re_skipBlanks hx = some (0, hx') ∧ PR T N q hx0 hm0 hx' hm (sk T N i) j P C Tn := by
  obtain ⟨s1, s2, s3⟩ := sk_spec T h.rx.2.1
  obtain ⟨hx', e1, x1⟩ := x_skip h.rx
  rw [h.x3, h.x2] at x1
  exact ⟨hx', e1, h.x1 x1 s2⟩
theorem p_here {T : Nat → Int32} {N q : Nat} {hx0 hm0 hx hm : HP} {i j P C Tn : Nat} (h : PR T N q hx0 hm0 hx hm i j P C Tn) : ∃ hm', f_Mo_here hm = some (ltr T N (sk T N j), hm') ∧ PR T N q hx0 hm0 hx hm' i (sk T N j) P C Tn ∧ hm' 99 13 = nI (sk T N j) := by
  obtain ⟨s1, s2, s3⟩ := sk_spec T h.mx.2.1
  obtain ⟨hm', e1, x1, x13⟩ := m_here h.mx
  rw [h.m5, h.m6] at x1
  exact ⟨hm', e1, h.m1 x1 s2, x13⟩
theorem p_fail {T : Nat → Int32} {N q : Nat} {hx0 hm0 hx hm : HP} {i j P C Tn : Nat} (h : PR T N q hx0 hm0 hx hm i j P C Tn) (h13 : hm 99 13 = nI i) {n : Int32} (hn : n ≠ 0) : ∃ hx' hm', f_Re_fail hx n (hx 1 4) = some (0, hx') ∧ f_Mo_fails hm n (hm 99 13) = some (0, hm') ∧ FT T N q hx0 hm0 hx' hm' := by
  obtain ⟨hx', e1, x1⟩ := x_fail hx n (hx 1 4) h.rx.2.2.2.1
  rw [h.x3, h.x2, fn_0, fp_0] at x1
  have y := M1.fail n (hm 99 13) h.mx.2.2.2.1
  refine ⟨hx', _, e1, rfl, n, _, hn, h.xg x1 h.rx.2.1, h.mf.m1 y, rfl, ?_⟩
  rw [h.rx.2.2.2.1, ← h13]
  rfl
theorem p_step {T : Nat → Int32} {N q : Nat} {hx0 hm0 hx hm : HP} {i P C Tn : Nat} (h : PR T N q hx0 hm0 hx hm i i P C Tn) (hi : i < N) : PR T N q hx0 hm0 (up hx 1 4 (hx 1 4 + 1)) (up hm 99 12 (hm 99 12 + 1)) (i + 1) (i + 1) P C Tn := by
  have x := X1.up4 hx (i + 1)
  have y := M1.up12 hm (i + 1)
  rw [h.x3, h.x2] at x
  rw [h.m5, h.m6] at y
  rw [h.rx.2.2.2.1, h.mx.2.2.2.1, nI_s]
  exact (h.x1 x hi).m1 y hi
end
section
theorem MX.of {T : Nat → Int32} {N j : Nat} {hm hm' : HP} (h : MX T N hm j) (e1 : hm' 99 11 = hm 99 11) (e2 : hm' 99 12 = hm 99 12) (e3 : hm' 106 = hm 106) : MX T N hm' j :=
  ⟨h.1, h.2.1, by rw [e1]; exact h.2.2.1, by rw [e2]; exact h.2.2.2.1, by rw [e3]; exact h.2.2.2.2⟩
theorem p_addPart {T : Nat → Int32} {N q : Nat} {hx0 hm0 hx hm : HP} {i j P C Tn : Nat} (h : PR T N q hx0 hm0 hx hm i j P C Tn) {v : Int32} (v0 : 0 ≤ v.toInt) (v9 : v.toInt ≤ 999) (hP : P < 8) (t0 : Tn = 0) : PR T N q hx0 hm0 (up (up hx (q + 1) P (v - 500)) q 5 (nI (P + 1))) (up (up hm 107 P v) 99 17 (nI (P + 1))) i j (P + 1) C Tn := by
  have hq := h.hq
  refine ⟨hq, h.rx.br hq (fun c hc => by rw [up_ne (by omega), up_ne (by omega)]), h.mx.of rfl rfl rfl, h.xf.br hq (fun c hc => by rw [up_ne (by omega), up_ne (by omega)]), ⟨fun c a1 a2 a3 a4 => by rw [up_ne a1, up_ne a2]; exact h.mf.1 c a1 a2 a3 a4, fun k hk => by rw [up_eq, upd_ne (by omega), up_ne (by omega)]; exact h.mf.2 k hk⟩, ?_, ?_, h.m5, h.m6, by omega, h.hC, h.hT, by omega, ?_, ?_, ?_, rfl, h.mC, h.mT, ?_, ?_, ?_⟩
  · rw [up_ne (by omega), up_ne (by omega)]; exact h.x3
  · rw [up_ne (by omega), up_ne (by omega)]; exact h.x2
  · rw [up_eq, upd_eq]
  · rw [up_eq, upd_ne (by omega), up_ne (by omega)]; exact h.xC
  · rw [up_eq, upd_ne (by omega), up_ne (by omega)]; exact h.xT
  · intro k hk
    rw [up_ne (by omega), up_eq, up_ne (by omega), up_eq]
    by_cases z : k = P
    · subst z
      rw [upd_eq, upd_eq]
      exact ⟨rfl, v0, v9⟩
    · rw [upd_ne z, upd_ne z]
      exact h.pp k (by omega)
  · rw [up_ne (by omega), up_ne (by omega), up_ne (by omega), up_ne (by omega), up_ne (by omega), up_ne (by omega), up_ne (by omega), up_ne (by omega)]
    exact h.cc
  · intro t ht
    omega
theorem p_addTask {T : Nat → Int32} {N q : Nat} {hx0 hm0 hx hm : HP} {i j P C Tn : Nat} (h : PR T N q hx0 hm0 hx hm i j P C Tn) {v : Int32} {n : Nat} (hn : n < 2 ^ P) (hv : v = nI n) (hT : Tn < 6) (hP : 1 ≤ P) : PR T N q hx0 hm0 (up (up hx (q + 5) Tn v) q 7 (nI (Tn + 1))) (up (up hm 109 Tn v) 99 21 (nI (Tn + 1))) i j P C (Tn + 1) := by
  have hq := h.hq
  refine ⟨hq, h.rx.br hq (fun c hc => by rw [up_ne (by omega), up_ne (by omega)]), h.mx.of rfl rfl rfl, h.xf.br hq (fun c hc => by rw [up_ne (by omega), up_ne (by omega)]), ⟨fun c a1 a2 a3 a4 => by rw [up_ne a1, up_ne a4]; exact h.mf.1 c a1 a2 a3 a4, fun k hk => by rw [up_eq, upd_ne (by omega), up_ne (by omega)]; exact h.mf.2 k hk⟩, ?_, ?_, h.m5, h.m6, h.hP, h.hC, by omega, by omega, ?_, ?_, ?_, h.mP, h.mC, rfl, ?_, ?_, ?_⟩
  · rw [up_ne (by omega), up_ne (by omega)]; exact h.x3
  · rw [up_ne (by omega), up_ne (by omega)]; exact h.x2
  · rw [up_eq, upd_ne (by omega), up_ne (by omega)]; exact h.xP
  · rw [up_eq, upd_ne (by omega), up_ne (by omega)]; exact h.xC
  · rw [up_eq, upd_eq]
  · rw [up_ne (by omega), up_ne (by omega), up_ne (by omega), up_ne (by omega)]
    exact h.pp
  · rw [up_ne (by omega), up_ne (by omega), up_ne (by omega), up_ne (by omega), up_ne (by omega), up_ne (by omega), up_ne (by omega), up_ne (by omega)]
    exact h.cc
  · intro k hk
    rw [up_ne (by omega), up_eq, up_ne (by omega), up_eq]
    by_cases z : k = Tn
    · subst z
      rw [upd_eq, upd_eq]
      exact ⟨rfl, n, hn, hv⟩
    · rw [upd_ne z, upd_ne z]
      exact h.tt k (by omega)
theorem p_put {T : Nat → Int32} {N q : Nat} {hx0 hm0 hx hm : HP} {i j P C Tn k : Nat} (h : PR T N q hx0 hm0 hx hm i j P C Tn) (v : Int32) (hk : 3 * C ≤ k) : PR T N q hx0 hm0 hx (up hm 108 k v) i j P C Tn := by
  refine ⟨h.hq, h.rx, h.mx.of rfl rfl rfl, h.xf, ⟨fun c a1 a2 a3 a4 => by rw [up_ne a3]; exact h.mf.1 c a1 a2 a3 a4, fun k hk => by rw [up_ne (by omega)]; exact h.mf.2 k hk⟩, h.x3, h.x2, h.m5, h.m6, h.hP, h.hC, h.hT, h.p0, h.xP, h.xC, h.xT, h.mP, h.mC, h.mT, ?_, ?_, ?_⟩
  · rw [up_ne (by omega)]; exact h.pp
  · intro c hc
    rw [up_eq, upd_ne (by omega), upd_ne (by omega), upd_ne (by omega)]
    exact h.cc c hc
  · rw [up_ne (by omega)]; exact h.tt
theorem p_addCustomer {T : Nat → Int32} {N q : Nat} {hx0 hm0 hx hm : HP} {i j P C Tn : Nat} (h : PR T N q hx0 hm0 hx hm i j P C Tn) {a b c : Int32} (ea : hm 108 (3 * C) = a) (eb : hm 108 (3 * C + 1) = b) (ec : hm 108 (3 * C + 2) = c) (ha : 0 ≤ a.toInt ∧ a.toInt ≤ 999) (hb : 0 ≤ b.toInt ∧ b.toInt ≤ 99) (hc : 0 ≤ c.toInt ∧ c.toInt ≤ 99) (hC : C < 5) : PR T N q hx0 hm0 (up (up (up (up hx (q + 2) C (a - 500)) (q + 3) C b) (q + 4) C c) q 6 (nI (C + 1))) (up hm 99 19 (nI (C + 1))) i j P (C + 1) Tn := by
  have hq := h.hq
  have e : ∀ d, d < q ∨ q + 5 < d → up (up (up (up hx (q + 2) C (a - 500)) (q + 3) C b) (q + 4) C c) q 6 (nI (C + 1)) d = hx d := fun d hd => by rw [up_ne (by omega), up_ne (by omega), up_ne (by omega), up_ne (by omega)]
  refine ⟨hq, h.rx.br hq e, h.mx.of rfl rfl rfl, h.xf.br hq e, ⟨fun c a1 a2 a3 a4 => by rw [up_ne a1]; exact h.mf.1 c a1 a2 a3 a4, fun k hk => by rw [up_eq, upd_ne (by omega)]; exact h.mf.2 k hk⟩, ?_, ?_, h.m5, h.m6, h.hP, by omega, h.hT, h.p0, ?_, ?_, ?_, h.mP, rfl, h.mT, ?_, ?_, ?_⟩
  · rw [e 1 (by omega)]; exact h.x3
  · rw [e 1 (by omega)]; exact h.x2
  · rw [up_eq, upd_ne (by omega), up_ne (by omega), up_ne (by omega), up_ne (by omega)]; exact h.xP
  · rw [up_eq, upd_eq]
  · rw [up_eq, upd_ne (by omega), up_ne (by omega), up_ne (by omega), up_ne (by omega)]; exact h.xT
  · rw [up_ne (by omega), up_ne (by omega), up_ne (by omega), up_ne (by omega), up_ne (by omega)]
    exact h.pp
  · intro k hk
    rw [up_ne (show q + 2 ≠ q by omega), up_ne (show q + 2 ≠ q + 4 by omega), up_ne (show q + 2 ≠ q + 3 by omega), up_eq, up_ne (show q + 3 ≠ q by omega), up_ne (show q + 3 ≠ q + 4 by omega), up_eq, up_ne (show q + 4 ≠ q by omega), up_eq, up_ne (show q + 3 ≠ q + 2 by omega), up_ne (show q + 4 ≠ q + 3 by omega), up_ne (show q + 4 ≠ q + 2 by omega), up_ne (show 108 ≠ 99 by omega)]
    by_cases z : k = C
    · subst z
      rw [upd_eq, upd_eq, upd_eq, ea, eb, ec]
      exact ⟨⟨rfl, rfl, rfl⟩, ha, hb, hc⟩
    · rw [upd_ne z, upd_ne z, upd_ne z]
      exact h.cc k (by omega)
  · rw [up_ne (by omega), up_ne (by omega), up_ne (by omega), up_ne (by omega), up_ne (by omega)]
    exact h.tt
theorem sk_idd {T : Nat → Int32} {N i : Nat} (h : ltr T N i ≠ 32) : sk T N i = i := by
  unfold sk
  cases N - i with
  | zero => rfl
  | succ d => unfold skf; rw [if_neg h]
theorem ltr_lt {T : Nat → Int32} {N i : Nat} {c : Int32} (h : ltr T N i = c) (hc : c ≠ -1) : i < N := by
  unfold ltr at h
  by_cases z : i < N
  · exact z
  · rw [if_neg z] at h; exact absurd h.symm hc
/-- the end of a clause -/
def fw (x : Option (Int32 × HP)) : Option (Int32 × HP) := x.bind fun p10 => if p10.1 = 0 then some ((0 : Int32), p10.2) else ((f_Mo_takes p10.2 (59 : Int32)).bind fun p13 => if p13.1 = 0 then some ((0 : Int32), p13.2) else some ((1 : Int32), p13.2))
theorem fw_0 (hm : HP) : fw (some (0, hm)) = some (0, hm) := by
  unfold fw
  rw [Option.bind_some]
  dsimp only
  rw [if_pos rfl]
def OC (T : Nat → Int32) (N q : Nat) (hx0 hm0 : HP) (i : Nat) (x y : Option (Int32 × HP)) : Prop := ∃ hx' r hm', x = some (0, hx') ∧ y = some (r, hm') ∧ ((r = 1 ∧ ∃ i' P' C' T', i < i' ∧ PR T N q hx0 hm0 hx' hm' i' i' P' C' T') ∨ (r = 0 ∧ FT T N q hx0 hm0 hx' hm'))
theorem w_end {T : Nat → Int32} {N q : Nat} {hx0 hm0 hx hm : HP} {i i0 P C Tn : Nat} (h : PR T N q hx0 hm0 hx hm i i P C Tn) (hi : i0 ≤ i) : OC T N q hx0 hm0 i0 ((f_Re_readWord hx 59).bind fun p20 => some (0, p20.2)) (fw (some (1, hm))) := by
  obtain ⟨hx', r, hm', e1, e2, e3⟩ := p_word h 59 (by decide)
  unfold fw
  rw [e1, Option.bind_some, Option.bind_some]
  dsimp only
  rw [if_neg one_ne, e2, Option.bind_some]
  dsimp only
  rcases e3 with ⟨rfl, i', h1, h2⟩ | ⟨rfl, h1⟩
  · rw [if_neg one_ne]
    exact ⟨_, _, _, rfl, rfl, Or.inl ⟨rfl, i', _, _, _, by omega, h2⟩⟩
  · rw [if_pos rfl]
    exact ⟨_, _, _, rfl, rfl, Or.inr ⟨rfl, h1⟩⟩
theorem f_end {T : Nat → Int32} {N q : Nat} {hx0 hm0 hx hm : HP} {i0 : Nat} (h : FT T N q hx0 hm0 hx hm) : OC T N q hx0 hm0 i0 ((f_Re_readWord hx 59).bind fun p20 => some (0, p20.2)) (fw (some (0, hm))) := by
  obtain ⟨f, p, h1, h2, h3⟩ := h
  obtain ⟨hx', e1, e2⟩ := g_word h1 h2 59 (by decide)
  rw [e1, fw_0, Option.bind_some]
  exact ⟨_, _, _, rfl, rfl, Or.inr ⟨rfl, f, p, h1, e2, h3⟩⟩
def cpt (q n : Nat) (hx : HP) (x : Int32) : Option (Int32 × HP) := (f_Re_readNumber hx (999 : Int32)).bind fun p2 => ((f_Br_addPart p2.2 q p2.1).bind fun p4 => ((f_Re_skipBlanks p4.2).bind fun p6 => f_Re_readParts_L17 q (fun hp18 => ((f_Re_readWord hp18 (59 : Int32)).bind fun p20 => some (0, p20.2))) n p6.2 x))
theorem cpt_L (q n : Nat) (hx : HP) (x : Int32) : f_Re_readParts_L17 q (fun hp18 => ((f_Re_readWord hp18 (59 : Int32)).bind fun p20 => some (0, p20.2))) (n + 1) hx x = if (8 : Int32) ≤ x then ((f_Re_readWord hx (59 : Int32)).bind fun p20 => some (0, p20.2)) else if (hx 1 3) = 0 then ((f_Re_letter hx).bind fun p10 => if p10.1 = (44 : Int32) then cpt q n (up p10.2 1 4 ((p10.2 1 4) + (1 : Int32))) (x + 1) else ((f_Re_readWord p10.2 (59 : Int32)).bind fun p20 => some (0, p20.2))) else ((f_Re_readWord hx (59 : Int32)).bind fun p20 => some (0, p20.2)) := by
  rw [f_Re_readParts_L17]
  rfl
theorem g_parts {T : Nat → Int32} {N q : Nat} {hx0 hm0 hx hm : HP} {i0 : Nat} (h : FT T N q hx0 hm0 hx hm) (v x : Int32) (n : Nat) : OC T N q hx0 hm0 i0 ((f_Br_addPart hx q v).bind fun p4 => ((f_Re_skipBlanks p4.2).bind fun p6 => f_Re_readParts_L17 q (fun hp18 => ((f_Re_readWord hp18 (59 : Int32)).bind fun p20 => some (0, p20.2))) (n + 1) p6.2 x)) (fw (some (0, hm))) := by
  obtain ⟨f, p, h1, h2, h3⟩ := h
  obtain ⟨hx1, e1, g1⟩ := g_addPart h2 v
  obtain ⟨hx2, e2, g2⟩ := g_skip g1
  rw [e1, Option.bind_some]
  dsimp only
  rw [e2, Option.bind_some]
  dsimp only
  rw [cpt_L, if_neg (show ¬ hx2 1 3 = 0 by rw [g2.2.2.1.1]; exact h1), ite_self]
  exact f_end ⟨f, p, h1, g2, h3⟩
theorem p_partsL {T : Nat → Int32} {N q : Nat} {hx0 hm0 : HP} {C Tn i0 : Nat} (t0 : Tn = 0) : ∀ d n m hx hm i P, 8 - P ≤ d → d < n → d < m → P < 8 → i0 ≤ i → PR T N q hx0 hm0 hx hm i i P C Tn → OC T N q hx0 hm0 i0 (cpt q n hx (nI (P + 1))) (fw (f_Mo_takesBranch_L2 (fun hp16 => some ((1 : Int32), hp16)) m hm 1)) := by
  intro d
  induction d with
  | zero => intro n m hx hm i P hd hn hm' hP hi h; omega
  | succ d ih =>
    intro n m hx hm i P hd hn hmm hP hi h
    obtain ⟨n, rfl⟩ : ∃ k, n = k + 1 := ⟨n - 1, by omega⟩
    obtain ⟨m, rfl⟩ : ∃ k, m = k + 1 := ⟨m - 1, by omega⟩
    rw [f_Mo_takesBranch_L2, if_neg one_ne]
    unfold cpt
    obtain ⟨v, hx1, r, hm1, e1, e2, e3⟩ := p_num h (g := 999) (by decide)
    rw [e1, e2, Option.bind_some, Option.bind_some]
    dsimp only
    rcases e3 with ⟨rfl, i1, hi1, h1, ev, v0, v9, -⟩ | ⟨rfl, h1⟩
    · have q1 := h1.hq
      have em : up hm1 107 P v 99 17 = nI P := h1.mP
      rw [if_neg one_ne, if_pos (show inb (hm1 99 17) 8 = true by rw [h1.mP]; exact inb_n hP (by omega))]
      simp only [h1.mP, cl_n (show P < 2 ^ 31 by omega), ev]
      simp only [em, nI_s]
      rw [x_addPart v hP h1.xP, Option.bind_some]
      dsimp only
      have h2 := p_addPart h1 v0 (by exact v9) hP t0
      obtain ⟨hx3, e4, h3⟩ := p_skip h2
      obtain ⟨hm3, e5, h4, e13⟩ := p_here h3
      rw [e4, e5, Option.bind_some, Option.bind_some]
      dsimp only
      obtain ⟨s1, s2, s3⟩ := sk_spec T h1.rx.2.1
      generalize sk T N i1 = i2 at *
      rw [cpt_L, h4.x3, if_pos rfl, x_letter h4.rx, Option.bind_some]
      dsimp only
      by_cases c : ltr T N i2 = 44
      · rw [if_pos c, if_pos c]
        by_cases c8 : P = 7
        · subst c8
          rw [if_pos (show (8 : Int32) ≤ nI (7 + 1) by decide), if_pos (show hm3 99 17 = (8 : Int32) by rw [h4.mP]; decide)]
          unfold f_Mo_fails
          rw [Option.bind_some]
          dsimp only
          rw [rz_0, fw_0]
          obtain ⟨hx', g1, g2, g3⟩ := x_word h4.rx 59 (by decide)
          have sid := sk_idd (T := T) (N := N) (i := i2) (by rw [c]; decide)
          rw [sid] at g3
          have g4 := g3 (by rw [c]; decide)
          rw [h4.x3, h4.x2, fn_0, fp_0] at g4
          have y := M1.fail 1 (hm3 99 13) h4.mx.2.2.2.1
          rw [g1, Option.bind_some]
          refine ⟨_, _, _, rfl, rfl, Or.inr ⟨rfl, 1, nI i2, one_ne, h4.xg g4 s2, h4.mf.m1 y, rfl, ?_⟩⟩
          exact e13
        · rw [if_neg (by exact n_nle 8 (P + 1) (by omega) (by omega)), if_neg (show ¬ hm3 99 17 = (8 : Int32) by rw [h4.mP]; exact n_ne (P + 1) 8 (by omega) (by omega) (by omega)), nI_s]
          exact ih n m _ _ (i2 + 1) (P + 1) (by omega) (by omega) (by omega) (by omega) (by omega) (p_step h4 (ltr_lt c (by decide)))
      · rw [if_neg c, if_neg c]
        obtain ⟨m, rfl⟩ : ∃ k, m = k + 1 := ⟨m - 1, by omega⟩
        rw [f_Mo_takesBranch_L2, if_pos rfl, ite_self]
        have y := M1.up12 hm3 i2
        rw [h4.m5, h4.m6] at y
        have h5 := h4.m1 y s2
        have e12 : hm3 99 12 + 0 = nI i2 := by rw [h4.mx.2.2.2.1]; exact Int32.add_zero _
        rw [e12]
        exact w_end h5 (by omega)
    · rw [if_pos rfl]
      exact g_parts h1 v _ n
theorem p_parts {T : Nat → Int32} {N q : Nat} {hx0 hm0 hx hm : HP} {i C Tn : Nat} (t0 : Tn = 0) (h : PR T N q hx0 hm0 hx hm i i 0 C Tn) : OC T N q hx0 hm0 i (f_Re_readParts hx q) (fw (f_Mo_takesBranch hm)) :=
  p_partsL t0 8 FU FU hx hm i 0 (by omega) (FU_gt (by omega)) (FU_gt (by omega)) (by omega) (Nat.le_refl _) h
theorem fw_1 {T : Nat → Int32} {N q : Nat} {hx0 hm0 : HP} {i0 : Nat} {x y y' : Option (Int32 × HP)} (h : y = y') (k : OC T N q hx0 hm0 i0 x (fw y')) : OC T N q hx0 hm0 i0 x (fw y) := by rw [h]; exact k
theorem x_customer (hx : HP) (q : Nat) : f_Re_readCustomer hx q = (f_Re_readNumber hx 999).bind fun p2 => (f_Re_readNumber p2.2 99).bind fun p4 => (f_Re_readNumber p4.2 99).bind fun p6 => (f_Br_addCustomer p6.2 q p2.1 p4.1 p6.1).bind fun p8 => (f_Re_readWord p8.2 59).bind fun p10 => some (0, p10.2) := rfl
theorem g_cust3 {T : Nat → Int32} {N q : Nat} {hx0 hm0 hx hm : HP} {i0 : Nat} (h : FT T N q hx0 hm0 hx hm) (a b c : Int32) : OC T N q hx0 hm0 i0 ((f_Br_addCustomer hx q a b c).bind fun p8 => (f_Re_readWord p8.2 59).bind fun p10 => some (0, p10.2)) (fw (some (0, hm))) := by
  obtain ⟨f, p, h1, h2, h3⟩ := h
  obtain ⟨hx1, e1, g1⟩ := g_addCustomer h2 a b c
  rw [e1, Option.bind_some]
  exact f_end ⟨f, p, h1, g1, h3⟩
theorem g_cust2 {T : Nat → Int32} {N q : Nat} {hx0 hm0 hx hm : HP} {i0 : Nat} (h : FT T N q hx0 hm0 hx hm) (a b : Int32) : OC T N q hx0 hm0 i0 ((f_Re_readNumber hx 99).bind fun p6 => (f_Br_addCustomer p6.2 q a b p6.1).bind fun p8 => (f_Re_readWord p8.2 59).bind fun p10 => some (0, p10.2)) (fw (some (0, hm))) := by
  obtain ⟨f, p, h1, h2, h3⟩ := h
  obtain ⟨v, hx1, e1, g1⟩ := g_num h1 h2 99
  rw [e1, Option.bind_some]
  exact g_cust3 ⟨f, p, h1, g1, h3⟩ a b v
theorem g_cust1 {T : Nat → Int32} {N q : Nat} {hx0 hm0 hx hm : HP} {i0 : Nat} (h : FT T N q hx0 hm0 hx hm) (a : Int32) : OC T N q hx0 hm0 i0 ((f_Re_readNumber hx 99).bind fun p4 => (f_Re_readNumber p4.2 99).bind fun p6 => (f_Br_addCustomer p6.2 q a p4.1 p6.1).bind fun p8 => (f_Re_readWord p8.2 59).bind fun p10 => some (0, p10.2)) (fw (some (0, hm))) := by
  obtain ⟨f, p, h1, h2, h3⟩ := h
  obtain ⟨v, hx1, e1, g1⟩ := g_num h1 h2 99
  rw [e1, Option.bind_some]
  exact g_cust2 ⟨f, p, h1, g1, h3⟩ a v
theorem c3 : ∀ C, C < 5 → ∀ k, k < 3 → (3 : Int32) * nI C + nI k = nI (3 * C + k) := by decide
theorem m_c0 (K : HP → Option (Int32 × HP)) (m : Nat) (hm : HP) : f_Mo_takesCustomer_L2 K (m + 1) hm (nI 0) = (f_Mo_takesNumber hm 0 999).bind fun p4 => if p4.1 = 0 then some ((0 : Int32), p4.2) else (if inb ((3 : Int32) * (p4.2 99 19) + nI 0) 15 then f_Mo_takesCustomer_L2 K m (up p4.2 108 ((3 : Int32) * (p4.2 99 19) + nI 0).toNatClampNeg (p4.2 99 14)) (nI 0 + 1) else none) := by
  rw [f_Mo_takesCustomer_L2, if_neg (by decide), if_pos (show nI 0 = (0 : Int32) from rfl)]
theorem m_c1 (K : HP → Option (Int32 × HP)) (m k : Nat) (hk : k = 1 ∨ k = 2) (hm : HP) : f_Mo_takesCustomer_L2 K (m + 1) hm (nI k) = (f_Mo_takesNumber hm 0 99).bind fun p4 => if p4.1 = 0 then some ((0 : Int32), p4.2) else (if inb ((3 : Int32) * (p4.2 99 19) + nI k) 15 then f_Mo_takesCustomer_L2 K m (up p4.2 108 ((3 : Int32) * (p4.2 99 19) + nI k).toNatClampNeg (p4.2 99 14)) (nI k + 1) else none) := by
  rw [f_Mo_takesCustomer_L2, if_neg (by exact n_nle 3 k (by omega) (by omega)), if_neg (by exact n_ne k 0 (by omega) (by omega) (by omega))]
theorem p_customer {T : Nat → Int32} {N q : Nat} {hx0 hm0 hx hm : HP} {i P C Tn : Nat} (hC : C < 5) (h : PR T N q hx0 hm0 hx hm i i P C Tn) : OC T N q hx0 hm0 i (f_Re_readCustomer hx q) (fw (f_Mo_takesCustomer hm)) := by
  rw [x_customer]
  unfold f_Mo_takesCustomer
  obtain ⟨m, hm'⟩ : ∃ m, FU = m + 1 + 1 + 1 + 1 := ⟨2996, rfl⟩
  rw [hm']
  clear hm'
  rw [show (0 : Int32) = nI 0 from rfl, m_c0]
  obtain ⟨a, hx1, r, hm1, e1, e2, e3⟩ := p_num h (g := 999) (by decide)
  rw [e1, e2, Option.bind_some, Option.bind_some]
  dsimp only
  rcases e3 with ⟨rfl, i1, hi1, h1, ev, a0, a9, -⟩ | ⟨rfl, h1⟩
  · rw [if_neg one_ne, if_pos (show inb (3 * hm1 99 19 + nI 0) 15 = true by rw [h1.mC, c3 C hC 0 (by omega)]; exact inb_n (by omega) (by omega))]
    simp only [h1.mC, c3 C hC 0 (by omega), cl_n (show 3 * C + 0 < 2 ^ 31 by omega), ev, nI_s]
    have h1' := p_put h1 a (k := 3 * C + 0) (by omega)
    rw [m_c1 _ _ 1 (by omega)]
    obtain ⟨b, hx2, r, hm2, e1, e2, e3⟩ := p_num h1' (g := 99) (by decide)
    rw [e1, e2, Option.bind_some, Option.bind_some]
    dsimp only
    rcases e3 with ⟨rfl, i2, hi2, h2, ev2, b0, b9, f2⟩ | ⟨rfl, h2⟩
    · rw [if_neg one_ne, if_pos (show inb (3 * hm2 99 19 + nI 1) 15 = true by rw [h2.mC, c3 C hC 1 (by omega)]; exact inb_n (by omega) (by omega))]
      simp only [h2.mC, c3 C hC 1 (by omega), cl_n (show 3 * C + 1 < 2 ^ 31 by omega), ev2, nI_s]
      have h2' := p_put h2 b (k := 3 * C + 1) (by omega)
      rw [m_c1 _ _ 2 (by omega)]
      obtain ⟨c, hx3, r, hm3, e1, e2, e3⟩ := p_num h2' (g := 99) (by decide)
      rw [e1, e2, Option.bind_some, Option.bind_some]
      dsimp only
      rcases e3 with ⟨rfl, i3, hi3, h3, ev3, c0, c9, f3⟩ | ⟨rfl, h3⟩
      · rw [if_neg one_ne, if_pos (show inb (3 * hm3 99 19 + nI 2) 15 = true by rw [h3.mC, c3 C hC 2 (by omega)]; exact inb_n (by omega) (by omega))]
        simp only [h3.mC, c3 C hC 2 (by omega), cl_n (show 3 * C + 2 < 2 ^ 31 by omega), ev3, nI_s]
        have h3' := p_put h3 c (k := 3 * C + 2) (by omega)
        rw [f_Mo_takesCustomer_L2, if_pos (by decide), x_addCustomer a b c hC h3.xC, Option.bind_some]
        dsimp only
        have em : up hm3 108 (3 * C + 2) c 99 19 = nI C := h3.mC
        rw [em, nI_s]
        have k1 : up hm3 108 (3 * C + 2) c 108 (3 * C) = a := by rw [up_eq, upd_ne (by omega), f3 108 (by omega), up_eq, upd_ne (by omega), f2 108 (by omega), up_eq, Nat.add_zero, upd_eq]
        have k2 : up hm3 108 (3 * C + 2) c 108 (3 * C + 1) = b := by rw [up_eq, upd_ne (by omega), f3 108 (by omega), up_eq, upd_eq]
        have k3 : up hm3 108 (3 * C + 2) c 108 (3 * C + 2) = c := by rw [up_eq, upd_eq]
        exact w_end (p_addCustomer h3' k1 k2 k3 ⟨a0, a9⟩ ⟨b0, b9⟩ ⟨c0, c9⟩ hC) (by omega)
      · rw [if_pos rfl]
        exact g_cust3 h3 a b c
    · rw [if_pos rfl]
      exact g_cust2 h2 a b
  · rw [if_pos rfl]
    exact g_cust1 h1 a
theorem allp : ∀ P, P < 9 → ((1 : Int32) <<< (nI P &&& 31)) - 1 = nI (2 ^ P - 1) := by decide
theorem allp0 : ∀ P, P < 9 → 0 ≤ (nI (2 ^ P - 1)).toInt ∧ (nI (2 ^ P - 1)).toInt < (2 ^ P : Nat) := by decide
theorem p_task {T : Nat → Int32} {N q : Nat} {hx0 hm0 hx hm : HP} {i P C Tn : Nat} (hP : 1 ≤ P) (hT : Tn < 6) (h : PR T N q hx0 hm0 hx hm i i P C Tn) : OC T N q hx0 hm0 i ((f_Br_allParts hx q).bind fun p38 => (f_Re_readNumber p38.2 p38.1).bind fun p40 => (f_Br_addTask p40.2 q p40.1).bind fun p42 => (f_Re_readWord p42.2 59).bind fun p44 => some (0, p44.2)) (fw (f_Mo_takesTask hm)) := by
  have h8 := h.hP
  unfold f_Mo_takesTask
  rw [x_all h.xP, h.mP, allp P (by omega), Option.bind_some]
  dsimp only
  obtain ⟨g0, g1⟩ := allp0 P (by omega)
  obtain ⟨a, hx1, r, hm1, e1, e2, e3⟩ := p_num h (g := nI (2 ^ P - 1)) g0
  rw [e1, e2, Option.bind_some, Option.bind_some]
  dsimp only
  rcases e3 with ⟨rfl, i1, hi1, h1, ev, a0, a9, -⟩ | ⟨rfl, h1⟩
  · rw [if_neg one_ne, if_pos (show inb (hm1 99 21) 6 = true by rw [h1.mT]; exact inb_n hT (by omega))]
    have em : up hm1 109 Tn a 99 21 = nI Tn := h1.mT
    simp only [h1.mT, cl_n (show Tn < 2 ^ 31 by omega), ev]
    simp only [em, nI_s]
    rw [x_addTask a hT h1.xT, Option.bind_some]
    dsimp only
    obtain ⟨n, hn, hv⟩ := of_rg (n := 2 ^ P) a0 (by omega)
    exact w_end (p_addTask h1 hn hv hT hP) (by omega)
  · rw [if_pos rfl]
    obtain ⟨f, p, h1, h2, h3⟩ := h1
    obtain ⟨hx2, e3, k1⟩ := g_addTask h2 a
    rw [e3, Option.bind_some]
    exact f_end ⟨f, p, h1, k1, h3⟩
theorem OC.lt {T : Nat → Int32} {N q : Nat} {hx0 hm0 : HP} {i i0 : Nat} {x y : Option (Int32 × HP)} (h : OC T N q hx0 hm0 i x y) (hi : i0 ≤ i) : OC T N q hx0 hm0 i0 x y := by
  obtain ⟨hx', r, hm', e1, e2, e3⟩ := h
  refine ⟨hx', r, hm', e1, e2, ?_⟩
  rcases e3 with ⟨r1, i', P', C', T', h1, h2⟩ | k
  · exact Or.inl ⟨r1, i', P', C', T', by omega, h2⟩
  · exact Or.inr k
theorem OC.x0 {T : Nat → Int32} {N q : Nat} {hx0 hm0 : HP} {i : Nat} {x y : Option (Int32 × HP)} (h : OC T N q hx0 hm0 i x y) : OC T N q hx0 hm0 i (x.bind fun p => some (0, p.2)) y := by
  obtain ⟨hx', r, hm', e1, e2, e3⟩ := h
  rw [e1]
  exact ⟨hx', r, hm', rfl, e2, e3⟩
theorem OC.fail {T : Nat → Int32} {N q : Nat} {hx0 hm0 hx hm : HP} {i j i0 P C Tn : Nat} (h : PR T N q hx0 hm0 hx hm i j P C Tn) (h13 : hm 99 13 = nI i) {n : Int32} (hn : n ≠ 0) : OC T N q hx0 hm0 i0 ((f_Re_fail hx n (hx 1 4)).bind fun p => some (0, p.2)) ((f_Mo_fails hm n (hm 99 13)).bind fun p12 => rz p12.1 p12.2) := by
  obtain ⟨hx', hm', e1, e2, e3⟩ := p_fail h h13 hn
  rw [e1, e2]
  exact ⟨hx', 0, hm', rfl, rfl, Or.inr ⟨rfl, e3⟩⟩
theorem isT0 {hx : HP} {q : Nat} (h : hx q 5 = nI 0) : f_Br_isThere hx q = some (0, hx) := by
  unfold f_Br_isThere
  rw [h, if_pos (by decide)]
theorem isT1 {hx : HP} {q P : Nat} (h : hx q 5 = nI P) (h1 : 1 ≤ P) (h8 : P ≤ 8) : f_Br_isThere hx q = some (1, hx) := by
  unfold f_Br_isThere
  rw [h, if_neg (by exact n_nle P 0 (by omega) (by omega))]
theorem p_clause {T : Nat → Int32} {N q : Nat} {hx0 hm0 hx hm : HP} {i P C Tn : Nat} (h : PR T N q hx0 hm0 hx hm i i P C Tn) (h32 : ltr T N i ≠ 32) : OC T N q hx0 hm0 i (f_Re_readClause hx q) (f_Mo_takesClause hm) := by
  have hP := h.hP
  have hC := h.hC
  have hT := h.hT
  obtain ⟨hm1, e1, h1, e13⟩ := p_here h
  rw [sk_idd h32] at e1 h1 e13
  unfold f_Re_readClause f_Mo_takesClause
  rw [x_letter h.rx, e1, Option.bind_some, Option.bind_some]
  dsimp only
  by_cases z : P = 0
  · subst z
    rw [isT0 h.xP, if_pos (show hm1 99 17 ≤ 0 by rw [h1.mP]; decide), if_pos (show hm1 99 17 ≤ 0 by rw [h1.mP]; decide)]
    by_cases b : ltr T N i = 98
    · rw [if_pos b, if_pos b, Option.bind_some]
      dsimp only
      rw [if_pos rfl]
      exact (OC.lt (p_parts (h.p0 rfl) (p_step h1 (ltr_lt b (by decide)))) (by omega)).x0
    · rw [if_neg b, if_neg b, Option.bind_some]
      dsimp only
      rw [if_pos rfl]
      exact OC.fail h1 e13 one_ne
  · rw [isT1 h.xP (by omega) hP, if_neg (show ¬ hm1 99 17 ≤ 0 by rw [h1.mP]; exact n_nle P 0 (by omega) (by omega)), if_neg (show ¬ hm1 99 17 ≤ 0 by rw [h1.mP]; exact n_nle P 0 (by omega) (by omega))]
    by_cases b : ltr T N i = 98
    · rw [if_pos b, if_pos b, Option.bind_some]
      dsimp only
      rw [if_neg one_ne, isT1 h.xP (by omega) hP, Option.bind_some]
      dsimp only
      rw [if_neg one_ne, if_neg (by rw [b]; decide), if_neg (by rw [b]; decide)]
      exact OC.fail h1 e13 (by decide)
    · rw [if_neg b, if_neg b, Option.bind_some]
      dsimp only
      rw [if_neg one_ne]
      by_cases c : ltr T N i = 99
      · rw [if_pos c, if_pos c]
        by_cases c5 : C = 5
        · subst c5
          rw [if_pos (show (5 : Int32) ≤ hx q 6 by rw [h.xC]; decide), if_neg (by rw [c]; decide), if_pos (show hm1 99 19 = 5 by rw [h1.mC]; rfl)]
          exact OC.fail h1 e13 (by decide)
        · rw [if_neg (show ¬ (5 : Int32) ≤ hx q 6 by rw [h.xC]; exact n_nle 5 C (by omega) (by omega)), if_neg (show ¬ hm1 99 19 = 5 by rw [h1.mC]; exact n_ne C 5 c5 (by omega) (by omega))]
          exact (OC.lt (p_customer (by omega) (p_step h1 (ltr_lt c (by decide)))) (by omega)).x0
      · rw [if_neg c, if_neg c]
        by_cases t : ltr T N i = 116
        · rw [if_pos t, if_pos t]
          by_cases t6 : Tn = 6
          · subst t6
            rw [if_pos (show (6 : Int32) ≤ hx q 7 by rw [h.xT]; decide), if_pos (show hm1 99 21 = 6 by rw [h1.mT]; rfl)]
            exact OC.fail h1 e13 (by decide)
          · rw [if_neg (show ¬ (6 : Int32) ≤ hx q 7 by rw [h.xT]; exact n_nle 6 Tn (by omega) (by omega)), if_neg (show ¬ hm1 99 21 = 6 by rw [h1.mT]; exact n_ne Tn 6 t6 (by omega) (by omega))]
            exact OC.lt (p_task (by omega) (by omega) (p_step h1 (ltr_lt t (by decide)))) (by omega)
        · rw [if_neg t, if_neg t]
          exact OC.fail h1 e13 one_ne
theorem p_loop {T : Nat → Int32} {N q : Nat} {hx0 hm0 : HP} (hT : ∀ k, k < N → T k ≠ -1) (Kx : HP → Option (Int32 × HP)) (Km : HP → Int32 → Option (Int32 × HP)) : ∀ d n m hx hm i j k P C Tn, N - i ≤ d → d < n → d + 1 < m → k ≤ i → sk T N j = i → ltr T N i ≠ 32 → PR T N q hx0 hm0 hx hm i j P C Tn → ∃ hx' hm' r, f_Re_readInto_L25 q Kx n hx (nI k) = Kx hx' ∧ f_Mo_branch_L32 Km m hm 1 = Km hm' r ∧ ((r = 1 ∧ ∃ P C Tn, PR T N q hx0 hm0 hx' hm' N N P C Tn) ∨ (r = 0 ∧ FT T N q hx0 hm0 hx' hm')) := by
  intro d
  induction d with
  | zero =>
    intro n m hx hm i j k P C Tn hd hn hmm hk hs h32 h
    obtain ⟨n, rfl⟩ : ∃ x, n = x + 1 := ⟨n - 1, by omega⟩
    obtain ⟨m, rfl⟩ : ∃ x, m = x + 1 := ⟨m - 1, by omega⟩
    have hN := h.rx.1
    have hi := h.rx.2.1
    have iN : i = N := by omega
    obtain ⟨hm1, e1, h1, e13⟩ := p_here h
    rw [hs] at e1 h1
    rw [iN] at h1 e1
    rw [f_Re_readInto_L25, f_Mo_branch_L32, if_pos (show hx 1 1 ≤ hx 1 4 by rw [h.rx.2.2.1, h.rx.2.2.2.1]; exact n_le N i (by omega) (by omega)), ite_self, if_neg one_ne, e1, Option.bind_some]
    dsimp only
    rw [if_pos (by unfold ltr; rw [if_neg (by omega)])]
    exact ⟨_, _, _, rfl, rfl, Or.inl ⟨rfl, _, _, _, h1⟩⟩
  | succ d ih =>
    intro n m hx hm i j k P C Tn hd hn hmm hk hs h32 h
    obtain ⟨n, rfl⟩ : ∃ x, n = x + 1 := ⟨n - 1, by omega⟩
    obtain ⟨m, rfl⟩ : ∃ x, m = x + 1 := ⟨m - 1, by omega⟩
    have hN := h.rx.1
    have hi := h.rx.2.1
    obtain ⟨hm1, e1, h1, e13⟩ := p_here h
    rw [hs] at e1 h1
    rw [f_Re_readInto_L25, f_Mo_branch_L32, if_neg one_ne, e1, Option.bind_some]
    dsimp only
    by_cases iN : i = N
    · rw [if_pos (show hx 1 1 ≤ hx 1 4 by rw [h.rx.2.2.1, h.rx.2.2.2.1]; exact n_le N i (by omega) (by omega)), ite_self, if_pos (by unfold ltr; rw [if_neg (by omega)])]
      rw [iN] at h1
      exact ⟨_, _, _, rfl, rfl, Or.inl ⟨rfl, _, _, _, h1⟩⟩
    · rw [if_neg (by exact n_nle 240 k (by omega) (by omega)), if_neg (show ¬ hx 1 1 ≤ hx 1 4 by rw [h.rx.2.2.1, h.rx.2.2.2.1]; exact n_nle N i (by omega) (by omega)), if_pos h.x3, if_neg (by unfold ltr; rw [if_pos (by omega)]; exact hT i (by omega))]
      obtain ⟨hx2, r, hm2, f1, f2, f3⟩ := p_clause h1 h32
      rw [f1, f2, Option.bind_some, Option.bind_some]
      dsimp only
      rcases f3 with ⟨rfl, i2, P2, C2, T2, hi2, h2⟩ | ⟨rfl, h2⟩
      · obtain ⟨hx3, g1, h3⟩ := p_skip h2
        obtain ⟨s1, s2, s3⟩ := sk_spec T h2.rx.2.1
        rw [g1, Option.bind_some]
        dsimp only
        rw [nI_s]
        exact ih n m hx3 hm2 (sk T N i2) i2 (k + 1) P2 C2 T2 (by omega) (by omega) (by omega) (by omega) rfl s3 h3
      · obtain ⟨f, p, k1, k2, k3⟩ := h2
        obtain ⟨hx3, g1, h3⟩ := g_skip k2
        rw [g1, Option.bind_some]
        dsimp only
        obtain ⟨n, rfl⟩ : ∃ x, n = x + 1 := ⟨n - 1, by omega⟩
        obtain ⟨m, rfl⟩ : ∃ x, m = x + 1 := ⟨m - 1, by omega⟩
        rw [f_Re_readInto_L25, f_Mo_branch_L32, if_pos rfl, if_neg (show ¬ hx3 1 3 = 0 by rw [h3.2.2.1.1]; exact k1), ite_self, ite_self]
        exact ⟨_, _, _, rfl, rfl, Or.inr ⟨rfl, f, p, k1, h3, k3⟩⟩
end
section
theorem for_hp (loop : Nat → HP → Int32 → Option (Int32 × HP)) (K : HP → Option (Int32 × HP)) (N : Nat) (I : Nat → HP → Prop) (hs : ∀ n k hp, k < N → I k hp → ∃ hp', loop (n + 1) hp (nI k) = loop n hp' (nI (k + 1)) ∧ I (k + 1) hp') (he : ∀ n hp, I N hp → loop (n + 1) hp (nI N) = K hp) : ∀ d k n hp, k + d = N → d < n → I k hp → ∃ hp', loop n hp (nI k) = K hp' ∧ I N hp' := by
  intro d
  induction d with
  | zero =>
    intro k n hp hk hn hI
    obtain ⟨m, rfl⟩ : ∃ m, n = m + 1 := ⟨n - 1, by omega⟩
    have : k = N := by omega
    subst this
    exact ⟨hp, he m hp hI, hI⟩
  | succ d ih =>
    intro k n hp hk hn hI
    obtain ⟨m, rfl⟩ : ∃ m, n = m + 1 := ⟨n - 1, by omega⟩
    obtain ⟨hp', h1, h2⟩ := hs m k hp (by omega) hI
    rw [h1]
    exact ih (k + 1) m hp' (by omega) (by omega) h2
theorem b_L79 (v : Int32) (K : HP → Option (Int32 × HP)) (hp : HP) : ∃ h, f_Mo_branch_L79 v K FU hp 0 = K h ∧ (∀ c, c ≠ 100 → h c = hp c) ∧ (∀ j, j < 32 → h 100 j = 0) := by
  refine for_hp (f_Mo_branch_L79 v K) K 32 (fun k h => (∀ c, c ≠ 100 → h c = hp c) ∧ (∀ j, j < k → h 100 j = 0)) ?_ ?_ 32 0 FU hp (by omega) (FU_gt (by omega)) ⟨fun _ _ => rfl, fun j hj => by omega⟩
  · intro n k h hk ⟨i1, i2⟩
    refine ⟨up h 100 k 0, ?_, fun c hc => by rw [up_ne hc]; exact i1 c hc, fun j hj => ?_⟩
    · rw [f_Mo_branch_L79, if_neg (by exact n_nle 32 k (by omega) (by omega)), if_pos (inb_n (by omega) (by omega)), cl_n (by omega), nI_s]
    · rw [up_eq]
      by_cases z : j = k
      · rw [z, upd_eq]
      · rw [upd_ne z]; exact i2 j (by omega)
  · intro n h _
    rw [f_Mo_branch_L79, if_pos (by decide)]
theorem b_L132 (K : HP → Option (Int32 × HP)) (hp : HP) {P : Nat} (hP : P ≤ 8) (e : hp 99 3 = nI P) : ∃ h, f_Mo_branch_L132 K FU hp 0 = K h ∧ (∀ c, c ≠ 102 → h c = hp c) ∧ (∀ j, j < P → h 102 j = hp 107 j) := by
  refine for_hp (f_Mo_branch_L132 K) K P (fun k h => (∀ c, c ≠ 102 → h c = hp c) ∧ (∀ j, j < k → h 102 j = hp 107 j)) ?_ ?_ P 0 FU hp (by omega) (FU_gt (by omega)) ⟨fun _ _ => rfl, fun j hj => by omega⟩
  · intro n k h hk ⟨i1, i2⟩
    refine ⟨up h 102 k (h 107 k), ?_, fun c hc => by rw [up_ne hc]; exact i1 c hc, fun j hj => ?_⟩
    · rw [f_Mo_branch_L132, if_neg (by rw [i1 99 (by omega), e]; exact n_nle P k (by omega) (by omega)), if_pos (inb_n (by omega) (by omega)), cl_n (by omega), nI_s]
    · rw [up_eq]
      by_cases z : j = k
      · rw [z, upd_eq, i1 107 (by omega)]
      · rw [upd_ne z]; exact i2 j (by omega)
  · intro n h ⟨i1, _⟩
    rw [f_Mo_branch_L132, if_pos (by rw [i1 99 (by omega), e]; exact n_le P P (by omega) (by omega))]
theorem b_L228 (K : HP → Option (Int32 × HP)) (hp : HP) {P : Nat} (hP : P ≤ 6) (e : hp 99 8 = nI P) : ∃ h, f_Mo_branch_L228 K FU hp 0 = K h ∧ (∀ c, c ≠ 105 → h c = hp c) ∧ (∀ j, j < P → h 105 j = hp 109 j) := by
  refine for_hp (f_Mo_branch_L228 K) K P (fun k h => (∀ c, c ≠ 105 → h c = hp c) ∧ (∀ j, j < k → h 105 j = hp 109 j)) ?_ ?_ P 0 FU hp (by omega) (FU_gt (by omega)) ⟨fun _ _ => rfl, fun j hj => by omega⟩
  · intro n k h hk ⟨i1, i2⟩
    refine ⟨up h 105 k (h 109 k), ?_, fun c hc => by rw [up_ne hc]; exact i1 c hc, fun j hj => ?_⟩
    · rw [f_Mo_branch_L228, if_neg (by rw [i1 99 (by omega), e]; exact n_nle P k (by omega) (by omega)), if_pos (inb_n (by omega) (by omega)), cl_n (by omega), nI_s]
    · rw [up_eq]
      by_cases z : j = k
      · rw [z, upd_eq, i1 109 (by omega)]
      · rw [upd_ne z]; exact i2 j (by omega)
  · intro n h ⟨i1, _⟩
    rw [f_Mo_branch_L228, if_pos (by rw [i1 99 (by omega), e]; exact n_le P P (by omega) (by omega))]
theorem c30 : ∀ C, C < 5 → (3 : Int32) * nI C = nI (3 * C) := by decide
theorem b_L160 (K : HP → Option (Int32 × HP)) (hp : HP) {C : Nat} (hC : C ≤ 5) (e : hp 99 5 = nI C) : ∃ h, f_Mo_branch_L160 K FU hp 0 = K h ∧ (∀ c, c ≠ 100 → c ≠ 103 → c ≠ 104 → h c = hp c) ∧ (∀ j, j < C → h 100 (1 + j) = hp 108 (3 * j) - 500 ∧ h 103 j = hp 108 (3 * j + 1) ∧ h 104 j = hp 108 (3 * j + 2)) ∧ (∀ j, j = 0 ∨ C < j → h 100 j = hp 100 j) := by
  refine for_hp (f_Mo_branch_L160 K) K C (fun k h => (∀ c, c ≠ 100 → c ≠ 103 → c ≠ 104 → h c = hp c) ∧ (∀ j, j < k → h 100 (1 + j) = hp 108 (3 * j) - 500 ∧ h 103 j = hp 108 (3 * j + 1) ∧ h 104 j = hp 108 (3 * j + 2)) ∧ (∀ j, j = 0 ∨ k < j → h 100 j = hp 100 j)) ?_ ?_ C 0 FU hp (by omega) (FU_gt (by omega)) ⟨fun _ _ _ _ => rfl, fun j hj => by omega, fun _ _ => rfl⟩
  · intro n k h hk ⟨i1, i2, i3⟩
    have e8 := i1 108 (by omega) (by omega) (by omega)
    refine ⟨up (up (up h 100 (1 + k) (h 108 (3 * k) - 500)) 103 k (h 108 (3 * k + 1))) 104 k (h 108 (3 * k + 2)), ?_, fun c h1 h2 h3 => by rw [up_ne h3, up_ne h2, up_ne h1]; exact i1 c h1 h2 h3, fun j hj => ?_, fun j hj => ?_⟩
    · rw [f_Mo_branch_L160, if_neg (by rw [i1 99 (by omega) (by omega) (by omega), e]; exact n_nle C k (by omega) (by omega)), c30 k (by omega), show (1 : Int32) = nI 1 from rfl, show (2 : Int32) = nI 2 from rfl, n_add2, n_add2, n_add2, n_add2, if_pos (inb_n (by omega) (by omega)), if_pos (inb_n (by omega) (by omega)), if_pos (inb_n (by omega) (by omega)), if_pos (inb_n (by omega) (by omega)), if_pos (inb_n (by omega) (by omega)), cl_n (by omega), cl_n (by omega), cl_n (by omega), cl_n (by omega), cl_n (by omega)]
      rfl
    · rw [up_ne (show 100 ≠ 104 by omega), up_ne (show 100 ≠ 103 by omega), up_eq, up_ne (show 103 ≠ 104 by omega), up_eq, up_eq, up_ne (show 103 ≠ 100 by omega), up_ne (show 104 ≠ 103 by omega), up_ne (show 104 ≠ 100 by omega)]
      by_cases z : j = k
      · rw [z, upd_eq, upd_eq, upd_eq, e8]
        exact ⟨rfl, rfl, rfl⟩
      · rw [upd_ne (by omega), upd_ne z, upd_ne z]; exact i2 j (by omega)
    · rw [up_ne (show 100 ≠ 104 by omega), up_ne (show 100 ≠ 103 by omega), up_eq, upd_ne (by omega)]
      exact i3 j (by omega)
  · intro n h ⟨i1, _⟩
    rw [f_Mo_branch_L160, if_pos (by rw [i1 99 (by omega) (by omega) (by omega), e]; exact n_le C C (by omega) (by omega))]
theorem b_begin (hp : HP) {q C : Nat} (hq : q = 87 ∨ q = 93) (hC : C ≤ 5) (e : hp q 6 = nI C) : ∃ h, f_St_begin hp 3 q = some (0, h) ∧ (∀ c, c ≠ 3 → c ≠ 4 → c ≠ 5 → h c = hp c) ∧ h 3 2 = 0 ∧ (∀ c, c < 5 → h 4 c = if c < C then hp (q + 2) c else 0) ∧ (∀ k, k < 25 → h 5 k = 0) := by
  unfold f_St_begin
  obtain ⟨h1, e1, a1, a2⟩ := for_hp (f_St_begin_L2 3 q (fun hp5 => f_St_begin_L39 3 (fun hp8 => some (0, (up hp8 3 2 (0 : Int32)))) FU hp5 (0 : Int32))) (fun hp5 => f_St_begin_L39 3 (fun hp8 => some (0, (up hp8 3 2 (0 : Int32)))) FU hp5 (0 : Int32)) 5 (fun k h => (∀ c, c ≠ 4 → h c = hp c) ∧ (∀ c, c < k → h 4 c = if c < C then hp (q + 2) c else 0)) (by
    intro n k h hk ⟨i1, i2⟩
    refine ⟨up h 4 k (if k < C then hp (q + 2) k else 0), ?_, fun c hc => by rw [up_ne hc]; exact i1 c hc, fun j hj => ?_⟩
    · rw [f_St_begin_L2, if_neg (by exact n_nle 5 k (by omega) (by omega))]
      by_cases z : k < C
      · rw [if_neg (by rw [i1 q (by omega), e]; exact n_nle C k (by omega) (by omega)), if_pos z, if_pos (inb_n (by omega) (by omega)), cl_n (by omega), nI_s, i1 (q + 2) (by omega)]
      · rw [if_pos (by rw [i1 q (by omega), e]; exact n_le C k (by omega) (by omega)), if_neg z, if_pos (inb_n (by omega) (by omega)), cl_n (by omega), nI_s]
    · rw [up_eq]
      by_cases z : j = k
      · rw [z, upd_eq]
      · rw [upd_ne z]; exact i2 j (by omega)) (by
    intro n h _
    rw [f_St_begin_L2, if_pos (by decide)]) 5 0 FU hp (by omega) (FU_gt (by omega)) ⟨fun _ _ => rfl, fun j hj => by omega⟩
  obtain ⟨h2, e2, b1, b2⟩ := for_hp (f_St_begin_L39 3 (fun hp8 => some (0, (up hp8 3 2 (0 : Int32))))) (fun hp8 => some (0, (up hp8 3 2 (0 : Int32)))) 25 (fun k h => (∀ c, c ≠ 5 → h c = h1 c) ∧ (∀ c, c < k → h 5 c = 0)) (by
    intro n k h hk ⟨i1, i2⟩
    refine ⟨up h 5 k 0, ?_, fun c hc => by rw [up_ne hc]; exact i1 c hc, fun j hj => ?_⟩
    · rw [f_St_begin_L39, if_neg (by exact n_nle 25 k (by omega) (by omega)), if_pos (inb_n (by omega) (by omega)), cl_n (by omega), nI_s]
    · rw [up_eq]
      by_cases z : j = k
      · rw [z, upd_eq]
      · rw [upd_ne z]; exact i2 j (by omega)) (by
    intro n h _
    rw [f_St_begin_L39, if_pos (by decide)]) 25 0 FU h1 (by omega) (FU_gt (by omega)) ⟨fun _ _ => rfl, fun j hj => by omega⟩
  refine ⟨up h2 3 2 0, e1.trans e2, fun c c3 c4 c5 => by rw [up_ne c3, b1 c c5, a1 c c4], rfl, fun c hc => ?_, fun k hk => ?_⟩
  · rw [up_ne (by omega), b1 4 (by omega)]; exact a2 c hc
  · rw [up_ne (by omega)]; exact b2 k hk
theorem b_L85 (K : HP → Option (Int32 × HP)) (hp : HP) : ∃ h, f_BA_branch_L85 K FU hp 0 = K h ∧ (∀ c, c ≠ 86 → h c = hp c) ∧ (∀ j, j < 2 → h 86 j = 0) := by
  refine for_hp (f_BA_branch_L85 K) K 2 (fun k h => (∀ c, c ≠ 86 → h c = hp c) ∧ (∀ j, j < k → h 86 j = 0)) ?_ ?_ 2 0 FU hp (by omega) (FU_gt (by omega)) ⟨fun _ _ => rfl, fun j hj => by omega⟩
  · intro n k h hk ⟨i1, i2⟩
    refine ⟨up h 86 k 0, ?_, fun c hc => by rw [up_ne hc]; exact i1 c hc, fun j hj => ?_⟩
    · rw [f_BA_branch_L85, if_neg (by exact n_nle 2 k (by omega) (by omega)), if_pos (inb_n (by omega) (by omega)), cl_n (by omega), nI_s, bz_0]
    · rw [up_eq]
      by_cases z : j = k
      · rw [z, upd_eq]
      · rw [upd_ne z]; exact i2 j (by omega)
  · intro n h _
    rw [f_BA_branch_L85, if_pos (by decide)]
def mini (hm : HP) : HP := up (up (up (up (up (up hm 99 12 (0 : Int32)) 99 15 (0 : Int32)) 99 16 (-1 : Int32)) 99 17 (0 : Int32)) 99 19 (0 : Int32)) 99 21 (0 : Int32)
def xini (q : Nat) (hx : HP) : HP := up (up (up (up (up (up hx q 5 (0 : Int32)) q 6 (0 : Int32)) q 7 (0 : Int32)) 1 4 (0 : Int32)) 1 3 (0 : Int32)) 1 2 (-1 : Int32)
theorem p_ini {T : Nat → Int32} {N q : Nat} {hx hm : HP} (hq : q = 87 ∨ q = 93) (hN : N ≤ 240) (x1 : hx 1 1 = nI N) (x2 : ∀ j, j < N → hx 2 j = T j) (m1 : hm 99 11 = nI N) (m2 : ∀ j, j < N → hm 106 j = T j) : PR T N q hx hm (xini q hx) (mini hm) 0 0 0 0 0 := by
  have ex : ∀ c, c ≠ 1 → c ≠ q → xini q hx c = hx c := fun c h1 h2 => by unfold xini; rw [up_ne h1, up_ne h1, up_ne h1, up_ne h2, up_ne h2, up_ne h2]
  have ex1 : xini q hx 1 1 = nI N := by
    unfold xini
    rw [up_eq, upd_ne (by omega), up_eq, upd_ne (by omega), up_eq, upd_ne (by omega), up_ne (by omega), up_ne (by omega), up_ne (by omega)]
    exact x1
  have exq : xini q hx q = up (up (up hx q 5 (0 : Int32)) q 6 (0 : Int32)) q 7 (0 : Int32) q := by
    unfold xini
    rw [up_ne (by omega), up_ne (by omega), up_ne (by omega)]
  have em : ∀ c, c ≠ 99 → mini hm c = hm c := fun c h1 => by unfold mini; rw [up_ne h1, up_ne h1, up_ne h1, up_ne h1, up_ne h1, up_ne h1]
  refine ⟨hq, ⟨hN, by omega, ex1, rfl, fun j hj => by rw [ex 2 (by omega) (by omega)]; exact x2 j hj⟩, ⟨hN, by omega, m1, rfl, fun j hj => by rw [em 106 (by omega)]; exact m2 j hj⟩, ⟨fun c h1 h2 => ex c h1 (by omega), by rw [ex1, x1]⟩, ⟨fun c h1 _ _ _ => em c h1, fun j hj => ?_⟩, rfl, rfl, rfl, rfl, by omega, by omega, by omega, fun _ => rfl, ?_, ?_, ?_, rfl, rfl, rfl, fun k hk => by omega, fun k hk => by omega, fun k hk => by omega⟩
  · unfold mini
    rw [up_eq, upd_ne (by omega), up_eq, upd_ne (by omega), up_eq, upd_ne (by omega), up_eq, upd_ne (by omega), up_eq, upd_ne (by omega), up_eq, upd_ne (by omega)]
  · rw [exq, up_eq, upd_ne (by omega), up_eq, upd_ne (by omega), up_eq, upd_eq]; rfl
  · rw [exq, up_eq, upd_ne (by omega), up_eq, upd_eq]; rfl
  · rw [exq, up_eq, upd_eq]; rfl
theorem p_into {T : Nat → Int32} {N q : Nat} {hx hm : HP} (hq : q = 87 ∨ q = 93) (hN : N ≤ 240) (hT : ∀ k, k < N → T k ≠ -1) (x1 : hx 1 1 = nI N) (x2 : ∀ j, j < N → hx 2 j = T j) (m1 : hm 99 11 = nI N) (m2 : ∀ j, j < N → hm 106 j = T j) (Km : HP → Int32 → Option (Int32 × HP)) : ∃ hx' hm' r, f_Re_readInto hx q = some (hx' 1 3, hx') ∧ f_Mo_branch_L32 Km FU (mini hm) 1 = Km hm' r ∧ ((r = 1 ∧ ∃ P C Tn, PR T N q hx hm hx' hm' N N P C Tn) ∨ (r = 0 ∧ FT T N q hx hm hx' hm')) := by
  have h0 := p_ini hq hN x1 x2 m1 m2
  obtain ⟨hx1, e1, h1⟩ := p_skip h0
  obtain ⟨s1, s2, s3⟩ := sk_spec T h0.rx.2.1
  unfold f_Re_readInto f_Br_clear
  rw [Option.bind_some]
  have e1' : f_Re_skipBlanks (up (up (up ((up (up (up hx q 5 (0 : Int32)) q 6 (0 : Int32)) q 7 (0 : Int32))) 1 4 (0 : Int32)) 1 3 (0 : Int32)) 1 2 (-1 : Int32)) = some (0, hx1) := e1
  simp only [e1']
  rw [Option.bind_some]
  exact p_loop hT (fun hp12 => some ((hp12 1 3), hp12)) Km (N - sk T N 0) FU FU hx1 (mini hm) (sk T N 0) 0 0 0 0 0 (by omega) (FU_gt (by omega)) (FU_gt (by omega)) (by omega) rfl s3 h1
end
section
theorem b_L79M (v : Int32) (K : HP → Option (Int32 × HP)) (hp : HP) (M : Option (Int32 × HP) → Prop) (H : ∀ h : HP, (∀ c, c ≠ 100 → h c = hp c) ∧ (∀ j, j < 32 → h 100 j = 0) → M (K h)) : M (f_Mo_branch_L79 v K FU hp 0) := by
  obtain ⟨h, e, a⟩ := b_L79 v K hp
  rw [e]
  exact H h a
theorem b_L132M (K : HP → Option (Int32 × HP)) (hp : HP) {P : Nat} (hP : P ≤ 8) (e : hp 99 3 = nI P) (M : Option (Int32 × HP) → Prop) (H : ∀ h : HP, (∀ c, c ≠ 102 → h c = hp c) ∧ (∀ j, j < P → h 102 j = hp 107 j) → M (K h)) : M (f_Mo_branch_L132 K FU hp 0) := by
  obtain ⟨h, e, a⟩ := b_L132 K hp hP e
  rw [e]
  exact H h a
theorem b_L228M (K : HP → Option (Int32 × HP)) (hp : HP) {P : Nat} (hP : P ≤ 6) (e : hp 99 8 = nI P) (M : Option (Int32 × HP) → Prop) (H : ∀ h : HP, (∀ c, c ≠ 105 → h c = hp c) ∧ (∀ j, j < P → h 105 j = hp 109 j) → M (K h)) : M (f_Mo_branch_L228 K FU hp 0) := by
  obtain ⟨h, e, a⟩ := b_L228 K hp hP e
  rw [e]
  exact H h a
theorem b_L160M (K : HP → Option (Int32 × HP)) (hp : HP) {C : Nat} (hC : C ≤ 5) (e : hp 99 5 = nI C) (M : Option (Int32 × HP) → Prop) (H : ∀ h : HP, (∀ c, c ≠ 100 → c ≠ 103 → c ≠ 104 → h c = hp c) ∧ (∀ j, j < C → h 100 (1 + j) = hp 108 (3 * j) - 500 ∧ h 103 j = hp 108 (3 * j + 1) ∧ h 104 j = hp 108 (3 * j + 2)) ∧ (∀ j, j = 0 ∨ C < j → h 100 j = hp 100 j) → M (K h)) : M (f_Mo_branch_L160 K FU hp 0) := by
  obtain ⟨h, e, a⟩ := b_L160 K hp hC e
  rw [e]
  exact H h a
/-- what the reference does when its reading is over -/
def KM : HP → Int32 → Option (Int32 × HP) := fun hp8 w7 => if w7 = 0 then some (((-10 : Int32) - ((up hp8 99 11 (0 : Int32)) 99 15)), (up hp8 99 11 (0 : Int32))) else f_Mo_branch_L79 ((up hp8 99 11 (0 : Int32)) 100 31) (fun hp12 => f_Mo_branch_L132 (fun hp15 => f_Mo_branch_L160 (fun hp22 => f_Mo_branch_L228 (fun hp25 => some (((up (up (up (up (up (up (up hp25 99 23 (0 : Int32)) 99 25 (0 : Int32)) 99 29 (0 : Int32)) 99 32 (0 : Int32)) 99 2 (0 : Int32)) 101 0 (bz (0 : Int32))) 101 1 (bz (0 : Int32))) 99 5), (up (up (up (up (up (up (up hp25 99 23 (0 : Int32)) 99 25 (0 : Int32)) 99 29 (0 : Int32)) 99 32 (0 : Int32)) 99 2 (0 : Int32)) 101 0 (bz (0 : Int32))) 101 1 (bz (0 : Int32))))) FU hp22 (0 : Int32)) FU hp15 (0 : Int32)) FU (up (up (up (up hp12 100 31 ((up hp8 99 11 (0 : Int32)) 100 31)) 99 3 ((up hp12 100 31 ((up hp8 99 11 (0 : Int32)) 100 31)) 99 17)) 99 5 ((up (up hp12 100 31 ((up hp8 99 11 (0 : Int32)) 100 31)) 99 3 ((up hp12 100 31 ((up hp8 99 11 (0 : Int32)) 100 31)) 99 17)) 99 19)) 99 8 ((up (up (up hp12 100 31 ((up hp8 99 11 (0 : Int32)) 100 31)) 99 3 ((up hp12 100 31 ((up hp8 99 11 (0 : Int32)) 100 31)) 99 17)) 99 5 ((up (up hp12 100 31 ((up hp8 99 11 (0 : Int32)) 100 31)) 99 3 ((up hp12 100 31 ((up hp8 99 11 (0 : Int32)) 100 31)) 99 17)) 99 19)) 99 21)) (0 : Int32)) FU (up hp8 99 11 (0 : Int32)) (0 : Int32)
theorem m_branch_KM (hp : HP) : f_Mo_branch hp = f_Mo_branch_L32 KM FU (mini hp) 1 := rfl
def BR2 (hm h2 : HP) (P C Tn : Nat) : Prop := (∀ c, (c < 99 ∨ 105 < c) → h2 c = hm c) ∧ (h2 99 11 = 0 ∧ h2 99 3 = nI P ∧ h2 99 5 = nI C ∧ h2 99 8 = nI Tn ∧ h2 99 23 = 0 ∧ h2 99 25 = 0 ∧ h2 99 29 = 0 ∧ h2 99 32 = 0 ∧ h2 99 2 = 0 ∧ h2 99 16 = hm 99 16) ∧ h2 100 0 = 0 ∧ (∀ c, c < 5 → h2 100 (1 + c) = if c < C then hm 108 (3 * c) - 500 else 0) ∧ (∀ k, k < 25 → h2 100 (6 + k) = 0) ∧ h2 100 31 = hm 100 31 ∧ (h2 101 0 = 0 ∧ h2 101 1 = 0) ∧ (∀ k, k < P → h2 102 k = hm 107 k) ∧ (∀ c, c < C → h2 103 c = hm 108 (3 * c + 1) ∧ h2 104 c = hm 108 (3 * c + 2)) ∧ ∀ t, t < Tn → h2 105 t = hm 109 t
theorem KM_1 {hm : HP} {P C Tn : Nat} (hP : P ≤ 8) (hC : C ≤ 5) (hT : Tn ≤ 6) (mP : hm 99 17 = nI P) (mC : hm 99 19 = nI C) (mT : hm 99 21 = nI Tn) : ∃ h2, KM hm 1 = some (nI C, h2) ∧ BR2 hm h2 P C Tn := by
  unfold KM
  rw [if_neg one_ne]
  refine b_L79M _ _ _ (fun x => ∃ h2, x = some (nI C, h2) ∧ BR2 hm h2 P C Tn) ?_
  intro h1 ⟨a1, a2⟩
  have a99 : ∀ j, j ≠ 11 → h1 99 j = hm 99 j := fun j hj => by rw [a1 99 (by omega), up_eq, upd_ne hj]
  have e3 : up (up (up (up h1 100 31 ((up hm 99 11 (0 : Int32)) 100 31)) 99 3 ((up h1 100 31 ((up hm 99 11 (0 : Int32)) 100 31)) 99 17)) 99 5 ((up (up h1 100 31 ((up hm 99 11 (0 : Int32)) 100 31)) 99 3 ((up h1 100 31 ((up hm 99 11 (0 : Int32)) 100 31)) 99 17)) 99 19)) 99 8 ((up (up (up h1 100 31 ((up hm 99 11 (0 : Int32)) 100 31)) 99 3 ((up h1 100 31 ((up hm 99 11 (0 : Int32)) 100 31)) 99 17)) 99 5 ((up (up h1 100 31 ((up hm 99 11 (0 : Int32)) 100 31)) 99 3 ((up h1 100 31 ((up hm 99 11 (0 : Int32)) 100 31)) 99 17)) 99 19)) 99 21) = up (up (up (up h1 100 31 (hm 100 31)) 99 3 (nI P)) 99 5 (nI C)) 99 8 (nI Tn) := by
    rw [show up h1 100 31 ((up hm 99 11 (0 : Int32)) 100 31) 99 17 = nI P from (a99 17 (by omega)).trans mP]
    rw [show up (up h1 100 31 ((up hm 99 11 (0 : Int32)) 100 31)) 99 3 (nI P) 99 19 = nI C from (a99 19 (by omega)).trans mC]
    rw [show up (up (up h1 100 31 ((up hm 99 11 (0 : Int32)) 100 31)) 99 3 (nI P)) 99 5 (nI C) 99 21 = nI Tn from (a99 21 (by omega)).trans mT]
    rfl
  rw [e3]
  clear e3
  refine b_L132M _ _ hP rfl (fun x => ∃ h2, x = some (nI C, h2) ∧ BR2 hm h2 P C Tn) ?_
  intro h3 ⟨b1, b2⟩
  refine b_L160M _ _ hC (by rw [b1 99 (by omega)]; rfl) (fun x => ∃ h2, x = some (nI C, h2) ∧ BR2 hm h2 P C Tn) ?_
  intro h4 ⟨c1, c2, c3⟩
  refine b_L228M _ _ hT (by rw [c1 99 (by omega) (by omega) (by omega), b1 99 (by omega)]; rfl) (fun x => ∃ h2, x = some (nI C, h2) ∧ BR2 hm h2 P C Tn) ?_
  intro h5 ⟨d1, d2⟩
  have f99 : h5 99 = up (up (up (up h1 100 31 (hm 100 31)) 99 3 (nI P)) 99 5 (nI C)) 99 8 (nI Tn) 99 := by rw [d1 99 (by omega), c1 99 (by omega) (by omega) (by omega), b1 99 (by omega)]
  have g99 : ∀ j, j ≠ 3 → j ≠ 5 → j ≠ 8 → j ≠ 11 → h5 99 j = hm 99 j := fun j h1 h2 h3 h4 => by rw [f99, up_eq, upd_ne h3, up_eq, upd_ne h2, up_eq, upd_ne h1, up_ne (by omega)]; exact a99 j h4
  have f100 : ∀ j, j ≠ 31 → up (up (up (up h1 100 31 (hm 100 31)) 99 3 (nI P)) 99 5 (nI C)) 99 8 (nI Tn) 100 j = h1 100 j := fun j hj => by rw [up_ne (by omega), up_ne (by omega), up_ne (by omega), up_eq, upd_ne hj]
  have o : ∀ c, c < 99 ∨ 105 < c → h5 c = hm c := fun c hc => by rw [d1 c (by omega), c1 c (by omega) (by omega) (by omega), b1 c (by omega), up_ne (by omega), up_ne (by omega), up_ne (by omega), up_ne (by omega), a1 c (by omega), up_ne (by omega)]
  have o3 : ∀ c, c < 99 ∨ 105 < c → h3 c = hm c := fun c hc => by rw [b1 c (by omega), up_ne (by omega), up_ne (by omega), up_ne (by omega), up_ne (by omega), a1 c (by omega), up_ne (by omega)]
  refine ⟨_, Prod.ext ?_ rfl |> congrArg some, ?_⟩
  · show h5 99 5 = nI C
    rw [f99]
    rfl
  · refine ⟨fun c hc => ?_, ⟨?_, ?_, ?_, ?_, rfl, rfl, rfl, rfl, rfl, ?_⟩, ?_, fun c hc => ?_, fun k hk => ?_, ?_, ⟨rfl, rfl⟩, fun k hk => ?_, fun c hc => ?_, fun t ht => ?_⟩
    · rw [up_ne (by omega), up_ne (by omega), up_ne (by omega), up_ne (by omega), up_ne (by omega), up_ne (by omega), up_ne (by omega)]
      exact o c hc
    · show h5 99 11 = 0
      rw [f99]
      show h1 99 11 = 0
      rw [a1 99 (by omega)]
      rfl
    · show h5 99 3 = nI P
      rw [f99]
      rfl
    · show h5 99 5 = nI C
      rw [f99]
      rfl
    · show h5 99 8 = nI Tn
      rw [f99]
      rfl
    · show h5 99 16 = _
      exact g99 16 (by omega) (by omega) (by omega) (by omega)
    · show h5 100 0 = 0
      rw [d1 100 (by omega), c3 0 (by omega), b1 100 (by omega), f100 0 (by omega)]
      exact a2 0 (by omega)
    · show h5 100 (1 + c) = _
      rw [d1 100 (by omega)]
      by_cases z : c < C
      · rw [if_pos z, (c2 c z).1, o3 108 (by omega)]
      · rw [if_neg z, c3 (1 + c) (by omega), b1 100 (by omega), f100 _ (by omega)]
        exact a2 _ (by omega)
    · show h5 100 (6 + k) = _
      rw [d1 100 (by omega), c3 (6 + k) (by omega), b1 100 (by omega), f100 _ (by omega)]
      exact a2 _ (by omega)
    · show h5 100 31 = _
      rw [d1 100 (by omega), c3 31 (by omega), b1 100 (by omega)]
      rfl
    · show h5 102 k = _
      rw [d1 102 (by omega), c1 102 (by omega) (by omega) (by omega), b2 k hk]
      show h1 107 k = _
      rw [a1 107 (by omega)]
      rfl
    · show h5 103 c = _ ∧ h5 104 c = _
      rw [d1 103 (by omega), d1 104 (by omega), (c2 c hc).2.1, (c2 c hc).2.2, o3 108 (by omega)]
      exact ⟨rfl, rfl⟩
    · show h5 105 t = _
      rw [d2 t ht, c1 109 (by omega) (by omega) (by omega), o3 109 (by omega)]
end
section
def BX2 (hx h1 : HP) (b b' C : Nat) : Prop := (∀ c, c ≠ 0 → c ≠ 1 → c ≠ 3 → c ≠ 4 → c ≠ 5 → c ≠ 6 → c ≠ 68 → c ≠ 86 → h1 c = hx c) ∧ (h1 0 8 = nI b' ∧ h1 0 9 = nI b ∧ h1 0 10 = hx 1 2 ∧ h1 0 11 = hx 0 11 ∧ h1 1 1 = 0 ∧ h1 3 2 = 0) ∧ (∀ c, c < 5 → h1 4 c = if c < C then hx (b' + 2) c else 0) ∧ (∀ k, k < 25 → h1 5 k = 0) ∧ (h1 6 1 = hx 6 1 ∧ h1 6 2 = 0) ∧ (h1 68 7 = 0 ∧ h1 68 8 = 0 ∧ h1 68 9 = 0 ∧ h1 68 10 = 0) ∧ ∀ j, j < 2 → h1 86 j = 0
theorem b_L85M (K : HP → Option (Int32 × HP)) (hp : HP) (M : Option (Int32 × HP) → Prop) (H : ∀ h : HP, (∀ c, c ≠ 86 → h c = hp c) ∧ (∀ j, j < 2 → h 86 j = 0) → M (K h)) : M (f_BA_branch_L85 K FU hp 0) := by
  obtain ⟨h, e, a⟩ := b_L85 K hp
  rw [e]
  exact H h a
theorem isBt {b : Nat} (h : b = 87 ∨ b = 93) : isB b = true := by
  rcases h with rfl | rfl <;> rfl
theorem x_branch1 {hp hx : HP} {b b' C : Nat} (hb : (b = 87 ∧ b' = 93) ∨ (b = 93 ∧ b' = 87)) (e9 : hp 0 9 = nI b') (eA : f_Re_readInto hp b' = some (hx 1 3, hx)) (z : hx 1 3 = 0) (x8 : hx 0 8 = nI b) (x9 : hx 0 9 = nI b') (xC : hx b' 6 = nI C) (hC : C ≤ 5) : ∃ h1, f_BA_branch hp = some (nI C, h1) ∧ BX2 hx h1 b b' C := by
  have k9 : (hp 0 9).toNatClampNeg = b' := by rw [e9]; exact cl_n (by omega)
  unfold f_BA_branch
  rw [if_pos (show isB (hp 0 9).toNatClampNeg = true by rw [k9]; exact isBt (by omega)), k9, eA, Option.bind_some]
  dsimp only
  rw [if_pos z]
  have j8 : (up (up hx 0 10 (hx 1 2)) 1 1 (0 : Int32) 0 8).toNatClampNeg = b := by
    show (hx 0 8).toNatClampNeg = b
    rw [x8]; exact cl_n (by omega)
  have j9 : (up (up hx 0 10 (hx 1 2)) 1 1 (0 : Int32) 0 9).toNatClampNeg = b' := by
    show (hx 0 9).toNatClampNeg = b'
    rw [x9]; exact cl_n (by omega)
  rw [if_pos (show isB (up (up hx 0 10 (hx 1 2)) 1 1 (0 : Int32) 0 8).toNatClampNeg = true by rw [j8]; exact isBt (by omega)), if_pos (show isB (up (up hx 0 10 (hx 1 2)) 1 1 (0 : Int32) 0 9).toNatClampNeg = true by rw [j9]; exact isBt (by omega))]
  simp only [j8, j9]
  have j3 : (up (up (up (up hx 0 10 (hx 1 2)) 1 1 (0 : Int32)) 0 8 (nI b')) 0 9 (nI b) 0 8).toNatClampNeg = b' := by
    show (nI b').toNatClampNeg = b'
    exact cl_n (by omega)
  rw [if_pos (show isB (up (up (up (up hx 0 10 (hx 1 2)) 1 1 (0 : Int32)) 0 8 (nI b')) 0 9 (nI b) 0 8).toNatClampNeg = true by rw [j3]; exact isBt (by omega)), j3]
  obtain ⟨h3, e3⟩ : ∃ h3, h3 = up (up (up (up hx 0 10 (hx 1 2)) 1 1 (0 : Int32)) 0 8 (nI b')) 0 9 (nI b) := ⟨_, rfl⟩
  rw [← e3]
  have o3 : ∀ c, c ≠ 0 → c ≠ 1 → h3 c = hx c := fun c h1 h2 => by rw [e3, up_ne h1, up_ne h1, up_ne h2, up_ne h1]
  obtain ⟨h4, e4, a1, a2, a3, a4⟩ := b_begin h3 (q := b') (C := C) (by omega) hC (by rw [o3 b' (by omega) (by omega)]; exact xC)
  rw [e4, Option.bind_some]
  unfold f_Pa_clear f_Sl_clear
  rw [Option.bind_some, Option.bind_some]
  dsimp only
  refine b_L85M _ _ (fun x => ∃ h1, x = some (nI C, h1) ∧ BX2 hx h1 b b' C) ?_
  intro h5 ⟨b1, b2⟩
  have o5 : ∀ c, c ≠ 0 → c ≠ 1 → c ≠ 3 → c ≠ 4 → c ≠ 5 → c ≠ 6 → c ≠ 68 → c ≠ 86 → h5 c = hx c := fun c h0 h1 h3 h4 h5 h6 h68 h86 => by rw [b1 c h86, up_ne h68, up_ne h68, up_ne h68, up_ne h68, up_ne h6, a1 c h3 h4 h5, o3 c h0 h1]
  have f0 : h5 0 = h3 0 := by rw [b1 0 (by omega), up_ne (by omega), up_ne (by omega), up_ne (by omega), up_ne (by omega), up_ne (by omega), a1 0 (by omega) (by omega) (by omega)]
  have f1 : h5 1 = h3 1 := by rw [b1 1 (by omega), up_ne (by omega), up_ne (by omega), up_ne (by omega), up_ne (by omega), up_ne (by omega), a1 1 (by omega) (by omega) (by omega)]
  have g8 : (h5 0 8).toNatClampNeg = b' := by rw [f0, e3]; exact j3
  rw [if_pos (show isB (h5 0 8).toNatClampNeg = true by rw [g8]; exact isBt (by omega)), g8, o5 b' (by omega) (by omega) (by omega) (by omega) (by omega) (by omega) (by omega) (by omega), xC]
  refine ⟨h5, rfl, o5, ⟨by rw [f0, e3]; rfl, by rw [f0, e3]; rfl, by rw [f0, e3]; rfl, by rw [f0, e3]; rfl, by rw [f1, e3]; rfl, ?_⟩, fun c hc => ?_, fun k hk => ?_, ⟨?_, ?_⟩, ⟨?_, ?_, ?_, ?_⟩, b2⟩
  · rw [b1 3 (by omega)]; exact a2
  · rw [b1 4 (by omega), ← o3 (b' + 2) (by omega) (by omega)]; exact a3 c hc
  · rw [b1 5 (by omega)]; exact a4 k hk
  · rw [b1 6 (by omega)]
    show h4 6 1 = _
    rw [a1 6 (by omega) (by omega) (by omega), o3 6 (by omega) (by omega)]
  · rw [b1 6 (by omega)]; rfl
  · rw [b1 68 (by omega)]; rfl
  · rw [b1 68 (by omega)]; rfl
  · rw [b1 68 (by omega)]; rfl
  · rw [b1 68 (by omega)]; rfl
theorem Rbr_cong2 (hp : HP) {hp' : HP} {b P Cn Tn : Nat} (h : ∀ q, (b ≤ q ∧ q ≤ b + 5) ∨ (102 ≤ q ∧ q ≤ 105) → hp' q = hp q) (h1 : hp' 99 3 = hp 99 3) (h2 : hp' 99 5 = hp 99 5) (h3 : hp' 99 8 = hp 99 8) (k : Rbr hp b P Cn Tn) : Rbr hp' b P Cn Tn := by
  unfold Rbr at *
  rw [h b (by omega), h (b + 1) (by omega), h (b + 3) (by omega), h (b + 4) (by omega), h (b + 5) (by omega), h 102 (by omega), h 103 (by omega), h 104 (by omega), h 105 (by omega), h1, h2, h3]
  exact k
theorem S_branch {hp : HP} (h : R hp) : Sim hp (fun x => f_BA_branch x) (fun x => f_Mo_branch x) := by
  obtain ⟨b, b', P, Cn, Tn, hr, ⟨N, hN, t1, t2, t3⟩, hbr, hst, him, hpa, hsl⟩ := h
  have hb := hr.1
  have hT : ∀ k, k < N → hp 106 k ≠ -1 := fun k hk e => by
    have := (t3 k hk).2.1
    rw [e] at this
    exact absurd this (by decide)
  have hq : b' = 87 ∨ b' = 93 := by omega
  obtain ⟨hx, hm0, r0, eA, -, h0⟩ := p_into (T := hp 106) (hx := hp) (hm := hp) hq hN hT t1 (fun j hj => (t3 j hj).1) t2 (fun _ _ => rfl) KM
  have xf : XF b' hp hx := by
    rcases h0 with ⟨-, P, C, Tn, k⟩ | ⟨-, f, p, -, k, -⟩
    · exact k.xf
    · exact k.2.2.2.2
  have k9 : (hp 0 9).toNatClampNeg = b' := by rw [hr.2.2.1]; exact cl_n (by omega)
  rcases h0 with ⟨-, P', C', Tn', k⟩ | ⟨-, f, p, hf, k, -⟩
  · -- the text is a branch
    obtain ⟨h1, e1, a1, ⟨a2, a3, a4, a5, a6, a7⟩, a8, a9, a10, a11, a12⟩ := x_branch1 (hp := hp) (hx := hx) (C := C') hb hr.2.2.1 eA k.x3 (by rw [xf.1 0 (by omega) (by omega)]; exact hr.2.1) (by rw [xf.1 0 (by omega) (by omega)]; exact hr.2.2.1) k.xC k.hC
    have o1 : ∀ c, 98 < c → h1 c = hp c := fun c hc => by rw [a1 c (by omega) (by omega) (by omega) (by omega) (by omega) (by omega) (by omega) (by omega)]; exact xf.1 c (by omega) (by omega)
    obtain ⟨hx', hm, r, eB, eM, h2⟩ := p_into (T := hp 106) (hx := hp) (hm := h1) hq hN hT t1 (fun j hj => (t3 j hj).1) (by rw [o1 99 (by omega)]; exact t2) (fun j _ => by rw [o1 106 (by omega)]) KM
    have ex : hx' = hx := by
      rw [eA] at eB
      injection eB with eB
      injection eB with _ eB
      exact eB.symm
    rw [ex] at h2
    rcases h2 with ⟨rfl, P2, C2, T2, m⟩ | ⟨rfl, f, p, hf, m, -⟩
    · have eC : C2 = C' := by
        have := m.xC
        rw [k.xC] at this
        have i1 := k.hC
        have i2 := m.hC
        exact ((nI_eq (by omega) (by omega)).mp this).symm
      subst eC
      obtain ⟨h3, e3, c1, ⟨c2, c3, c4, c5, c6, c7, c8, c9, c10, c11⟩, c12, c13, c14, c15, ⟨c16, c17⟩, c18, c19, c20⟩ := KM_1 m.hP m.hC m.hT m.mP m.mC m.mT
      refine ⟨nI C2, h1, h3, e1, ?_, ?_⟩
      · show f_Mo_branch h1 = _
        rw [m_branch_KM, eM, e3]
      · have o3 : ∀ c, c < 99 → h3 c = h1 c := fun c hc => by rw [c1 c (by omega)]; exact m.mf.1 c (by omega) (by omega) (by omega) (by omega)
        have ox : ∀ c, (b' ≤ c ∧ c ≤ b' + 5) → h3 c = hx c := fun c hc => by rw [o3 c (by omega)]; exact a1 c (by omega) (by omega) (by omega) (by omega) (by omega) (by omega) (by omega) (by omega)
        have mC := m.hC
        refine ⟨b', b, P2, C2, T2, ⟨by omega, by rw [o3 0 (by omega)]; exact a2, by rw [o3 0 (by omega)]; exact a3, by rw [o3 0 (by omega), a4, c11, m.m6, k.x2]⟩, ⟨0, by omega, by rw [o3 1 (by omega)]; exact a6, c2, fun i hi => by omega⟩, ⟨⟨m.hP, m.hC, m.hT⟩, ?_, ⟨c3, c4, c5⟩, fun k hk => ?_, fun c hc => ?_, fun t ht => ?_⟩, ⟨⟨?_, fun c hc => ?_, fun k hk => ?_, fun c d hc hd => ?_, fun c d hc hd _ => ?_⟩, ?_, ?_⟩, fun i hi => Or.inl ⟨?_, ?_⟩, ?_, ?_⟩
        · rw [ox b' (by omega)]; exact ⟨m.xP, m.xC, m.xT⟩
        · rw [ox (b' + 1) (by omega), c18 k hk]; exact m.pp k hk
        · rw [ox (b' + 3) (by omega), ox (b' + 4) (by omega), (c19 c hc).1, (c19 c hc).2]
          have q := m.cc c hc
          exact ⟨q.1.2.1, q.1.2.2, q.2.2.1, q.2.2.2⟩
        · rw [ox (b' + 5) (by omega), c20 t ht]; exact m.tt t ht
        · rw [o3 3 (by omega), a7]; exact c12.symm
        · rw [o3 4 (by omega), a8 c hc, Nat.zero_add, c13 c hc]
          by_cases z : c < C2
          · have q := m.cc c z
            rw [if_pos z, if_pos z, q.1.1]
            refine ⟨rfl, ?_⟩
            have i500 : (500 : Int32).toInt = 500 := rfl
            rw [sub_i (by rw [i500]; omega), i500]
            omega
          · rw [if_neg z, if_neg z]
            exact ⟨rfl, by decide, by decide⟩
        · rw [o3 5 (by omega), a9 k hk, Nat.zero_add, c14 k hk]
        · rw [o3 5 (by omega), a9 _ (by omega), a9 _ (by omega)]; rfl
        · rw [o3 5 (by omega), a9 _ (by omega)]
        · rw [o3 0 (by omega), a5, c15, m.mf.1 100 (by omega) (by omega) (by omega) (by omega), o1 100 (by omega), xf.1 0 (by omega) (by omega)]; exact hst.2.1
        · rw [c15, m.mf.1 100 (by omega) (by omega) (by omega) (by omega), o1 100 (by omega)]; exact hst.2.2
        · rw [o3 86 (by omega)]; exact a12 i hi
        · rcases (show i = 0 ∨ i = 1 by omega) with rfl | rfl
          · exact c16
          · exact c17
        · obtain ⟨nx, ct, g1, g2, g3, g4, g5, g6⟩ := hpa
          refine Rpa_0 g1 ?_ ?_ c10
          · rw [o3 6 (by omega), a10.1, xf.1 6 (by omega) (by omega)]; exact g3
          · rw [o3 6 (by omega)]; exact a10.2
        · refine ⟨0, 0, 0, 0, by omega, ?_, ⟨c6, c7, c8, c9⟩, fun i hi => by omega, fun i hi => by omega, fun i hi => by omega, fun i hi => by omega⟩
          rw [o3 68 (by omega)]; exact a11
    · exact absurd (m.2.2.1.1.symm.trans k.x3) hf
  · -- a fault
    have z : ¬ hx 1 3 = 0 := by rw [k.2.2.1.1]; exact hf
    have e1 : f_BA_branch hp = some ((-10 : Int32) - hx 1 3, up (up hx 0 10 (hx 1 2)) 1 1 (0 : Int32)) := by
      unfold f_BA_branch
      rw [if_pos (show isB (hp 0 9).toNatClampNeg = true by rw [k9]; exact isBt (by omega)), k9, eA, Option.bind_some]
      dsimp only
      rw [if_neg z]
    obtain ⟨h1, eh⟩ : ∃ h1, h1 = up (up hx 0 10 (hx 1 2)) 1 1 (0 : Int32) := ⟨_, rfl⟩
    rw [← eh] at e1
    have o1 : ∀ c, c ≠ 0 → c ≠ 1 → h1 c = hx c := fun c h0 h1 => by rw [eh, up_ne h1, up_ne h0]
    have o2 : ∀ c, c ≠ 0 → c ≠ 1 → (c < b' ∨ b' + 5 < c) → h1 c = hp c := fun c h0 h1 h2 => by rw [o1 c h0 h1]; exact xf.1 c h1 h2
    obtain ⟨hx', hm, r, eB, eM, h2⟩ := p_into (T := hp 106) (hx := hp) (hm := h1) hq hN hT t1 (fun j hj => (t3 j hj).1) (by rw [o2 99 (by omega) (by omega) (by omega)]; exact t2) (fun j _ => by rw [o2 106 (by omega) (by omega) (by omega)]) KM
    have ex : hx' = hx := by
      rw [eA] at eB
      injection eB with eB
      injection eB with _ eB
      exact eB.symm
    rw [ex] at h2
    rcases h2 with ⟨rfl, P2, C2, T2, m⟩ | ⟨rfl, f2, p2, hf2, m, mf, m5, m6⟩
    · exact absurd m.x3 z
    · refine ⟨(-10 : Int32) - hx 1 3, h1, up hm 99 11 0, e1, ?_, ?_⟩
      · show f_Mo_branch h1 = _
        rw [m_branch_KM, eM]
        unfold KM
        rw [if_pos rfl]
        have : up hm 99 11 (0 : Int32) 99 15 = hx 1 3 := by
          show hm 99 15 = _
          rw [m5, m.2.2.1.1]
        rw [this]
      · have o3 : ∀ c, c ≠ 0 → c ≠ 1 → c ≠ 99 → c ≠ 107 → c ≠ 108 → c ≠ 109 → (c < b' ∨ b' + 5 < c) → up hm 99 11 (0 : Int32) c = hp c := fun c i0 i1 i2 i3 i4 i5 i6 => by rw [up_ne i2, mf.1 c i2 i3 i4 i5]; exact o2 c i0 i1 i6
        have f0 : up hm 99 11 (0 : Int32) 0 = up hx 0 10 (hx 1 2) 0 := by rw [up_ne (by omega), mf.1 0 (by omega) (by omega) (by omega) (by omega), eh, up_ne (by omega)]
        have f9 : ∀ j, j < 11 ∨ 21 < j → up hm 99 11 (0 : Int32) 99 j = hp 99 j := fun j hj => by rw [up_eq, upd_ne (by omega), mf.2 j (by omega), o2 99 (by omega) (by omega) (by omega)]
        have x0 : hx 0 = hp 0 := xf.1 0 (by omega) (by omega)
        refine ⟨b, b', P, Cn, Tn, ⟨hb, by rw [f0]; show hx 0 8 = _; rw [x0]; exact hr.2.1, by rw [f0]; show hx 0 9 = _; rw [x0]; exact hr.2.2.1, ?_⟩, ⟨0, by omega, ?_, rfl, fun i hi => by omega⟩, Rbr_cong2 hp (fun q hq => o3 q (by omega) (by omega) (by omega) (by omega) (by omega) (by omega) (by omega)) (f9 3 (by omega)) (f9 5 (by omega)) (f9 8 (by omega)) hbr, Rst_cong hp (fun q hq => o3 q (by omega) (by omega) (by omega) (by omega) (by omega) (by omega) (by omega)) ?_ hst, Rim_cong hp (fun q hq => o3 q (by omega) (by omega) (by omega) (by omega) (by omega) (by omega) (by omega)) him, Rpa_cong hp (fun q hq => o3 q (by omega) (by omega) (by omega) (by omega) (by omega) (by omega) (by omega)) (f9 2 (by omega)) hpa, Rsl_cong hp (fun q hq => o3 q (by omega) (by omega) (by omega) (by omega) (by omega) (by omega) (by omega)) (f9 23 (by omega)) (f9 25 (by omega)) (f9 29 (by omega)) (f9 32 (by omega)) hsl⟩
        · rw [f0]
          show hx 1 2 = hm 99 16
          rw [m6, m.2.2.1.2]
        · rw [up_ne (by omega), mf.1 1 (by omega) (by omega) (by omega) (by omega), eh]; rfl
        · rw [f0]; show hx 0 11 = _; rw [x0]
end
