section
-- ===== PART A: goes FIRST, ahead of the names: the tables' words, and 'selects' of the private methods out of them =====
/-- a private method of a class that the tables say can be made, by its rows of tables_1 -/
def lw_okq (q : MethodName × Nat) : Prop := (q.1.cls ≠ "java/lang/invoke/MethodHandle" ∧ q.1.cls ≠ "java/lang/invoke/VarHandle") ∧ Cond.instantiable q.1.cls q.2 ∈ tables_1 ∧ Cond.privateMethod q.1 ∈ tables_1 ∧ Cond.instanceMethod q.1 ∈ tables_1
theorem lw_p0 : lw_okq (⟨"BodyAccounts$Reader", "skipBlanks", "()V"⟩, 5) := ⟨⟨by decide +kernel, by decide +kernel⟩, List.mem_of_getElem? (i := 20) (by decide +kernel), List.mem_of_getElem? (i := 250) (by decide +kernel), List.mem_of_getElem? (i := 251) (by decide +kernel)⟩
theorem lw_p1 : lw_okq (⟨"BodyAccounts$Reader", "letter", "()I"⟩, 5) := ⟨⟨by decide +kernel, by decide +kernel⟩, List.mem_of_getElem? (i := 20) (by decide +kernel), List.mem_of_getElem? (i := 254) (by decide +kernel), List.mem_of_getElem? (i := 255) (by decide +kernel)⟩
theorem lw_p2 : lw_okq (⟨"BodyAccounts$Reader", "readClause", "(LBodyAccounts$Branch;)V"⟩, 5) := ⟨⟨by decide +kernel, by decide +kernel⟩, List.mem_of_getElem? (i := 20) (by decide +kernel), List.mem_of_getElem? (i := 258) (by decide +kernel), List.mem_of_getElem? (i := 259) (by decide +kernel)⟩
theorem lw_p3 : lw_okq (⟨"BodyAccounts$Reader", "readParts", "(LBodyAccounts$Branch;)V"⟩, 5) := ⟨⟨by decide +kernel, by decide +kernel⟩, List.mem_of_getElem? (i := 20) (by decide +kernel), List.mem_of_getElem? (i := 266) (by decide +kernel), List.mem_of_getElem? (i := 267) (by decide +kernel)⟩
theorem lw_p4 : lw_okq (⟨"BodyAccounts$Reader", "readNumber", "(I)I"⟩, 5) := ⟨⟨by decide +kernel, by decide +kernel⟩, List.mem_of_getElem? (i := 20) (by decide +kernel), List.mem_of_getElem? (i := 270) (by decide +kernel), List.mem_of_getElem? (i := 271) (by decide +kernel)⟩
theorem lw_p5 : lw_okq (⟨"BodyAccounts$Reader", "fail", "(II)V"⟩, 5) := ⟨⟨by decide +kernel, by decide +kernel⟩, List.mem_of_getElem? (i := 20) (by decide +kernel), List.mem_of_getElem? (i := 277) (by decide +kernel), List.mem_of_getElem? (i := 278) (by decide +kernel)⟩
theorem lw_p6 : lw_okq (⟨"BodyAccounts$Reader", "readWord", "(I)V"⟩, 5) := ⟨⟨by decide +kernel, by decide +kernel⟩, List.mem_of_getElem? (i := 20) (by decide +kernel), List.mem_of_getElem? (i := 285) (by decide +kernel), List.mem_of_getElem? (i := 286) (by decide +kernel)⟩
theorem lw_p7 : lw_okq (⟨"BodyAccounts$Reader", "readCustomer", "(LBodyAccounts$Branch;)V"⟩, 5) := ⟨⟨by decide +kernel, by decide +kernel⟩, List.mem_of_getElem? (i := 20) (by decide +kernel), List.mem_of_getElem? (i := 289) (by decide +kernel), List.mem_of_getElem? (i := 290) (by decide +kernel)⟩
theorem lw_p8 : lw_okq (⟨"BodyAccounts", "hats", "()I"⟩, 12) := ⟨⟨by decide +kernel, by decide +kernel⟩, List.mem_of_getElem? (i := 12) (by decide +kernel), List.mem_of_getElem? (i := 325) (by decide +kernel), List.mem_of_getElem? (i := 326) (by decide +kernel)⟩
theorem lw_p9 : lw_okq (⟨"BodyAccounts", "wholes", "(Z)I"⟩, 12) := ⟨⟨by decide +kernel, by decide +kernel⟩, List.mem_of_getElem? (i := 12) (by decide +kernel), List.mem_of_getElem? (i := 333) (by decide +kernel), List.mem_of_getElem? (i := 334) (by decide +kernel)⟩
theorem lw_p10 : lw_okq (⟨"BodyAccounts", "cleared", "()I"⟩, 12) := ⟨⟨by decide +kernel, by decide +kernel⟩, List.mem_of_getElem? (i := 12) (by decide +kernel), List.mem_of_getElem? (i := 355) (by decide +kernel), List.mem_of_getElem? (i := 356) (by decide +kernel)⟩
theorem lw_p11 : lw_okq (⟨"BodyAccounts", "areTwo", "(II)Z"⟩, 12) := ⟨⟨by decide +kernel, by decide +kernel⟩, List.mem_of_getElem? (i := 12) (by decide +kernel), List.mem_of_getElem? (i := 382) (by decide +kernel), List.mem_of_getElem? (i := 383) (by decide +kernel)⟩
theorem lw_p12 : lw_okq (⟨"BodyAccounts", "wager", "()V"⟩, 12) := ⟨⟨by decide +kernel, by decide +kernel⟩, List.mem_of_getElem? (i := 12) (by decide +kernel), List.mem_of_getElem? (i := 458) (by decide +kernel), List.mem_of_getElem? (i := 459) (by decide +kernel)⟩
theorem lw_p13 : lw_okq (⟨"BodyAccounts", "draw", "(I)I"⟩, 12) := ⟨⟨by decide +kernel, by decide +kernel⟩, List.mem_of_getElem? (i := 12) (by decide +kernel), List.mem_of_getElem? (i := 462) (by decide +kernel), List.mem_of_getElem? (i := 463) (by decide +kernel)⟩
theorem lw_p14 : lw_okq (⟨"BodyAccounts$Planner", "give", "(III)V"⟩, 1) := ⟨⟨by decide +kernel, by decide +kernel⟩, List.mem_of_getElem? (i := 135) (by decide +kernel), List.mem_of_getElem? (i := 516) (by decide +kernel), List.mem_of_getElem? (i := 517) (by decide +kernel)⟩
theorem lw_p15 : lw_okq (⟨"BodyAccounts$Planner", "works", "(LBodyAccounts$Branch;LBodyAccounts$Slate;III)Z"⟩, 1) := ⟨⟨by decide +kernel, by decide +kernel⟩, List.mem_of_getElem? (i := 135) (by decide +kernel), List.mem_of_getElem? (i := 520) (by decide +kernel), List.mem_of_getElem? (i := 521) (by decide +kernel)⟩
def lw_privs_1 : List (MethodName × Nat) := [(⟨"BodyAccounts$Reader", "skipBlanks", "()V"⟩, 5), (⟨"BodyAccounts$Reader", "letter", "()I"⟩, 5), (⟨"BodyAccounts$Reader", "readClause", "(LBodyAccounts$Branch;)V"⟩, 5), (⟨"BodyAccounts$Reader", "readParts", "(LBodyAccounts$Branch;)V"⟩, 5), (⟨"BodyAccounts$Reader", "readNumber", "(I)I"⟩, 5), (⟨"BodyAccounts$Reader", "fail", "(II)V"⟩, 5), (⟨"BodyAccounts$Reader", "readWord", "(I)V"⟩, 5), (⟨"BodyAccounts$Reader", "readCustomer", "(LBodyAccounts$Branch;)V"⟩, 5), (⟨"BodyAccounts", "hats", "()I"⟩, 12), (⟨"BodyAccounts", "wholes", "(Z)I"⟩, 12), (⟨"BodyAccounts", "cleared", "()I"⟩, 12), (⟨"BodyAccounts", "areTwo", "(II)Z"⟩, 12), (⟨"BodyAccounts", "wager", "()V"⟩, 12), (⟨"BodyAccounts", "draw", "(I)I"⟩, 12), (⟨"BodyAccounts$Planner", "give", "(III)V"⟩, 1), (⟨"BodyAccounts$Planner", "works", "(LBodyAccounts$Branch;LBodyAccounts$Slate;III)Z"⟩, 1)]
theorem lw_r1 : ∀ q ∈ lw_privs_1, lw_okq q := List.forall_mem_cons.mpr ⟨lw_p0, List.forall_mem_cons.mpr ⟨lw_p1, List.forall_mem_cons.mpr ⟨lw_p2, List.forall_mem_cons.mpr ⟨lw_p3, List.forall_mem_cons.mpr ⟨lw_p4, List.forall_mem_cons.mpr ⟨lw_p5, List.forall_mem_cons.mpr ⟨lw_p6, List.forall_mem_cons.mpr ⟨lw_p7, List.forall_mem_cons.mpr ⟨lw_p8, List.forall_mem_cons.mpr ⟨lw_p9, List.forall_mem_cons.mpr ⟨lw_p10, List.forall_mem_cons.mpr ⟨lw_p11, List.forall_mem_cons.mpr ⟨lw_p12, List.forall_mem_cons.mpr ⟨lw_p13, List.forall_mem_cons.mpr ⟨lw_p14, List.forall_mem_cons.mpr ⟨lw_p15, fun _ h => absurd h List.not_mem_nil⟩⟩⟩⟩⟩⟩⟩⟩⟩⟩⟩⟩⟩⟩⟩⟩
theorem lw_p16 : lw_okq (⟨"BodyAccounts$Planner", "sumGivenTo", "(ILBodyAccounts$Slate;)I"⟩, 1) := ⟨⟨by decide +kernel, by decide +kernel⟩, List.mem_of_getElem? (i := 135) (by decide +kernel), List.mem_of_getElem? (i := 525) (by decide +kernel), List.mem_of_getElem? (i := 526) (by decide +kernel)⟩
theorem lw_p17 : lw_okq (⟨"BodyAccounts", "isDoableOnlyAsOne", "(III)Z"⟩, 12) := ⟨⟨by decide +kernel, by decide +kernel⟩, List.mem_of_getElem? (i := 12) (by decide +kernel), List.mem_of_getElem? (i := 538) (by decide +kernel), List.mem_of_getElem? (i := 539) (by decide +kernel)⟩
theorem lw_p18 : lw_okq (⟨"BodyAccountsModel", "here", "()I"⟩, 35) := ⟨⟨by decide +kernel, by decide +kernel⟩, List.mem_of_getElem? (i := 619) (by decide +kernel), List.mem_of_getElem? (i := 745) (by decide +kernel), List.mem_of_getElem? (i := 746) (by decide +kernel)⟩
theorem lw_p19 : lw_okq (⟨"BodyAccountsModel", "letterAt", "(I)I"⟩, 35) := ⟨⟨by decide +kernel, by decide +kernel⟩, List.mem_of_getElem? (i := 619) (by decide +kernel), List.mem_of_getElem? (i := 749) (by decide +kernel), List.mem_of_getElem? (i := 750) (by decide +kernel)⟩
theorem lw_p20 : lw_okq (⟨"BodyAccountsModel", "takesClause", "()Z"⟩, 35) := ⟨⟨by decide +kernel, by decide +kernel⟩, List.mem_of_getElem? (i := 619) (by decide +kernel), List.mem_of_getElem? (i := 753) (by decide +kernel), List.mem_of_getElem? (i := 754) (by decide +kernel)⟩
theorem lw_p21 : lw_okq (⟨"BodyAccountsModel", "fails", "(II)Z"⟩, 35) := ⟨⟨by decide +kernel, by decide +kernel⟩, List.mem_of_getElem? (i := 619) (by decide +kernel), List.mem_of_getElem? (i := 757) (by decide +kernel), List.mem_of_getElem? (i := 758) (by decide +kernel)⟩
theorem lw_p22 : lw_okq (⟨"BodyAccountsModel", "takesBranch", "()Z"⟩, 35) := ⟨⟨by decide +kernel, by decide +kernel⟩, List.mem_of_getElem? (i := 619) (by decide +kernel), List.mem_of_getElem? (i := 761) (by decide +kernel), List.mem_of_getElem? (i := 762) (by decide +kernel)⟩
theorem lw_p23 : lw_okq (⟨"BodyAccountsModel", "takesNumber", "(II)Z"⟩, 35) := ⟨⟨by decide +kernel, by decide +kernel⟩, List.mem_of_getElem? (i := 619) (by decide +kernel), List.mem_of_getElem? (i := 765) (by decide +kernel), List.mem_of_getElem? (i := 766) (by decide +kernel)⟩
theorem lw_p24 : lw_okq (⟨"BodyAccountsModel", "takesCustomer", "()Z"⟩, 35) := ⟨⟨by decide +kernel, by decide +kernel⟩, List.mem_of_getElem? (i := 619) (by decide +kernel), List.mem_of_getElem? (i := 771) (by decide +kernel), List.mem_of_getElem? (i := 772) (by decide +kernel)⟩
theorem lw_p25 : lw_okq (⟨"BodyAccountsModel", "takesTask", "()Z"⟩, 35) := ⟨⟨by decide +kernel, by decide +kernel⟩, List.mem_of_getElem? (i := 619) (by decide +kernel), List.mem_of_getElem? (i := 775) (by decide +kernel), List.mem_of_getElem? (i := 776) (by decide +kernel)⟩
theorem lw_p26 : lw_okq (⟨"BodyAccountsModel", "takes", "(I)Z"⟩, 35) := ⟨⟨by decide +kernel, by decide +kernel⟩, List.mem_of_getElem? (i := 619) (by decide +kernel), List.mem_of_getElem? (i := 779) (by decide +kernel), List.mem_of_getElem? (i := 780) (by decide +kernel)⟩
theorem lw_p27 : lw_okq (⟨"BodyAccountsModel", "hats", "()I"⟩, 35) := ⟨⟨by decide +kernel, by decide +kernel⟩, List.mem_of_getElem? (i := 619) (by decide +kernel), List.mem_of_getElem? (i := 791) (by decide +kernel), List.mem_of_getElem? (i := 792) (by decide +kernel)⟩
theorem lw_p28 : lw_okq (⟨"BodyAccountsModel", "thereOf", "(I)I"⟩, 35) := ⟨⟨by decide +kernel, by decide +kernel⟩, List.mem_of_getElem? (i := 619) (by decide +kernel), List.mem_of_getElem? (i := 795) (by decide +kernel), List.mem_of_getElem? (i := 796) (by decide +kernel)⟩
theorem lw_p29 : lw_okq (⟨"BodyAccountsModel", "thereBy", "(I)I"⟩, 35) := ⟨⟨by decide +kernel, by decide +kernel⟩, List.mem_of_getElem? (i := 619) (by decide +kernel), List.mem_of_getElem? (i := 799) (by decide +kernel), List.mem_of_getElem? (i := 800) (by decide +kernel)⟩
theorem lw_p30 : lw_okq (⟨"BodyAccountsModel", "wholes", "(Z)I"⟩, 35) := ⟨⟨by decide +kernel, by decide +kernel⟩, List.mem_of_getElem? (i := 619) (by decide +kernel), List.mem_of_getElem? (i := 803) (by decide +kernel), List.mem_of_getElem? (i := 804) (by decide +kernel)⟩
theorem lw_p31 : lw_okq (⟨"BodyAccountsModel", "net", "(I)I"⟩, 35) := ⟨⟨by decide +kernel, by decide +kernel⟩, List.mem_of_getElem? (i := 619) (by decide +kernel), List.mem_of_getElem? (i := 807) (by decide +kernel), List.mem_of_getElem? (i := 808) (by decide +kernel)⟩
def lw_privs_2 : List (MethodName × Nat) := [(⟨"BodyAccounts$Planner", "sumGivenTo", "(ILBodyAccounts$Slate;)I"⟩, 1), (⟨"BodyAccounts", "isDoableOnlyAsOne", "(III)Z"⟩, 12), (⟨"BodyAccountsModel", "here", "()I"⟩, 35), (⟨"BodyAccountsModel", "letterAt", "(I)I"⟩, 35), (⟨"BodyAccountsModel", "takesClause", "()Z"⟩, 35), (⟨"BodyAccountsModel", "fails", "(II)Z"⟩, 35), (⟨"BodyAccountsModel", "takesBranch", "()Z"⟩, 35), (⟨"BodyAccountsModel", "takesNumber", "(II)Z"⟩, 35), (⟨"BodyAccountsModel", "takesCustomer", "()Z"⟩, 35), (⟨"BodyAccountsModel", "takesTask", "()Z"⟩, 35), (⟨"BodyAccountsModel", "takes", "(I)Z"⟩, 35), (⟨"BodyAccountsModel", "hats", "()I"⟩, 35), (⟨"BodyAccountsModel", "thereOf", "(I)I"⟩, 35), (⟨"BodyAccountsModel", "thereBy", "(I)I"⟩, 35), (⟨"BodyAccountsModel", "wholes", "(Z)I"⟩, 35), (⟨"BodyAccountsModel", "net", "(I)I"⟩, 35)]
theorem lw_r2 : ∀ q ∈ lw_privs_2, lw_okq q := List.forall_mem_cons.mpr ⟨lw_p16, List.forall_mem_cons.mpr ⟨lw_p17, List.forall_mem_cons.mpr ⟨lw_p18, List.forall_mem_cons.mpr ⟨lw_p19, List.forall_mem_cons.mpr ⟨lw_p20, List.forall_mem_cons.mpr ⟨lw_p21, List.forall_mem_cons.mpr ⟨lw_p22, List.forall_mem_cons.mpr ⟨lw_p23, List.forall_mem_cons.mpr ⟨lw_p24, List.forall_mem_cons.mpr ⟨lw_p25, List.forall_mem_cons.mpr ⟨lw_p26, List.forall_mem_cons.mpr ⟨lw_p27, List.forall_mem_cons.mpr ⟨lw_p28, List.forall_mem_cons.mpr ⟨lw_p29, List.forall_mem_cons.mpr ⟨lw_p30, List.forall_mem_cons.mpr ⟨lw_p31, fun _ h => absurd h List.not_mem_nil⟩⟩⟩⟩⟩⟩⟩⟩⟩⟩⟩⟩⟩⟩⟩⟩
theorem lw_p32 : lw_okq (⟨"BodyAccountsModel", "whole", "()I"⟩, 35) := ⟨⟨by decide +kernel, by decide +kernel⟩, List.mem_of_getElem? (i := 619) (by decide +kernel), List.mem_of_getElem? (i := 811) (by decide +kernel), List.mem_of_getElem? (i := 812) (by decide +kernel)⟩
theorem lw_p33 : lw_okq (⟨"BodyAccountsModel", "cleared", "()I"⟩, 35) := ⟨⟨by decide +kernel, by decide +kernel⟩, List.mem_of_getElem? (i := 619) (by decide +kernel), List.mem_of_getElem? (i := 815) (by decide +kernel), List.mem_of_getElem? (i := 816) (by decide +kernel)⟩
theorem lw_p34 : lw_okq (⟨"BodyAccountsModel", "isPart", "(I)Z"⟩, 35) := ⟨⟨by decide +kernel, by decide +kernel⟩, List.mem_of_getElem? (i := 619) (by decide +kernel), List.mem_of_getElem? (i := 823) (by decide +kernel), List.mem_of_getElem? (i := 824) (by decide +kernel)⟩
theorem lw_p35 : lw_okq (⟨"BodyAccountsModel", "isCustomer", "(I)Z"⟩, 35) := ⟨⟨by decide +kernel, by decide +kernel⟩, List.mem_of_getElem? (i := 619) (by decide +kernel), List.mem_of_getElem? (i := 832) (by decide +kernel), List.mem_of_getElem? (i := 833) (by decide +kernel)⟩
theorem lw_p36 : lw_okq (⟨"BodyAccountsModel", "areTwo", "(II)Z"⟩, 35) := ⟨⟨by decide +kernel, by decide +kernel⟩, List.mem_of_getElem? (i := 619) (by decide +kernel), List.mem_of_getElem? (i := 841) (by decide +kernel), List.mem_of_getElem? (i := 842) (by decide +kernel)⟩
theorem lw_p37 : lw_okq (⟨"BodyAccountsModel", "isTask", "(I)Z"⟩, 35) := ⟨⟨by decide +kernel, by decide +kernel⟩, List.mem_of_getElem? (i := 619) (by decide +kernel), List.mem_of_getElem? (i := 849) (by decide +kernel), List.mem_of_getElem? (i := 850) (by decide +kernel)⟩
theorem lw_p38 : lw_okq (⟨"BodyAccountsModel", "canBy", "(II)Z"⟩, 35) := ⟨⟨by decide +kernel, by decide +kernel⟩, List.mem_of_getElem? (i := 619) (by decide +kernel), List.mem_of_getElem? (i := 853) (by decide +kernel), List.mem_of_getElem? (i := 854) (by decide +kernel)⟩
theorem lw_p39 : lw_okq (⟨"BodyAccountsModel", "copy", "(II)V"⟩, 35) := ⟨⟨by decide +kernel, by decide +kernel⟩, List.mem_of_getElem? (i := 619) (by decide +kernel), List.mem_of_getElem? (i := 862) (by decide +kernel), List.mem_of_getElem? (i := 863) (by decide +kernel)⟩
theorem lw_p40 : lw_okq (⟨"BodyAccountsModel", "minds", "()V"⟩, 35) := ⟨⟨by decide +kernel, by decide +kernel⟩, List.mem_of_getElem? (i := 619) (by decide +kernel), List.mem_of_getElem? (i := 871) (by decide +kernel), List.mem_of_getElem? (i := 872) (by decide +kernel)⟩
theorem lw_p41 : lw_okq (⟨"BodyAccountsModel", "behindMonth", "(II)I"⟩, 35) := ⟨⟨by decide +kernel, by decide +kernel⟩, List.mem_of_getElem? (i := 619) (by decide +kernel), List.mem_of_getElem? (i := 875) (by decide +kernel), List.mem_of_getElem? (i := 876) (by decide +kernel)⟩
theorem lw_p42 : lw_okq (⟨"BodyAccountsModel", "changes", "(II)V"⟩, 35) := ⟨⟨by decide +kernel, by decide +kernel⟩, List.mem_of_getElem? (i := 619) (by decide +kernel), List.mem_of_getElem? (i := 887) (by decide +kernel), List.mem_of_getElem? (i := 888) (by decide +kernel)⟩
theorem lw_p43 : lw_okq (⟨"BodyAccountsModel", "owesMore", "(III)V"⟩, 35) := ⟨⟨by decide +kernel, by decide +kernel⟩, List.mem_of_getElem? (i := 619) (by decide +kernel), List.mem_of_getElem? (i := 895) (by decide +kernel), List.mem_of_getElem? (i := 896) (by decide +kernel)⟩
theorem lw_p44 : lw_okq (⟨"BodyAccountsModel", "draw", "(I)I"⟩, 35) := ⟨⟨by decide +kernel, by decide +kernel⟩, List.mem_of_getElem? (i := 619) (by decide +kernel), List.mem_of_getElem? (i := 907) (by decide +kernel), List.mem_of_getElem? (i := 908) (by decide +kernel)⟩
theorem lw_p45 : lw_okq (⟨"BodyAccountsModel", "isPlan", "(II)Z"⟩, 35) := ⟨⟨by decide +kernel, by decide +kernel⟩, List.mem_of_getElem? (i := 619) (by decide +kernel), List.mem_of_getElem? (i := 937) (by decide +kernel), List.mem_of_getElem? (i := 938) (by decide +kernel)⟩
theorem lw_p46 : lw_okq (⟨"BodyAccountsModel", "isSeen", "(I)Z"⟩, 35) := ⟨⟨by decide +kernel, by decide +kernel⟩, List.mem_of_getElem? (i := 619) (by decide +kernel), List.mem_of_getElem? (i := 972) (by decide +kernel), List.mem_of_getElem? (i := 973) (by decide +kernel)⟩
def lw_privs_3 : List (MethodName × Nat) := [(⟨"BodyAccountsModel", "whole", "()I"⟩, 35), (⟨"BodyAccountsModel", "cleared", "()I"⟩, 35), (⟨"BodyAccountsModel", "isPart", "(I)Z"⟩, 35), (⟨"BodyAccountsModel", "isCustomer", "(I)Z"⟩, 35), (⟨"BodyAccountsModel", "areTwo", "(II)Z"⟩, 35), (⟨"BodyAccountsModel", "isTask", "(I)Z"⟩, 35), (⟨"BodyAccountsModel", "canBy", "(II)Z"⟩, 35), (⟨"BodyAccountsModel", "copy", "(II)V"⟩, 35), (⟨"BodyAccountsModel", "minds", "()V"⟩, 35), (⟨"BodyAccountsModel", "behindMonth", "(II)I"⟩, 35), (⟨"BodyAccountsModel", "changes", "(II)V"⟩, 35), (⟨"BodyAccountsModel", "owesMore", "(III)V"⟩, 35), (⟨"BodyAccountsModel", "draw", "(I)I"⟩, 35), (⟨"BodyAccountsModel", "isPlan", "(II)Z"⟩, 35), (⟨"BodyAccountsModel", "isSeen", "(I)Z"⟩, 35)]
theorem lw_r3 : ∀ q ∈ lw_privs_3, lw_okq q := List.forall_mem_cons.mpr ⟨lw_p32, List.forall_mem_cons.mpr ⟨lw_p33, List.forall_mem_cons.mpr ⟨lw_p34, List.forall_mem_cons.mpr ⟨lw_p35, List.forall_mem_cons.mpr ⟨lw_p36, List.forall_mem_cons.mpr ⟨lw_p37, List.forall_mem_cons.mpr ⟨lw_p38, List.forall_mem_cons.mpr ⟨lw_p39, List.forall_mem_cons.mpr ⟨lw_p40, List.forall_mem_cons.mpr ⟨lw_p41, List.forall_mem_cons.mpr ⟨lw_p42, List.forall_mem_cons.mpr ⟨lw_p43, List.forall_mem_cons.mpr ⟨lw_p44, List.forall_mem_cons.mpr ⟨lw_p45, List.forall_mem_cons.mpr ⟨lw_p46, fun _ h => absurd h List.not_mem_nil⟩⟩⟩⟩⟩⟩⟩⟩⟩⟩⟩⟩⟩⟩⟩
def lw_privs : List (MethodName × Nat) := lw_privs_1 ++ (lw_privs_2 ++ (lw_privs_3))
def lw_tbl : List Cond := k2_sels lw_privs ++ tables_1
theorem lw_privs_ok : ∀ q ∈ lw_privs, lw_okq q := by
  show ∀ q ∈ lw_privs_1 ++ (lw_privs_2 ++ (lw_privs_3)), lw_okq q
  exact List.forall_mem_append.mpr ⟨lw_r1, List.forall_mem_append.mpr ⟨lw_r2, lw_r3⟩⟩
-- ===== end of PART A; then your names; then what follows =====
/-! the words that go along with every call -/
def TB : List Cond := lw_tbl.filter goodWord
theorem TB_of {w : Cond} (h : w ∈ lw_tbl) (g : goodWord w = true) : w ∈ TB := List.mem_filter.mpr ⟨h, g⟩
theorem TB_at {w : Cond} (i : Nat) (h : lw_tbl[i]? = some w) (g : goodWord w = true) : w ∈ TB := TB_of (List.mem_of_getElem? h) g
theorem TB_lw {w : Cond} (h : w ∈ TB) : w ∈ lw_tbl := (List.mem_filter.mp h).1
theorem TB_good : ∀ w ∈ TB, w ∈ TB ∧ ((w.onTables && w.keeps) = true ∨ ∃ ty, w = .arrayClass ty) := fun w h => ⟨h, good_of_word (List.mem_filter.mp h).2⟩
theorem TB_code {y : MethodName} {cc : ByteArray} {n : Nat} {rt : Option FieldType} (h : Cond.code y cc n rt ∈ TB) : GoodIn TB (Cond.code y cc n rt :: TB) := fun w hw => (List.mem_cons.mp hw).elim (fun e => e ▸ TB_good _ h) (fun h => TB_good w h)
end
section
/-! The classes, their fields; which cell is what (numbers by the order in which the law makes them). Printed by wip/whole/gworld.py. -/
def TBr : u_T := fun k => match k with
  | 0 => ("BodyAccounts$Branch", "needs", "[I", true)
  | 1 => ("BodyAccounts$Branch", "starts", "[I", true)
  | 2 => ("BodyAccounts$Branch", "pays", "[I", true)
  | 3 => ("BodyAccounts$Branch", "costs", "[I", true)
  | 4 => ("BodyAccounts$Branch", "takes", "[I", true)
  | 5 => ("BodyAccounts$Branch", "parts", "I", false)
  | 6 => ("BodyAccounts$Branch", "customers", "I", false)
  | _ => ("BodyAccounts$Branch", "tasks", "I", false)
def yBr : Nat → FieldType := fun k => match k with
  | 0 => (.array .int)
  | 1 => (.array .int)
  | 2 => (.array .int)
  | 3 => (.array .int)
  | 4 => (.array .int)
  | 5 => .int
  | 6 => .int
  | _ => .int
theorem nBr_ok : ∀ a, a < 8 → ∀ b, b < 8 → a ≠ b → (TBr a).2.1 ≠ (TBr b).2.1 := by decide +kernel
theorem yBr_ok : ∀ k, k < 8 → parseFieldDescriptor (TBr k).2.2.1 = some (yBr k) := by decide +kernel
theorem iBr_ok : ∀ w ∈ u_ws "BodyAccounts$Branch" TBr 8, w ∈ TB := by
  intro w hw
  exact TB_of (by revert w; decide +kernel) (by revert w; decide +kernel)
def TPa : u_T := fun k => match k with
  | 0 => ("BodyAccounts$Past", "ring", "[LBodyAccounts$Standing;", true)
  | 1 => ("BodyAccounts$Past", "next", "I", false)
  | _ => ("BodyAccounts$Past", "count", "I", false)
def yPa : Nat → FieldType := fun k => match k with
  | 0 => (.array (.object "BodyAccounts$Standing"))
  | 1 => .int
  | _ => .int
theorem nPa_ok : ∀ a, a < 3 → ∀ b, b < 3 → a ≠ b → (TPa a).2.1 ≠ (TPa b).2.1 := by decide +kernel
theorem yPa_ok : ∀ k, k < 3 → parseFieldDescriptor (TPa k).2.2.1 = some (yPa k) := by decide +kernel
theorem iPa_ok : ∀ w ∈ u_ws "BodyAccounts$Past" TPa 3, w ∈ TB := by
  intro w hw
  exact TB_of (by revert w; decide +kernel) (by revert w; decide +kernel)
def TPl : u_T := fun k => match k with
  | _ => ("BodyAccounts$Planner", "given", "[I", true)
def yPl : Nat → FieldType := fun k => match k with
  | _ => (.array .int)
theorem nPl_ok : ∀ a, a < 1 → ∀ b, b < 1 → a ≠ b → (TPl a).2.1 ≠ (TPl b).2.1 := by decide +kernel
theorem yPl_ok : ∀ k, k < 1 → parseFieldDescriptor (TPl k).2.2.1 = some (yPl k) := by decide +kernel
theorem iPl_ok : ∀ w ∈ u_ws "BodyAccounts$Planner" TPl 1, w ∈ TB := by
  intro w hw
  exact TB_of (by revert w; decide +kernel) (by revert w; decide +kernel)
def TRe : u_T := fun k => match k with
  | 0 => ("BodyAccounts$Reader", "letters", "[I", true)
  | 1 => ("BodyAccounts$Reader", "length", "I", false)
  | 2 => ("BodyAccounts$Reader", "faultPlace", "I", false)
  | 3 => ("BodyAccounts$Reader", "faultNumber", "I", false)
  | _ => ("BodyAccounts$Reader", "place", "I", false)
def yRe : Nat → FieldType := fun k => match k with
  | 0 => (.array .int)
  | 1 => .int
  | 2 => .int
  | 3 => .int
  | _ => .int
theorem nRe_ok : ∀ a, a < 5 → ∀ b, b < 5 → a ≠ b → (TRe a).2.1 ≠ (TRe b).2.1 := by decide +kernel
theorem yRe_ok : ∀ k, k < 5 → parseFieldDescriptor (TRe k).2.2.1 = some (yRe k) := by decide +kernel
theorem iRe_ok : ∀ w ∈ u_ws "BodyAccounts$Reader" TRe 5, w ∈ TB := by
  intro w hw
  exact TB_of (by revert w; decide +kernel) (by revert w; decide +kernel)
def TSl : u_T := fun k => match k with
  | 0 => ("BodyAccounts$Slate", "sums", "[I", true)
  | 1 => ("BodyAccounts$Slate", "mustTasks", "[I", true)
  | 2 => ("BodyAccounts$Slate", "mustMonths", "[I", true)
  | 3 => ("BodyAccounts$Slate", "seenParts", "[I", true)
  | 4 => ("BodyAccounts$Slate", "seenThere", "[Z", true)
  | 5 => ("BodyAccounts$Slate", "entryCustomers", "[I", true)
  | 6 => ("BodyAccounts$Slate", "entryBalances", "[I", true)
  | 7 => ("BodyAccounts$Slate", "spendings", "I", false)
  | 8 => ("BodyAccounts$Slate", "musts", "I", false)
  | 9 => ("BodyAccounts$Slate", "seen", "I", false)
  | _ => ("BodyAccounts$Slate", "entries", "I", false)
def ySl : Nat → FieldType := fun k => match k with
  | 0 => (.array .int)
  | 1 => (.array .int)
  | 2 => (.array .int)
  | 3 => (.array .int)
  | 4 => (.array .boolean)
  | 5 => (.array .int)
  | 6 => (.array .int)
  | 7 => .int
  | 8 => .int
  | 9 => .int
  | _ => .int
theorem nSl_ok : ∀ a, a < 11 → ∀ b, b < 11 → a ≠ b → (TSl a).2.1 ≠ (TSl b).2.1 := by decide +kernel
theorem ySl_ok : ∀ k, k < 11 → parseFieldDescriptor (TSl k).2.2.1 = some (ySl k) := by decide +kernel
theorem iSl_ok : ∀ w ∈ u_ws "BodyAccounts$Slate" TSl 11, w ∈ TB := by
  intro w hw
  exact TB_of (by revert w; decide +kernel) (by revert w; decide +kernel)
def TSt : u_T := fun k => match k with
  | 0 => ("BodyAccounts$Standing", "balances", "[I", true)
  | 1 => ("BodyAccounts$Standing", "debts", "[I", true)
  | _ => ("BodyAccounts$Standing", "months", "I", false)
def ySt : Nat → FieldType := fun k => match k with
  | 0 => (.array .int)
  | 1 => (.array .int)
  | _ => .int
theorem nSt_ok : ∀ a, a < 3 → ∀ b, b < 3 → a ≠ b → (TSt a).2.1 ≠ (TSt b).2.1 := by decide +kernel
theorem ySt_ok : ∀ k, k < 3 → parseFieldDescriptor (TSt k).2.2.1 = some (ySt k) := by decide +kernel
theorem iSt_ok : ∀ w ∈ u_ws "BodyAccounts$Standing" TSt 3, w ∈ TB := by
  intro w hw
  exact TB_of (by revert w; decide +kernel) (by revert w; decide +kernel)
def TBA : u_T := fun k => match k with
  | 0 => ("BodyAccounts", "reader", "LBodyAccounts$Reader;", true)
  | 1 => ("BodyAccounts", "now", "LBodyAccounts$Standing;", true)
  | 2 => ("BodyAccounts", "past", "LBodyAccounts$Past;", true)
  | 3 => ("BodyAccounts", "slate", "LBodyAccounts$Slate;", true)
  | 4 => ("BodyAccounts", "planner", "LBodyAccounts$Planner;", true)
  | 5 => ("BodyAccounts", "images", "[LBodyAccounts$Standing;", true)
  | 6 => ("BodyAccounts", "imageSeeds", "[I", true)
  | 7 => ("BodyAccounts", "imageKept", "[Z", true)
  | 8 => ("BodyAccounts", "current", "LBodyAccounts$Branch;", false)
  | 9 => ("BodyAccounts", "spare", "LBodyAccounts$Branch;", false)
  | 10 => ("BodyAccounts", "faultPlace", "I", false)
  | _ => ("BodyAccounts", "seedNow", "I", false)
def yBA : Nat → FieldType := fun k => match k with
  | 0 => (.object "BodyAccounts$Reader")
  | 1 => (.object "BodyAccounts$Standing")
  | 2 => (.object "BodyAccounts$Past")
  | 3 => (.object "BodyAccounts$Slate")
  | 4 => (.object "BodyAccounts$Planner")
  | 5 => (.array (.object "BodyAccounts$Standing"))
  | 6 => (.array .int)
  | 7 => (.array .boolean)
  | 8 => (.object "BodyAccounts$Branch")
  | 9 => (.object "BodyAccounts$Branch")
  | 10 => .int
  | _ => .int
theorem nBA_ok : ∀ a, a < 12 → ∀ b, b < 12 → a ≠ b → (TBA a).2.1 ≠ (TBA b).2.1 := by decide +kernel
theorem yBA_ok : ∀ k, k < 12 → parseFieldDescriptor (TBA k).2.2.1 = some (yBA k) := by decide +kernel
theorem iBA_ok : ∀ w ∈ u_ws "BodyAccounts" TBA 12, w ∈ TB := by
  intro w hw
  exact TB_of (by revert w; decide +kernel) (by revert w; decide +kernel)
def TMo : u_T := fun k => match k with
  | 0 => ("BodyAccountsModel", "w", "[I", true)
  | 1 => ("BodyAccountsModel", "isKept", "[Z", true)
  | 2 => ("BodyAccountsModel", "undoes", "I", false)
  | 3 => ("BodyAccountsModel", "parts", "I", false)
  | 4 => ("BodyAccountsModel", "needs", "[I", true)
  | 5 => ("BodyAccountsModel", "customers", "I", false)
  | 6 => ("BodyAccountsModel", "pay", "[I", true)
  | 7 => ("BodyAccountsModel", "spends", "[I", true)
  | 8 => ("BodyAccountsModel", "tasks", "I", false)
  | 9 => ("BodyAccountsModel", "takesParts", "[I", true)
  | 10 => ("BodyAccountsModel", "text", "[I", true)
  | 11 => ("BodyAccountsModel", "texted", "I", false)
  | 12 => ("BodyAccountsModel", "at", "I", false)
  | 13 => ("BodyAccountsModel", "start", "I", false)
  | 14 => ("BodyAccountsModel", "number", "I", false)
  | 15 => ("BodyAccountsModel", "faulty", "I", false)
  | 16 => ("BodyAccountsModel", "faultAt", "I", false)
  | 17 => ("BodyAccountsModel", "readParts", "I", false)
  | 18 => ("BodyAccountsModel", "readNeeds", "[I", true)
  | 19 => ("BodyAccountsModel", "readCustomers", "I", false)
  | 20 => ("BodyAccountsModel", "readCustomer", "[I", true)
  | 21 => ("BodyAccountsModel", "readTasks", "I", false)
  | 22 => ("BodyAccountsModel", "readTask", "[I", true)
  | 23 => ("BodyAccountsModel", "spendings", "I", false)
  | 24 => ("BodyAccountsModel", "spending", "[I", true)
  | 25 => ("BodyAccountsModel", "musts", "I", false)
  | 26 => ("BodyAccountsModel", "mustTask", "[I", true)
  | 27 => ("BodyAccountsModel", "mustMonth", "[I", true)
  | 28 => ("BodyAccountsModel", "given", "[I", true)
  | 29 => ("BodyAccountsModel", "seen", "I", false)
  | 30 => ("BodyAccountsModel", "seenPart", "[I", true)
  | 31 => ("BodyAccountsModel", "seenThere", "[Z", true)
  | 32 => ("BodyAccountsModel", "booked", "I", false)
  | 33 => ("BodyAccountsModel", "bookOf", "[I", true)
  | _ => ("BodyAccountsModel", "bookBalance", "[I", true)
def yMo : Nat → FieldType := fun k => match k with
  | 0 => (.array .int)
  | 1 => (.array .boolean)
  | 2 => .int
  | 3 => .int
  | 4 => (.array .int)
  | 5 => .int
  | 6 => (.array .int)
  | 7 => (.array .int)
  | 8 => .int
  | 9 => (.array .int)
  | 10 => (.array .int)
  | 11 => .int
  | 12 => .int
  | 13 => .int
  | 14 => .int
  | 15 => .int
  | 16 => .int
  | 17 => .int
  | 18 => (.array .int)
  | 19 => .int
  | 20 => (.array .int)
  | 21 => .int
  | 22 => (.array .int)
  | 23 => .int
  | 24 => (.array .int)
  | 25 => .int
  | 26 => (.array .int)
  | 27 => (.array .int)
  | 28 => (.array .int)
  | 29 => .int
  | 30 => (.array .int)
  | 31 => (.array .boolean)
  | 32 => .int
  | 33 => (.array .int)
  | _ => (.array .int)
theorem nMo_ok : ∀ a, a < 35 → ∀ b, b < 35 → a ≠ b → (TMo a).2.1 ≠ (TMo b).2.1 := by decide +kernel
theorem yMo_ok : ∀ k, k < 35 → parseFieldDescriptor (TMo k).2.2.1 = some (yMo k) := by decide +kernel
theorem iMo_ok : ∀ w ∈ u_ws "BodyAccountsModel" TMo 35, w ∈ TB := by
  intro w hw
  exact TB_of (by revert w; decide +kernel) (by revert w; decide +kernel)
abbrev classes : List vw_C := [("BodyAccounts$Branch", TBr, 8), ("BodyAccounts$Past", TPa, 3), ("BodyAccounts$Planner", TPl, 1), ("BodyAccounts$Reader", TRe, 5), ("BodyAccounts$Slate", TSl, 11), ("BodyAccounts$Standing", TSt, 3), ("BodyAccounts", TBA, 12), ("BodyAccountsModel", TMo, 35)]
def NC : Nat := 118
def shL : List (Nat × Nat) := [(6, 0), (3, 0), (20, 240), (5, 0), (20, 5), (20, 25), (1, 0), (22, 20), (5, 0), (20, 5), (20, 25), (5, 0), (20, 5), (20, 25), (5, 0), (20, 5), (20, 25), (5, 0), (20, 5), (20, 25), (5, 0), (20, 5), (20, 25), (5, 0), (20, 5), (20, 25), (5, 0), (20, 5), (20, 25), (5, 0), (20, 5), (20, 25), (5, 0), (20, 5), (20, 25), (5, 0), (20, 5), (20, 25), (5, 0), (20, 5), (20, 25), (5, 0), (20, 5), (20, 25), (5, 0), (20, 5), (20, 25), (5, 0), (20, 5), (20, 25), (5, 0), (20, 5), (20, 25), (5, 0), (20, 5), (20, 25), (5, 0), (20, 5), (20, 25), (5, 0), (20, 5), (20, 25), (5, 0), (20, 5), (20, 25), (5, 0), (20, 5), (20, 25), (4, 0), (20, 5), (20, 4), (20, 4), (20, 8), (21, 8), (20, 15), (20, 15), (2, 0), (20, 5), (22, 2), (5, 0), (20, 5), (20, 25), (5, 0), (20, 5), (20, 25), (20, 2), (21, 2), (0, 0), (20, 8), (20, 5), (20, 5), (20, 5), (20, 6), (0, 0), (20, 8), (20, 5), (20, 5), (20, 5), (20, 6), (7, 0), (20, 736), (21, 2), (20, 8), (20, 5), (20, 5), (20, 6), (20, 240), (20, 8), (20, 15), (20, 6), (20, 5), (20, 4), (20, 4), (20, 5), (20, 8), (21, 8), (20, 15), (20, 15)]
def fkL : List (List (Nat × Nat)) := [[(1, 1), (1, 2), (1, 3), (1, 4), (1, 5), (0, 0), (0, 0), (0, 0)], [(1, 1), (0, 0), (0, 0)], [(1, 1)], [(1, 1), (0, 0), (0, 0), (0, 0), (0, 0)], [(1, 1), (1, 2), (1, 3), (1, 4), (1, 5), (1, 6), (1, 7), (0, 0), (0, 0), (0, 0), (0, 0)], [(1, 1), (1, 2), (0, 0)], [(1, 1), (1, 3), (1, 6), (1, 68), (1, 76), (1, 78), (1, 85), (1, 86), (2, 0), (2, 0), (0, 0), (0, 0)], [(1, 1), (1, 2), (0, 0), (0, 0), (1, 3), (0, 0), (1, 4), (1, 5), (0, 0), (1, 6), (1, 7), (0, 0), (0, 0), (0, 0), (0, 0), (0, 0), (0, 0), (0, 0), (1, 8), (0, 0), (1, 9), (0, 0), (1, 10), (0, 0), (1, 11), (0, 0), (1, 12), (1, 13), (1, 14), (0, 0), (1, 15), (1, 16), (0, 0), (1, 17), (1, 18)]]
def NWs : List (String × Nat × MethodName × String) := [("BodyAccounts", 9, ⟨"BodyAccounts$Reader", "<init>", "()V"⟩, "BodyAccounts"), ("BodyAccounts", 18, ⟨"BodyAccounts$Standing", "<init>", "()V"⟩, "BodyAccounts"), ("BodyAccounts$Past", 17, ⟨"BodyAccounts$Standing", "<init>", "()V"⟩, "BodyAccounts"), ("BodyAccounts", 32, ⟨"BodyAccounts$Slate", "<init>", "()V"⟩, "BodyAccounts"), ("BodyAccounts", 39, ⟨"BodyAccounts$Planner", "<init>", "()V"⟩, "BodyAccounts"), ("BodyAccounts", 58, ⟨"BodyAccounts$Branch", "<init>", "()V"⟩, "BodyAccounts"), ("BodyAccounts$Branch", 37, ⟨"BodyAccounts", "within", "(III)Z"⟩, "BodyAccounts"), ("BodyAccounts$Branch", 52, ⟨"BodyAccounts", "bounded", "(I)I"⟩, "BodyAccounts"), ("BodyAccounts$Standing", 36, ⟨"BodyAccounts", "bounded", "(I)I"⟩, "BodyAccounts"), ("BodyAccounts$Planner", 39, ⟨"BodyAccounts", "bounded", "(I)I"⟩, "BodyAccounts")]
end
section
/-! A heap as a function (cell, place) -> int; the world that it says; V: the machine at a place of a method's code comes to its end. -/
abbrev HP : Type := Nat → Nat → Int32
def setc (hp : HP) (k : Nat) (f : Nat → Int32) : HP := fun q => if q = k then f else hp q
def up (hp : HP) (k j : Nat) (v : Int32) : HP := setc hp k (upd (hp k) j v)
def sh (k : Nat) : Nat × Nat := shL.getD k (99, 0)
def fk (ci j : Nat) : Nat × Nat := (fkL.getD ci []).getD j (9, 0)
def nf (ci : Nat) : Nat := (fkL.getD ci []).length
def rb (k : Nat) : Nat := k + 1
abbrev GT : Type := va_G × (Nat → Nat) × (ClassId × ClassId × ClassId)
abbrev gD (G : GT) : va_G := G.1
abbrev gA (G : GT) : Nat → Nat := G.2.1
def fv (ad : Nat → Nat) (hp : HP) (k : Nat) (t : Nat × Nat) (j : Nat) : Value := match t.1 with
  | 0 => .int (hp k j)
  | 1 => .ref (ad (k + t.2))
  | _ => .ref (ad (hp k j).toNatClampNeg)
def flds (ad : Nat → Nat) (hp : HP) (k ci : Nat) : List Value := (List.range (nf ci)).map (fun j => fv ad hp k (fk ci j) j)
def ent (G : GT) (hp : HP) (k : Nat) : va_E := match (sh k).1 with
  | 20 => .inl (G.2.2.1, (sh k).2, .inl (hp k))
  | 21 => .inl (G.2.2.2.1, (sh k).2, .inl (hp k))
  | 22 => .inl (G.2.2.2.2, (sh k).2, .inr (.inr (.inr (.inr (fun j => some (gA G (rb k + 3 * j)))))))
  | ci => .inr (ci, flds (gA G) hp k ci)
def wsO (G : GT) (hp : HP) : va_W := (List.range NC).map (fun k => (gA G k, ent G hp k))
def tysO (G : GT) : List (ClassId × FieldType) := [(G.2.2.1, .int), (G.2.2.2.1, .boolean), (G.2.2.2.2, .object "BodyAccounts$Standing")]
def GI (G : GT) : Prop := ∀ i j, i < NC → j < NC → gA G i = gA G j → i = j
def KK (G : GT) (U : State) : Prop := va_K (gD G) classes (tysO G) U ∧ (∀ q ∈ NWs, va_Nw (.methodLinkNest q.1 q.2.1 q.2.2.1 q.2.2.2) U) ∧ GI G
def AA (G : GT) : Nat → Prop := fun q => ∃ k, k < NC ∧ q = gA G k
theorem KK.warm {G : GT} {s U : State} (hW : s.WarmedH U.vm) (h : KK G s) : KK G U := ⟨va_K.moved hW.alike h.1, fun q hq => va_Nw.warmM hW (h.2.1 q hq), h.2.2⟩
theorem KK.same {G : GT} {s U : State} (hv : s.vm = U.vm) (h : KK G s) : KK G U := ⟨va_K.moved (by rw [hv]; exact Vm.Alike.refl U.vm) h.1, fun q hq => va_Nw.same rfl hv (h.2.1 q hq), h.2.2⟩
theorem wsO_at (G : GT) (hp : HP) {k : Nat} (h : k < NC) : (wsO G hp)[k]? = some (gA G k, ent G hp k) := by
  simp [wsO, List.getElem?_map, List.getElem?_range h]
theorem wsO_len (G : GT) (hp : HP) : (wsO G hp).length = NC := by simp [wsO]
theorem wsO_D (G : GT) (hp : HP) (h : GI G) {A : Nat → Prop} (hA : ∀ k, k < NC → A (gA G k)) : va_D A (wsO G hp) := by
  have key : ∀ (k : Nat) (q : Nat × va_E), (wsO G hp)[k]? = some q → k < NC ∧ q.1 = gA G k := by
    intro k q hk
    have hl : k < NC := by
      have := (List.getElem?_eq_some_iff.mp hk).1
      rwa [wsO_len] at this
    rw [wsO_at G hp hl] at hk
    cases hk
    exact ⟨hl, rfl⟩
  refine ⟨fun i j p q hi hj hpq => ?_, fun k q hk => ?_⟩
  · obtain ⟨a1, a2⟩ := key i p hi
    obtain ⟨b1, b2⟩ := key j q hj
    exact h i j a1 b1 (by rw [← a2, ← b2, hpq])
  · obtain ⟨a1, a2⟩ := key k q hk
    rw [a2]
    exact hA k a1
theorem wsO_set (G : GT) (hp : HP) {k : Nat} (f : Nat → Int32) (h : k < NC) : (wsO G hp).set k (gA G k, ent G (setc hp k f) k) = wsO G (setc hp k f) := by
  apply List.ext_getElem?
  intro i
  rw [List.getElem?_set]
  by_cases hi : k = i
  · subst hi
    rw [if_pos rfl, if_pos (by rw [wsO_len]; exact h), wsO_at G _ h]
  · rw [if_neg hi]
    by_cases hl : i < NC
    · rw [wsO_at G _ hl, wsO_at G _ hl]
      have : setc hp k f i = hp i := by unfold setc; rw [if_neg (Ne.symm hi)]
      simp only [ent, flds, fv, this]
    · rw [List.getElem?_eq_none (by rw [wsO_len]; omega), List.getElem?_eq_none (by rw [wsO_len]; omega)]
theorem setc_at (hp : HP) (k : Nat) (f : Nat → Int32) : setc hp k f k = f := by unfold setc; rw [if_pos rfl]
theorem ent_i (G : GT) (hp : HP) {k n : Nat} (h : sh k = (20, n)) : ent G hp k = .inl (G.2.2.1, n, .inl (hp k)) := by unfold ent; rw [h]; rfl
theorem ent_z (G : GT) (hp : HP) {k n : Nat} (h : sh k = (21, n)) : ent G hp k = .inl (G.2.2.2.1, n, .inl (hp k)) := by unfold ent; rw [h]; rfl
theorem ent_q (G : GT) (hp : HP) {k n : Nat} (h : sh k = (22, n)) : ent G hp k = .inl (G.2.2.2.2, n, .inr (.inr (.inr (.inr (fun j => some (gA G (rb k + 3 * j))))))) := by unfold ent; rw [h]; rfl
theorem ent_o (G : GT) (hp : HP) {k ci : Nat} (hc : ci < 20) (h : sh k = (ci, 0)) : ent G hp k = .inr (ci, flds (gA G) hp k ci) := by
  unfold ent
  rw [h]
  match ci, hc with
  | 0, _ | 1, _ | 2, _ | 3, _ | 4, _ | 5, _ | 6, _ | 7, _ | 8, _ | 9, _ | 10, _ | 11, _ | 12, _ | 13, _ | 14, _ | 15, _ | 16, _ | 17, _ | 18, _ | 19, _ => rfl
  | n + 20, h => exact absurd h (by omega)
theorem flds_at (ad : Nat → Nat) (hp : HP) (k : Nat) {ci j : Nat} (h : j < nf ci) : (flds ad hp k ci)[j]? = some (fv ad hp k (fk ci j) j) := by
  simp [flds, List.getElem?_map, List.getElem?_range h]
theorem flds_len (ad : Nat → Nat) (hp : HP) (k ci : Nat) : (flds ad hp k ci).length = nf ci := by simp [flds]
theorem flds_set (ad : Nat → Nat) (hp : HP) (k : Nat) {ci j : Nat} (v : Int32) (h : j < nf ci) : (flds ad hp k ci).set j (fv ad (up hp k j v) k (fk ci j) j) = flds ad (up hp k j v) k ci := by
  apply List.ext_getElem?
  intro i
  rw [List.getElem?_set]
  by_cases hi : j = i
  · subst hi
    rw [if_pos rfl, if_pos (by rw [flds_len]; exact h), flds_at _ _ _ h]
  · rw [if_neg hi]
    by_cases hl : i < nf ci
    · rw [flds_at _ _ _ hl, flds_at _ _ _ hl]
      have : up hp k j v k i = hp k i := by unfold up; rw [setc_at]; unfold upd; rw [if_neg (Ne.symm hi)]
      simp only [fv, this]
    · rw [List.getElem?_eq_none (by rw [flds_len]; omega), List.getElem?_eq_none (by rw [flds_len]; omega)]
abbrev ZT : Type := (Program × Launch × Env × Room × State × MethodId) × (Array Value × List Frame × Method × Code × Nat × Nat) × ((State → Prop) × (Nat → Prop) × GT)
abbrev zp (Z : ZT) := Z.1.1
abbrev zl (Z : ZT) := Z.1.2.1
abbrev ze (Z : ZT) := Z.1.2.2.1
abbrev zR (Z : ZT) := Z.1.2.2.2.1
abbrev zs (Z : ZT) := Z.1.2.2.2.2.1
abbrev zm (Z : ZT) := Z.1.2.2.2.2.2
abbrev za (Z : ZT) := Z.2.1.1
abbrev zb (Z : ZT) := Z.2.1.2.1
abbrev zt (Z : ZT) := Z.2.1.2.2.1
abbrev zc (Z : ZT) := Z.2.1.2.2.2.1
abbrev zn (Z : ZT) := Z.2.1.2.2.2.2.1
abbrev zo (Z : ZT) := Z.2.1.2.2.2.2.2
abbrev zQ (Z : ZT) := Z.2.2.1
abbrev zA (Z : ZT) := Z.2.2.2.1
abbrev zG (Z : ZT) := Z.2.2.2.2
/-- a method: its bytes, its class, its locals, how many calls deep it goes -/
abbrev YT : Type := ByteArray × String × Nat × Nat
def rmd (d : Nat) : Room := { frames := d, cells := 0, slots := 0, locals := 30 * d }
def CX (Z : ZT) (Y : YT) : Prop := (zp Z).tables.exec = Jvm.exec ∧ (zc Z).code = Y.1 ∧ (zc Z).maxLocals = Y.2.2.1 ∧ (zs Z).vm.findClass Y.2.1 = some (zm Z).cls ∧ (∀ w ∈ TB, w.before (za Z) (zs Z) = true) ∧ KK (zG Z) (zs Z) ∧ (∀ k, k < NC → zA Z (gA (zG Z) k)) ∧ (Y.2.2.2 ≤ (zR Z).frames ∧ 30 * Y.2.2.2 ≤ (zR Z).locals ∧ zn Z ≤ (zR Z).cells ∧ zo Z ≤ (zR Z).slots)
def V (Z : ZT) (Y : YT) (hp : HP) (pc : Nat) (L : List (Nat × Value)) (st : List Value) : Prop :=
  ∀ (H : Heap) (locs : List Loc) (ls : Array Slot), va_P (gD (zG Z)) classes (wsO (zG Z) hp) H → va_S (zA Z) (zs Z).heap H locs → lv_has ls Y.2.2.1 L → W (zp Z) (zl Z) (ze Z) (zR Z) (zs Z) (zm Z) (za Z) (zb Z) (zt Z) (zc Z) H locs (zn Z) (zo Z) (zQ Z) (F0 (zm Z) pc ls st)
section Rows
variable {Z : ZT} {Y : YT} {hp : HP} {pc : Nat} {L : List (Nat × Value)} {st : List Value}
theorem CX.D (X : CX Z Y) (hp : HP) : va_D (zA Z) (wsO (zG Z) hp) := wsO_D _ hp X.2.2.2.2.2.1.2.2 X.2.2.2.2.2.2.1
theorem R_loc {L' : List (Nat × Value)} (ks : List Nat) (hl : lv_pick L ks = L') (k : V Z Y hp pc L' st) : V Z Y hp pc L st := fun H locs ls hP hS h => k H locs ls hP hS (lv_sub h ks hl)
theorem R_iconst (X : CX Z Y) {n : Int} {v : Int32} (hd : decode Y.1 pc = .ok (.iconst n, 1)) (hv : Int32.ofInt n = v) (k : V Z Y hp (pc + 1) L (.int v :: st)) : V Z Y hp pc L st := fun H locs ls hP hS h => lv_iconst X.1 X.2.1 hd hv (k H locs ls hP hS h)
theorem R_bipush (X : CX Z Y) {n : Int} {v : Int32} (hd : decode Y.1 pc = .ok (.bipush n, 2)) (hv : (Int8.ofInt n).toInt32 = v) (k : V Z Y hp (pc + 2) L (.int v :: st)) : V Z Y hp pc L st := fun H locs ls hP hS h => lv_bipush X.1 X.2.1 hd hv (k H locs ls hP hS h)
theorem R_sipush (X : CX Z Y) {n : Int} {v : Int32} (hd : decode Y.1 pc = .ok (.sipush n, 3)) (hv : (Int16.ofInt n).toInt32 = v) (k : V Z Y hp (pc + 3) L (.int v :: st)) : V Z Y hp pc L st := fun H locs ls hP hS h => lv_sipush X.1 X.2.1 hd hv (k H locs ls hP hS h)
theorem R_lconst (X : CX Z Y) {n : Fin 2} {v : Int64} (hd : decode Y.1 pc = .ok (.lconst n, 1)) (hv : Int64.ofNat (n : Nat) = v) (k : V Z Y hp (pc + 1) L (.long v :: st)) : V Z Y hp pc L st := fun H locs ls hP hS h => lv_lconst X.1 X.2.1 hd hv (k H locs ls hP hS h)
theorem R_ldc (X : CX Z Y) {i : Nat} {v : Int32} (hw : Cond.constant Y.2.1 i v ∈ TB) (hd : decode Y.1 pc = .ok (.ldc i, 2)) (k : V Z Y hp (pc + 2) L (.int v :: st)) : V Z Y hp pc L st := fun H locs ls hP hS h => lv_ldc X.1 X.2.1 X.2.2.2.1 (X.2.2.2.2.1 _ hw) hd (k H locs ls hP hS h)
theorem R_ldc2 (X : CX Z Y) {i : Nat} {v : Int64} (hw : Cond.constantLong Y.2.1 i v ∈ TB) (hd : decode Y.1 pc = .ok (.ldc2_w i, 3)) (k : V Z Y hp (pc + 3) L (.long v :: st)) : V Z Y hp pc L st := fun H locs ls hP hS h => lv_ldc2 X.1 X.2.1 X.2.2.2.1 (X.2.2.2.2.1 _ hw) hd (k H locs ls hP hS h)
theorem R_iload_n (X : CX Z Y) (q : Nat) {n : Fin 4} {x : Int32} (hd : decode Y.1 pc = .ok (.iload_n n, 1)) (hq : L[q]? = some ((n : Nat), .int x)) (k : V Z Y hp (pc + 1) L (.int x :: st)) : V Z Y hp pc L st := fun H locs ls hP hS h => lv_iload_n X.1 X.2.1 hd rfl (lv_at h q hq) (k H locs ls hP hS h)
theorem R_iload (X : CX Z Y) (q : Nat) {n : Nat} {x : Int32} (hd : decode Y.1 pc = .ok (.iload n, 2)) (hq : L[q]? = some (n, .int x)) (k : V Z Y hp (pc + 2) L (.int x :: st)) : V Z Y hp pc L st := fun H locs ls hP hS h => lv_iload X.1 X.2.1 hd (lv_at h q hq) (k H locs ls hP hS h)
theorem R_lload_n (X : CX Z Y) (q : Nat) {n : Fin 4} {x : Int64} (hd : decode Y.1 pc = .ok (.lload_n n, 1)) (hq : L[q]? = some ((n : Nat), .long x)) (k : V Z Y hp (pc + 1) L (.long x :: st)) : V Z Y hp pc L st := fun H locs ls hP hS h => lv_lload_n X.1 X.2.1 hd rfl (lv_at h q hq) (k H locs ls hP hS h)
theorem R_lload (X : CX Z Y) (q : Nat) {n : Nat} {x : Int64} (hd : decode Y.1 pc = .ok (.lload n, 2)) (hq : L[q]? = some (n, .long x)) (k : V Z Y hp (pc + 2) L (.long x :: st)) : V Z Y hp pc L st := fun H locs ls hP hS h => lv_lload X.1 X.2.1 hd (lv_at h q hq) (k H locs ls hP hS h)
theorem R_aload_n (X : CX Z Y) (q : Nat) {n : Fin 4} {x : Nat} (hd : decode Y.1 pc = .ok (.aload_n n, 1)) (hq : L[q]? = some ((n : Nat), .ref x)) (k : V Z Y hp (pc + 1) L (.ref x :: st)) : V Z Y hp pc L st := fun H locs ls hP hS h => lv_aload_n X.1 X.2.1 hd rfl (lv_at h q hq) (k H locs ls hP hS h)
theorem R_istore_n (X : CX Z Y) {n : Fin 4} {x : Int32} {L' : List (Nat × Value)} (hd : decode Y.1 pc = .ok (.istore_n n, 1)) (hn : (n : Nat) < Y.2.2.1) (hl : ((n : Nat), Value.int x) :: L.filter (fun q => !(q.1 == (n : Nat)) && !(q.1 + 1 == (n : Nat) && q.2.category == 2)) = L') (k : V Z Y hp (pc + 1) L' st) : V Z Y hp pc L (.int x :: st) := fun H locs ls hP hS h => lv_istore_n X.1 X.2.1 hd rfl h hn hl (fun ls' h' => k H locs ls' hP hS h')
theorem R_istore (X : CX Z Y) {n : Nat} {x : Int32} {L' : List (Nat × Value)} (hd : decode Y.1 pc = .ok (.istore n, 2)) (hn : n < Y.2.2.1) (hl : (n, Value.int x) :: L.filter (fun q => !(q.1 == n) && !(q.1 + 1 == n && q.2.category == 2)) = L') (k : V Z Y hp (pc + 2) L' st) : V Z Y hp pc L (.int x :: st) := fun H locs ls hP hS h => lv_istore X.1 X.2.1 hd h hn hl (fun ls' h' => k H locs ls' hP hS h')
theorem R_lstore_n (X : CX Z Y) {n : Fin 4} {x : Int64} {L' : List (Nat × Value)} (hd : decode Y.1 pc = .ok (.lstore_n n, 1)) (hn : (n : Nat) + 1 < Y.2.2.1) (hl : ((n : Nat), Value.long x) :: L.filter (fun q => !(q.1 == (n : Nat)) && (!(q.1 == (n : Nat) + 1) && !(q.1 + 1 == (n : Nat) && q.2.category == 2))) = L') (k : V Z Y hp (pc + 1) L' st) : V Z Y hp pc L (.long x :: st) := fun H locs ls hP hS h => lv_lstore_n X.1 X.2.1 hd rfl h hn hl (fun ls' h' => k H locs ls' hP hS h')
theorem R_astore_n (X : CX Z Y) {n : Fin 4} {x : Nat} {L' : List (Nat × Value)} (hd : decode Y.1 pc = .ok (.astore_n n, 1)) (hn : (n : Nat) < Y.2.2.1) (hl : ((n : Nat), Value.ref x) :: L.filter (fun q => !(q.1 == (n : Nat)) && !(q.1 + 1 == (n : Nat) && q.2.category == 2)) = L') (k : V Z Y hp (pc + 1) L' st) : V Z Y hp pc L (.ref x :: st) := fun H locs ls hP hS h => lv_astore_n X.1 X.2.1 hd rfl h hn hl (fun ls' h' => k H locs ls' hP hS h')
theorem R_iinc (X : CX Z Y) (q : Nat) {i : Nat} {n : Int} {x v : Int32} {L' : List (Nat × Value)} (hd : decode Y.1 pc = .ok (.iinc i n, 3)) (hq : L[q]? = some (i, .int x)) (hv : x + Int32.ofInt n = v) (hn : i < Y.2.2.1) (hl : (i, Value.int v) :: L.filter (fun q => !(q.1 == i) && !(q.1 + 1 == i && q.2.category == 2)) = L') (k : V Z Y hp (pc + 3) L' st) : V Z Y hp pc L st := fun H locs ls hP hS h => lv_iinc X.1 X.2.1 hd h hq hv hn hl (fun ls' h' => k H locs ls' hP hS h')
theorem R_iadd (X : CX Z Y) {x y : Int32} (hd : decode Y.1 pc = .ok (.iadd, 1)) (k : V Z Y hp (pc + 1) L (.int (x + y) :: st)) : V Z Y hp pc L (.int y :: .int x :: st) := fun H locs ls hP hS h => lv_iadd X.1 X.2.1 hd (k H locs ls hP hS h)
theorem R_isub (X : CX Z Y) {x y : Int32} (hd : decode Y.1 pc = .ok (.isub, 1)) (k : V Z Y hp (pc + 1) L (.int (x - y) :: st)) : V Z Y hp pc L (.int y :: .int x :: st) := fun H locs ls hP hS h => lv_isub X.1 X.2.1 hd (k H locs ls hP hS h)
theorem R_imul (X : CX Z Y) {x y : Int32} (hd : decode Y.1 pc = .ok (.imul, 1)) (k : V Z Y hp (pc + 1) L (.int (x * y) :: st)) : V Z Y hp pc L (.int y :: .int x :: st) := fun H locs ls hP hS h => lv_imul X.1 X.2.1 hd (k H locs ls hP hS h)
theorem R_iand (X : CX Z Y) {x y : Int32} (hd : decode Y.1 pc = .ok (.iand, 1)) (k : V Z Y hp (pc + 1) L (.int (x &&& y) :: st)) : V Z Y hp pc L (.int y :: .int x :: st) := fun H locs ls hP hS h => lv_iand X.1 X.2.1 hd (k H locs ls hP hS h)
theorem R_ior (X : CX Z Y) {x y : Int32} (hd : decode Y.1 pc = .ok (.ior, 1)) (k : V Z Y hp (pc + 1) L (.int (x ||| y) :: st)) : V Z Y hp pc L (.int y :: .int x :: st) := fun H locs ls hP hS h => lv_ior X.1 X.2.1 hd (k H locs ls hP hS h)
theorem R_ixor (X : CX Z Y) {x y : Int32} (hd : decode Y.1 pc = .ok (.ixor, 1)) (k : V Z Y hp (pc + 1) L (.int (x ^^^ y) :: st)) : V Z Y hp pc L (.int y :: .int x :: st) := fun H locs ls hP hS h => lv_ixor X.1 X.2.1 hd (k H locs ls hP hS h)
theorem R_ishl (X : CX Z Y) {x y : Int32} (hd : decode Y.1 pc = .ok (.ishl, 1)) (k : V Z Y hp (pc + 1) L (.int (x <<< (y &&& 31)) :: st)) : V Z Y hp pc L (.int y :: .int x :: st) := fun H locs ls hP hS h => lv_ishl X.1 X.2.1 hd (k H locs ls hP hS h)
theorem R_ishr (X : CX Z Y) {x y : Int32} (hd : decode Y.1 pc = .ok (.ishr, 1)) (k : V Z Y hp (pc + 1) L (.int (x >>> (y &&& 31)) :: st)) : V Z Y hp pc L (.int y :: .int x :: st) := fun H locs ls hP hS h => lv_ishr X.1 X.2.1 hd (k H locs ls hP hS h)
theorem R_ineg (X : CX Z Y) {x : Int32} (hd : decode Y.1 pc = .ok (.ineg, 1)) (k : V Z Y hp (pc + 1) L (.int (-x) :: st)) : V Z Y hp pc L (.int x :: st) := fun H locs ls hP hS h => lv_ineg X.1 X.2.1 hd (k H locs ls hP hS h)
theorem R_idiv (X : CX Z Y) {x y : Int32} (hd : decode Y.1 pc = .ok (.idiv, 1)) (hne : ¬ y = 0) (k : V Z Y hp (pc + 1) L (.int (x / y) :: st)) : V Z Y hp pc L (.int y :: .int x :: st) := fun H locs ls hP hS h => lv_idiv X.1 X.2.1 hd hne (k H locs ls hP hS h)
theorem R_irem (X : CX Z Y) {x y : Int32} (hd : decode Y.1 pc = .ok (.irem, 1)) (hne : ¬ y = 0) (k : V Z Y hp (pc + 1) L (.int (x - x / y * y) :: st)) : V Z Y hp pc L (.int y :: .int x :: st) := fun H locs ls hP hS h => lv_irem X.1 X.2.1 hd hne (k H locs ls hP hS h)
theorem R_ladd (X : CX Z Y) {x y : Int64} (hd : decode Y.1 pc = .ok (.ladd, 1)) (k : V Z Y hp (pc + 1) L (.long (x + y) :: st)) : V Z Y hp pc L (.long y :: .long x :: st) := fun H locs ls hP hS h => lv_ladd X.1 X.2.1 hd (k H locs ls hP hS h)
theorem R_lmul (X : CX Z Y) {x y : Int64} (hd : decode Y.1 pc = .ok (.lmul, 1)) (k : V Z Y hp (pc + 1) L (.long (x * y) :: st)) : V Z Y hp pc L (.long y :: .long x :: st) := fun H locs ls hP hS h => lv_lmul X.1 X.2.1 hd (k H locs ls hP hS h)
theorem R_land (X : CX Z Y) {x y : Int64} (hd : decode Y.1 pc = .ok (.land, 1)) (k : V Z Y hp (pc + 1) L (.long (x &&& y) :: st)) : V Z Y hp pc L (.long y :: .long x :: st) := fun H locs ls hP hS h => lv_land X.1 X.2.1 hd (k H locs ls hP hS h)
theorem R_ldiv (X : CX Z Y) {x y : Int64} (hd : decode Y.1 pc = .ok (.ldiv, 1)) (hne : ¬ y = 0) (k : V Z Y hp (pc + 1) L (.long (x / y) :: st)) : V Z Y hp pc L (.long y :: .long x :: st) := fun H locs ls hP hS h => lv_ldiv X.1 X.2.1 hd hne (k H locs ls hP hS h)
theorem R_lrem (X : CX Z Y) {x y : Int64} (hd : decode Y.1 pc = .ok (.lrem, 1)) (hne : ¬ y = 0) (k : V Z Y hp (pc + 1) L (.long (x - x / y * y) :: st)) : V Z Y hp pc L (.long y :: .long x :: st) := fun H locs ls hP hS h => lv_lrem X.1 X.2.1 hd hne (k H locs ls hP hS h)
theorem R_lcmp (X : CX Z Y) {x y : Int64} (hd : decode Y.1 pc = .ok (.lcmp, 1)) (k : V Z Y hp (pc + 1) L (.int (lg_cmp x y) :: st)) : V Z Y hp pc L (.long y :: .long x :: st) := fun H locs ls hP hS h => W.lcmp X.1 X.2.1 hd (k H locs ls hP hS h)
theorem R_i2l (X : CX Z Y) {x : Int32} (hd : decode Y.1 pc = .ok (.i2l, 1)) (k : V Z Y hp (pc + 1) L (.long x.toInt64 :: st)) : V Z Y hp pc L (.int x :: st) := fun H locs ls hP hS h => lv_i2l X.1 X.2.1 hd rfl (k H locs ls hP hS h)
theorem R_l2i (X : CX Z Y) {x : Int64} (hd : decode Y.1 pc = .ok (.l2i, 1)) (k : V Z Y hp (pc + 1) L (.int x.toInt32 :: st)) : V Z Y hp pc L (.long x :: st) := fun H locs ls hP hS h => lv_l2i X.1 X.2.1 hd rfl (k H locs ls hP hS h)
theorem R_dup (X : CX Z Y) {v : Value} (hd : decode Y.1 pc = .ok (.dup, 1)) (hv : v.category = 1) (k : V Z Y hp (pc + 1) L (v :: v :: st)) : V Z Y hp pc L (v :: st) := fun H locs ls hP hS h => lv_dup X.1 X.2.1 hd hv (k H locs ls hP hS h)
theorem R_goto (X : CX Z Y) {off : Int} {tgt : Nat} (hd : decode Y.1 pc = .ok (.goto off, 3)) (ht : (pc : Int) + off = (tgt : Int)) (k : V Z Y hp tgt L st) : V Z Y hp pc L st := fun H locs ls hP hS h => lv_goto X.1 X.2.1 hd ht (k H locs ls hP hS h)
theorem R_ifeq (X : CX Z Y) {x : Int32} {off : Int} {tgt : Nat} (hd : decode Y.1 pc = .ok (.ifCond .eq off, 3)) (ht : (pc : Int) + off = (tgt : Int)) (kt : x = 0 → V Z Y hp tgt L st) (kf : ¬ x = 0 → V Z Y hp (pc + 3) L st) : V Z Y hp pc L (.int x :: st) := fun H locs ls hP hS h => lv_if_eq X.1 X.2.1 hd ht (fun c => kt c H locs ls hP hS h) (fun c => kf c H locs ls hP hS h)
theorem R_ifne (X : CX Z Y) {x : Int32} {off : Int} {tgt : Nat} (hd : decode Y.1 pc = .ok (.ifCond .ne off, 3)) (ht : (pc : Int) + off = (tgt : Int)) (kt : ¬ x = 0 → V Z Y hp tgt L st) (kf : x = 0 → V Z Y hp (pc + 3) L st) : V Z Y hp pc L (.int x :: st) := fun H locs ls hP hS h => lv_if_ne X.1 X.2.1 hd ht (fun c => kt c H locs ls hP hS h) (fun c => kf c H locs ls hP hS h)
theorem R_iflt (X : CX Z Y) {x : Int32} {off : Int} {tgt : Nat} (hd : decode Y.1 pc = .ok (.ifCond .lt off, 3)) (ht : (pc : Int) + off = (tgt : Int)) (kt : x < 0 → V Z Y hp tgt L st) (kf : ¬ x < 0 → V Z Y hp (pc + 3) L st) : V Z Y hp pc L (.int x :: st) := fun H locs ls hP hS h => lv_if_lt X.1 X.2.1 hd ht (fun c => kt c H locs ls hP hS h) (fun c => kf c H locs ls hP hS h)
theorem R_ifge (X : CX Z Y) {x : Int32} {off : Int} {tgt : Nat} (hd : decode Y.1 pc = .ok (.ifCond .ge off, 3)) (ht : (pc : Int) + off = (tgt : Int)) (kt : 0 ≤ x → V Z Y hp tgt L st) (kf : ¬ 0 ≤ x → V Z Y hp (pc + 3) L st) : V Z Y hp pc L (.int x :: st) := fun H locs ls hP hS h => lv_if_ge X.1 X.2.1 hd ht (fun c => kt c H locs ls hP hS h) (fun c => kf c H locs ls hP hS h)
theorem R_ifgt (X : CX Z Y) {x : Int32} {off : Int} {tgt : Nat} (hd : decode Y.1 pc = .ok (.ifCond .gt off, 3)) (ht : (pc : Int) + off = (tgt : Int)) (kt : 0 < x → V Z Y hp tgt L st) (kf : ¬ 0 < x → V Z Y hp (pc + 3) L st) : V Z Y hp pc L (.int x :: st) := fun H locs ls hP hS h => lv_if_gt X.1 X.2.1 hd ht (fun c => kt c H locs ls hP hS h) (fun c => kf c H locs ls hP hS h)
theorem R_ifle (X : CX Z Y) {x : Int32} {off : Int} {tgt : Nat} (hd : decode Y.1 pc = .ok (.ifCond .le off, 3)) (ht : (pc : Int) + off = (tgt : Int)) (kt : x ≤ 0 → V Z Y hp tgt L st) (kf : ¬ x ≤ 0 → V Z Y hp (pc + 3) L st) : V Z Y hp pc L (.int x :: st) := fun H locs ls hP hS h => lv_if_le X.1 X.2.1 hd ht (fun c => kt c H locs ls hP hS h) (fun c => kf c H locs ls hP hS h)
theorem R_icmp_eq (X : CX Z Y) {x y : Int32} {off : Int} {tgt : Nat} (hd : decode Y.1 pc = .ok (.if_icmp .eq off, 3)) (ht : (pc : Int) + off = (tgt : Int)) (kt : x = y → V Z Y hp tgt L st) (kf : ¬ x = y → V Z Y hp (pc + 3) L st) : V Z Y hp pc L (.int y :: .int x :: st) := fun H locs ls hP hS h => lv_icmp_eq X.1 X.2.1 hd ht (fun c => kt c H locs ls hP hS h) (fun c => kf c H locs ls hP hS h)
theorem R_icmp_ne (X : CX Z Y) {x y : Int32} {off : Int} {tgt : Nat} (hd : decode Y.1 pc = .ok (.if_icmp .ne off, 3)) (ht : (pc : Int) + off = (tgt : Int)) (kt : ¬ x = y → V Z Y hp tgt L st) (kf : x = y → V Z Y hp (pc + 3) L st) : V Z Y hp pc L (.int y :: .int x :: st) := fun H locs ls hP hS h => lv_icmp_ne X.1 X.2.1 hd ht (fun c => kt c H locs ls hP hS h) (fun c => kf c H locs ls hP hS h)
theorem R_icmp_lt (X : CX Z Y) {x y : Int32} {off : Int} {tgt : Nat} (hd : decode Y.1 pc = .ok (.if_icmp .lt off, 3)) (ht : (pc : Int) + off = (tgt : Int)) (kt : x < y → V Z Y hp tgt L st) (kf : ¬ x < y → V Z Y hp (pc + 3) L st) : V Z Y hp pc L (.int y :: .int x :: st) := fun H locs ls hP hS h => lv_icmp_lt X.1 X.2.1 hd ht (fun c => kt c H locs ls hP hS h) (fun c => kf c H locs ls hP hS h)
theorem R_icmp_ge (X : CX Z Y) {x y : Int32} {off : Int} {tgt : Nat} (hd : decode Y.1 pc = .ok (.if_icmp .ge off, 3)) (ht : (pc : Int) + off = (tgt : Int)) (kt : y ≤ x → V Z Y hp tgt L st) (kf : ¬ y ≤ x → V Z Y hp (pc + 3) L st) : V Z Y hp pc L (.int y :: .int x :: st) := fun H locs ls hP hS h => lv_icmp_ge X.1 X.2.1 hd ht (fun c => kt c H locs ls hP hS h) (fun c => kf c H locs ls hP hS h)
theorem R_icmp_gt (X : CX Z Y) {x y : Int32} {off : Int} {tgt : Nat} (hd : decode Y.1 pc = .ok (.if_icmp .gt off, 3)) (ht : (pc : Int) + off = (tgt : Int)) (kt : y < x → V Z Y hp tgt L st) (kf : ¬ y < x → V Z Y hp (pc + 3) L st) : V Z Y hp pc L (.int y :: .int x :: st) := fun H locs ls hP hS h => lv_icmp_gt X.1 X.2.1 hd ht (fun c => kt c H locs ls hP hS h) (fun c => kf c H locs ls hP hS h)
theorem R_icmp_le (X : CX Z Y) {x y : Int32} {off : Int} {tgt : Nat} (hd : decode Y.1 pc = .ok (.if_icmp .le off, 3)) (ht : (pc : Int) + off = (tgt : Int)) (kt : x ≤ y → V Z Y hp tgt L st) (kf : ¬ x ≤ y → V Z Y hp (pc + 3) L st) : V Z Y hp pc L (.int y :: .int x :: st) := fun H locs ls hP hS h => lv_icmp_le X.1 X.2.1 hd ht (fun c => kt c H locs ls hP hS h) (fun c => kf c H locs ls hP hS h)
end Rows
end
section
/-! Rows of fields, arrays, switches, calls, ends. -/
def inb (i : Int32) (n : Nat) : Bool := decide (0 ≤ i.toInt ∧ i.toInt < n)
theorem inb_in {i : Int32} {n : Nat} (h : inb i n = true) : vp_in i n := vp_in_iff.mpr (of_decide_eq_true h)
def bz (x : Int32) : Int32 := vp_nar .boolean x
def rz (v : Int32) (hp : HP) : Option (Int32 × HP) := if v = 0 ∨ v = 1 then some (v, hp) else none
def mx (x y : Int32) : Int32 := if x < y then y else x
def mn (x y : Int32) : Int32 := if y < x then y else x
def isB (q : Nat) : Bool := q == 87 || q == 93
def isS (q : Nat) : Bool := decide (q < 118) && (sh q == (5, 0))
theorem ob {α β : Type} {o : Option α} {k : α → Option β} {x : β} (h : o.bind k = some x) : ∃ p, o = some p ∧ k p = some x := by
  cases o with
  | none => cases h
  | some p => exact ⟨p, rfl, h⟩
theorem ck {α : Type} {b : Bool} {a : Option α} {x : α} (h : (if b = true then a else none) = some x) : b = true ∧ a = some x := by
  by_cases hb : b = true
  · rw [if_pos hb] at h
    exact ⟨hb, h⟩
  · rw [if_neg hb] at h
    cases h
theorem cz {α : Type} {c : Prop} {_ : Decidable c} {a : Option α} {x : α} (h : (if c then none else a) = some x) : ¬ c ∧ a = some x := by
  by_cases hb : c
  · rw [if_pos hb] at h
    cases h
  · rw [if_neg hb] at h
    exact ⟨hb, h⟩
theorem sw_def {x : Int32} (n : Nat) (hn : n < 2 ^ 31) (h : ∀ k : Nat, k < n → ¬ x = nI k) : x.toInt < 0 ∨ (n : Int) - 1 < x.toInt := by
  rcases Int.lt_or_le x.toInt 0 with h0 | h0
  · exact Or.inl h0
  · rcases Int.lt_or_le ((n : Int) - 1) x.toInt with h1 | h1
    · exact Or.inr h1
    · exfalso
      obtain ⟨j, hj⟩ := Int.eq_ofNat_of_zero_le h0
      refine h j (by omega) (Int32.toInt_inj.mp ?_)
      rw [hj, nI_toInt (by omega)]
theorem B_all : ∀ q, isB q = true → (q < NC ∧ sh q = (0, 0)) ∧ (q + 1 < NC ∧ sh (q + 1) = (20, 8)) ∧ (q + 2 < NC ∧ sh (q + 2) = (20, 5)) ∧ (q + 3 < NC ∧ sh (q + 3) = (20, 5)) ∧ (q + 4 < NC ∧ sh (q + 4) = (20, 5)) ∧ (q + 5 < NC ∧ sh (q + 5) = (20, 6)) := by
  intro q h
  have : q = 87 ∨ q = 93 := by simpa [isB] using h
  rcases this with rfl | rfl <;> decide
theorem S_all : ∀ q, isS q = true → (q < NC ∧ sh q = (5, 0)) ∧ (q + 1 < NC ∧ sh (q + 1) = (20, 5)) ∧ (q + 2 < NC ∧ sh (q + 2) = (20, 25)) := by
  intro q h
  have hq : q < 118 := by
    unfold isS at h
    simp only [Bool.and_eq_true, decide_eq_true_eq] at h
    exact h.1
  have key : ∀ q, q < 118 → isS q = true → (q < NC ∧ sh q = (5, 0)) ∧ (q + 1 < NC ∧ sh (q + 1) = (20, 5)) ∧ (q + 2 < NC ∧ sh (q + 2) = (20, 25)) := by decide +kernel
  exact key q hq h
section HeapRows
theorem V_pc {Z : ZT} {Y : YT} {hp : HP} {pc pc' : Nat} {L : List (Nat × Value)} {st : List Value} (h : pc = pc') (k : V Z Y hp pc' L st) : V Z Y hp pc L st := h ▸ k
variable {Z : ZT} {Y : YT} {hp : HP} {pc : Nat} {L : List (Nat × Value)} {st : List Value}
theorem R_dup2 (X : CX Z Y) {v w : Value} (hd : decode Y.1 pc = .ok (.dup2, 1)) (hv : v.category = 1) (hw : w.category = 1) (k : V Z Y hp (pc + 1) L (v :: w :: v :: w :: st)) : V Z Y hp pc L (v :: w :: st) := fun H locs ls hP hS h => lv_dup2_11 X.1 X.2.1 hd hv hw (k H locs ls hP hS h)
theorem R_ldcw (X : CX Z Y) {i : Nat} {v : Int32} (hw : Cond.constant Y.2.1 i v ∈ TB) (hd : decode Y.1 pc = .ok (.ldc_w i, 3)) (k : V Z Y hp (pc + 3) L (.int v :: st)) : V Z Y hp pc L st := fun H locs ls hP hS h => lv_ldcw X.1 X.2.1 X.2.2.2.1 (X.2.2.2.2.1 _ hw) hd (k H locs ls hP hS h)
theorem R_swOut (X : CX Z Y) {dflt lo hi : Int} {offs : Array Int} {len : Nat} {x : Int32} {tgt : Nat} (hd : decode Y.1 pc = .ok (.tableswitch dflt lo hi offs, len)) (h9 : x.toInt < lo ∨ hi < x.toInt) (ht : (pc : Int) + dflt = (tgt : Int)) (k : V Z Y hp tgt L st) : V Z Y hp pc L (.int x :: st) := fun H locs ls hP hS h => lv_tableOut X.1 X.2.1 hd h9 ht (k H locs ls hP hS h)
theorem R_swIn (X : CX Z Y) {dflt lo hi : Int} {offs : Array Int} {len : Nat} {x : Int32} {off : Int} {tgt : Nat} (hd : decode Y.1 pc = .ok (.tableswitch dflt lo hi offs, len)) (n : Int) (hx : x.toInt = n) (h1 : ¬ n < lo) (h2 : ¬ hi < n) (ho : offs[(n - lo).toNat]? = some off) (ht : (pc : Int) + off = (tgt : Int)) (k : V Z Y hp tgt L st) : V Z Y hp pc L (.int x :: st) := fun H locs ls hP hS h => lv_tableIn X.1 X.2.1 hd (by rw [hx]; exact h1) (by rw [hx]; exact h2) (by rw [hx]; exact ho) ht (k H locs ls hP hS h)
/-- a field that holds an int -/
theorem R_getI (X : CX Z Y) {C : String} {T : u_T} {N ci idx k : Nat} (hc : classes[ci]? = some (C, T, N)) (hin : ∀ w ∈ u_ws C T N, w ∈ TB) (hk : k < NC) (hs : sh k = (ci, 0)) (j : Nat) (hf : fk ci j = (0, 0)) (hj : (decide (j < N) && decide (j < nf ci) && decide (ci < 20)) = true) (hlink : Cond.fieldLink Y.2.1 idx (T j).1 (T j).2.1 (T j).2.2.1 ∈ TB) (hd : decode Y.1 pc = .ok (.getfield idx, 3)) (kk : V Z Y hp (pc + 3) L (.int (hp k j) :: st)) : V Z Y hp pc L (.ref (gA (zG Z) k) :: st) := by
  intro H locs ls hP hS h
  simp only [Bool.and_eq_true, decide_eq_true_eq] at hj
  have he := wsO_at (zG Z) hp hk
  rw [ent_o _ _ hj.2 hs] at he
  have hv := flds_at (gA (zG Z)) hp k hj.1.2
  rw [hf] at hv
  exact va_get (D := gD (zG Z)) X.1 X.2.1 X.2.2.2.2.1 hin X.2.2.2.1 X.2.2.2.2.2.1.1 hP k he hc j hj.1.1 (X.2.2.2.2.1 _ hlink) (fun _ h9 => h9) hv hd (kk H locs ls hP hS h)
/-- a field that holds a reference that never changes -/
theorem R_getR (X : CX Z Y) {C : String} {T : u_T} {N ci idx k : Nat} (hc : classes[ci]? = some (C, T, N)) (hin : ∀ w ∈ u_ws C T N, w ∈ TB) (hk : k < NC) (hs : sh k = (ci, 0)) (j : Nat) {o : Nat} (hf : fk ci j = (1, o)) (hj : (decide (j < N) && decide (j < nf ci) && decide (ci < 20)) = true) (hlink : Cond.fieldLink Y.2.1 idx (T j).1 (T j).2.1 (T j).2.2.1 ∈ TB) (hd : decode Y.1 pc = .ok (.getfield idx, 3)) (kk : V Z Y hp (pc + 3) L (.ref (gA (zG Z) (k + o)) :: st)) : V Z Y hp pc L (.ref (gA (zG Z) k) :: st) := by
  intro H locs ls hP hS h
  simp only [Bool.and_eq_true, decide_eq_true_eq] at hj
  have he := wsO_at (zG Z) hp hk
  rw [ent_o _ _ hj.2 hs] at he
  have hv := flds_at (gA (zG Z)) hp k hj.1.2
  rw [hf] at hv
  exact va_get (D := gD (zG Z)) X.1 X.2.1 X.2.2.2.2.1 hin X.2.2.2.1 X.2.2.2.2.2.1.1 hP k he hc j hj.1.1 (X.2.2.2.2.1 _ hlink) (fun _ h9 => h9) hv hd (kk H locs ls hP hS h)
/-- a field that holds a reference that changes: the heap has its cell's number -/
theorem R_getD (X : CX Z Y) {C : String} {T : u_T} {N ci idx k : Nat} (hc : classes[ci]? = some (C, T, N)) (hin : ∀ w ∈ u_ws C T N, w ∈ TB) (hk : k < NC) (hs : sh k = (ci, 0)) (j : Nat) (hf : fk ci j = (2, 0)) (hj : (decide (j < N) && decide (j < nf ci) && decide (ci < 20)) = true) (hlink : Cond.fieldLink Y.2.1 idx (T j).1 (T j).2.1 (T j).2.2.1 ∈ TB) (hd : decode Y.1 pc = .ok (.getfield idx, 3)) (kk : V Z Y hp (pc + 3) L (.ref (gA (zG Z) (hp k j).toNatClampNeg) :: st)) : V Z Y hp pc L (.ref (gA (zG Z) k) :: st) := by
  intro H locs ls hP hS h
  simp only [Bool.and_eq_true, decide_eq_true_eq] at hj
  have he := wsO_at (zG Z) hp hk
  rw [ent_o _ _ hj.2 hs] at he
  have hv := flds_at (gA (zG Z)) hp k hj.1.2
  rw [hf] at hv
  exact va_get (D := gD (zG Z)) X.1 X.2.1 X.2.2.2.2.1 hin X.2.2.2.1 X.2.2.2.2.2.1.1 hP k he hc j hj.1.1 (X.2.2.2.2.1 _ hlink) (fun _ h9 => h9) hv hd (kk H locs ls hP hS h)
theorem put_world {G : GT} {k ci j : Nat} {v : Int32} (hk : k < NC) (hs : sh k = (ci, 0)) (hci : ci < 20) (hj : j < nf ci) : (wsO G hp).set k (gA G k, .inr (ci, (flds (gA G) hp k ci).set j (fv (gA G) (up hp k j v) k (fk ci j) j))) = wsO G (up hp k j v) := by
  rw [flds_set _ _ _ _ hj, ← ent_o G (up hp k j v) hci hs]
  exact wsO_set G hp _ hk
theorem R_putI (X : CX Z Y) {C : String} {T : u_T} {ty0 : Nat → FieldType} {N ci idx k : Nat} {v : Int32} (hc : classes[ci]? = some (C, T, N)) (hin : ∀ w ∈ u_ws C T N, w ∈ TB) (hty : ∀ k, k < N → parseFieldDescriptor (T k).2.2.1 = some (ty0 k)) (hnm : ∀ a, a < N → ∀ b, b < N → a ≠ b → (T a).2.1 ≠ (T b).2.1) (hk : k < NC) (hs : sh k = (ci, 0)) (j : Nat) (hf : fk ci j = (0, 0)) (hj : (decide (j < N) && decide (j < nf ci) && decide (ci < 20)) = true) (hfin : (T j).2.2.2 = false) (hdj : parseFieldDescriptor (T j).2.2.1 = some .int) (hlink : Cond.fieldLink Y.2.1 idx (T j).1 (T j).2.1 (T j).2.2.1 ∈ TB) (hd : decode Y.1 pc = .ok (.putfield idx, 3)) (kk : V Z Y (up hp k j v) (pc + 3) L st) : V Z Y hp pc L (.int v :: .ref (gA (zG Z) k) :: st) := by
  intro H locs ls hP hS h
  simp only [Bool.and_eq_true, decide_eq_true_eq] at hj
  have he := wsO_at (zG Z) hp hk
  rw [ent_o _ _ hj.2 hs] at he
  refine va_put (D := gD (zG Z)) (v := .int v) (ty := .int) X.1 X.2.1 X.2.2.2.2.1 hin ty0 hty hnm X.2.2.2.1 X.2.2.2.2.2.1.1 hP (X.D hp) hS k he hc j hj.1.1 (X.2.2.2.2.1 _ hlink) (fun _ h9 => h9) hfin hdj rfl rfl (by rw [flds_len]; exact hj.1.2) hd (fun H1 locs1 hP1 _ hS1 => ?_)
  have e : Value.int v = fv (gA (zG Z)) (up hp k j v) k (fk ci j) j := by
    rw [hf]
    show Value.int v = .int (up hp k j v k j)
    unfold up
    rw [setc_at]
    unfold upd
    rw [if_pos rfl]
  rw [e, put_world hk hs hj.2 hj.1.2] at hP1
  exact kk H1 locs1 ls hP1 hS1 h
theorem R_putD (X : CX Z Y) {C D : String} {T : u_T} {ty0 : Nat → FieldType} {N ci idx k q : Nat} (hc : classes[ci]? = some (C, T, N)) (hin : ∀ w ∈ u_ws C T N, w ∈ TB) (hty : ∀ k, k < N → parseFieldDescriptor (T k).2.2.1 = some (ty0 k)) (hnm : ∀ a, a < N → ∀ b, b < N → a ≠ b → (T a).2.1 ≠ (T b).2.1) (hk : k < NC) (hs : sh k = (ci, 0)) (j : Nat) (hf : fk ci j = (2, 0)) (hj : (decide (j < N) && decide (j < nf ci) && decide (ci < 20)) = true) (hfin : (T j).2.2.2 = false) (hdj : parseFieldDescriptor (T j).2.2.1 = some (.object D)) (hq : q < NC) (hlink : Cond.fieldLink Y.2.1 idx (T j).1 (T j).2.1 (T j).2.2.1 ∈ TB) (hd : decode Y.1 pc = .ok (.putfield idx, 3)) (kk : V Z Y (up hp k j (nI q)) (pc + 3) L st) : V Z Y hp pc L (.ref (gA (zG Z) q) :: .ref (gA (zG Z) k) :: st) := by
  intro H locs ls hP hS h
  simp only [Bool.and_eq_true, decide_eq_true_eq] at hj
  have he := wsO_at (zG Z) hp hk
  rw [ent_o _ _ hj.2 hs] at he
  refine va_put (D := gD (zG Z)) (v := .ref (gA (zG Z) q)) (ty := .object D) X.1 X.2.1 X.2.2.2.2.1 hin ty0 hty hnm X.2.2.2.1 X.2.2.2.2.2.1.1 hP (X.D hp) hS k he hc j hj.1.1 (X.2.2.2.2.1 _ hlink) (fun _ h9 => h9) hfin hdj rfl rfl (by rw [flds_len]; exact hj.1.2) hd (fun H1 locs1 hP1 _ hS1 => ?_)
  have e : Value.ref (gA (zG Z) q) = fv (gA (zG Z)) (up hp k j (nI q)) k (fk ci j) j := by
    rw [hf]
    show Value.ref (gA (zG Z) q) = .ref (gA (zG Z) (up hp k j (nI q) k j).toNatClampNeg)
    unfold up
    rw [setc_at]
    unfold upd
    rw [if_pos rfl, nI_clamp (Nat.lt_trans hq (by decide))]
  rw [e, put_world hk hs hj.2 hj.1.2] at hP1
  exact kk H1 locs1 ls hP1 hS1 h
theorem R_iald (X : CX Z Y) {k n : Nat} {i : Int32} (hk : k < NC) (hs : sh k = (20, n)) (hi : inb i n = true) (hd : decode Y.1 pc = .ok (.iaload, 1)) (kk : V Z Y hp (pc + 1) L (.int (hp k i.toNatClampNeg) :: st)) : V Z Y hp pc L (.int i :: .ref (gA (zG Z) k) :: st) := by
  intro H locs ls hP hS h
  have he := wsO_at (zG Z) hp hk
  rw [ent_i _ _ hs] at he
  exact va_iald X.1 X.2.1 X.2.2.2.2.2.1.1 hP k 0 he rfl (inb_in hi) hd (kk H locs ls hP hS h)
theorem R_zald (X : CX Z Y) {k n : Nat} {i : Int32} (hk : k < NC) (hs : sh k = (21, n)) (hi : inb i n = true) (hd : decode Y.1 pc = .ok (.baload, 1)) (kk : V Z Y hp (pc + 1) L (.int (hp k i.toNatClampNeg) :: st)) : V Z Y hp pc L (.int i :: .ref (gA (zG Z) k) :: st) := by
  intro H locs ls hP hS h
  have he := wsO_at (zG Z) hp hk
  rw [ent_z _ _ hs] at he
  exact va_zald X.1 X.2.1 X.2.2.2.2.2.1.1 hP k 1 he rfl (inb_in hi) hd (kk H locs ls hP hS h)
theorem R_aald (X : CX Z Y) {k n : Nat} {i : Int32} (hk : k < NC) (hs : sh k = (22, n)) (hi : inb i n = true) (hd : decode Y.1 pc = .ok (.aaload, 1)) (kk : V Z Y hp (pc + 1) L (.ref (gA (zG Z) (k + 1 + 3 * i.toNatClampNeg)) :: st)) : V Z Y hp pc L (.int i :: .ref (gA (zG Z) k) :: st) := by
  intro H locs ls hP hS h
  have he := wsO_at (zG Z) hp hk
  rw [ent_q _ _ hs] at he
  exact va_aldq X.1 X.2.1 X.2.2.2.2.2.1.1 hP k 2 he rfl (inb_in hi) hd (kk H locs ls hP hS h)
theorem R_iast (X : CX Z Y) {k n : Nat} {i x : Int32} (hk : k < NC) (hs : sh k = (20, n)) (hi : inb i n = true) (hd : decode Y.1 pc = .ok (.iastore, 1)) (kk : V Z Y (up hp k i.toNatClampNeg x) (pc + 1) L st) : V Z Y hp pc L (.int x :: .int i :: .ref (gA (zG Z) k) :: st) := by
  intro H locs ls hP hS h
  have he := wsO_at (zG Z) hp hk
  rw [ent_i _ _ hs] at he
  refine va_iast X.1 X.2.1 X.2.2.2.2.2.1.1 hP (X.D hp) hS k 0 he rfl (inb_in hi) hd (fun H1 locs1 hP1 _ hS1 => kk H1 locs1 ls ?_ hS1 h)
  have e := ent_i (zG Z) (up hp k i.toNatClampNeg x) hs
  rw [show up hp k i.toNatClampNeg x k = upd (hp k) i.toNatClampNeg x from setc_at _ _ _] at e
  rw [← e, show up hp k i.toNatClampNeg x = setc hp k (upd (hp k) i.toNatClampNeg x) from rfl, wsO_set _ _ _ hk] at hP1
  exact hP1
theorem R_zast (X : CX Z Y) {k n : Nat} {i x : Int32} (hk : k < NC) (hs : sh k = (21, n)) (hi : inb i n = true) (hd : decode Y.1 pc = .ok (.bastore, 1)) (kk : V Z Y (up hp k i.toNatClampNeg (bz x)) (pc + 1) L st) : V Z Y hp pc L (.int x :: .int i :: .ref (gA (zG Z) k) :: st) := by
  intro H locs ls hP hS h
  have he := wsO_at (zG Z) hp hk
  rw [ent_z _ _ hs] at he
  refine va_zast X.1 X.2.1 X.2.2.2.2.2.1.1 hP (X.D hp) hS k 1 he rfl (inb_in hi) hd (fun H1 locs1 hP1 _ hS1 => kk H1 locs1 ls ?_ hS1 h)
  have e := ent_z (zG Z) (up hp k i.toNatClampNeg (bz x)) hs
  rw [show up hp k i.toNatClampNeg (bz x) k = upd (hp k) i.toNatClampNeg (bz x) from setc_at _ _ _] at e
  rw [show vp_nar .boolean x = bz x from rfl, ← e, show up hp k i.toNatClampNeg (bz x) = setc hp k (upd (hp k) i.toNatClampNeg (bz x)) from rfl, wsO_set _ _ _ hk] at hP1
  exact hP1
theorem R_alen (X : CX Z Y) {k n : Nat} (hk : k < NC) (hs : sh k = (20, n)) (hd : decode Y.1 pc = .ok (.arraylength, 1)) (kk : V Z Y hp (pc + 1) L (.int (Int32.ofNat n) :: st)) : V Z Y hp pc L (.ref (gA (zG Z) k) :: st) := by
  intro H locs ls hP hS h
  have he := wsO_at (zG Z) hp hk
  rw [ent_i _ _ hs] at he
  exact va_alen X.1 X.2.1 X.2.2.2.2.2.1.1 hP k 0 he (ty := .int) rfl rfl hd (kk H locs ls hP hS h)
theorem R_mmax (X : CX Z Y) {idx : Nat} {x y : Int32} (hl : Cond.methodLink Y.2.1 idx Lib.Math.max.name ∈ TB) (h1 : Cond.static Lib.Math.max.name ∈ TB) (h2 : Cond.initialized "java/lang/Math" ∈ TB) (h3 : Cond.code Lib.Math.max.name Lib.Math.max.code 2 (some .int) ∈ TB) (hy : (decide (0 < Y.2.2.2) && decide ((st.map fun v => v.category).sum ≤ 8)) = true) (hd : decode Y.1 pc = .ok (.invokestatic idx, 3)) (kk : V Z Y hp (pc + 3) L (.int (mx x y) :: st)) : V Z Y hp pc L (.int y :: .int x :: st) := by
  intro H locs ls hP hS h
  simp only [Bool.and_eq_true, decide_eq_true_eq] at hy
  obtain ⟨r1, r2, r3, r4⟩ := X.2.2.2.2.2.2.2
  exact va_mmax X.1 X.2.1 (X.2.2.1.trans h.1.symm) X.2.2.2.1 (X.2.2.2.2.1 _ hl) (X.2.2.2.2.1 _ h1) (X.2.2.2.2.1 _ h2) (X.2.2.2.2.1 _ h3) (by omega) (by omega) r3 r4 hd (kk H locs ls hP hS h)
theorem R_mmin (X : CX Z Y) {idx : Nat} {x y : Int32} (hl : Cond.methodLink Y.2.1 idx Lib.Math.min.name ∈ TB) (h1 : Cond.static Lib.Math.min.name ∈ TB) (h2 : Cond.initialized "java/lang/Math" ∈ TB) (h3 : Cond.code Lib.Math.min.name Lib.Math.min.code 2 (some .int) ∈ TB) (hy : (decide (0 < Y.2.2.2) && decide ((st.map fun v => v.category).sum ≤ 8)) = true) (hd : decode Y.1 pc = .ok (.invokestatic idx, 3)) (kk : V Z Y hp (pc + 3) L (.int (mn x y) :: st)) : V Z Y hp pc L (.int y :: .int x :: st) := by
  intro H locs ls hP hS h
  simp only [Bool.and_eq_true, decide_eq_true_eq] at hy
  obtain ⟨r1, r2, r3, r4⟩ := X.2.2.2.2.2.2.2
  exact va_mmin X.1 X.2.1 (X.2.2.1.trans h.1.symm) X.2.2.2.1 (X.2.2.2.2.1 _ hl) (X.2.2.2.2.1 _ h1) (X.2.2.2.2.1 _ h2) (X.2.2.2.2.1 _ h3) (by omega) (by omega) r3 r4 hd (kk H locs ls hP hS h)
theorem R_copy (X : CX Z Y) {idx k0 k1 n0 n1 : Nat} {sp dp n : Int32} (hl : Cond.methodLink Y.2.1 idx arraycopyName ∈ TB) (h1 : Cond.native arraycopyName ∈ TB) (h2 : Cond.static arraycopyName ∈ TB) (h3 : Cond.initialized "java/lang/System" ∈ TB) (hk0 : k0 < NC) (hs0 : sh k0 = (20, n0)) (hk1 : k1 < NC) (hs1 : sh k1 = (20, n1)) (hb : (decide (0 ≤ sp.toInt) && decide (0 ≤ dp.toInt) && decide (0 ≤ n.toInt) && decide (sp.toNatClampNeg + n.toNatClampNeg ≤ n0) && decide (dp.toNatClampNeg + n.toNatClampNeg ≤ n1)) = true) (hy : (decide (0 < Y.2.2.2) && decide ((st.map fun v => v.category).sum ≤ 8)) = true) (hd : decode Y.1 pc = .ok (.invokestatic idx, 3)) (kk : V Z Y (setc hp k1 (va_cpy (hp k0) (hp k1) sp.toNatClampNeg dp.toNatClampNeg n.toNatClampNeg)) (pc + 3) L st) : V Z Y hp pc L (.int n :: .int dp :: .ref (gA (zG Z) k1) :: .int sp :: .ref (gA (zG Z) k0) :: st) := by
  intro H locs ls hP hS h
  simp only [Bool.and_eq_true, decide_eq_true_eq] at hy hb
  obtain ⟨r1, r2, r3, r4⟩ := X.2.2.2.2.2.2.2
  have he0 := wsO_at (zG Z) hp hk0
  rw [ent_i _ _ hs0] at he0
  have he1 := wsO_at (zG Z) hp hk1
  rw [ent_i _ _ hs1] at he1
  have nz : ∀ z : Int32, 0 ≤ z.toInt → ¬ z < 0 := fun z hz hlt => by
    rw [Int32.lt_iff_toInt_lt] at hlt
    have : (0 : Int32).toInt = 0 := by decide
    omega
  refine va_copyi X.1 X.2.1 (X.2.2.1.trans h.1.symm) X.2.2.2.1 (X.2.2.2.2.1 _ hl) (X.2.2.2.2.1 _ h1) (X.2.2.2.2.1 _ h2) (X.2.2.2.2.1 _ h3) X.2.2.2.2.2.1.1 hP (X.D hp) hS k0 k1 0 0 he0 he1 (ty := .int) rfl rfl rfl (nz _ hb.1.1.1.1) (nz _ hb.1.1.1.2) (nz _ hb.1.1.2) hb.1.2 hb.2 (fun _ _ => rfl) (by omega) (by show _ + (nativeFrameWords "java/lang/System" "arraycopy" 5 + 11) ≤ _; rw [show nativeFrameWords "java/lang/System" "arraycopy" 5 = 7 by decide]; omega) hd (fun H1 locs1 hP1 _ hS1 => kk H1 locs1 ls ?_ hS1 h)
  have e := ent_i (zG Z) (setc hp k1 (va_cpy (hp k0) (hp k1) sp.toNatClampNeg dp.toNatClampNeg n.toNatClampNeg)) hs1
  rw [setc_at] at e
  rw [← e, wsO_set _ _ _ hk1] at hP1
  exact hP1
end HeapRows
end
section
/-! Contracts of methods, calls, ends. -/
def PreW (G : GT) (hp : HP) (U : State) : Prop := va_P (gD G) classes (wsO G hp) U.heap ∧ KK G U
def MI (G : GT) (y : MethodName) (Y : YT) (rt : FieldType) (av : List Value) (hp : HP) (r : Int32) (hp1 : HP) : Prop := ∀ l, Met l y (Cond.code y Y.1 Y.2.2.1 (some rt) :: TB) (rmd Y.2.2.2) (va_Pc av (PreW G hp)) (va_Qi (fun (a : Int32) (u : HP) => a = r ∧ u = hp1) (fun u t => va_P (gD G) classes (wsO G u) t.heap) (AA G)) 0 0 (AA G)
def MV (G : GT) (y : MethodName) (Y : YT) (av : List Value) (hp : HP) (hp1 : HP) : Prop := ∀ l, Met l y (Cond.code y Y.1 Y.2.2.1 none :: TB) (rmd Y.2.2.2) (va_Pc av (PreW G hp)) (va_Qv (fun (u : HP) => u = hp1) (fun u t => va_P (gD G) classes (wsO G u) t.heap) (AA G)) 0 0 (AA G)
def RetI (Z : ZT) (Y : YT) (rt : FieldType) (r : Int32) (hp1 : HP) : Prop := narrow rt (.int r) = .int r → ∀ pc L, decode Y.1 pc = .ok (.ireturn, 1) → V Z Y hp1 pc L [.int r]
def RetV (Z : ZT) (Y : YT) (hp1 : HP) : Prop := ∀ pc L, decode Y.1 pc = .ok (.return_, 1) → V Z Y hp1 pc L []
theorem MI_of {G : GT} {y : MethodName} {Y : YT} {rt : FieldType} {av : List Value} {hp hp1 : HP} {r : Int32} (hy : (plainName y.cls && decide (y.cls = Y.2.1) && decide ((lg_sl av).length ≤ Y.2.2.1)) = true) (h : ∀ Z : ZT, zG Z = G → CX Z Y → RetI Z Y rt r hp1 → V Z Y hp 0 (lv_args 0 av) []) : MI G y Y rt av hp r hp1 := by
  intro l
  simp only [Bool.and_eq_true, decide_eq_true_eq] at hy
  refine Met.ofW (cc := Y.1) (maxL := Y.2.2.1) (ret := some rt) hy.1.1 rfl ?_
  intro p e s m args below meth c s₁ B hml hv
  obtain ⟨rfl, hP, hK⟩ := hv
  have hts : ∀ w ∈ TB, w.before av.toArray s = true := fun w hw => atoms_spec (ws := Cond.code y Y.1 Y.2.2.1 (some rt) :: TB) B.pre w (List.mem_cons_of_mem _ hw)
  have hown : s.vm.findClass y.cls = some m.cls := findClass_of_methodNamed B.named
  rw [hy.1.2] at hown
  have hlocks := B.notSynchronized
  have hS : va_S (AA G) s.heap s.heap [] := va_S.rf
  have hl := lv_entry av (n := Y.2.2.1) hy.2
  rw [lg_entry_eq]
  have X : CX ((p, l, e, rmd Y.2.2.2, s, m), (av.toArray, below, meth, c, 0, 0), (MQ below (va_Qi (fun (a : Int32) (u : HP) => a = r ∧ u = hp1) (fun u t => va_P (gD G) classes (wsO G u) t.heap) (AA G)) av.toArray s 0 0 (AA G), AA G, G)) Y :=
    ⟨B.exec, B.bytes, hml, hown, hts, hK, fun k hk => ⟨k, hk, rfl⟩, Nat.le_refl _, Nat.le_refl _, Nat.le_refl _, Nat.le_refl _⟩
  refine h _ rfl X ?_ s.heap [] _ hP hS hl
  intro hn pc L hd H locs ls hP hS hl
  exact W.zret (v := r) B.exec B.bytes B.returns hn (fun t ht _ => ⟨⟨r, hp1, rfl, ⟨rfl, rfl⟩, by show va_P _ _ _ t.heap; rw [ht]; exact hP⟩, hS.F ht⟩) hS.2.2 hd
theorem MV_of {G : GT} {y : MethodName} {Y : YT} {av : List Value} {hp hp1 : HP} (hy : (plainName y.cls && decide (y.cls = Y.2.1) && decide ((lg_sl av).length ≤ Y.2.2.1)) = true) (h : ∀ Z : ZT, zG Z = G → CX Z Y → RetV Z Y hp1 → V Z Y hp 0 (lv_args 0 av) []) : MV G y Y av hp hp1 := by
  intro l
  simp only [Bool.and_eq_true, decide_eq_true_eq] at hy
  refine Met.ofW (cc := Y.1) (maxL := Y.2.2.1) (ret := none) hy.1.1 rfl ?_
  intro p e s m args below meth c s₁ B hml hv
  obtain ⟨rfl, hP, hK⟩ := hv
  have hts : ∀ w ∈ TB, w.before av.toArray s = true := fun w hw => atoms_spec (ws := Cond.code y Y.1 Y.2.2.1 none :: TB) B.pre w (List.mem_cons_of_mem _ hw)
  have hown : s.vm.findClass y.cls = some m.cls := findClass_of_methodNamed B.named
  rw [hy.1.2] at hown
  have hlocks := B.notSynchronized
  have hS : va_S (AA G) s.heap s.heap [] := va_S.rf
  have hl := lv_entry av (n := Y.2.2.1) hy.2
  rw [lg_entry_eq]
  have X : CX ((p, l, e, rmd Y.2.2.2, s, m), (av.toArray, below, meth, c, 0, 0), (MQ below (va_Qv (fun (u : HP) => u = hp1) (fun u t => va_P (gD G) classes (wsO G u) t.heap) (AA G)) av.toArray s 0 0 (AA G), AA G, G)) Y :=
    ⟨B.exec, B.bytes, hml, hown, hts, hK, fun k hk => ⟨k, hk, rfl⟩, Nat.le_refl _, Nat.le_refl _, Nat.le_refl _, Nat.le_refl _⟩
  refine h _ rfl X ?_ s.heap [] _ hP hS hl
  intro pc L hd H locs ls hP hS hl
  exact W.vret B.exec B.bytes B.returns (fun t ht _ => ⟨⟨hp1, rfl, rfl, by show va_P _ _ _ t.heap; rw [ht]; exact hP⟩, hS.F ht⟩) hS.2.2 hd
/-- what every call of an instance method, of a static method, needs of the tables -/
def CFv (y : MethodName) (Y : YT) (rt : Option FieldType) (n : Nat) : Prop := Cond.instanceMethod y ∈ TB ∧ Cond.selects y.cls y y ∈ TB ∧ Cond.initialized y.cls ∈ TB ∧ Cond.code y Y.1 Y.2.2.1 rt ∈ TB ∧ (y.cls ≠ "java/lang/invoke/MethodHandle" ∧ y.cls ≠ "java/lang/invoke/VarHandle" ∧ (parseMethodDescriptor y.desc).map (fun d => d.parameters.length) = some n)
def CFs (y : MethodName) (Y : YT) (rt : Option FieldType) (n : Nat) : Prop := Cond.static y ∈ TB ∧ Cond.initialized y.cls ∈ TB ∧ Cond.code y Y.1 Y.2.2.1 rt ∈ TB ∧ (y.cls ≠ "java/lang/invoke/MethodHandle" ∧ y.cls ≠ "java/lang/invoke/VarHandle" ∧ (parseMethodDescriptor y.desc).map (fun d => d.parameters.length) = some n)
theorem PreW_blind (G : GT) (hp : HP) (av : List Value) : FrameBlind (va_Pc av (PreW G hp)) := fun _ U _ _ q => ⟨q.1, q.2.1, KK.same (s := U) rfl q.2.2⟩
/-- the most rounds that a loop may take -/
def FU : Nat := 3000
section Calls4
variable {Z : ZT} {Y : YT} {hp hp1 : HP} {pc : Nat} {L : List (Nat × Value)} {st : List Value}
theorem R_ret {p : Int32 × HP} {v : Int32} (hR : RetI Z Y .int p.1 p.2) (h : some (v, hp) = some p) (hd : decode Y.1 pc = .ok (.ireturn, 1)) : V Z Y hp pc L [.int v] := by
  cases h
  exact hR rfl pc L hd
theorem R_retz {p : Int32 × HP} {v : Int32} (hR : RetI Z Y .boolean p.1 p.2) (h : rz v hp = some p) (hd : decode Y.1 pc = .ok (.ireturn, 1)) : V Z Y hp pc L [.int v] := by
  unfold rz at h
  split at h
  · rename_i hv
    cases h
    refine hR ?_ pc L hd
    rcases hv with rfl | rfl
    · exact (by decide : narrow .boolean (.int 0) = .int 0)
    · exact (by decide : narrow .boolean (.int 1) = .int 1)
  · cases h
theorem R_retc {p : Int32 × HP} {v : Int32} (hR : RetI Z Y .boolean p.1 p.2) (hv : narrow .boolean (.int v) = .int v) (h : some (v, hp) = some p) (hd : decode Y.1 pc = .ok (.ireturn, 1)) : V Z Y hp pc L [.int v] := by
  cases h
  exact hR hv pc L hd
theorem R_retv {p : Int32 × HP} {v : Int32} (hR : RetV Z Y p.2) (h : some (v, hp) = some p) (hd : decode Y.1 pc = .ok (.return_, 1)) : V Z Y hp pc L [] := by
  cases h
  exact hR pc L hd
theorem AA_zA (X : CX Z Y) : ∀ q, AA (zG Z) q → zA Z q := fun q hq => by
  obtain ⟨k, hk, rfl⟩ := hq
  exact X.2.2.2.2.2.2.1 k hk
theorem room4 (X : CX Z Y) {Y' : YT} (hdep : (decide (Y'.2.2.2 + 1 ≤ Y.2.2.2) && decide (Y'.2.2.1 ≤ 11)) = true) : (rmd Y'.2.2.2).frames + 1 ≤ (zR Z).frames ∧ 8 + (Y'.2.2.1 + 11) + (rmd Y'.2.2.2).locals ≤ (zR Z).locals := by
  simp only [Bool.and_eq_true, decide_eq_true_eq] at hdep
  obtain ⟨r1, r2, r3, r4⟩ := X.2.2.2.2.2.2.2
  have e1 : (rmd Y'.2.2.2).frames = Y'.2.2.2 := rfl
  have e2 : (rmd Y'.2.2.2).locals = 30 * Y'.2.2.2 := rfl
  omega
theorem R_vcall (X : CX Z Y) {y : MethodName} {Y' : YT} {rt : FieldType} {T : u_T} {N ci idx k n : Nat} {As S : List Value} {r : Int32} (hM : MI (zG Z) y Y' rt (.ref (gA (zG Z) k) :: As) hp r hp1) (hl : Cond.methodLink Y.2.1 idx y ∈ TB) (cf : CFv y Y' (some rt) n) (hk : k < NC) (hs : sh k = (ci, 0)) (hc : classes[ci]? = some (y.cls, T, N)) (hg : (decide (As.length = n) && decide (ci < 20) && decide ((st.map fun v => v.category).sum ≤ 8)) = true) (hdep : (decide (Y'.2.2.2 + 1 ≤ Y.2.2.2) && decide (Y'.2.2.1 ≤ 11)) = true) (hS : S = As.reverse ++ .ref (gA (zG Z) k) :: st) (hd : decode Y.1 pc = .ok (.invokevirtual idx, 3)) (kk : V Z Y hp1 (pc + 3) L (.int r :: st)) : V Z Y hp pc L S := by
  subst hS
  intro H locs ls hP hS h
  simp only [Bool.and_eq_true, decide_eq_true_eq] at hg
  obtain ⟨c1, c2, c3, c4, c5⟩ := cf
  have hts := X.2.2.2.2.1
  obtain ⟨r1, r2, r3, r4⟩ := X.2.2.2.2.2.2.2
  have he := wsO_at (zG Z) hp hk
  rw [ent_o _ _ hg.1.2 hs] at he
  refine va_calli (va_runV (As := As) (rest := st) ⟨X.1, X.2.1, X.2.2.1, X.2.2.2.1, hts⟩ (hM (zl Z)) ⟨callB_of n hts (TB_code c4) rfl rfl rfl (hts _ c3) (hts _ hl) c5 (room4 X hdep), hts _ c1, hts _ c2⟩ ⟨PreW_blind _ _ _, va_recv X.2.2.2.2.2.1.1 hP hc he, fun U hU hW => ⟨rfl, by rw [hU]; exact hP, KK.warm hW X.2.2.2.2.2.1⟩⟩ rfl hg.1.1 h.1 rfl (lv_room hg.2) hd ⟨r3, r4⟩) hS (fun q _ hq => AA_zA X q hq) (fun q hq => AA_zA X q hq) (fun a u t H1 locs1 ht hvm hw hB _ _ hS1 => ?_)
  obtain ⟨rfl, rfl⟩ := hw
  replace hB : va_P _ _ _ _ := hB
  rw [ht] at hB
  exact kk H1 locs1 ls hB hS1 h
theorem R_vcallv (X : CX Z Y) {y : MethodName} {Y' : YT} {T : u_T} {N ci idx k n : Nat} {As S : List Value} (hM : MV (zG Z) y Y' (.ref (gA (zG Z) k) :: As) hp hp1) (hl : Cond.methodLink Y.2.1 idx y ∈ TB) (cf : CFv y Y' none n) (hk : k < NC) (hs : sh k = (ci, 0)) (hc : classes[ci]? = some (y.cls, T, N)) (hg : (decide (As.length = n) && decide (ci < 20) && decide ((st.map fun v => v.category).sum ≤ 8)) = true) (hdep : (decide (Y'.2.2.2 + 1 ≤ Y.2.2.2) && decide (Y'.2.2.1 ≤ 11)) = true) (hS : S = As.reverse ++ .ref (gA (zG Z) k) :: st) (hd : decode Y.1 pc = .ok (.invokevirtual idx, 3)) (kk : V Z Y hp1 (pc + 3) L st) : V Z Y hp pc L S := by
  subst hS
  intro H locs ls hP hS h
  simp only [Bool.and_eq_true, decide_eq_true_eq] at hg
  obtain ⟨c1, c2, c3, c4, c5⟩ := cf
  have hts := X.2.2.2.2.1
  obtain ⟨r1, r2, r3, r4⟩ := X.2.2.2.2.2.2.2
  have he := wsO_at (zG Z) hp hk
  rw [ent_o _ _ hg.1.2 hs] at he
  refine va_callv (va_runV (As := As) (rest := st) ⟨X.1, X.2.1, X.2.2.1, X.2.2.2.1, hts⟩ (hM (zl Z)) ⟨callB_of n hts (TB_code c4) rfl rfl rfl (hts _ c3) (hts _ hl) c5 (room4 X hdep), hts _ c1, hts _ c2⟩ ⟨PreW_blind _ _ _, va_recv X.2.2.2.2.2.1.1 hP hc he, fun U hU hW => ⟨rfl, by rw [hU]; exact hP, KK.warm hW X.2.2.2.2.2.1⟩⟩ rfl hg.1.1 h.1 rfl (lv_room hg.2) hd ⟨r3, r4⟩) hS (fun q _ hq => AA_zA X q hq) (fun q hq => AA_zA X q hq) (fun u t H1 locs1 ht hvm hw hB _ _ hS1 => ?_)
  subst hw
  replace hB : va_P _ _ _ _ := hB
  rw [ht] at hB
  exact kk H1 locs1 ls hB hS1 h
theorem R_scall (X : CX Z Y) {y : MethodName} {Y' : YT} {rt : FieldType} {idx n : Nat} {As S : List Value} {r : Int32} (hM : MI (zG Z) y Y' rt As hp r hp1) (hl : Cond.methodLink Y.2.1 idx y ∈ TB) (cf : CFs y Y' (some rt) n) (hg : (decide (As.length = n) && decide ((st.map fun v => v.category).sum ≤ 8)) = true) (hdep : (decide (Y'.2.2.2 + 1 ≤ Y.2.2.2) && decide (Y'.2.2.1 ≤ 11)) = true) (hS : S = As.reverse ++ st) (hd : decode Y.1 pc = .ok (.invokestatic idx, 3)) (kk : V Z Y hp1 (pc + 3) L (.int r :: st)) : V Z Y hp pc L S := by
  subst hS
  intro H locs ls hP hS h
  simp only [Bool.and_eq_true, decide_eq_true_eq] at hg
  obtain ⟨c1, c3, c4, c5⟩ := cf
  have hts := X.2.2.2.2.1
  obtain ⟨r1, r2, r3, r4⟩ := X.2.2.2.2.2.2.2
  refine va_calli (va_runS (As := As) (rest := st) ⟨X.1, X.2.1, X.2.2.1, X.2.2.2.1, hts⟩ (hM (zl Z)) ⟨callB_of n hts (TB_code c4) rfl rfl rfl (hts _ c3) (hts _ hl) c5 (room4 X hdep), hts _ c1⟩ ⟨PreW_blind _ _ _, fun U hU hW => ⟨rfl, by rw [hU]; exact hP, KK.warm hW X.2.2.2.2.2.1⟩⟩ rfl hg.1 h.1 rfl (lv_room hg.2) hd ⟨r3, r4⟩) hS (fun q _ hq => AA_zA X q hq) (fun q hq => AA_zA X q hq) (fun a u t H1 locs1 ht hvm hw hB _ _ hS1 => ?_)
  obtain ⟨rfl, rfl⟩ := hw
  replace hB : va_P _ _ _ _ := hB
  rw [ht] at hB
  exact kk H1 locs1 ls hB hS1 h
/-- a static method that is private in a nest mate -/
theorem R_ncall (X : CX Z Y) {y : MethodName} {Y' : YT} {rt : FieldType} {idx n : Nat} {host : String} {As S : List Value} {r : Int32} (hM : MI (zG Z) y Y' rt As hp r hp1) (hl : (Y.2.1, idx, y, host) ∈ NWs) (cf : CFs y Y' (some rt) n) (hg : (decide (As.length = n) && decide ((st.map fun v => v.category).sum ≤ 8)) = true) (hdep : (decide (Y'.2.2.2 + 1 ≤ Y.2.2.2) && decide (Y'.2.2.1 ≤ 11)) = true) (hS : S = As.reverse ++ st) (hd : decode Y.1 pc = .ok (.invokestatic idx, 3)) (kk : V Z Y hp1 (pc + 3) L (.int r :: st)) : V Z Y hp pc L S := by
  subst hS
  intro H locs ls hP hS h
  simp only [Bool.and_eq_true, decide_eq_true_eq] at hg
  obtain ⟨c1, c3, c4, c5⟩ := cf
  have hts := X.2.2.2.2.1
  obtain ⟨r1, r2, r3, r4⟩ := X.2.2.2.2.2.2.2
  refine va_calli (va_runSN (As := As) (rest := st) ⟨X.1, X.2.1, X.2.2.1, X.2.2.2.1, hts⟩ (hM (zl Z)) ⟨va_cnB n hts (TB_code c4) rfl rfl rfl (X.2.2.2.2.2.1.2.1 _ hl) (hts _ c3) c5 (room4 X hdep), hts _ c1, trivial⟩ ⟨PreW_blind _ _ _, fun U hU hW => ⟨rfl, by rw [hU]; exact hP, KK.warm hW X.2.2.2.2.2.1⟩⟩ rfl hg.1 h.1 rfl (lv_room hg.2) hd ⟨r3, r4⟩) hS (fun q _ hq => AA_zA X q hq) (fun q hq => AA_zA X q hq) (fun a u t H1 locs1 ht hvm hw hB _ _ hS1 => ?_)
  obtain ⟨rfl, rfl⟩ := hw
  replace hB : va_P _ _ _ _ := hB
  rw [ht] at hB
  exact kk H1 locs1 ls hB hS1 h
end Calls4
end
section
/-! For every method a function over the heap: what its bytecode does. Printed by wip/whole/walk.py. -/
def f_BA_within (hp : HP) (a0 : Int32) (a1 : Int32) (a2 : Int32) : Option (Int32 × HP) :=
  if a0 < a1 then
    some ((0 : Int32), hp)
  else
    if a2 < a0 then
      some ((0 : Int32), hp)
    else
      some ((1 : Int32), hp)
def f_Re_append (hp : HP) (a1 : Int32) : Option (Int32 × HP) :=
  if (240 : Int32) ≤ (hp 1 1) then
    some (0, hp)
  else
    (if inb (hp 1 1) 240 then some (0, (up (up hp 2 ((hp 1 1)).toNatClampNeg a1) 1 1 (((up hp 2 ((hp 1 1)).toNatClampNeg a1) 1 1) + (1 : Int32)))) else none)
def f_BA_feed (hp : HP) (a1 : Int32) : Option (Int32 × HP) :=
  ((f_BA_within hp a1 (0 : Int32) (255 : Int32)).bind fun p2 => if p2.1 = 0 then
    some ((-1000000002 : Int32), p2.2)
  else
    if (p2.2 1 1) < (240 : Int32) then
      ((f_Re_append p2.2 a1).bind fun p6 => some ((p6.2 1 1), p6.2))
    else
      some ((-1000000004 : Int32), p2.2))
def f_Br_clear (hp : HP) (q0 : Nat) : Option (Int32 × HP) :=
  some (0, (up (up (up hp q0 5 (0 : Int32)) q0 6 (0 : Int32)) q0 7 (0 : Int32)))
def f_Re_letter (hp : HP) : Option (Int32 × HP) :=
  if (hp 1 4) < 0 then
    some ((-1 : Int32), hp)
  else
    if (hp 1 1) ≤ (hp 1 4) then
      some ((-1 : Int32), hp)
    else
      if (240 : Int32) ≤ (hp 1 4) then
        some ((-1 : Int32), hp)
      else
        (if inb (hp 1 4) 240 then some ((hp 2 ((hp 1 4)).toNatClampNeg), hp) else none)
def f_Re_skipBlanks_L0 (K : HP → Option (Int32 × HP)) : Nat → HP → Option (Int32 × HP)
  | 0, _ => none
  | n + 1, hp =>
      if (hp 1 1) ≤ (hp 1 4) then
        K hp
      else
        ((f_Re_letter hp).bind fun p3 => if p3.1 = (32 : Int32) then
          f_Re_skipBlanks_L0 K n (up p3.2 1 4 ((p3.2 1 4) + (1 : Int32)))
        else
          K p3.2)
def f_Re_skipBlanks (hp : HP) : Option (Int32 × HP) :=
  f_Re_skipBlanks_L0 (fun hp5 =>
    some (0, hp5)) FU hp
def f_Br_isThere (hp : HP) (q0 : Nat) : Option (Int32 × HP) :=
  if (hp q0 5) ≤ 0 then
    some ((0 : Int32), hp)
  else
    some ((1 : Int32), hp)
def f_Re_isFigure (hp : HP) (a0 : Int32) : Option (Int32 × HP) :=
  if a0 < (48 : Int32) then
    some ((0 : Int32), hp)
  else
    if (57 : Int32) < a0 then
      some ((0 : Int32), hp)
    else
      some ((1 : Int32), hp)
def f_Re_fail (hp : HP) (a1 : Int32) (a2 : Int32) : Option (Int32 × HP) :=
  if (hp 1 3) = 0 then
    some (0, (up (up hp 1 3 a1) 1 2 a2))
  else
    some (0, hp)
def f_Re_readNumber_L11 (v1 : Int32) (v2 : Int32) (K : HP → Int32 → Option (Int32 × HP)) : Nat → HP → Int32 → Option (Int32 × HP)
  | 0, _, _ => none
  | n + 1, hp, x3 =>
      if (hp 1 1) ≤ (hp 1 4) then
        K hp x3
      else
        ((f_Re_letter hp).bind fun p5 => ((f_Re_isFigure p5.2 p5.1).bind fun p7 => if p7.1 = 0 then
          K p7.2 x3
        else
          if (3 : Int32) ≤ ((p7.2 1 4) - v2) then
            f_Re_readNumber_L11 v1 v2 K n (up p7.2 1 4 ((p7.2 1 4) + (1 : Int32))) x3
          else
            ((f_Re_letter p7.2).bind fun p11 => f_Re_readNumber_L11 v1 v2 K n (up p11.2 1 4 ((p11.2 1 4) + (1 : Int32))) (((x3 * (10 : Int32)) + p11.1) - (48 : Int32)))))
def f_Re_readNumber (hp : HP) (a1 : Int32) : Option (Int32 × HP) :=
  ((f_Re_skipBlanks hp).bind fun p2 => f_Re_readNumber_L11 a1 (p2.2 1 4) (fun hp13 w12 =>
    if (hp13 1 4) = (p2.2 1 4) then
      ((f_Re_fail hp13 (1 : Int32) (p2.2 1 4)).bind fun p16 => some (w12, p16.2))
    else
      if (3 : Int32) < ((hp13 1 4) - (p2.2 1 4)) then
        ((f_Re_fail hp13 (2 : Int32) (p2.2 1 4)).bind fun p19 => some (w12, p19.2))
      else
        if w12 ≤ a1 then
          some (w12, hp13)
        else
          ((f_Re_fail hp13 (2 : Int32) (p2.2 1 4)).bind fun p22 => some (w12, p22.2))) FU p2.2 (0 : Int32))
def f_Br_addPart (hp : HP) (q0 : Nat) (a1 : Int32) : Option (Int32 × HP) :=
  if (8 : Int32) ≤ (hp q0 5) then
    some (0, hp)
  else
    (if inb (hp q0 5) 8 then some (0, (up (up hp (q0 + 1) ((hp q0 5)).toNatClampNeg (a1 - (500 : Int32))) q0 5 (((up hp (q0 + 1) ((hp q0 5)).toNatClampNeg (a1 - (500 : Int32))) q0 5) + (1 : Int32)))) else none)
def f_Re_readWord (hp : HP) (a1 : Int32) : Option (Int32 × HP) :=
  ((f_Re_skipBlanks hp).bind fun p2 => ((f_Re_letter p2.2).bind fun p4 => if p4.1 = a1 then
    some (0, (up p4.2 1 4 ((p4.2 1 4) + (1 : Int32))))
  else
    ((f_Re_fail p4.2 (1 : Int32) (p4.2 1 4)).bind fun p7 => some (0, p7.2))))
def f_Re_readParts_L17 (q1 : Nat) (K : HP → Option (Int32 × HP)) : Nat → HP → Int32 → Option (Int32 × HP)
  | 0, _, _ => none
  | n + 1, hp, x2 =>
      if (8 : Int32) ≤ x2 then
        K hp
      else
        if (hp 1 3) = 0 then
          ((f_Re_letter hp).bind fun p10 => if p10.1 = (44 : Int32) then
            ((f_Re_readNumber (up p10.2 1 4 ((p10.2 1 4) + (1 : Int32))) (999 : Int32)).bind fun p13 => ((f_Br_addPart p13.2 q1 p13.1).bind fun p15 => ((f_Re_skipBlanks p15.2).bind fun p17 => f_Re_readParts_L17 q1 K n p17.2 (x2 + 1))))
          else
            K p10.2)
        else
          K hp
def f_Re_readParts (hp : HP) (q1 : Nat) : Option (Int32 × HP) :=
  ((f_Re_readNumber hp (999 : Int32)).bind fun p2 => ((f_Br_addPart p2.2 q1 p2.1).bind fun p4 => ((f_Re_skipBlanks p4.2).bind fun p6 => f_Re_readParts_L17 q1 (fun hp18 =>
    ((f_Re_readWord hp18 (59 : Int32)).bind fun p20 => some (0, p20.2))) FU p6.2 (1 : Int32))))
def f_Br_addCustomer (hp : HP) (q0 : Nat) (a1 : Int32) (a2 : Int32) (a3 : Int32) : Option (Int32 × HP) :=
  if (5 : Int32) ≤ (hp q0 6) then
    some (0, hp)
  else
    (if inb (hp q0 6) 5 then (if inb ((up hp (q0 + 2) ((hp q0 6)).toNatClampNeg (a1 - (500 : Int32))) q0 6) 5 then (if inb ((up (up hp (q0 + 2) ((hp q0 6)).toNatClampNeg (a1 - (500 : Int32))) (q0 + 3) (((up hp (q0 + 2) ((hp q0 6)).toNatClampNeg (a1 - (500 : Int32))) q0 6)).toNatClampNeg a2) q0 6) 5 then some (0, (up (up (up (up hp (q0 + 2) ((hp q0 6)).toNatClampNeg (a1 - (500 : Int32))) (q0 + 3) (((up hp (q0 + 2) ((hp q0 6)).toNatClampNeg (a1 - (500 : Int32))) q0 6)).toNatClampNeg a2) (q0 + 4) (((up (up hp (q0 + 2) ((hp q0 6)).toNatClampNeg (a1 - (500 : Int32))) (q0 + 3) (((up hp (q0 + 2) ((hp q0 6)).toNatClampNeg (a1 - (500 : Int32))) q0 6)).toNatClampNeg a2) q0 6)).toNatClampNeg a3) q0 6 (((up (up (up hp (q0 + 2) ((hp q0 6)).toNatClampNeg (a1 - (500 : Int32))) (q0 + 3) (((up hp (q0 + 2) ((hp q0 6)).toNatClampNeg (a1 - (500 : Int32))) q0 6)).toNatClampNeg a2) (q0 + 4) (((up (up hp (q0 + 2) ((hp q0 6)).toNatClampNeg (a1 - (500 : Int32))) (q0 + 3) (((up hp (q0 + 2) ((hp q0 6)).toNatClampNeg (a1 - (500 : Int32))) q0 6)).toNatClampNeg a2) q0 6)).toNatClampNeg a3) q0 6) + (1 : Int32)))) else none) else none) else none)
def f_Re_readCustomer (hp : HP) (q1 : Nat) : Option (Int32 × HP) :=
  ((f_Re_readNumber hp (999 : Int32)).bind fun p2 => ((f_Re_readNumber p2.2 (99 : Int32)).bind fun p4 => ((f_Re_readNumber p4.2 (99 : Int32)).bind fun p6 => ((f_Br_addCustomer p6.2 q1 p2.1 p4.1 p6.1).bind fun p8 => ((f_Re_readWord p8.2 (59 : Int32)).bind fun p10 => some (0, p10.2))))))
def f_Br_allParts (hp : HP) (q0 : Nat) : Option (Int32 × HP) :=
  some ((((1 : Int32) <<< ((hp q0 5) &&& 31)) - (1 : Int32)), hp)
def f_Br_addTask (hp : HP) (q0 : Nat) (a1 : Int32) : Option (Int32 × HP) :=
  if (6 : Int32) ≤ (hp q0 7) then
    some (0, hp)
  else
    (if inb (hp q0 7) 6 then some (0, (up (up hp (q0 + 5) ((hp q0 7)).toNatClampNeg a1) q0 7 (((up hp (q0 + 5) ((hp q0 7)).toNatClampNeg a1) q0 7) + (1 : Int32)))) else none)
def f_Re_readClause (hp : HP) (q1 : Nat) : Option (Int32 × HP) :=
  ((f_Re_letter hp).bind fun p2 => if p2.1 = (98 : Int32) then
    ((f_Br_isThere p2.2 q1).bind fun p5 => if p5.1 = 0 then
      ((f_Re_readParts (up p5.2 1 4 ((p5.2 1 4) + (1 : Int32))) q1).bind fun p8 => some (0, p8.2))
    else
      ((f_Br_isThere p5.2 q1).bind fun p10 => if p10.1 = 0 then
        ((f_Re_fail p10.2 (1 : Int32) (p10.2 1 4)).bind fun p13 => some (0, p13.2))
      else
        if p2.1 = (99 : Int32) then
          if (5 : Int32) ≤ (p10.2 q1 6) then
            if p2.1 = (116 : Int32) then
              if (6 : Int32) ≤ (p10.2 q1 7) then
                ((f_Re_fail p10.2 (3 : Int32) (p10.2 1 4)).bind fun p20 => some (0, p20.2))
              else
                ((f_Br_allParts (up p10.2 1 4 ((p10.2 1 4) + (1 : Int32))) q1).bind fun p22 => ((f_Re_readNumber p22.2 p22.1).bind fun p24 => ((f_Br_addTask p24.2 q1 p24.1).bind fun p26 => ((f_Re_readWord p26.2 (59 : Int32)).bind fun p28 => some (0, p28.2)))))
            else
              ((f_Re_fail p10.2 (3 : Int32) (p10.2 1 4)).bind fun p30 => some (0, p30.2))
          else
            ((f_Re_readCustomer (up p10.2 1 4 ((p10.2 1 4) + (1 : Int32))) q1).bind fun p32 => some (0, p32.2))
        else
          if p2.1 = (116 : Int32) then
            if (6 : Int32) ≤ (p10.2 q1 7) then
              ((f_Re_fail p10.2 (3 : Int32) (p10.2 1 4)).bind fun p36 => some (0, p36.2))
            else
              ((f_Br_allParts (up p10.2 1 4 ((p10.2 1 4) + (1 : Int32))) q1).bind fun p38 => ((f_Re_readNumber p38.2 p38.1).bind fun p40 => ((f_Br_addTask p40.2 q1 p40.1).bind fun p42 => ((f_Re_readWord p42.2 (59 : Int32)).bind fun p44 => some (0, p44.2)))))
          else
            ((f_Re_fail p10.2 (3 : Int32) (p10.2 1 4)).bind fun p46 => some (0, p46.2))))
  else
    ((f_Br_isThere p2.2 q1).bind fun p48 => if p48.1 = 0 then
      ((f_Re_fail p48.2 (1 : Int32) (p48.2 1 4)).bind fun p51 => some (0, p51.2))
    else
      if p2.1 = (99 : Int32) then
        if (5 : Int32) ≤ (p48.2 q1 6) then
          if p2.1 = (116 : Int32) then
            if (6 : Int32) ≤ (p48.2 q1 7) then
              ((f_Re_fail p48.2 (3 : Int32) (p48.2 1 4)).bind fun p59 => some (0, p59.2))
            else
              ((f_Br_allParts (up p48.2 1 4 ((p48.2 1 4) + (1 : Int32))) q1).bind fun p61 => ((f_Re_readNumber p61.2 p61.1).bind fun p63 => ((f_Br_addTask p63.2 q1 p63.1).bind fun p65 => ((f_Re_readWord p65.2 (59 : Int32)).bind fun p67 => some (0, p67.2)))))
          else
            ((f_Re_fail p48.2 (3 : Int32) (p48.2 1 4)).bind fun p69 => some (0, p69.2))
        else
          ((f_Re_readCustomer (up p48.2 1 4 ((p48.2 1 4) + (1 : Int32))) q1).bind fun p71 => some (0, p71.2))
      else
        if p2.1 = (116 : Int32) then
          if (6 : Int32) ≤ (p48.2 q1 7) then
            ((f_Re_fail p48.2 (3 : Int32) (p48.2 1 4)).bind fun p77 => some (0, p77.2))
          else
            ((f_Br_allParts (up p48.2 1 4 ((p48.2 1 4) + (1 : Int32))) q1).bind fun p79 => ((f_Re_readNumber p79.2 p79.1).bind fun p81 => ((f_Br_addTask p81.2 q1 p81.1).bind fun p83 => ((f_Re_readWord p83.2 (59 : Int32)).bind fun p85 => some (0, p85.2)))))
        else
          ((f_Re_fail p48.2 (1 : Int32) (p48.2 1 4)).bind fun p87 => some (0, p87.2))))
def f_Re_readInto_L25 (q1 : Nat) (K : HP → Option (Int32 × HP)) : Nat → HP → Int32 → Option (Int32 × HP)
  | 0, _, _ => none
  | n + 1, hp, x2 =>
      if (240 : Int32) ≤ x2 then
        K hp
      else
        if (hp 1 1) ≤ (hp 1 4) then
          K hp
        else
          if (hp 1 3) = 0 then
            ((f_Re_readClause hp q1).bind fun p9 => ((f_Re_skipBlanks p9.2).bind fun p11 => f_Re_readInto_L25 q1 K n p11.2 (x2 + 1)))
          else
            K hp
def f_Re_readInto (hp : HP) (q1 : Nat) : Option (Int32 × HP) :=
  ((f_Br_clear hp q1).bind fun p2 => ((f_Re_skipBlanks (up (up (up p2.2 1 4 (0 : Int32)) 1 3 (0 : Int32)) 1 2 (-1 : Int32))).bind fun p4 => f_Re_readInto_L25 q1 (fun hp12 =>
    some ((hp12 1 3), hp12)) FU p4.2 (0 : Int32)))
def f_St_begin_L2 (q0 : Nat) (q1 : Nat) (K : HP → Option (Int32 × HP)) : Nat → HP → Int32 → Option (Int32 × HP)
  | 0, _, _ => none
  | n + 1, hp, x2 =>
      if (5 : Int32) ≤ x2 then
        K hp
      else
        if (hp q1 6) ≤ x2 then
          (if inb x2 5 then f_St_begin_L2 q0 q1 K n (up hp (q0 + 1) (x2).toNatClampNeg (0 : Int32)) (x2 + 1) else none)
        else
          (if inb x2 5 then f_St_begin_L2 q0 q1 K n (up hp (q0 + 1) (x2).toNatClampNeg (hp (q1 + 2) (x2).toNatClampNeg)) (x2 + 1) else none)
def f_St_begin_L39 (q0 : Nat) (K : HP → Option (Int32 × HP)) : Nat → HP → Int32 → Option (Int32 × HP)
  | 0, _, _ => none
  | n + 1, hp, x2 =>
      if (25 : Int32) ≤ x2 then
        K hp
      else
        (if inb x2 25 then f_St_begin_L39 q0 K n (up hp (q0 + 2) (x2).toNatClampNeg (0 : Int32)) (x2 + 1) else none)
def f_St_begin (hp : HP) (q0 : Nat) (q1 : Nat) : Option (Int32 × HP) :=
  f_St_begin_L2 q0 q1 (fun hp5 =>
    f_St_begin_L39 q0 (fun hp8 =>
      some (0, (up hp8 q0 2 (0 : Int32)))) FU hp5 (0 : Int32)) FU hp (0 : Int32)
def f_Pa_clear (hp : HP) : Option (Int32 × HP) :=
  some (0, (up hp 6 2 (0 : Int32)))
def f_Sl_clear (hp : HP) : Option (Int32 × HP) :=
  some (0, (up (up (up (up hp 68 7 (0 : Int32)) 68 8 (0 : Int32)) 68 9 (0 : Int32)) 68 10 (0 : Int32)))
def f_BA_branch_L85 (K : HP → Option (Int32 × HP)) : Nat → HP → Int32 → Option (Int32 × HP)
  | 0, _, _ => none
  | n + 1, hp, x3 =>
      if (2 : Int32) ≤ x3 then
        K hp
      else
        (if inb x3 2 then f_BA_branch_L85 K n (up hp 86 (x3).toNatClampNeg (bz (0 : Int32))) (x3 + 1) else none)
def f_BA_branch (hp : HP) : Option (Int32 × HP) :=
  (if isB (hp 0 9).toNatClampNeg then ((f_Re_readInto hp (hp 0 9).toNatClampNeg).bind fun p3 => if p3.1 = 0 then
    (if isB ((up (up p3.2 0 10 (p3.2 1 2)) 1 1 (0 : Int32)) 0 8).toNatClampNeg then (if isB ((up (up p3.2 0 10 (p3.2 1 2)) 1 1 (0 : Int32)) 0 9).toNatClampNeg then (if isB ((up (up (up (up p3.2 0 10 (p3.2 1 2)) 1 1 (0 : Int32)) 0 8 (nI ((up (up p3.2 0 10 (p3.2 1 2)) 1 1 (0 : Int32)) 0 9).toNatClampNeg)) 0 9 (nI ((up (up p3.2 0 10 (p3.2 1 2)) 1 1 (0 : Int32)) 0 8).toNatClampNeg)) 0 8).toNatClampNeg then ((f_St_begin (up (up (up (up p3.2 0 10 (p3.2 1 2)) 1 1 (0 : Int32)) 0 8 (nI ((up (up p3.2 0 10 (p3.2 1 2)) 1 1 (0 : Int32)) 0 9).toNatClampNeg)) 0 9 (nI ((up (up p3.2 0 10 (p3.2 1 2)) 1 1 (0 : Int32)) 0 8).toNatClampNeg)) 3 ((up (up (up (up p3.2 0 10 (p3.2 1 2)) 1 1 (0 : Int32)) 0 8 (nI ((up (up p3.2 0 10 (p3.2 1 2)) 1 1 (0 : Int32)) 0 9).toNatClampNeg)) 0 9 (nI ((up (up p3.2 0 10 (p3.2 1 2)) 1 1 (0 : Int32)) 0 8).toNatClampNeg)) 0 8).toNatClampNeg).bind fun p9 => ((f_Pa_clear p9.2).bind fun p11 => ((f_Sl_clear p11.2).bind fun p13 => f_BA_branch_L85 (fun hp16 =>
      (if isB (hp16 0 8).toNatClampNeg then some ((hp16 (hp16 0 8).toNatClampNeg 6), hp16) else none)) FU p13.2 (0 : Int32)))) else none) else none) else none)
  else
    some (((-10 : Int32) - p3.1), (up (up p3.2 0 10 (p3.2 1 2)) 1 1 (0 : Int32)))) else none)
def f_BA_fault (hp : HP) : Option (Int32 × HP) :=
  some ((hp 0 10), hp)
def f_Br_partsAt_L4 (q0 : Nat) (v1 : Int32) (K : HP → Int32 → Option (Int32 × HP)) : Nat → HP → Int32 → Int32 → Option (Int32 × HP)
  | 0, _, _, _ => none
  | n + 1, hp, x2, x3 =>
      if (hp q0 5) ≤ x3 then
        K hp x2
      else
        (if inb x3 8 then if v1 < (hp (q0 + 1) (x3).toNatClampNeg) then
          f_Br_partsAt_L4 q0 v1 K n hp x2 (x3 + 1)
        else
          f_Br_partsAt_L4 q0 v1 K n hp (x2 ||| ((1 : Int32) <<< (x3 &&& 31))) (x3 + 1) else none)
def f_Br_partsAt (hp : HP) (q0 : Nat) (a1 : Int32) : Option (Int32 × HP) :=
  f_Br_partsAt_L4 q0 a1 (fun hp5 w4 =>
    some (w4, hp5)) FU hp (0 : Int32) (0 : Int32)
def f_BA_hats_L4 (K : HP → Int32 → Option (Int32 × HP)) : Nat → HP → Int32 → Int32 → Option (Int32 × HP)
  | 0, _, _, _ => none
  | n + 1, hp, x1, x2 =>
      (if isB (hp 0 8).toNatClampNeg then if (hp (hp 0 8).toNatClampNeg 6) ≤ x2 then
        K hp x1
      else
        (if inb x2 5 then ((f_Br_partsAt hp (hp 0 8).toNatClampNeg (hp 4 (x2).toNatClampNeg)).bind fun p5 => if p5.1 = 0 then
          f_BA_hats_L4 K n p5.2 (x1 ||| ((1 : Int32) <<< (x2 &&& 31))) (x2 + 1)
        else
          f_BA_hats_L4 K n p5.2 x1 (x2 + 1)) else none) else none)
def f_BA_hats (hp : HP) : Option (Int32 × HP) :=
  f_BA_hats_L4 (fun hp8 w7 =>
    some (w7, hp8)) FU hp (0 : Int32) (0 : Int32)
def f_St_debt (hp : HP) (q0 : Nat) (a1 : Int32) (a2 : Int32) : Option (Int32 × HP) :=
  (if inb ((a1 * (5 : Int32)) + a2) 25 then some ((hp (q0 + 2) (((a1 * (5 : Int32)) + a2)).toNatClampNeg), hp) else none)
def f_St_netOf_L4 (q0 : Nat) (v1 : Int32) (K : HP → Int32 → Option (Int32 × HP)) : Nat → HP → Int32 → Int32 → Option (Int32 × HP)
  | 0, _, _, _ => none
  | n + 1, hp, x2, x3 =>
      if (5 : Int32) ≤ x3 then
        K hp x2
      else
        ((f_St_debt hp q0 x3 v1).bind fun p3 => f_St_netOf_L4 q0 v1 K n p3.2 (x2 + p3.1) (x3 + 1))
def f_St_netOf (hp : HP) (q0 : Nat) (a1 : Int32) : Option (Int32 × HP) :=
  f_St_netOf_L4 q0 a1 (fun hp5 w4 =>
    some (w4, hp5)) FU hp (0 : Int32) (0 : Int32)
def f_BA_bounded (hp : HP) (a0 : Int32) : Option (Int32 × HP) :=
  some ((mx (-9999 : Int32) (mn (9999 : Int32) a0)), hp)
def f_BA_wholes_L4 (v1 : Int32) (K : HP → Int32 → Option (Int32 × HP)) : Nat → HP → Int32 → Int32 → Option (Int32 × HP)
  | 0, _, _, _ => none
  | n + 1, hp, x2, x3 =>
      (if isB (hp 0 8).toNatClampNeg then if (hp (hp 0 8).toNatClampNeg 6) ≤ x3 then
        K hp x2
      else
        (if inb x3 5 then if v1 = 0 then
          ((f_BA_bounded hp ((hp 4 (x3).toNatClampNeg) + (0 : Int32))).bind fun p6 => ((f_Br_partsAt p6.2 (hp 0 8).toNatClampNeg p6.1).bind fun p8 => (if isB (p8.2 0 8).toNatClampNeg then ((f_Br_allParts p8.2 (p8.2 0 8).toNatClampNeg).bind fun p11 => if p8.1 = p11.1 then
            f_BA_wholes_L4 v1 K n p11.2 (x2 ||| ((1 : Int32) <<< (x3 &&& 31))) (x3 + 1)
          else
            f_BA_wholes_L4 v1 K n p11.2 x2 (x3 + 1)) else none)))
        else
          ((f_St_netOf hp 3 x3).bind fun p14 => (if isB (p14.2 0 8).toNatClampNeg then ((f_BA_bounded p14.2 ((hp 4 (x3).toNatClampNeg) + p14.1)).bind fun p17 => ((f_Br_partsAt p17.2 (p14.2 0 8).toNatClampNeg p17.1).bind fun p19 => (if isB (p19.2 0 8).toNatClampNeg then ((f_Br_allParts p19.2 (p19.2 0 8).toNatClampNeg).bind fun p22 => if p19.1 = p22.1 then
            f_BA_wholes_L4 v1 K n p22.2 (x2 ||| ((1 : Int32) <<< (x3 &&& 31))) (x3 + 1)
          else
            f_BA_wholes_L4 v1 K n p22.2 x2 (x3 + 1)) else none))) else none)) else none) else none)
def f_BA_wholes (hp : HP) (a1 : Int32) : Option (Int32 × HP) :=
  f_BA_wholes_L4 a1 (fun hp25 w24 =>
    some (w24, hp25)) FU hp (0 : Int32) (0 : Int32)
def f_BA_cleared_L4 (K : HP → Int32 → Option (Int32 × HP)) : Nat → HP → Int32 → Int32 → Option (Int32 × HP)
  | 0, _, _, _ => none
  | n + 1, hp, x1, x2 =>
      (if isB (hp 0 8).toNatClampNeg then if (hp (hp 0 8).toNatClampNeg 6) ≤ x2 then
        K hp x1
      else
        ((f_St_netOf hp 3 x2).bind fun p4 => if 0 ≤ p4.1 then
          f_BA_cleared_L4 K n p4.2 x1 (x2 + 1)
        else
          f_BA_cleared_L4 K n p4.2 (x1 + 1) (x2 + 1)) else none)
def f_BA_cleared (hp : HP) : Option (Int32 × HP) :=
  f_BA_cleared_L4 (fun hp7 w6 =>
    some (w6, hp7)) FU hp (0 : Int32) (0 : Int32)
def f_BA_told (hp : HP) (a1 : Int32) : Option (Int32 × HP) :=
  if a1 = 0 then
    (if isB (hp 0 8).toNatClampNeg then some ((hp (hp 0 8).toNatClampNeg 5), hp) else none)
  else if a1 = 1 then
    (if isB (hp 0 8).toNatClampNeg then some ((hp (hp 0 8).toNatClampNeg 6), hp) else none)
  else if a1 = 2 then
    (if isB (hp 0 8).toNatClampNeg then some ((hp (hp 0 8).toNatClampNeg 7), hp) else none)
  else if a1 = 3 then
    some ((hp 1 1), hp)
  else if a1 = 4 then
    some ((hp 3 2), hp)
  else if a1 = 5 then
    ((f_BA_hats hp).bind fun p11 => some (p11.1, p11.2))
  else if a1 = 6 then
    ((f_BA_wholes hp (0 : Int32)).bind fun p14 => some (p14.1, p14.2))
  else if a1 = 7 then
    ((f_BA_cleared hp).bind fun p17 => some (p17.1, p17.2))
  else if a1 = 8 then
    ((f_BA_wholes hp (1 : Int32)).bind fun p20 => some (p20.1, p20.2))
  else if a1 = 9 then
    some ((hp 68 7), hp)
  else if a1 = 10 then
    some ((hp 68 8), hp)
  else if a1 = 11 then
    some ((hp 68 9), hp)
  else if a1 = 12 then
    some ((hp 68 10), hp)
  else if a1 = 13 then
    some ((hp 6 2), hp)
  else 
  some ((-1000000002 : Int32), hp)
def f_Br_hasPart (hp : HP) (q0 : Nat) (a1 : Int32) : Option (Int32 × HP) :=
  ((f_BA_within hp a1 (0 : Int32) ((hp q0 5) - (1 : Int32))).bind fun p2 => rz p2.1 p2.2)
def f_BA_part (hp : HP) (a1 : Int32) : Option (Int32 × HP) :=
  (if isB (hp 0 8).toNatClampNeg then ((f_Br_hasPart hp (hp 0 8).toNatClampNeg a1).bind fun p3 => if p3.1 = 0 then
    some ((-1000000001 : Int32), p3.2)
  else
    (if isB (p3.2 0 8).toNatClampNeg then (if inb a1 8 then some (((p3.2 ((p3.2 0 8).toNatClampNeg + 1) (a1).toNatClampNeg) + (500 : Int32)), p3.2) else none) else none)) else none)
def f_Br_hasCustomer (hp : HP) (q0 : Nat) (a1 : Int32) : Option (Int32 × HP) :=
  ((f_BA_within hp a1 (0 : Int32) ((hp q0 6) - (1 : Int32))).bind fun p2 => rz p2.1 p2.2)
def f_BA_customer (hp : HP) (a1 : Int32) (a2 : Int32) : Option (Int32 × HP) :=
  (if isB (hp 0 8).toNatClampNeg then ((f_Br_hasCustomer hp (hp 0 8).toNatClampNeg a1).bind fun p3 => if p3.1 = 0 then
    some ((-1000000001 : Int32), p3.2)
  else
    if a2 = 0 then
      (if inb a1 5 then some (((p3.2 4 (a1).toNatClampNeg) + (10000 : Int32)), p3.2) else none)
    else if a2 = 1 then
      (if isB (p3.2 0 8).toNatClampNeg then (if inb a1 5 then ((f_Br_partsAt p3.2 (p3.2 0 8).toNatClampNeg (p3.2 4 (a1).toNatClampNeg)).bind fun p11 => some (p11.1, p11.2)) else none) else none)
    else if a2 = 2 then
      (if isB (p3.2 0 8).toNatClampNeg then (if inb a1 5 then some ((p3.2 ((p3.2 0 8).toNatClampNeg + 3) (a1).toNatClampNeg), p3.2) else none) else none)
    else if a2 = 3 then
      (if isB (p3.2 0 8).toNatClampNeg then (if inb a1 5 then some ((p3.2 ((p3.2 0 8).toNatClampNeg + 4) (a1).toNatClampNeg), p3.2) else none) else none)
    else if a2 = 4 then
      ((f_St_netOf p3.2 3 a1).bind fun p20 => some ((p20.1 + (100000 : Int32)), p20.2))
    else 
    some ((-1000000002 : Int32), p3.2)) else none)
def f_BA_areTwo (hp : HP) (a1 : Int32) (a2 : Int32) : Option (Int32 × HP) :=
  (if isB (hp 0 8).toNatClampNeg then ((f_Br_hasCustomer hp (hp 0 8).toNatClampNeg a1).bind fun p3 => if p3.1 = 0 then
    some ((0 : Int32), p3.2)
  else
    (if isB (p3.2 0 8).toNatClampNeg then ((f_Br_hasCustomer p3.2 (p3.2 0 8).toNatClampNeg a2).bind fun p7 => if p7.1 = 0 then
      some ((0 : Int32), p7.2)
    else
      if a1 = a2 then
        some ((0 : Int32), p7.2)
      else
        some ((1 : Int32), p7.2)) else none)) else none)
def f_BA_owes (hp : HP) (a1 : Int32) (a2 : Int32) : Option (Int32 × HP) :=
  ((f_BA_areTwo hp a1 a2).bind fun p2 => if p2.1 = 0 then
    some ((-1000000001 : Int32), p2.2)
  else
    ((f_St_debt p2.2 3 a1 a2).bind fun p5 => some ((p5.1 + (100000 : Int32)), p5.2)))
def f_Br_hasTask (hp : HP) (q0 : Nat) (a1 : Int32) : Option (Int32 × HP) :=
  ((f_BA_within hp a1 (0 : Int32) ((hp q0 7) - (1 : Int32))).bind fun p2 => rz p2.1 p2.2)
def f_Br_needOf_L5 (q0 : Nat) (v1 : Int32) (K : HP → Int32 → Option (Int32 × HP)) : Nat → HP → Int32 → Int32 → Option (Int32 × HP)
  | 0, _, _, _ => none
  | n + 1, hp, x2, x3 =>
      if (hp q0 5) ≤ x3 then
        K hp x2
      else
        (if inb v1 6 then if (((hp (q0 + 5) (v1).toNatClampNeg) >>> (x3 &&& 31)) &&& (1 : Int32)) = (1 : Int32) then
          (if inb x3 8 then f_Br_needOf_L5 q0 v1 K n hp (mx x2 (hp (q0 + 1) (x3).toNatClampNeg)) (x3 + 1) else none)
        else
          f_Br_needOf_L5 q0 v1 K n hp x2 (x3 + 1) else none)
def f_Br_needOf (hp : HP) (q0 : Nat) (a1 : Int32) : Option (Int32 × HP) :=
  f_Br_needOf_L5 q0 a1 (fun hp6 w5 =>
    some (w5, hp6)) FU hp (-100000 : Int32) (0 : Int32)
def f_Br_isDoable (hp : HP) (q0 : Nat) (a1 : Int32) (a2 : Int32) : Option (Int32 × HP) :=
  ((f_Br_needOf hp q0 a1).bind fun p2 => if a2 < p2.1 then
    some ((0 : Int32), p2.2)
  else
    some ((1 : Int32), p2.2))
def f_BA_can (hp : HP) (a1 : Int32) (a2 : Int32) : Option (Int32 × HP) :=
  (if isB (hp 0 8).toNatClampNeg then ((f_Br_hasCustomer hp (hp 0 8).toNatClampNeg a1).bind fun p3 => if p3.1 = 0 then
    some ((-1000000001 : Int32), p3.2)
  else
    (if isB (p3.2 0 8).toNatClampNeg then ((f_Br_hasTask p3.2 (p3.2 0 8).toNatClampNeg a2).bind fun p7 => if p7.1 = 0 then
      some ((-1000000001 : Int32), p7.2)
    else
      (if isB (p7.2 0 8).toNatClampNeg then (if inb a1 5 then ((f_Br_isDoable p7.2 (p7.2 0 8).toNatClampNeg a2 (p7.2 4 (a1).toNatClampNeg)).bind fun p12 => if p12.1 = 0 then
        some ((0 : Int32), p12.2)
      else
        some ((1 : Int32), p12.2)) else none) else none)) else none)) else none)
def f_St_copyFrom (hp : HP) (q0 : Nat) (q1 : Nat) : Option (Int32 × HP) :=
  some (0, (up (setc (setc hp (q0 + 1) (va_cpy (hp (q1 + 1)) (hp (q0 + 1)) 0 0 5)) (q0 + 2) (va_cpy ((setc hp (q0 + 1) (va_cpy (hp (q1 + 1)) (hp (q0 + 1)) 0 0 5)) (q1 + 2)) ((setc hp (q0 + 1) (va_cpy (hp (q1 + 1)) (hp (q0 + 1)) 0 0 5)) (q0 + 2)) 0 0 25)) q0 2 ((setc (setc hp (q0 + 1) (va_cpy (hp (q1 + 1)) (hp (q0 + 1)) 0 0 5)) (q0 + 2) (va_cpy ((setc hp (q0 + 1) (va_cpy (hp (q1 + 1)) (hp (q0 + 1)) 0 0 5)) (q1 + 2)) ((setc hp (q0 + 1) (va_cpy (hp (q1 + 1)) (hp (q0 + 1)) 0 0 5)) (q0 + 2)) 0 0 25)) q1 2)))
def f_Pa_push (hp : HP) (q1 : Nat) : Option (Int32 × HP) :=
  (if inb (hp 6 1) 20 then (if isS (7 + 1 + 3 * ((hp 6 1)).toNatClampNeg) then ((f_St_copyFrom hp (7 + 1 + 3 * ((hp 6 1)).toNatClampNeg) q1).bind fun p4 => some (0, (up (up p4.2 6 1 (((p4.2 6 1) + (1 : Int32)) - ((p4.2 6 1) + (1 : Int32)) / (20 : Int32) * (20 : Int32))) 6 2 (mn (((up p4.2 6 1 (((p4.2 6 1) + (1 : Int32)) - ((p4.2 6 1) + (1 : Int32)) / (20 : Int32) * (20 : Int32))) 6 2) + (1 : Int32)) (20 : Int32))))) else none) else none)
def f_Br_afterMonth (hp : HP) (q0 : Nat) (a1 : Int32) (a2 : Int32) : Option (Int32 × HP) :=
  (if inb a1 5 then ((f_BA_bounded hp (a2 + (hp (q0 + 3) (a1).toNatClampNeg))).bind fun p3 => ((f_BA_bounded p3.2 (p3.1 - (p3.2 (q0 + 4) (a1).toNatClampNeg))).bind fun p5 => some (p5.1, p5.2))) else none)
def f_St_passMonth_L2 (q0 : Nat) (q1 : Nat) (K : HP → Option (Int32 × HP)) : Nat → HP → Int32 → Option (Int32 × HP)
  | 0, _, _ => none
  | n + 1, hp, x2 =>
      if (hp q1 6) ≤ x2 then
        K hp
      else
        (if inb x2 5 then ((f_Br_afterMonth hp q1 x2 (hp (q0 + 1) (x2).toNatClampNeg)).bind fun p4 => f_St_passMonth_L2 q0 q1 K n (up p4.2 (q0 + 1) (x2).toNatClampNeg p4.1) (x2 + 1)) else none)
def f_St_passMonth (hp : HP) (q0 : Nat) (q1 : Nat) : Option (Int32 × HP) :=
  f_St_passMonth_L2 q0 q1 (fun hp5 =>
    some (0, (up hp5 q0 2 ((hp5 q0 2) + (1 : Int32))))) FU hp (0 : Int32)
def f_BA_month_L55 (v1 : Int32) (K : HP → Option (Int32 × HP)) : Nat → HP → Int32 → Option (Int32 × HP)
  | 0, _, _ => none
  | n + 1, hp, x2 =>
      if v1 ≤ x2 then
        K hp
      else
        (if isB (hp 0 8).toNatClampNeg then ((f_St_passMonth hp 3 (hp 0 8).toNatClampNeg).bind fun p14 => f_BA_month_L55 v1 K n p14.2 (x2 + 1)) else none)
def f_BA_month (hp : HP) (a1 : Int32) : Option (Int32 × HP) :=
  ((f_BA_within hp a1 (1 : Int32) (60 : Int32)).bind fun p2 => if p2.1 = 0 then
    some ((-1000000002 : Int32), p2.2)
  else
    (if isB (p2.2 0 8).toNatClampNeg then ((f_Br_isThere p2.2 (p2.2 0 8).toNatClampNeg).bind fun p6 => if p6.1 = 0 then
      some ((-1000000003 : Int32), p6.2)
    else
      if (p6.2 3 2) ≤ (9000 : Int32) then
        ((f_Pa_push p6.2 3).bind fun p10 => f_BA_month_L55 a1 (fun hp15 =>
          some ((hp15 3 2), hp15)) FU p10.2 (0 : Int32))
      else
        some ((-1000000004 : Int32), p6.2)) else none))
def f_St_change (hp : HP) (q0 : Nat) (a1 : Int32) (a2 : Int32) : Option (Int32 × HP) :=
  (if inb a1 5 then ((f_BA_bounded hp ((hp (q0 + 1) (a1).toNatClampNeg) + a2)).bind fun p3 => some (0, (up p3.2 (q0 + 1) (a1).toNatClampNeg p3.1))) else none)
def f_BA_spend (hp : HP) (a1 : Int32) (a2 : Int32) : Option (Int32 × HP) :=
  (if isB (hp 0 8).toNatClampNeg then ((f_Br_hasCustomer hp (hp 0 8).toNatClampNeg a1).bind fun p3 => if p3.1 = 0 then
    some ((-1000000001 : Int32), p3.2)
  else
    ((f_BA_within p3.2 a2 (1 : Int32) (999 : Int32)).bind fun p6 => if p6.1 = 0 then
      some ((-1000000002 : Int32), p6.2)
    else
      ((f_Pa_push p6.2 3).bind fun p9 => ((f_St_change p9.2 3 a1 (-a2)).bind fun p11 => (if isB (p11.2 0 8).toNatClampNeg then (if inb a1 5 then ((f_Br_partsAt p11.2 (p11.2 0 8).toNatClampNeg (p11.2 4 (a1).toNatClampNeg)).bind fun p15 => some (p15.1, p15.2)) else none) else none))))) else none)
def f_St_hand (hp : HP) (q0 : Nat) (a1 : Int32) (a2 : Int32) (a3 : Int32) : Option (Int32 × HP) :=
  ((f_St_change hp q0 a1 (-a3)).bind fun p2 => ((f_St_change p2.2 q0 a2 a3).bind fun p4 => (if inb ((a1 * (5 : Int32)) + a2) 25 then (if inb ((a2 * (5 : Int32)) + a1) 25 then some (0, (up (up p4.2 (q0 + 2) (((a1 * (5 : Int32)) + a2)).toNatClampNeg ((p4.2 (q0 + 2) (((a1 * (5 : Int32)) + a2)).toNatClampNeg) - a3)) (q0 + 2) (((a2 * (5 : Int32)) + a1)).toNatClampNeg (((up p4.2 (q0 + 2) (((a1 * (5 : Int32)) + a2)).toNatClampNeg ((p4.2 (q0 + 2) (((a1 * (5 : Int32)) + a2)).toNatClampNeg) - a3)) (q0 + 2) (((a2 * (5 : Int32)) + a1)).toNatClampNeg) + a3))) else none) else none)))
def f_BA_lend (hp : HP) (a1 : Int32) (a2 : Int32) (a3 : Int32) : Option (Int32 × HP) :=
  ((f_BA_areTwo hp a1 a2).bind fun p2 => if p2.1 = 0 then
    some ((-1000000001 : Int32), p2.2)
  else
    ((f_BA_within p2.2 a3 (1 : Int32) (999 : Int32)).bind fun p5 => if p5.1 = 0 then
      some ((-1000000002 : Int32), p5.2)
    else
      ((f_St_debt p5.2 3 a2 a1).bind fun p8 => if (p8.1 + a3) ≤ (9999 : Int32) then
        ((f_Pa_push p8.2 3).bind fun p11 => ((f_St_hand p11.2 3 a1 a2 a3).bind fun p13 => (if isB (p13.2 0 8).toNatClampNeg then (if inb a2 5 then ((f_Br_partsAt p13.2 (p13.2 0 8).toNatClampNeg (p13.2 4 (a2).toNatClampNeg)).bind fun p17 => some (p17.1, p17.2)) else none) else none)))
      else
        some ((-1000000004 : Int32), p8.2))))
def f_BA_payBack (hp : HP) (a1 : Int32) (a2 : Int32) (a3 : Int32) : Option (Int32 × HP) :=
  ((f_BA_areTwo hp a1 a2).bind fun p2 => if p2.1 = 0 then
    some ((-1000000001 : Int32), p2.2)
  else
    ((f_BA_within p2.2 a3 (1 : Int32) (999 : Int32)).bind fun p5 => if p5.1 = 0 then
      some ((-1000000002 : Int32), p5.2)
    else
      ((f_St_debt p5.2 3 a1 a2).bind fun p8 => if a3 ≤ p8.1 then
        ((f_Pa_push p8.2 3).bind fun p11 => ((f_St_hand p11.2 3 a1 a2 a3).bind fun p13 => ((f_St_debt p13.2 3 a1 a2).bind fun p15 => some (p15.1, p15.2))))
      else
        some ((-1000000003 : Int32), p8.2))))
def f_BA_draw (hp : HP) (a1 : Int32) : Option (Int32 × HP) :=
  if a1 ≤ 0 then
    some ((0 : Int32), (up hp 0 11 ((((((hp 0 11)).toInt64 * (1103515245 : Int64)) + (12345 : Int64)) &&& (2147483647 : Int64))).toInt32))
  else
    (if a1 = 0 then none else some (((((up hp 0 11 ((((((hp 0 11)).toInt64 * (1103515245 : Int64)) + (12345 : Int64)) &&& (2147483647 : Int64))).toInt32) 0 11) / (65536 : Int32)) - (((up hp 0 11 ((((((hp 0 11)).toInt64 * (1103515245 : Int64)) + (12345 : Int64)) &&& (2147483647 : Int64))).toInt32) 0 11) / (65536 : Int32)) / a1 * a1), (up hp 0 11 ((((((hp 0 11)).toInt64 * (1103515245 : Int64)) + (12345 : Int64)) &&& (2147483647 : Int64))).toInt32)))
def f_BA_wager (hp : HP) : Option (Int32 × HP) :=
  (if isB (hp 0 8).toNatClampNeg then ((f_BA_draw hp (hp (hp 0 8).toNatClampNeg 6)).bind fun p3 => ((f_BA_draw p3.2 (100 : Int32)).bind fun p5 => ((f_BA_draw p5.2 (2 : Int32)).bind fun p7 => if p7.1 = 0 then
    ((f_St_change p7.2 3 p3.1 (-p5.1)).bind fun p10 => some (0, p10.2))
  else
    ((f_St_change p7.2 3 p3.1 p5.1).bind fun p12 => some (0, p12.2))))) else none)
def f_BA_drift_L49 (v1 : Int32) (K : HP → Option (Int32 × HP)) : Nat → HP → Int32 → Option (Int32 × HP)
  | 0, _, _ => none
  | n + 1, hp, x2 =>
      if v1 ≤ x2 then
        K hp
      else
        ((f_BA_wager hp).bind fun p16 => f_BA_drift_L49 v1 K n p16.2 (x2 + 1))
def f_BA_drift (hp : HP) (a1 : Int32) : Option (Int32 × HP) :=
  ((f_BA_within hp a1 (1 : Int32) (60 : Int32)).bind fun p2 => if p2.1 = 0 then
    some ((-1000000002 : Int32), p2.2)
  else
    (if isB (p2.2 0 8).toNatClampNeg then ((f_Br_isThere p2.2 (p2.2 0 8).toNatClampNeg).bind fun p6 => if p6.1 = 0 then
      some ((-1000000003 : Int32), p6.2)
    else
      ((f_Pa_push p6.2 3).bind fun p9 => (if isB (p9.2 0 8).toNatClampNeg then if (p9.2 (p9.2 0 8).toNatClampNeg 6) ≤ 0 then
        ((f_BA_hats p9.2).bind fun p13 => some (p13.1, p13.2))
      else
        f_BA_drift_L49 a1 (fun hp17 =>
          ((f_BA_hats hp17).bind fun p19 => some (p19.1, p19.2))) FU p9.2 (0 : Int32) else none))) else none))
def f_Pa_popInto (hp : HP) (q1 : Nat) : Option (Int32 × HP) :=
  if (hp 6 2) ≤ 0 then
    some (0, hp)
  else
    (if inb ((up hp 6 1 ((((hp 6 1) + (20 : Int32)) - (1 : Int32)) - (((hp 6 1) + (20 : Int32)) - (1 : Int32)) / (20 : Int32) * (20 : Int32))) 6 1) 20 then (if isS (7 + 1 + 3 * (((up hp 6 1 ((((hp 6 1) + (20 : Int32)) - (1 : Int32)) - (((hp 6 1) + (20 : Int32)) - (1 : Int32)) / (20 : Int32) * (20 : Int32))) 6 1)).toNatClampNeg) then ((f_St_copyFrom (up hp 6 1 ((((hp 6 1) + (20 : Int32)) - (1 : Int32)) - (((hp 6 1) + (20 : Int32)) - (1 : Int32)) / (20 : Int32) * (20 : Int32))) q1 (7 + 1 + 3 * (((up hp 6 1 ((((hp 6 1) + (20 : Int32)) - (1 : Int32)) - (((hp 6 1) + (20 : Int32)) - (1 : Int32)) / (20 : Int32) * (20 : Int32))) 6 1)).toNatClampNeg)).bind fun p5 => some (0, (up p5.2 6 2 ((p5.2 6 2) - (1 : Int32))))) else none) else none)
def f_BA_undo (hp : HP) : Option (Int32 × HP) :=
  if (hp 6 2) = 0 then
    some ((-1000000003 : Int32), hp)
  else
    ((f_Pa_popInto hp 3).bind fun p3 => some ((p3.2 6 2), p3.2))
def f_BA_hat_L26 (v1 : Int32) (K : HP → Option (Int32 × HP)) : Nat → HP → Int32 → Int32 → Option (Int32 × HP)
  | 0, _, _, _ => none
  | n + 1, hp, x2, x3 =>
      if (200 : Int32) < x3 then
        K hp
      else
        (if isB (hp 0 8).toNatClampNeg then ((f_Br_partsAt hp (hp 0 8).toNatClampNeg x2).bind fun p9 => if p9.1 = 0 then
          some (x3, p9.2)
        else
          (if isB (p9.2 0 8).toNatClampNeg then ((f_Br_afterMonth p9.2 (p9.2 0 8).toNatClampNeg v1 x2).bind fun p13 => f_BA_hat_L26 v1 K n p13.2 p13.1 (x3 + 1)) else none)) else none)
def f_BA_hat (hp : HP) (a1 : Int32) : Option (Int32 × HP) :=
  (if isB (hp 0 8).toNatClampNeg then ((f_Br_hasCustomer hp (hp 0 8).toNatClampNeg a1).bind fun p3 => if p3.1 = 0 then
    some ((-1000000001 : Int32), p3.2)
  else
    (if inb a1 5 then f_BA_hat_L26 a1 (fun hp14 =>
      some ((-1 : Int32), hp14)) FU p3.2 (p3.2 4 (a1).toNatClampNeg) (0 : Int32) else none)) else none)
def f_BA_able_L55 (v1 : Int32) (v2 : Int32) (v3 : Int32) (K : HP → Int32 → Option (Int32 × HP)) : Nat → HP → Int32 → Int32 → Int32 → Option (Int32 × HP)
  | 0, _, _, _, _ => none
  | n + 1, hp, x4, x5, x6 =>
      if v3 ≤ x6 then
        K hp x5
      else
        (if isB (hp 0 8).toNatClampNeg then ((f_Br_isDoable hp (hp 0 8).toNatClampNeg v2 x4).bind fun p16 => if p16.1 = 0 then
          (if isB (p16.2 0 8).toNatClampNeg then ((f_Br_afterMonth p16.2 (p16.2 0 8).toNatClampNeg v1 x4).bind fun p20 => f_BA_able_L55 v1 v2 v3 K n p20.2 p20.1 x5 (x6 + 1)) else none)
        else
          (if isB (p16.2 0 8).toNatClampNeg then ((f_Br_afterMonth p16.2 (p16.2 0 8).toNatClampNeg v1 x4).bind fun p23 => f_BA_able_L55 v1 v2 v3 K n p23.2 p23.1 (x5 + 1) (x6 + 1)) else none)) else none)
def f_BA_able (hp : HP) (a1 : Int32) (a2 : Int32) (a3 : Int32) : Option (Int32 × HP) :=
  (if isB (hp 0 8).toNatClampNeg then ((f_Br_hasCustomer hp (hp 0 8).toNatClampNeg a1).bind fun p3 => if p3.1 = 0 then
    some ((-1000000001 : Int32), p3.2)
  else
    (if isB (p3.2 0 8).toNatClampNeg then ((f_Br_hasTask p3.2 (p3.2 0 8).toNatClampNeg a2).bind fun p7 => if p7.1 = 0 then
      some ((-1000000001 : Int32), p7.2)
    else
      ((f_BA_within p7.2 a3 (1 : Int32) (60 : Int32)).bind fun p10 => if p10.1 = 0 then
        some ((-1000000002 : Int32), p10.2)
      else
        (if inb a1 5 then f_BA_able_L55 a1 a2 a3 (fun hp25 w24 =>
          some (w24, hp25)) FU p10.2 (p10.2 4 (a1).toNatClampNeg) (0 : Int32) (0 : Int32) else none))) else none)) else none)
def f_Sl_addSpending (hp : HP) (a1 : Int32) : Option (Int32 × HP) :=
  if (5 : Int32) ≤ (hp 68 7) then
    some (0, hp)
  else
    (if inb (hp 68 7) 5 then some (0, (up (up hp 69 ((hp 68 7)).toNatClampNeg a1) 68 7 (((up hp 69 ((hp 68 7)).toNatClampNeg a1) 68 7) + (1 : Int32)))) else none)
def f_BA_spending (hp : HP) (a1 : Int32) : Option (Int32 × HP) :=
  ((f_BA_within hp a1 (1 : Int32) (999 : Int32)).bind fun p2 => if p2.1 = 0 then
    some ((-1000000002 : Int32), p2.2)
  else
    if (p2.2 68 7) < (5 : Int32) then
      ((f_Sl_addSpending p2.2 a1).bind fun p6 => some ((p6.2 68 7), p6.2))
    else
      some ((-1000000004 : Int32), p2.2))
def f_Sl_addMust (hp : HP) (a1 : Int32) (a2 : Int32) : Option (Int32 × HP) :=
  if (4 : Int32) ≤ (hp 68 8) then
    some (0, hp)
  else
    (if inb (hp 68 8) 4 then (if inb ((up hp 70 ((hp 68 8)).toNatClampNeg a1) 68 8) 4 then some (0, (up (up (up hp 70 ((hp 68 8)).toNatClampNeg a1) 71 (((up hp 70 ((hp 68 8)).toNatClampNeg a1) 68 8)).toNatClampNeg a2) 68 8 (((up (up hp 70 ((hp 68 8)).toNatClampNeg a1) 71 (((up hp 70 ((hp 68 8)).toNatClampNeg a1) 68 8)).toNatClampNeg a2) 68 8) + (1 : Int32)))) else none) else none)
def f_BA_must (hp : HP) (a1 : Int32) (a2 : Int32) : Option (Int32 × HP) :=
  (if isB (hp 0 8).toNatClampNeg then ((f_Br_hasTask hp (hp 0 8).toNatClampNeg a1).bind fun p3 => if p3.1 = 0 then
    some ((-1000000001 : Int32), p3.2)
  else
    ((f_BA_within p3.2 a2 (0 : Int32) (3 : Int32)).bind fun p6 => if p6.1 = 0 then
      some ((-1000000002 : Int32), p6.2)
    else
      if (p6.2 68 8) < (4 : Int32) then
        ((f_Sl_addMust p6.2 a1 a2).bind fun p10 => some ((p10.2 68 8), p10.2))
      else
        some ((-1000000004 : Int32), p6.2))) else none)
def f_Sl_lastMustMonth_L4 (K : HP → Int32 → Option (Int32 × HP)) : Nat → HP → Int32 → Int32 → Option (Int32 × HP)
  | 0, _, _, _ => none
  | n + 1, hp, x1, x2 =>
      if (hp 68 8) ≤ x2 then
        K hp x1
      else
        (if inb x2 4 then f_Sl_lastMustMonth_L4 K n hp (mx x1 (hp 71 (x2).toNatClampNeg)) (x2 + 1) else none)
def f_Sl_lastMustMonth (hp : HP) : Option (Int32 × HP) :=
  f_Sl_lastMustMonth_L4 (fun hp4 w3 =>
    some (w3, hp4)) FU hp (-1 : Int32) (0 : Int32)
def f_Pl_give_L8 (v3 : Int32) (K : HP → Option (Int32 × HP)) : Nat → HP → Int32 → Int32 → Option (Int32 × HP)
  | 0, _, _, _ => none
  | n + 1, hp, x4, x5 =>
      if x5 < 0 then
        K hp
      else
        if v3 ≤ 0 then
          (if inb x5 5 then f_Pl_give_L8 v3 K n (up hp 77 (x5).toNatClampNeg (0 : Int32)) (0 : Int32) (x5 + (-1)) else none)
        else
          (if v3 = 0 then none else (if inb x5 5 then f_Pl_give_L8 v3 K n (up hp 77 (x5).toNatClampNeg (x4 - x4 / v3 * v3)) (x4 / v3) (x5 + (-1)) else none))
def f_Pl_give (hp : HP) (a1 : Int32) (a2 : Int32) (a3 : Int32) : Option (Int32 × HP) :=
  f_Pl_give_L8 a3 (fun hp8 =>
    some (0, hp8)) FU hp a1 (a2 - (1 : Int32))
def f_Pl_sumGivenTo_L5 (v1 : Int32) (K : HP → Int32 → Option (Int32 × HP)) : Nat → HP → Int32 → Int32 → Option (Int32 × HP)
  | 0, _, _, _ => none
  | n + 1, hp, x3, x4 =>
      if (hp 68 7) ≤ x4 then
        K hp x3
      else
        (if inb x4 5 then if (hp 77 (x4).toNatClampNeg) = v1 then
          f_Pl_sumGivenTo_L5 v1 K n hp (x3 + (hp 69 (x4).toNatClampNeg)) (x4 + 1)
        else
          f_Pl_sumGivenTo_L5 v1 K n hp x3 (x4 + 1) else none)
def f_Pl_sumGivenTo (hp : HP) (a1 : Int32) : Option (Int32 × HP) :=
  f_Pl_sumGivenTo_L5 a1 (fun hp5 w4 =>
    some (w4, hp5)) FU hp (0 : Int32) (0 : Int32)
def f_Pl_isAllDoable_L3 (v0 : Int32) (v1 : Int32) (q2 : Nat) (K : HP → Option (Int32 × HP)) : Nat → HP → Int32 → Option (Int32 × HP)
  | 0, _, _ => none
  | n + 1, hp, x4 =>
      if (hp 68 8) ≤ x4 then
        K hp
      else
        (if inb x4 4 then if (hp 71 (x4).toNatClampNeg) = v0 then
          ((f_Br_isDoable hp q2 (hp 70 (x4).toNatClampNeg) v1).bind fun p5 => if p5.1 = 0 then
            some ((0 : Int32), p5.2)
          else
            f_Pl_isAllDoable_L3 v0 v1 q2 K n p5.2 (x4 + 1))
        else
          f_Pl_isAllDoable_L3 v0 v1 q2 K n hp (x4 + 1) else none)
def f_Pl_isAllDoable (hp : HP) (a0 : Int32) (a1 : Int32) (q2 : Nat) : Option (Int32 × HP) :=
  f_Pl_isAllDoable_L3 a0 a1 q2 (fun hp7 =>
    some ((1 : Int32), hp7)) FU hp (0 : Int32)
def f_Pl_works_L7 (q1 : Nat) (v3 : Int32) (v5 : Int32) (K : HP → Option (Int32 × HP)) : Nat → HP → Int32 → Int32 → Option (Int32 × HP)
  | 0, _, _, _ => none
  | n + 1, hp, x6, x7 =>
      if v5 ≤ x7 then
        K hp
      else
        if x7 ≤ 0 then
          ((f_Pl_sumGivenTo hp x7).bind fun p4 => ((f_BA_bounded p4.2 (x6 - p4.1)).bind fun p6 => ((f_Pl_isAllDoable p6.2 x7 p6.1 q1).bind fun p8 => if p8.1 = 0 then
            some ((0 : Int32), p8.2)
          else
            f_Pl_works_L7 q1 v3 v5 K n p8.2 p6.1 (x7 + 1))))
        else
          ((f_Br_afterMonth hp q1 v3 x6).bind fun p11 => ((f_Pl_sumGivenTo p11.2 x7).bind fun p13 => ((f_BA_bounded p13.2 (p11.1 - p13.1)).bind fun p15 => ((f_Pl_isAllDoable p15.2 x7 p15.1 q1).bind fun p17 => if p17.1 = 0 then
            some ((0 : Int32), p17.2)
          else
            f_Pl_works_L7 q1 v3 v5 K n p17.2 p15.1 (x7 + 1)))))
def f_Pl_works (hp : HP) (q1 : Nat) (a3 : Int32) (a4 : Int32) (a5 : Int32) : Option (Int32 × HP) :=
  f_Pl_works_L7 q1 a3 a5 (fun hp19 =>
    some ((1 : Int32), hp19)) FU hp a4 (0 : Int32)
def f_Pl_find_L6 (q1 : Nat) (v3 : Int32) (v4 : Int32) (v5 : Int32) (K : HP → Int32 → Option (Int32 × HP)) : Nat → HP → Int32 → Int32 → Option (Int32 × HP)
  | 0, _, _, _ => none
  | n + 1, hp, x6, x7 =>
      if (hp 68 7) ≤ x7 then
        K hp x6
      else
        f_Pl_find_L6 q1 v3 v4 v5 K n hp (x6 * v5) (x7 + 1)
def f_Pl_find_L31 (q1 : Nat) (v3 : Int32) (v4 : Int32) (v5 : Int32) (v6 : Int32) (K : HP → Option (Int32 × HP)) : Nat → HP → Int32 → Option (Int32 × HP)
  | 0, _, _ => none
  | n + 1, hp, x7 =>
      if v6 ≤ x7 then
        K hp
      else
        ((f_Pl_give hp x7 (hp 68 7) v5).bind fun p6 => ((f_Pl_works p6.2 q1 v3 v4 v5).bind fun p8 => if p8.1 = 0 then
          f_Pl_find_L31 q1 v3 v4 v5 v6 K n p8.2 (x7 + 1)
        else
          some ((1 : Int32), p8.2)))
def f_Pl_find (hp : HP) (q1 : Nat) (a3 : Int32) (a4 : Int32) (a5 : Int32) : Option (Int32 × HP) :=
  f_Pl_find_L6 q1 a3 a4 a5 (fun hp3 w2 =>
    f_Pl_find_L31 q1 a3 a4 a5 w2 (fun hp10 =>
      some ((0 : Int32), hp10)) FU hp3 (0 : Int32)) FU hp (1 : Int32) (0 : Int32)
def f_BA_plan (hp : HP) (a1 : Int32) (a2 : Int32) (a3 : Int32) : Option (Int32 × HP) :=
  (if isB (hp 0 8).toNatClampNeg then ((f_Br_hasCustomer hp (hp 0 8).toNatClampNeg a1).bind fun p3 => if p3.1 = 0 then
    some ((-1000000001 : Int32), p3.2)
  else
    ((f_BA_within p3.2 a2 (1 : Int32) (4 : Int32)).bind fun p6 => if p6.1 = 0 then
      some ((-1000000002 : Int32), p6.2)
    else
      ((f_Sl_lastMustMonth p6.2).bind fun p9 => if p9.1 < a2 then
        (if isB (p9.2 0 8).toNatClampNeg then (if inb a1 5 then ((f_Pl_find p9.2 (p9.2 0 8).toNatClampNeg a1 (p9.2 4 (a1).toNatClampNeg) a2).bind fun p14 => if a3 = (-1 : Int32) then
          if p14.1 = 0 then
            some ((0 : Int32), p14.2)
          else
            some ((1 : Int32), p14.2)
        else
          if p14.1 = 0 then
            some ((-1 : Int32), p14.2)
          else
            ((f_BA_within p14.2 a3 (0 : Int32) ((p14.2 68 7) - (1 : Int32))).bind fun p19 => if p19.1 = 0 then
              some ((-1 : Int32), p19.2)
            else
              (if inb a3 5 then some ((p19.2 77 (a3).toNatClampNeg), p19.2) else none))) else none) else none)
      else
        some ((-1000000002 : Int32), p9.2)))) else none)
def f_BA_isDoableOnlyAsOne (hp : HP) (a1 : Int32) (a2 : Int32) (a3 : Int32) : Option (Int32 × HP) :=
  (if inb a2 5 then (if inb a3 5 then (if isB (hp 0 8).toNatClampNeg then ((f_Br_isDoable hp (hp 0 8).toNatClampNeg a1 (hp 4 (a2).toNatClampNeg)).bind fun p5 => if p5.1 = 0 then
    (if isB (p5.2 0 8).toNatClampNeg then ((f_Br_isDoable p5.2 (p5.2 0 8).toNatClampNeg a1 (hp 4 (a3).toNatClampNeg)).bind fun p9 => if p9.1 = 0 then
      (if isB (p9.2 0 8).toNatClampNeg then ((f_BA_bounded p9.2 ((hp 4 (a2).toNatClampNeg) + (hp 4 (a3).toNatClampNeg))).bind fun p13 => ((f_Br_isDoable p13.2 (p9.2 0 8).toNatClampNeg a1 p13.1).bind fun p15 => if p15.1 = 0 then
        some ((0 : Int32), p15.2)
      else
        some ((1 : Int32), p15.2))) else none)
    else
      some ((0 : Int32), p9.2)) else none)
  else
    some ((0 : Int32), p5.2)) else none) else none) else none)
def f_BA_asOne_L37 (v1 : Int32) (v2 : Int32) (v4 : Int32) (K : HP → Int32 → Option (Int32 × HP)) : Nat → HP → Int32 → Int32 → Option (Int32 × HP)
  | 0, _, _, _ => none
  | n + 1, hp, x3, x5 =>
      (if isB (hp 0 8).toNatClampNeg then if (hp (hp 0 8).toNatClampNeg 6) ≤ x5 then
        K hp x3
      else
        ((f_BA_isDoableOnlyAsOne hp v1 v4 x5).bind fun p10 => if p10.1 = 0 then
          f_BA_asOne_L37 v1 v2 v4 K n p10.2 x3 (x5 + 1)
        else
          if x3 = v2 then
            some ((((10 : Int32) * v4) + x5), p10.2)
          else
            f_BA_asOne_L37 v1 v2 v4 K n p10.2 (x3 + 1) (x5 + 1)) else none)
def f_BA_asOne_L19 (v1 : Int32) (v2 : Int32) (K : HP → Int32 → Option (Int32 × HP)) : Nat → HP → Int32 → Int32 → Option (Int32 × HP)
  | 0, _, _, _ => none
  | n + 1, hp, x3, x4 =>
      (if isB (hp 0 8).toNatClampNeg then if (hp (hp 0 8).toNatClampNeg 6) ≤ x4 then
        K hp x3
      else
        f_BA_asOne_L37 v1 v2 x4 (fun hp14 w13 =>
          f_BA_asOne_L19 v1 v2 K n hp14 w13 (x4 + 1)) FU hp x3 (x4 + (1 : Int32)) else none)
def f_BA_asOne (hp : HP) (a1 : Int32) (a2 : Int32) : Option (Int32 × HP) :=
  (if isB (hp 0 8).toNatClampNeg then ((f_Br_hasTask hp (hp 0 8).toNatClampNeg a1).bind fun p3 => if p3.1 = 0 then
    some ((-1000000001 : Int32), p3.2)
  else
    f_BA_asOne_L19 a1 a2 (fun hp16 w15 =>
      if a2 = (-1 : Int32) then
        some (w15, hp16)
      else
        some ((-1 : Int32), hp16)) FU p3.2 (0 : Int32) (0 : Int32)) else none)
def f_BA_loan (hp : HP) (a1 : Int32) (a2 : Int32) (a3 : Int32) : Option (Int32 × HP) :=
  (if isB (hp 0 8).toNatClampNeg then ((f_Br_hasCustomer hp (hp 0 8).toNatClampNeg a1).bind fun p3 => if p3.1 = 0 then
    some ((-1000000001 : Int32), p3.2)
  else
    (if isB (p3.2 0 8).toNatClampNeg then ((f_Br_hasTask p3.2 (p3.2 0 8).toNatClampNeg a2).bind fun p7 => if p7.1 = 0 then
      some ((-1000000001 : Int32), p7.2)
    else
      ((f_BA_within p7.2 a3 (0 : Int32) (1 : Int32)).bind fun p10 => if p10.1 = 0 then
        some ((-1000000002 : Int32), p10.2)
      else
        (if inb a1 5 then (if isB (p10.2 0 8).toNatClampNeg then ((f_Br_needOf p10.2 (p10.2 0 8).toNatClampNeg a2).bind fun p15 => if a3 = (1 : Int32) then
          if 0 ≤ ((p10.2 4 (a1).toNatClampNeg) - p15.1) then
            some ((mn ((p10.2 4 (a1).toNatClampNeg) - p15.1) (9999 : Int32)), p15.2)
          else
            some ((-1 : Int32), p15.2)
        else
          if ((p10.2 4 (a1).toNatClampNeg) - p15.1) < 0 then
            if (9999 : Int32) < (-((p10.2 4 (a1).toNatClampNeg) - p15.1)) then
              some ((-1 : Int32), p15.2)
            else
              some ((-((p10.2 4 (a1).toNatClampNeg) - p15.1)), p15.2)
          else
            some ((0 : Int32), p15.2)) else none) else none))) else none)) else none)
def f_Br_goneAheadOf_L4 (q0 : Nat) (v1 : Int32) (K : HP → Int32 → Option (Int32 × HP)) : Nat → HP → Int32 → Int32 → Option (Int32 × HP)
  | 0, _, _, _ => none
  | n + 1, hp, x2, x3 =>
      if (hp q0 5) ≤ x3 then
        K hp x2
      else
        (if inb x3 8 then (if inb v1 8 then if (hp (q0 + 1) (v1).toNatClampNeg) < (hp (q0 + 1) (x3).toNatClampNeg) then
          f_Br_goneAheadOf_L4 q0 v1 K n hp (x2 + 1) (x3 + 1)
        else
          if (hp (q0 + 1) (x3).toNatClampNeg) = (hp (q0 + 1) (v1).toNatClampNeg) then
            if v1 ≤ x3 then
              f_Br_goneAheadOf_L4 q0 v1 K n hp x2 (x3 + 1)
            else
              f_Br_goneAheadOf_L4 q0 v1 K n hp (x2 + 1) (x3 + 1)
          else
            f_Br_goneAheadOf_L4 q0 v1 K n hp x2 (x3 + 1) else none) else none)
def f_Br_goneAheadOf (hp : HP) (q0 : Nat) (a1 : Int32) : Option (Int32 × HP) :=
  f_Br_goneAheadOf_L4 q0 a1 (fun hp8 w7 =>
    some (w7, hp8)) FU hp (0 : Int32) (0 : Int32)
def f_BA_order_L2 (v1 : Int32) (K : HP → Option (Int32 × HP)) : Nat → HP → Int32 → Option (Int32 × HP)
  | 0, _, _ => none
  | n + 1, hp, x2 =>
      (if isB (hp 0 8).toNatClampNeg then if (hp (hp 0 8).toNatClampNeg 5) ≤ x2 then
        K hp
      else
        ((f_Br_goneAheadOf hp (hp 0 8).toNatClampNeg x2).bind fun p4 => if p4.1 = v1 then
          some (x2, p4.2)
        else
          f_BA_order_L2 v1 K n p4.2 (x2 + 1)) else none)
def f_BA_order (hp : HP) (a1 : Int32) : Option (Int32 × HP) :=
  f_BA_order_L2 a1 (fun hp6 =>
    some ((-1 : Int32), hp6)) FU hp (0 : Int32)
def f_BA_wage_L30 (v1 : Int32) (v2 : Int32) (K : HP → Int64 → Option (Int32 × HP)) : Nat → HP → Int64 → Int32 → Option (Int32 × HP)
  | 0, _, _, _ => none
  | n + 1, hp, x3, x5 =>
      if v1 ≤ x5 then
        K hp x3
      else
        f_BA_wage_L30 v1 v2 K n hp ((x3 * (((100 : Int32) - v2)).toInt64) / (100 : Int64)) (x5 + 1)
def f_BA_wage (hp : HP) (a1 : Int32) (a2 : Int32) : Option (Int32 × HP) :=
  ((f_BA_within hp a1 (0 : Int32) (60 : Int32)).bind fun p2 => if p2.1 = 0 then
    some ((-1000000002 : Int32), p2.2)
  else
    ((f_BA_within p2.2 a2 (0 : Int32) (100 : Int32)).bind fun p5 => if p5.1 = 0 then
      some ((-1000000002 : Int32), p5.2)
    else
      f_BA_wage_L30 a1 a2 (fun hp9 w8 =>
        some ((w8).toInt32, hp9)) FU p5.2 (1000000000 : Int64) (0 : Int32)))
def f_Sl_addSeen (hp : HP) (a1 : Int32) (a2 : Int32) : Option (Int32 × HP) :=
  if (8 : Int32) ≤ (hp 68 9) then
    some (0, hp)
  else
    (if inb (hp 68 9) 8 then (if inb ((up hp 72 ((hp 68 9)).toNatClampNeg a1) 68 9) 8 then some (0, (up (up (up hp 72 ((hp 68 9)).toNatClampNeg a1) 73 (((up hp 72 ((hp 68 9)).toNatClampNeg a1) 68 9)).toNatClampNeg (bz a2)) 68 9 (((up (up hp 72 ((hp 68 9)).toNatClampNeg a1) 73 (((up hp 72 ((hp 68 9)).toNatClampNeg a1) 68 9)).toNatClampNeg (bz a2)) 68 9) + (1 : Int32)))) else none) else none)
def f_BA_see (hp : HP) (a1 : Int32) (a2 : Int32) : Option (Int32 × HP) :=
  (if isB (hp 0 8).toNatClampNeg then ((f_Br_hasPart hp (hp 0 8).toNatClampNeg a1).bind fun p3 => if p3.1 = 0 then
    some ((-1000000001 : Int32), p3.2)
  else
    if (p3.2 68 9) < (8 : Int32) then
      ((f_Sl_addSeen p3.2 a1 a2).bind fun p7 => some ((p7.2 68 9), p7.2))
    else
      some ((-1000000004 : Int32), p3.2)) else none)
def f_Sl_leastSeen_L6 (q1 : Nat) (K : HP → Int32 → Option (Int32 × HP)) : Nat → HP → Int32 → Int32 → Option (Int32 × HP)
  | 0, _, _, _ => none
  | n + 1, hp, x2, x3 =>
      if (hp 68 9) ≤ x3 then
        K hp x2
      else
        (if inb x3 8 then if (hp 73 (x3).toNatClampNeg) = 0 then
          f_Sl_leastSeen_L6 q1 K n hp x2 (x3 + 1)
        else
          (if inb (hp 72 (x3).toNatClampNeg) 8 then f_Sl_leastSeen_L6 q1 K n hp (mx x2 (hp (q1 + 1) ((hp 72 (x3).toNatClampNeg)).toNatClampNeg)) (x3 + 1) else none) else none)
def f_Sl_leastSeen (hp : HP) (q1 : Nat) : Option (Int32 × HP) :=
  f_Sl_leastSeen_L6 q1 (fun hp6 w5 =>
    some (w5, hp6)) FU hp (-500 : Int32) (0 : Int32)
def f_Sl_greatestSeen_L6 (q1 : Nat) (K : HP → Int32 → Option (Int32 × HP)) : Nat → HP → Int32 → Int32 → Option (Int32 × HP)
  | 0, _, _, _ => none
  | n + 1, hp, x2, x3 =>
      if (hp 68 9) ≤ x3 then
        K hp x2
      else
        (if inb x3 8 then if (hp 73 (x3).toNatClampNeg) = 0 then
          (if inb (hp 72 (x3).toNatClampNeg) 8 then f_Sl_greatestSeen_L6 q1 K n hp (mn x2 ((hp (q1 + 1) ((hp 72 (x3).toNatClampNeg)).toNatClampNeg) - (1 : Int32))) (x3 + 1) else none)
        else
          f_Sl_greatestSeen_L6 q1 K n hp x2 (x3 + 1) else none)
def f_Sl_greatestSeen (hp : HP) (q1 : Nat) : Option (Int32 × HP) :=
  f_Sl_greatestSeen_L6 q1 (fun hp6 w5 =>
    some (w5, hp6)) FU hp (499 : Int32) (0 : Int32)
def f_BA_has (hp : HP) (a1 : Int32) : Option (Int32 × HP) :=
  ((f_BA_within hp a1 (0 : Int32) (2 : Int32)).bind fun p2 => if p2.1 = 0 then
    some ((-1000000002 : Int32), p2.2)
  else
    (if isB (p2.2 0 8).toNatClampNeg then ((f_Sl_leastSeen p2.2 (p2.2 0 8).toNatClampNeg).bind fun p6 => (if isB (p6.2 0 8).toNatClampNeg then ((f_Sl_greatestSeen p6.2 (p6.2 0 8).toNatClampNeg).bind fun p9 => if a1 = 0 then
      some ((mx (0 : Int32) ((p9.1 - p6.1) + (1 : Int32))), p9.2)
    else
      if (mx (0 : Int32) ((p9.1 - p6.1) + (1 : Int32))) = 0 then
        some ((-1 : Int32), p9.2)
      else
        if a1 = (1 : Int32) then
          some ((p6.1 + (10000 : Int32)), p9.2)
        else
          some ((p9.1 + (10000 : Int32)), p9.2)) else none)) else none))
def f_BA_look_L36 (v1 : Int32) (v2 : Int32) (K : HP → Int32 → Option (Int32 × HP)) : Nat → HP → Int32 → Int32 → Int32 → Option (Int32 × HP)
  | 0, _, _, _, _ => none
  | n + 1, hp, x3, x4, x5 =>
      (if isB (hp 0 8).toNatClampNeg then if (hp (hp 0 8).toNatClampNeg 5) ≤ x5 then
        K hp x3
      else
        (if inb x5 8 then if ((hp ((hp 0 8).toNatClampNeg + 1) (x5).toNatClampNeg) - v1) ≤ 0 then
          f_BA_look_L36 v1 v2 K n hp x3 x4 (x5 + 1)
        else
          if ((v2 - (hp ((hp 0 8).toNatClampNeg + 1) (x5).toNatClampNeg)) + (1 : Int32)) ≤ 0 then
            f_BA_look_L36 v1 v2 K n hp x3 x4 (x5 + 1)
          else
            if x4 ≤ (mx ((hp ((hp 0 8).toNatClampNeg + 1) (x5).toNatClampNeg) - v1) ((v2 - (hp ((hp 0 8).toNatClampNeg + 1) (x5).toNatClampNeg)) + (1 : Int32))) then
              f_BA_look_L36 v1 v2 K n hp x3 x4 (x5 + 1)
            else
              f_BA_look_L36 v1 v2 K n hp x5 (mx ((hp ((hp 0 8).toNatClampNeg + 1) (x5).toNatClampNeg) - v1) ((v2 - (hp ((hp 0 8).toNatClampNeg + 1) (x5).toNatClampNeg)) + (1 : Int32))) (x5 + 1) else none) else none)
def f_BA_look (hp : HP) : Option (Int32 × HP) :=
  (if isB (hp 0 8).toNatClampNeg then ((f_Sl_leastSeen hp (hp 0 8).toNatClampNeg).bind fun p3 => (if isB (p3.2 0 8).toNatClampNeg then ((f_Sl_greatestSeen p3.2 (p3.2 0 8).toNatClampNeg).bind fun p6 => f_BA_look_L36 p3.1 p6.1 (fun hp14 w13 =>
    some (w13, hp14)) FU p6.2 (-1 : Int32) ((p6.1 - p3.1) + (1 : Int32)) (0 : Int32)) else none)) else none)
def f_Sl_addEntry (hp : HP) (a1 : Int32) (a2 : Int32) : Option (Int32 × HP) :=
  if (15 : Int32) ≤ (hp 68 10) then
    some (0, hp)
  else
    (if inb (hp 68 10) 15 then (if inb ((up hp 74 ((hp 68 10)).toNatClampNeg a1) 68 10) 15 then some (0, (up (up (up hp 74 ((hp 68 10)).toNatClampNeg a1) 75 (((up hp 74 ((hp 68 10)).toNatClampNeg a1) 68 10)).toNatClampNeg a2) 68 10 (((up (up hp 74 ((hp 68 10)).toNatClampNeg a1) 75 (((up hp 74 ((hp 68 10)).toNatClampNeg a1) 68 10)).toNatClampNeg a2) 68 10) + (1 : Int32)))) else none) else none)
def f_BA_write (hp : HP) (a1 : Int32) (a2 : Int32) : Option (Int32 × HP) :=
  (if isB (hp 0 8).toNatClampNeg then ((f_Br_hasCustomer hp (hp 0 8).toNatClampNeg a1).bind fun p3 => if p3.1 = 0 then
    some ((-1000000001 : Int32), p3.2)
  else
    ((f_BA_within p3.2 a2 (0 : Int32) (20000 : Int32)).bind fun p6 => if p6.1 = 0 then
      some ((-1000000002 : Int32), p6.2)
    else
      if (p6.2 68 10) < (15 : Int32) then
        ((f_Sl_addEntry p6.2 a1 (a2 - (10000 : Int32))).bind fun p10 => some ((p10.2 68 10), p10.2))
      else
        some ((-1000000004 : Int32), p6.2))) else none)
def f_Sl_countAll (hp : HP) : Option (Int32 × HP) :=
  some (((((hp 68 7) + (hp 68 8)) + (hp 68 9)) + (hp 68 10)), hp)
def f_BA_tear (hp : HP) : Option (Int32 × HP) :=
  ((f_Sl_countAll hp).bind fun p2 => ((f_Sl_clear p2.2).bind fun p4 => some (p2.1, p4.2)))
def f_BA_judge_L2 (K : HP → Option (Int32 × HP)) : Nat → HP → Int32 → Option (Int32 × HP)
  | 0, _, _ => none
  | n + 1, hp, x1 =>
      if (hp 68 10) ≤ x1 then
        K hp
      else
        (if inb x1 15 then (if isB (hp 0 8).toNatClampNeg then ((f_Br_hasCustomer hp (hp 0 8).toNatClampNeg (hp 74 (x1).toNatClampNeg)).bind fun p5 => if p5.1 = 0 then
          f_BA_judge_L2 K n p5.2 (x1 + 1)
        else
          (if inb (hp 74 (x1).toNatClampNeg) 5 then if (p5.2 4 ((hp 74 (x1).toNatClampNeg)).toNatClampNeg) = (p5.2 75 (x1).toNatClampNeg) then
            f_BA_judge_L2 K n p5.2 (x1 + 1)
          else
            some (x1, p5.2) else none)) else none) else none)
def f_BA_judge (hp : HP) : Option (Int32 × HP) :=
  f_BA_judge_L2 (fun hp9 =>
    some ((-1 : Int32), hp9)) FU hp (0 : Int32)
def f_BA_seed (hp : HP) (a1 : Int32) : Option (Int32 × HP) :=
  if 0 ≤ a1 then
    some ((hp 0 11), (up hp 0 11 a1))
  else
    some ((-1000000002 : Int32), hp)
def f_BA_keep (hp : HP) (a1 : Int32) : Option (Int32 × HP) :=
  ((f_BA_within hp a1 (0 : Int32) (1 : Int32)).bind fun p2 => if p2.1 = 0 then
    some ((-1000000001 : Int32), p2.2)
  else
    (if inb a1 2 then (if isS (78 + 1 + 3 * (a1).toNatClampNeg) then ((f_St_copyFrom p2.2 (78 + 1 + 3 * (a1).toNatClampNeg) 3).bind fun p7 => ((f_Pa_clear (up (up p7.2 85 (a1).toNatClampNeg (p7.2 0 11)) 86 (a1).toNatClampNeg (bz (1 : Int32)))).bind fun p9 => some ((1 : Int32), p9.2))) else none) else none))
def f_BA_goBack (hp : HP) (a1 : Int32) : Option (Int32 × HP) :=
  ((f_BA_within hp a1 (0 : Int32) (1 : Int32)).bind fun p2 => if p2.1 = 0 then
    some ((-1000000001 : Int32), p2.2)
  else
    (if inb a1 2 then if (p2.2 86 (a1).toNatClampNeg) = 0 then
      some ((-1000000003 : Int32), p2.2)
    else
      (if isS (78 + 1 + 3 * (a1).toNatClampNeg) then ((f_St_copyFrom p2.2 3 (78 + 1 + 3 * (a1).toNatClampNeg)).bind fun p8 => ((f_Pa_clear (up p8.2 0 11 (p8.2 85 (a1).toNatClampNeg))).bind fun p10 => some ((1 : Int32), p10.2))) else none) else none))
def f_Mo_in (hp : HP) (a0 : Int64) (a1 : Int64) (a2 : Int64) : Option (Int32 × HP) :=
  if (lg_cmp a0 a1) < 0 then
    some ((0 : Int32), hp)
  else
    if 0 < (lg_cmp a0 a2) then
      some ((0 : Int32), hp)
    else
      some ((1 : Int32), hp)
def f_Mo_isIn (hp : HP) (a0 : Int32) (a1 : Int32) : Option (Int32 × HP) :=
  if ((a0 >>> (a1 &&& 31)) &&& (1 : Int32)) = (1 : Int32) then
    some ((1 : Int32), hp)
  else
    some ((0 : Int32), hp)
def f_Mo_copy_L2 (v1 : Int32) (v2 : Int32) (K : HP → Option (Int32 × HP)) : Nat → HP → Int32 → Option (Int32 × HP)
  | 0, _, _ => none
  | n + 1, hp, x3 =>
      if (32 : Int32) ≤ x3 then
        K hp
      else
        (if inb (v1 + x3) 736 then (if inb (v2 + x3) 736 then f_Mo_copy_L2 v1 v2 K n (up hp 100 ((v2 + x3)).toNatClampNeg (hp 100 ((v1 + x3)).toNatClampNeg)) (x3 + 1) else none) else none)
def f_Mo_copy (hp : HP) (a1 : Int32) (a2 : Int32) : Option (Int32 × HP) :=
  f_Mo_copy_L2 a1 a2 (fun hp4 =>
    some (0, hp4)) FU hp (0 : Int32)
def f_Mo_isPart (hp : HP) (a1 : Int32) : Option (Int32 × HP) :=
  ((f_Mo_in hp (a1).toInt64 (0 : Int64) (((hp 99 3) - (1 : Int32))).toInt64).bind fun p2 => rz p2.1 p2.2)
def f_Mo_isCustomer (hp : HP) (a1 : Int32) : Option (Int32 × HP) :=
  ((f_Mo_in hp (a1).toInt64 (0 : Int64) (((hp 99 5) - (1 : Int32))).toInt64).bind fun p2 => rz p2.1 p2.2)
def f_Mo_areTwo (hp : HP) (a1 : Int32) (a2 : Int32) : Option (Int32 × HP) :=
  ((f_Mo_isCustomer hp a1).bind fun p2 => if p2.1 = 0 then
    some ((0 : Int32), p2.2)
  else
    ((f_Mo_isCustomer p2.2 a2).bind fun p5 => if p5.1 = 0 then
      some ((0 : Int32), p5.2)
    else
      if a1 = a2 then
        some ((0 : Int32), p5.2)
      else
        some ((1 : Int32), p5.2)))
def f_Mo_isTask (hp : HP) (a1 : Int32) : Option (Int32 × HP) :=
  ((f_Mo_in hp (a1).toInt64 (0 : Int64) (((hp 99 8) - (1 : Int32))).toInt64).bind fun p2 => rz p2.1 p2.2)
def f_Mo_bounded (hp : HP) (a0 : Int32) : Option (Int32 × HP) :=
  if a0 ≤ (9999 : Int32) then
    if (-9999 : Int32) ≤ a0 then
      some (a0, hp)
    else
      some ((-9999 : Int32), hp)
  else
    some ((9999 : Int32), hp)
def f_Mo_feed (hp : HP) (a1 : Int32) : Option (Int32 × HP) :=
  ((f_Mo_in hp (a1).toInt64 (0 : Int64) (255 : Int64)).bind fun p2 => if p2.1 = 0 then
    some ((-1000000002 : Int32), p2.2)
  else
    if (p2.2 99 11) = (240 : Int32) then
      some ((-1000000004 : Int32), p2.2)
    else
      (if inb (p2.2 99 11) 240 then some (((up (up p2.2 106 ((p2.2 99 11)).toNatClampNeg a1) 99 11 (((up p2.2 106 ((p2.2 99 11)).toNatClampNeg a1) 99 11) + (1 : Int32))) 99 11), (up (up p2.2 106 ((p2.2 99 11)).toNatClampNeg a1) 99 11 (((up p2.2 106 ((p2.2 99 11)).toNatClampNeg a1) 99 11) + (1 : Int32)))) else none))
def f_Mo_letterAt (hp : HP) (a1 : Int32) : Option (Int32 × HP) :=
  if (hp 99 11) ≤ a1 then
    some ((-1 : Int32), hp)
  else
    (if inb a1 240 then some ((hp 106 (a1).toNatClampNeg), hp) else none)
def f_Mo_here_L0 (K : HP → Option (Int32 × HP)) : Nat → HP → Option (Int32 × HP)
  | 0, _ => none
  | n + 1, hp =>
      ((f_Mo_letterAt hp (hp 99 12)).bind fun p2 => if p2.1 = (32 : Int32) then
        f_Mo_here_L0 K n (up p2.2 99 12 ((p2.2 99 12) + (1 : Int32)))
      else
        K p2.2)
def f_Mo_here (hp : HP) : Option (Int32 × HP) :=
  f_Mo_here_L0 (fun hp4 =>
    ((f_Mo_letterAt (up hp4 99 13 (hp4 99 12)) ((up hp4 99 13 (hp4 99 12)) 99 12)).bind fun p6 => some (p6.1, p6.2))) FU hp
def f_Mo_fails (hp : HP) (a1 : Int32) (a2 : Int32) : Option (Int32 × HP) :=
  some ((0 : Int32), (up (up hp 99 15 a1) 99 16 a2))
def f_Mo_takes (hp : HP) (a1 : Int32) : Option (Int32 × HP) :=
  ((f_Mo_here hp).bind fun p2 => if p2.1 = a1 then
    some ((1 : Int32), (up p2.2 99 12 ((p2.2 99 12) + (1 : Int32))))
  else
    ((f_Mo_fails p2.2 (1 : Int32) (p2.2 99 13)).bind fun p5 => rz p5.1 p5.2))
def f_Mo_takesNumber_L32 (v1 : Int32) (v2 : Int32) (K : HP → Option (Int32 × HP)) : Nat → HP → Option (Int32 × HP)
  | 0, _ => none
  | n + 1, hp =>
      ((f_Mo_letterAt hp (hp 99 12)).bind fun p9 => ((f_Mo_in p9.2 (p9.1).toInt64 (48 : Int64) (57 : Int64)).bind fun p11 => if p11.1 = 0 then
        K p11.2
      else
        if (3 : Int32) ≤ ((p11.2 99 12) - (p11.2 99 13)) then
          f_Mo_takesNumber_L32 v1 v2 K n (up (up p11.2 99 14 (p11.2 99 14)) 99 12 (((up p11.2 99 14 (p11.2 99 14)) 99 12) + (1 : Int32)))
        else
          ((f_Mo_letterAt p11.2 (p11.2 99 12)).bind fun p15 => f_Mo_takesNumber_L32 v1 v2 K n (up (up p15.2 99 14 ((((10 : Int32) * (p11.2 99 14)) + p15.1) - (48 : Int32))) 99 12 (((up p15.2 99 14 ((((10 : Int32) * (p11.2 99 14)) + p15.1) - (48 : Int32))) 99 12) + (1 : Int32))))))
def f_Mo_takesNumber (hp : HP) (a1 : Int32) (a2 : Int32) : Option (Int32 × HP) :=
  ((f_Mo_here hp).bind fun p2 => ((f_Mo_in p2.2 (p2.1).toInt64 (48 : Int64) (57 : Int64)).bind fun p4 => if p4.1 = 0 then
    ((f_Mo_fails p4.2 (1 : Int32) (p4.2 99 13)).bind fun p7 => rz p7.1 p7.2)
  else
    f_Mo_takesNumber_L32 a1 a2 (fun hp16 =>
      if (4 : Int32) ≤ ((hp16 99 12) - (hp16 99 13)) then
        ((f_Mo_fails hp16 (2 : Int32) (hp16 99 13)).bind fun p19 => if p19.1 = 0 then
          some ((0 : Int32), p19.2)
        else
          some ((1 : Int32), p19.2))
      else
        ((f_Mo_in hp16 ((hp16 99 14)).toInt64 (a1).toInt64 (a2).toInt64).bind fun p22 => if p22.1 = 0 then
          ((f_Mo_fails p22.2 (2 : Int32) (p22.2 99 13)).bind fun p25 => if p25.1 = 0 then
            some ((0 : Int32), p25.2)
          else
            some ((1 : Int32), p25.2))
        else
          some ((1 : Int32), p22.2))) FU (up p4.2 99 14 (0 : Int32))))
def f_Mo_takesBranch_L2 (K : HP → Option (Int32 × HP)) : Nat → HP → Int32 → Option (Int32 × HP)
  | 0, _, _ => none
  | n + 1, hp, x1 =>
      if x1 = 0 then
        K hp
      else
        ((f_Mo_takesNumber hp (0 : Int32) (999 : Int32)).bind fun p3 => if p3.1 = 0 then
          some ((0 : Int32), p3.2)
        else
          (if inb (p3.2 99 17) 8 then ((f_Mo_here (up (up p3.2 107 ((p3.2 99 17)).toNatClampNeg (p3.2 99 14)) 99 17 (((up p3.2 107 ((p3.2 99 17)).toNatClampNeg (p3.2 99 14)) 99 17) + (1 : Int32)))).bind fun p7 => if p7.1 = (44 : Int32) then
            if (p7.2 99 17) = (8 : Int32) then
              ((f_Mo_fails p7.2 (1 : Int32) (p7.2 99 13)).bind fun p12 => rz p12.1 p12.2)
            else
              f_Mo_takesBranch_L2 K n (up p7.2 99 12 ((p7.2 99 12) + (1 : Int32))) (1 : Int32)
          else
            f_Mo_takesBranch_L2 K n (up p7.2 99 12 ((p7.2 99 12) + (0 : Int32))) (0 : Int32)) else none))
def f_Mo_takesBranch (hp : HP) : Option (Int32 × HP) :=
  f_Mo_takesBranch_L2 (fun hp16 =>
    some ((1 : Int32), hp16)) FU hp (1 : Int32)
def f_Mo_takesCustomer_L2 (K : HP → Option (Int32 × HP)) : Nat → HP → Int32 → Option (Int32 × HP)
  | 0, _, _ => none
  | n + 1, hp, x1 =>
      if (3 : Int32) ≤ x1 then
        K hp
      else
        if x1 = 0 then
          ((f_Mo_takesNumber hp (0 : Int32) (999 : Int32)).bind fun p4 => if p4.1 = 0 then
            some ((0 : Int32), p4.2)
          else
            (if inb (((3 : Int32) * (p4.2 99 19)) + x1) 15 then f_Mo_takesCustomer_L2 K n (up p4.2 108 ((((3 : Int32) * (p4.2 99 19)) + x1)).toNatClampNeg (p4.2 99 14)) (x1 + 1) else none))
        else
          ((f_Mo_takesNumber hp (0 : Int32) (99 : Int32)).bind fun p8 => if p8.1 = 0 then
            some ((0 : Int32), p8.2)
          else
            (if inb (((3 : Int32) * (p8.2 99 19)) + x1) 15 then f_Mo_takesCustomer_L2 K n (up p8.2 108 ((((3 : Int32) * (p8.2 99 19)) + x1)).toNatClampNeg (p8.2 99 14)) (x1 + 1) else none))
def f_Mo_takesCustomer (hp : HP) : Option (Int32 × HP) :=
  f_Mo_takesCustomer_L2 (fun hp11 =>
    some ((1 : Int32), (up hp11 99 19 ((hp11 99 19) + (1 : Int32))))) FU hp (0 : Int32)
def f_Mo_takesTask (hp : HP) : Option (Int32 × HP) :=
  ((f_Mo_takesNumber hp (0 : Int32) (((1 : Int32) <<< ((hp 99 17) &&& 31)) - (1 : Int32))).bind fun p2 => if p2.1 = 0 then
    some ((0 : Int32), p2.2)
  else
    (if inb (p2.2 99 21) 6 then some ((1 : Int32), (up (up p2.2 109 ((p2.2 99 21)).toNatClampNeg (p2.2 99 14)) 99 21 (((up p2.2 109 ((p2.2 99 21)).toNatClampNeg (p2.2 99 14)) 99 21) + (1 : Int32)))) else none))
def f_Mo_takesClause (hp : HP) : Option (Int32 × HP) :=
  ((f_Mo_here hp).bind fun p2 => if p2.1 = (98 : Int32) then
    if (p2.2 99 17) ≤ 0 then
      ((f_Mo_takesBranch (up p2.2 99 12 ((p2.2 99 12) + (1 : Int32)))).bind fun p10 => if p10.1 = 0 then
        some ((0 : Int32), p10.2)
      else
        ((f_Mo_takes p10.2 (59 : Int32)).bind fun p13 => if p13.1 = 0 then
          some ((0 : Int32), p13.2)
        else
          some ((1 : Int32), p13.2)))
    else
      ((f_Mo_fails p2.2 (3 : Int32) (p2.2 99 13)).bind fun p17 => rz p17.1 p17.2)
  else
    if (p2.2 99 17) ≤ 0 then
      ((f_Mo_fails p2.2 (1 : Int32) (p2.2 99 13)).bind fun p21 => rz p21.1 p21.2)
    else
      if p2.1 = (99 : Int32) then
        if (p2.2 99 19) = (5 : Int32) then
          ((f_Mo_fails p2.2 (3 : Int32) (p2.2 99 13)).bind fun p29 => rz p29.1 p29.2)
        else
          ((f_Mo_takesCustomer (up p2.2 99 12 ((p2.2 99 12) + (1 : Int32)))).bind fun p34 => if p34.1 = 0 then
            some ((0 : Int32), p34.2)
          else
            ((f_Mo_takes p34.2 (59 : Int32)).bind fun p37 => if p37.1 = 0 then
              some ((0 : Int32), p37.2)
            else
              some ((1 : Int32), p37.2)))
      else
        if p2.1 = (116 : Int32) then
          if (p2.2 99 21) = (6 : Int32) then
            ((f_Mo_fails p2.2 (3 : Int32) (p2.2 99 13)).bind fun p46 => rz p46.1 p46.2)
          else
            ((f_Mo_takesTask (up p2.2 99 12 ((p2.2 99 12) + (1 : Int32)))).bind fun p51 => if p51.1 = 0 then
              some ((0 : Int32), p51.2)
            else
              ((f_Mo_takes p51.2 (59 : Int32)).bind fun p54 => if p54.1 = 0 then
                some ((0 : Int32), p54.2)
              else
                some ((1 : Int32), p54.2)))
        else
          ((f_Mo_fails p2.2 (1 : Int32) (p2.2 99 13)).bind fun p58 => rz p58.1 p58.2))
def f_Mo_branch_L32 (K : HP → Int32 → Option (Int32 × HP)) : Nat → HP → Int32 → Option (Int32 × HP)
  | 0, _, _ => none
  | n + 1, hp, x1 =>
      if x1 = 0 then
        K hp x1
      else
        ((f_Mo_here hp).bind fun p3 => if p3.1 = (-1 : Int32) then
          K p3.2 x1
        else
          ((f_Mo_takesClause p3.2).bind fun p6 => f_Mo_branch_L32 K n p6.2 p6.1))
def f_Mo_branch_L79 (v2 : Int32) (K : HP → Option (Int32 × HP)) : Nat → HP → Int32 → Option (Int32 × HP)
  | 0, _, _ => none
  | n + 1, hp, x3 =>
      if (32 : Int32) ≤ x3 then
        K hp
      else
        (if inb x3 736 then f_Mo_branch_L79 v2 K n (up hp 100 (x3).toNatClampNeg (0 : Int32)) (x3 + 1) else none)
def f_Mo_branch_L132 (K : HP → Option (Int32 × HP)) : Nat → HP → Int32 → Option (Int32 × HP)
  | 0, _, _ => none
  | n + 1, hp, x3 =>
      if (hp 99 3) ≤ x3 then
        K hp
      else
        (if inb x3 8 then f_Mo_branch_L132 K n (up hp 102 (x3).toNatClampNeg (hp 107 (x3).toNatClampNeg)) (x3 + 1) else none)
def f_Mo_branch_L160 (K : HP → Option (Int32 × HP)) : Nat → HP → Int32 → Option (Int32 × HP)
  | 0, _, _ => none
  | n + 1, hp, x3 =>
      if (hp 99 5) ≤ x3 then
        K hp
      else
        (if inb ((3 : Int32) * x3) 15 then (if inb ((1 : Int32) + x3) 736 then (if inb (((3 : Int32) * x3) + (1 : Int32)) 15 then (if inb x3 5 then (if inb (((3 : Int32) * x3) + (2 : Int32)) 15 then f_Mo_branch_L160 K n (up (up (up hp 100 (((1 : Int32) + x3)).toNatClampNeg ((hp 108 (((3 : Int32) * x3)).toNatClampNeg) - (500 : Int32))) 103 (x3).toNatClampNeg ((up hp 100 (((1 : Int32) + x3)).toNatClampNeg ((hp 108 (((3 : Int32) * x3)).toNatClampNeg) - (500 : Int32))) 108 ((((3 : Int32) * x3) + (1 : Int32))).toNatClampNeg)) 104 (x3).toNatClampNeg ((up (up hp 100 (((1 : Int32) + x3)).toNatClampNeg ((hp 108 (((3 : Int32) * x3)).toNatClampNeg) - (500 : Int32))) 103 (x3).toNatClampNeg ((up hp 100 (((1 : Int32) + x3)).toNatClampNeg ((hp 108 (((3 : Int32) * x3)).toNatClampNeg) - (500 : Int32))) 108 ((((3 : Int32) * x3) + (1 : Int32))).toNatClampNeg)) 108 ((((3 : Int32) * x3) + (2 : Int32))).toNatClampNeg)) (x3 + 1) else none) else none) else none) else none) else none)
def f_Mo_branch_L228 (K : HP → Option (Int32 × HP)) : Nat → HP → Int32 → Option (Int32 × HP)
  | 0, _, _ => none
  | n + 1, hp, x3 =>
      if (hp 99 8) ≤ x3 then
        K hp
      else
        (if inb x3 6 then f_Mo_branch_L228 K n (up hp 105 (x3).toNatClampNeg (hp 109 (x3).toNatClampNeg)) (x3 + 1) else none)
def f_Mo_branch (hp : HP) : Option (Int32 × HP) :=
  f_Mo_branch_L32 (fun hp8 w7 =>
    if w7 = 0 then
      some (((-10 : Int32) - ((up hp8 99 11 (0 : Int32)) 99 15)), (up hp8 99 11 (0 : Int32)))
    else
      f_Mo_branch_L79 ((up hp8 99 11 (0 : Int32)) 100 31) (fun hp12 =>
        f_Mo_branch_L132 (fun hp15 =>
          f_Mo_branch_L160 (fun hp22 =>
            f_Mo_branch_L228 (fun hp25 =>
              some (((up (up (up (up (up (up (up hp25 99 23 (0 : Int32)) 99 25 (0 : Int32)) 99 29 (0 : Int32)) 99 32 (0 : Int32)) 99 2 (0 : Int32)) 101 0 (bz (0 : Int32))) 101 1 (bz (0 : Int32))) 99 5), (up (up (up (up (up (up (up hp25 99 23 (0 : Int32)) 99 25 (0 : Int32)) 99 29 (0 : Int32)) 99 32 (0 : Int32)) 99 2 (0 : Int32)) 101 0 (bz (0 : Int32))) 101 1 (bz (0 : Int32))))) FU hp22 (0 : Int32)) FU hp15 (0 : Int32)) FU (up (up (up (up hp12 100 31 ((up hp8 99 11 (0 : Int32)) 100 31)) 99 3 ((up hp12 100 31 ((up hp8 99 11 (0 : Int32)) 100 31)) 99 17)) 99 5 ((up (up hp12 100 31 ((up hp8 99 11 (0 : Int32)) 100 31)) 99 3 ((up hp12 100 31 ((up hp8 99 11 (0 : Int32)) 100 31)) 99 17)) 99 19)) 99 8 ((up (up (up hp12 100 31 ((up hp8 99 11 (0 : Int32)) 100 31)) 99 3 ((up hp12 100 31 ((up hp8 99 11 (0 : Int32)) 100 31)) 99 17)) 99 5 ((up (up hp12 100 31 ((up hp8 99 11 (0 : Int32)) 100 31)) 99 3 ((up hp12 100 31 ((up hp8 99 11 (0 : Int32)) 100 31)) 99 17)) 99 19)) 99 21)) (0 : Int32)) FU (up hp8 99 11 (0 : Int32)) (0 : Int32)) FU (up (up (up (up (up (up hp 99 12 (0 : Int32)) 99 15 (0 : Int32)) 99 16 (-1 : Int32)) 99 17 (0 : Int32)) 99 19 (0 : Int32)) 99 21 (0 : Int32)) (1 : Int32)
def f_Mo_fault (hp : HP) : Option (Int32 × HP) :=
  some ((hp 99 16), hp)
def f_Mo_thereBy_L4 (v1 : Int32) (K : HP → Int32 → Option (Int32 × HP)) : Nat → HP → Int32 → Int32 → Option (Int32 × HP)
  | 0, _, _, _ => none
  | n + 1, hp, x2, x3 =>
      if (hp 99 3) ≤ x3 then
        K hp x2
      else
        (if inb x3 8 then if v1 < ((hp 102 (x3).toNatClampNeg) - (500 : Int32)) then
          f_Mo_thereBy_L4 v1 K n hp (x2 ||| (0 : Int32)) (x3 + 1)
        else
          f_Mo_thereBy_L4 v1 K n hp (x2 ||| ((1 : Int32) <<< (x3 &&& 31))) (x3 + 1) else none)
def f_Mo_thereBy (hp : HP) (a1 : Int32) : Option (Int32 × HP) :=
  f_Mo_thereBy_L4 a1 (fun hp5 w4 =>
    some (w4, hp5)) FU hp (0 : Int32) (0 : Int32)
def f_Mo_thereOf (hp : HP) (a1 : Int32) : Option (Int32 × HP) :=
  (if inb ((1 : Int32) + a1) 736 then ((f_Mo_thereBy hp (hp 100 (((1 : Int32) + a1)).toNatClampNeg)).bind fun p3 => some (p3.1, p3.2)) else none)
def f_Mo_whole (hp : HP) : Option (Int32 × HP) :=
  some ((((1 : Int32) <<< ((hp 99 3) &&& 31)) - (1 : Int32)), hp)
def f_Mo_hats_L4 (K : HP → Int32 → Option (Int32 × HP)) : Nat → HP → Int32 → Int32 → Option (Int32 × HP)
  | 0, _, _, _ => none
  | n + 1, hp, x1, x2 =>
      if (hp 99 5) ≤ x2 then
        K hp x1
      else
        ((f_Mo_thereOf hp x2).bind fun p3 => if p3.1 = 0 then
          f_Mo_hats_L4 K n p3.2 (x1 ||| ((1 : Int32) <<< (x2 &&& 31))) (x2 + 1)
        else
          f_Mo_hats_L4 K n p3.2 (x1 ||| (0 : Int32)) (x2 + 1))
def f_Mo_hats (hp : HP) : Option (Int32 × HP) :=
  f_Mo_hats_L4 (fun hp6 w5 =>
    some (w5, hp6)) FU hp (0 : Int32) (0 : Int32)
def f_Mo_net_L4 (v1 : Int32) (K : HP → Int32 → Option (Int32 × HP)) : Nat → HP → Int32 → Int32 → Option (Int32 × HP)
  | 0, _, _, _ => none
  | n + 1, hp, x2, x3 =>
      if (hp 99 5) ≤ x3 then
        K hp x2
      else
        (if inb (((6 : Int32) + ((5 : Int32) * v1)) + x3) 736 then f_Mo_net_L4 v1 K n hp (x2 - (hp 100 ((((6 : Int32) + ((5 : Int32) * v1)) + x3)).toNatClampNeg)) (x3 + 1) else none)
def f_Mo_net (hp : HP) (a1 : Int32) : Option (Int32 × HP) :=
  f_Mo_net_L4 a1 (fun hp4 w3 =>
    some (w3, hp4)) FU hp (0 : Int32) (0 : Int32)
def f_Mo_wholes_L4 (v1 : Int32) (K : HP → Int32 → Option (Int32 × HP)) : Nat → HP → Int32 → Int32 → Option (Int32 × HP)
  | 0, _, _, _ => none
  | n + 1, hp, x2, x3 =>
      if (hp 99 5) ≤ x3 then
        K hp x2
      else
        (if inb ((1 : Int32) + x3) 736 then if v1 = 0 then
          ((f_Mo_thereBy hp ((hp 100 (((1 : Int32) + x3)).toNatClampNeg) + (0 : Int32))).bind fun p5 => ((f_Mo_whole p5.2).bind fun p7 => if p5.1 = p7.1 then
            f_Mo_wholes_L4 v1 K n p7.2 (x2 ||| ((1 : Int32) <<< (x3 &&& 31))) (x3 + 1)
          else
            f_Mo_wholes_L4 v1 K n p7.2 (x2 ||| (0 : Int32)) (x3 + 1)))
        else
          ((f_Mo_net hp x3).bind fun p10 => ((f_Mo_thereBy p10.2 ((hp 100 (((1 : Int32) + x3)).toNatClampNeg) + p10.1)).bind fun p12 => ((f_Mo_whole p12.2).bind fun p14 => if p12.1 = p14.1 then
            f_Mo_wholes_L4 v1 K n p14.2 (x2 ||| ((1 : Int32) <<< (x3 &&& 31))) (x3 + 1)
          else
            f_Mo_wholes_L4 v1 K n p14.2 (x2 ||| (0 : Int32)) (x3 + 1)))) else none)
def f_Mo_wholes (hp : HP) (a1 : Int32) : Option (Int32 × HP) :=
  f_Mo_wholes_L4 a1 (fun hp17 w16 =>
    some (w16, hp17)) FU hp (0 : Int32) (0 : Int32)
def f_Mo_cleared_L4 (K : HP → Int32 → Option (Int32 × HP)) : Nat → HP → Int32 → Int32 → Option (Int32 × HP)
  | 0, _, _, _ => none
  | n + 1, hp, x1, x2 =>
      if (hp 99 5) ≤ x2 then
        K hp x1
      else
        ((f_Mo_net hp x2).bind fun p3 => if 0 ≤ p3.1 then
          f_Mo_cleared_L4 K n p3.2 (x1 + (0 : Int32)) (x2 + 1)
        else
          f_Mo_cleared_L4 K n p3.2 (x1 + (1 : Int32)) (x2 + 1))
def f_Mo_cleared (hp : HP) : Option (Int32 × HP) :=
  f_Mo_cleared_L4 (fun hp6 w5 =>
    some (w5, hp6)) FU hp (0 : Int32) (0 : Int32)
def f_Mo_told (hp : HP) (a1 : Int32) : Option (Int32 × HP) :=
  if a1 = 0 then
    some ((hp 99 3), hp)
  else if a1 = 1 then
    some ((hp 99 5), hp)
  else if a1 = 2 then
    some ((hp 99 8), hp)
  else if a1 = 3 then
    some ((hp 99 11), hp)
  else if a1 = 4 then
    some ((hp 100 0), hp)
  else if a1 = 5 then
    ((f_Mo_hats hp).bind fun p8 => some (p8.1, p8.2))
  else if a1 = 6 then
    ((f_Mo_wholes hp (0 : Int32)).bind fun p11 => some (p11.1, p11.2))
  else if a1 = 7 then
    ((f_Mo_cleared hp).bind fun p14 => some (p14.1, p14.2))
  else if a1 = 8 then
    ((f_Mo_wholes hp (1 : Int32)).bind fun p17 => some (p17.1, p17.2))
  else if a1 = 9 then
    some ((hp 99 23), hp)
  else if a1 = 10 then
    some ((hp 99 25), hp)
  else if a1 = 11 then
    some ((hp 99 29), hp)
  else if a1 = 12 then
    some ((hp 99 32), hp)
  else if a1 = 13 then
    some ((hp 99 2), hp)
  else 
  some ((-1000000002 : Int32), hp)
def f_Mo_part (hp : HP) (a1 : Int32) : Option (Int32 × HP) :=
  ((f_Mo_isPart hp a1).bind fun p2 => if p2.1 = 0 then
    some ((-1000000001 : Int32), p2.2)
  else
    (if inb a1 8 then some ((p2.2 102 (a1).toNatClampNeg), p2.2) else none))
def f_Mo_customer (hp : HP) (a1 : Int32) (a2 : Int32) : Option (Int32 × HP) :=
  ((f_Mo_isCustomer hp a1).bind fun p2 => if p2.1 = 0 then
    some ((-1000000001 : Int32), p2.2)
  else
    if a2 = 0 then
      (if inb ((1 : Int32) + a1) 736 then some (((p2.2 100 (((1 : Int32) + a1)).toNatClampNeg) + (10000 : Int32)), p2.2) else none)
    else if a2 = 1 then
      ((f_Mo_thereOf p2.2 a1).bind fun p8 => some (p8.1, p8.2))
    else if a2 = 2 then
      (if inb a1 5 then some ((p2.2 103 (a1).toNatClampNeg), p2.2) else none)
    else if a2 = 3 then
      (if inb a1 5 then some ((p2.2 104 (a1).toNatClampNeg), p2.2) else none)
    else if a2 = 4 then
      ((f_Mo_net p2.2 a1).bind fun p15 => some ((p15.1 + (100000 : Int32)), p15.2))
    else 
    some ((-1000000002 : Int32), p2.2))
def f_Mo_owes (hp : HP) (a1 : Int32) (a2 : Int32) : Option (Int32 × HP) :=
  ((f_Mo_areTwo hp a1 a2).bind fun p2 => if p2.1 = 0 then
    some ((-1000000001 : Int32), p2.2)
  else
    (if inb (((6 : Int32) + ((5 : Int32) * a1)) + a2) 736 then some (((p2.2 100 ((((6 : Int32) + ((5 : Int32) * a1)) + a2)).toNatClampNeg) + (100000 : Int32)), p2.2) else none))
def f_Mo_canBy (hp : HP) (a1 : Int32) (a2 : Int32) : Option (Int32 × HP) :=
  (if inb a2 6 then ((f_Mo_thereBy hp a1).bind fun p3 => if ((hp 105 (a2).toNatClampNeg) &&& (p3.1 ^^^ (-1 : Int32))) = 0 then
    some ((1 : Int32), p3.2)
  else
    some ((0 : Int32), p3.2)) else none)
def f_Mo_can (hp : HP) (a1 : Int32) (a2 : Int32) : Option (Int32 × HP) :=
  ((f_Mo_isCustomer hp a1).bind fun p2 => if p2.1 = 0 then
    some ((-1000000001 : Int32), p2.2)
  else
    ((f_Mo_isTask p2.2 a2).bind fun p5 => if p5.1 = 0 then
      some ((-1000000001 : Int32), p5.2)
    else
      (if inb ((1 : Int32) + a1) 736 then ((f_Mo_canBy p5.2 (p5.2 100 (((1 : Int32) + a1)).toNatClampNeg) a2).bind fun p9 => if p9.1 = 0 then
        some ((0 : Int32), p9.2)
      else
        some ((1 : Int32), p9.2)) else none)))
def f_Mo_minds_L11 (K : HP → Option (Int32 × HP)) : Nat → HP → Int32 → Option (Int32 × HP)
  | 0, _, _ => none
  | n + 1, hp, x1 =>
      if (608 : Int32) ≤ x1 then
        K hp
      else
        (if inb (((96 : Int32) + x1) + (32 : Int32)) 736 then (if inb ((96 : Int32) + x1) 736 then f_Mo_minds_L11 K n (up hp 100 (((96 : Int32) + x1)).toNatClampNeg (hp 100 ((((96 : Int32) + x1) + (32 : Int32))).toNatClampNeg)) (x1 + 1) else none) else none)
def f_Mo_minds (hp : HP) : Option (Int32 × HP) :=
  if (hp 99 2) = (20 : Int32) then
    f_Mo_minds_L11 (fun hp5 =>
      ((f_Mo_copy (up hp5 99 2 ((hp5 99 2) - (1 : Int32))) (0 : Int32) ((96 : Int32) + ((32 : Int32) * ((up hp5 99 2 ((hp5 99 2) - (1 : Int32))) 99 2)))).bind fun p7 => some (0, (up p7.2 99 2 ((p7.2 99 2) + (1 : Int32)))))) FU hp (0 : Int32)
  else
    ((f_Mo_copy hp (0 : Int32) ((96 : Int32) + ((32 : Int32) * (hp 99 2)))).bind fun p9 => some (0, (up p9.2 99 2 ((p9.2 99 2) + (1 : Int32)))))
def f_Mo_undo (hp : HP) : Option (Int32 × HP) :=
  if (hp 99 2) = 0 then
    some ((-1000000003 : Int32), hp)
  else
    ((f_Mo_copy (up hp 99 2 ((hp 99 2) - (1 : Int32))) ((96 : Int32) + ((32 : Int32) * ((up hp 99 2 ((hp 99 2) - (1 : Int32))) 99 2))) (0 : Int32)).bind fun p3 => some (((up p3.2 100 31 (hp 100 31)) 99 2), (up p3.2 100 31 (hp 100 31))))
def f_Mo_behindMonth (hp : HP) (a1 : Int32) (a2 : Int32) : Option (Int32 × HP) :=
  (if inb a1 5 then ((f_Mo_bounded hp (a2 + (hp 103 (a1).toNatClampNeg))).bind fun p3 => ((f_Mo_bounded p3.2 (p3.1 - (p3.2 104 (a1).toNatClampNeg))).bind fun p5 => some (p5.1, p5.2))) else none)
def f_Mo_month_L53 (v1 : Int32) (v2 : Int32) (K : HP → Option (Int32 × HP)) : Nat → HP → Int32 → Option (Int32 × HP)
  | 0, _, _ => none
  | n + 1, hp, x3 =>
      if (hp 99 5) ≤ x3 then
        K hp
      else
        (if inb ((1 : Int32) + x3) 736 then ((f_Mo_behindMonth hp x3 (hp 100 (((1 : Int32) + x3)).toNatClampNeg)).bind fun p12 => f_Mo_month_L53 v1 v2 K n (up p12.2 100 (((1 : Int32) + x3)).toNatClampNeg p12.1) (x3 + 1)) else none)
def f_Mo_month_L46 (v1 : Int32) (K : HP → Option (Int32 × HP)) : Nat → HP → Int32 → Option (Int32 × HP)
  | 0, _, _ => none
  | n + 1, hp, x2 =>
      if v1 ≤ x2 then
        K hp
      else
        f_Mo_month_L53 v1 x2 (fun hp13 =>
          f_Mo_month_L46 v1 K n (up hp13 100 0 ((hp13 100 0) + (1 : Int32))) (x2 + 1)) FU hp (0 : Int32)
def f_Mo_month (hp : HP) (a1 : Int32) : Option (Int32 × HP) :=
  ((f_Mo_in hp (a1).toInt64 (1 : Int64) (60 : Int64)).bind fun p2 => if p2.1 = 0 then
    some ((-1000000002 : Int32), p2.2)
  else
    if (p2.2 99 3) = 0 then
      some ((-1000000003 : Int32), p2.2)
    else
      if (p2.2 100 0) ≤ (9000 : Int32) then
        ((f_Mo_minds p2.2).bind fun p7 => f_Mo_month_L46 a1 (fun hp14 =>
          some ((hp14 100 0), hp14)) FU p7.2 (0 : Int32))
      else
        some ((-1000000004 : Int32), p2.2))
def f_Mo_changes (hp : HP) (a1 : Int32) (a2 : Int32) : Option (Int32 × HP) :=
  (if inb ((1 : Int32) + a1) 736 then ((f_Mo_bounded hp ((hp 100 (((1 : Int32) + a1)).toNatClampNeg) + a2)).bind fun p3 => some (0, (up p3.2 100 (((1 : Int32) + a1)).toNatClampNeg p3.1))) else none)
def f_Mo_spend (hp : HP) (a1 : Int32) (a2 : Int32) : Option (Int32 × HP) :=
  ((f_Mo_isCustomer hp a1).bind fun p2 => if p2.1 = 0 then
    some ((-1000000001 : Int32), p2.2)
  else
    ((f_Mo_in p2.2 (a2).toInt64 (1 : Int64) (999 : Int64)).bind fun p5 => if p5.1 = 0 then
      some ((-1000000002 : Int32), p5.2)
    else
      ((f_Mo_minds p5.2).bind fun p8 => ((f_Mo_changes p8.2 a1 (-a2)).bind fun p10 => ((f_Mo_thereOf p10.2 a1).bind fun p12 => some (p12.1, p12.2))))))
def f_Mo_owesMore (hp : HP) (a1 : Int32) (a2 : Int32) (a3 : Int32) : Option (Int32 × HP) :=
  (if inb (((6 : Int32) + ((5 : Int32) * a1)) + a2) 736 then (if inb (((6 : Int32) + ((5 : Int32) * a2)) + a1) 736 then some (0, (up (up hp 100 ((((6 : Int32) + ((5 : Int32) * a1)) + a2)).toNatClampNeg ((hp 100 ((((6 : Int32) + ((5 : Int32) * a1)) + a2)).toNatClampNeg) + a3)) 100 ((((6 : Int32) + ((5 : Int32) * a2)) + a1)).toNatClampNeg (((up hp 100 ((((6 : Int32) + ((5 : Int32) * a1)) + a2)).toNatClampNeg ((hp 100 ((((6 : Int32) + ((5 : Int32) * a1)) + a2)).toNatClampNeg) + a3)) 100 ((((6 : Int32) + ((5 : Int32) * a2)) + a1)).toNatClampNeg) - a3))) else none) else none)
def f_Mo_lend (hp : HP) (a1 : Int32) (a2 : Int32) (a3 : Int32) : Option (Int32 × HP) :=
  ((f_Mo_areTwo hp a1 a2).bind fun p2 => if p2.1 = 0 then
    some ((-1000000001 : Int32), p2.2)
  else
    ((f_Mo_in p2.2 (a3).toInt64 (1 : Int64) (999 : Int64)).bind fun p5 => if p5.1 = 0 then
      some ((-1000000002 : Int32), p5.2)
    else
      (if inb (((6 : Int32) + ((5 : Int32) * a2)) + a1) 736 then if ((p5.2 100 ((((6 : Int32) + ((5 : Int32) * a2)) + a1)).toNatClampNeg) + a3) ≤ (9999 : Int32) then
        ((f_Mo_minds p5.2).bind fun p10 => ((f_Mo_changes p10.2 a1 (-a3)).bind fun p12 => ((f_Mo_changes p12.2 a2 a3).bind fun p14 => ((f_Mo_owesMore p14.2 a2 a1 a3).bind fun p16 => ((f_Mo_thereOf p16.2 a2).bind fun p18 => some (p18.1, p18.2))))))
      else
        some ((-1000000004 : Int32), p5.2) else none)))
def f_Mo_payBack (hp : HP) (a1 : Int32) (a2 : Int32) (a3 : Int32) : Option (Int32 × HP) :=
  ((f_Mo_areTwo hp a1 a2).bind fun p2 => if p2.1 = 0 then
    some ((-1000000001 : Int32), p2.2)
  else
    ((f_Mo_in p2.2 (a3).toInt64 (1 : Int64) (999 : Int64)).bind fun p5 => if p5.1 = 0 then
      some ((-1000000002 : Int32), p5.2)
    else
      (if inb (((6 : Int32) + ((5 : Int32) * a1)) + a2) 736 then if a3 ≤ (p5.2 100 ((((6 : Int32) + ((5 : Int32) * a1)) + a2)).toNatClampNeg) then
        ((f_Mo_minds p5.2).bind fun p10 => ((f_Mo_changes p10.2 a1 (-a3)).bind fun p12 => ((f_Mo_changes p12.2 a2 a3).bind fun p14 => ((f_Mo_owesMore p14.2 a1 a2 (-a3)).bind fun p16 => some ((p16.2 100 ((((6 : Int32) + ((5 : Int32) * a1)) + a2)).toNatClampNeg), p16.2)))))
      else
        some ((-1000000003 : Int32), p5.2) else none)))
def f_Mo_draw (hp : HP) (a1 : Int32) : Option (Int32 × HP) :=
  (if a1 = 0 then none else some (((((up hp 100 31 ((((((hp 100 31)).toInt64 * (1103515245 : Int64)) + (12345 : Int64)) - ((((hp 100 31)).toInt64 * (1103515245 : Int64)) + (12345 : Int64)) / (2147483648 : Int64) * (2147483648 : Int64))).toInt32) 100 31) / (65536 : Int32)) - (((up hp 100 31 ((((((hp 100 31)).toInt64 * (1103515245 : Int64)) + (12345 : Int64)) - ((((hp 100 31)).toInt64 * (1103515245 : Int64)) + (12345 : Int64)) / (2147483648 : Int64) * (2147483648 : Int64))).toInt32) 100 31) / (65536 : Int32)) / a1 * a1), (up hp 100 31 ((((((hp 100 31)).toInt64 * (1103515245 : Int64)) + (12345 : Int64)) - ((((hp 100 31)).toInt64 * (1103515245 : Int64)) + (12345 : Int64)) / (2147483648 : Int64) * (2147483648 : Int64))).toInt32)))
def f_Mo_drift_L31 (v1 : Int32) (K : HP → Option (Int32 × HP)) : Nat → HP → Int32 → Option (Int32 × HP)
  | 0, _, _ => none
  | n + 1, hp, x2 =>
      if v1 ≤ x2 then
        K hp
      else
        if (hp 99 5) ≤ 0 then
          K hp
        else
          ((f_Mo_draw hp (hp 99 5)).bind fun p10 => ((f_Mo_draw p10.2 (100 : Int32)).bind fun p12 => ((f_Mo_draw p12.2 (2 : Int32)).bind fun p14 => if p14.1 = 0 then
            ((f_Mo_changes p14.2 p10.1 (-p12.1)).bind fun p17 => f_Mo_drift_L31 v1 K n p17.2 (x2 + 1))
          else
            ((f_Mo_changes p14.2 p10.1 p12.1).bind fun p19 => f_Mo_drift_L31 v1 K n p19.2 (x2 + 1)))))
def f_Mo_drift (hp : HP) (a1 : Int32) : Option (Int32 × HP) :=
  ((f_Mo_in hp (a1).toInt64 (1 : Int64) (60 : Int64)).bind fun p2 => if p2.1 = 0 then
    some ((-1000000002 : Int32), p2.2)
  else
    if (p2.2 99 3) = 0 then
      some ((-1000000003 : Int32), p2.2)
    else
      ((f_Mo_minds p2.2).bind fun p6 => f_Mo_drift_L31 a1 (fun hp20 =>
        ((f_Mo_hats hp20).bind fun p22 => some (p22.1, p22.2))) FU p6.2 (0 : Int32)))
def f_Mo_hat_L22 (v1 : Int32) (K : HP → Option (Int32 × HP)) : Nat → HP → Int32 → Int32 → Option (Int32 × HP)
  | 0, _, _, _ => none
  | n + 1, hp, x2, x3 =>
      if (200 : Int32) < x3 then
        K hp
      else
        ((f_Mo_thereBy hp x2).bind fun p7 => if p7.1 = 0 then
          some (x3, p7.2)
        else
          ((f_Mo_behindMonth p7.2 v1 x2).bind fun p10 => f_Mo_hat_L22 v1 K n p10.2 p10.1 (x3 + 1)))
def f_Mo_hat (hp : HP) (a1 : Int32) : Option (Int32 × HP) :=
  ((f_Mo_isCustomer hp a1).bind fun p2 => if p2.1 = 0 then
    some ((-1000000001 : Int32), p2.2)
  else
    (if inb ((1 : Int32) + a1) 736 then f_Mo_hat_L22 a1 (fun hp11 =>
      some ((-1 : Int32), hp11)) FU p2.2 (p2.2 100 (((1 : Int32) + a1)).toNatClampNeg) (0 : Int32) else none))
def f_Mo_able_L50 (v1 : Int32) (v2 : Int32) (v3 : Int32) (K : HP → Int32 → Option (Int32 × HP)) : Nat → HP → Int32 → Int32 → Int32 → Option (Int32 × HP)
  | 0, _, _, _, _ => none
  | n + 1, hp, x4, x5, x6 =>
      if v3 ≤ x6 then
        K hp x5
      else
        ((f_Mo_canBy hp x4 v2).bind fun p13 => if p13.1 = 0 then
          ((f_Mo_behindMonth p13.2 v1 x4).bind fun p16 => f_Mo_able_L50 v1 v2 v3 K n p16.2 p16.1 (x5 + (0 : Int32)) (x6 + 1))
        else
          ((f_Mo_behindMonth p13.2 v1 x4).bind fun p18 => f_Mo_able_L50 v1 v2 v3 K n p18.2 p18.1 (x5 + (1 : Int32)) (x6 + 1)))
def f_Mo_able (hp : HP) (a1 : Int32) (a2 : Int32) (a3 : Int32) : Option (Int32 × HP) :=
  ((f_Mo_isCustomer hp a1).bind fun p2 => if p2.1 = 0 then
    some ((-1000000001 : Int32), p2.2)
  else
    ((f_Mo_isTask p2.2 a2).bind fun p5 => if p5.1 = 0 then
      some ((-1000000001 : Int32), p5.2)
    else
      ((f_Mo_in p5.2 (a3).toInt64 (1 : Int64) (60 : Int64)).bind fun p8 => if p8.1 = 0 then
        some ((-1000000002 : Int32), p8.2)
      else
        (if inb ((1 : Int32) + a1) 736 then f_Mo_able_L50 a1 a2 a3 (fun hp20 w19 =>
          some (w19, hp20)) FU p8.2 (p8.2 100 (((1 : Int32) + a1)).toNatClampNeg) (0 : Int32) (0 : Int32) else none))))
def f_Mo_spending (hp : HP) (a1 : Int32) : Option (Int32 × HP) :=
  ((f_Mo_in hp (a1).toInt64 (1 : Int64) (999 : Int64)).bind fun p2 => if p2.1 = 0 then
    some ((-1000000002 : Int32), p2.2)
  else
    if (p2.2 99 23) = (5 : Int32) then
      some ((-1000000004 : Int32), p2.2)
    else
      (if inb (p2.2 99 23) 5 then some (((up (up p2.2 110 ((p2.2 99 23)).toNatClampNeg a1) 99 23 (((up p2.2 110 ((p2.2 99 23)).toNatClampNeg a1) 99 23) + (1 : Int32))) 99 23), (up (up p2.2 110 ((p2.2 99 23)).toNatClampNeg a1) 99 23 (((up p2.2 110 ((p2.2 99 23)).toNatClampNeg a1) 99 23) + (1 : Int32)))) else none))
def f_Mo_must (hp : HP) (a1 : Int32) (a2 : Int32) : Option (Int32 × HP) :=
  ((f_Mo_isTask hp a1).bind fun p2 => if p2.1 = 0 then
    some ((-1000000001 : Int32), p2.2)
  else
    ((f_Mo_in p2.2 (a2).toInt64 (0 : Int64) (3 : Int64)).bind fun p5 => if p5.1 = 0 then
      some ((-1000000002 : Int32), p5.2)
    else
      if (p5.2 99 25) = (4 : Int32) then
        some ((-1000000004 : Int32), p5.2)
      else
        (if inb (p5.2 99 25) 4 then (if inb ((up p5.2 111 ((p5.2 99 25)).toNatClampNeg a1) 99 25) 4 then some (((up (up (up p5.2 111 ((p5.2 99 25)).toNatClampNeg a1) 112 (((up p5.2 111 ((p5.2 99 25)).toNatClampNeg a1) 99 25)).toNatClampNeg a2) 99 25 (((up (up p5.2 111 ((p5.2 99 25)).toNatClampNeg a1) 112 (((up p5.2 111 ((p5.2 99 25)).toNatClampNeg a1) 99 25)).toNatClampNeg a2) 99 25) + (1 : Int32))) 99 25), (up (up (up p5.2 111 ((p5.2 99 25)).toNatClampNeg a1) 112 (((up p5.2 111 ((p5.2 99 25)).toNatClampNeg a1) 99 25)).toNatClampNeg a2) 99 25 (((up (up p5.2 111 ((p5.2 99 25)).toNatClampNeg a1) 112 (((up p5.2 111 ((p5.2 99 25)).toNatClampNeg a1) 99 25)).toNatClampNeg a2) 99 25) + (1 : Int32)))) else none) else none)))
def f_Mo_isPlan_L21 (v1 : Int32) (v2 : Int32) (v4 : Int32) (K : HP → Int32 → Option (Int32 × HP)) : Nat → HP → Int32 → Int32 → Option (Int32 × HP)
  | 0, _, _, _ => none
  | n + 1, hp, x3, x5 =>
      if (hp 99 23) ≤ x5 then
        K hp x3
      else
        (if inb x5 5 then if (hp 113 (x5).toNatClampNeg) = v4 then
          ((f_Mo_bounded hp (x3 - (hp 110 (x5).toNatClampNeg))).bind fun p7 => f_Mo_isPlan_L21 v1 v2 v4 K n p7.2 p7.1 (x5 + 1))
        else
          f_Mo_isPlan_L21 v1 v2 v4 K n hp x3 (x5 + 1) else none)
def f_Mo_isPlan_L68 (v1 : Int32) (v2 : Int32) (v3 : Int32) (v4 : Int32) (K : HP → Option (Int32 × HP)) : Nat → HP → Int32 → Option (Int32 × HP)
  | 0, _, _ => none
  | n + 1, hp, x5 =>
      if (hp 99 25) ≤ x5 then
        K hp
      else
        (if inb x5 4 then if (hp 112 (x5).toNatClampNeg) = v4 then
          ((f_Mo_canBy hp v3 (hp 111 (x5).toNatClampNeg)).bind fun p14 => if p14.1 = 0 then
            some ((0 : Int32), p14.2)
          else
            f_Mo_isPlan_L68 v1 v2 v3 v4 K n p14.2 (x5 + 1))
        else
          f_Mo_isPlan_L68 v1 v2 v3 v4 K n hp (x5 + 1) else none)
def f_Mo_isPlan_L12 (v1 : Int32) (v2 : Int32) (K : HP → Option (Int32 × HP)) : Nat → HP → Int32 → Int32 → Option (Int32 × HP)
  | 0, _, _, _ => none
  | n + 1, hp, x3, x4 =>
      if v2 ≤ x4 then
        K hp
      else
        f_Mo_isPlan_L21 v1 v2 x4 (fun hp9 w8 =>
          f_Mo_isPlan_L68 v1 v2 w8 x4 (fun hp16 =>
            ((f_Mo_behindMonth hp16 v1 w8).bind fun p18 => f_Mo_isPlan_L12 v1 v2 K n p18.2 p18.1 (x4 + 1))) FU hp9 (0 : Int32)) FU hp x3 (0 : Int32)
def f_Mo_isPlan (hp : HP) (a1 : Int32) (a2 : Int32) : Option (Int32 × HP) :=
  (if inb ((1 : Int32) + a1) 736 then f_Mo_isPlan_L12 a1 a2 (fun hp19 =>
    some ((1 : Int32), hp19)) FU hp (hp 100 (((1 : Int32) + a1)).toNatClampNeg) (0 : Int32) else none)
def f_Mo_plan_L17 (v1 : Int32) (v2 : Int32) (v3 : Int32) (K : HP → Int32 → Option (Int32 × HP)) : Nat → HP → Int32 → Int32 → Option (Int32 × HP)
  | 0, _, _, _ => none
  | n + 1, hp, x4, x5 =>
      if (hp 99 25) ≤ x5 then
        K hp x4
      else
        if x4 = 0 then
          (if inb x5 4 then if (hp 112 (x5).toNatClampNeg) < v2 then
            f_Mo_plan_L17 v1 v2 v3 K n hp (0 : Int32) (x5 + 1)
          else
            f_Mo_plan_L17 v1 v2 v3 K n hp (1 : Int32) (x5 + 1) else none)
        else
          f_Mo_plan_L17 v1 v2 v3 K n hp (1 : Int32) (x5 + 1)
def f_Mo_plan_L81 (v1 : Int32) (v2 : Int32) (v3 : Int32) (K : HP → Int32 → Option (Int32 × HP)) : Nat → HP → Int32 → Int32 → Option (Int32 × HP)
  | 0, _, _, _ => none
  | n + 1, hp, x5, x6 =>
      if (hp 99 23) ≤ x6 then
        K hp x5
      else
        f_Mo_plan_L81 v1 v2 v3 K n hp (x5 * v2) (x6 + 1)
def f_Mo_plan_L124 (v1 : Int32) (v2 : Int32) (v3 : Int32) (v5 : Int32) (v6 : Int32) (K : HP → Option (Int32 × HP)) : Nat → HP → Int32 → Int32 → Option (Int32 × HP)
  | 0, _, _, _ => none
  | n + 1, hp, x7, x8 =>
      if x8 < 0 then
        K hp
      else
        (if v2 = 0 then none else (if inb x8 5 then f_Mo_plan_L124 v1 v2 v3 v5 v6 K n (up hp 113 (x8).toNatClampNeg (x7 - x7 / v2 * v2)) (x7 / v2) (x8 + (-1)) else none))
def f_Mo_plan_L105 (v1 : Int32) (v2 : Int32) (v3 : Int32) (v5 : Int32) (K : HP → Option (Int32 × HP)) : Nat → HP → Int32 → Option (Int32 × HP)
  | 0, _, _ => none
  | n + 1, hp, x6 =>
      if v5 ≤ x6 then
        K hp
      else
        f_Mo_plan_L124 v1 v2 v3 v5 x6 (fun hp21 =>
          ((f_Mo_isPlan hp21 v1 v2).bind fun p23 => if p23.1 = 0 then
            f_Mo_plan_L105 v1 v2 v3 v5 K n p23.2 (x6 + 1)
          else
            if v3 = (-1 : Int32) then
              some ((1 : Int32), p23.2)
            else
              ((f_Mo_in p23.2 (v3).toInt64 (0 : Int64) (((p23.2 99 23) - (1 : Int32))).toInt64).bind fun p27 => if p27.1 = 0 then
                some ((-1 : Int32), p27.2)
              else
                (if inb v3 5 then some ((p27.2 113 (v3).toNatClampNeg), p27.2) else none)))) FU hp x6 ((hp 99 23) - (1 : Int32))
def f_Mo_plan (hp : HP) (a1 : Int32) (a2 : Int32) (a3 : Int32) : Option (Int32 × HP) :=
  ((f_Mo_isCustomer hp a1).bind fun p2 => if p2.1 = 0 then
    some ((-1000000001 : Int32), p2.2)
  else
    f_Mo_plan_L17 a1 a2 a3 (fun hp9 w8 =>
      ((f_Mo_in hp9 (a2).toInt64 (1 : Int64) (4 : Int64)).bind fun p11 => if p11.1 = 0 then
        some ((-1000000002 : Int32), p11.2)
      else
        if w8 = 0 then
          f_Mo_plan_L81 a1 a2 a3 (fun hp16 w15 =>
            f_Mo_plan_L105 a1 a2 a3 w15 (fun hp30 =>
              if a3 = (-1 : Int32) then
                some ((0 : Int32), hp30)
              else
                some ((-1 : Int32), hp30)) FU hp16 (0 : Int32)) FU p11.2 (1 : Int32) (0 : Int32)
        else
          some ((-1000000002 : Int32), p11.2))) FU p2.2 (0 : Int32) (0 : Int32))
def f_Mo_asOne_L31 (v1 : Int32) (v2 : Int32) (v4 : Int32) (K : HP → Int32 → Option (Int32 × HP)) : Nat → HP → Int32 → Int32 → Option (Int32 × HP)
  | 0, _, _, _ => none
  | n + 1, hp, x3, x5 =>
      if (hp 99 5) ≤ x5 then
        K hp x3
      else
        (if inb ((1 : Int32) + v4) 736 then ((f_Mo_canBy hp (hp 100 (((1 : Int32) + v4)).toNatClampNeg) v1).bind fun p8 => if p8.1 = 0 then
          (if inb ((1 : Int32) + x5) 736 then ((f_Mo_canBy p8.2 (p8.2 100 (((1 : Int32) + x5)).toNatClampNeg) v1).bind fun p12 => if p12.1 = 0 then
            ((f_Mo_canBy p12.2 ((p12.2 100 (((1 : Int32) + v4)).toNatClampNeg) + (p12.2 100 (((1 : Int32) + x5)).toNatClampNeg)) v1).bind fun p16 => if p16.1 = 0 then
              f_Mo_asOne_L31 v1 v2 v4 K n p16.2 x3 (x5 + 1)
            else
              if x3 = v2 then
                some ((((10 : Int32) * v4) + x5), p16.2)
              else
                f_Mo_asOne_L31 v1 v2 v4 K n p16.2 (x3 + 1) (x5 + 1))
          else
            f_Mo_asOne_L31 v1 v2 v4 K n p12.2 x3 (x5 + 1)) else none)
        else
          f_Mo_asOne_L31 v1 v2 v4 K n p8.2 x3 (x5 + 1)) else none)
def f_Mo_asOne_L16 (v1 : Int32) (v2 : Int32) (K : HP → Int32 → Option (Int32 × HP)) : Nat → HP → Int32 → Int32 → Option (Int32 × HP)
  | 0, _, _, _ => none
  | n + 1, hp, x3, x4 =>
      if (hp 99 5) ≤ x4 then
        K hp x3
      else
        f_Mo_asOne_L31 v1 v2 x4 (fun hp22 w21 =>
          f_Mo_asOne_L16 v1 v2 K n hp22 w21 (x4 + 1)) FU hp x3 (x4 + (1 : Int32))
def f_Mo_asOne (hp : HP) (a1 : Int32) (a2 : Int32) : Option (Int32 × HP) :=
  ((f_Mo_isTask hp a1).bind fun p2 => if p2.1 = 0 then
    some ((-1000000001 : Int32), p2.2)
  else
    f_Mo_asOne_L16 a1 a2 (fun hp24 w23 =>
      if a2 = (-1 : Int32) then
        some (w23, hp24)
      else
        some ((-1 : Int32), hp24)) FU p2.2 (0 : Int32) (0 : Int32))
def f_Mo_loan_L39 (v1 : Int32) (v2 : Int32) (v3 : Int32) (K : HP → Int32 → Option (Int32 × HP)) : Nat → HP → Int32 → Int32 → Option (Int32 × HP)
  | 0, _, _, _ => none
  | n + 1, hp, x4, x5 =>
      if (hp 99 3) ≤ x5 then
        K hp x4
      else
        (if inb v2 6 then ((f_Mo_isIn hp (hp 105 (v2).toNatClampNeg) x5).bind fun p13 => if p13.1 = 0 then
          f_Mo_loan_L39 v1 v2 v3 K n p13.2 x4 (x5 + 1)
        else
          (if inb x5 8 then if ((p13.2 102 (x5).toNatClampNeg) - (500 : Int32)) ≤ x4 then
            f_Mo_loan_L39 v1 v2 v3 K n p13.2 x4 (x5 + 1)
          else
            f_Mo_loan_L39 v1 v2 v3 K n p13.2 ((p13.2 102 (x5).toNatClampNeg) - (500 : Int32)) (x5 + 1) else none)) else none)
def f_Mo_loan (hp : HP) (a1 : Int32) (a2 : Int32) (a3 : Int32) : Option (Int32 × HP) :=
  ((f_Mo_isCustomer hp a1).bind fun p2 => if p2.1 = 0 then
    some ((-1000000001 : Int32), p2.2)
  else
    ((f_Mo_isTask p2.2 a2).bind fun p5 => if p5.1 = 0 then
      some ((-1000000001 : Int32), p5.2)
    else
      ((f_Mo_in p5.2 (a3).toInt64 (0 : Int64) (1 : Int64)).bind fun p8 => if p8.1 = 0 then
        some ((-1000000002 : Int32), p8.2)
      else
        f_Mo_loan_L39 a1 a2 a3 (fun hp18 w17 =>
          (if inb ((1 : Int32) + a1) 736 then if a3 = 0 then
            if ((hp18 100 (((1 : Int32) + a1)).toNatClampNeg) - w17) < 0 then
              if (-((hp18 100 (((1 : Int32) + a1)).toNatClampNeg) - w17)) ≤ (9999 : Int32) then
                some ((-((hp18 100 (((1 : Int32) + a1)).toNatClampNeg) - w17)), hp18)
              else
                some ((-1 : Int32), hp18)
            else
              some ((0 : Int32), hp18)
          else
            if 0 ≤ ((hp18 100 (((1 : Int32) + a1)).toNatClampNeg) - w17) then
              if ((hp18 100 (((1 : Int32) + a1)).toNatClampNeg) - w17) ≤ (9999 : Int32) then
                some (((hp18 100 (((1 : Int32) + a1)).toNatClampNeg) - w17), hp18)
              else
                some ((9999 : Int32), hp18)
            else
              some ((-1 : Int32), hp18) else none)) FU p8.2 (-1000000 : Int32) (0 : Int32))))
def f_Mo_order_L27 (v1 : Int32) (v2 : Int32) (v4 : Int32) (K : HP → Int32 → Option (Int32 × HP)) : Nat → HP → Int32 → Int32 → Option (Int32 × HP)
  | 0, _, _, _ => none
  | n + 1, hp, x3, x5 =>
      if (hp 99 3) ≤ x5 then
        K hp x3
      else
        ((f_Mo_isIn hp v2 x5).bind fun p5 => if p5.1 = 0 then
          if x3 = (-1 : Int32) then
            f_Mo_order_L27 v1 v2 v4 K n p5.2 x5 (x5 + 1)
          else
            (if inb x5 8 then (if inb x3 8 then if (p5.2 102 (x5).toNatClampNeg) ≤ (p5.2 102 (x3).toNatClampNeg) then
              f_Mo_order_L27 v1 v2 v4 K n p5.2 x3 (x5 + 1)
            else
              f_Mo_order_L27 v1 v2 v4 K n p5.2 x5 (x5 + 1) else none) else none)
        else
          f_Mo_order_L27 v1 v2 v4 K n p5.2 x3 (x5 + 1))
def f_Mo_order_L7 (v1 : Int32) (K : HP → Int32 → Option (Int32 × HP)) : Nat → HP → Int32 → Int32 → Int32 → Option (Int32 × HP)
  | 0, _, _, _, _ => none
  | n + 1, hp, x2, x3, x4 =>
      if v1 < x4 then
        K hp x3
      else
        if (hp 99 3) ≤ x4 then
          K hp x3
        else
          f_Mo_order_L27 v1 x2 x4 (fun hp12 w11 =>
            f_Mo_order_L7 v1 K n hp12 (x2 ||| ((1 : Int32) <<< (w11 &&& 31))) w11 (x4 + 1)) FU hp (-1 : Int32) (0 : Int32)
def f_Mo_order (hp : HP) (a1 : Int32) : Option (Int32 × HP) :=
  f_Mo_order_L7 a1 (fun hp14 w13 =>
    ((f_Mo_in hp14 (a1).toInt64 (0 : Int64) (((hp14 99 3) - (1 : Int32))).toInt64).bind fun p16 => if p16.1 = 0 then
      some ((-1 : Int32), p16.2)
    else
      some (w13, p16.2))) FU hp (0 : Int32) (-1 : Int32) (0 : Int32)
def f_Mo_wage_L34 (v1 : Int32) (v2 : Int32) (K : HP → Int64 → Option (Int32 × HP)) : Nat → HP → Int64 → Int32 → Option (Int32 × HP)
  | 0, _, _, _ => none
  | n + 1, hp, x3, x5 =>
      if v1 ≤ x5 then
        K hp x3
      else
        f_Mo_wage_L34 v1 v2 K n hp ((x3 * (((100 : Int32) - v2)).toInt64) / (100 : Int64)) (x5 + 1)
def f_Mo_wage (hp : HP) (a1 : Int32) (a2 : Int32) : Option (Int32 × HP) :=
  ((f_Mo_in hp (a1).toInt64 (0 : Int64) (60 : Int64)).bind fun p2 => if p2.1 = 0 then
    some ((-1000000002 : Int32), p2.2)
  else
    ((f_Mo_in p2.2 (a2).toInt64 (0 : Int64) (100 : Int64)).bind fun p5 => if p5.1 = 0 then
      some ((-1000000002 : Int32), p5.2)
    else
      f_Mo_wage_L34 a1 a2 (fun hp9 w8 =>
        some ((w8).toInt32, hp9)) FU p5.2 (1000000000 : Int64) (0 : Int32)))
def f_Mo_see (hp : HP) (a1 : Int32) (a2 : Int32) : Option (Int32 × HP) :=
  ((f_Mo_isPart hp a1).bind fun p2 => if p2.1 = 0 then
    some ((-1000000001 : Int32), p2.2)
  else
    if (p2.2 99 29) = (8 : Int32) then
      some ((-1000000004 : Int32), p2.2)
    else
      (if inb (p2.2 99 29) 8 then (if inb ((up p2.2 114 ((p2.2 99 29)).toNatClampNeg a1) 99 29) 8 then some (((up (up (up p2.2 114 ((p2.2 99 29)).toNatClampNeg a1) 115 (((up p2.2 114 ((p2.2 99 29)).toNatClampNeg a1) 99 29)).toNatClampNeg (bz a2)) 99 29 (((up (up p2.2 114 ((p2.2 99 29)).toNatClampNeg a1) 115 (((up p2.2 114 ((p2.2 99 29)).toNatClampNeg a1) 99 29)).toNatClampNeg (bz a2)) 99 29) + (1 : Int32))) 99 29), (up (up (up p2.2 114 ((p2.2 99 29)).toNatClampNeg a1) 115 (((up p2.2 114 ((p2.2 99 29)).toNatClampNeg a1) 99 29)).toNatClampNeg (bz a2)) 99 29 (((up (up p2.2 114 ((p2.2 99 29)).toNatClampNeg a1) 115 (((up p2.2 114 ((p2.2 99 29)).toNatClampNeg a1) 99 29)).toNatClampNeg (bz a2)) 99 29) + (1 : Int32)))) else none) else none))
def f_Mo_isSeen_L4 (v1 : Int32) (K : HP → Int32 → Option (Int32 × HP)) : Nat → HP → Int32 → Int32 → Option (Int32 × HP)
  | 0, _, _, _ => none
  | n + 1, hp, x2, x3 =>
      if (hp 99 29) ≤ x3 then
        K hp x2
      else
        if x2 = 0 then
          f_Mo_isSeen_L4 v1 K n hp (0 : Int32) (x3 + 1)
        else
          (if inb x3 8 then (if inb (hp 114 (x3).toNatClampNeg) 8 then if v1 < ((hp 102 ((hp 114 (x3).toNatClampNeg)).toNatClampNeg) - (500 : Int32)) then
            if (0 : Int32) = (hp 115 (x3).toNatClampNeg) then
              f_Mo_isSeen_L4 v1 K n hp (1 : Int32) (x3 + 1)
            else
              f_Mo_isSeen_L4 v1 K n hp (0 : Int32) (x3 + 1)
          else
            if (1 : Int32) = (hp 115 (x3).toNatClampNeg) then
              f_Mo_isSeen_L4 v1 K n hp (1 : Int32) (x3 + 1)
            else
              f_Mo_isSeen_L4 v1 K n hp (0 : Int32) (x3 + 1) else none) else none)
def f_Mo_isSeen (hp : HP) (a1 : Int32) : Option (Int32 × HP) :=
  f_Mo_isSeen_L4 a1 (fun hp9 w8 =>
    rz w8 hp9) FU hp (1 : Int32) (0 : Int32)
def f_Mo_has_L27 (v1 : Int32) (K : HP → Int32 → Int32 → Int32 → Option (Int32 × HP)) : Nat → HP → Int32 → Int32 → Int32 → Int32 → Option (Int32 × HP)
  | 0, _, _, _, _, _ => none
  | n + 1, hp, x2, x3, x4, x5 =>
      if (500 : Int32) ≤ x5 then
        K hp x2 x3 x4
      else
        ((f_Mo_isSeen hp x5).bind fun p6 => if p6.1 = 0 then
          f_Mo_has_L27 v1 K n p6.2 x2 x3 x4 (x5 + 1)
        else
          if x2 = 0 then
            f_Mo_has_L27 v1 K n p6.2 (x2 + 1) (x5 + (10000 : Int32)) (x5 + (10000 : Int32)) (x5 + 1)
          else
            f_Mo_has_L27 v1 K n p6.2 (x2 + 1) x3 (x5 + (10000 : Int32)) (x5 + 1))
def f_Mo_has (hp : HP) (a1 : Int32) : Option (Int32 × HP) :=
  ((f_Mo_in hp (a1).toInt64 (0 : Int64) (2 : Int64)).bind fun p2 => if p2.1 = 0 then
    some ((-1000000002 : Int32), p2.2)
  else
    f_Mo_has_L27 a1 (fun hp12 w9 w10 w11 =>
      if a1 = 0 then
        some (w9, hp12)
      else
        if a1 = (1 : Int32) then
          some (w10, hp12)
        else
          some (w11, hp12)) FU p2.2 (0 : Int32) (-1 : Int32) (-1 : Int32) (-500 : Int32))
def f_Mo_look_L30 (v1 : Int32) (v2 : Int32) (v3 : Int32) (v4 : Int32) (K : HP → Int32 → Option (Int32 × HP)) : Nat → HP → Int32 → Int32 → Option (Int32 × HP)
  | 0, _, _, _ => none
  | n + 1, hp, x5, x6 =>
      if (500 : Int32) ≤ x6 then
        K hp x5
      else
        ((f_Mo_isSeen hp x6).bind fun p6 => if p6.1 = 0 then
          f_Mo_look_L30 v1 v2 v3 v4 K n p6.2 (x5 + (0 : Int32)) (x6 + 1)
        else
          (if inb v4 8 then if x6 < ((p6.2 102 (v4).toNatClampNeg) - (500 : Int32)) then
            f_Mo_look_L30 v1 v2 v3 v4 K n p6.2 (x5 + (0 : Int32)) (x6 + 1)
          else
            f_Mo_look_L30 v1 v2 v3 v4 K n p6.2 (x5 + (1 : Int32)) (x6 + 1) else none))
def f_Mo_look_L13 (v1 : Int32) (K : HP → Int32 → Option (Int32 × HP)) : Nat → HP → Int32 → Int32 → Int32 → Option (Int32 × HP)
  | 0, _, _, _, _ => none
  | n + 1, hp, x2, x3, x4 =>
      if (hp 99 3) ≤ x4 then
        K hp x2
      else
        f_Mo_look_L30 v1 x2 x3 x4 (fun hp11 w10 =>
          if w10 ≤ (v1 - w10) then
            if x3 ≤ (v1 - w10) then
              f_Mo_look_L13 v1 K n hp11 x2 x3 (x4 + 1)
            else
              f_Mo_look_L13 v1 K n hp11 x4 (v1 - w10) (x4 + 1)
          else
            if x3 ≤ w10 then
              f_Mo_look_L13 v1 K n hp11 x2 x3 (x4 + 1)
            else
              f_Mo_look_L13 v1 K n hp11 x4 w10 (x4 + 1)) FU hp (0 : Int32) (-500 : Int32)
def f_Mo_look (hp : HP) : Option (Int32 × HP) :=
  ((f_Mo_has hp (0 : Int32)).bind fun p2 => f_Mo_look_L13 p2.1 (fun hp20 w19 =>
    some (w19, hp20)) FU p2.2 (-1 : Int32) p2.1 (0 : Int32))
def f_Mo_write (hp : HP) (a1 : Int32) (a2 : Int32) : Option (Int32 × HP) :=
  ((f_Mo_isCustomer hp a1).bind fun p2 => if p2.1 = 0 then
    some ((-1000000001 : Int32), p2.2)
  else
    ((f_Mo_in p2.2 (a2).toInt64 (0 : Int64) (20000 : Int64)).bind fun p5 => if p5.1 = 0 then
      some ((-1000000002 : Int32), p5.2)
    else
      if (p5.2 99 32) = (15 : Int32) then
        some ((-1000000004 : Int32), p5.2)
      else
        (if inb (p5.2 99 32) 15 then (if inb ((up p5.2 116 ((p5.2 99 32)).toNatClampNeg a1) 99 32) 15 then some (((up (up (up p5.2 116 ((p5.2 99 32)).toNatClampNeg a1) 117 (((up p5.2 116 ((p5.2 99 32)).toNatClampNeg a1) 99 32)).toNatClampNeg a2) 99 32 (((up (up p5.2 116 ((p5.2 99 32)).toNatClampNeg a1) 117 (((up p5.2 116 ((p5.2 99 32)).toNatClampNeg a1) 99 32)).toNatClampNeg a2) 99 32) + (1 : Int32))) 99 32), (up (up (up p5.2 116 ((p5.2 99 32)).toNatClampNeg a1) 117 (((up p5.2 116 ((p5.2 99 32)).toNatClampNeg a1) 99 32)).toNatClampNeg a2) 99 32 (((up (up p5.2 116 ((p5.2 99 32)).toNatClampNeg a1) 117 (((up p5.2 116 ((p5.2 99 32)).toNatClampNeg a1) 99 32)).toNatClampNeg a2) 99 32) + (1 : Int32)))) else none) else none)))
def f_Mo_tear (hp : HP) : Option (Int32 × HP) :=
  some (((((hp 99 23) + (hp 99 25)) + (hp 99 29)) + (hp 99 32)), (up (up (up (up hp 99 23 (0 : Int32)) 99 25 (0 : Int32)) 99 29 (0 : Int32)) 99 32 (0 : Int32)))
def f_Mo_judge_L2 (K : HP → Option (Int32 × HP)) : Nat → HP → Int32 → Option (Int32 × HP)
  | 0, _, _ => none
  | n + 1, hp, x1 =>
      if (hp 99 32) ≤ x1 then
        K hp
      else
        (if inb x1 15 then (if inb ((1 : Int32) + (hp 116 (x1).toNatClampNeg)) 736 then if ((hp 100 (((1 : Int32) + (hp 116 (x1).toNatClampNeg))).toNatClampNeg) + (10000 : Int32)) = (hp 117 (x1).toNatClampNeg) then
          f_Mo_judge_L2 K n hp (x1 + 1)
        else
          some (x1, hp) else none) else none)
def f_Mo_judge (hp : HP) : Option (Int32 × HP) :=
  f_Mo_judge_L2 (fun hp5 =>
    some ((-1 : Int32), hp5)) FU hp (0 : Int32)
def f_Mo_seed (hp : HP) (a1 : Int32) : Option (Int32 × HP) :=
  if 0 ≤ a1 then
    some ((hp 100 31), (up hp 100 31 a1))
  else
    some ((-1000000002 : Int32), hp)
def f_Mo_keep (hp : HP) (a1 : Int32) : Option (Int32 × HP) :=
  ((f_Mo_in hp (a1).toInt64 (0 : Int64) (1 : Int64)).bind fun p2 => if p2.1 = 0 then
    some ((-1000000001 : Int32), p2.2)
  else
    ((f_Mo_copy p2.2 (0 : Int32) ((32 : Int32) + ((32 : Int32) * a1))).bind fun p5 => (if inb a1 2 then some ((1 : Int32), (up (up p5.2 101 (a1).toNatClampNeg (bz (1 : Int32))) 99 2 (0 : Int32))) else none)))
def f_Mo_goBack (hp : HP) (a1 : Int32) : Option (Int32 × HP) :=
  ((f_Mo_in hp (a1).toInt64 (0 : Int64) (1 : Int64)).bind fun p2 => if p2.1 = 0 then
    some ((-1000000001 : Int32), p2.2)
  else
    (if inb a1 2 then if (p2.2 101 (a1).toNatClampNeg) = 0 then
      some ((-1000000003 : Int32), p2.2)
    else
      ((f_Mo_copy p2.2 ((32 : Int32) + ((32 : Int32) * a1)) (0 : Int32)).bind fun p7 => some ((1 : Int32), (up p7.2 99 2 (0 : Int32)))) else none))
end
section
/-! Words of the tables; every method: its name, its bytes. Printed by wip/whole/walk.py. -/
theorem tw_0 : Cond.selects "BodyAccounts$Reader" ⟨"BodyAccounts$Reader", "skipBlanks", "()V"⟩ ⟨"BodyAccounts$Reader", "skipBlanks", "()V"⟩ ∈ TB := TB_at 0 (by decide +kernel) rfl
theorem tw_1 : Cond.selects "BodyAccounts$Reader" ⟨"BodyAccounts$Reader", "letter", "()I"⟩ ⟨"BodyAccounts$Reader", "letter", "()I"⟩ ∈ TB := TB_at 1 (by decide +kernel) rfl
theorem tw_2 : Cond.selects "BodyAccounts$Reader" ⟨"BodyAccounts$Reader", "readClause", "(LBodyAccounts$Branch;)V"⟩ ⟨"BodyAccounts$Reader", "readClause", "(LBodyAccounts$Branch;)V"⟩ ∈ TB := TB_at 2 (by decide +kernel) rfl
theorem tw_3 : Cond.selects "BodyAccounts$Reader" ⟨"BodyAccounts$Reader", "readParts", "(LBodyAccounts$Branch;)V"⟩ ⟨"BodyAccounts$Reader", "readParts", "(LBodyAccounts$Branch;)V"⟩ ∈ TB := TB_at 3 (by decide +kernel) rfl
theorem tw_4 : Cond.selects "BodyAccounts$Reader" ⟨"BodyAccounts$Reader", "readNumber", "(I)I"⟩ ⟨"BodyAccounts$Reader", "readNumber", "(I)I"⟩ ∈ TB := TB_at 4 (by decide +kernel) rfl
theorem tw_5 : Cond.selects "BodyAccounts$Reader" ⟨"BodyAccounts$Reader", "fail", "(II)V"⟩ ⟨"BodyAccounts$Reader", "fail", "(II)V"⟩ ∈ TB := TB_at 5 (by decide +kernel) rfl
theorem tw_6 : Cond.selects "BodyAccounts$Reader" ⟨"BodyAccounts$Reader", "readWord", "(I)V"⟩ ⟨"BodyAccounts$Reader", "readWord", "(I)V"⟩ ∈ TB := TB_at 6 (by decide +kernel) rfl
theorem tw_7 : Cond.selects "BodyAccounts$Reader" ⟨"BodyAccounts$Reader", "readCustomer", "(LBodyAccounts$Branch;)V"⟩ ⟨"BodyAccounts$Reader", "readCustomer", "(LBodyAccounts$Branch;)V"⟩ ∈ TB := TB_at 7 (by decide +kernel) rfl
theorem tw_8 : Cond.selects "BodyAccounts" ⟨"BodyAccounts", "hats", "()I"⟩ ⟨"BodyAccounts", "hats", "()I"⟩ ∈ TB := TB_at 8 (by decide +kernel) rfl
theorem tw_9 : Cond.selects "BodyAccounts" ⟨"BodyAccounts", "wholes", "(Z)I"⟩ ⟨"BodyAccounts", "wholes", "(Z)I"⟩ ∈ TB := TB_at 9 (by decide +kernel) rfl
theorem tw_10 : Cond.selects "BodyAccounts" ⟨"BodyAccounts", "cleared", "()I"⟩ ⟨"BodyAccounts", "cleared", "()I"⟩ ∈ TB := TB_at 10 (by decide +kernel) rfl
theorem tw_11 : Cond.selects "BodyAccounts" ⟨"BodyAccounts", "areTwo", "(II)Z"⟩ ⟨"BodyAccounts", "areTwo", "(II)Z"⟩ ∈ TB := TB_at 11 (by decide +kernel) rfl
theorem tw_12 : Cond.selects "BodyAccounts" ⟨"BodyAccounts", "wager", "()V"⟩ ⟨"BodyAccounts", "wager", "()V"⟩ ∈ TB := TB_at 12 (by decide +kernel) rfl
theorem tw_13 : Cond.selects "BodyAccounts" ⟨"BodyAccounts", "draw", "(I)I"⟩ ⟨"BodyAccounts", "draw", "(I)I"⟩ ∈ TB := TB_at 13 (by decide +kernel) rfl
theorem tw_14 : Cond.selects "BodyAccounts$Planner" ⟨"BodyAccounts$Planner", "give", "(III)V"⟩ ⟨"BodyAccounts$Planner", "give", "(III)V"⟩ ∈ TB := TB_at 14 (by decide +kernel) rfl
theorem tw_15 : Cond.selects "BodyAccounts$Planner" ⟨"BodyAccounts$Planner", "works", "(LBodyAccounts$Branch;LBodyAccounts$Slate;III)Z"⟩ ⟨"BodyAccounts$Planner", "works", "(LBodyAccounts$Branch;LBodyAccounts$Slate;III)Z"⟩ ∈ TB := TB_at 15 (by decide +kernel) rfl
theorem tw_16 : Cond.selects "BodyAccounts$Planner" ⟨"BodyAccounts$Planner", "sumGivenTo", "(ILBodyAccounts$Slate;)I"⟩ ⟨"BodyAccounts$Planner", "sumGivenTo", "(ILBodyAccounts$Slate;)I"⟩ ∈ TB := TB_at 16 (by decide +kernel) rfl
theorem tw_17 : Cond.selects "BodyAccounts" ⟨"BodyAccounts", "isDoableOnlyAsOne", "(III)Z"⟩ ⟨"BodyAccounts", "isDoableOnlyAsOne", "(III)Z"⟩ ∈ TB := TB_at 17 (by decide +kernel) rfl
theorem tw_18 : Cond.selects "BodyAccountsModel" ⟨"BodyAccountsModel", "here", "()I"⟩ ⟨"BodyAccountsModel", "here", "()I"⟩ ∈ TB := TB_at 18 (by decide +kernel) rfl
theorem tw_19 : Cond.selects "BodyAccountsModel" ⟨"BodyAccountsModel", "letterAt", "(I)I"⟩ ⟨"BodyAccountsModel", "letterAt", "(I)I"⟩ ∈ TB := TB_at 19 (by decide +kernel) rfl
theorem tw_20 : Cond.selects "BodyAccountsModel" ⟨"BodyAccountsModel", "takesClause", "()Z"⟩ ⟨"BodyAccountsModel", "takesClause", "()Z"⟩ ∈ TB := TB_at 20 (by decide +kernel) rfl
theorem tw_21 : Cond.selects "BodyAccountsModel" ⟨"BodyAccountsModel", "fails", "(II)Z"⟩ ⟨"BodyAccountsModel", "fails", "(II)Z"⟩ ∈ TB := TB_at 21 (by decide +kernel) rfl
theorem tw_22 : Cond.selects "BodyAccountsModel" ⟨"BodyAccountsModel", "takesBranch", "()Z"⟩ ⟨"BodyAccountsModel", "takesBranch", "()Z"⟩ ∈ TB := TB_at 22 (by decide +kernel) rfl
theorem tw_23 : Cond.selects "BodyAccountsModel" ⟨"BodyAccountsModel", "takesNumber", "(II)Z"⟩ ⟨"BodyAccountsModel", "takesNumber", "(II)Z"⟩ ∈ TB := TB_at 23 (by decide +kernel) rfl
theorem tw_24 : Cond.selects "BodyAccountsModel" ⟨"BodyAccountsModel", "takesCustomer", "()Z"⟩ ⟨"BodyAccountsModel", "takesCustomer", "()Z"⟩ ∈ TB := TB_at 24 (by decide +kernel) rfl
theorem tw_25 : Cond.selects "BodyAccountsModel" ⟨"BodyAccountsModel", "takesTask", "()Z"⟩ ⟨"BodyAccountsModel", "takesTask", "()Z"⟩ ∈ TB := TB_at 25 (by decide +kernel) rfl
theorem tw_26 : Cond.selects "BodyAccountsModel" ⟨"BodyAccountsModel", "takes", "(I)Z"⟩ ⟨"BodyAccountsModel", "takes", "(I)Z"⟩ ∈ TB := TB_at 26 (by decide +kernel) rfl
theorem tw_27 : Cond.selects "BodyAccountsModel" ⟨"BodyAccountsModel", "hats", "()I"⟩ ⟨"BodyAccountsModel", "hats", "()I"⟩ ∈ TB := TB_at 27 (by decide +kernel) rfl
theorem tw_28 : Cond.selects "BodyAccountsModel" ⟨"BodyAccountsModel", "thereOf", "(I)I"⟩ ⟨"BodyAccountsModel", "thereOf", "(I)I"⟩ ∈ TB := TB_at 28 (by decide +kernel) rfl
theorem tw_29 : Cond.selects "BodyAccountsModel" ⟨"BodyAccountsModel", "thereBy", "(I)I"⟩ ⟨"BodyAccountsModel", "thereBy", "(I)I"⟩ ∈ TB := TB_at 29 (by decide +kernel) rfl
theorem tw_30 : Cond.selects "BodyAccountsModel" ⟨"BodyAccountsModel", "wholes", "(Z)I"⟩ ⟨"BodyAccountsModel", "wholes", "(Z)I"⟩ ∈ TB := TB_at 30 (by decide +kernel) rfl
theorem tw_31 : Cond.selects "BodyAccountsModel" ⟨"BodyAccountsModel", "net", "(I)I"⟩ ⟨"BodyAccountsModel", "net", "(I)I"⟩ ∈ TB := TB_at 31 (by decide +kernel) rfl
theorem tw_32 : Cond.selects "BodyAccountsModel" ⟨"BodyAccountsModel", "whole", "()I"⟩ ⟨"BodyAccountsModel", "whole", "()I"⟩ ∈ TB := TB_at 32 (by decide +kernel) rfl
theorem tw_33 : Cond.selects "BodyAccountsModel" ⟨"BodyAccountsModel", "cleared", "()I"⟩ ⟨"BodyAccountsModel", "cleared", "()I"⟩ ∈ TB := TB_at 33 (by decide +kernel) rfl
theorem tw_34 : Cond.selects "BodyAccountsModel" ⟨"BodyAccountsModel", "isPart", "(I)Z"⟩ ⟨"BodyAccountsModel", "isPart", "(I)Z"⟩ ∈ TB := TB_at 34 (by decide +kernel) rfl
theorem tw_35 : Cond.selects "BodyAccountsModel" ⟨"BodyAccountsModel", "isCustomer", "(I)Z"⟩ ⟨"BodyAccountsModel", "isCustomer", "(I)Z"⟩ ∈ TB := TB_at 35 (by decide +kernel) rfl
theorem tw_36 : Cond.selects "BodyAccountsModel" ⟨"BodyAccountsModel", "areTwo", "(II)Z"⟩ ⟨"BodyAccountsModel", "areTwo", "(II)Z"⟩ ∈ TB := TB_at 36 (by decide +kernel) rfl
theorem tw_37 : Cond.selects "BodyAccountsModel" ⟨"BodyAccountsModel", "isTask", "(I)Z"⟩ ⟨"BodyAccountsModel", "isTask", "(I)Z"⟩ ∈ TB := TB_at 37 (by decide +kernel) rfl
theorem tw_38 : Cond.selects "BodyAccountsModel" ⟨"BodyAccountsModel", "canBy", "(II)Z"⟩ ⟨"BodyAccountsModel", "canBy", "(II)Z"⟩ ∈ TB := TB_at 38 (by decide +kernel) rfl
theorem tw_39 : Cond.selects "BodyAccountsModel" ⟨"BodyAccountsModel", "copy", "(II)V"⟩ ⟨"BodyAccountsModel", "copy", "(II)V"⟩ ∈ TB := TB_at 39 (by decide +kernel) rfl
theorem tw_40 : Cond.selects "BodyAccountsModel" ⟨"BodyAccountsModel", "minds", "()V"⟩ ⟨"BodyAccountsModel", "minds", "()V"⟩ ∈ TB := TB_at 40 (by decide +kernel) rfl
theorem tw_41 : Cond.selects "BodyAccountsModel" ⟨"BodyAccountsModel", "behindMonth", "(II)I"⟩ ⟨"BodyAccountsModel", "behindMonth", "(II)I"⟩ ∈ TB := TB_at 41 (by decide +kernel) rfl
theorem tw_42 : Cond.selects "BodyAccountsModel" ⟨"BodyAccountsModel", "changes", "(II)V"⟩ ⟨"BodyAccountsModel", "changes", "(II)V"⟩ ∈ TB := TB_at 42 (by decide +kernel) rfl
theorem tw_43 : Cond.selects "BodyAccountsModel" ⟨"BodyAccountsModel", "owesMore", "(III)V"⟩ ⟨"BodyAccountsModel", "owesMore", "(III)V"⟩ ∈ TB := TB_at 43 (by decide +kernel) rfl
theorem tw_44 : Cond.selects "BodyAccountsModel" ⟨"BodyAccountsModel", "draw", "(I)I"⟩ ⟨"BodyAccountsModel", "draw", "(I)I"⟩ ∈ TB := TB_at 44 (by decide +kernel) rfl
theorem tw_45 : Cond.selects "BodyAccountsModel" ⟨"BodyAccountsModel", "isPlan", "(II)Z"⟩ ⟨"BodyAccountsModel", "isPlan", "(II)Z"⟩ ∈ TB := TB_at 45 (by decide +kernel) rfl
theorem tw_46 : Cond.selects "BodyAccountsModel" ⟨"BodyAccountsModel", "isSeen", "(I)Z"⟩ ⟨"BodyAccountsModel", "isSeen", "(I)Z"⟩ ∈ TB := TB_at 46 (by decide +kernel) rfl
theorem tw_48 : Cond.initialized "BodyAccounts" ∈ TB := TB_at 48 (by decide +kernel) rfl
theorem tw_49 : Cond.initialized "BodyAccounts$Reader" ∈ TB := TB_at 49 (by decide +kernel) rfl
theorem tw_50 : Cond.initialized "BodyAccounts$Standing" ∈ TB := TB_at 50 (by decide +kernel) rfl
theorem tw_51 : Cond.initialized "BodyAccounts$Past" ∈ TB := TB_at 51 (by decide +kernel) rfl
theorem tw_52 : Cond.initialized "BodyAccounts$Slate" ∈ TB := TB_at 52 (by decide +kernel) rfl
theorem tw_53 : Cond.initialized "BodyAccounts$Planner" ∈ TB := TB_at 53 (by decide +kernel) rfl
theorem tw_54 : Cond.initialized "BodyAccounts$Branch" ∈ TB := TB_at 54 (by decide +kernel) rfl
theorem tw_55 : Cond.initialized "BodyAccountsModel" ∈ TB := TB_at 55 (by decide +kernel) rfl
theorem tw_56 : Cond.initialized "java/lang/Math" ∈ TB := TB_at 56 (by decide +kernel) rfl
theorem tw_57 : Cond.initialized "java/lang/System" ∈ TB := TB_at 57 (by decide +kernel) rfl
theorem tw_72 : Cond.fieldLink "BodyAccounts$Reader" 9 "BodyAccounts$Reader" "letters" "[I" ∈ TB := TB_at 72 (by decide +kernel) rfl
theorem tw_73 : Cond.fieldLink "BodyAccounts$Reader" 19 "BodyAccounts$Reader" "length" "I" ∈ TB := TB_at 73 (by decide +kernel) rfl
theorem tw_74 : Cond.fieldLink "BodyAccounts" 78 "BodyAccounts$Reader" "length" "I" ∈ TB := TB_at 74 (by decide +kernel) rfl
theorem tw_75 : Cond.fieldLink "BodyAccounts$Reader" 15 "BodyAccounts$Reader" "faultPlace" "I" ∈ TB := TB_at 75 (by decide +kernel) rfl
theorem tw_76 : Cond.fieldLink "BodyAccounts" 90 "BodyAccounts$Reader" "faultPlace" "I" ∈ TB := TB_at 76 (by decide +kernel) rfl
theorem tw_77 : Cond.fieldLink "BodyAccounts$Reader" 30 "BodyAccounts$Reader" "faultNumber" "I" ∈ TB := TB_at 77 (by decide +kernel) rfl
theorem tw_78 : Cond.fieldLink "BodyAccounts$Reader" 27 "BodyAccounts$Reader" "place" "I" ∈ TB := TB_at 78 (by decide +kernel) rfl
theorem tw_97 : Cond.fieldLink "BodyAccounts$Standing" 9 "BodyAccounts$Standing" "balances" "[I" ∈ TB := TB_at 97 (by decide +kernel) rfl
theorem tw_98 : Cond.fieldLink "BodyAccounts" 148 "BodyAccounts$Standing" "balances" "[I" ∈ TB := TB_at 98 (by decide +kernel) rfl
theorem tw_99 : Cond.fieldLink "BodyAccounts$Standing" 15 "BodyAccounts$Standing" "debts" "[I" ∈ TB := TB_at 99 (by decide +kernel) rfl
theorem tw_100 : Cond.fieldLink "BodyAccounts$Standing" 27 "BodyAccounts$Standing" "months" "I" ∈ TB := TB_at 100 (by decide +kernel) rfl
theorem tw_101 : Cond.fieldLink "BodyAccounts" 108 "BodyAccounts$Standing" "months" "I" ∈ TB := TB_at 101 (by decide +kernel) rfl
theorem tw_118 : Cond.fieldLink "BodyAccounts$Past" 11 "BodyAccounts$Past" "ring" "[LBodyAccounts$Standing;" ∈ TB := TB_at 118 (by decide +kernel) rfl
theorem tw_119 : Cond.fieldLink "BodyAccounts$Past" 22 "BodyAccounts$Past" "next" "I" ∈ TB := TB_at 119 (by decide +kernel) rfl
theorem tw_120 : Cond.fieldLink "BodyAccounts$Past" 18 "BodyAccounts$Past" "count" "I" ∈ TB := TB_at 120 (by decide +kernel) rfl
theorem tw_121 : Cond.fieldLink "BodyAccounts" 134 "BodyAccounts$Past" "count" "I" ∈ TB := TB_at 121 (by decide +kernel) rfl
theorem tw_135 : Cond.fieldLink "BodyAccounts$Slate" 9 "BodyAccounts$Slate" "sums" "[I" ∈ TB := TB_at 135 (by decide +kernel) rfl
theorem tw_136 : Cond.fieldLink "BodyAccounts$Planner" 47 "BodyAccounts$Slate" "sums" "[I" ∈ TB := TB_at 136 (by decide +kernel) rfl
theorem tw_137 : Cond.fieldLink "BodyAccounts$Slate" 15 "BodyAccounts$Slate" "mustTasks" "[I" ∈ TB := TB_at 137 (by decide +kernel) rfl
theorem tw_138 : Cond.fieldLink "BodyAccounts$Planner" 56 "BodyAccounts$Slate" "mustTasks" "[I" ∈ TB := TB_at 138 (by decide +kernel) rfl
theorem tw_139 : Cond.fieldLink "BodyAccounts$Slate" 18 "BodyAccounts$Slate" "mustMonths" "[I" ∈ TB := TB_at 139 (by decide +kernel) rfl
theorem tw_140 : Cond.fieldLink "BodyAccounts$Planner" 53 "BodyAccounts$Slate" "mustMonths" "[I" ∈ TB := TB_at 140 (by decide +kernel) rfl
theorem tw_141 : Cond.fieldLink "BodyAccounts$Slate" 21 "BodyAccounts$Slate" "seenParts" "[I" ∈ TB := TB_at 141 (by decide +kernel) rfl
theorem tw_142 : Cond.fieldLink "BodyAccounts$Slate" 24 "BodyAccounts$Slate" "seenThere" "[Z" ∈ TB := TB_at 142 (by decide +kernel) rfl
theorem tw_143 : Cond.fieldLink "BodyAccounts$Slate" 28 "BodyAccounts$Slate" "entryCustomers" "[I" ∈ TB := TB_at 143 (by decide +kernel) rfl
theorem tw_144 : Cond.fieldLink "BodyAccounts" 261 "BodyAccounts$Slate" "entryCustomers" "[I" ∈ TB := TB_at 144 (by decide +kernel) rfl
theorem tw_145 : Cond.fieldLink "BodyAccounts$Slate" 31 "BodyAccounts$Slate" "entryBalances" "[I" ∈ TB := TB_at 145 (by decide +kernel) rfl
theorem tw_146 : Cond.fieldLink "BodyAccounts" 264 "BodyAccounts$Slate" "entryBalances" "[I" ∈ TB := TB_at 146 (by decide +kernel) rfl
theorem tw_147 : Cond.fieldLink "BodyAccounts$Slate" 34 "BodyAccounts$Slate" "spendings" "I" ∈ TB := TB_at 147 (by decide +kernel) rfl
theorem tw_148 : Cond.fieldLink "BodyAccounts$Planner" 15 "BodyAccounts$Slate" "spendings" "I" ∈ TB := TB_at 148 (by decide +kernel) rfl
theorem tw_149 : Cond.fieldLink "BodyAccounts" 122 "BodyAccounts$Slate" "spendings" "I" ∈ TB := TB_at 149 (by decide +kernel) rfl
theorem tw_150 : Cond.fieldLink "BodyAccounts$Slate" 38 "BodyAccounts$Slate" "musts" "I" ∈ TB := TB_at 150 (by decide +kernel) rfl
theorem tw_151 : Cond.fieldLink "BodyAccounts" 125 "BodyAccounts$Slate" "musts" "I" ∈ TB := TB_at 151 (by decide +kernel) rfl
theorem tw_152 : Cond.fieldLink "BodyAccounts$Planner" 50 "BodyAccounts$Slate" "musts" "I" ∈ TB := TB_at 152 (by decide +kernel) rfl
theorem tw_153 : Cond.fieldLink "BodyAccounts$Slate" 41 "BodyAccounts$Slate" "seen" "I" ∈ TB := TB_at 153 (by decide +kernel) rfl
theorem tw_154 : Cond.fieldLink "BodyAccounts" 128 "BodyAccounts$Slate" "seen" "I" ∈ TB := TB_at 154 (by decide +kernel) rfl
theorem tw_155 : Cond.fieldLink "BodyAccounts$Slate" 44 "BodyAccounts$Slate" "entries" "I" ∈ TB := TB_at 155 (by decide +kernel) rfl
theorem tw_156 : Cond.fieldLink "BodyAccounts" 131 "BodyAccounts$Slate" "entries" "I" ∈ TB := TB_at 156 (by decide +kernel) rfl
theorem tw_187 : Cond.fieldLink "BodyAccounts$Planner" 9 "BodyAccounts$Planner" "given" "[I" ∈ TB := TB_at 187 (by decide +kernel) rfl
theorem tw_188 : Cond.fieldLink "BodyAccounts" 221 "BodyAccounts$Planner" "given" "[I" ∈ TB := TB_at 188 (by decide +kernel) rfl
theorem tw_198 : Cond.fieldLink "BodyAccounts$Branch" 9 "BodyAccounts$Branch" "needs" "[I" ∈ TB := TB_at 198 (by decide +kernel) rfl
theorem tw_199 : Cond.fieldLink "BodyAccounts" 141 "BodyAccounts$Branch" "needs" "[I" ∈ TB := TB_at 199 (by decide +kernel) rfl
theorem tw_200 : Cond.fieldLink "BodyAccounts$Slate" 53 "BodyAccounts$Branch" "needs" "[I" ∈ TB := TB_at 200 (by decide +kernel) rfl
theorem tw_201 : Cond.fieldLink "BodyAccounts$Branch" 15 "BodyAccounts$Branch" "starts" "[I" ∈ TB := TB_at 201 (by decide +kernel) rfl
theorem tw_202 : Cond.fieldLink "BodyAccounts$Standing" 24 "BodyAccounts$Branch" "starts" "[I" ∈ TB := TB_at 202 (by decide +kernel) rfl
theorem tw_203 : Cond.fieldLink "BodyAccounts$Branch" 18 "BodyAccounts$Branch" "pays" "[I" ∈ TB := TB_at 203 (by decide +kernel) rfl
theorem tw_204 : Cond.fieldLink "BodyAccounts" 155 "BodyAccounts$Branch" "pays" "[I" ∈ TB := TB_at 204 (by decide +kernel) rfl
theorem tw_205 : Cond.fieldLink "BodyAccounts$Branch" 21 "BodyAccounts$Branch" "costs" "[I" ∈ TB := TB_at 205 (by decide +kernel) rfl
theorem tw_206 : Cond.fieldLink "BodyAccounts" 158 "BodyAccounts$Branch" "costs" "[I" ∈ TB := TB_at 206 (by decide +kernel) rfl
theorem tw_207 : Cond.fieldLink "BodyAccounts$Branch" 24 "BodyAccounts$Branch" "takes" "[I" ∈ TB := TB_at 207 (by decide +kernel) rfl
theorem tw_208 : Cond.fieldLink "BodyAccounts$Branch" 27 "BodyAccounts$Branch" "parts" "I" ∈ TB := TB_at 208 (by decide +kernel) rfl
theorem tw_209 : Cond.fieldLink "BodyAccounts" 102 "BodyAccounts$Branch" "parts" "I" ∈ TB := TB_at 209 (by decide +kernel) rfl
theorem tw_210 : Cond.fieldLink "BodyAccounts$Branch" 31 "BodyAccounts$Branch" "customers" "I" ∈ TB := TB_at 210 (by decide +kernel) rfl
theorem tw_211 : Cond.fieldLink "BodyAccounts$Standing" 18 "BodyAccounts$Branch" "customers" "I" ∈ TB := TB_at 211 (by decide +kernel) rfl
theorem tw_212 : Cond.fieldLink "BodyAccounts" 99 "BodyAccounts$Branch" "customers" "I" ∈ TB := TB_at 212 (by decide +kernel) rfl
theorem tw_213 : Cond.fieldLink "BodyAccounts$Reader" 55 "BodyAccounts$Branch" "customers" "I" ∈ TB := TB_at 213 (by decide +kernel) rfl
theorem tw_214 : Cond.fieldLink "BodyAccounts$Branch" 34 "BodyAccounts$Branch" "tasks" "I" ∈ TB := TB_at 214 (by decide +kernel) rfl
theorem tw_215 : Cond.fieldLink "BodyAccounts$Reader" 61 "BodyAccounts$Branch" "tasks" "I" ∈ TB := TB_at 215 (by decide +kernel) rfl
theorem tw_216 : Cond.fieldLink "BodyAccounts" 105 "BodyAccounts$Branch" "tasks" "I" ∈ TB := TB_at 216 (by decide +kernel) rfl
theorem tw_234 : Cond.fieldLink "BodyAccounts" 10 "BodyAccounts" "reader" "LBodyAccounts$Reader;" ∈ TB := TB_at 234 (by decide +kernel) rfl
theorem tw_235 : Cond.fieldLink "BodyAccounts" 19 "BodyAccounts" "now" "LBodyAccounts$Standing;" ∈ TB := TB_at 235 (by decide +kernel) rfl
theorem tw_236 : Cond.fieldLink "BodyAccounts" 26 "BodyAccounts" "past" "LBodyAccounts$Past;" ∈ TB := TB_at 236 (by decide +kernel) rfl
theorem tw_237 : Cond.fieldLink "BodyAccounts" 33 "BodyAccounts" "slate" "LBodyAccounts$Slate;" ∈ TB := TB_at 237 (by decide +kernel) rfl
theorem tw_238 : Cond.fieldLink "BodyAccounts" 40 "BodyAccounts" "planner" "LBodyAccounts$Planner;" ∈ TB := TB_at 238 (by decide +kernel) rfl
theorem tw_239 : Cond.fieldLink "BodyAccounts" 44 "BodyAccounts" "images" "[LBodyAccounts$Standing;" ∈ TB := TB_at 239 (by decide +kernel) rfl
theorem tw_240 : Cond.fieldLink "BodyAccounts" 48 "BodyAccounts" "imageSeeds" "[I" ∈ TB := TB_at 240 (by decide +kernel) rfl
theorem tw_241 : Cond.fieldLink "BodyAccounts" 52 "BodyAccounts" "imageKept" "[Z" ∈ TB := TB_at 241 (by decide +kernel) rfl
theorem tw_242 : Cond.fieldLink "BodyAccounts" 59 "BodyAccounts" "current" "LBodyAccounts$Branch;" ∈ TB := TB_at 242 (by decide +kernel) rfl
theorem tw_243 : Cond.fieldLink "BodyAccounts" 63 "BodyAccounts" "spare" "LBodyAccounts$Branch;" ∈ TB := TB_at 243 (by decide +kernel) rfl
theorem tw_244 : Cond.fieldLink "BodyAccounts" 66 "BodyAccounts" "faultPlace" "I" ∈ TB := TB_at 244 (by decide +kernel) rfl
theorem tw_245 : Cond.fieldLink "BodyAccounts" 70 "BodyAccounts" "seedNow" "I" ∈ TB := TB_at 245 (by decide +kernel) rfl
theorem tw_272 : Cond.instanceMethod ⟨"BodyAccounts", "feed", "(I)I"⟩ ∈ TB := TB_at 272 (by decide +kernel) rfl
theorem tw_273 : Cond.selects "BodyAccounts" ⟨"BodyAccounts", "feed", "(I)I"⟩ ⟨"BodyAccounts", "feed", "(I)I"⟩ ∈ TB := TB_at 273 (by decide +kernel) rfl
theorem tw_274 : Cond.code ⟨"BodyAccounts", "feed", "(I)I"⟩ prog_1_method_2_code 2 (some .int) ∈ TB := TB_at 274 (by decide +kernel) rfl
theorem tw_275 : Cond.methodLink "BodyAccounts" 73 ⟨"BodyAccounts", "within", "(III)Z"⟩ ∈ TB := TB_at 275 (by decide +kernel) rfl
theorem tw_276 : Cond.static ⟨"BodyAccounts", "within", "(III)Z"⟩ ∈ TB := TB_at 276 (by decide +kernel) rfl
theorem tw_277 : Cond.code ⟨"BodyAccounts", "within", "(III)Z"⟩ prog_1_method_34_code 3 (some .boolean) ∈ TB := TB_at 277 (by decide +kernel) rfl
theorem tw_278 : Cond.constant "BodyAccounts" 77 (-1000000002) ∈ TB := TB_at 278 (by decide +kernel) rfl
theorem tw_279 : Cond.constant "BodyAccounts" 81 (-1000000004) ∈ TB := TB_at 279 (by decide +kernel) rfl
theorem tw_280 : Cond.methodLink "BodyAccounts" 82 ⟨"BodyAccounts$Reader", "append", "(I)V"⟩ ∈ TB := TB_at 280 (by decide +kernel) rfl
theorem tw_281 : Cond.instanceMethod ⟨"BodyAccounts$Reader", "append", "(I)V"⟩ ∈ TB := TB_at 281 (by decide +kernel) rfl
theorem tw_282 : Cond.selects "BodyAccounts$Reader" ⟨"BodyAccounts$Reader", "append", "(I)V"⟩ ⟨"BodyAccounts$Reader", "append", "(I)V"⟩ ∈ TB := TB_at 282 (by decide +kernel) rfl
theorem tw_283 : Cond.code ⟨"BodyAccounts$Reader", "append", "(I)V"⟩ prog_5_method_2_code 2 none ∈ TB := TB_at 283 (by decide +kernel) rfl
theorem tw_285 : Cond.instanceMethod ⟨"BodyAccounts", "branch", "()I"⟩ ∈ TB := TB_at 285 (by decide +kernel) rfl
theorem tw_286 : Cond.selects "BodyAccounts" ⟨"BodyAccounts", "branch", "()I"⟩ ⟨"BodyAccounts", "branch", "()I"⟩ ∈ TB := TB_at 286 (by decide +kernel) rfl
theorem tw_287 : Cond.code ⟨"BodyAccounts", "branch", "()I"⟩ prog_1_method_3_code 4 (some .int) ∈ TB := TB_at 287 (by decide +kernel) rfl
theorem tw_288 : Cond.methodLink "BodyAccounts" 86 ⟨"BodyAccounts$Reader", "readInto", "(LBodyAccounts$Branch;)I"⟩ ∈ TB := TB_at 288 (by decide +kernel) rfl
theorem tw_289 : Cond.instanceMethod ⟨"BodyAccounts$Reader", "readInto", "(LBodyAccounts$Branch;)I"⟩ ∈ TB := TB_at 289 (by decide +kernel) rfl
theorem tw_290 : Cond.selects "BodyAccounts$Reader" ⟨"BodyAccounts$Reader", "readInto", "(LBodyAccounts$Branch;)I"⟩ ⟨"BodyAccounts$Reader", "readInto", "(LBodyAccounts$Branch;)I"⟩ ∈ TB := TB_at 290 (by decide +kernel) rfl
theorem tw_291 : Cond.code ⟨"BodyAccounts$Reader", "readInto", "(LBodyAccounts$Branch;)I"⟩ prog_5_method_3_code 3 (some .int) ∈ TB := TB_at 291 (by decide +kernel) rfl
theorem tw_292 : Cond.methodLink "BodyAccounts$Reader" 22 ⟨"BodyAccounts$Branch", "clear", "()V"⟩ ∈ TB := TB_at 292 (by decide +kernel) rfl
theorem tw_293 : Cond.instanceMethod ⟨"BodyAccounts$Branch", "clear", "()V"⟩ ∈ TB := TB_at 293 (by decide +kernel) rfl
theorem tw_294 : Cond.selects "BodyAccounts$Branch" ⟨"BodyAccounts$Branch", "clear", "()V"⟩ ⟨"BodyAccounts$Branch", "clear", "()V"⟩ ∈ TB := TB_at 294 (by decide +kernel) rfl
theorem tw_295 : Cond.code ⟨"BodyAccounts$Branch", "clear", "()V"⟩ prog_2_method_2_code 1 none ∈ TB := TB_at 295 (by decide +kernel) rfl
theorem tw_296 : Cond.methodLink "BodyAccounts$Reader" 33 ⟨"BodyAccounts$Reader", "skipBlanks", "()V"⟩ ∈ TB := TB_at 296 (by decide +kernel) rfl
theorem tw_298 : Cond.instanceMethod ⟨"BodyAccounts$Reader", "skipBlanks", "()V"⟩ ∈ TB := TB_at 298 (by decide +kernel) rfl
theorem tw_299 : Cond.code ⟨"BodyAccounts$Reader", "skipBlanks", "()V"⟩ prog_5_method_9_code 1 none ∈ TB := TB_at 299 (by decide +kernel) rfl
theorem tw_300 : Cond.methodLink "BodyAccounts$Reader" 40 ⟨"BodyAccounts$Reader", "letter", "()I"⟩ ∈ TB := TB_at 300 (by decide +kernel) rfl
theorem tw_302 : Cond.instanceMethod ⟨"BodyAccounts$Reader", "letter", "()I"⟩ ∈ TB := TB_at 302 (by decide +kernel) rfl
theorem tw_303 : Cond.code ⟨"BodyAccounts$Reader", "letter", "()I"⟩ prog_5_method_10_code 1 (some .int) ∈ TB := TB_at 303 (by decide +kernel) rfl
theorem tw_304 : Cond.methodLink "BodyAccounts$Reader" 36 ⟨"BodyAccounts$Reader", "readClause", "(LBodyAccounts$Branch;)V"⟩ ∈ TB := TB_at 304 (by decide +kernel) rfl
theorem tw_306 : Cond.instanceMethod ⟨"BodyAccounts$Reader", "readClause", "(LBodyAccounts$Branch;)V"⟩ ∈ TB := TB_at 306 (by decide +kernel) rfl
theorem tw_307 : Cond.code ⟨"BodyAccounts$Reader", "readClause", "(LBodyAccounts$Branch;)V"⟩ prog_5_method_4_code 3 none ∈ TB := TB_at 307 (by decide +kernel) rfl
theorem tw_308 : Cond.methodLink "BodyAccounts$Reader" 44 ⟨"BodyAccounts$Branch", "isThere", "()Z"⟩ ∈ TB := TB_at 308 (by decide +kernel) rfl
theorem tw_309 : Cond.instanceMethod ⟨"BodyAccounts$Branch", "isThere", "()Z"⟩ ∈ TB := TB_at 309 (by decide +kernel) rfl
theorem tw_310 : Cond.selects "BodyAccounts$Branch" ⟨"BodyAccounts$Branch", "isThere", "()Z"⟩ ⟨"BodyAccounts$Branch", "isThere", "()Z"⟩ ∈ TB := TB_at 310 (by decide +kernel) rfl
theorem tw_311 : Cond.code ⟨"BodyAccounts$Branch", "isThere", "()Z"⟩ prog_2_method_6_code 1 (some .boolean) ∈ TB := TB_at 311 (by decide +kernel) rfl
theorem tw_312 : Cond.methodLink "BodyAccounts$Reader" 48 ⟨"BodyAccounts$Reader", "readParts", "(LBodyAccounts$Branch;)V"⟩ ∈ TB := TB_at 312 (by decide +kernel) rfl
theorem tw_314 : Cond.instanceMethod ⟨"BodyAccounts$Reader", "readParts", "(LBodyAccounts$Branch;)V"⟩ ∈ TB := TB_at 314 (by decide +kernel) rfl
theorem tw_315 : Cond.code ⟨"BodyAccounts$Reader", "readParts", "(LBodyAccounts$Branch;)V"⟩ prog_5_method_5_code 3 none ∈ TB := TB_at 315 (by decide +kernel) rfl
theorem tw_316 : Cond.methodLink "BodyAccounts$Reader" 67 ⟨"BodyAccounts$Reader", "readNumber", "(I)I"⟩ ∈ TB := TB_at 316 (by decide +kernel) rfl
theorem tw_318 : Cond.instanceMethod ⟨"BodyAccounts$Reader", "readNumber", "(I)I"⟩ ∈ TB := TB_at 318 (by decide +kernel) rfl
theorem tw_319 : Cond.code ⟨"BodyAccounts$Reader", "readNumber", "(I)I"⟩ prog_5_method_7_code 4 (some .int) ∈ TB := TB_at 319 (by decide +kernel) rfl
theorem tw_320 : Cond.methodLink "BodyAccounts$Reader" 85 ⟨"BodyAccounts$Reader", "isFigure", "(I)Z"⟩ ∈ TB := TB_at 320 (by decide +kernel) rfl
theorem tw_321 : Cond.static ⟨"BodyAccounts$Reader", "isFigure", "(I)Z"⟩ ∈ TB := TB_at 321 (by decide +kernel) rfl
theorem tw_322 : Cond.code ⟨"BodyAccounts$Reader", "isFigure", "(I)Z"⟩ prog_5_method_11_code 1 (some .boolean) ∈ TB := TB_at 322 (by decide +kernel) rfl
theorem tw_323 : Cond.methodLink "BodyAccounts$Reader" 51 ⟨"BodyAccounts$Reader", "fail", "(II)V"⟩ ∈ TB := TB_at 323 (by decide +kernel) rfl
theorem tw_325 : Cond.instanceMethod ⟨"BodyAccounts$Reader", "fail", "(II)V"⟩ ∈ TB := TB_at 325 (by decide +kernel) rfl
theorem tw_326 : Cond.code ⟨"BodyAccounts$Reader", "fail", "(II)V"⟩ prog_5_method_12_code 3 none ∈ TB := TB_at 326 (by decide +kernel) rfl
theorem tw_327 : Cond.methodLink "BodyAccounts$Reader" 78 ⟨"BodyAccounts$Branch", "addPart", "(I)V"⟩ ∈ TB := TB_at 327 (by decide +kernel) rfl
theorem tw_328 : Cond.instanceMethod ⟨"BodyAccounts$Branch", "addPart", "(I)V"⟩ ∈ TB := TB_at 328 (by decide +kernel) rfl
theorem tw_329 : Cond.selects "BodyAccounts$Branch" ⟨"BodyAccounts$Branch", "addPart", "(I)V"⟩ ⟨"BodyAccounts$Branch", "addPart", "(I)V"⟩ ∈ TB := TB_at 329 (by decide +kernel) rfl
theorem tw_330 : Cond.code ⟨"BodyAccounts$Branch", "addPart", "(I)V"⟩ prog_2_method_3_code 2 none ∈ TB := TB_at 330 (by decide +kernel) rfl
theorem tw_331 : Cond.methodLink "BodyAccounts$Reader" 75 ⟨"BodyAccounts$Reader", "readWord", "(I)V"⟩ ∈ TB := TB_at 331 (by decide +kernel) rfl
theorem tw_333 : Cond.instanceMethod ⟨"BodyAccounts$Reader", "readWord", "(I)V"⟩ ∈ TB := TB_at 333 (by decide +kernel) rfl
theorem tw_334 : Cond.code ⟨"BodyAccounts$Reader", "readWord", "(I)V"⟩ prog_5_method_8_code 2 none ∈ TB := TB_at 334 (by decide +kernel) rfl
theorem tw_335 : Cond.methodLink "BodyAccounts$Reader" 58 ⟨"BodyAccounts$Reader", "readCustomer", "(LBodyAccounts$Branch;)V"⟩ ∈ TB := TB_at 335 (by decide +kernel) rfl
theorem tw_337 : Cond.instanceMethod ⟨"BodyAccounts$Reader", "readCustomer", "(LBodyAccounts$Branch;)V"⟩ ∈ TB := TB_at 337 (by decide +kernel) rfl
theorem tw_338 : Cond.code ⟨"BodyAccounts$Reader", "readCustomer", "(LBodyAccounts$Branch;)V"⟩ prog_5_method_6_code 5 none ∈ TB := TB_at 338 (by decide +kernel) rfl
theorem tw_339 : Cond.methodLink "BodyAccounts$Reader" 81 ⟨"BodyAccounts$Branch", "addCustomer", "(III)V"⟩ ∈ TB := TB_at 339 (by decide +kernel) rfl
theorem tw_340 : Cond.instanceMethod ⟨"BodyAccounts$Branch", "addCustomer", "(III)V"⟩ ∈ TB := TB_at 340 (by decide +kernel) rfl
theorem tw_341 : Cond.selects "BodyAccounts$Branch" ⟨"BodyAccounts$Branch", "addCustomer", "(III)V"⟩ ⟨"BodyAccounts$Branch", "addCustomer", "(III)V"⟩ ∈ TB := TB_at 341 (by decide +kernel) rfl
theorem tw_342 : Cond.code ⟨"BodyAccounts$Branch", "addCustomer", "(III)V"⟩ prog_2_method_4_code 4 none ∈ TB := TB_at 342 (by decide +kernel) rfl
theorem tw_343 : Cond.methodLink "BodyAccounts$Reader" 64 ⟨"BodyAccounts$Branch", "allParts", "()I"⟩ ∈ TB := TB_at 343 (by decide +kernel) rfl
theorem tw_344 : Cond.instanceMethod ⟨"BodyAccounts$Branch", "allParts", "()I"⟩ ∈ TB := TB_at 344 (by decide +kernel) rfl
theorem tw_345 : Cond.selects "BodyAccounts$Branch" ⟨"BodyAccounts$Branch", "allParts", "()I"⟩ ⟨"BodyAccounts$Branch", "allParts", "()I"⟩ ∈ TB := TB_at 345 (by decide +kernel) rfl
theorem tw_346 : Cond.code ⟨"BodyAccounts$Branch", "allParts", "()I"⟩ prog_2_method_10_code 1 (some .int) ∈ TB := TB_at 346 (by decide +kernel) rfl
theorem tw_347 : Cond.methodLink "BodyAccounts$Reader" 71 ⟨"BodyAccounts$Branch", "addTask", "(I)V"⟩ ∈ TB := TB_at 347 (by decide +kernel) rfl
theorem tw_348 : Cond.instanceMethod ⟨"BodyAccounts$Branch", "addTask", "(I)V"⟩ ∈ TB := TB_at 348 (by decide +kernel) rfl
theorem tw_349 : Cond.selects "BodyAccounts$Branch" ⟨"BodyAccounts$Branch", "addTask", "(I)V"⟩ ⟨"BodyAccounts$Branch", "addTask", "(I)V"⟩ ∈ TB := TB_at 349 (by decide +kernel) rfl
theorem tw_350 : Cond.code ⟨"BodyAccounts$Branch", "addTask", "(I)V"⟩ prog_2_method_5_code 2 none ∈ TB := TB_at 350 (by decide +kernel) rfl
theorem tw_351 : Cond.methodLink "BodyAccounts" 91 ⟨"BodyAccounts$Standing", "begin", "(LBodyAccounts$Branch;)V"⟩ ∈ TB := TB_at 351 (by decide +kernel) rfl
theorem tw_352 : Cond.instanceMethod ⟨"BodyAccounts$Standing", "begin", "(LBodyAccounts$Branch;)V"⟩ ∈ TB := TB_at 352 (by decide +kernel) rfl
theorem tw_353 : Cond.selects "BodyAccounts$Standing" ⟨"BodyAccounts$Standing", "begin", "(LBodyAccounts$Branch;)V"⟩ ⟨"BodyAccounts$Standing", "begin", "(LBodyAccounts$Branch;)V"⟩ ∈ TB := TB_at 353 (by decide +kernel) rfl
theorem tw_354 : Cond.code ⟨"BodyAccounts$Standing", "begin", "(LBodyAccounts$Branch;)V"⟩ prog_7_method_2_code 3 none ∈ TB := TB_at 354 (by decide +kernel) rfl
theorem tw_355 : Cond.methodLink "BodyAccounts" 95 ⟨"BodyAccounts$Past", "clear", "()V"⟩ ∈ TB := TB_at 355 (by decide +kernel) rfl
theorem tw_356 : Cond.instanceMethod ⟨"BodyAccounts$Past", "clear", "()V"⟩ ∈ TB := TB_at 356 (by decide +kernel) rfl
theorem tw_357 : Cond.selects "BodyAccounts$Past" ⟨"BodyAccounts$Past", "clear", "()V"⟩ ⟨"BodyAccounts$Past", "clear", "()V"⟩ ∈ TB := TB_at 357 (by decide +kernel) rfl
theorem tw_358 : Cond.code ⟨"BodyAccounts$Past", "clear", "()V"⟩ prog_3_method_2_code 1 none ∈ TB := TB_at 358 (by decide +kernel) rfl
theorem tw_359 : Cond.methodLink "BodyAccounts" 98 ⟨"BodyAccounts$Slate", "clear", "()V"⟩ ∈ TB := TB_at 359 (by decide +kernel) rfl
theorem tw_360 : Cond.instanceMethod ⟨"BodyAccounts$Slate", "clear", "()V"⟩ ∈ TB := TB_at 360 (by decide +kernel) rfl
theorem tw_361 : Cond.selects "BodyAccounts$Slate" ⟨"BodyAccounts$Slate", "clear", "()V"⟩ ⟨"BodyAccounts$Slate", "clear", "()V"⟩ ∈ TB := TB_at 361 (by decide +kernel) rfl
theorem tw_362 : Cond.code ⟨"BodyAccounts$Slate", "clear", "()V"⟩ prog_6_method_2_code 1 none ∈ TB := TB_at 362 (by decide +kernel) rfl
theorem tw_364 : Cond.instanceMethod ⟨"BodyAccounts", "fault", "()I"⟩ ∈ TB := TB_at 364 (by decide +kernel) rfl
theorem tw_365 : Cond.selects "BodyAccounts" ⟨"BodyAccounts", "fault", "()I"⟩ ⟨"BodyAccounts", "fault", "()I"⟩ ∈ TB := TB_at 365 (by decide +kernel) rfl
theorem tw_366 : Cond.code ⟨"BodyAccounts", "fault", "()I"⟩ prog_1_method_4_code 1 (some .int) ∈ TB := TB_at 366 (by decide +kernel) rfl
theorem tw_368 : Cond.instanceMethod ⟨"BodyAccounts", "told", "(I)I"⟩ ∈ TB := TB_at 368 (by decide +kernel) rfl
theorem tw_369 : Cond.selects "BodyAccounts" ⟨"BodyAccounts", "told", "(I)I"⟩ ⟨"BodyAccounts", "told", "(I)I"⟩ ∈ TB := TB_at 369 (by decide +kernel) rfl
theorem tw_370 : Cond.code ⟨"BodyAccounts", "told", "(I)I"⟩ prog_1_method_5_code 2 (some .int) ∈ TB := TB_at 370 (by decide +kernel) rfl
theorem tw_371 : Cond.methodLink "BodyAccounts" 111 ⟨"BodyAccounts", "hats", "()I"⟩ ∈ TB := TB_at 371 (by decide +kernel) rfl
theorem tw_373 : Cond.instanceMethod ⟨"BodyAccounts", "hats", "()I"⟩ ∈ TB := TB_at 373 (by decide +kernel) rfl
theorem tw_374 : Cond.code ⟨"BodyAccounts", "hats", "()I"⟩ prog_1_method_37_code 3 (some .int) ∈ TB := TB_at 374 (by decide +kernel) rfl
theorem tw_375 : Cond.methodLink "BodyAccounts" 151 ⟨"BodyAccounts$Branch", "partsAt", "(I)I"⟩ ∈ TB := TB_at 375 (by decide +kernel) rfl
theorem tw_376 : Cond.instanceMethod ⟨"BodyAccounts$Branch", "partsAt", "(I)I"⟩ ∈ TB := TB_at 376 (by decide +kernel) rfl
theorem tw_377 : Cond.selects "BodyAccounts$Branch" ⟨"BodyAccounts$Branch", "partsAt", "(I)I"⟩ ⟨"BodyAccounts$Branch", "partsAt", "(I)I"⟩ ∈ TB := TB_at 377 (by decide +kernel) rfl
theorem tw_378 : Cond.code ⟨"BodyAccounts$Branch", "partsAt", "(I)I"⟩ prog_2_method_11_code 4 (some .int) ∈ TB := TB_at 378 (by decide +kernel) rfl
theorem tw_379 : Cond.methodLink "BodyAccounts" 115 ⟨"BodyAccounts", "wholes", "(Z)I"⟩ ∈ TB := TB_at 379 (by decide +kernel) rfl
theorem tw_381 : Cond.instanceMethod ⟨"BodyAccounts", "wholes", "(Z)I"⟩ ∈ TB := TB_at 381 (by decide +kernel) rfl
theorem tw_382 : Cond.code ⟨"BodyAccounts", "wholes", "(Z)I"⟩ prog_1_method_38_code 5 (some .int) ∈ TB := TB_at 382 (by decide +kernel) rfl
theorem tw_383 : Cond.methodLink "BodyAccounts" 161 ⟨"BodyAccounts$Standing", "netOf", "(I)I"⟩ ∈ TB := TB_at 383 (by decide +kernel) rfl
theorem tw_384 : Cond.instanceMethod ⟨"BodyAccounts$Standing", "netOf", "(I)I"⟩ ∈ TB := TB_at 384 (by decide +kernel) rfl
theorem tw_385 : Cond.selects "BodyAccounts$Standing" ⟨"BodyAccounts$Standing", "netOf", "(I)I"⟩ ⟨"BodyAccounts$Standing", "netOf", "(I)I"⟩ ∈ TB := TB_at 385 (by decide +kernel) rfl
theorem tw_386 : Cond.code ⟨"BodyAccounts$Standing", "netOf", "(I)I"⟩ prog_7_method_8_code 4 (some .int) ∈ TB := TB_at 386 (by decide +kernel) rfl
theorem tw_387 : Cond.methodLink "BodyAccounts$Standing" 48 ⟨"BodyAccounts$Standing", "debt", "(II)I"⟩ ∈ TB := TB_at 387 (by decide +kernel) rfl
theorem tw_388 : Cond.instanceMethod ⟨"BodyAccounts$Standing", "debt", "(II)I"⟩ ∈ TB := TB_at 388 (by decide +kernel) rfl
theorem tw_389 : Cond.selects "BodyAccounts$Standing" ⟨"BodyAccounts$Standing", "debt", "(II)I"⟩ ⟨"BodyAccounts$Standing", "debt", "(II)I"⟩ ∈ TB := TB_at 389 (by decide +kernel) rfl
theorem tw_390 : Cond.code ⟨"BodyAccounts$Standing", "debt", "(II)I"⟩ prog_7_method_6_code 3 (some .int) ∈ TB := TB_at 390 (by decide +kernel) rfl
theorem tw_391 : Cond.methodLink "BodyAccounts" 270 ⟨"BodyAccounts", "bounded", "(I)I"⟩ ∈ TB := TB_at 391 (by decide +kernel) rfl
theorem tw_392 : Cond.static ⟨"BodyAccounts", "bounded", "(I)I"⟩ ∈ TB := TB_at 392 (by decide +kernel) rfl
theorem tw_393 : Cond.code ⟨"BodyAccounts", "bounded", "(I)I"⟩ prog_1_method_35_code 1 (some .int) ∈ TB := TB_at 393 (by decide +kernel) rfl
theorem tw_394 : Cond.methodLink "BodyAccounts" 230 ⟨"java/lang/Math", "min", "(II)I"⟩ ∈ TB := TB_at 394 (by decide +kernel) rfl
theorem tw_395 : Cond.static ⟨"java/lang/Math", "min", "(II)I"⟩ ∈ TB := TB_at 395 (by decide +kernel) rfl
theorem tw_396 : Cond.code ⟨"java/lang/Math", "min", "(II)I"⟩ prog_10_method_69_code 2 (some .int) ∈ TB := TB_at 396 (by decide +kernel) rfl
theorem tw_397 : Cond.methodLink "BodyAccounts" 252 ⟨"java/lang/Math", "max", "(II)I"⟩ ∈ TB := TB_at 397 (by decide +kernel) rfl
theorem tw_398 : Cond.static ⟨"java/lang/Math", "max", "(II)I"⟩ ∈ TB := TB_at 398 (by decide +kernel) rfl
theorem tw_399 : Cond.code ⟨"java/lang/Math", "max", "(II)I"⟩ prog_10_method_65_code 2 (some .int) ∈ TB := TB_at 399 (by decide +kernel) rfl
theorem tw_400 : Cond.methodLink "BodyAccounts" 273 ⟨"BodyAccounts$Branch", "allParts", "()I"⟩ ∈ TB := TB_at 400 (by decide +kernel) rfl
theorem tw_401 : Cond.methodLink "BodyAccounts" 119 ⟨"BodyAccounts", "cleared", "()I"⟩ ∈ TB := TB_at 401 (by decide +kernel) rfl
theorem tw_403 : Cond.instanceMethod ⟨"BodyAccounts", "cleared", "()I"⟩ ∈ TB := TB_at 403 (by decide +kernel) rfl
theorem tw_404 : Cond.code ⟨"BodyAccounts", "cleared", "()I"⟩ prog_1_method_39_code 3 (some .int) ∈ TB := TB_at 404 (by decide +kernel) rfl
theorem tw_406 : Cond.instanceMethod ⟨"BodyAccounts", "part", "(I)I"⟩ ∈ TB := TB_at 406 (by decide +kernel) rfl
theorem tw_407 : Cond.selects "BodyAccounts" ⟨"BodyAccounts", "part", "(I)I"⟩ ⟨"BodyAccounts", "part", "(I)I"⟩ ∈ TB := TB_at 407 (by decide +kernel) rfl
theorem tw_408 : Cond.code ⟨"BodyAccounts", "part", "(I)I"⟩ prog_1_method_6_code 2 (some .int) ∈ TB := TB_at 408 (by decide +kernel) rfl
theorem tw_409 : Cond.methodLink "BodyAccounts" 137 ⟨"BodyAccounts$Branch", "hasPart", "(I)Z"⟩ ∈ TB := TB_at 409 (by decide +kernel) rfl
theorem tw_410 : Cond.instanceMethod ⟨"BodyAccounts$Branch", "hasPart", "(I)Z"⟩ ∈ TB := TB_at 410 (by decide +kernel) rfl
theorem tw_411 : Cond.selects "BodyAccounts$Branch" ⟨"BodyAccounts$Branch", "hasPart", "(I)Z"⟩ ⟨"BodyAccounts$Branch", "hasPart", "(I)Z"⟩ ∈ TB := TB_at 411 (by decide +kernel) rfl
theorem tw_412 : Cond.code ⟨"BodyAccounts$Branch", "hasPart", "(I)Z"⟩ prog_2_method_7_code 2 (some .boolean) ∈ TB := TB_at 412 (by decide +kernel) rfl
theorem tw_414 : Cond.constant "BodyAccounts" 144 (-1000000001) ∈ TB := TB_at 414 (by decide +kernel) rfl
theorem tw_416 : Cond.instanceMethod ⟨"BodyAccounts", "customer", "(II)I"⟩ ∈ TB := TB_at 416 (by decide +kernel) rfl
theorem tw_417 : Cond.selects "BodyAccounts" ⟨"BodyAccounts", "customer", "(II)I"⟩ ⟨"BodyAccounts", "customer", "(II)I"⟩ ∈ TB := TB_at 417 (by decide +kernel) rfl
theorem tw_418 : Cond.code ⟨"BodyAccounts", "customer", "(II)I"⟩ prog_1_method_7_code 3 (some .int) ∈ TB := TB_at 418 (by decide +kernel) rfl
theorem tw_419 : Cond.methodLink "BodyAccounts" 145 ⟨"BodyAccounts$Branch", "hasCustomer", "(I)Z"⟩ ∈ TB := TB_at 419 (by decide +kernel) rfl
theorem tw_420 : Cond.instanceMethod ⟨"BodyAccounts$Branch", "hasCustomer", "(I)Z"⟩ ∈ TB := TB_at 420 (by decide +kernel) rfl
theorem tw_421 : Cond.selects "BodyAccounts$Branch" ⟨"BodyAccounts$Branch", "hasCustomer", "(I)Z"⟩ ⟨"BodyAccounts$Branch", "hasCustomer", "(I)Z"⟩ ∈ TB := TB_at 421 (by decide +kernel) rfl
theorem tw_422 : Cond.code ⟨"BodyAccounts$Branch", "hasCustomer", "(I)Z"⟩ prog_2_method_8_code 2 (some .boolean) ∈ TB := TB_at 422 (by decide +kernel) rfl
theorem tw_423 : Cond.constant "BodyAccounts" 164 (100000) ∈ TB := TB_at 423 (by decide +kernel) rfl
theorem tw_425 : Cond.instanceMethod ⟨"BodyAccounts", "owes", "(II)I"⟩ ∈ TB := TB_at 425 (by decide +kernel) rfl
theorem tw_426 : Cond.selects "BodyAccounts" ⟨"BodyAccounts", "owes", "(II)I"⟩ ⟨"BodyAccounts", "owes", "(II)I"⟩ ∈ TB := TB_at 426 (by decide +kernel) rfl
theorem tw_427 : Cond.code ⟨"BodyAccounts", "owes", "(II)I"⟩ prog_1_method_8_code 3 (some .int) ∈ TB := TB_at 427 (by decide +kernel) rfl
theorem tw_428 : Cond.methodLink "BodyAccounts" 165 ⟨"BodyAccounts", "areTwo", "(II)Z"⟩ ∈ TB := TB_at 428 (by decide +kernel) rfl
theorem tw_430 : Cond.instanceMethod ⟨"BodyAccounts", "areTwo", "(II)Z"⟩ ∈ TB := TB_at 430 (by decide +kernel) rfl
theorem tw_431 : Cond.code ⟨"BodyAccounts", "areTwo", "(II)Z"⟩ prog_1_method_36_code 3 (some .boolean) ∈ TB := TB_at 431 (by decide +kernel) rfl
theorem tw_432 : Cond.methodLink "BodyAccounts" 169 ⟨"BodyAccounts$Standing", "debt", "(II)I"⟩ ∈ TB := TB_at 432 (by decide +kernel) rfl
theorem tw_434 : Cond.instanceMethod ⟨"BodyAccounts", "can", "(II)I"⟩ ∈ TB := TB_at 434 (by decide +kernel) rfl
theorem tw_435 : Cond.selects "BodyAccounts" ⟨"BodyAccounts", "can", "(II)I"⟩ ⟨"BodyAccounts", "can", "(II)I"⟩ ∈ TB := TB_at 435 (by decide +kernel) rfl
theorem tw_436 : Cond.code ⟨"BodyAccounts", "can", "(II)I"⟩ prog_1_method_9_code 3 (some .int) ∈ TB := TB_at 436 (by decide +kernel) rfl
theorem tw_437 : Cond.methodLink "BodyAccounts" 173 ⟨"BodyAccounts$Branch", "hasTask", "(I)Z"⟩ ∈ TB := TB_at 437 (by decide +kernel) rfl
theorem tw_438 : Cond.instanceMethod ⟨"BodyAccounts$Branch", "hasTask", "(I)Z"⟩ ∈ TB := TB_at 438 (by decide +kernel) rfl
theorem tw_439 : Cond.selects "BodyAccounts$Branch" ⟨"BodyAccounts$Branch", "hasTask", "(I)Z"⟩ ⟨"BodyAccounts$Branch", "hasTask", "(I)Z"⟩ ∈ TB := TB_at 439 (by decide +kernel) rfl
theorem tw_440 : Cond.code ⟨"BodyAccounts$Branch", "hasTask", "(I)Z"⟩ prog_2_method_9_code 2 (some .boolean) ∈ TB := TB_at 440 (by decide +kernel) rfl
theorem tw_441 : Cond.methodLink "BodyAccounts" 176 ⟨"BodyAccounts$Branch", "isDoable", "(II)Z"⟩ ∈ TB := TB_at 441 (by decide +kernel) rfl
theorem tw_442 : Cond.instanceMethod ⟨"BodyAccounts$Branch", "isDoable", "(II)Z"⟩ ∈ TB := TB_at 442 (by decide +kernel) rfl
theorem tw_443 : Cond.selects "BodyAccounts$Branch" ⟨"BodyAccounts$Branch", "isDoable", "(II)Z"⟩ ⟨"BodyAccounts$Branch", "isDoable", "(II)Z"⟩ ∈ TB := TB_at 443 (by decide +kernel) rfl
theorem tw_444 : Cond.code ⟨"BodyAccounts$Branch", "isDoable", "(II)Z"⟩ prog_2_method_12_code 3 (some .boolean) ∈ TB := TB_at 444 (by decide +kernel) rfl
theorem tw_445 : Cond.methodLink "BodyAccounts$Branch" 41 ⟨"BodyAccounts$Branch", "needOf", "(I)I"⟩ ∈ TB := TB_at 445 (by decide +kernel) rfl
theorem tw_446 : Cond.instanceMethod ⟨"BodyAccounts$Branch", "needOf", "(I)I"⟩ ∈ TB := TB_at 446 (by decide +kernel) rfl
theorem tw_447 : Cond.selects "BodyAccounts$Branch" ⟨"BodyAccounts$Branch", "needOf", "(I)I"⟩ ⟨"BodyAccounts$Branch", "needOf", "(I)I"⟩ ∈ TB := TB_at 447 (by decide +kernel) rfl
theorem tw_448 : Cond.code ⟨"BodyAccounts$Branch", "needOf", "(I)I"⟩ prog_2_method_13_code 4 (some .int) ∈ TB := TB_at 448 (by decide +kernel) rfl
theorem tw_449 : Cond.constant "BodyAccounts$Branch" 45 (-100000) ∈ TB := TB_at 449 (by decide +kernel) rfl
theorem tw_450 : Cond.methodLink "BodyAccounts$Branch" 46 ⟨"java/lang/Math", "max", "(II)I"⟩ ∈ TB := TB_at 450 (by decide +kernel) rfl
theorem tw_452 : Cond.instanceMethod ⟨"BodyAccounts", "month", "(I)I"⟩ ∈ TB := TB_at 452 (by decide +kernel) rfl
theorem tw_453 : Cond.selects "BodyAccounts" ⟨"BodyAccounts", "month", "(I)I"⟩ ⟨"BodyAccounts", "month", "(I)I"⟩ ∈ TB := TB_at 453 (by decide +kernel) rfl
theorem tw_454 : Cond.code ⟨"BodyAccounts", "month", "(I)I"⟩ prog_1_method_10_code 3 (some .int) ∈ TB := TB_at 454 (by decide +kernel) rfl
theorem tw_455 : Cond.methodLink "BodyAccounts" 179 ⟨"BodyAccounts$Branch", "isThere", "()Z"⟩ ∈ TB := TB_at 455 (by decide +kernel) rfl
theorem tw_456 : Cond.constant "BodyAccounts" 183 (-1000000003) ∈ TB := TB_at 456 (by decide +kernel) rfl
theorem tw_457 : Cond.methodLink "BodyAccounts" 184 ⟨"BodyAccounts$Past", "push", "(LBodyAccounts$Standing;)V"⟩ ∈ TB := TB_at 457 (by decide +kernel) rfl
theorem tw_458 : Cond.instanceMethod ⟨"BodyAccounts$Past", "push", "(LBodyAccounts$Standing;)V"⟩ ∈ TB := TB_at 458 (by decide +kernel) rfl
theorem tw_459 : Cond.selects "BodyAccounts$Past" ⟨"BodyAccounts$Past", "push", "(LBodyAccounts$Standing;)V"⟩ ⟨"BodyAccounts$Past", "push", "(LBodyAccounts$Standing;)V"⟩ ∈ TB := TB_at 459 (by decide +kernel) rfl
theorem tw_460 : Cond.code ⟨"BodyAccounts$Past", "push", "(LBodyAccounts$Standing;)V"⟩ prog_3_method_3_code 2 none ∈ TB := TB_at 460 (by decide +kernel) rfl
theorem tw_461 : Cond.methodLink "BodyAccounts$Past" 25 ⟨"BodyAccounts$Standing", "copyFrom", "(LBodyAccounts$Standing;)V"⟩ ∈ TB := TB_at 461 (by decide +kernel) rfl
theorem tw_462 : Cond.instanceMethod ⟨"BodyAccounts$Standing", "copyFrom", "(LBodyAccounts$Standing;)V"⟩ ∈ TB := TB_at 462 (by decide +kernel) rfl
theorem tw_463 : Cond.selects "BodyAccounts$Standing" ⟨"BodyAccounts$Standing", "copyFrom", "(LBodyAccounts$Standing;)V"⟩ ⟨"BodyAccounts$Standing", "copyFrom", "(LBodyAccounts$Standing;)V"⟩ ∈ TB := TB_at 463 (by decide +kernel) rfl
theorem tw_464 : Cond.code ⟨"BodyAccounts$Standing", "copyFrom", "(LBodyAccounts$Standing;)V"⟩ prog_7_method_3_code 2 none ∈ TB := TB_at 464 (by decide +kernel) rfl
theorem tw_465 : Cond.methodLink "BodyAccounts$Standing" 30 ⟨"java/lang/System", "arraycopy", "(Ljava/lang/Object;ILjava/lang/Object;II)V"⟩ ∈ TB := TB_at 465 (by decide +kernel) rfl
theorem tw_466 : Cond.static ⟨"java/lang/System", "arraycopy", "(Ljava/lang/Object;ILjava/lang/Object;II)V"⟩ ∈ TB := TB_at 466 (by decide +kernel) rfl
theorem tw_467 : Cond.native ⟨"java/lang/System", "arraycopy", "(Ljava/lang/Object;ILjava/lang/Object;II)V"⟩ ∈ TB := TB_at 467 (by decide +kernel) rfl
theorem tw_468 : Cond.methodLink "BodyAccounts$Past" 29 ⟨"java/lang/Math", "min", "(II)I"⟩ ∈ TB := TB_at 468 (by decide +kernel) rfl
theorem tw_469 : Cond.methodLink "BodyAccounts" 188 ⟨"BodyAccounts$Standing", "passMonth", "(LBodyAccounts$Branch;)V"⟩ ∈ TB := TB_at 469 (by decide +kernel) rfl
theorem tw_470 : Cond.instanceMethod ⟨"BodyAccounts$Standing", "passMonth", "(LBodyAccounts$Branch;)V"⟩ ∈ TB := TB_at 470 (by decide +kernel) rfl
theorem tw_471 : Cond.selects "BodyAccounts$Standing" ⟨"BodyAccounts$Standing", "passMonth", "(LBodyAccounts$Branch;)V"⟩ ⟨"BodyAccounts$Standing", "passMonth", "(LBodyAccounts$Branch;)V"⟩ ∈ TB := TB_at 471 (by decide +kernel) rfl
theorem tw_472 : Cond.code ⟨"BodyAccounts$Standing", "passMonth", "(LBodyAccounts$Branch;)V"⟩ prog_7_method_5_code 3 none ∈ TB := TB_at 472 (by decide +kernel) rfl
theorem tw_473 : Cond.methodLink "BodyAccounts$Standing" 40 ⟨"BodyAccounts$Branch", "afterMonth", "(II)I"⟩ ∈ TB := TB_at 473 (by decide +kernel) rfl
theorem tw_474 : Cond.instanceMethod ⟨"BodyAccounts$Branch", "afterMonth", "(II)I"⟩ ∈ TB := TB_at 474 (by decide +kernel) rfl
theorem tw_475 : Cond.selects "BodyAccounts$Branch" ⟨"BodyAccounts$Branch", "afterMonth", "(II)I"⟩ ⟨"BodyAccounts$Branch", "afterMonth", "(II)I"⟩ ∈ TB := TB_at 475 (by decide +kernel) rfl
theorem tw_476 : Cond.code ⟨"BodyAccounts$Branch", "afterMonth", "(II)I"⟩ prog_2_method_14_code 3 (some .int) ∈ TB := TB_at 476 (by decide +kernel) rfl
theorem tw_479 : Cond.instanceMethod ⟨"BodyAccounts", "spend", "(II)I"⟩ ∈ TB := TB_at 479 (by decide +kernel) rfl
theorem tw_480 : Cond.selects "BodyAccounts" ⟨"BodyAccounts", "spend", "(II)I"⟩ ⟨"BodyAccounts", "spend", "(II)I"⟩ ∈ TB := TB_at 480 (by decide +kernel) rfl
theorem tw_481 : Cond.code ⟨"BodyAccounts", "spend", "(II)I"⟩ prog_1_method_11_code 3 (some .int) ∈ TB := TB_at 481 (by decide +kernel) rfl
theorem tw_482 : Cond.methodLink "BodyAccounts" 191 ⟨"BodyAccounts$Standing", "change", "(II)V"⟩ ∈ TB := TB_at 482 (by decide +kernel) rfl
theorem tw_483 : Cond.instanceMethod ⟨"BodyAccounts$Standing", "change", "(II)V"⟩ ∈ TB := TB_at 483 (by decide +kernel) rfl
theorem tw_484 : Cond.selects "BodyAccounts$Standing" ⟨"BodyAccounts$Standing", "change", "(II)V"⟩ ⟨"BodyAccounts$Standing", "change", "(II)V"⟩ ∈ TB := TB_at 484 (by decide +kernel) rfl
theorem tw_485 : Cond.code ⟨"BodyAccounts$Standing", "change", "(II)V"⟩ prog_7_method_4_code 3 none ∈ TB := TB_at 485 (by decide +kernel) rfl
theorem tw_488 : Cond.instanceMethod ⟨"BodyAccounts", "lend", "(III)I"⟩ ∈ TB := TB_at 488 (by decide +kernel) rfl
theorem tw_489 : Cond.selects "BodyAccounts" ⟨"BodyAccounts", "lend", "(III)I"⟩ ⟨"BodyAccounts", "lend", "(III)I"⟩ ∈ TB := TB_at 489 (by decide +kernel) rfl
theorem tw_490 : Cond.code ⟨"BodyAccounts", "lend", "(III)I"⟩ prog_1_method_12_code 4 (some .int) ∈ TB := TB_at 490 (by decide +kernel) rfl
theorem tw_491 : Cond.methodLink "BodyAccounts" 195 ⟨"BodyAccounts$Standing", "hand", "(III)V"⟩ ∈ TB := TB_at 491 (by decide +kernel) rfl
theorem tw_492 : Cond.instanceMethod ⟨"BodyAccounts$Standing", "hand", "(III)V"⟩ ∈ TB := TB_at 492 (by decide +kernel) rfl
theorem tw_493 : Cond.selects "BodyAccounts$Standing" ⟨"BodyAccounts$Standing", "hand", "(III)V"⟩ ⟨"BodyAccounts$Standing", "hand", "(III)V"⟩ ∈ TB := TB_at 493 (by decide +kernel) rfl
theorem tw_494 : Cond.code ⟨"BodyAccounts$Standing", "hand", "(III)V"⟩ prog_7_method_7_code 4 none ∈ TB := TB_at 494 (by decide +kernel) rfl
theorem tw_495 : Cond.methodLink "BodyAccounts$Standing" 44 ⟨"BodyAccounts$Standing", "change", "(II)V"⟩ ∈ TB := TB_at 495 (by decide +kernel) rfl
theorem tw_497 : Cond.instanceMethod ⟨"BodyAccounts", "payBack", "(III)I"⟩ ∈ TB := TB_at 497 (by decide +kernel) rfl
theorem tw_498 : Cond.selects "BodyAccounts" ⟨"BodyAccounts", "payBack", "(III)I"⟩ ⟨"BodyAccounts", "payBack", "(III)I"⟩ ∈ TB := TB_at 498 (by decide +kernel) rfl
theorem tw_499 : Cond.code ⟨"BodyAccounts", "payBack", "(III)I"⟩ prog_1_method_13_code 4 (some .int) ∈ TB := TB_at 499 (by decide +kernel) rfl
theorem tw_501 : Cond.instanceMethod ⟨"BodyAccounts", "drift", "(I)I"⟩ ∈ TB := TB_at 501 (by decide +kernel) rfl
theorem tw_502 : Cond.selects "BodyAccounts" ⟨"BodyAccounts", "drift", "(I)I"⟩ ⟨"BodyAccounts", "drift", "(I)I"⟩ ∈ TB := TB_at 502 (by decide +kernel) rfl
theorem tw_503 : Cond.code ⟨"BodyAccounts", "drift", "(I)I"⟩ prog_1_method_14_code 3 (some .int) ∈ TB := TB_at 503 (by decide +kernel) rfl
theorem tw_504 : Cond.methodLink "BodyAccounts" 199 ⟨"BodyAccounts", "wager", "()V"⟩ ∈ TB := TB_at 504 (by decide +kernel) rfl
theorem tw_506 : Cond.instanceMethod ⟨"BodyAccounts", "wager", "()V"⟩ ∈ TB := TB_at 506 (by decide +kernel) rfl
theorem tw_507 : Cond.code ⟨"BodyAccounts", "wager", "()V"⟩ prog_1_method_42_code 3 none ∈ TB := TB_at 507 (by decide +kernel) rfl
theorem tw_508 : Cond.methodLink "BodyAccounts" 283 ⟨"BodyAccounts", "draw", "(I)I"⟩ ∈ TB := TB_at 508 (by decide +kernel) rfl
theorem tw_510 : Cond.instanceMethod ⟨"BodyAccounts", "draw", "(I)I"⟩ ∈ TB := TB_at 510 (by decide +kernel) rfl
theorem tw_511 : Cond.code ⟨"BodyAccounts", "draw", "(I)I"⟩ prog_1_method_41_code 2 (some .int) ∈ TB := TB_at 511 (by decide +kernel) rfl
theorem tw_512 : Cond.constantLong "BodyAccounts" 276 (1103515245) ∈ TB := TB_at 512 (by decide +kernel) rfl
theorem tw_513 : Cond.constantLong "BodyAccounts" 278 (12345) ∈ TB := TB_at 513 (by decide +kernel) rfl
theorem tw_514 : Cond.constantLong "BodyAccounts" 280 (2147483647) ∈ TB := TB_at 514 (by decide +kernel) rfl
theorem tw_515 : Cond.constant "BodyAccounts" 282 (65536) ∈ TB := TB_at 515 (by decide +kernel) rfl
theorem tw_517 : Cond.instanceMethod ⟨"BodyAccounts", "undo", "()I"⟩ ∈ TB := TB_at 517 (by decide +kernel) rfl
theorem tw_518 : Cond.selects "BodyAccounts" ⟨"BodyAccounts", "undo", "()I"⟩ ⟨"BodyAccounts", "undo", "()I"⟩ ∈ TB := TB_at 518 (by decide +kernel) rfl
theorem tw_519 : Cond.code ⟨"BodyAccounts", "undo", "()I"⟩ prog_1_method_15_code 1 (some .int) ∈ TB := TB_at 519 (by decide +kernel) rfl
theorem tw_520 : Cond.methodLink "BodyAccounts" 202 ⟨"BodyAccounts$Past", "popInto", "(LBodyAccounts$Standing;)V"⟩ ∈ TB := TB_at 520 (by decide +kernel) rfl
theorem tw_521 : Cond.instanceMethod ⟨"BodyAccounts$Past", "popInto", "(LBodyAccounts$Standing;)V"⟩ ∈ TB := TB_at 521 (by decide +kernel) rfl
theorem tw_522 : Cond.selects "BodyAccounts$Past" ⟨"BodyAccounts$Past", "popInto", "(LBodyAccounts$Standing;)V"⟩ ⟨"BodyAccounts$Past", "popInto", "(LBodyAccounts$Standing;)V"⟩ ∈ TB := TB_at 522 (by decide +kernel) rfl
theorem tw_523 : Cond.code ⟨"BodyAccounts$Past", "popInto", "(LBodyAccounts$Standing;)V"⟩ prog_3_method_4_code 2 none ∈ TB := TB_at 523 (by decide +kernel) rfl
theorem tw_525 : Cond.instanceMethod ⟨"BodyAccounts", "hat", "(I)I"⟩ ∈ TB := TB_at 525 (by decide +kernel) rfl
theorem tw_526 : Cond.selects "BodyAccounts" ⟨"BodyAccounts", "hat", "(I)I"⟩ ⟨"BodyAccounts", "hat", "(I)I"⟩ ∈ TB := TB_at 526 (by decide +kernel) rfl
theorem tw_527 : Cond.code ⟨"BodyAccounts", "hat", "(I)I"⟩ prog_1_method_16_code 4 (some .int) ∈ TB := TB_at 527 (by decide +kernel) rfl
theorem tw_528 : Cond.methodLink "BodyAccounts" 205 ⟨"BodyAccounts$Branch", "afterMonth", "(II)I"⟩ ∈ TB := TB_at 528 (by decide +kernel) rfl
theorem tw_530 : Cond.instanceMethod ⟨"BodyAccounts", "able", "(III)I"⟩ ∈ TB := TB_at 530 (by decide +kernel) rfl
theorem tw_531 : Cond.selects "BodyAccounts" ⟨"BodyAccounts", "able", "(III)I"⟩ ⟨"BodyAccounts", "able", "(III)I"⟩ ∈ TB := TB_at 531 (by decide +kernel) rfl
theorem tw_532 : Cond.code ⟨"BodyAccounts", "able", "(III)I"⟩ prog_1_method_17_code 7 (some .int) ∈ TB := TB_at 532 (by decide +kernel) rfl
theorem tw_534 : Cond.instanceMethod ⟨"BodyAccounts", "spending", "(I)I"⟩ ∈ TB := TB_at 534 (by decide +kernel) rfl
theorem tw_535 : Cond.selects "BodyAccounts" ⟨"BodyAccounts", "spending", "(I)I"⟩ ⟨"BodyAccounts", "spending", "(I)I"⟩ ∈ TB := TB_at 535 (by decide +kernel) rfl
theorem tw_536 : Cond.code ⟨"BodyAccounts", "spending", "(I)I"⟩ prog_1_method_18_code 2 (some .int) ∈ TB := TB_at 536 (by decide +kernel) rfl
theorem tw_537 : Cond.methodLink "BodyAccounts" 208 ⟨"BodyAccounts$Slate", "addSpending", "(I)V"⟩ ∈ TB := TB_at 537 (by decide +kernel) rfl
theorem tw_538 : Cond.instanceMethod ⟨"BodyAccounts$Slate", "addSpending", "(I)V"⟩ ∈ TB := TB_at 538 (by decide +kernel) rfl
theorem tw_539 : Cond.selects "BodyAccounts$Slate" ⟨"BodyAccounts$Slate", "addSpending", "(I)V"⟩ ⟨"BodyAccounts$Slate", "addSpending", "(I)V"⟩ ∈ TB := TB_at 539 (by decide +kernel) rfl
theorem tw_540 : Cond.code ⟨"BodyAccounts$Slate", "addSpending", "(I)V"⟩ prog_6_method_4_code 2 none ∈ TB := TB_at 540 (by decide +kernel) rfl
theorem tw_542 : Cond.instanceMethod ⟨"BodyAccounts", "must", "(II)I"⟩ ∈ TB := TB_at 542 (by decide +kernel) rfl
theorem tw_543 : Cond.selects "BodyAccounts" ⟨"BodyAccounts", "must", "(II)I"⟩ ⟨"BodyAccounts", "must", "(II)I"⟩ ∈ TB := TB_at 543 (by decide +kernel) rfl
theorem tw_544 : Cond.code ⟨"BodyAccounts", "must", "(II)I"⟩ prog_1_method_19_code 3 (some .int) ∈ TB := TB_at 544 (by decide +kernel) rfl
theorem tw_545 : Cond.methodLink "BodyAccounts" 211 ⟨"BodyAccounts$Slate", "addMust", "(II)V"⟩ ∈ TB := TB_at 545 (by decide +kernel) rfl
theorem tw_546 : Cond.instanceMethod ⟨"BodyAccounts$Slate", "addMust", "(II)V"⟩ ∈ TB := TB_at 546 (by decide +kernel) rfl
theorem tw_547 : Cond.selects "BodyAccounts$Slate" ⟨"BodyAccounts$Slate", "addMust", "(II)V"⟩ ⟨"BodyAccounts$Slate", "addMust", "(II)V"⟩ ∈ TB := TB_at 547 (by decide +kernel) rfl
theorem tw_548 : Cond.code ⟨"BodyAccounts$Slate", "addMust", "(II)V"⟩ prog_6_method_5_code 3 none ∈ TB := TB_at 548 (by decide +kernel) rfl
theorem tw_550 : Cond.instanceMethod ⟨"BodyAccounts", "plan", "(III)I"⟩ ∈ TB := TB_at 550 (by decide +kernel) rfl
theorem tw_551 : Cond.selects "BodyAccounts" ⟨"BodyAccounts", "plan", "(III)I"⟩ ⟨"BodyAccounts", "plan", "(III)I"⟩ ∈ TB := TB_at 551 (by decide +kernel) rfl
theorem tw_552 : Cond.code ⟨"BodyAccounts", "plan", "(III)I"⟩ prog_1_method_20_code 5 (some .int) ∈ TB := TB_at 552 (by decide +kernel) rfl
theorem tw_553 : Cond.methodLink "BodyAccounts" 214 ⟨"BodyAccounts$Slate", "lastMustMonth", "()I"⟩ ∈ TB := TB_at 553 (by decide +kernel) rfl
theorem tw_554 : Cond.instanceMethod ⟨"BodyAccounts$Slate", "lastMustMonth", "()I"⟩ ∈ TB := TB_at 554 (by decide +kernel) rfl
theorem tw_555 : Cond.selects "BodyAccounts$Slate" ⟨"BodyAccounts$Slate", "lastMustMonth", "()I"⟩ ⟨"BodyAccounts$Slate", "lastMustMonth", "()I"⟩ ∈ TB := TB_at 555 (by decide +kernel) rfl
theorem tw_556 : Cond.code ⟨"BodyAccounts$Slate", "lastMustMonth", "()I"⟩ prog_6_method_8_code 3 (some .int) ∈ TB := TB_at 556 (by decide +kernel) rfl
theorem tw_557 : Cond.methodLink "BodyAccounts$Slate" 47 ⟨"java/lang/Math", "max", "(II)I"⟩ ∈ TB := TB_at 557 (by decide +kernel) rfl
theorem tw_558 : Cond.methodLink "BodyAccounts" 217 ⟨"BodyAccounts$Planner", "find", "(LBodyAccounts$Branch;LBodyAccounts$Slate;III)Z"⟩ ∈ TB := TB_at 558 (by decide +kernel) rfl
theorem tw_559 : Cond.instanceMethod ⟨"BodyAccounts$Planner", "find", "(LBodyAccounts$Branch;LBodyAccounts$Slate;III)Z"⟩ ∈ TB := TB_at 559 (by decide +kernel) rfl
theorem tw_560 : Cond.selects "BodyAccounts$Planner" ⟨"BodyAccounts$Planner", "find", "(LBodyAccounts$Branch;LBodyAccounts$Slate;III)Z"⟩ ⟨"BodyAccounts$Planner", "find", "(LBodyAccounts$Branch;LBodyAccounts$Slate;III)Z"⟩ ∈ TB := TB_at 560 (by decide +kernel) rfl
theorem tw_561 : Cond.code ⟨"BodyAccounts$Planner", "find", "(LBodyAccounts$Branch;LBodyAccounts$Slate;III)Z"⟩ prog_4_method_2_code 8 (some .boolean) ∈ TB := TB_at 561 (by decide +kernel) rfl
theorem tw_562 : Cond.methodLink "BodyAccounts$Planner" 21 ⟨"BodyAccounts$Planner", "give", "(III)V"⟩ ∈ TB := TB_at 562 (by decide +kernel) rfl
theorem tw_564 : Cond.instanceMethod ⟨"BodyAccounts$Planner", "give", "(III)V"⟩ ∈ TB := TB_at 564 (by decide +kernel) rfl
theorem tw_565 : Cond.code ⟨"BodyAccounts$Planner", "give", "(III)V"⟩ prog_4_method_3_code 6 none ∈ TB := TB_at 565 (by decide +kernel) rfl
theorem tw_566 : Cond.methodLink "BodyAccounts$Planner" 25 ⟨"BodyAccounts$Planner", "works", "(LBodyAccounts$Branch;LBodyAccounts$Slate;III)Z"⟩ ∈ TB := TB_at 566 (by decide +kernel) rfl
theorem tw_568 : Cond.instanceMethod ⟨"BodyAccounts$Planner", "works", "(LBodyAccounts$Branch;LBodyAccounts$Slate;III)Z"⟩ ∈ TB := TB_at 568 (by decide +kernel) rfl
theorem tw_569 : Cond.code ⟨"BodyAccounts$Planner", "works", "(LBodyAccounts$Branch;LBodyAccounts$Slate;III)Z"⟩ prog_4_method_4_code 8 (some .boolean) ∈ TB := TB_at 569 (by decide +kernel) rfl
theorem tw_570 : Cond.methodLink "BodyAccounts$Planner" 29 ⟨"BodyAccounts$Branch", "afterMonth", "(II)I"⟩ ∈ TB := TB_at 570 (by decide +kernel) rfl
theorem tw_571 : Cond.methodLink "BodyAccounts$Planner" 35 ⟨"BodyAccounts$Planner", "sumGivenTo", "(ILBodyAccounts$Slate;)I"⟩ ∈ TB := TB_at 571 (by decide +kernel) rfl
theorem tw_573 : Cond.instanceMethod ⟨"BodyAccounts$Planner", "sumGivenTo", "(ILBodyAccounts$Slate;)I"⟩ ∈ TB := TB_at 573 (by decide +kernel) rfl
theorem tw_574 : Cond.code ⟨"BodyAccounts$Planner", "sumGivenTo", "(ILBodyAccounts$Slate;)I"⟩ prog_4_method_5_code 5 (some .int) ∈ TB := TB_at 574 (by decide +kernel) rfl
theorem tw_576 : Cond.methodLink "BodyAccounts$Planner" 43 ⟨"BodyAccounts$Planner", "isAllDoable", "(IILBodyAccounts$Branch;LBodyAccounts$Slate;)Z"⟩ ∈ TB := TB_at 576 (by decide +kernel) rfl
theorem tw_577 : Cond.static ⟨"BodyAccounts$Planner", "isAllDoable", "(IILBodyAccounts$Branch;LBodyAccounts$Slate;)Z"⟩ ∈ TB := TB_at 577 (by decide +kernel) rfl
theorem tw_578 : Cond.code ⟨"BodyAccounts$Planner", "isAllDoable", "(IILBodyAccounts$Branch;LBodyAccounts$Slate;)Z"⟩ prog_4_method_6_code 5 (some .boolean) ∈ TB := TB_at 578 (by decide +kernel) rfl
theorem tw_579 : Cond.methodLink "BodyAccounts$Planner" 59 ⟨"BodyAccounts$Branch", "isDoable", "(II)Z"⟩ ∈ TB := TB_at 579 (by decide +kernel) rfl
theorem tw_581 : Cond.instanceMethod ⟨"BodyAccounts", "asOne", "(II)I"⟩ ∈ TB := TB_at 581 (by decide +kernel) rfl
theorem tw_582 : Cond.selects "BodyAccounts" ⟨"BodyAccounts", "asOne", "(II)I"⟩ ⟨"BodyAccounts", "asOne", "(II)I"⟩ ∈ TB := TB_at 582 (by decide +kernel) rfl
theorem tw_583 : Cond.code ⟨"BodyAccounts", "asOne", "(II)I"⟩ prog_1_method_21_code 6 (some .int) ∈ TB := TB_at 583 (by decide +kernel) rfl
theorem tw_584 : Cond.methodLink "BodyAccounts" 224 ⟨"BodyAccounts", "isDoableOnlyAsOne", "(III)Z"⟩ ∈ TB := TB_at 584 (by decide +kernel) rfl
theorem tw_586 : Cond.instanceMethod ⟨"BodyAccounts", "isDoableOnlyAsOne", "(III)Z"⟩ ∈ TB := TB_at 586 (by decide +kernel) rfl
theorem tw_587 : Cond.code ⟨"BodyAccounts", "isDoableOnlyAsOne", "(III)Z"⟩ prog_1_method_40_code 6 (some .boolean) ∈ TB := TB_at 587 (by decide +kernel) rfl
theorem tw_589 : Cond.instanceMethod ⟨"BodyAccounts", "loan", "(III)I"⟩ ∈ TB := TB_at 589 (by decide +kernel) rfl
theorem tw_590 : Cond.selects "BodyAccounts" ⟨"BodyAccounts", "loan", "(III)I"⟩ ⟨"BodyAccounts", "loan", "(III)I"⟩ ∈ TB := TB_at 590 (by decide +kernel) rfl
theorem tw_591 : Cond.code ⟨"BodyAccounts", "loan", "(III)I"⟩ prog_1_method_22_code 5 (some .int) ∈ TB := TB_at 591 (by decide +kernel) rfl
theorem tw_592 : Cond.methodLink "BodyAccounts" 227 ⟨"BodyAccounts$Branch", "needOf", "(I)I"⟩ ∈ TB := TB_at 592 (by decide +kernel) rfl
theorem tw_594 : Cond.instanceMethod ⟨"BodyAccounts", "order", "(I)I"⟩ ∈ TB := TB_at 594 (by decide +kernel) rfl
theorem tw_595 : Cond.selects "BodyAccounts" ⟨"BodyAccounts", "order", "(I)I"⟩ ⟨"BodyAccounts", "order", "(I)I"⟩ ∈ TB := TB_at 595 (by decide +kernel) rfl
theorem tw_596 : Cond.code ⟨"BodyAccounts", "order", "(I)I"⟩ prog_1_method_23_code 3 (some .int) ∈ TB := TB_at 596 (by decide +kernel) rfl
theorem tw_597 : Cond.methodLink "BodyAccounts" 235 ⟨"BodyAccounts$Branch", "goneAheadOf", "(I)I"⟩ ∈ TB := TB_at 597 (by decide +kernel) rfl
theorem tw_598 : Cond.instanceMethod ⟨"BodyAccounts$Branch", "goneAheadOf", "(I)I"⟩ ∈ TB := TB_at 598 (by decide +kernel) rfl
theorem tw_599 : Cond.selects "BodyAccounts$Branch" ⟨"BodyAccounts$Branch", "goneAheadOf", "(I)I"⟩ ⟨"BodyAccounts$Branch", "goneAheadOf", "(I)I"⟩ ∈ TB := TB_at 599 (by decide +kernel) rfl
theorem tw_600 : Cond.code ⟨"BodyAccounts$Branch", "goneAheadOf", "(I)I"⟩ prog_2_method_15_code 4 (some .int) ∈ TB := TB_at 600 (by decide +kernel) rfl
theorem tw_602 : Cond.instanceMethod ⟨"BodyAccounts", "wage", "(II)I"⟩ ∈ TB := TB_at 602 (by decide +kernel) rfl
theorem tw_603 : Cond.selects "BodyAccounts" ⟨"BodyAccounts", "wage", "(II)I"⟩ ⟨"BodyAccounts", "wage", "(II)I"⟩ ∈ TB := TB_at 603 (by decide +kernel) rfl
theorem tw_604 : Cond.code ⟨"BodyAccounts", "wage", "(II)I"⟩ prog_1_method_24_code 6 (some .int) ∈ TB := TB_at 604 (by decide +kernel) rfl
theorem tw_605 : Cond.constantLong "BodyAccounts" 238 (1000000000) ∈ TB := TB_at 605 (by decide +kernel) rfl
theorem tw_606 : Cond.constantLong "BodyAccounts" 240 (100) ∈ TB := TB_at 606 (by decide +kernel) rfl
theorem tw_608 : Cond.instanceMethod ⟨"BodyAccounts", "see", "(IZ)I"⟩ ∈ TB := TB_at 608 (by decide +kernel) rfl
theorem tw_609 : Cond.selects "BodyAccounts" ⟨"BodyAccounts", "see", "(IZ)I"⟩ ⟨"BodyAccounts", "see", "(IZ)I"⟩ ∈ TB := TB_at 609 (by decide +kernel) rfl
theorem tw_610 : Cond.code ⟨"BodyAccounts", "see", "(IZ)I"⟩ prog_1_method_25_code 3 (some .int) ∈ TB := TB_at 610 (by decide +kernel) rfl
theorem tw_611 : Cond.methodLink "BodyAccounts" 242 ⟨"BodyAccounts$Slate", "addSeen", "(IZ)V"⟩ ∈ TB := TB_at 611 (by decide +kernel) rfl
theorem tw_612 : Cond.instanceMethod ⟨"BodyAccounts$Slate", "addSeen", "(IZ)V"⟩ ∈ TB := TB_at 612 (by decide +kernel) rfl
theorem tw_613 : Cond.selects "BodyAccounts$Slate" ⟨"BodyAccounts$Slate", "addSeen", "(IZ)V"⟩ ⟨"BodyAccounts$Slate", "addSeen", "(IZ)V"⟩ ∈ TB := TB_at 613 (by decide +kernel) rfl
theorem tw_614 : Cond.code ⟨"BodyAccounts$Slate", "addSeen", "(IZ)V"⟩ prog_6_method_6_code 3 none ∈ TB := TB_at 614 (by decide +kernel) rfl
theorem tw_616 : Cond.instanceMethod ⟨"BodyAccounts", "has", "(I)I"⟩ ∈ TB := TB_at 616 (by decide +kernel) rfl
theorem tw_617 : Cond.selects "BodyAccounts" ⟨"BodyAccounts", "has", "(I)I"⟩ ⟨"BodyAccounts", "has", "(I)I"⟩ ∈ TB := TB_at 617 (by decide +kernel) rfl
theorem tw_618 : Cond.code ⟨"BodyAccounts", "has", "(I)I"⟩ prog_1_method_26_code 5 (some .int) ∈ TB := TB_at 618 (by decide +kernel) rfl
theorem tw_619 : Cond.methodLink "BodyAccounts" 246 ⟨"BodyAccounts$Slate", "leastSeen", "(LBodyAccounts$Branch;)I"⟩ ∈ TB := TB_at 619 (by decide +kernel) rfl
theorem tw_620 : Cond.instanceMethod ⟨"BodyAccounts$Slate", "leastSeen", "(LBodyAccounts$Branch;)I"⟩ ∈ TB := TB_at 620 (by decide +kernel) rfl
theorem tw_621 : Cond.selects "BodyAccounts$Slate" ⟨"BodyAccounts$Slate", "leastSeen", "(LBodyAccounts$Branch;)I"⟩ ⟨"BodyAccounts$Slate", "leastSeen", "(LBodyAccounts$Branch;)I"⟩ ∈ TB := TB_at 621 (by decide +kernel) rfl
theorem tw_622 : Cond.code ⟨"BodyAccounts$Slate", "leastSeen", "(LBodyAccounts$Branch;)I"⟩ prog_6_method_9_code 4 (some .int) ∈ TB := TB_at 622 (by decide +kernel) rfl
theorem tw_623 : Cond.methodLink "BodyAccounts" 249 ⟨"BodyAccounts$Slate", "greatestSeen", "(LBodyAccounts$Branch;)I"⟩ ∈ TB := TB_at 623 (by decide +kernel) rfl
theorem tw_624 : Cond.instanceMethod ⟨"BodyAccounts$Slate", "greatestSeen", "(LBodyAccounts$Branch;)I"⟩ ∈ TB := TB_at 624 (by decide +kernel) rfl
theorem tw_625 : Cond.selects "BodyAccounts$Slate" ⟨"BodyAccounts$Slate", "greatestSeen", "(LBodyAccounts$Branch;)I"⟩ ⟨"BodyAccounts$Slate", "greatestSeen", "(LBodyAccounts$Branch;)I"⟩ ∈ TB := TB_at 625 (by decide +kernel) rfl
theorem tw_626 : Cond.code ⟨"BodyAccounts$Slate", "greatestSeen", "(LBodyAccounts$Branch;)I"⟩ prog_6_method_10_code 4 (some .int) ∈ TB := TB_at 626 (by decide +kernel) rfl
theorem tw_627 : Cond.methodLink "BodyAccounts$Slate" 58 ⟨"java/lang/Math", "min", "(II)I"⟩ ∈ TB := TB_at 627 (by decide +kernel) rfl
theorem tw_629 : Cond.instanceMethod ⟨"BodyAccounts", "look", "()I"⟩ ∈ TB := TB_at 629 (by decide +kernel) rfl
theorem tw_630 : Cond.selects "BodyAccounts" ⟨"BodyAccounts", "look", "()I"⟩ ⟨"BodyAccounts", "look", "()I"⟩ ∈ TB := TB_at 630 (by decide +kernel) rfl
theorem tw_631 : Cond.code ⟨"BodyAccounts", "look", "()I"⟩ prog_1_method_27_code 9 (some .int) ∈ TB := TB_at 631 (by decide +kernel) rfl
theorem tw_633 : Cond.instanceMethod ⟨"BodyAccounts", "write", "(II)I"⟩ ∈ TB := TB_at 633 (by decide +kernel) rfl
theorem tw_634 : Cond.selects "BodyAccounts" ⟨"BodyAccounts", "write", "(II)I"⟩ ⟨"BodyAccounts", "write", "(II)I"⟩ ∈ TB := TB_at 634 (by decide +kernel) rfl
theorem tw_635 : Cond.code ⟨"BodyAccounts", "write", "(II)I"⟩ prog_1_method_28_code 3 (some .int) ∈ TB := TB_at 635 (by decide +kernel) rfl
theorem tw_636 : Cond.methodLink "BodyAccounts" 255 ⟨"BodyAccounts$Slate", "addEntry", "(II)V"⟩ ∈ TB := TB_at 636 (by decide +kernel) rfl
theorem tw_637 : Cond.instanceMethod ⟨"BodyAccounts$Slate", "addEntry", "(II)V"⟩ ∈ TB := TB_at 637 (by decide +kernel) rfl
theorem tw_638 : Cond.selects "BodyAccounts$Slate" ⟨"BodyAccounts$Slate", "addEntry", "(II)V"⟩ ⟨"BodyAccounts$Slate", "addEntry", "(II)V"⟩ ∈ TB := TB_at 638 (by decide +kernel) rfl
theorem tw_639 : Cond.code ⟨"BodyAccounts$Slate", "addEntry", "(II)V"⟩ prog_6_method_7_code 3 none ∈ TB := TB_at 639 (by decide +kernel) rfl
theorem tw_641 : Cond.instanceMethod ⟨"BodyAccounts", "tear", "()I"⟩ ∈ TB := TB_at 641 (by decide +kernel) rfl
theorem tw_642 : Cond.selects "BodyAccounts" ⟨"BodyAccounts", "tear", "()I"⟩ ⟨"BodyAccounts", "tear", "()I"⟩ ∈ TB := TB_at 642 (by decide +kernel) rfl
theorem tw_643 : Cond.code ⟨"BodyAccounts", "tear", "()I"⟩ prog_1_method_29_code 2 (some .int) ∈ TB := TB_at 643 (by decide +kernel) rfl
theorem tw_644 : Cond.methodLink "BodyAccounts" 258 ⟨"BodyAccounts$Slate", "countAll", "()I"⟩ ∈ TB := TB_at 644 (by decide +kernel) rfl
theorem tw_645 : Cond.instanceMethod ⟨"BodyAccounts$Slate", "countAll", "()I"⟩ ∈ TB := TB_at 645 (by decide +kernel) rfl
theorem tw_646 : Cond.selects "BodyAccounts$Slate" ⟨"BodyAccounts$Slate", "countAll", "()I"⟩ ⟨"BodyAccounts$Slate", "countAll", "()I"⟩ ∈ TB := TB_at 646 (by decide +kernel) rfl
theorem tw_647 : Cond.code ⟨"BodyAccounts$Slate", "countAll", "()I"⟩ prog_6_method_3_code 1 (some .int) ∈ TB := TB_at 647 (by decide +kernel) rfl
theorem tw_649 : Cond.instanceMethod ⟨"BodyAccounts", "judge", "()I"⟩ ∈ TB := TB_at 649 (by decide +kernel) rfl
theorem tw_650 : Cond.selects "BodyAccounts" ⟨"BodyAccounts", "judge", "()I"⟩ ⟨"BodyAccounts", "judge", "()I"⟩ ∈ TB := TB_at 650 (by decide +kernel) rfl
theorem tw_651 : Cond.code ⟨"BodyAccounts", "judge", "()I"⟩ prog_1_method_30_code 3 (some .int) ∈ TB := TB_at 651 (by decide +kernel) rfl
theorem tw_653 : Cond.instanceMethod ⟨"BodyAccounts", "seed", "(I)I"⟩ ∈ TB := TB_at 653 (by decide +kernel) rfl
theorem tw_654 : Cond.selects "BodyAccounts" ⟨"BodyAccounts", "seed", "(I)I"⟩ ⟨"BodyAccounts", "seed", "(I)I"⟩ ∈ TB := TB_at 654 (by decide +kernel) rfl
theorem tw_655 : Cond.code ⟨"BodyAccounts", "seed", "(I)I"⟩ prog_1_method_31_code 3 (some .int) ∈ TB := TB_at 655 (by decide +kernel) rfl
theorem tw_657 : Cond.instanceMethod ⟨"BodyAccounts", "keep", "(I)I"⟩ ∈ TB := TB_at 657 (by decide +kernel) rfl
theorem tw_658 : Cond.selects "BodyAccounts" ⟨"BodyAccounts", "keep", "(I)I"⟩ ⟨"BodyAccounts", "keep", "(I)I"⟩ ∈ TB := TB_at 658 (by decide +kernel) rfl
theorem tw_659 : Cond.code ⟨"BodyAccounts", "keep", "(I)I"⟩ prog_1_method_32_code 2 (some .int) ∈ TB := TB_at 659 (by decide +kernel) rfl
theorem tw_660 : Cond.methodLink "BodyAccounts" 267 ⟨"BodyAccounts$Standing", "copyFrom", "(LBodyAccounts$Standing;)V"⟩ ∈ TB := TB_at 660 (by decide +kernel) rfl
theorem tw_662 : Cond.instanceMethod ⟨"BodyAccounts", "goBack", "(I)I"⟩ ∈ TB := TB_at 662 (by decide +kernel) rfl
theorem tw_663 : Cond.selects "BodyAccounts" ⟨"BodyAccounts", "goBack", "(I)I"⟩ ⟨"BodyAccounts", "goBack", "(I)I"⟩ ∈ TB := TB_at 663 (by decide +kernel) rfl
theorem tw_664 : Cond.code ⟨"BodyAccounts", "goBack", "(I)I"⟩ prog_1_method_33_code 2 (some .int) ∈ TB := TB_at 664 (by decide +kernel) rfl
theorem tw_671 : Cond.fieldLink "BodyAccountsModel" 7 "BodyAccountsModel" "w" "[I" ∈ TB := TB_at 671 (by decide +kernel) rfl
theorem tw_672 : Cond.fieldLink "BodyAccountsModel" 13 "BodyAccountsModel" "isKept" "[Z" ∈ TB := TB_at 672 (by decide +kernel) rfl
theorem tw_673 : Cond.fieldLink "BodyAccountsModel" 161 "BodyAccountsModel" "undoes" "I" ∈ TB := TB_at 673 (by decide +kernel) rfl
theorem tw_674 : Cond.fieldLink "BodyAccountsModel" 69 "BodyAccountsModel" "parts" "I" ∈ TB := TB_at 674 (by decide +kernel) rfl
theorem tw_675 : Cond.fieldLink "BodyAccountsModel" 17 "BodyAccountsModel" "needs" "[I" ∈ TB := TB_at 675 (by decide +kernel) rfl
theorem tw_676 : Cond.fieldLink "BodyAccountsModel" 76 "BodyAccountsModel" "customers" "I" ∈ TB := TB_at 676 (by decide +kernel) rfl
theorem tw_677 : Cond.fieldLink "BodyAccountsModel" 20 "BodyAccountsModel" "pay" "[I" ∈ TB := TB_at 677 (by decide +kernel) rfl
theorem tw_678 : Cond.fieldLink "BodyAccountsModel" 23 "BodyAccountsModel" "spends" "[I" ∈ TB := TB_at 678 (by decide +kernel) rfl
theorem tw_679 : Cond.fieldLink "BodyAccountsModel" 83 "BodyAccountsModel" "tasks" "I" ∈ TB := TB_at 679 (by decide +kernel) rfl
theorem tw_680 : Cond.fieldLink "BodyAccountsModel" 26 "BodyAccountsModel" "takesParts" "[I" ∈ TB := TB_at 680 (by decide +kernel) rfl
theorem tw_681 : Cond.fieldLink "BodyAccountsModel" 29 "BodyAccountsModel" "text" "[I" ∈ TB := TB_at 681 (by decide +kernel) rfl
theorem tw_682 : Cond.fieldLink "BodyAccountsModel" 89 "BodyAccountsModel" "texted" "I" ∈ TB := TB_at 682 (by decide +kernel) rfl
theorem tw_683 : Cond.fieldLink "BodyAccountsModel" 93 "BodyAccountsModel" "at" "I" ∈ TB := TB_at 683 (by decide +kernel) rfl
theorem tw_684 : Cond.fieldLink "BodyAccountsModel" 100 "BodyAccountsModel" "start" "I" ∈ TB := TB_at 684 (by decide +kernel) rfl
theorem tw_685 : Cond.fieldLink "BodyAccountsModel" 118 "BodyAccountsModel" "number" "I" ∈ TB := TB_at 685 (by decide +kernel) rfl
theorem tw_686 : Cond.fieldLink "BodyAccountsModel" 103 "BodyAccountsModel" "faulty" "I" ∈ TB := TB_at 686 (by decide +kernel) rfl
theorem tw_687 : Cond.fieldLink "BodyAccountsModel" 32 "BodyAccountsModel" "faultAt" "I" ∈ TB := TB_at 687 (by decide +kernel) rfl
theorem tw_688 : Cond.fieldLink "BodyAccountsModel" 124 "BodyAccountsModel" "readParts" "I" ∈ TB := TB_at 688 (by decide +kernel) rfl
theorem tw_689 : Cond.fieldLink "BodyAccountsModel" 36 "BodyAccountsModel" "readNeeds" "[I" ∈ TB := TB_at 689 (by decide +kernel) rfl
theorem tw_690 : Cond.fieldLink "BodyAccountsModel" 127 "BodyAccountsModel" "readCustomers" "I" ∈ TB := TB_at 690 (by decide +kernel) rfl
theorem tw_691 : Cond.fieldLink "BodyAccountsModel" 39 "BodyAccountsModel" "readCustomer" "[I" ∈ TB := TB_at 691 (by decide +kernel) rfl
theorem tw_692 : Cond.fieldLink "BodyAccountsModel" 130 "BodyAccountsModel" "readTasks" "I" ∈ TB := TB_at 692 (by decide +kernel) rfl
theorem tw_693 : Cond.fieldLink "BodyAccountsModel" 42 "BodyAccountsModel" "readTask" "[I" ∈ TB := TB_at 693 (by decide +kernel) rfl
theorem tw_694 : Cond.fieldLink "BodyAccountsModel" 149 "BodyAccountsModel" "spendings" "I" ∈ TB := TB_at 694 (by decide +kernel) rfl
theorem tw_695 : Cond.fieldLink "BodyAccountsModel" 45 "BodyAccountsModel" "spending" "[I" ∈ TB := TB_at 695 (by decide +kernel) rfl
theorem tw_696 : Cond.fieldLink "BodyAccountsModel" 152 "BodyAccountsModel" "musts" "I" ∈ TB := TB_at 696 (by decide +kernel) rfl
theorem tw_697 : Cond.fieldLink "BodyAccountsModel" 48 "BodyAccountsModel" "mustTask" "[I" ∈ TB := TB_at 697 (by decide +kernel) rfl
theorem tw_698 : Cond.fieldLink "BodyAccountsModel" 51 "BodyAccountsModel" "mustMonth" "[I" ∈ TB := TB_at 698 (by decide +kernel) rfl
theorem tw_699 : Cond.fieldLink "BodyAccountsModel" 54 "BodyAccountsModel" "given" "[I" ∈ TB := TB_at 699 (by decide +kernel) rfl
theorem tw_700 : Cond.fieldLink "BodyAccountsModel" 155 "BodyAccountsModel" "seen" "I" ∈ TB := TB_at 700 (by decide +kernel) rfl
theorem tw_701 : Cond.fieldLink "BodyAccountsModel" 57 "BodyAccountsModel" "seenPart" "[I" ∈ TB := TB_at 701 (by decide +kernel) rfl
theorem tw_702 : Cond.fieldLink "BodyAccountsModel" 60 "BodyAccountsModel" "seenThere" "[Z" ∈ TB := TB_at 702 (by decide +kernel) rfl
theorem tw_703 : Cond.fieldLink "BodyAccountsModel" 158 "BodyAccountsModel" "booked" "I" ∈ TB := TB_at 703 (by decide +kernel) rfl
theorem tw_704 : Cond.fieldLink "BodyAccountsModel" 63 "BodyAccountsModel" "bookOf" "[I" ∈ TB := TB_at 704 (by decide +kernel) rfl
theorem tw_705 : Cond.fieldLink "BodyAccountsModel" 66 "BodyAccountsModel" "bookBalance" "[I" ∈ TB := TB_at 705 (by decide +kernel) rfl
theorem tw_778 : Cond.instanceMethod ⟨"BodyAccountsModel", "feed", "(I)I"⟩ ∈ TB := TB_at 778 (by decide +kernel) rfl
theorem tw_779 : Cond.selects "BodyAccountsModel" ⟨"BodyAccountsModel", "feed", "(I)I"⟩ ⟨"BodyAccountsModel", "feed", "(I)I"⟩ ∈ TB := TB_at 779 (by decide +kernel) rfl
theorem tw_780 : Cond.code ⟨"BodyAccountsModel", "feed", "(I)I"⟩ prog_9_method_11_code 2 (some .int) ∈ TB := TB_at 780 (by decide +kernel) rfl
theorem tw_781 : Cond.constantLong "BodyAccountsModel" 86 (255) ∈ TB := TB_at 781 (by decide +kernel) rfl
theorem tw_782 : Cond.methodLink "BodyAccountsModel" 72 ⟨"BodyAccountsModel", "in", "(JJJ)Z"⟩ ∈ TB := TB_at 782 (by decide +kernel) rfl
theorem tw_783 : Cond.static ⟨"BodyAccountsModel", "in", "(JJJ)Z"⟩ ∈ TB := TB_at 783 (by decide +kernel) rfl
theorem tw_784 : Cond.code ⟨"BodyAccountsModel", "in", "(JJJ)Z"⟩ prog_9_method_3_code 6 (some .boolean) ∈ TB := TB_at 784 (by decide +kernel) rfl
theorem tw_785 : Cond.constant "BodyAccountsModel" 88 (-1000000002) ∈ TB := TB_at 785 (by decide +kernel) rfl
theorem tw_786 : Cond.constant "BodyAccountsModel" 92 (-1000000004) ∈ TB := TB_at 786 (by decide +kernel) rfl
theorem tw_788 : Cond.instanceMethod ⟨"BodyAccountsModel", "branch", "()I"⟩ ∈ TB := TB_at 788 (by decide +kernel) rfl
theorem tw_789 : Cond.selects "BodyAccountsModel" ⟨"BodyAccountsModel", "branch", "()I"⟩ ⟨"BodyAccountsModel", "branch", "()I"⟩ ∈ TB := TB_at 789 (by decide +kernel) rfl
theorem tw_790 : Cond.code ⟨"BodyAccountsModel", "branch", "()I"⟩ prog_9_method_21_code 4 (some .int) ∈ TB := TB_at 790 (by decide +kernel) rfl
theorem tw_791 : Cond.methodLink "BodyAccountsModel" 106 ⟨"BodyAccountsModel", "here", "()I"⟩ ∈ TB := TB_at 791 (by decide +kernel) rfl
theorem tw_793 : Cond.instanceMethod ⟨"BodyAccountsModel", "here", "()I"⟩ ∈ TB := TB_at 793 (by decide +kernel) rfl
theorem tw_794 : Cond.code ⟨"BodyAccountsModel", "here", "()I"⟩ prog_9_method_13_code 1 (some .int) ∈ TB := TB_at 794 (by decide +kernel) rfl
theorem tw_795 : Cond.methodLink "BodyAccountsModel" 96 ⟨"BodyAccountsModel", "letterAt", "(I)I"⟩ ∈ TB := TB_at 795 (by decide +kernel) rfl
theorem tw_797 : Cond.instanceMethod ⟨"BodyAccountsModel", "letterAt", "(I)I"⟩ ∈ TB := TB_at 797 (by decide +kernel) rfl
theorem tw_798 : Cond.code ⟨"BodyAccountsModel", "letterAt", "(I)I"⟩ prog_9_method_12_code 2 (some .int) ∈ TB := TB_at 798 (by decide +kernel) rfl
theorem tw_799 : Cond.methodLink "BodyAccountsModel" 146 ⟨"BodyAccountsModel", "takesClause", "()Z"⟩ ∈ TB := TB_at 799 (by decide +kernel) rfl
theorem tw_801 : Cond.instanceMethod ⟨"BodyAccountsModel", "takesClause", "()Z"⟩ ∈ TB := TB_at 801 (by decide +kernel) rfl
theorem tw_802 : Cond.code ⟨"BodyAccountsModel", "takesClause", "()Z"⟩ prog_9_method_20_code 5 (some .boolean) ∈ TB := TB_at 802 (by decide +kernel) rfl
theorem tw_803 : Cond.methodLink "BodyAccountsModel" 110 ⟨"BodyAccountsModel", "fails", "(II)Z"⟩ ∈ TB := TB_at 803 (by decide +kernel) rfl
theorem tw_805 : Cond.instanceMethod ⟨"BodyAccountsModel", "fails", "(II)Z"⟩ ∈ TB := TB_at 805 (by decide +kernel) rfl
theorem tw_806 : Cond.code ⟨"BodyAccountsModel", "fails", "(II)Z"⟩ prog_9_method_14_code 3 (some .boolean) ∈ TB := TB_at 806 (by decide +kernel) rfl
theorem tw_807 : Cond.methodLink "BodyAccountsModel" 133 ⟨"BodyAccountsModel", "takesBranch", "()Z"⟩ ∈ TB := TB_at 807 (by decide +kernel) rfl
theorem tw_809 : Cond.instanceMethod ⟨"BodyAccountsModel", "takesBranch", "()Z"⟩ ∈ TB := TB_at 809 (by decide +kernel) rfl
theorem tw_810 : Cond.code ⟨"BodyAccountsModel", "takesBranch", "()Z"⟩ prog_9_method_17_code 2 (some .boolean) ∈ TB := TB_at 810 (by decide +kernel) rfl
theorem tw_811 : Cond.methodLink "BodyAccountsModel" 121 ⟨"BodyAccountsModel", "takesNumber", "(II)Z"⟩ ∈ TB := TB_at 811 (by decide +kernel) rfl
theorem tw_813 : Cond.instanceMethod ⟨"BodyAccountsModel", "takesNumber", "(II)Z"⟩ ∈ TB := TB_at 813 (by decide +kernel) rfl
theorem tw_814 : Cond.code ⟨"BodyAccountsModel", "takesNumber", "(II)Z"⟩ prog_9_method_16_code 3 (some .boolean) ∈ TB := TB_at 814 (by decide +kernel) rfl
theorem tw_815 : Cond.constantLong "BodyAccountsModel" 114 (48) ∈ TB := TB_at 815 (by decide +kernel) rfl
theorem tw_816 : Cond.constantLong "BodyAccountsModel" 116 (57) ∈ TB := TB_at 816 (by decide +kernel) rfl
theorem tw_817 : Cond.methodLink "BodyAccountsModel" 137 ⟨"BodyAccountsModel", "takesCustomer", "()Z"⟩ ∈ TB := TB_at 817 (by decide +kernel) rfl
theorem tw_819 : Cond.instanceMethod ⟨"BodyAccountsModel", "takesCustomer", "()Z"⟩ ∈ TB := TB_at 819 (by decide +kernel) rfl
theorem tw_820 : Cond.code ⟨"BodyAccountsModel", "takesCustomer", "()Z"⟩ prog_9_method_18_code 2 (some .boolean) ∈ TB := TB_at 820 (by decide +kernel) rfl
theorem tw_821 : Cond.methodLink "BodyAccountsModel" 140 ⟨"BodyAccountsModel", "takesTask", "()Z"⟩ ∈ TB := TB_at 821 (by decide +kernel) rfl
theorem tw_823 : Cond.instanceMethod ⟨"BodyAccountsModel", "takesTask", "()Z"⟩ ∈ TB := TB_at 823 (by decide +kernel) rfl
theorem tw_824 : Cond.code ⟨"BodyAccountsModel", "takesTask", "()Z"⟩ prog_9_method_19_code 1 (some .boolean) ∈ TB := TB_at 824 (by decide +kernel) rfl
theorem tw_825 : Cond.methodLink "BodyAccountsModel" 143 ⟨"BodyAccountsModel", "takes", "(I)Z"⟩ ∈ TB := TB_at 825 (by decide +kernel) rfl
theorem tw_827 : Cond.instanceMethod ⟨"BodyAccountsModel", "takes", "(I)Z"⟩ ∈ TB := TB_at 827 (by decide +kernel) rfl
theorem tw_828 : Cond.code ⟨"BodyAccountsModel", "takes", "(I)Z"⟩ prog_9_method_15_code 2 (some .boolean) ∈ TB := TB_at 828 (by decide +kernel) rfl
theorem tw_830 : Cond.instanceMethod ⟨"BodyAccountsModel", "fault", "()I"⟩ ∈ TB := TB_at 830 (by decide +kernel) rfl
theorem tw_831 : Cond.selects "BodyAccountsModel" ⟨"BodyAccountsModel", "fault", "()I"⟩ ⟨"BodyAccountsModel", "fault", "()I"⟩ ∈ TB := TB_at 831 (by decide +kernel) rfl
theorem tw_832 : Cond.code ⟨"BodyAccountsModel", "fault", "()I"⟩ prog_9_method_22_code 1 (some .int) ∈ TB := TB_at 832 (by decide +kernel) rfl
theorem tw_834 : Cond.instanceMethod ⟨"BodyAccountsModel", "told", "(I)I"⟩ ∈ TB := TB_at 834 (by decide +kernel) rfl
theorem tw_835 : Cond.selects "BodyAccountsModel" ⟨"BodyAccountsModel", "told", "(I)I"⟩ ⟨"BodyAccountsModel", "told", "(I)I"⟩ ∈ TB := TB_at 835 (by decide +kernel) rfl
theorem tw_836 : Cond.code ⟨"BodyAccountsModel", "told", "(I)I"⟩ prog_9_method_30_code 2 (some .int) ∈ TB := TB_at 836 (by decide +kernel) rfl
theorem tw_837 : Cond.methodLink "BodyAccountsModel" 176 ⟨"BodyAccountsModel", "hats", "()I"⟩ ∈ TB := TB_at 837 (by decide +kernel) rfl
theorem tw_839 : Cond.instanceMethod ⟨"BodyAccountsModel", "hats", "()I"⟩ ∈ TB := TB_at 839 (by decide +kernel) rfl
theorem tw_840 : Cond.code ⟨"BodyAccountsModel", "hats", "()I"⟩ prog_9_method_26_code 3 (some .int) ∈ TB := TB_at 840 (by decide +kernel) rfl
theorem tw_841 : Cond.methodLink "BodyAccountsModel" 167 ⟨"BodyAccountsModel", "thereOf", "(I)I"⟩ ∈ TB := TB_at 841 (by decide +kernel) rfl
theorem tw_843 : Cond.instanceMethod ⟨"BodyAccountsModel", "thereOf", "(I)I"⟩ ∈ TB := TB_at 843 (by decide +kernel) rfl
theorem tw_844 : Cond.code ⟨"BodyAccountsModel", "thereOf", "(I)I"⟩ prog_9_method_24_code 2 (some .int) ∈ TB := TB_at 844 (by decide +kernel) rfl
theorem tw_845 : Cond.methodLink "BodyAccountsModel" 164 ⟨"BodyAccountsModel", "thereBy", "(I)I"⟩ ∈ TB := TB_at 845 (by decide +kernel) rfl
theorem tw_847 : Cond.instanceMethod ⟨"BodyAccountsModel", "thereBy", "(I)I"⟩ ∈ TB := TB_at 847 (by decide +kernel) rfl
theorem tw_848 : Cond.code ⟨"BodyAccountsModel", "thereBy", "(I)I"⟩ prog_9_method_23_code 4 (some .int) ∈ TB := TB_at 848 (by decide +kernel) rfl
theorem tw_849 : Cond.methodLink "BodyAccountsModel" 179 ⟨"BodyAccountsModel", "wholes", "(Z)I"⟩ ∈ TB := TB_at 849 (by decide +kernel) rfl
theorem tw_851 : Cond.instanceMethod ⟨"BodyAccountsModel", "wholes", "(Z)I"⟩ ∈ TB := TB_at 851 (by decide +kernel) rfl
theorem tw_852 : Cond.code ⟨"BodyAccountsModel", "wholes", "(Z)I"⟩ prog_9_method_28_code 4 (some .int) ∈ TB := TB_at 852 (by decide +kernel) rfl
theorem tw_853 : Cond.methodLink "BodyAccountsModel" 170 ⟨"BodyAccountsModel", "net", "(I)I"⟩ ∈ TB := TB_at 853 (by decide +kernel) rfl
theorem tw_855 : Cond.instanceMethod ⟨"BodyAccountsModel", "net", "(I)I"⟩ ∈ TB := TB_at 855 (by decide +kernel) rfl
theorem tw_856 : Cond.code ⟨"BodyAccountsModel", "net", "(I)I"⟩ prog_9_method_27_code 4 (some .int) ∈ TB := TB_at 856 (by decide +kernel) rfl
theorem tw_857 : Cond.methodLink "BodyAccountsModel" 173 ⟨"BodyAccountsModel", "whole", "()I"⟩ ∈ TB := TB_at 857 (by decide +kernel) rfl
theorem tw_859 : Cond.instanceMethod ⟨"BodyAccountsModel", "whole", "()I"⟩ ∈ TB := TB_at 859 (by decide +kernel) rfl
theorem tw_860 : Cond.code ⟨"BodyAccountsModel", "whole", "()I"⟩ prog_9_method_25_code 1 (some .int) ∈ TB := TB_at 860 (by decide +kernel) rfl
theorem tw_861 : Cond.methodLink "BodyAccountsModel" 183 ⟨"BodyAccountsModel", "cleared", "()I"⟩ ∈ TB := TB_at 861 (by decide +kernel) rfl
theorem tw_863 : Cond.instanceMethod ⟨"BodyAccountsModel", "cleared", "()I"⟩ ∈ TB := TB_at 863 (by decide +kernel) rfl
theorem tw_864 : Cond.code ⟨"BodyAccountsModel", "cleared", "()I"⟩ prog_9_method_29_code 3 (some .int) ∈ TB := TB_at 864 (by decide +kernel) rfl
theorem tw_866 : Cond.instanceMethod ⟨"BodyAccountsModel", "part", "(I)I"⟩ ∈ TB := TB_at 866 (by decide +kernel) rfl
theorem tw_867 : Cond.selects "BodyAccountsModel" ⟨"BodyAccountsModel", "part", "(I)I"⟩ ⟨"BodyAccountsModel", "part", "(I)I"⟩ ∈ TB := TB_at 867 (by decide +kernel) rfl
theorem tw_868 : Cond.code ⟨"BodyAccountsModel", "part", "(I)I"⟩ prog_9_method_31_code 2 (some .int) ∈ TB := TB_at 868 (by decide +kernel) rfl
theorem tw_869 : Cond.methodLink "BodyAccountsModel" 186 ⟨"BodyAccountsModel", "isPart", "(I)Z"⟩ ∈ TB := TB_at 869 (by decide +kernel) rfl
theorem tw_871 : Cond.instanceMethod ⟨"BodyAccountsModel", "isPart", "(I)Z"⟩ ∈ TB := TB_at 871 (by decide +kernel) rfl
theorem tw_872 : Cond.code ⟨"BodyAccountsModel", "isPart", "(I)Z"⟩ prog_9_method_6_code 2 (some .boolean) ∈ TB := TB_at 872 (by decide +kernel) rfl
theorem tw_873 : Cond.constant "BodyAccountsModel" 189 (-1000000001) ∈ TB := TB_at 873 (by decide +kernel) rfl
theorem tw_875 : Cond.instanceMethod ⟨"BodyAccountsModel", "customer", "(II)I"⟩ ∈ TB := TB_at 875 (by decide +kernel) rfl
theorem tw_876 : Cond.selects "BodyAccountsModel" ⟨"BodyAccountsModel", "customer", "(II)I"⟩ ⟨"BodyAccountsModel", "customer", "(II)I"⟩ ∈ TB := TB_at 876 (by decide +kernel) rfl
theorem tw_877 : Cond.code ⟨"BodyAccountsModel", "customer", "(II)I"⟩ prog_9_method_32_code 3 (some .int) ∈ TB := TB_at 877 (by decide +kernel) rfl
theorem tw_878 : Cond.methodLink "BodyAccountsModel" 79 ⟨"BodyAccountsModel", "isCustomer", "(I)Z"⟩ ∈ TB := TB_at 878 (by decide +kernel) rfl
theorem tw_880 : Cond.instanceMethod ⟨"BodyAccountsModel", "isCustomer", "(I)Z"⟩ ∈ TB := TB_at 880 (by decide +kernel) rfl
theorem tw_881 : Cond.code ⟨"BodyAccountsModel", "isCustomer", "(I)Z"⟩ prog_9_method_7_code 2 (some .boolean) ∈ TB := TB_at 881 (by decide +kernel) rfl
theorem tw_882 : Cond.constant "BodyAccountsModel" 190 (100000) ∈ TB := TB_at 882 (by decide +kernel) rfl
theorem tw_884 : Cond.instanceMethod ⟨"BodyAccountsModel", "owes", "(II)I"⟩ ∈ TB := TB_at 884 (by decide +kernel) rfl
theorem tw_885 : Cond.selects "BodyAccountsModel" ⟨"BodyAccountsModel", "owes", "(II)I"⟩ ⟨"BodyAccountsModel", "owes", "(II)I"⟩ ∈ TB := TB_at 885 (by decide +kernel) rfl
theorem tw_886 : Cond.code ⟨"BodyAccountsModel", "owes", "(II)I"⟩ prog_9_method_33_code 3 (some .int) ∈ TB := TB_at 886 (by decide +kernel) rfl
theorem tw_887 : Cond.methodLink "BodyAccountsModel" 191 ⟨"BodyAccountsModel", "areTwo", "(II)Z"⟩ ∈ TB := TB_at 887 (by decide +kernel) rfl
theorem tw_889 : Cond.instanceMethod ⟨"BodyAccountsModel", "areTwo", "(II)Z"⟩ ∈ TB := TB_at 889 (by decide +kernel) rfl
theorem tw_890 : Cond.code ⟨"BodyAccountsModel", "areTwo", "(II)Z"⟩ prog_9_method_8_code 3 (some .boolean) ∈ TB := TB_at 890 (by decide +kernel) rfl
theorem tw_892 : Cond.instanceMethod ⟨"BodyAccountsModel", "can", "(II)I"⟩ ∈ TB := TB_at 892 (by decide +kernel) rfl
theorem tw_893 : Cond.selects "BodyAccountsModel" ⟨"BodyAccountsModel", "can", "(II)I"⟩ ⟨"BodyAccountsModel", "can", "(II)I"⟩ ∈ TB := TB_at 893 (by decide +kernel) rfl
theorem tw_894 : Cond.code ⟨"BodyAccountsModel", "can", "(II)I"⟩ prog_9_method_35_code 3 (some .int) ∈ TB := TB_at 894 (by decide +kernel) rfl
theorem tw_895 : Cond.methodLink "BodyAccountsModel" 194 ⟨"BodyAccountsModel", "isTask", "(I)Z"⟩ ∈ TB := TB_at 895 (by decide +kernel) rfl
theorem tw_897 : Cond.instanceMethod ⟨"BodyAccountsModel", "isTask", "(I)Z"⟩ ∈ TB := TB_at 897 (by decide +kernel) rfl
theorem tw_898 : Cond.code ⟨"BodyAccountsModel", "isTask", "(I)Z"⟩ prog_9_method_9_code 2 (some .boolean) ∈ TB := TB_at 898 (by decide +kernel) rfl
theorem tw_899 : Cond.methodLink "BodyAccountsModel" 197 ⟨"BodyAccountsModel", "canBy", "(II)Z"⟩ ∈ TB := TB_at 899 (by decide +kernel) rfl
theorem tw_901 : Cond.instanceMethod ⟨"BodyAccountsModel", "canBy", "(II)Z"⟩ ∈ TB := TB_at 901 (by decide +kernel) rfl
theorem tw_902 : Cond.code ⟨"BodyAccountsModel", "canBy", "(II)Z"⟩ prog_9_method_34_code 3 (some .boolean) ∈ TB := TB_at 902 (by decide +kernel) rfl
theorem tw_904 : Cond.instanceMethod ⟨"BodyAccountsModel", "undo", "()I"⟩ ∈ TB := TB_at 904 (by decide +kernel) rfl
theorem tw_905 : Cond.selects "BodyAccountsModel" ⟨"BodyAccountsModel", "undo", "()I"⟩ ⟨"BodyAccountsModel", "undo", "()I"⟩ ∈ TB := TB_at 905 (by decide +kernel) rfl
theorem tw_906 : Cond.code ⟨"BodyAccountsModel", "undo", "()I"⟩ prog_9_method_37_code 2 (some .int) ∈ TB := TB_at 906 (by decide +kernel) rfl
theorem tw_907 : Cond.constant "BodyAccountsModel" 204 (-1000000003) ∈ TB := TB_at 907 (by decide +kernel) rfl
theorem tw_908 : Cond.methodLink "BodyAccountsModel" 200 ⟨"BodyAccountsModel", "copy", "(II)V"⟩ ∈ TB := TB_at 908 (by decide +kernel) rfl
theorem tw_910 : Cond.instanceMethod ⟨"BodyAccountsModel", "copy", "(II)V"⟩ ∈ TB := TB_at 910 (by decide +kernel) rfl
theorem tw_911 : Cond.code ⟨"BodyAccountsModel", "copy", "(II)V"⟩ prog_9_method_5_code 4 none ∈ TB := TB_at 911 (by decide +kernel) rfl
theorem tw_913 : Cond.instanceMethod ⟨"BodyAccountsModel", "month", "(I)I"⟩ ∈ TB := TB_at 913 (by decide +kernel) rfl
theorem tw_914 : Cond.selects "BodyAccountsModel" ⟨"BodyAccountsModel", "month", "(I)I"⟩ ⟨"BodyAccountsModel", "month", "(I)I"⟩ ∈ TB := TB_at 914 (by decide +kernel) rfl
theorem tw_915 : Cond.code ⟨"BodyAccountsModel", "month", "(I)I"⟩ prog_9_method_39_code 4 (some .int) ∈ TB := TB_at 915 (by decide +kernel) rfl
theorem tw_916 : Cond.constantLong "BodyAccountsModel" 208 (60) ∈ TB := TB_at 916 (by decide +kernel) rfl
theorem tw_917 : Cond.methodLink "BodyAccountsModel" 210 ⟨"BodyAccountsModel", "minds", "()V"⟩ ∈ TB := TB_at 917 (by decide +kernel) rfl
theorem tw_919 : Cond.instanceMethod ⟨"BodyAccountsModel", "minds", "()V"⟩ ∈ TB := TB_at 919 (by decide +kernel) rfl
theorem tw_920 : Cond.code ⟨"BodyAccountsModel", "minds", "()V"⟩ prog_9_method_36_code 2 none ∈ TB := TB_at 920 (by decide +kernel) rfl
theorem tw_921 : Cond.methodLink "BodyAccountsModel" 213 ⟨"BodyAccountsModel", "behindMonth", "(II)I"⟩ ∈ TB := TB_at 921 (by decide +kernel) rfl
theorem tw_923 : Cond.instanceMethod ⟨"BodyAccountsModel", "behindMonth", "(II)I"⟩ ∈ TB := TB_at 923 (by decide +kernel) rfl
theorem tw_924 : Cond.code ⟨"BodyAccountsModel", "behindMonth", "(II)I"⟩ prog_9_method_38_code 3 (some .int) ∈ TB := TB_at 924 (by decide +kernel) rfl
theorem tw_925 : Cond.methodLink "BodyAccountsModel" 205 ⟨"BodyAccountsModel", "bounded", "(I)I"⟩ ∈ TB := TB_at 925 (by decide +kernel) rfl
theorem tw_926 : Cond.static ⟨"BodyAccountsModel", "bounded", "(I)I"⟩ ∈ TB := TB_at 926 (by decide +kernel) rfl
theorem tw_927 : Cond.code ⟨"BodyAccountsModel", "bounded", "(I)I"⟩ prog_9_method_10_code 1 (some .int) ∈ TB := TB_at 927 (by decide +kernel) rfl
theorem tw_929 : Cond.instanceMethod ⟨"BodyAccountsModel", "spend", "(II)I"⟩ ∈ TB := TB_at 929 (by decide +kernel) rfl
theorem tw_930 : Cond.selects "BodyAccountsModel" ⟨"BodyAccountsModel", "spend", "(II)I"⟩ ⟨"BodyAccountsModel", "spend", "(II)I"⟩ ∈ TB := TB_at 930 (by decide +kernel) rfl
theorem tw_931 : Cond.code ⟨"BodyAccountsModel", "spend", "(II)I"⟩ prog_9_method_41_code 3 (some .int) ∈ TB := TB_at 931 (by decide +kernel) rfl
theorem tw_932 : Cond.constantLong "BodyAccountsModel" 217 (999) ∈ TB := TB_at 932 (by decide +kernel) rfl
theorem tw_933 : Cond.methodLink "BodyAccountsModel" 219 ⟨"BodyAccountsModel", "changes", "(II)V"⟩ ∈ TB := TB_at 933 (by decide +kernel) rfl
theorem tw_935 : Cond.instanceMethod ⟨"BodyAccountsModel", "changes", "(II)V"⟩ ∈ TB := TB_at 935 (by decide +kernel) rfl
theorem tw_936 : Cond.code ⟨"BodyAccountsModel", "changes", "(II)V"⟩ prog_9_method_40_code 3 none ∈ TB := TB_at 936 (by decide +kernel) rfl
theorem tw_938 : Cond.instanceMethod ⟨"BodyAccountsModel", "lend", "(III)I"⟩ ∈ TB := TB_at 938 (by decide +kernel) rfl
theorem tw_939 : Cond.selects "BodyAccountsModel" ⟨"BodyAccountsModel", "lend", "(III)I"⟩ ⟨"BodyAccountsModel", "lend", "(III)I"⟩ ∈ TB := TB_at 939 (by decide +kernel) rfl
theorem tw_940 : Cond.code ⟨"BodyAccountsModel", "lend", "(III)I"⟩ prog_9_method_43_code 4 (some .int) ∈ TB := TB_at 940 (by decide +kernel) rfl
theorem tw_941 : Cond.methodLink "BodyAccountsModel" 222 ⟨"BodyAccountsModel", "owesMore", "(III)V"⟩ ∈ TB := TB_at 941 (by decide +kernel) rfl
theorem tw_943 : Cond.instanceMethod ⟨"BodyAccountsModel", "owesMore", "(III)V"⟩ ∈ TB := TB_at 943 (by decide +kernel) rfl
theorem tw_944 : Cond.code ⟨"BodyAccountsModel", "owesMore", "(III)V"⟩ prog_9_method_42_code 4 none ∈ TB := TB_at 944 (by decide +kernel) rfl
theorem tw_946 : Cond.instanceMethod ⟨"BodyAccountsModel", "payBack", "(III)I"⟩ ∈ TB := TB_at 946 (by decide +kernel) rfl
theorem tw_947 : Cond.selects "BodyAccountsModel" ⟨"BodyAccountsModel", "payBack", "(III)I"⟩ ⟨"BodyAccountsModel", "payBack", "(III)I"⟩ ∈ TB := TB_at 947 (by decide +kernel) rfl
theorem tw_948 : Cond.code ⟨"BodyAccountsModel", "payBack", "(III)I"⟩ prog_9_method_44_code 4 (some .int) ∈ TB := TB_at 948 (by decide +kernel) rfl
theorem tw_950 : Cond.instanceMethod ⟨"BodyAccountsModel", "drift", "(I)I"⟩ ∈ TB := TB_at 950 (by decide +kernel) rfl
theorem tw_951 : Cond.selects "BodyAccountsModel" ⟨"BodyAccountsModel", "drift", "(I)I"⟩ ⟨"BodyAccountsModel", "drift", "(I)I"⟩ ∈ TB := TB_at 951 (by decide +kernel) rfl
theorem tw_952 : Cond.code ⟨"BodyAccountsModel", "drift", "(I)I"⟩ prog_9_method_46_code 5 (some .int) ∈ TB := TB_at 952 (by decide +kernel) rfl
theorem tw_953 : Cond.methodLink "BodyAccountsModel" 233 ⟨"BodyAccountsModel", "draw", "(I)I"⟩ ∈ TB := TB_at 953 (by decide +kernel) rfl
theorem tw_955 : Cond.instanceMethod ⟨"BodyAccountsModel", "draw", "(I)I"⟩ ∈ TB := TB_at 955 (by decide +kernel) rfl
theorem tw_956 : Cond.code ⟨"BodyAccountsModel", "draw", "(I)I"⟩ prog_9_method_45_code 2 (some .int) ∈ TB := TB_at 956 (by decide +kernel) rfl
theorem tw_957 : Cond.constantLong "BodyAccountsModel" 226 (1103515245) ∈ TB := TB_at 957 (by decide +kernel) rfl
theorem tw_958 : Cond.constantLong "BodyAccountsModel" 228 (12345) ∈ TB := TB_at 958 (by decide +kernel) rfl
theorem tw_959 : Cond.constantLong "BodyAccountsModel" 230 (2147483648) ∈ TB := TB_at 959 (by decide +kernel) rfl
theorem tw_960 : Cond.constant "BodyAccountsModel" 232 (65536) ∈ TB := TB_at 960 (by decide +kernel) rfl
theorem tw_962 : Cond.instanceMethod ⟨"BodyAccountsModel", "hat", "(I)I"⟩ ∈ TB := TB_at 962 (by decide +kernel) rfl
theorem tw_963 : Cond.selects "BodyAccountsModel" ⟨"BodyAccountsModel", "hat", "(I)I"⟩ ⟨"BodyAccountsModel", "hat", "(I)I"⟩ ∈ TB := TB_at 963 (by decide +kernel) rfl
theorem tw_964 : Cond.code ⟨"BodyAccountsModel", "hat", "(I)I"⟩ prog_9_method_47_code 4 (some .int) ∈ TB := TB_at 964 (by decide +kernel) rfl
theorem tw_966 : Cond.instanceMethod ⟨"BodyAccountsModel", "able", "(III)I"⟩ ∈ TB := TB_at 966 (by decide +kernel) rfl
theorem tw_967 : Cond.selects "BodyAccountsModel" ⟨"BodyAccountsModel", "able", "(III)I"⟩ ⟨"BodyAccountsModel", "able", "(III)I"⟩ ∈ TB := TB_at 967 (by decide +kernel) rfl
theorem tw_968 : Cond.code ⟨"BodyAccountsModel", "able", "(III)I"⟩ prog_9_method_48_code 7 (some .int) ∈ TB := TB_at 968 (by decide +kernel) rfl
theorem tw_970 : Cond.instanceMethod ⟨"BodyAccountsModel", "spending", "(I)I"⟩ ∈ TB := TB_at 970 (by decide +kernel) rfl
theorem tw_971 : Cond.selects "BodyAccountsModel" ⟨"BodyAccountsModel", "spending", "(I)I"⟩ ⟨"BodyAccountsModel", "spending", "(I)I"⟩ ∈ TB := TB_at 971 (by decide +kernel) rfl
theorem tw_972 : Cond.code ⟨"BodyAccountsModel", "spending", "(I)I"⟩ prog_9_method_49_code 2 (some .int) ∈ TB := TB_at 972 (by decide +kernel) rfl
theorem tw_974 : Cond.instanceMethod ⟨"BodyAccountsModel", "must", "(II)I"⟩ ∈ TB := TB_at 974 (by decide +kernel) rfl
theorem tw_975 : Cond.selects "BodyAccountsModel" ⟨"BodyAccountsModel", "must", "(II)I"⟩ ⟨"BodyAccountsModel", "must", "(II)I"⟩ ∈ TB := TB_at 975 (by decide +kernel) rfl
theorem tw_976 : Cond.code ⟨"BodyAccountsModel", "must", "(II)I"⟩ prog_9_method_50_code 3 (some .int) ∈ TB := TB_at 976 (by decide +kernel) rfl
theorem tw_977 : Cond.constantLong "BodyAccountsModel" 236 (3) ∈ TB := TB_at 977 (by decide +kernel) rfl
theorem tw_979 : Cond.instanceMethod ⟨"BodyAccountsModel", "plan", "(III)I"⟩ ∈ TB := TB_at 979 (by decide +kernel) rfl
theorem tw_980 : Cond.selects "BodyAccountsModel" ⟨"BodyAccountsModel", "plan", "(III)I"⟩ ⟨"BodyAccountsModel", "plan", "(III)I"⟩ ∈ TB := TB_at 980 (by decide +kernel) rfl
theorem tw_981 : Cond.code ⟨"BodyAccountsModel", "plan", "(III)I"⟩ prog_9_method_52_code 9 (some .int) ∈ TB := TB_at 981 (by decide +kernel) rfl
theorem tw_982 : Cond.constantLong "BodyAccountsModel" 238 (4) ∈ TB := TB_at 982 (by decide +kernel) rfl
theorem tw_983 : Cond.methodLink "BodyAccountsModel" 240 ⟨"BodyAccountsModel", "isPlan", "(II)Z"⟩ ∈ TB := TB_at 983 (by decide +kernel) rfl
theorem tw_985 : Cond.instanceMethod ⟨"BodyAccountsModel", "isPlan", "(II)Z"⟩ ∈ TB := TB_at 985 (by decide +kernel) rfl
theorem tw_986 : Cond.code ⟨"BodyAccountsModel", "isPlan", "(II)Z"⟩ prog_9_method_51_code 6 (some .boolean) ∈ TB := TB_at 986 (by decide +kernel) rfl
theorem tw_988 : Cond.instanceMethod ⟨"BodyAccountsModel", "asOne", "(II)I"⟩ ∈ TB := TB_at 988 (by decide +kernel) rfl
theorem tw_989 : Cond.selects "BodyAccountsModel" ⟨"BodyAccountsModel", "asOne", "(II)I"⟩ ⟨"BodyAccountsModel", "asOne", "(II)I"⟩ ∈ TB := TB_at 989 (by decide +kernel) rfl
theorem tw_990 : Cond.code ⟨"BodyAccountsModel", "asOne", "(II)I"⟩ prog_9_method_53_code 7 (some .int) ∈ TB := TB_at 990 (by decide +kernel) rfl
theorem tw_992 : Cond.instanceMethod ⟨"BodyAccountsModel", "loan", "(III)I"⟩ ∈ TB := TB_at 992 (by decide +kernel) rfl
theorem tw_993 : Cond.selects "BodyAccountsModel" ⟨"BodyAccountsModel", "loan", "(III)I"⟩ ⟨"BodyAccountsModel", "loan", "(III)I"⟩ ∈ TB := TB_at 993 (by decide +kernel) rfl
theorem tw_994 : Cond.code ⟨"BodyAccountsModel", "loan", "(III)I"⟩ prog_9_method_54_code 6 (some .int) ∈ TB := TB_at 994 (by decide +kernel) rfl
theorem tw_995 : Cond.constant "BodyAccountsModel" 243 (-1000000) ∈ TB := TB_at 995 (by decide +kernel) rfl
theorem tw_996 : Cond.methodLink "BodyAccountsModel" 244 ⟨"BodyAccountsModel", "isIn", "(II)Z"⟩ ∈ TB := TB_at 996 (by decide +kernel) rfl
theorem tw_997 : Cond.static ⟨"BodyAccountsModel", "isIn", "(II)Z"⟩ ∈ TB := TB_at 997 (by decide +kernel) rfl
theorem tw_998 : Cond.code ⟨"BodyAccountsModel", "isIn", "(II)Z"⟩ prog_9_method_4_code 2 (some .boolean) ∈ TB := TB_at 998 (by decide +kernel) rfl
theorem tw_1000 : Cond.instanceMethod ⟨"BodyAccountsModel", "order", "(I)I"⟩ ∈ TB := TB_at 1000 (by decide +kernel) rfl
theorem tw_1001 : Cond.selects "BodyAccountsModel" ⟨"BodyAccountsModel", "order", "(I)I"⟩ ⟨"BodyAccountsModel", "order", "(I)I"⟩ ∈ TB := TB_at 1001 (by decide +kernel) rfl
theorem tw_1002 : Cond.code ⟨"BodyAccountsModel", "order", "(I)I"⟩ prog_9_method_55_code 6 (some .int) ∈ TB := TB_at 1002 (by decide +kernel) rfl
theorem tw_1004 : Cond.instanceMethod ⟨"BodyAccountsModel", "wage", "(II)I"⟩ ∈ TB := TB_at 1004 (by decide +kernel) rfl
theorem tw_1005 : Cond.selects "BodyAccountsModel" ⟨"BodyAccountsModel", "wage", "(II)I"⟩ ⟨"BodyAccountsModel", "wage", "(II)I"⟩ ∈ TB := TB_at 1005 (by decide +kernel) rfl
theorem tw_1006 : Cond.code ⟨"BodyAccountsModel", "wage", "(II)I"⟩ prog_9_method_56_code 6 (some .int) ∈ TB := TB_at 1006 (by decide +kernel) rfl
theorem tw_1007 : Cond.constantLong "BodyAccountsModel" 247 (100) ∈ TB := TB_at 1007 (by decide +kernel) rfl
theorem tw_1008 : Cond.constantLong "BodyAccountsModel" 249 (1000000000) ∈ TB := TB_at 1008 (by decide +kernel) rfl
theorem tw_1010 : Cond.instanceMethod ⟨"BodyAccountsModel", "see", "(IZ)I"⟩ ∈ TB := TB_at 1010 (by decide +kernel) rfl
theorem tw_1011 : Cond.selects "BodyAccountsModel" ⟨"BodyAccountsModel", "see", "(IZ)I"⟩ ⟨"BodyAccountsModel", "see", "(IZ)I"⟩ ∈ TB := TB_at 1011 (by decide +kernel) rfl
theorem tw_1012 : Cond.code ⟨"BodyAccountsModel", "see", "(IZ)I"⟩ prog_9_method_57_code 3 (some .int) ∈ TB := TB_at 1012 (by decide +kernel) rfl
theorem tw_1014 : Cond.instanceMethod ⟨"BodyAccountsModel", "has", "(I)I"⟩ ∈ TB := TB_at 1014 (by decide +kernel) rfl
theorem tw_1015 : Cond.selects "BodyAccountsModel" ⟨"BodyAccountsModel", "has", "(I)I"⟩ ⟨"BodyAccountsModel", "has", "(I)I"⟩ ∈ TB := TB_at 1015 (by decide +kernel) rfl
theorem tw_1016 : Cond.code ⟨"BodyAccountsModel", "has", "(I)I"⟩ prog_9_method_59_code 6 (some .int) ∈ TB := TB_at 1016 (by decide +kernel) rfl
theorem tw_1017 : Cond.constantLong "BodyAccountsModel" 251 (2) ∈ TB := TB_at 1017 (by decide +kernel) rfl
theorem tw_1018 : Cond.methodLink "BodyAccountsModel" 253 ⟨"BodyAccountsModel", "isSeen", "(I)Z"⟩ ∈ TB := TB_at 1018 (by decide +kernel) rfl
theorem tw_1020 : Cond.instanceMethod ⟨"BodyAccountsModel", "isSeen", "(I)Z"⟩ ∈ TB := TB_at 1020 (by decide +kernel) rfl
theorem tw_1021 : Cond.code ⟨"BodyAccountsModel", "isSeen", "(I)Z"⟩ prog_9_method_58_code 4 (some .boolean) ∈ TB := TB_at 1021 (by decide +kernel) rfl
theorem tw_1023 : Cond.instanceMethod ⟨"BodyAccountsModel", "look", "()I"⟩ ∈ TB := TB_at 1023 (by decide +kernel) rfl
theorem tw_1024 : Cond.selects "BodyAccountsModel" ⟨"BodyAccountsModel", "look", "()I"⟩ ⟨"BodyAccountsModel", "look", "()I"⟩ ∈ TB := TB_at 1024 (by decide +kernel) rfl
theorem tw_1025 : Cond.code ⟨"BodyAccountsModel", "look", "()I"⟩ prog_9_method_60_code 7 (some .int) ∈ TB := TB_at 1025 (by decide +kernel) rfl
theorem tw_1026 : Cond.methodLink "BodyAccountsModel" 256 ⟨"BodyAccountsModel", "has", "(I)I"⟩ ∈ TB := TB_at 1026 (by decide +kernel) rfl
theorem tw_1028 : Cond.instanceMethod ⟨"BodyAccountsModel", "write", "(II)I"⟩ ∈ TB := TB_at 1028 (by decide +kernel) rfl
theorem tw_1029 : Cond.selects "BodyAccountsModel" ⟨"BodyAccountsModel", "write", "(II)I"⟩ ⟨"BodyAccountsModel", "write", "(II)I"⟩ ∈ TB := TB_at 1029 (by decide +kernel) rfl
theorem tw_1030 : Cond.code ⟨"BodyAccountsModel", "write", "(II)I"⟩ prog_9_method_61_code 3 (some .int) ∈ TB := TB_at 1030 (by decide +kernel) rfl
theorem tw_1031 : Cond.constantLong "BodyAccountsModel" 259 (20000) ∈ TB := TB_at 1031 (by decide +kernel) rfl
theorem tw_1033 : Cond.instanceMethod ⟨"BodyAccountsModel", "tear", "()I"⟩ ∈ TB := TB_at 1033 (by decide +kernel) rfl
theorem tw_1034 : Cond.selects "BodyAccountsModel" ⟨"BodyAccountsModel", "tear", "()I"⟩ ⟨"BodyAccountsModel", "tear", "()I"⟩ ∈ TB := TB_at 1034 (by decide +kernel) rfl
theorem tw_1035 : Cond.code ⟨"BodyAccountsModel", "tear", "()I"⟩ prog_9_method_62_code 2 (some .int) ∈ TB := TB_at 1035 (by decide +kernel) rfl
theorem tw_1037 : Cond.instanceMethod ⟨"BodyAccountsModel", "judge", "()I"⟩ ∈ TB := TB_at 1037 (by decide +kernel) rfl
theorem tw_1038 : Cond.selects "BodyAccountsModel" ⟨"BodyAccountsModel", "judge", "()I"⟩ ⟨"BodyAccountsModel", "judge", "()I"⟩ ∈ TB := TB_at 1038 (by decide +kernel) rfl
theorem tw_1039 : Cond.code ⟨"BodyAccountsModel", "judge", "()I"⟩ prog_9_method_63_code 2 (some .int) ∈ TB := TB_at 1039 (by decide +kernel) rfl
theorem tw_1041 : Cond.instanceMethod ⟨"BodyAccountsModel", "seed", "(I)I"⟩ ∈ TB := TB_at 1041 (by decide +kernel) rfl
theorem tw_1042 : Cond.selects "BodyAccountsModel" ⟨"BodyAccountsModel", "seed", "(I)I"⟩ ⟨"BodyAccountsModel", "seed", "(I)I"⟩ ∈ TB := TB_at 1042 (by decide +kernel) rfl
theorem tw_1043 : Cond.code ⟨"BodyAccountsModel", "seed", "(I)I"⟩ prog_9_method_64_code 3 (some .int) ∈ TB := TB_at 1043 (by decide +kernel) rfl
theorem tw_1045 : Cond.instanceMethod ⟨"BodyAccountsModel", "keep", "(I)I"⟩ ∈ TB := TB_at 1045 (by decide +kernel) rfl
theorem tw_1046 : Cond.selects "BodyAccountsModel" ⟨"BodyAccountsModel", "keep", "(I)I"⟩ ⟨"BodyAccountsModel", "keep", "(I)I"⟩ ∈ TB := TB_at 1046 (by decide +kernel) rfl
theorem tw_1047 : Cond.code ⟨"BodyAccountsModel", "keep", "(I)I"⟩ prog_9_method_65_code 2 (some .int) ∈ TB := TB_at 1047 (by decide +kernel) rfl
theorem tw_1049 : Cond.instanceMethod ⟨"BodyAccountsModel", "goBack", "(I)I"⟩ ∈ TB := TB_at 1049 (by decide +kernel) rfl
theorem tw_1050 : Cond.selects "BodyAccountsModel" ⟨"BodyAccountsModel", "goBack", "(I)I"⟩ ⟨"BodyAccountsModel", "goBack", "(I)I"⟩ ∈ TB := TB_at 1050 (by decide +kernel) rfl
theorem tw_1051 : Cond.code ⟨"BodyAccountsModel", "goBack", "(I)I"⟩ prog_9_method_66_code 2 (some .int) ∈ TB := TB_at 1051 (by decide +kernel) rfl
def y_BA_within : MethodName := ⟨"BodyAccounts", "within", "(III)Z"⟩
abbrev Y_BA_within : YT := (prog_1_method_34_code, "BodyAccounts", 3, 0)
theorem cf_BA_within : CFs y_BA_within Y_BA_within (some .boolean) 3 := ⟨tw_276, tw_48, tw_277, by decide +kernel⟩
def y_Re_append : MethodName := ⟨"BodyAccounts$Reader", "append", "(I)V"⟩
abbrev Y_Re_append : YT := (prog_5_method_2_code, "BodyAccounts$Reader", 2, 0)
theorem cf_Re_append : CFv y_Re_append Y_Re_append none 1 := ⟨tw_281, tw_282, tw_49, tw_283, by decide +kernel⟩
def y_BA_feed : MethodName := ⟨"BodyAccounts", "feed", "(I)I"⟩
abbrev Y_BA_feed : YT := (prog_1_method_2_code, "BodyAccounts", 2, 1)
theorem cf_BA_feed : CFv y_BA_feed Y_BA_feed (some .int) 1 := ⟨tw_272, tw_273, tw_48, tw_274, by decide +kernel⟩
def y_Br_clear : MethodName := ⟨"BodyAccounts$Branch", "clear", "()V"⟩
abbrev Y_Br_clear : YT := (prog_2_method_2_code, "BodyAccounts$Branch", 1, 0)
theorem cf_Br_clear : CFv y_Br_clear Y_Br_clear none 0 := ⟨tw_293, tw_294, tw_54, tw_295, by decide +kernel⟩
def y_Re_letter : MethodName := ⟨"BodyAccounts$Reader", "letter", "()I"⟩
abbrev Y_Re_letter : YT := (prog_5_method_10_code, "BodyAccounts$Reader", 1, 0)
theorem cf_Re_letter : CFv y_Re_letter Y_Re_letter (some .int) 0 := ⟨tw_302, tw_1, tw_49, tw_303, by decide +kernel⟩
def y_Re_skipBlanks : MethodName := ⟨"BodyAccounts$Reader", "skipBlanks", "()V"⟩
abbrev Y_Re_skipBlanks : YT := (prog_5_method_9_code, "BodyAccounts$Reader", 1, 1)
theorem cf_Re_skipBlanks : CFv y_Re_skipBlanks Y_Re_skipBlanks none 0 := ⟨tw_298, tw_0, tw_49, tw_299, by decide +kernel⟩
def y_Br_isThere : MethodName := ⟨"BodyAccounts$Branch", "isThere", "()Z"⟩
abbrev Y_Br_isThere : YT := (prog_2_method_6_code, "BodyAccounts$Branch", 1, 0)
theorem cf_Br_isThere : CFv y_Br_isThere Y_Br_isThere (some .boolean) 0 := ⟨tw_309, tw_310, tw_54, tw_311, by decide +kernel⟩
def y_Re_isFigure : MethodName := ⟨"BodyAccounts$Reader", "isFigure", "(I)Z"⟩
abbrev Y_Re_isFigure : YT := (prog_5_method_11_code, "BodyAccounts$Reader", 1, 0)
theorem cf_Re_isFigure : CFs y_Re_isFigure Y_Re_isFigure (some .boolean) 1 := ⟨tw_321, tw_49, tw_322, by decide +kernel⟩
def y_Re_fail : MethodName := ⟨"BodyAccounts$Reader", "fail", "(II)V"⟩
abbrev Y_Re_fail : YT := (prog_5_method_12_code, "BodyAccounts$Reader", 3, 0)
theorem cf_Re_fail : CFv y_Re_fail Y_Re_fail none 2 := ⟨tw_325, tw_5, tw_49, tw_326, by decide +kernel⟩
def y_Re_readNumber : MethodName := ⟨"BodyAccounts$Reader", "readNumber", "(I)I"⟩
abbrev Y_Re_readNumber : YT := (prog_5_method_7_code, "BodyAccounts$Reader", 4, 2)
theorem cf_Re_readNumber : CFv y_Re_readNumber Y_Re_readNumber (some .int) 1 := ⟨tw_318, tw_4, tw_49, tw_319, by decide +kernel⟩
def y_Br_addPart : MethodName := ⟨"BodyAccounts$Branch", "addPart", "(I)V"⟩
abbrev Y_Br_addPart : YT := (prog_2_method_3_code, "BodyAccounts$Branch", 2, 0)
theorem cf_Br_addPart : CFv y_Br_addPart Y_Br_addPart none 1 := ⟨tw_328, tw_329, tw_54, tw_330, by decide +kernel⟩
def y_Re_readWord : MethodName := ⟨"BodyAccounts$Reader", "readWord", "(I)V"⟩
abbrev Y_Re_readWord : YT := (prog_5_method_8_code, "BodyAccounts$Reader", 2, 2)
theorem cf_Re_readWord : CFv y_Re_readWord Y_Re_readWord none 1 := ⟨tw_333, tw_6, tw_49, tw_334, by decide +kernel⟩
def y_Re_readParts : MethodName := ⟨"BodyAccounts$Reader", "readParts", "(LBodyAccounts$Branch;)V"⟩
abbrev Y_Re_readParts : YT := (prog_5_method_5_code, "BodyAccounts$Reader", 3, 3)
theorem cf_Re_readParts : CFv y_Re_readParts Y_Re_readParts none 1 := ⟨tw_314, tw_3, tw_49, tw_315, by decide +kernel⟩
def y_Br_addCustomer : MethodName := ⟨"BodyAccounts$Branch", "addCustomer", "(III)V"⟩
abbrev Y_Br_addCustomer : YT := (prog_2_method_4_code, "BodyAccounts$Branch", 4, 0)
theorem cf_Br_addCustomer : CFv y_Br_addCustomer Y_Br_addCustomer none 3 := ⟨tw_340, tw_341, tw_54, tw_342, by decide +kernel⟩
def y_Re_readCustomer : MethodName := ⟨"BodyAccounts$Reader", "readCustomer", "(LBodyAccounts$Branch;)V"⟩
abbrev Y_Re_readCustomer : YT := (prog_5_method_6_code, "BodyAccounts$Reader", 5, 3)
theorem cf_Re_readCustomer : CFv y_Re_readCustomer Y_Re_readCustomer none 1 := ⟨tw_337, tw_7, tw_49, tw_338, by decide +kernel⟩
def y_Br_allParts : MethodName := ⟨"BodyAccounts$Branch", "allParts", "()I"⟩
abbrev Y_Br_allParts : YT := (prog_2_method_10_code, "BodyAccounts$Branch", 1, 0)
theorem cf_Br_allParts : CFv y_Br_allParts Y_Br_allParts (some .int) 0 := ⟨tw_344, tw_345, tw_54, tw_346, by decide +kernel⟩
def y_Br_addTask : MethodName := ⟨"BodyAccounts$Branch", "addTask", "(I)V"⟩
abbrev Y_Br_addTask : YT := (prog_2_method_5_code, "BodyAccounts$Branch", 2, 0)
theorem cf_Br_addTask : CFv y_Br_addTask Y_Br_addTask none 1 := ⟨tw_348, tw_349, tw_54, tw_350, by decide +kernel⟩
def y_Re_readClause : MethodName := ⟨"BodyAccounts$Reader", "readClause", "(LBodyAccounts$Branch;)V"⟩
abbrev Y_Re_readClause : YT := (prog_5_method_4_code, "BodyAccounts$Reader", 3, 4)
theorem cf_Re_readClause : CFv y_Re_readClause Y_Re_readClause none 1 := ⟨tw_306, tw_2, tw_49, tw_307, by decide +kernel⟩
def y_Re_readInto : MethodName := ⟨"BodyAccounts$Reader", "readInto", "(LBodyAccounts$Branch;)I"⟩
abbrev Y_Re_readInto : YT := (prog_5_method_3_code, "BodyAccounts$Reader", 3, 5)
theorem cf_Re_readInto : CFv y_Re_readInto Y_Re_readInto (some .int) 1 := ⟨tw_289, tw_290, tw_49, tw_291, by decide +kernel⟩
def y_St_begin : MethodName := ⟨"BodyAccounts$Standing", "begin", "(LBodyAccounts$Branch;)V"⟩
abbrev Y_St_begin : YT := (prog_7_method_2_code, "BodyAccounts$Standing", 3, 0)
theorem cf_St_begin : CFv y_St_begin Y_St_begin none 1 := ⟨tw_352, tw_353, tw_50, tw_354, by decide +kernel⟩
def y_Pa_clear : MethodName := ⟨"BodyAccounts$Past", "clear", "()V"⟩
abbrev Y_Pa_clear : YT := (prog_3_method_2_code, "BodyAccounts$Past", 1, 0)
theorem cf_Pa_clear : CFv y_Pa_clear Y_Pa_clear none 0 := ⟨tw_356, tw_357, tw_51, tw_358, by decide +kernel⟩
def y_Sl_clear : MethodName := ⟨"BodyAccounts$Slate", "clear", "()V"⟩
abbrev Y_Sl_clear : YT := (prog_6_method_2_code, "BodyAccounts$Slate", 1, 0)
theorem cf_Sl_clear : CFv y_Sl_clear Y_Sl_clear none 0 := ⟨tw_360, tw_361, tw_52, tw_362, by decide +kernel⟩
def y_BA_branch : MethodName := ⟨"BodyAccounts", "branch", "()I"⟩
abbrev Y_BA_branch : YT := (prog_1_method_3_code, "BodyAccounts", 4, 6)
theorem cf_BA_branch : CFv y_BA_branch Y_BA_branch (some .int) 0 := ⟨tw_285, tw_286, tw_48, tw_287, by decide +kernel⟩
def y_BA_fault : MethodName := ⟨"BodyAccounts", "fault", "()I"⟩
abbrev Y_BA_fault : YT := (prog_1_method_4_code, "BodyAccounts", 1, 0)
theorem cf_BA_fault : CFv y_BA_fault Y_BA_fault (some .int) 0 := ⟨tw_364, tw_365, tw_48, tw_366, by decide +kernel⟩
def y_Br_partsAt : MethodName := ⟨"BodyAccounts$Branch", "partsAt", "(I)I"⟩
abbrev Y_Br_partsAt : YT := (prog_2_method_11_code, "BodyAccounts$Branch", 4, 0)
theorem cf_Br_partsAt : CFv y_Br_partsAt Y_Br_partsAt (some .int) 1 := ⟨tw_376, tw_377, tw_54, tw_378, by decide +kernel⟩
def y_BA_hats : MethodName := ⟨"BodyAccounts", "hats", "()I"⟩
abbrev Y_BA_hats : YT := (prog_1_method_37_code, "BodyAccounts", 3, 1)
theorem cf_BA_hats : CFv y_BA_hats Y_BA_hats (some .int) 0 := ⟨tw_373, tw_8, tw_48, tw_374, by decide +kernel⟩
def y_St_debt : MethodName := ⟨"BodyAccounts$Standing", "debt", "(II)I"⟩
abbrev Y_St_debt : YT := (prog_7_method_6_code, "BodyAccounts$Standing", 3, 0)
theorem cf_St_debt : CFv y_St_debt Y_St_debt (some .int) 2 := ⟨tw_388, tw_389, tw_50, tw_390, by decide +kernel⟩
def y_St_netOf : MethodName := ⟨"BodyAccounts$Standing", "netOf", "(I)I"⟩
abbrev Y_St_netOf : YT := (prog_7_method_8_code, "BodyAccounts$Standing", 4, 1)
theorem cf_St_netOf : CFv y_St_netOf Y_St_netOf (some .int) 1 := ⟨tw_384, tw_385, tw_50, tw_386, by decide +kernel⟩
def y_BA_bounded : MethodName := ⟨"BodyAccounts", "bounded", "(I)I"⟩
abbrev Y_BA_bounded : YT := (prog_1_method_35_code, "BodyAccounts", 1, 1)
theorem cf_BA_bounded : CFs y_BA_bounded Y_BA_bounded (some .int) 1 := ⟨tw_392, tw_48, tw_393, by decide +kernel⟩
def y_BA_wholes : MethodName := ⟨"BodyAccounts", "wholes", "(Z)I"⟩
abbrev Y_BA_wholes : YT := (prog_1_method_38_code, "BodyAccounts", 5, 2)
theorem cf_BA_wholes : CFv y_BA_wholes Y_BA_wholes (some .int) 1 := ⟨tw_381, tw_9, tw_48, tw_382, by decide +kernel⟩
def y_BA_cleared : MethodName := ⟨"BodyAccounts", "cleared", "()I"⟩
abbrev Y_BA_cleared : YT := (prog_1_method_39_code, "BodyAccounts", 3, 2)
theorem cf_BA_cleared : CFv y_BA_cleared Y_BA_cleared (some .int) 0 := ⟨tw_403, tw_10, tw_48, tw_404, by decide +kernel⟩
def y_BA_told : MethodName := ⟨"BodyAccounts", "told", "(I)I"⟩
abbrev Y_BA_told : YT := (prog_1_method_5_code, "BodyAccounts", 2, 3)
theorem cf_BA_told : CFv y_BA_told Y_BA_told (some .int) 1 := ⟨tw_368, tw_369, tw_48, tw_370, by decide +kernel⟩
def y_Br_hasPart : MethodName := ⟨"BodyAccounts$Branch", "hasPart", "(I)Z"⟩
abbrev Y_Br_hasPart : YT := (prog_2_method_7_code, "BodyAccounts$Branch", 2, 1)
theorem cf_Br_hasPart : CFv y_Br_hasPart Y_Br_hasPart (some .boolean) 1 := ⟨tw_410, tw_411, tw_54, tw_412, by decide +kernel⟩
def y_BA_part : MethodName := ⟨"BodyAccounts", "part", "(I)I"⟩
abbrev Y_BA_part : YT := (prog_1_method_6_code, "BodyAccounts", 2, 2)
theorem cf_BA_part : CFv y_BA_part Y_BA_part (some .int) 1 := ⟨tw_406, tw_407, tw_48, tw_408, by decide +kernel⟩
def y_Br_hasCustomer : MethodName := ⟨"BodyAccounts$Branch", "hasCustomer", "(I)Z"⟩
abbrev Y_Br_hasCustomer : YT := (prog_2_method_8_code, "BodyAccounts$Branch", 2, 1)
theorem cf_Br_hasCustomer : CFv y_Br_hasCustomer Y_Br_hasCustomer (some .boolean) 1 := ⟨tw_420, tw_421, tw_54, tw_422, by decide +kernel⟩
def y_BA_customer : MethodName := ⟨"BodyAccounts", "customer", "(II)I"⟩
abbrev Y_BA_customer : YT := (prog_1_method_7_code, "BodyAccounts", 3, 2)
theorem cf_BA_customer : CFv y_BA_customer Y_BA_customer (some .int) 2 := ⟨tw_416, tw_417, tw_48, tw_418, by decide +kernel⟩
def y_BA_areTwo : MethodName := ⟨"BodyAccounts", "areTwo", "(II)Z"⟩
abbrev Y_BA_areTwo : YT := (prog_1_method_36_code, "BodyAccounts", 3, 2)
theorem cf_BA_areTwo : CFv y_BA_areTwo Y_BA_areTwo (some .boolean) 2 := ⟨tw_430, tw_11, tw_48, tw_431, by decide +kernel⟩
def y_BA_owes : MethodName := ⟨"BodyAccounts", "owes", "(II)I"⟩
abbrev Y_BA_owes : YT := (prog_1_method_8_code, "BodyAccounts", 3, 3)
theorem cf_BA_owes : CFv y_BA_owes Y_BA_owes (some .int) 2 := ⟨tw_425, tw_426, tw_48, tw_427, by decide +kernel⟩
def y_Br_hasTask : MethodName := ⟨"BodyAccounts$Branch", "hasTask", "(I)Z"⟩
abbrev Y_Br_hasTask : YT := (prog_2_method_9_code, "BodyAccounts$Branch", 2, 1)
theorem cf_Br_hasTask : CFv y_Br_hasTask Y_Br_hasTask (some .boolean) 1 := ⟨tw_438, tw_439, tw_54, tw_440, by decide +kernel⟩
def y_Br_needOf : MethodName := ⟨"BodyAccounts$Branch", "needOf", "(I)I"⟩
abbrev Y_Br_needOf : YT := (prog_2_method_13_code, "BodyAccounts$Branch", 4, 1)
theorem cf_Br_needOf : CFv y_Br_needOf Y_Br_needOf (some .int) 1 := ⟨tw_446, tw_447, tw_54, tw_448, by decide +kernel⟩
def y_Br_isDoable : MethodName := ⟨"BodyAccounts$Branch", "isDoable", "(II)Z"⟩
abbrev Y_Br_isDoable : YT := (prog_2_method_12_code, "BodyAccounts$Branch", 3, 2)
theorem cf_Br_isDoable : CFv y_Br_isDoable Y_Br_isDoable (some .boolean) 2 := ⟨tw_442, tw_443, tw_54, tw_444, by decide +kernel⟩
def y_BA_can : MethodName := ⟨"BodyAccounts", "can", "(II)I"⟩
abbrev Y_BA_can : YT := (prog_1_method_9_code, "BodyAccounts", 3, 3)
theorem cf_BA_can : CFv y_BA_can Y_BA_can (some .int) 2 := ⟨tw_434, tw_435, tw_48, tw_436, by decide +kernel⟩
def y_St_copyFrom : MethodName := ⟨"BodyAccounts$Standing", "copyFrom", "(LBodyAccounts$Standing;)V"⟩
abbrev Y_St_copyFrom : YT := (prog_7_method_3_code, "BodyAccounts$Standing", 2, 1)
theorem cf_St_copyFrom : CFv y_St_copyFrom Y_St_copyFrom none 1 := ⟨tw_462, tw_463, tw_50, tw_464, by decide +kernel⟩
def y_Pa_push : MethodName := ⟨"BodyAccounts$Past", "push", "(LBodyAccounts$Standing;)V"⟩
abbrev Y_Pa_push : YT := (prog_3_method_3_code, "BodyAccounts$Past", 2, 2)
theorem cf_Pa_push : CFv y_Pa_push Y_Pa_push none 1 := ⟨tw_458, tw_459, tw_51, tw_460, by decide +kernel⟩
def y_Br_afterMonth : MethodName := ⟨"BodyAccounts$Branch", "afterMonth", "(II)I"⟩
abbrev Y_Br_afterMonth : YT := (prog_2_method_14_code, "BodyAccounts$Branch", 3, 2)
theorem cf_Br_afterMonth : CFv y_Br_afterMonth Y_Br_afterMonth (some .int) 2 := ⟨tw_474, tw_475, tw_54, tw_476, by decide +kernel⟩
def y_St_passMonth : MethodName := ⟨"BodyAccounts$Standing", "passMonth", "(LBodyAccounts$Branch;)V"⟩
abbrev Y_St_passMonth : YT := (prog_7_method_5_code, "BodyAccounts$Standing", 3, 3)
theorem cf_St_passMonth : CFv y_St_passMonth Y_St_passMonth none 1 := ⟨tw_470, tw_471, tw_50, tw_472, by decide +kernel⟩
def y_BA_month : MethodName := ⟨"BodyAccounts", "month", "(I)I"⟩
abbrev Y_BA_month : YT := (prog_1_method_10_code, "BodyAccounts", 3, 4)
theorem cf_BA_month : CFv y_BA_month Y_BA_month (some .int) 1 := ⟨tw_452, tw_453, tw_48, tw_454, by decide +kernel⟩
def y_St_change : MethodName := ⟨"BodyAccounts$Standing", "change", "(II)V"⟩
abbrev Y_St_change : YT := (prog_7_method_4_code, "BodyAccounts$Standing", 3, 2)
theorem cf_St_change : CFv y_St_change Y_St_change none 2 := ⟨tw_483, tw_484, tw_50, tw_485, by decide +kernel⟩
def y_BA_spend : MethodName := ⟨"BodyAccounts", "spend", "(II)I"⟩
abbrev Y_BA_spend : YT := (prog_1_method_11_code, "BodyAccounts", 3, 3)
theorem cf_BA_spend : CFv y_BA_spend Y_BA_spend (some .int) 2 := ⟨tw_479, tw_480, tw_48, tw_481, by decide +kernel⟩
def y_St_hand : MethodName := ⟨"BodyAccounts$Standing", "hand", "(III)V"⟩
abbrev Y_St_hand : YT := (prog_7_method_7_code, "BodyAccounts$Standing", 4, 3)
theorem cf_St_hand : CFv y_St_hand Y_St_hand none 3 := ⟨tw_492, tw_493, tw_50, tw_494, by decide +kernel⟩
def y_BA_lend : MethodName := ⟨"BodyAccounts", "lend", "(III)I"⟩
abbrev Y_BA_lend : YT := (prog_1_method_12_code, "BodyAccounts", 4, 4)
theorem cf_BA_lend : CFv y_BA_lend Y_BA_lend (some .int) 3 := ⟨tw_488, tw_489, tw_48, tw_490, by decide +kernel⟩
def y_BA_payBack : MethodName := ⟨"BodyAccounts", "payBack", "(III)I"⟩
abbrev Y_BA_payBack : YT := (prog_1_method_13_code, "BodyAccounts", 4, 4)
theorem cf_BA_payBack : CFv y_BA_payBack Y_BA_payBack (some .int) 3 := ⟨tw_497, tw_498, tw_48, tw_499, by decide +kernel⟩
def y_BA_draw : MethodName := ⟨"BodyAccounts", "draw", "(I)I"⟩
abbrev Y_BA_draw : YT := (prog_1_method_41_code, "BodyAccounts", 2, 0)
theorem cf_BA_draw : CFv y_BA_draw Y_BA_draw (some .int) 1 := ⟨tw_510, tw_13, tw_48, tw_511, by decide +kernel⟩
def y_BA_wager : MethodName := ⟨"BodyAccounts", "wager", "()V"⟩
abbrev Y_BA_wager : YT := (prog_1_method_42_code, "BodyAccounts", 3, 3)
theorem cf_BA_wager : CFv y_BA_wager Y_BA_wager none 0 := ⟨tw_506, tw_12, tw_48, tw_507, by decide +kernel⟩
def y_BA_drift : MethodName := ⟨"BodyAccounts", "drift", "(I)I"⟩
abbrev Y_BA_drift : YT := (prog_1_method_14_code, "BodyAccounts", 3, 4)
theorem cf_BA_drift : CFv y_BA_drift Y_BA_drift (some .int) 1 := ⟨tw_501, tw_502, tw_48, tw_503, by decide +kernel⟩
def y_Pa_popInto : MethodName := ⟨"BodyAccounts$Past", "popInto", "(LBodyAccounts$Standing;)V"⟩
abbrev Y_Pa_popInto : YT := (prog_3_method_4_code, "BodyAccounts$Past", 2, 2)
theorem cf_Pa_popInto : CFv y_Pa_popInto Y_Pa_popInto none 1 := ⟨tw_521, tw_522, tw_51, tw_523, by decide +kernel⟩
def y_BA_undo : MethodName := ⟨"BodyAccounts", "undo", "()I"⟩
abbrev Y_BA_undo : YT := (prog_1_method_15_code, "BodyAccounts", 1, 3)
theorem cf_BA_undo : CFv y_BA_undo Y_BA_undo (some .int) 0 := ⟨tw_517, tw_518, tw_48, tw_519, by decide +kernel⟩
def y_BA_hat : MethodName := ⟨"BodyAccounts", "hat", "(I)I"⟩
abbrev Y_BA_hat : YT := (prog_1_method_16_code, "BodyAccounts", 4, 3)
theorem cf_BA_hat : CFv y_BA_hat Y_BA_hat (some .int) 1 := ⟨tw_525, tw_526, tw_48, tw_527, by decide +kernel⟩
def y_BA_able : MethodName := ⟨"BodyAccounts", "able", "(III)I"⟩
abbrev Y_BA_able : YT := (prog_1_method_17_code, "BodyAccounts", 7, 3)
theorem cf_BA_able : CFv y_BA_able Y_BA_able (some .int) 3 := ⟨tw_530, tw_531, tw_48, tw_532, by decide +kernel⟩
def y_Sl_addSpending : MethodName := ⟨"BodyAccounts$Slate", "addSpending", "(I)V"⟩
abbrev Y_Sl_addSpending : YT := (prog_6_method_4_code, "BodyAccounts$Slate", 2, 0)
theorem cf_Sl_addSpending : CFv y_Sl_addSpending Y_Sl_addSpending none 1 := ⟨tw_538, tw_539, tw_52, tw_540, by decide +kernel⟩
def y_BA_spending : MethodName := ⟨"BodyAccounts", "spending", "(I)I"⟩
abbrev Y_BA_spending : YT := (prog_1_method_18_code, "BodyAccounts", 2, 1)
theorem cf_BA_spending : CFv y_BA_spending Y_BA_spending (some .int) 1 := ⟨tw_534, tw_535, tw_48, tw_536, by decide +kernel⟩
def y_Sl_addMust : MethodName := ⟨"BodyAccounts$Slate", "addMust", "(II)V"⟩
abbrev Y_Sl_addMust : YT := (prog_6_method_5_code, "BodyAccounts$Slate", 3, 0)
theorem cf_Sl_addMust : CFv y_Sl_addMust Y_Sl_addMust none 2 := ⟨tw_546, tw_547, tw_52, tw_548, by decide +kernel⟩
def y_BA_must : MethodName := ⟨"BodyAccounts", "must", "(II)I"⟩
abbrev Y_BA_must : YT := (prog_1_method_19_code, "BodyAccounts", 3, 2)
theorem cf_BA_must : CFv y_BA_must Y_BA_must (some .int) 2 := ⟨tw_542, tw_543, tw_48, tw_544, by decide +kernel⟩
def y_Sl_lastMustMonth : MethodName := ⟨"BodyAccounts$Slate", "lastMustMonth", "()I"⟩
abbrev Y_Sl_lastMustMonth : YT := (prog_6_method_8_code, "BodyAccounts$Slate", 3, 1)
theorem cf_Sl_lastMustMonth : CFv y_Sl_lastMustMonth Y_Sl_lastMustMonth (some .int) 0 := ⟨tw_554, tw_555, tw_52, tw_556, by decide +kernel⟩
def y_Pl_give : MethodName := ⟨"BodyAccounts$Planner", "give", "(III)V"⟩
abbrev Y_Pl_give : YT := (prog_4_method_3_code, "BodyAccounts$Planner", 6, 0)
theorem cf_Pl_give : CFv y_Pl_give Y_Pl_give none 3 := ⟨tw_564, tw_14, tw_53, tw_565, by decide +kernel⟩
def y_Pl_sumGivenTo : MethodName := ⟨"BodyAccounts$Planner", "sumGivenTo", "(ILBodyAccounts$Slate;)I"⟩
abbrev Y_Pl_sumGivenTo : YT := (prog_4_method_5_code, "BodyAccounts$Planner", 5, 0)
theorem cf_Pl_sumGivenTo : CFv y_Pl_sumGivenTo Y_Pl_sumGivenTo (some .int) 2 := ⟨tw_573, tw_16, tw_53, tw_574, by decide +kernel⟩
def y_Pl_isAllDoable : MethodName := ⟨"BodyAccounts$Planner", "isAllDoable", "(IILBodyAccounts$Branch;LBodyAccounts$Slate;)Z"⟩
abbrev Y_Pl_isAllDoable : YT := (prog_4_method_6_code, "BodyAccounts$Planner", 5, 3)
theorem cf_Pl_isAllDoable : CFs y_Pl_isAllDoable Y_Pl_isAllDoable (some .boolean) 4 := ⟨tw_577, tw_53, tw_578, by decide +kernel⟩
def y_Pl_works : MethodName := ⟨"BodyAccounts$Planner", "works", "(LBodyAccounts$Branch;LBodyAccounts$Slate;III)Z"⟩
abbrev Y_Pl_works : YT := (prog_4_method_4_code, "BodyAccounts$Planner", 8, 4)
theorem cf_Pl_works : CFv y_Pl_works Y_Pl_works (some .boolean) 5 := ⟨tw_568, tw_15, tw_53, tw_569, by decide +kernel⟩
def y_Pl_find : MethodName := ⟨"BodyAccounts$Planner", "find", "(LBodyAccounts$Branch;LBodyAccounts$Slate;III)Z"⟩
abbrev Y_Pl_find : YT := (prog_4_method_2_code, "BodyAccounts$Planner", 8, 5)
theorem cf_Pl_find : CFv y_Pl_find Y_Pl_find (some .boolean) 5 := ⟨tw_559, tw_560, tw_53, tw_561, by decide +kernel⟩
def y_BA_plan : MethodName := ⟨"BodyAccounts", "plan", "(III)I"⟩
abbrev Y_BA_plan : YT := (prog_1_method_20_code, "BodyAccounts", 5, 6)
theorem cf_BA_plan : CFv y_BA_plan Y_BA_plan (some .int) 3 := ⟨tw_550, tw_551, tw_48, tw_552, by decide +kernel⟩
def y_BA_isDoableOnlyAsOne : MethodName := ⟨"BodyAccounts", "isDoableOnlyAsOne", "(III)Z"⟩
abbrev Y_BA_isDoableOnlyAsOne : YT := (prog_1_method_40_code, "BodyAccounts", 6, 3)
theorem cf_BA_isDoableOnlyAsOne : CFv y_BA_isDoableOnlyAsOne Y_BA_isDoableOnlyAsOne (some .boolean) 3 := ⟨tw_586, tw_17, tw_48, tw_587, by decide +kernel⟩
def y_BA_asOne : MethodName := ⟨"BodyAccounts", "asOne", "(II)I"⟩
abbrev Y_BA_asOne : YT := (prog_1_method_21_code, "BodyAccounts", 6, 4)
theorem cf_BA_asOne : CFv y_BA_asOne Y_BA_asOne (some .int) 2 := ⟨tw_581, tw_582, tw_48, tw_583, by decide +kernel⟩
def y_BA_loan : MethodName := ⟨"BodyAccounts", "loan", "(III)I"⟩
abbrev Y_BA_loan : YT := (prog_1_method_22_code, "BodyAccounts", 5, 2)
theorem cf_BA_loan : CFv y_BA_loan Y_BA_loan (some .int) 3 := ⟨tw_589, tw_590, tw_48, tw_591, by decide +kernel⟩
def y_Br_goneAheadOf : MethodName := ⟨"BodyAccounts$Branch", "goneAheadOf", "(I)I"⟩
abbrev Y_Br_goneAheadOf : YT := (prog_2_method_15_code, "BodyAccounts$Branch", 4, 0)
theorem cf_Br_goneAheadOf : CFv y_Br_goneAheadOf Y_Br_goneAheadOf (some .int) 1 := ⟨tw_598, tw_599, tw_54, tw_600, by decide +kernel⟩
def y_BA_order : MethodName := ⟨"BodyAccounts", "order", "(I)I"⟩
abbrev Y_BA_order : YT := (prog_1_method_23_code, "BodyAccounts", 3, 1)
theorem cf_BA_order : CFv y_BA_order Y_BA_order (some .int) 1 := ⟨tw_594, tw_595, tw_48, tw_596, by decide +kernel⟩
def y_BA_wage : MethodName := ⟨"BodyAccounts", "wage", "(II)I"⟩
abbrev Y_BA_wage : YT := (prog_1_method_24_code, "BodyAccounts", 6, 1)
theorem cf_BA_wage : CFv y_BA_wage Y_BA_wage (some .int) 2 := ⟨tw_602, tw_603, tw_48, tw_604, by decide +kernel⟩
def y_Sl_addSeen : MethodName := ⟨"BodyAccounts$Slate", "addSeen", "(IZ)V"⟩
abbrev Y_Sl_addSeen : YT := (prog_6_method_6_code, "BodyAccounts$Slate", 3, 0)
theorem cf_Sl_addSeen : CFv y_Sl_addSeen Y_Sl_addSeen none 2 := ⟨tw_612, tw_613, tw_52, tw_614, by decide +kernel⟩
def y_BA_see : MethodName := ⟨"BodyAccounts", "see", "(IZ)I"⟩
abbrev Y_BA_see : YT := (prog_1_method_25_code, "BodyAccounts", 3, 2)
theorem cf_BA_see : CFv y_BA_see Y_BA_see (some .int) 2 := ⟨tw_608, tw_609, tw_48, tw_610, by decide +kernel⟩
def y_Sl_leastSeen : MethodName := ⟨"BodyAccounts$Slate", "leastSeen", "(LBodyAccounts$Branch;)I"⟩
abbrev Y_Sl_leastSeen : YT := (prog_6_method_9_code, "BodyAccounts$Slate", 4, 1)
theorem cf_Sl_leastSeen : CFv y_Sl_leastSeen Y_Sl_leastSeen (some .int) 1 := ⟨tw_620, tw_621, tw_52, tw_622, by decide +kernel⟩
def y_Sl_greatestSeen : MethodName := ⟨"BodyAccounts$Slate", "greatestSeen", "(LBodyAccounts$Branch;)I"⟩
abbrev Y_Sl_greatestSeen : YT := (prog_6_method_10_code, "BodyAccounts$Slate", 4, 1)
theorem cf_Sl_greatestSeen : CFv y_Sl_greatestSeen Y_Sl_greatestSeen (some .int) 1 := ⟨tw_624, tw_625, tw_52, tw_626, by decide +kernel⟩
def y_BA_has : MethodName := ⟨"BodyAccounts", "has", "(I)I"⟩
abbrev Y_BA_has : YT := (prog_1_method_26_code, "BodyAccounts", 5, 2)
theorem cf_BA_has : CFv y_BA_has Y_BA_has (some .int) 1 := ⟨tw_616, tw_617, tw_48, tw_618, by decide +kernel⟩
def y_BA_look : MethodName := ⟨"BodyAccounts", "look", "()I"⟩
abbrev Y_BA_look : YT := (prog_1_method_27_code, "BodyAccounts", 9, 2)
theorem cf_BA_look : CFv y_BA_look Y_BA_look (some .int) 0 := ⟨tw_629, tw_630, tw_48, tw_631, by decide +kernel⟩
def y_Sl_addEntry : MethodName := ⟨"BodyAccounts$Slate", "addEntry", "(II)V"⟩
abbrev Y_Sl_addEntry : YT := (prog_6_method_7_code, "BodyAccounts$Slate", 3, 0)
theorem cf_Sl_addEntry : CFv y_Sl_addEntry Y_Sl_addEntry none 2 := ⟨tw_637, tw_638, tw_52, tw_639, by decide +kernel⟩
def y_BA_write : MethodName := ⟨"BodyAccounts", "write", "(II)I"⟩
abbrev Y_BA_write : YT := (prog_1_method_28_code, "BodyAccounts", 3, 2)
theorem cf_BA_write : CFv y_BA_write Y_BA_write (some .int) 2 := ⟨tw_633, tw_634, tw_48, tw_635, by decide +kernel⟩
def y_Sl_countAll : MethodName := ⟨"BodyAccounts$Slate", "countAll", "()I"⟩
abbrev Y_Sl_countAll : YT := (prog_6_method_3_code, "BodyAccounts$Slate", 1, 0)
theorem cf_Sl_countAll : CFv y_Sl_countAll Y_Sl_countAll (some .int) 0 := ⟨tw_645, tw_646, tw_52, tw_647, by decide +kernel⟩
def y_BA_tear : MethodName := ⟨"BodyAccounts", "tear", "()I"⟩
abbrev Y_BA_tear : YT := (prog_1_method_29_code, "BodyAccounts", 2, 1)
theorem cf_BA_tear : CFv y_BA_tear Y_BA_tear (some .int) 0 := ⟨tw_641, tw_642, tw_48, tw_643, by decide +kernel⟩
def y_BA_judge : MethodName := ⟨"BodyAccounts", "judge", "()I"⟩
abbrev Y_BA_judge : YT := (prog_1_method_30_code, "BodyAccounts", 3, 2)
theorem cf_BA_judge : CFv y_BA_judge Y_BA_judge (some .int) 0 := ⟨tw_649, tw_650, tw_48, tw_651, by decide +kernel⟩
def y_BA_seed : MethodName := ⟨"BodyAccounts", "seed", "(I)I"⟩
abbrev Y_BA_seed : YT := (prog_1_method_31_code, "BodyAccounts", 3, 0)
theorem cf_BA_seed : CFv y_BA_seed Y_BA_seed (some .int) 1 := ⟨tw_653, tw_654, tw_48, tw_655, by decide +kernel⟩
def y_BA_keep : MethodName := ⟨"BodyAccounts", "keep", "(I)I"⟩
abbrev Y_BA_keep : YT := (prog_1_method_32_code, "BodyAccounts", 2, 2)
theorem cf_BA_keep : CFv y_BA_keep Y_BA_keep (some .int) 1 := ⟨tw_657, tw_658, tw_48, tw_659, by decide +kernel⟩
def y_BA_goBack : MethodName := ⟨"BodyAccounts", "goBack", "(I)I"⟩
abbrev Y_BA_goBack : YT := (prog_1_method_33_code, "BodyAccounts", 2, 2)
theorem cf_BA_goBack : CFv y_BA_goBack Y_BA_goBack (some .int) 1 := ⟨tw_662, tw_663, tw_48, tw_664, by decide +kernel⟩
def y_Mo_in : MethodName := ⟨"BodyAccountsModel", "in", "(JJJ)Z"⟩
abbrev Y_Mo_in : YT := (prog_9_method_3_code, "BodyAccountsModel", 6, 0)
theorem cf_Mo_in : CFs y_Mo_in Y_Mo_in (some .boolean) 3 := ⟨tw_783, tw_55, tw_784, by decide +kernel⟩
def y_Mo_isIn : MethodName := ⟨"BodyAccountsModel", "isIn", "(II)Z"⟩
abbrev Y_Mo_isIn : YT := (prog_9_method_4_code, "BodyAccountsModel", 2, 0)
theorem cf_Mo_isIn : CFs y_Mo_isIn Y_Mo_isIn (some .boolean) 2 := ⟨tw_997, tw_55, tw_998, by decide +kernel⟩
def y_Mo_copy : MethodName := ⟨"BodyAccountsModel", "copy", "(II)V"⟩
abbrev Y_Mo_copy : YT := (prog_9_method_5_code, "BodyAccountsModel", 4, 0)
theorem cf_Mo_copy : CFv y_Mo_copy Y_Mo_copy none 2 := ⟨tw_910, tw_39, tw_55, tw_911, by decide +kernel⟩
def y_Mo_isPart : MethodName := ⟨"BodyAccountsModel", "isPart", "(I)Z"⟩
abbrev Y_Mo_isPart : YT := (prog_9_method_6_code, "BodyAccountsModel", 2, 1)
theorem cf_Mo_isPart : CFv y_Mo_isPart Y_Mo_isPart (some .boolean) 1 := ⟨tw_871, tw_34, tw_55, tw_872, by decide +kernel⟩
def y_Mo_isCustomer : MethodName := ⟨"BodyAccountsModel", "isCustomer", "(I)Z"⟩
abbrev Y_Mo_isCustomer : YT := (prog_9_method_7_code, "BodyAccountsModel", 2, 1)
theorem cf_Mo_isCustomer : CFv y_Mo_isCustomer Y_Mo_isCustomer (some .boolean) 1 := ⟨tw_880, tw_35, tw_55, tw_881, by decide +kernel⟩
def y_Mo_areTwo : MethodName := ⟨"BodyAccountsModel", "areTwo", "(II)Z"⟩
abbrev Y_Mo_areTwo : YT := (prog_9_method_8_code, "BodyAccountsModel", 3, 2)
theorem cf_Mo_areTwo : CFv y_Mo_areTwo Y_Mo_areTwo (some .boolean) 2 := ⟨tw_889, tw_36, tw_55, tw_890, by decide +kernel⟩
def y_Mo_isTask : MethodName := ⟨"BodyAccountsModel", "isTask", "(I)Z"⟩
abbrev Y_Mo_isTask : YT := (prog_9_method_9_code, "BodyAccountsModel", 2, 1)
theorem cf_Mo_isTask : CFv y_Mo_isTask Y_Mo_isTask (some .boolean) 1 := ⟨tw_897, tw_37, tw_55, tw_898, by decide +kernel⟩
def y_Mo_bounded : MethodName := ⟨"BodyAccountsModel", "bounded", "(I)I"⟩
abbrev Y_Mo_bounded : YT := (prog_9_method_10_code, "BodyAccountsModel", 1, 0)
theorem cf_Mo_bounded : CFs y_Mo_bounded Y_Mo_bounded (some .int) 1 := ⟨tw_926, tw_55, tw_927, by decide +kernel⟩
def y_Mo_feed : MethodName := ⟨"BodyAccountsModel", "feed", "(I)I"⟩
abbrev Y_Mo_feed : YT := (prog_9_method_11_code, "BodyAccountsModel", 2, 1)
theorem cf_Mo_feed : CFv y_Mo_feed Y_Mo_feed (some .int) 1 := ⟨tw_778, tw_779, tw_55, tw_780, by decide +kernel⟩
def y_Mo_letterAt : MethodName := ⟨"BodyAccountsModel", "letterAt", "(I)I"⟩
abbrev Y_Mo_letterAt : YT := (prog_9_method_12_code, "BodyAccountsModel", 2, 0)
theorem cf_Mo_letterAt : CFv y_Mo_letterAt Y_Mo_letterAt (some .int) 1 := ⟨tw_797, tw_19, tw_55, tw_798, by decide +kernel⟩
def y_Mo_here : MethodName := ⟨"BodyAccountsModel", "here", "()I"⟩
abbrev Y_Mo_here : YT := (prog_9_method_13_code, "BodyAccountsModel", 1, 1)
theorem cf_Mo_here : CFv y_Mo_here Y_Mo_here (some .int) 0 := ⟨tw_793, tw_18, tw_55, tw_794, by decide +kernel⟩
def y_Mo_fails : MethodName := ⟨"BodyAccountsModel", "fails", "(II)Z"⟩
abbrev Y_Mo_fails : YT := (prog_9_method_14_code, "BodyAccountsModel", 3, 0)
theorem cf_Mo_fails : CFv y_Mo_fails Y_Mo_fails (some .boolean) 2 := ⟨tw_805, tw_21, tw_55, tw_806, by decide +kernel⟩
def y_Mo_takes : MethodName := ⟨"BodyAccountsModel", "takes", "(I)Z"⟩
abbrev Y_Mo_takes : YT := (prog_9_method_15_code, "BodyAccountsModel", 2, 2)
theorem cf_Mo_takes : CFv y_Mo_takes Y_Mo_takes (some .boolean) 1 := ⟨tw_827, tw_26, tw_55, tw_828, by decide +kernel⟩
def y_Mo_takesNumber : MethodName := ⟨"BodyAccountsModel", "takesNumber", "(II)Z"⟩
abbrev Y_Mo_takesNumber : YT := (prog_9_method_16_code, "BodyAccountsModel", 3, 2)
theorem cf_Mo_takesNumber : CFv y_Mo_takesNumber Y_Mo_takesNumber (some .boolean) 2 := ⟨tw_813, tw_23, tw_55, tw_814, by decide +kernel⟩
def y_Mo_takesBranch : MethodName := ⟨"BodyAccountsModel", "takesBranch", "()Z"⟩
abbrev Y_Mo_takesBranch : YT := (prog_9_method_17_code, "BodyAccountsModel", 2, 3)
theorem cf_Mo_takesBranch : CFv y_Mo_takesBranch Y_Mo_takesBranch (some .boolean) 0 := ⟨tw_809, tw_22, tw_55, tw_810, by decide +kernel⟩
def y_Mo_takesCustomer : MethodName := ⟨"BodyAccountsModel", "takesCustomer", "()Z"⟩
abbrev Y_Mo_takesCustomer : YT := (prog_9_method_18_code, "BodyAccountsModel", 2, 3)
theorem cf_Mo_takesCustomer : CFv y_Mo_takesCustomer Y_Mo_takesCustomer (some .boolean) 0 := ⟨tw_819, tw_24, tw_55, tw_820, by decide +kernel⟩
def y_Mo_takesTask : MethodName := ⟨"BodyAccountsModel", "takesTask", "()Z"⟩
abbrev Y_Mo_takesTask : YT := (prog_9_method_19_code, "BodyAccountsModel", 1, 3)
theorem cf_Mo_takesTask : CFv y_Mo_takesTask Y_Mo_takesTask (some .boolean) 0 := ⟨tw_823, tw_25, tw_55, tw_824, by decide +kernel⟩
def y_Mo_takesClause : MethodName := ⟨"BodyAccountsModel", "takesClause", "()Z"⟩
abbrev Y_Mo_takesClause : YT := (prog_9_method_20_code, "BodyAccountsModel", 5, 4)
theorem cf_Mo_takesClause : CFv y_Mo_takesClause Y_Mo_takesClause (some .boolean) 0 := ⟨tw_801, tw_20, tw_55, tw_802, by decide +kernel⟩
def y_Mo_branch : MethodName := ⟨"BodyAccountsModel", "branch", "()I"⟩
abbrev Y_Mo_branch : YT := (prog_9_method_21_code, "BodyAccountsModel", 4, 5)
theorem cf_Mo_branch : CFv y_Mo_branch Y_Mo_branch (some .int) 0 := ⟨tw_788, tw_789, tw_55, tw_790, by decide +kernel⟩
def y_Mo_fault : MethodName := ⟨"BodyAccountsModel", "fault", "()I"⟩
abbrev Y_Mo_fault : YT := (prog_9_method_22_code, "BodyAccountsModel", 1, 0)
theorem cf_Mo_fault : CFv y_Mo_fault Y_Mo_fault (some .int) 0 := ⟨tw_830, tw_831, tw_55, tw_832, by decide +kernel⟩
def y_Mo_thereBy : MethodName := ⟨"BodyAccountsModel", "thereBy", "(I)I"⟩
abbrev Y_Mo_thereBy : YT := (prog_9_method_23_code, "BodyAccountsModel", 4, 0)
theorem cf_Mo_thereBy : CFv y_Mo_thereBy Y_Mo_thereBy (some .int) 1 := ⟨tw_847, tw_29, tw_55, tw_848, by decide +kernel⟩
def y_Mo_thereOf : MethodName := ⟨"BodyAccountsModel", "thereOf", "(I)I"⟩
abbrev Y_Mo_thereOf : YT := (prog_9_method_24_code, "BodyAccountsModel", 2, 1)
theorem cf_Mo_thereOf : CFv y_Mo_thereOf Y_Mo_thereOf (some .int) 1 := ⟨tw_843, tw_28, tw_55, tw_844, by decide +kernel⟩
def y_Mo_whole : MethodName := ⟨"BodyAccountsModel", "whole", "()I"⟩
abbrev Y_Mo_whole : YT := (prog_9_method_25_code, "BodyAccountsModel", 1, 0)
theorem cf_Mo_whole : CFv y_Mo_whole Y_Mo_whole (some .int) 0 := ⟨tw_859, tw_32, tw_55, tw_860, by decide +kernel⟩
def y_Mo_hats : MethodName := ⟨"BodyAccountsModel", "hats", "()I"⟩
abbrev Y_Mo_hats : YT := (prog_9_method_26_code, "BodyAccountsModel", 3, 2)
theorem cf_Mo_hats : CFv y_Mo_hats Y_Mo_hats (some .int) 0 := ⟨tw_839, tw_27, tw_55, tw_840, by decide +kernel⟩
def y_Mo_net : MethodName := ⟨"BodyAccountsModel", "net", "(I)I"⟩
abbrev Y_Mo_net : YT := (prog_9_method_27_code, "BodyAccountsModel", 4, 0)
theorem cf_Mo_net : CFv y_Mo_net Y_Mo_net (some .int) 1 := ⟨tw_855, tw_31, tw_55, tw_856, by decide +kernel⟩
def y_Mo_wholes : MethodName := ⟨"BodyAccountsModel", "wholes", "(Z)I"⟩
abbrev Y_Mo_wholes : YT := (prog_9_method_28_code, "BodyAccountsModel", 4, 1)
theorem cf_Mo_wholes : CFv y_Mo_wholes Y_Mo_wholes (some .int) 1 := ⟨tw_851, tw_30, tw_55, tw_852, by decide +kernel⟩
def y_Mo_cleared : MethodName := ⟨"BodyAccountsModel", "cleared", "()I"⟩
abbrev Y_Mo_cleared : YT := (prog_9_method_29_code, "BodyAccountsModel", 3, 1)
theorem cf_Mo_cleared : CFv y_Mo_cleared Y_Mo_cleared (some .int) 0 := ⟨tw_863, tw_33, tw_55, tw_864, by decide +kernel⟩
def y_Mo_told : MethodName := ⟨"BodyAccountsModel", "told", "(I)I"⟩
abbrev Y_Mo_told : YT := (prog_9_method_30_code, "BodyAccountsModel", 2, 3)
theorem cf_Mo_told : CFv y_Mo_told Y_Mo_told (some .int) 1 := ⟨tw_834, tw_835, tw_55, tw_836, by decide +kernel⟩
def y_Mo_part : MethodName := ⟨"BodyAccountsModel", "part", "(I)I"⟩
abbrev Y_Mo_part : YT := (prog_9_method_31_code, "BodyAccountsModel", 2, 2)
theorem cf_Mo_part : CFv y_Mo_part Y_Mo_part (some .int) 1 := ⟨tw_866, tw_867, tw_55, tw_868, by decide +kernel⟩
def y_Mo_customer : MethodName := ⟨"BodyAccountsModel", "customer", "(II)I"⟩
abbrev Y_Mo_customer : YT := (prog_9_method_32_code, "BodyAccountsModel", 3, 2)
theorem cf_Mo_customer : CFv y_Mo_customer Y_Mo_customer (some .int) 2 := ⟨tw_875, tw_876, tw_55, tw_877, by decide +kernel⟩
def y_Mo_owes : MethodName := ⟨"BodyAccountsModel", "owes", "(II)I"⟩
abbrev Y_Mo_owes : YT := (prog_9_method_33_code, "BodyAccountsModel", 3, 3)
theorem cf_Mo_owes : CFv y_Mo_owes Y_Mo_owes (some .int) 2 := ⟨tw_884, tw_885, tw_55, tw_886, by decide +kernel⟩
def y_Mo_canBy : MethodName := ⟨"BodyAccountsModel", "canBy", "(II)Z"⟩
abbrev Y_Mo_canBy : YT := (prog_9_method_34_code, "BodyAccountsModel", 3, 1)
theorem cf_Mo_canBy : CFv y_Mo_canBy Y_Mo_canBy (some .boolean) 2 := ⟨tw_901, tw_38, tw_55, tw_902, by decide +kernel⟩
def y_Mo_can : MethodName := ⟨"BodyAccountsModel", "can", "(II)I"⟩
abbrev Y_Mo_can : YT := (prog_9_method_35_code, "BodyAccountsModel", 3, 2)
theorem cf_Mo_can : CFv y_Mo_can Y_Mo_can (some .int) 2 := ⟨tw_892, tw_893, tw_55, tw_894, by decide +kernel⟩
def y_Mo_minds : MethodName := ⟨"BodyAccountsModel", "minds", "()V"⟩
abbrev Y_Mo_minds : YT := (prog_9_method_36_code, "BodyAccountsModel", 2, 1)
theorem cf_Mo_minds : CFv y_Mo_minds Y_Mo_minds none 0 := ⟨tw_919, tw_40, tw_55, tw_920, by decide +kernel⟩
def y_Mo_undo : MethodName := ⟨"BodyAccountsModel", "undo", "()I"⟩
abbrev Y_Mo_undo : YT := (prog_9_method_37_code, "BodyAccountsModel", 2, 1)
theorem cf_Mo_undo : CFv y_Mo_undo Y_Mo_undo (some .int) 0 := ⟨tw_904, tw_905, tw_55, tw_906, by decide +kernel⟩
def y_Mo_behindMonth : MethodName := ⟨"BodyAccountsModel", "behindMonth", "(II)I"⟩
abbrev Y_Mo_behindMonth : YT := (prog_9_method_38_code, "BodyAccountsModel", 3, 1)
theorem cf_Mo_behindMonth : CFv y_Mo_behindMonth Y_Mo_behindMonth (some .int) 2 := ⟨tw_923, tw_41, tw_55, tw_924, by decide +kernel⟩
def y_Mo_month : MethodName := ⟨"BodyAccountsModel", "month", "(I)I"⟩
abbrev Y_Mo_month : YT := (prog_9_method_39_code, "BodyAccountsModel", 4, 2)
theorem cf_Mo_month : CFv y_Mo_month Y_Mo_month (some .int) 1 := ⟨tw_913, tw_914, tw_55, tw_915, by decide +kernel⟩
def y_Mo_changes : MethodName := ⟨"BodyAccountsModel", "changes", "(II)V"⟩
abbrev Y_Mo_changes : YT := (prog_9_method_40_code, "BodyAccountsModel", 3, 1)
theorem cf_Mo_changes : CFv y_Mo_changes Y_Mo_changes none 2 := ⟨tw_935, tw_42, tw_55, tw_936, by decide +kernel⟩
def y_Mo_spend : MethodName := ⟨"BodyAccountsModel", "spend", "(II)I"⟩
abbrev Y_Mo_spend : YT := (prog_9_method_41_code, "BodyAccountsModel", 3, 2)
theorem cf_Mo_spend : CFv y_Mo_spend Y_Mo_spend (some .int) 2 := ⟨tw_929, tw_930, tw_55, tw_931, by decide +kernel⟩
def y_Mo_owesMore : MethodName := ⟨"BodyAccountsModel", "owesMore", "(III)V"⟩
abbrev Y_Mo_owesMore : YT := (prog_9_method_42_code, "BodyAccountsModel", 4, 0)
theorem cf_Mo_owesMore : CFv y_Mo_owesMore Y_Mo_owesMore none 3 := ⟨tw_943, tw_43, tw_55, tw_944, by decide +kernel⟩
def y_Mo_lend : MethodName := ⟨"BodyAccountsModel", "lend", "(III)I"⟩
abbrev Y_Mo_lend : YT := (prog_9_method_43_code, "BodyAccountsModel", 4, 3)
theorem cf_Mo_lend : CFv y_Mo_lend Y_Mo_lend (some .int) 3 := ⟨tw_938, tw_939, tw_55, tw_940, by decide +kernel⟩
def y_Mo_payBack : MethodName := ⟨"BodyAccountsModel", "payBack", "(III)I"⟩
abbrev Y_Mo_payBack : YT := (prog_9_method_44_code, "BodyAccountsModel", 4, 3)
theorem cf_Mo_payBack : CFv y_Mo_payBack Y_Mo_payBack (some .int) 3 := ⟨tw_946, tw_947, tw_55, tw_948, by decide +kernel⟩
def y_Mo_draw : MethodName := ⟨"BodyAccountsModel", "draw", "(I)I"⟩
abbrev Y_Mo_draw : YT := (prog_9_method_45_code, "BodyAccountsModel", 2, 0)
theorem cf_Mo_draw : CFv y_Mo_draw Y_Mo_draw (some .int) 1 := ⟨tw_955, tw_44, tw_55, tw_956, by decide +kernel⟩
def y_Mo_drift : MethodName := ⟨"BodyAccountsModel", "drift", "(I)I"⟩
abbrev Y_Mo_drift : YT := (prog_9_method_46_code, "BodyAccountsModel", 5, 3)
theorem cf_Mo_drift : CFv y_Mo_drift Y_Mo_drift (some .int) 1 := ⟨tw_950, tw_951, tw_55, tw_952, by decide +kernel⟩
def y_Mo_hat : MethodName := ⟨"BodyAccountsModel", "hat", "(I)I"⟩
abbrev Y_Mo_hat : YT := (prog_9_method_47_code, "BodyAccountsModel", 4, 2)
theorem cf_Mo_hat : CFv y_Mo_hat Y_Mo_hat (some .int) 1 := ⟨tw_962, tw_963, tw_55, tw_964, by decide +kernel⟩
def y_Mo_able : MethodName := ⟨"BodyAccountsModel", "able", "(III)I"⟩
abbrev Y_Mo_able : YT := (prog_9_method_48_code, "BodyAccountsModel", 7, 2)
theorem cf_Mo_able : CFv y_Mo_able Y_Mo_able (some .int) 3 := ⟨tw_966, tw_967, tw_55, tw_968, by decide +kernel⟩
def y_Mo_spending : MethodName := ⟨"BodyAccountsModel", "spending", "(I)I"⟩
abbrev Y_Mo_spending : YT := (prog_9_method_49_code, "BodyAccountsModel", 2, 1)
theorem cf_Mo_spending : CFv y_Mo_spending Y_Mo_spending (some .int) 1 := ⟨tw_970, tw_971, tw_55, tw_972, by decide +kernel⟩
def y_Mo_must : MethodName := ⟨"BodyAccountsModel", "must", "(II)I"⟩
abbrev Y_Mo_must : YT := (prog_9_method_50_code, "BodyAccountsModel", 3, 2)
theorem cf_Mo_must : CFv y_Mo_must Y_Mo_must (some .int) 2 := ⟨tw_974, tw_975, tw_55, tw_976, by decide +kernel⟩
def y_Mo_isPlan : MethodName := ⟨"BodyAccountsModel", "isPlan", "(II)Z"⟩
abbrev Y_Mo_isPlan : YT := (prog_9_method_51_code, "BodyAccountsModel", 6, 2)
theorem cf_Mo_isPlan : CFv y_Mo_isPlan Y_Mo_isPlan (some .boolean) 2 := ⟨tw_985, tw_45, tw_55, tw_986, by decide +kernel⟩
def y_Mo_plan : MethodName := ⟨"BodyAccountsModel", "plan", "(III)I"⟩
abbrev Y_Mo_plan : YT := (prog_9_method_52_code, "BodyAccountsModel", 9, 3)
theorem cf_Mo_plan : CFv y_Mo_plan Y_Mo_plan (some .int) 3 := ⟨tw_979, tw_980, tw_55, tw_981, by decide +kernel⟩
def y_Mo_asOne : MethodName := ⟨"BodyAccountsModel", "asOne", "(II)I"⟩
abbrev Y_Mo_asOne : YT := (prog_9_method_53_code, "BodyAccountsModel", 7, 2)
theorem cf_Mo_asOne : CFv y_Mo_asOne Y_Mo_asOne (some .int) 2 := ⟨tw_988, tw_989, tw_55, tw_990, by decide +kernel⟩
def y_Mo_loan : MethodName := ⟨"BodyAccountsModel", "loan", "(III)I"⟩
abbrev Y_Mo_loan : YT := (prog_9_method_54_code, "BodyAccountsModel", 6, 2)
theorem cf_Mo_loan : CFv y_Mo_loan Y_Mo_loan (some .int) 3 := ⟨tw_992, tw_993, tw_55, tw_994, by decide +kernel⟩
def y_Mo_order : MethodName := ⟨"BodyAccountsModel", "order", "(I)I"⟩
abbrev Y_Mo_order : YT := (prog_9_method_55_code, "BodyAccountsModel", 6, 1)
theorem cf_Mo_order : CFv y_Mo_order Y_Mo_order (some .int) 1 := ⟨tw_1000, tw_1001, tw_55, tw_1002, by decide +kernel⟩
def y_Mo_wage : MethodName := ⟨"BodyAccountsModel", "wage", "(II)I"⟩
abbrev Y_Mo_wage : YT := (prog_9_method_56_code, "BodyAccountsModel", 6, 1)
theorem cf_Mo_wage : CFv y_Mo_wage Y_Mo_wage (some .int) 2 := ⟨tw_1004, tw_1005, tw_55, tw_1006, by decide +kernel⟩
def y_Mo_see : MethodName := ⟨"BodyAccountsModel", "see", "(IZ)I"⟩
abbrev Y_Mo_see : YT := (prog_9_method_57_code, "BodyAccountsModel", 3, 2)
theorem cf_Mo_see : CFv y_Mo_see Y_Mo_see (some .int) 2 := ⟨tw_1010, tw_1011, tw_55, tw_1012, by decide +kernel⟩
def y_Mo_isSeen : MethodName := ⟨"BodyAccountsModel", "isSeen", "(I)Z"⟩
abbrev Y_Mo_isSeen : YT := (prog_9_method_58_code, "BodyAccountsModel", 4, 0)
theorem cf_Mo_isSeen : CFv y_Mo_isSeen Y_Mo_isSeen (some .boolean) 1 := ⟨tw_1020, tw_46, tw_55, tw_1021, by decide +kernel⟩
def y_Mo_has : MethodName := ⟨"BodyAccountsModel", "has", "(I)I"⟩
abbrev Y_Mo_has : YT := (prog_9_method_59_code, "BodyAccountsModel", 6, 1)
theorem cf_Mo_has : CFv y_Mo_has Y_Mo_has (some .int) 1 := ⟨tw_1014, tw_1015, tw_55, tw_1016, by decide +kernel⟩
def y_Mo_look : MethodName := ⟨"BodyAccountsModel", "look", "()I"⟩
abbrev Y_Mo_look : YT := (prog_9_method_60_code, "BodyAccountsModel", 7, 2)
theorem cf_Mo_look : CFv y_Mo_look Y_Mo_look (some .int) 0 := ⟨tw_1023, tw_1024, tw_55, tw_1025, by decide +kernel⟩
def y_Mo_write : MethodName := ⟨"BodyAccountsModel", "write", "(II)I"⟩
abbrev Y_Mo_write : YT := (prog_9_method_61_code, "BodyAccountsModel", 3, 2)
theorem cf_Mo_write : CFv y_Mo_write Y_Mo_write (some .int) 2 := ⟨tw_1028, tw_1029, tw_55, tw_1030, by decide +kernel⟩
def y_Mo_tear : MethodName := ⟨"BodyAccountsModel", "tear", "()I"⟩
abbrev Y_Mo_tear : YT := (prog_9_method_62_code, "BodyAccountsModel", 2, 0)
theorem cf_Mo_tear : CFv y_Mo_tear Y_Mo_tear (some .int) 0 := ⟨tw_1033, tw_1034, tw_55, tw_1035, by decide +kernel⟩
def y_Mo_judge : MethodName := ⟨"BodyAccountsModel", "judge", "()I"⟩
abbrev Y_Mo_judge : YT := (prog_9_method_63_code, "BodyAccountsModel", 2, 0)
theorem cf_Mo_judge : CFv y_Mo_judge Y_Mo_judge (some .int) 0 := ⟨tw_1037, tw_1038, tw_55, tw_1039, by decide +kernel⟩
def y_Mo_seed : MethodName := ⟨"BodyAccountsModel", "seed", "(I)I"⟩
abbrev Y_Mo_seed : YT := (prog_9_method_64_code, "BodyAccountsModel", 3, 0)
theorem cf_Mo_seed : CFv y_Mo_seed Y_Mo_seed (some .int) 1 := ⟨tw_1041, tw_1042, tw_55, tw_1043, by decide +kernel⟩
def y_Mo_keep : MethodName := ⟨"BodyAccountsModel", "keep", "(I)I"⟩
abbrev Y_Mo_keep : YT := (prog_9_method_65_code, "BodyAccountsModel", 2, 1)
theorem cf_Mo_keep : CFv y_Mo_keep Y_Mo_keep (some .int) 1 := ⟨tw_1045, tw_1046, tw_55, tw_1047, by decide +kernel⟩
def y_Mo_goBack : MethodName := ⟨"BodyAccountsModel", "goBack", "(I)I"⟩
abbrev Y_Mo_goBack : YT := (prog_9_method_66_code, "BodyAccountsModel", 2, 1)
theorem cf_Mo_goBack : CFv y_Mo_goBack Y_Mo_goBack (some .int) 1 := ⟨tw_1049, tw_1050, tw_55, tw_1051, by decide +kernel⟩
end
section
/-! Printed by wip/whole/walk.py. -/
theorem d_BA_within_0 : decode prog_1_method_34_code 0 = .ok (.iload_n 0, 1) := by decide +kernel
theorem d_BA_within_1 : decode prog_1_method_34_code 1 = .ok (.iload_n 1, 1) := by decide +kernel
theorem d_BA_within_2 : decode prog_1_method_34_code 2 = .ok (.if_icmp .lt (12), 3) := by decide +kernel
theorem d_BA_within_5 : decode prog_1_method_34_code 5 = .ok (.iload_n 0, 1) := by decide +kernel
theorem d_BA_within_6 : decode prog_1_method_34_code 6 = .ok (.iload_n 2, 1) := by decide +kernel
theorem d_BA_within_7 : decode prog_1_method_34_code 7 = .ok (.if_icmp .gt (7), 3) := by decide +kernel
theorem d_BA_within_10 : decode prog_1_method_34_code 10 = .ok (.iconst 1, 1) := by decide +kernel
theorem d_BA_within_11 : decode prog_1_method_34_code 11 = .ok (.goto (4), 3) := by decide +kernel
theorem d_BA_within_14 : decode prog_1_method_34_code 14 = .ok (.iconst 0, 1) := by decide +kernel
theorem d_BA_within_15 : decode prog_1_method_34_code 15 = .ok (.ireturn, 1) := by decide +kernel
set_option maxRecDepth 20000 in
set_option maxHeartbeats 2000000 in
theorem T_BA_within {Z : ZT} (X : CX Z Y_BA_within) {hp : HP} {a0 : Int32} {a1 : Int32} {a2 : Int32} {p : Int32 × HP} (h : f_BA_within hp a0 a1 a2 = some p) (hR : RetI Z Y_BA_within .boolean p.1 p.2) : V Z Y_BA_within hp 0 [(0, .int a0), (1, .int a1), (2, .int a2)] [] := by
  unfold f_BA_within at h
  refine R_iload_n X 0 d_BA_within_0 rfl ?_
  refine R_iload_n X 1 d_BA_within_1 rfl ?_
  refine R_icmp_lt (tgt := 14) X d_BA_within_2 rfl (fun c1 => ?_) (fun c1 => ?_)
  · replace h := (if_pos c1).symm.trans h
    refine R_iconst (v := (0 : Int32)) X d_BA_within_14 rfl ?_
    exact R_retc hR (by decide) h d_BA_within_15
  · replace h := (if_neg c1).symm.trans h
    refine R_iload_n X 0 d_BA_within_5 rfl ?_
    refine R_iload_n X 2 d_BA_within_6 rfl ?_
    refine R_icmp_gt (tgt := 14) X d_BA_within_7 rfl (fun c2 => ?_) (fun c2 => ?_)
    · replace h := (if_pos c2).symm.trans h
      refine R_iconst (v := (0 : Int32)) X d_BA_within_14 rfl ?_
      exact R_retc hR (by decide) h d_BA_within_15
    · replace h := (if_neg c2).symm.trans h
      refine R_iconst (v := (1 : Int32)) X d_BA_within_10 rfl ?_
      refine R_goto (tgt := 15) X d_BA_within_11 rfl ?_
      exact R_retc hR (by decide) h d_BA_within_15
theorem M_BA_within {G : GT} {hp : HP} {a0 : Int32} {a1 : Int32} {a2 : Int32} {p : Int32 × HP} (h : f_BA_within hp a0 a1 a2 = some p) : MI G y_BA_within Y_BA_within .boolean [.int a0, .int a1, .int a2] hp p.1 p.2 := MI_of rfl (fun Z hz X hR => by subst hz; exact T_BA_within X h hR)
theorem d_Re_append_0 : decode prog_5_method_2_code 0 = .ok (.aload_n 0, 1) := by decide +kernel
theorem d_Re_append_1 : decode prog_5_method_2_code 1 = .ok (.getfield 19, 3) := by decide +kernel
theorem d_Re_append_4 : decode prog_5_method_2_code 4 = .ok (.sipush (240), 3) := by decide +kernel
theorem d_Re_append_7 : decode prog_5_method_2_code 7 = .ok (.if_icmp .ge (23), 3) := by decide +kernel
theorem d_Re_append_10 : decode prog_5_method_2_code 10 = .ok (.aload_n 0, 1) := by decide +kernel
theorem d_Re_append_11 : decode prog_5_method_2_code 11 = .ok (.getfield 9, 3) := by decide +kernel
theorem d_Re_append_14 : decode prog_5_method_2_code 14 = .ok (.aload_n 0, 1) := by decide +kernel
theorem d_Re_append_15 : decode prog_5_method_2_code 15 = .ok (.getfield 19, 3) := by decide +kernel
theorem d_Re_append_18 : decode prog_5_method_2_code 18 = .ok (.iload_n 1, 1) := by decide +kernel
theorem d_Re_append_19 : decode prog_5_method_2_code 19 = .ok (.iastore, 1) := by decide +kernel
theorem d_Re_append_20 : decode prog_5_method_2_code 20 = .ok (.aload_n 0, 1) := by decide +kernel
theorem d_Re_append_21 : decode prog_5_method_2_code 21 = .ok (.dup, 1) := by decide +kernel
theorem d_Re_append_22 : decode prog_5_method_2_code 22 = .ok (.getfield 19, 3) := by decide +kernel
theorem d_Re_append_25 : decode prog_5_method_2_code 25 = .ok (.iconst 1, 1) := by decide +kernel
theorem d_Re_append_26 : decode prog_5_method_2_code 26 = .ok (.iadd, 1) := by decide +kernel
theorem d_Re_append_27 : decode prog_5_method_2_code 27 = .ok (.putfield 19, 3) := by decide +kernel
theorem d_Re_append_30 : decode prog_5_method_2_code 30 = .ok (.return_, 1) := by decide +kernel
set_option maxRecDepth 20000 in
set_option maxHeartbeats 2000000 in
theorem T_Re_append {Z : ZT} (X : CX Z Y_Re_append) {hp : HP} {a1 : Int32} {p : Int32 × HP} (h : f_Re_append hp a1 = some p) (hR : RetV Z Y_Re_append p.2) : V Z Y_Re_append hp 0 [(0, .ref (gA (zG Z) 1)), (1, .int a1)] [] := by
  unfold f_Re_append at h
  refine R_aload_n X 0 d_Re_append_0 rfl ?_
  refine R_getI (ci := 3) X rfl iRe_ok (of_decide_eq_true rfl) rfl 1 rfl rfl tw_73 d_Re_append_1 ?_
  refine R_sipush (v := (240 : Int32)) X d_Re_append_4 rfl ?_
  refine R_icmp_ge (tgt := 30) X d_Re_append_7 rfl (fun c1 => ?_) (fun c1 => ?_)
  · replace h := (if_pos c1).symm.trans h
    exact R_retv hR h d_Re_append_30
  · replace h := (if_neg c1).symm.trans h
    refine R_aload_n X 0 d_Re_append_10 rfl ?_
    refine R_getR (ci := 3) X rfl iRe_ok (of_decide_eq_true rfl) rfl 0 rfl rfl tw_72 d_Re_append_11 ?_
    refine R_aload_n X 0 d_Re_append_14 rfl ?_
    refine R_getI (ci := 3) X rfl iRe_ok (of_decide_eq_true rfl) rfl 1 rfl rfl tw_73 d_Re_append_15 ?_
    refine R_iload_n X 1 d_Re_append_18 rfl ?_
    refine V_pc (pc' := 19) rfl ?_
    obtain ⟨i2, h⟩ := ck h
    refine R_iast (n := 240) X (of_decide_eq_true rfl) rfl i2 d_Re_append_19 ?_
    refine R_aload_n X 0 d_Re_append_20 rfl ?_
    refine R_dup X d_Re_append_21 rfl ?_
    refine R_getI (ci := 3) X rfl iRe_ok (of_decide_eq_true rfl) rfl 1 rfl rfl tw_73 d_Re_append_22 ?_
    refine R_iconst (v := (1 : Int32)) X d_Re_append_25 rfl ?_
    refine R_iadd X d_Re_append_26 ?_
    refine V_pc (pc' := 27) rfl ?_
    refine R_putI (ci := 3) X rfl iRe_ok yRe_ok nRe_ok (of_decide_eq_true rfl) rfl 1 rfl rfl rfl rfl tw_73 d_Re_append_27 ?_
    exact R_retv hR h d_Re_append_30
theorem M_Re_append {G : GT} {hp : HP} {a1 : Int32} {p : Int32 × HP} (h : f_Re_append hp a1 = some p) : MV G y_Re_append Y_Re_append [.ref (gA G 1), .int a1] hp p.2 := MV_of rfl (fun Z hz X hR => by subst hz; exact T_Re_append X h hR)
theorem d_BA_feed_0 : decode prog_1_method_2_code 0 = .ok (.iload_n 1, 1) := by decide +kernel
theorem d_BA_feed_1 : decode prog_1_method_2_code 1 = .ok (.iconst 0, 1) := by decide +kernel
theorem d_BA_feed_2 : decode prog_1_method_2_code 2 = .ok (.sipush (255), 3) := by decide +kernel
theorem d_BA_feed_5 : decode prog_1_method_2_code 5 = .ok (.invokestatic 73, 3) := by decide +kernel
theorem d_BA_feed_8 : decode prog_1_method_2_code 8 = .ok (.ifCond .ne (6), 3) := by decide +kernel
theorem d_BA_feed_11 : decode prog_1_method_2_code 11 = .ok (.ldc 77, 2) := by decide +kernel
theorem d_BA_feed_13 : decode prog_1_method_2_code 13 = .ok (.ireturn, 1) := by decide +kernel
theorem d_BA_feed_14 : decode prog_1_method_2_code 14 = .ok (.aload_n 0, 1) := by decide +kernel
theorem d_BA_feed_15 : decode prog_1_method_2_code 15 = .ok (.getfield 10, 3) := by decide +kernel
theorem d_BA_feed_18 : decode prog_1_method_2_code 18 = .ok (.getfield 78, 3) := by decide +kernel
theorem d_BA_feed_21 : decode prog_1_method_2_code 21 = .ok (.sipush (240), 3) := by decide +kernel
theorem d_BA_feed_24 : decode prog_1_method_2_code 24 = .ok (.if_icmp .lt (6), 3) := by decide +kernel
theorem d_BA_feed_27 : decode prog_1_method_2_code 27 = .ok (.ldc 81, 2) := by decide +kernel
theorem d_BA_feed_29 : decode prog_1_method_2_code 29 = .ok (.ireturn, 1) := by decide +kernel
theorem d_BA_feed_30 : decode prog_1_method_2_code 30 = .ok (.aload_n 0, 1) := by decide +kernel
theorem d_BA_feed_31 : decode prog_1_method_2_code 31 = .ok (.getfield 10, 3) := by decide +kernel
theorem d_BA_feed_34 : decode prog_1_method_2_code 34 = .ok (.iload_n 1, 1) := by decide +kernel
theorem d_BA_feed_35 : decode prog_1_method_2_code 35 = .ok (.invokevirtual 82, 3) := by decide +kernel
theorem d_BA_feed_38 : decode prog_1_method_2_code 38 = .ok (.aload_n 0, 1) := by decide +kernel
theorem d_BA_feed_39 : decode prog_1_method_2_code 39 = .ok (.getfield 10, 3) := by decide +kernel
theorem d_BA_feed_42 : decode prog_1_method_2_code 42 = .ok (.getfield 78, 3) := by decide +kernel
theorem d_BA_feed_45 : decode prog_1_method_2_code 45 = .ok (.ireturn, 1) := by decide +kernel
set_option maxRecDepth 20000 in
set_option maxHeartbeats 2000000 in
theorem T_BA_feed {Z : ZT} (X : CX Z Y_BA_feed) {hp : HP} {a1 : Int32} {p : Int32 × HP} (h : f_BA_feed hp a1 = some p) (hR : RetI Z Y_BA_feed .int p.1 p.2) : V Z Y_BA_feed hp 0 [(0, .ref (gA (zG Z) 0)), (1, .int a1)] [] := by
  unfold f_BA_feed at h
  refine R_iload_n X 1 d_BA_feed_0 rfl ?_
  refine R_iconst (v := (0 : Int32)) X d_BA_feed_1 rfl ?_
  refine R_sipush (v := (255 : Int32)) X d_BA_feed_2 rfl ?_
  obtain ⟨p2, e1, h⟩ := ob h
  refine R_scall (As := [.int a1, .int (0 : Int32), .int (255 : Int32)]) (st := []) X (M_BA_within e1) tw_275 cf_BA_within rfl rfl rfl d_BA_feed_5 ?_
  refine R_ifne (tgt := 14) X d_BA_feed_8 rfl (fun c3 => ?_) (fun c3 => ?_)
  · replace h := (if_neg c3).symm.trans h
    refine R_aload_n X 0 d_BA_feed_14 rfl ?_
    refine R_getR (ci := 6) X rfl iBA_ok (of_decide_eq_true rfl) rfl 0 rfl rfl tw_234 d_BA_feed_15 ?_
    refine R_getI (ci := 3) X rfl iRe_ok (of_decide_eq_true rfl) rfl 1 rfl rfl tw_74 d_BA_feed_18 ?_
    refine R_sipush (v := (240 : Int32)) X d_BA_feed_21 rfl ?_
    refine R_icmp_lt (tgt := 30) X d_BA_feed_24 rfl (fun c4 => ?_) (fun c4 => ?_)
    · replace h := (if_pos c4).symm.trans h
      refine R_aload_n X 0 d_BA_feed_30 rfl ?_
      refine R_getR (ci := 6) X rfl iBA_ok (of_decide_eq_true rfl) rfl 0 rfl rfl tw_234 d_BA_feed_31 ?_
      refine R_iload_n X 1 d_BA_feed_34 rfl ?_
      obtain ⟨p6, e5, h⟩ := ob h
      refine R_vcallv (ci := 3) (k := 1) (As := [.int a1]) (st := []) X (M_Re_append e5) tw_280 cf_Re_append (of_decide_eq_true rfl) rfl rfl rfl rfl rfl d_BA_feed_35 ?_
      refine R_aload_n X 0 d_BA_feed_38 rfl ?_
      refine V_pc (pc' := 39) rfl ?_
      refine R_getR (ci := 6) X rfl iBA_ok (of_decide_eq_true rfl) rfl 0 rfl rfl tw_234 d_BA_feed_39 ?_
      refine R_getI (ci := 3) X rfl iRe_ok (of_decide_eq_true rfl) rfl 1 rfl rfl tw_74 d_BA_feed_42 ?_
      exact R_ret hR h d_BA_feed_45
    · replace h := (if_neg c4).symm.trans h
      refine R_ldc (v := (-1000000004 : Int32)) X tw_279 d_BA_feed_27 ?_
      exact R_ret hR h d_BA_feed_29
  · replace h := (if_pos c3).symm.trans h
    refine R_ldc (v := (-1000000002 : Int32)) X tw_278 d_BA_feed_11 ?_
    exact R_ret hR h d_BA_feed_13
theorem M_BA_feed {G : GT} {hp : HP} {a1 : Int32} {p : Int32 × HP} (h : f_BA_feed hp a1 = some p) : MI G y_BA_feed Y_BA_feed .int [.ref (gA G 0), .int a1] hp p.1 p.2 := MI_of rfl (fun Z hz X hR => by subst hz; exact T_BA_feed X h hR)
theorem d_Br_clear_0 : decode prog_2_method_2_code 0 = .ok (.aload_n 0, 1) := by decide +kernel
theorem d_Br_clear_1 : decode prog_2_method_2_code 1 = .ok (.iconst 0, 1) := by decide +kernel
theorem d_Br_clear_2 : decode prog_2_method_2_code 2 = .ok (.putfield 27, 3) := by decide +kernel
theorem d_Br_clear_5 : decode prog_2_method_2_code 5 = .ok (.aload_n 0, 1) := by decide +kernel
theorem d_Br_clear_6 : decode prog_2_method_2_code 6 = .ok (.iconst 0, 1) := by decide +kernel
theorem d_Br_clear_7 : decode prog_2_method_2_code 7 = .ok (.putfield 31, 3) := by decide +kernel
theorem d_Br_clear_10 : decode prog_2_method_2_code 10 = .ok (.aload_n 0, 1) := by decide +kernel
theorem d_Br_clear_11 : decode prog_2_method_2_code 11 = .ok (.iconst 0, 1) := by decide +kernel
theorem d_Br_clear_12 : decode prog_2_method_2_code 12 = .ok (.putfield 34, 3) := by decide +kernel
theorem d_Br_clear_15 : decode prog_2_method_2_code 15 = .ok (.return_, 1) := by decide +kernel
set_option maxRecDepth 20000 in
set_option maxHeartbeats 2000000 in
theorem T_Br_clear {Z : ZT} (X : CX Z Y_Br_clear) {hp : HP} {q0 : Nat} (hq0 : isB q0 = true) {p : Int32 × HP} (h : f_Br_clear hp q0 = some p) (hR : RetV Z Y_Br_clear p.2) : V Z Y_Br_clear hp 0 [(0, .ref (gA (zG Z) q0))] [] := by
  unfold f_Br_clear at h
  refine R_aload_n X 0 d_Br_clear_0 rfl ?_
  refine R_iconst (v := (0 : Int32)) X d_Br_clear_1 rfl ?_
  refine R_putI (ci := 0) X rfl iBr_ok yBr_ok nBr_ok (B_all _ hq0).1.1 (B_all _ hq0).1.2 5 rfl rfl rfl rfl tw_208 d_Br_clear_2 ?_
  refine R_aload_n X 0 d_Br_clear_5 rfl ?_
  refine R_iconst (v := (0 : Int32)) X d_Br_clear_6 rfl ?_
  refine V_pc (pc' := 7) rfl ?_
  refine R_putI (ci := 0) X rfl iBr_ok yBr_ok nBr_ok (B_all _ hq0).1.1 (B_all _ hq0).1.2 6 rfl rfl rfl rfl tw_210 d_Br_clear_7 ?_
  refine R_aload_n X 0 d_Br_clear_10 rfl ?_
  refine R_iconst (v := (0 : Int32)) X d_Br_clear_11 rfl ?_
  refine R_putI (ci := 0) X rfl iBr_ok yBr_ok nBr_ok (B_all _ hq0).1.1 (B_all _ hq0).1.2 7 rfl rfl rfl rfl tw_214 d_Br_clear_12 ?_
  exact R_retv hR h d_Br_clear_15
theorem M_Br_clear {G : GT} {hp : HP} {q0 : Nat} (hq0 : isB q0 = true) {p : Int32 × HP} (h : f_Br_clear hp q0 = some p) : MV G y_Br_clear Y_Br_clear [.ref (gA G q0)] hp p.2 := MV_of rfl (fun Z hz X hR => by subst hz; exact T_Br_clear X hq0 h hR)
theorem d_Re_letter_0 : decode prog_5_method_10_code 0 = .ok (.aload_n 0, 1) := by decide +kernel
theorem d_Re_letter_1 : decode prog_5_method_10_code 1 = .ok (.getfield 27, 3) := by decide +kernel
theorem d_Re_letter_4 : decode prog_5_method_10_code 4 = .ok (.ifCond .lt (36), 3) := by decide +kernel
theorem d_Re_letter_7 : decode prog_5_method_10_code 7 = .ok (.aload_n 0, 1) := by decide +kernel
theorem d_Re_letter_8 : decode prog_5_method_10_code 8 = .ok (.getfield 27, 3) := by decide +kernel
theorem d_Re_letter_11 : decode prog_5_method_10_code 11 = .ok (.aload_n 0, 1) := by decide +kernel
theorem d_Re_letter_12 : decode prog_5_method_10_code 12 = .ok (.getfield 19, 3) := by decide +kernel
theorem d_Re_letter_15 : decode prog_5_method_10_code 15 = .ok (.if_icmp .ge (25), 3) := by decide +kernel
theorem d_Re_letter_18 : decode prog_5_method_10_code 18 = .ok (.aload_n 0, 1) := by decide +kernel
theorem d_Re_letter_19 : decode prog_5_method_10_code 19 = .ok (.getfield 27, 3) := by decide +kernel
theorem d_Re_letter_22 : decode prog_5_method_10_code 22 = .ok (.sipush (240), 3) := by decide +kernel
theorem d_Re_letter_25 : decode prog_5_method_10_code 25 = .ok (.if_icmp .ge (15), 3) := by decide +kernel
theorem d_Re_letter_28 : decode prog_5_method_10_code 28 = .ok (.aload_n 0, 1) := by decide +kernel
theorem d_Re_letter_29 : decode prog_5_method_10_code 29 = .ok (.getfield 9, 3) := by decide +kernel
theorem d_Re_letter_32 : decode prog_5_method_10_code 32 = .ok (.aload_n 0, 1) := by decide +kernel
theorem d_Re_letter_33 : decode prog_5_method_10_code 33 = .ok (.getfield 27, 3) := by decide +kernel
theorem d_Re_letter_36 : decode prog_5_method_10_code 36 = .ok (.iaload, 1) := by decide +kernel
theorem d_Re_letter_37 : decode prog_5_method_10_code 37 = .ok (.goto (4), 3) := by decide +kernel
theorem d_Re_letter_40 : decode prog_5_method_10_code 40 = .ok (.iconst (-1), 1) := by decide +kernel
theorem d_Re_letter_41 : decode prog_5_method_10_code 41 = .ok (.ireturn, 1) := by decide +kernel
set_option maxRecDepth 20000 in
set_option maxHeartbeats 2000000 in
theorem T_Re_letter {Z : ZT} (X : CX Z Y_Re_letter) {hp : HP} {p : Int32 × HP} (h : f_Re_letter hp = some p) (hR : RetI Z Y_Re_letter .int p.1 p.2) : V Z Y_Re_letter hp 0 [(0, .ref (gA (zG Z) 1))] [] := by
  unfold f_Re_letter at h
  refine R_aload_n X 0 d_Re_letter_0 rfl ?_
  refine R_getI (ci := 3) X rfl iRe_ok (of_decide_eq_true rfl) rfl 4 rfl rfl tw_78 d_Re_letter_1 ?_
  refine R_iflt (tgt := 40) X d_Re_letter_4 rfl (fun c1 => ?_) (fun c1 => ?_)
  · replace h := (if_pos c1).symm.trans h
    refine R_iconst (v := (-1 : Int32)) X d_Re_letter_40 rfl ?_
    exact R_ret hR h d_Re_letter_41
  · replace h := (if_neg c1).symm.trans h
    refine R_aload_n X 0 d_Re_letter_7 rfl ?_
    refine R_getI (ci := 3) X rfl iRe_ok (of_decide_eq_true rfl) rfl 4 rfl rfl tw_78 d_Re_letter_8 ?_
    refine R_aload_n X 0 d_Re_letter_11 rfl ?_
    refine R_getI (ci := 3) X rfl iRe_ok (of_decide_eq_true rfl) rfl 1 rfl rfl tw_73 d_Re_letter_12 ?_
    refine R_icmp_ge (tgt := 40) X d_Re_letter_15 rfl (fun c2 => ?_) (fun c2 => ?_)
    · replace h := (if_pos c2).symm.trans h
      refine R_iconst (v := (-1 : Int32)) X d_Re_letter_40 rfl ?_
      exact R_ret hR h d_Re_letter_41
    · replace h := (if_neg c2).symm.trans h
      refine R_aload_n X 0 d_Re_letter_18 rfl ?_
      refine R_getI (ci := 3) X rfl iRe_ok (of_decide_eq_true rfl) rfl 4 rfl rfl tw_78 d_Re_letter_19 ?_
      refine R_sipush (v := (240 : Int32)) X d_Re_letter_22 rfl ?_
      refine R_icmp_ge (tgt := 40) X d_Re_letter_25 rfl (fun c3 => ?_) (fun c3 => ?_)
      · replace h := (if_pos c3).symm.trans h
        refine R_iconst (v := (-1 : Int32)) X d_Re_letter_40 rfl ?_
        exact R_ret hR h d_Re_letter_41
      · replace h := (if_neg c3).symm.trans h
        refine R_aload_n X 0 d_Re_letter_28 rfl ?_
        refine R_getR (ci := 3) X rfl iRe_ok (of_decide_eq_true rfl) rfl 0 rfl rfl tw_72 d_Re_letter_29 ?_
        refine R_aload_n X 0 d_Re_letter_32 rfl ?_
        refine R_getI (ci := 3) X rfl iRe_ok (of_decide_eq_true rfl) rfl 4 rfl rfl tw_78 d_Re_letter_33 ?_
        obtain ⟨i4, h⟩ := ck h
        refine R_iald (n := 240) X (of_decide_eq_true rfl) rfl i4 d_Re_letter_36 ?_
        refine V_pc (pc' := 37) rfl ?_
        refine R_goto (tgt := 41) X d_Re_letter_37 rfl ?_
        exact R_ret hR h d_Re_letter_41
theorem M_Re_letter {G : GT} {hp : HP} {p : Int32 × HP} (h : f_Re_letter hp = some p) : MI G y_Re_letter Y_Re_letter .int [.ref (gA G 1)] hp p.1 p.2 := MI_of rfl (fun Z hz X hR => by subst hz; exact T_Re_letter X h hR)
theorem d_Re_skipBlanks_0 : decode prog_5_method_9_code 0 = .ok (.aload_n 0, 1) := by decide +kernel
theorem d_Re_skipBlanks_1 : decode prog_5_method_9_code 1 = .ok (.getfield 27, 3) := by decide +kernel
theorem d_Re_skipBlanks_4 : decode prog_5_method_9_code 4 = .ok (.aload_n 0, 1) := by decide +kernel
theorem d_Re_skipBlanks_5 : decode prog_5_method_9_code 5 = .ok (.getfield 19, 3) := by decide +kernel
theorem d_Re_skipBlanks_8 : decode prog_5_method_9_code 8 = .ok (.if_icmp .ge (25), 3) := by decide +kernel
theorem d_Re_skipBlanks_11 : decode prog_5_method_9_code 11 = .ok (.aload_n 0, 1) := by decide +kernel
theorem d_Re_skipBlanks_12 : decode prog_5_method_9_code 12 = .ok (.invokevirtual 40, 3) := by decide +kernel
theorem d_Re_skipBlanks_15 : decode prog_5_method_9_code 15 = .ok (.bipush (32), 2) := by decide +kernel
theorem d_Re_skipBlanks_17 : decode prog_5_method_9_code 17 = .ok (.if_icmp .ne (16), 3) := by decide +kernel
theorem d_Re_skipBlanks_20 : decode prog_5_method_9_code 20 = .ok (.aload_n 0, 1) := by decide +kernel
theorem d_Re_skipBlanks_21 : decode prog_5_method_9_code 21 = .ok (.dup, 1) := by decide +kernel
theorem d_Re_skipBlanks_22 : decode prog_5_method_9_code 22 = .ok (.getfield 27, 3) := by decide +kernel
theorem d_Re_skipBlanks_25 : decode prog_5_method_9_code 25 = .ok (.iconst 1, 1) := by decide +kernel
theorem d_Re_skipBlanks_26 : decode prog_5_method_9_code 26 = .ok (.iadd, 1) := by decide +kernel
theorem d_Re_skipBlanks_27 : decode prog_5_method_9_code 27 = .ok (.putfield 27, 3) := by decide +kernel
theorem d_Re_skipBlanks_30 : decode prog_5_method_9_code 30 = .ok (.goto (-30), 3) := by decide +kernel
theorem d_Re_skipBlanks_33 : decode prog_5_method_9_code 33 = .ok (.return_, 1) := by decide +kernel
set_option maxRecDepth 20000 in
set_option maxHeartbeats 2000000 in
theorem T_Re_skipBlanks_L0 {Z : ZT} (X : CX Z Y_Re_skipBlanks) {p : Int32 × HP} (hR : RetV Z Y_Re_skipBlanks p.2) {K : HP → Option (Int32 × HP)} (hK : ∀ (hp : HP), K hp = some p → V Z Y_Re_skipBlanks hp 33 [] []) : ∀ (n : Nat) (hp : HP), f_Re_skipBlanks_L0 K n hp = some p → V Z Y_Re_skipBlanks hp 0 [(0, .ref (gA (zG Z) 1))] [] := by
  intro n
  induction n with
  | zero =>
    intro hp h
    cases h
  | succ n ih =>
    intro hp h
    replace h : f_Re_skipBlanks_L0 K (n + 1) hp = some p := h
    unfold f_Re_skipBlanks_L0 at h
    refine R_aload_n X 0 d_Re_skipBlanks_0 rfl ?_
    refine R_getI (ci := 3) X rfl iRe_ok (of_decide_eq_true rfl) rfl 4 rfl rfl tw_78 d_Re_skipBlanks_1 ?_
    refine R_aload_n X 0 d_Re_skipBlanks_4 rfl ?_
    refine R_getI (ci := 3) X rfl iRe_ok (of_decide_eq_true rfl) rfl 1 rfl rfl tw_73 d_Re_skipBlanks_5 ?_
    refine R_icmp_ge (tgt := 33) X d_Re_skipBlanks_8 rfl (fun c1 => ?_) (fun c1 => ?_)
    · replace h := (if_pos c1).symm.trans h
      refine V_pc (pc' := 33) rfl (R_loc (L' := []) [] rfl ?_)
      exact hK hp h
    · replace h := (if_neg c1).symm.trans h
      refine R_aload_n X 0 d_Re_skipBlanks_11 rfl ?_
      obtain ⟨p3, e2, h⟩ := ob h
      refine R_vcall (ci := 3) (k := 1) (As := []) (st := []) X (M_Re_letter e2) tw_300 cf_Re_letter (of_decide_eq_true rfl) rfl rfl rfl rfl rfl d_Re_skipBlanks_12 ?_
      refine R_bipush (v := (32 : Int32)) X d_Re_skipBlanks_15 rfl ?_
      refine R_icmp_ne (tgt := 33) X d_Re_skipBlanks_17 rfl (fun c4 => ?_) (fun c4 => ?_)
      · replace h := (if_neg c4).symm.trans h
        refine V_pc (pc' := 33) rfl (R_loc (L' := []) [] rfl ?_)
        exact hK p3.2 h
      · replace h := (if_pos c4).symm.trans h
        refine R_aload_n X 0 d_Re_skipBlanks_20 rfl ?_
        refine R_dup X d_Re_skipBlanks_21 rfl ?_
        refine R_getI (ci := 3) X rfl iRe_ok (of_decide_eq_true rfl) rfl 4 rfl rfl tw_78 d_Re_skipBlanks_22 ?_
        refine R_iconst (v := (1 : Int32)) X d_Re_skipBlanks_25 rfl ?_
        refine R_iadd X d_Re_skipBlanks_26 ?_
        refine V_pc (pc' := 27) rfl ?_
        refine R_putI (ci := 3) X rfl iRe_ok yRe_ok nRe_ok (of_decide_eq_true rfl) rfl 4 rfl rfl rfl rfl tw_78 d_Re_skipBlanks_27 ?_
        refine R_goto (tgt := 0) X d_Re_skipBlanks_30 rfl ?_
        refine V_pc (pc' := 0) rfl (R_loc (L' := [(0, .ref (gA (zG Z) 1))]) [0] rfl ?_)
        exact ih (up p3.2 1 4 ((p3.2 1 4) + (1 : Int32))) h
set_option maxRecDepth 20000 in
set_option maxHeartbeats 2000000 in
theorem T_Re_skipBlanks {Z : ZT} (X : CX Z Y_Re_skipBlanks) {hp : HP} {p : Int32 × HP} (h : f_Re_skipBlanks hp = some p) (hR : RetV Z Y_Re_skipBlanks p.2) : V Z Y_Re_skipBlanks hp 0 [(0, .ref (gA (zG Z) 1))] [] := by
  unfold f_Re_skipBlanks at h
  refine V_pc (pc' := 0) rfl (R_loc (L' := [(0, .ref (gA (zG Z) 1))]) [0] rfl ?_)
  refine T_Re_skipBlanks_L0 X hR (fun hp5 h => ?_) _ hp h
  exact R_retv hR h d_Re_skipBlanks_33
theorem M_Re_skipBlanks {G : GT} {hp : HP} {p : Int32 × HP} (h : f_Re_skipBlanks hp = some p) : MV G y_Re_skipBlanks Y_Re_skipBlanks [.ref (gA G 1)] hp p.2 := MV_of rfl (fun Z hz X hR => by subst hz; exact T_Re_skipBlanks X h hR)
theorem d_Br_isThere_0 : decode prog_2_method_6_code 0 = .ok (.aload_n 0, 1) := by decide +kernel
theorem d_Br_isThere_1 : decode prog_2_method_6_code 1 = .ok (.getfield 27, 3) := by decide +kernel
theorem d_Br_isThere_4 : decode prog_2_method_6_code 4 = .ok (.ifCond .le (7), 3) := by decide +kernel
theorem d_Br_isThere_7 : decode prog_2_method_6_code 7 = .ok (.iconst 1, 1) := by decide +kernel
theorem d_Br_isThere_8 : decode prog_2_method_6_code 8 = .ok (.goto (4), 3) := by decide +kernel
theorem d_Br_isThere_11 : decode prog_2_method_6_code 11 = .ok (.iconst 0, 1) := by decide +kernel
theorem d_Br_isThere_12 : decode prog_2_method_6_code 12 = .ok (.ireturn, 1) := by decide +kernel
set_option maxRecDepth 20000 in
set_option maxHeartbeats 2000000 in
theorem T_Br_isThere {Z : ZT} (X : CX Z Y_Br_isThere) {hp : HP} {q0 : Nat} (hq0 : isB q0 = true) {p : Int32 × HP} (h : f_Br_isThere hp q0 = some p) (hR : RetI Z Y_Br_isThere .boolean p.1 p.2) : V Z Y_Br_isThere hp 0 [(0, .ref (gA (zG Z) q0))] [] := by
  unfold f_Br_isThere at h
  refine R_aload_n X 0 d_Br_isThere_0 rfl ?_
  refine R_getI (ci := 0) X rfl iBr_ok (B_all _ hq0).1.1 (B_all _ hq0).1.2 5 rfl rfl tw_208 d_Br_isThere_1 ?_
  refine R_ifle (tgt := 11) X d_Br_isThere_4 rfl (fun c1 => ?_) (fun c1 => ?_)
  · replace h := (if_pos c1).symm.trans h
    refine R_iconst (v := (0 : Int32)) X d_Br_isThere_11 rfl ?_
    exact R_retc hR (by decide) h d_Br_isThere_12
  · replace h := (if_neg c1).symm.trans h
    refine R_iconst (v := (1 : Int32)) X d_Br_isThere_7 rfl ?_
    refine R_goto (tgt := 12) X d_Br_isThere_8 rfl ?_
    exact R_retc hR (by decide) h d_Br_isThere_12
theorem M_Br_isThere {G : GT} {hp : HP} {q0 : Nat} (hq0 : isB q0 = true) {p : Int32 × HP} (h : f_Br_isThere hp q0 = some p) : MI G y_Br_isThere Y_Br_isThere .boolean [.ref (gA G q0)] hp p.1 p.2 := MI_of rfl (fun Z hz X hR => by subst hz; exact T_Br_isThere X hq0 h hR)
theorem d_Re_isFigure_0 : decode prog_5_method_11_code 0 = .ok (.iload_n 0, 1) := by decide +kernel
theorem d_Re_isFigure_1 : decode prog_5_method_11_code 1 = .ok (.bipush (48), 2) := by decide +kernel
theorem d_Re_isFigure_3 : decode prog_5_method_11_code 3 = .ok (.if_icmp .lt (13), 3) := by decide +kernel
theorem d_Re_isFigure_6 : decode prog_5_method_11_code 6 = .ok (.iload_n 0, 1) := by decide +kernel
theorem d_Re_isFigure_7 : decode prog_5_method_11_code 7 = .ok (.bipush (57), 2) := by decide +kernel
theorem d_Re_isFigure_9 : decode prog_5_method_11_code 9 = .ok (.if_icmp .gt (7), 3) := by decide +kernel
theorem d_Re_isFigure_12 : decode prog_5_method_11_code 12 = .ok (.iconst 1, 1) := by decide +kernel
theorem d_Re_isFigure_13 : decode prog_5_method_11_code 13 = .ok (.goto (4), 3) := by decide +kernel
theorem d_Re_isFigure_16 : decode prog_5_method_11_code 16 = .ok (.iconst 0, 1) := by decide +kernel
theorem d_Re_isFigure_17 : decode prog_5_method_11_code 17 = .ok (.ireturn, 1) := by decide +kernel
set_option maxRecDepth 20000 in
set_option maxHeartbeats 2000000 in
theorem T_Re_isFigure {Z : ZT} (X : CX Z Y_Re_isFigure) {hp : HP} {a0 : Int32} {p : Int32 × HP} (h : f_Re_isFigure hp a0 = some p) (hR : RetI Z Y_Re_isFigure .boolean p.1 p.2) : V Z Y_Re_isFigure hp 0 [(0, .int a0)] [] := by
  unfold f_Re_isFigure at h
  refine R_iload_n X 0 d_Re_isFigure_0 rfl ?_
  refine R_bipush (v := (48 : Int32)) X d_Re_isFigure_1 rfl ?_
  refine R_icmp_lt (tgt := 16) X d_Re_isFigure_3 rfl (fun c1 => ?_) (fun c1 => ?_)
  · replace h := (if_pos c1).symm.trans h
    refine R_iconst (v := (0 : Int32)) X d_Re_isFigure_16 rfl ?_
    exact R_retc hR (by decide) h d_Re_isFigure_17
  · replace h := (if_neg c1).symm.trans h
    refine R_iload_n X 0 d_Re_isFigure_6 rfl ?_
    refine R_bipush (v := (57 : Int32)) X d_Re_isFigure_7 rfl ?_
    refine R_icmp_gt (tgt := 16) X d_Re_isFigure_9 rfl (fun c2 => ?_) (fun c2 => ?_)
    · replace h := (if_pos c2).symm.trans h
      refine R_iconst (v := (0 : Int32)) X d_Re_isFigure_16 rfl ?_
      exact R_retc hR (by decide) h d_Re_isFigure_17
    · replace h := (if_neg c2).symm.trans h
      refine R_iconst (v := (1 : Int32)) X d_Re_isFigure_12 rfl ?_
      refine R_goto (tgt := 17) X d_Re_isFigure_13 rfl ?_
      exact R_retc hR (by decide) h d_Re_isFigure_17
theorem M_Re_isFigure {G : GT} {hp : HP} {a0 : Int32} {p : Int32 × HP} (h : f_Re_isFigure hp a0 = some p) : MI G y_Re_isFigure Y_Re_isFigure .boolean [.int a0] hp p.1 p.2 := MI_of rfl (fun Z hz X hR => by subst hz; exact T_Re_isFigure X h hR)
theorem d_Re_fail_0 : decode prog_5_method_12_code 0 = .ok (.aload_n 0, 1) := by decide +kernel
theorem d_Re_fail_1 : decode prog_5_method_12_code 1 = .ok (.getfield 30, 3) := by decide +kernel
theorem d_Re_fail_4 : decode prog_5_method_12_code 4 = .ok (.ifCond .ne (13), 3) := by decide +kernel
theorem d_Re_fail_7 : decode prog_5_method_12_code 7 = .ok (.aload_n 0, 1) := by decide +kernel
theorem d_Re_fail_8 : decode prog_5_method_12_code 8 = .ok (.iload_n 1, 1) := by decide +kernel
theorem d_Re_fail_9 : decode prog_5_method_12_code 9 = .ok (.putfield 30, 3) := by decide +kernel
theorem d_Re_fail_12 : decode prog_5_method_12_code 12 = .ok (.aload_n 0, 1) := by decide +kernel
theorem d_Re_fail_13 : decode prog_5_method_12_code 13 = .ok (.iload_n 2, 1) := by decide +kernel
theorem d_Re_fail_14 : decode prog_5_method_12_code 14 = .ok (.putfield 15, 3) := by decide +kernel
theorem d_Re_fail_17 : decode prog_5_method_12_code 17 = .ok (.return_, 1) := by decide +kernel
set_option maxRecDepth 20000 in
set_option maxHeartbeats 2000000 in
theorem T_Re_fail {Z : ZT} (X : CX Z Y_Re_fail) {hp : HP} {a1 : Int32} {a2 : Int32} {p : Int32 × HP} (h : f_Re_fail hp a1 a2 = some p) (hR : RetV Z Y_Re_fail p.2) : V Z Y_Re_fail hp 0 [(0, .ref (gA (zG Z) 1)), (1, .int a1), (2, .int a2)] [] := by
  unfold f_Re_fail at h
  refine R_aload_n X 0 d_Re_fail_0 rfl ?_
  refine R_getI (ci := 3) X rfl iRe_ok (of_decide_eq_true rfl) rfl 3 rfl rfl tw_77 d_Re_fail_1 ?_
  refine R_ifne (tgt := 17) X d_Re_fail_4 rfl (fun c1 => ?_) (fun c1 => ?_)
  · replace h := (if_neg c1).symm.trans h
    exact R_retv hR h d_Re_fail_17
  · replace h := (if_pos c1).symm.trans h
    refine R_aload_n X 0 d_Re_fail_7 rfl ?_
    refine R_iload_n X 1 d_Re_fail_8 rfl ?_
    refine R_putI (ci := 3) X rfl iRe_ok yRe_ok nRe_ok (of_decide_eq_true rfl) rfl 3 rfl rfl rfl rfl tw_77 d_Re_fail_9 ?_
    refine R_aload_n X 0 d_Re_fail_12 rfl ?_
    refine R_iload_n X 2 d_Re_fail_13 rfl ?_
    refine V_pc (pc' := 14) rfl ?_
    refine R_putI (ci := 3) X rfl iRe_ok yRe_ok nRe_ok (of_decide_eq_true rfl) rfl 2 rfl rfl rfl rfl tw_75 d_Re_fail_14 ?_
    exact R_retv hR h d_Re_fail_17
theorem M_Re_fail {G : GT} {hp : HP} {a1 : Int32} {a2 : Int32} {p : Int32 × HP} (h : f_Re_fail hp a1 a2 = some p) : MV G y_Re_fail Y_Re_fail [.ref (gA G 1), .int a1, .int a2] hp p.2 := MV_of rfl (fun Z hz X hR => by subst hz; exact T_Re_fail X h hR)
theorem d_Re_readNumber_0 : decode prog_5_method_7_code 0 = .ok (.aload_n 0, 1) := by decide +kernel
theorem d_Re_readNumber_1 : decode prog_5_method_7_code 1 = .ok (.invokevirtual 33, 3) := by decide +kernel
theorem d_Re_readNumber_4 : decode prog_5_method_7_code 4 = .ok (.aload_n 0, 1) := by decide +kernel
theorem d_Re_readNumber_5 : decode prog_5_method_7_code 5 = .ok (.getfield 27, 3) := by decide +kernel
theorem d_Re_readNumber_8 : decode prog_5_method_7_code 8 = .ok (.istore_n 2, 1) := by decide +kernel
theorem d_Re_readNumber_9 : decode prog_5_method_7_code 9 = .ok (.iconst 0, 1) := by decide +kernel
theorem d_Re_readNumber_10 : decode prog_5_method_7_code 10 = .ok (.istore_n 3, 1) := by decide +kernel
theorem d_Re_readNumber_11 : decode prog_5_method_7_code 11 = .ok (.aload_n 0, 1) := by decide +kernel
theorem d_Re_readNumber_12 : decode prog_5_method_7_code 12 = .ok (.getfield 27, 3) := by decide +kernel
theorem d_Re_readNumber_15 : decode prog_5_method_7_code 15 = .ok (.aload_n 0, 1) := by decide +kernel
theorem d_Re_readNumber_16 : decode prog_5_method_7_code 16 = .ok (.getfield 19, 3) := by decide +kernel
theorem d_Re_readNumber_19 : decode prog_5_method_7_code 19 = .ok (.if_icmp .ge (49), 3) := by decide +kernel
theorem d_Re_readNumber_22 : decode prog_5_method_7_code 22 = .ok (.aload_n 0, 1) := by decide +kernel
theorem d_Re_readNumber_23 : decode prog_5_method_7_code 23 = .ok (.invokevirtual 40, 3) := by decide +kernel
theorem d_Re_readNumber_26 : decode prog_5_method_7_code 26 = .ok (.invokestatic 85, 3) := by decide +kernel
theorem d_Re_readNumber_29 : decode prog_5_method_7_code 29 = .ok (.ifCond .eq (39), 3) := by decide +kernel
theorem d_Re_readNumber_32 : decode prog_5_method_7_code 32 = .ok (.aload_n 0, 1) := by decide +kernel
theorem d_Re_readNumber_33 : decode prog_5_method_7_code 33 = .ok (.getfield 27, 3) := by decide +kernel
theorem d_Re_readNumber_36 : decode prog_5_method_7_code 36 = .ok (.iload_n 2, 1) := by decide +kernel
theorem d_Re_readNumber_37 : decode prog_5_method_7_code 37 = .ok (.isub, 1) := by decide +kernel
theorem d_Re_readNumber_38 : decode prog_5_method_7_code 38 = .ok (.iconst 3, 1) := by decide +kernel
theorem d_Re_readNumber_39 : decode prog_5_method_7_code 39 = .ok (.if_icmp .ge (16), 3) := by decide +kernel
theorem d_Re_readNumber_42 : decode prog_5_method_7_code 42 = .ok (.iload_n 3, 1) := by decide +kernel
theorem d_Re_readNumber_43 : decode prog_5_method_7_code 43 = .ok (.bipush (10), 2) := by decide +kernel
theorem d_Re_readNumber_45 : decode prog_5_method_7_code 45 = .ok (.imul, 1) := by decide +kernel
theorem d_Re_readNumber_46 : decode prog_5_method_7_code 46 = .ok (.aload_n 0, 1) := by decide +kernel
theorem d_Re_readNumber_47 : decode prog_5_method_7_code 47 = .ok (.invokevirtual 40, 3) := by decide +kernel
theorem d_Re_readNumber_50 : decode prog_5_method_7_code 50 = .ok (.iadd, 1) := by decide +kernel
theorem d_Re_readNumber_51 : decode prog_5_method_7_code 51 = .ok (.bipush (48), 2) := by decide +kernel
theorem d_Re_readNumber_53 : decode prog_5_method_7_code 53 = .ok (.isub, 1) := by decide +kernel
theorem d_Re_readNumber_54 : decode prog_5_method_7_code 54 = .ok (.istore_n 3, 1) := by decide +kernel
theorem d_Re_readNumber_55 : decode prog_5_method_7_code 55 = .ok (.aload_n 0, 1) := by decide +kernel
theorem d_Re_readNumber_56 : decode prog_5_method_7_code 56 = .ok (.dup, 1) := by decide +kernel
theorem d_Re_readNumber_57 : decode prog_5_method_7_code 57 = .ok (.getfield 27, 3) := by decide +kernel
theorem d_Re_readNumber_60 : decode prog_5_method_7_code 60 = .ok (.iconst 1, 1) := by decide +kernel
theorem d_Re_readNumber_61 : decode prog_5_method_7_code 61 = .ok (.iadd, 1) := by decide +kernel
theorem d_Re_readNumber_62 : decode prog_5_method_7_code 62 = .ok (.putfield 27, 3) := by decide +kernel
theorem d_Re_readNumber_65 : decode prog_5_method_7_code 65 = .ok (.goto (-54), 3) := by decide +kernel
theorem d_Re_readNumber_68 : decode prog_5_method_7_code 68 = .ok (.aload_n 0, 1) := by decide +kernel
theorem d_Re_readNumber_69 : decode prog_5_method_7_code 69 = .ok (.getfield 27, 3) := by decide +kernel
theorem d_Re_readNumber_72 : decode prog_5_method_7_code 72 = .ok (.iload_n 2, 1) := by decide +kernel
theorem d_Re_readNumber_73 : decode prog_5_method_7_code 73 = .ok (.if_icmp .ne (12), 3) := by decide +kernel
theorem d_Re_readNumber_76 : decode prog_5_method_7_code 76 = .ok (.aload_n 0, 1) := by decide +kernel
theorem d_Re_readNumber_77 : decode prog_5_method_7_code 77 = .ok (.iconst 1, 1) := by decide +kernel
theorem d_Re_readNumber_78 : decode prog_5_method_7_code 78 = .ok (.iload_n 2, 1) := by decide +kernel
theorem d_Re_readNumber_79 : decode prog_5_method_7_code 79 = .ok (.invokevirtual 51, 3) := by decide +kernel
theorem d_Re_readNumber_82 : decode prog_5_method_7_code 82 = .ok (.goto (24), 3) := by decide +kernel
theorem d_Re_readNumber_85 : decode prog_5_method_7_code 85 = .ok (.aload_n 0, 1) := by decide +kernel
theorem d_Re_readNumber_86 : decode prog_5_method_7_code 86 = .ok (.getfield 27, 3) := by decide +kernel
theorem d_Re_readNumber_89 : decode prog_5_method_7_code 89 = .ok (.iload_n 2, 1) := by decide +kernel
theorem d_Re_readNumber_90 : decode prog_5_method_7_code 90 = .ok (.isub, 1) := by decide +kernel
theorem d_Re_readNumber_91 : decode prog_5_method_7_code 91 = .ok (.iconst 3, 1) := by decide +kernel
theorem d_Re_readNumber_92 : decode prog_5_method_7_code 92 = .ok (.if_icmp .gt (8), 3) := by decide +kernel
theorem d_Re_readNumber_95 : decode prog_5_method_7_code 95 = .ok (.iload_n 3, 1) := by decide +kernel
theorem d_Re_readNumber_96 : decode prog_5_method_7_code 96 = .ok (.iload_n 1, 1) := by decide +kernel
theorem d_Re_readNumber_97 : decode prog_5_method_7_code 97 = .ok (.if_icmp .le (9), 3) := by decide +kernel
theorem d_Re_readNumber_100 : decode prog_5_method_7_code 100 = .ok (.aload_n 0, 1) := by decide +kernel
theorem d_Re_readNumber_101 : decode prog_5_method_7_code 101 = .ok (.iconst 2, 1) := by decide +kernel
theorem d_Re_readNumber_102 : decode prog_5_method_7_code 102 = .ok (.iload_n 2, 1) := by decide +kernel
theorem d_Re_readNumber_103 : decode prog_5_method_7_code 103 = .ok (.invokevirtual 51, 3) := by decide +kernel
theorem d_Re_readNumber_106 : decode prog_5_method_7_code 106 = .ok (.iload_n 3, 1) := by decide +kernel
theorem d_Re_readNumber_107 : decode prog_5_method_7_code 107 = .ok (.ireturn, 1) := by decide +kernel
set_option maxRecDepth 20000 in
set_option maxHeartbeats 2000000 in
theorem T_Re_readNumber_L11 {Z : ZT} (X : CX Z Y_Re_readNumber) {v1 : Int32} {v2 : Int32} {p : Int32 × HP} (hR : RetI Z Y_Re_readNumber .int p.1 p.2) {K : HP → Int32 → Option (Int32 × HP)} (hK : ∀ (hp : HP) (x3 : Int32), K hp x3 = some p → V Z Y_Re_readNumber hp 68 [(0, .ref (gA (zG Z) 1)), (1, .int v1), (2, .int v2), (3, .int x3)] []) : ∀ (n : Nat) (hp : HP) (x3 : Int32), f_Re_readNumber_L11 v1 v2 K n hp x3 = some p → V Z Y_Re_readNumber hp 11 [(0, .ref (gA (zG Z) 1)), (1, .int v1), (2, .int v2), (3, .int x3)] [] := by
  intro n
  induction n with
  | zero =>
    intro hp x3 h
    cases h
  | succ n ih =>
    intro hp x3 h
    replace h : f_Re_readNumber_L11 v1 v2 K (n + 1) hp x3 = some p := h
    unfold f_Re_readNumber_L11 at h
    refine R_aload_n X 0 d_Re_readNumber_11 rfl ?_
    refine R_getI (ci := 3) X rfl iRe_ok (of_decide_eq_true rfl) rfl 4 rfl rfl tw_78 d_Re_readNumber_12 ?_
    refine R_aload_n X 0 d_Re_readNumber_15 rfl ?_
    refine R_getI (ci := 3) X rfl iRe_ok (of_decide_eq_true rfl) rfl 1 rfl rfl tw_73 d_Re_readNumber_16 ?_
    refine R_icmp_ge (tgt := 68) X d_Re_readNumber_19 rfl (fun c3 => ?_) (fun c3 => ?_)
    · replace h := (if_pos c3).symm.trans h
      refine V_pc (pc' := 68) rfl (R_loc (L' := [(0, .ref (gA (zG Z) 1)), (1, .int v1), (2, .int v2), (3, .int x3)]) [0, 1, 2, 3] rfl ?_)
      exact hK hp x3 h
    · replace h := (if_neg c3).symm.trans h
      refine R_aload_n X 0 d_Re_readNumber_22 rfl ?_
      obtain ⟨p5, e4, h⟩ := ob h
      refine R_vcall (ci := 3) (k := 1) (As := []) (st := []) X (M_Re_letter e4) tw_300 cf_Re_letter (of_decide_eq_true rfl) rfl rfl rfl rfl rfl d_Re_readNumber_23 ?_
      obtain ⟨p7, e6, h⟩ := ob h
      refine R_scall (As := [.int p5.1]) (st := []) X (M_Re_isFigure e6) tw_320 cf_Re_isFigure rfl rfl rfl d_Re_readNumber_26 ?_
      refine R_ifeq (tgt := 68) X d_Re_readNumber_29 rfl (fun c8 => ?_) (fun c8 => ?_)
      · replace h := (if_pos c8).symm.trans h
        refine V_pc (pc' := 68) rfl (R_loc (L' := [(0, .ref (gA (zG Z) 1)), (1, .int v1), (2, .int v2), (3, .int x3)]) [0, 1, 2, 3] rfl ?_)
        exact hK p7.2 x3 h
      · replace h := (if_neg c8).symm.trans h
        refine R_aload_n X 0 d_Re_readNumber_32 rfl ?_
        refine R_getI (ci := 3) X rfl iRe_ok (of_decide_eq_true rfl) rfl 4 rfl rfl tw_78 d_Re_readNumber_33 ?_
        refine R_iload_n X 2 d_Re_readNumber_36 rfl ?_
        refine R_isub X d_Re_readNumber_37 ?_
        refine R_iconst (v := (3 : Int32)) X d_Re_readNumber_38 rfl ?_
        refine V_pc (pc' := 39) rfl ?_
        refine R_icmp_ge (tgt := 55) X d_Re_readNumber_39 rfl (fun c9 => ?_) (fun c9 => ?_)
        · replace h := (if_pos c9).symm.trans h
          refine R_aload_n X 0 d_Re_readNumber_55 rfl ?_
          refine R_dup X d_Re_readNumber_56 rfl ?_
          refine R_getI (ci := 3) X rfl iRe_ok (of_decide_eq_true rfl) rfl 4 rfl rfl tw_78 d_Re_readNumber_57 ?_
          refine R_iconst (v := (1 : Int32)) X d_Re_readNumber_60 rfl ?_
          refine R_iadd X d_Re_readNumber_61 ?_
          refine V_pc (pc' := 62) rfl ?_
          refine R_putI (ci := 3) X rfl iRe_ok yRe_ok nRe_ok (of_decide_eq_true rfl) rfl 4 rfl rfl rfl rfl tw_78 d_Re_readNumber_62 ?_
          refine R_goto (tgt := 11) X d_Re_readNumber_65 rfl ?_
          refine V_pc (pc' := 11) rfl (R_loc (L' := [(0, .ref (gA (zG Z) 1)), (1, .int v1), (2, .int v2), (3, .int x3)]) [0, 1, 2, 3] rfl ?_)
          exact ih (up p7.2 1 4 ((p7.2 1 4) + (1 : Int32))) x3 h
        · replace h := (if_neg c9).symm.trans h
          refine R_iload_n X 3 d_Re_readNumber_42 rfl ?_
          refine R_bipush (v := (10 : Int32)) X d_Re_readNumber_43 rfl ?_
          refine R_imul X d_Re_readNumber_45 ?_
          refine R_aload_n X 0 d_Re_readNumber_46 rfl ?_
          obtain ⟨p11, e10, h⟩ := ob h
          refine R_vcall (ci := 3) (k := 1) (As := []) (st := [.int (x3 * (10 : Int32))]) X (M_Re_letter e10) tw_300 cf_Re_letter (of_decide_eq_true rfl) rfl rfl rfl rfl rfl d_Re_readNumber_47 ?_
          refine V_pc (pc' := 50) rfl ?_
          refine R_iadd X d_Re_readNumber_50 ?_
          refine R_bipush (v := (48 : Int32)) X d_Re_readNumber_51 rfl ?_
          refine R_isub X d_Re_readNumber_53 ?_
          refine R_istore_n (L' := [(3, .int (((x3 * (10 : Int32)) + p11.1) - (48 : Int32))), (0, .ref (gA (zG Z) 1)), (1, .int v1), (2, .int v2)]) X d_Re_readNumber_54 (by decide) rfl ?_
          refine R_aload_n X 1 d_Re_readNumber_55 rfl ?_
          refine R_dup X d_Re_readNumber_56 rfl ?_
          refine V_pc (pc' := 57) rfl ?_
          refine R_getI (ci := 3) X rfl iRe_ok (of_decide_eq_true rfl) rfl 4 rfl rfl tw_78 d_Re_readNumber_57 ?_
          refine R_iconst (v := (1 : Int32)) X d_Re_readNumber_60 rfl ?_
          refine R_iadd X d_Re_readNumber_61 ?_
          refine R_putI (ci := 3) X rfl iRe_ok yRe_ok nRe_ok (of_decide_eq_true rfl) rfl 4 rfl rfl rfl rfl tw_78 d_Re_readNumber_62 ?_
          refine R_goto (tgt := 11) X d_Re_readNumber_65 rfl ?_
          refine V_pc (pc' := 11) rfl (R_loc (L' := [(0, .ref (gA (zG Z) 1)), (1, .int v1), (2, .int v2), (3, .int (((x3 * (10 : Int32)) + p11.1) - (48 : Int32)))]) [1, 2, 3, 0] rfl ?_)
          exact ih (up p11.2 1 4 ((p11.2 1 4) + (1 : Int32))) (((x3 * (10 : Int32)) + p11.1) - (48 : Int32)) h
set_option maxRecDepth 20000 in
set_option maxHeartbeats 2000000 in
theorem T_Re_readNumber {Z : ZT} (X : CX Z Y_Re_readNumber) {hp : HP} {a1 : Int32} {p : Int32 × HP} (h : f_Re_readNumber hp a1 = some p) (hR : RetI Z Y_Re_readNumber .int p.1 p.2) : V Z Y_Re_readNumber hp 0 [(0, .ref (gA (zG Z) 1)), (1, .int a1)] [] := by
  unfold f_Re_readNumber at h
  refine R_aload_n X 0 d_Re_readNumber_0 rfl ?_
  obtain ⟨p2, e1, h⟩ := ob h
  refine R_vcallv (ci := 3) (k := 1) (As := []) (st := []) X (M_Re_skipBlanks e1) tw_296 cf_Re_skipBlanks (of_decide_eq_true rfl) rfl rfl rfl rfl rfl d_Re_readNumber_1 ?_
  refine R_aload_n X 0 d_Re_readNumber_4 rfl ?_
  refine R_getI (ci := 3) X rfl iRe_ok (of_decide_eq_true rfl) rfl 4 rfl rfl tw_78 d_Re_readNumber_5 ?_
  refine R_istore_n (L' := [(2, .int (p2.2 1 4)), (0, .ref (gA (zG Z) 1)), (1, .int a1)]) X d_Re_readNumber_8 (by decide) rfl ?_
  refine V_pc (pc' := 9) rfl ?_
  refine R_iconst (v := (0 : Int32)) X d_Re_readNumber_9 rfl ?_
  refine R_istore_n (L' := [(3, .int (0 : Int32)), (2, .int (p2.2 1 4)), (0, .ref (gA (zG Z) 1)), (1, .int a1)]) X d_Re_readNumber_10 (by decide) rfl ?_
  refine V_pc (pc' := 11) rfl (R_loc (L' := [(0, .ref (gA (zG Z) 1)), (1, .int a1), (2, .int (p2.2 1 4)), (3, .int (0 : Int32))]) [2, 3, 1, 0] rfl ?_)
  refine T_Re_readNumber_L11 X hR (fun hp13 w12 h => ?_) _ p2.2 (0 : Int32) h
  refine R_aload_n X 0 d_Re_readNumber_68 rfl ?_
  refine R_getI (ci := 3) X rfl iRe_ok (of_decide_eq_true rfl) rfl 4 rfl rfl tw_78 d_Re_readNumber_69 ?_
  refine R_iload_n X 2 d_Re_readNumber_72 rfl ?_
  refine R_icmp_ne (tgt := 85) X d_Re_readNumber_73 rfl (fun c14 => ?_) (fun c14 => ?_)
  · replace h := (if_neg c14).symm.trans h
    refine R_aload_n X 0 d_Re_readNumber_85 rfl ?_
    refine R_getI (ci := 3) X rfl iRe_ok (of_decide_eq_true rfl) rfl 4 rfl rfl tw_78 d_Re_readNumber_86 ?_
    refine R_iload_n X 2 d_Re_readNumber_89 rfl ?_
    refine R_isub X d_Re_readNumber_90 ?_
    refine R_iconst (v := (3 : Int32)) X d_Re_readNumber_91 rfl ?_
    refine V_pc (pc' := 92) rfl ?_
    refine R_icmp_gt (tgt := 100) X d_Re_readNumber_92 rfl (fun c17 => ?_) (fun c17 => ?_)
    · replace h := (if_pos c17).symm.trans h
      refine R_aload_n X 0 d_Re_readNumber_100 rfl ?_
      refine R_iconst (v := (2 : Int32)) X d_Re_readNumber_101 rfl ?_
      refine R_iload_n X 2 d_Re_readNumber_102 rfl ?_
      obtain ⟨p19, e18, h⟩ := ob h
      refine R_vcallv (ci := 3) (k := 1) (As := [.int (2 : Int32), .int (p2.2 1 4)]) (st := []) X (M_Re_fail e18) tw_323 cf_Re_fail (of_decide_eq_true rfl) rfl rfl rfl rfl rfl d_Re_readNumber_103 ?_
      refine R_iload_n X 3 d_Re_readNumber_106 rfl ?_
      refine V_pc (pc' := 107) rfl ?_
      exact R_ret hR h d_Re_readNumber_107
    · replace h := (if_neg c17).symm.trans h
      refine R_iload_n X 3 d_Re_readNumber_95 rfl ?_
      refine R_iload_n X 1 d_Re_readNumber_96 rfl ?_
      refine R_icmp_le (tgt := 106) X d_Re_readNumber_97 rfl (fun c20 => ?_) (fun c20 => ?_)
      · replace h := (if_pos c20).symm.trans h
        refine R_iload_n X 3 d_Re_readNumber_106 rfl ?_
        exact R_ret hR h d_Re_readNumber_107
      · replace h := (if_neg c20).symm.trans h
        refine R_aload_n X 0 d_Re_readNumber_100 rfl ?_
        refine R_iconst (v := (2 : Int32)) X d_Re_readNumber_101 rfl ?_
        refine R_iload_n X 2 d_Re_readNumber_102 rfl ?_
        obtain ⟨p22, e21, h⟩ := ob h
        refine R_vcallv (ci := 3) (k := 1) (As := [.int (2 : Int32), .int (p2.2 1 4)]) (st := []) X (M_Re_fail e21) tw_323 cf_Re_fail (of_decide_eq_true rfl) rfl rfl rfl rfl rfl d_Re_readNumber_103 ?_
        refine R_iload_n X 3 d_Re_readNumber_106 rfl ?_
        refine V_pc (pc' := 107) rfl ?_
        exact R_ret hR h d_Re_readNumber_107
  · replace h := (if_pos c14).symm.trans h
    refine R_aload_n X 0 d_Re_readNumber_76 rfl ?_
    refine R_iconst (v := (1 : Int32)) X d_Re_readNumber_77 rfl ?_
    refine R_iload_n X 2 d_Re_readNumber_78 rfl ?_
    obtain ⟨p16, e15, h⟩ := ob h
    refine R_vcallv (ci := 3) (k := 1) (As := [.int (1 : Int32), .int (p2.2 1 4)]) (st := []) X (M_Re_fail e15) tw_323 cf_Re_fail (of_decide_eq_true rfl) rfl rfl rfl rfl rfl d_Re_readNumber_79 ?_
    refine R_goto (tgt := 106) X d_Re_readNumber_82 rfl ?_
    refine V_pc (pc' := 106) rfl ?_
    refine R_iload_n X 3 d_Re_readNumber_106 rfl ?_
    exact R_ret hR h d_Re_readNumber_107
theorem M_Re_readNumber {G : GT} {hp : HP} {a1 : Int32} {p : Int32 × HP} (h : f_Re_readNumber hp a1 = some p) : MI G y_Re_readNumber Y_Re_readNumber .int [.ref (gA G 1), .int a1] hp p.1 p.2 := MI_of rfl (fun Z hz X hR => by subst hz; exact T_Re_readNumber X h hR)
theorem d_Br_addPart_0 : decode prog_2_method_3_code 0 = .ok (.aload_n 0, 1) := by decide +kernel
theorem d_Br_addPart_1 : decode prog_2_method_3_code 1 = .ok (.getfield 27, 3) := by decide +kernel
theorem d_Br_addPart_4 : decode prog_2_method_3_code 4 = .ok (.bipush (8), 2) := by decide +kernel
theorem d_Br_addPart_6 : decode prog_2_method_3_code 6 = .ok (.if_icmp .ge (27), 3) := by decide +kernel
theorem d_Br_addPart_9 : decode prog_2_method_3_code 9 = .ok (.aload_n 0, 1) := by decide +kernel
theorem d_Br_addPart_10 : decode prog_2_method_3_code 10 = .ok (.getfield 9, 3) := by decide +kernel
theorem d_Br_addPart_13 : decode prog_2_method_3_code 13 = .ok (.aload_n 0, 1) := by decide +kernel
theorem d_Br_addPart_14 : decode prog_2_method_3_code 14 = .ok (.getfield 27, 3) := by decide +kernel
theorem d_Br_addPart_17 : decode prog_2_method_3_code 17 = .ok (.iload_n 1, 1) := by decide +kernel
theorem d_Br_addPart_18 : decode prog_2_method_3_code 18 = .ok (.sipush (500), 3) := by decide +kernel
theorem d_Br_addPart_21 : decode prog_2_method_3_code 21 = .ok (.isub, 1) := by decide +kernel
theorem d_Br_addPart_22 : decode prog_2_method_3_code 22 = .ok (.iastore, 1) := by decide +kernel
theorem d_Br_addPart_23 : decode prog_2_method_3_code 23 = .ok (.aload_n 0, 1) := by decide +kernel
theorem d_Br_addPart_24 : decode prog_2_method_3_code 24 = .ok (.dup, 1) := by decide +kernel
theorem d_Br_addPart_25 : decode prog_2_method_3_code 25 = .ok (.getfield 27, 3) := by decide +kernel
theorem d_Br_addPart_28 : decode prog_2_method_3_code 28 = .ok (.iconst 1, 1) := by decide +kernel
theorem d_Br_addPart_29 : decode prog_2_method_3_code 29 = .ok (.iadd, 1) := by decide +kernel
theorem d_Br_addPart_30 : decode prog_2_method_3_code 30 = .ok (.putfield 27, 3) := by decide +kernel
theorem d_Br_addPart_33 : decode prog_2_method_3_code 33 = .ok (.return_, 1) := by decide +kernel
set_option maxRecDepth 20000 in
set_option maxHeartbeats 2000000 in
theorem T_Br_addPart {Z : ZT} (X : CX Z Y_Br_addPart) {hp : HP} {q0 : Nat} {a1 : Int32} (hq0 : isB q0 = true) {p : Int32 × HP} (h : f_Br_addPart hp q0 a1 = some p) (hR : RetV Z Y_Br_addPart p.2) : V Z Y_Br_addPart hp 0 [(0, .ref (gA (zG Z) q0)), (1, .int a1)] [] := by
  unfold f_Br_addPart at h
  refine R_aload_n X 0 d_Br_addPart_0 rfl ?_
  refine R_getI (ci := 0) X rfl iBr_ok (B_all _ hq0).1.1 (B_all _ hq0).1.2 5 rfl rfl tw_208 d_Br_addPart_1 ?_
  refine R_bipush (v := (8 : Int32)) X d_Br_addPart_4 rfl ?_
  refine R_icmp_ge (tgt := 33) X d_Br_addPart_6 rfl (fun c1 => ?_) (fun c1 => ?_)
  · replace h := (if_pos c1).symm.trans h
    exact R_retv hR h d_Br_addPart_33
  · replace h := (if_neg c1).symm.trans h
    refine R_aload_n X 0 d_Br_addPart_9 rfl ?_
    refine R_getR (ci := 0) X rfl iBr_ok (B_all _ hq0).1.1 (B_all _ hq0).1.2 0 rfl rfl tw_198 d_Br_addPart_10 ?_
    refine R_aload_n X 0 d_Br_addPart_13 rfl ?_
    refine R_getI (ci := 0) X rfl iBr_ok (B_all _ hq0).1.1 (B_all _ hq0).1.2 5 rfl rfl tw_208 d_Br_addPart_14 ?_
    refine R_iload_n X 1 d_Br_addPart_17 rfl ?_
    refine V_pc (pc' := 18) rfl ?_
    refine R_sipush (v := (500 : Int32)) X d_Br_addPart_18 rfl ?_
    refine R_isub X d_Br_addPart_21 ?_
    obtain ⟨i2, h⟩ := ck h
    refine R_iast (n := 8) X (B_all _ hq0).2.1.1 (B_all _ hq0).2.1.2 i2 d_Br_addPart_22 ?_
    refine R_aload_n X 0 d_Br_addPart_23 rfl ?_
    refine R_dup X d_Br_addPart_24 rfl ?_
    refine R_getI (ci := 0) X rfl iBr_ok (B_all _ hq0).1.1 (B_all _ hq0).1.2 5 rfl rfl tw_208 d_Br_addPart_25 ?_
    refine V_pc (pc' := 28) rfl ?_
    refine R_iconst (v := (1 : Int32)) X d_Br_addPart_28 rfl ?_
    refine R_iadd X d_Br_addPart_29 ?_
    refine R_putI (ci := 0) X rfl iBr_ok yBr_ok nBr_ok (B_all _ hq0).1.1 (B_all _ hq0).1.2 5 rfl rfl rfl rfl tw_208 d_Br_addPart_30 ?_
    exact R_retv hR h d_Br_addPart_33
theorem M_Br_addPart {G : GT} {hp : HP} {q0 : Nat} {a1 : Int32} (hq0 : isB q0 = true) {p : Int32 × HP} (h : f_Br_addPart hp q0 a1 = some p) : MV G y_Br_addPart Y_Br_addPart [.ref (gA G q0), .int a1] hp p.2 := MV_of rfl (fun Z hz X hR => by subst hz; exact T_Br_addPart X hq0 h hR)
theorem d_Re_readWord_0 : decode prog_5_method_8_code 0 = .ok (.aload_n 0, 1) := by decide +kernel
theorem d_Re_readWord_1 : decode prog_5_method_8_code 1 = .ok (.invokevirtual 33, 3) := by decide +kernel
theorem d_Re_readWord_4 : decode prog_5_method_8_code 4 = .ok (.aload_n 0, 1) := by decide +kernel
theorem d_Re_readWord_5 : decode prog_5_method_8_code 5 = .ok (.invokevirtual 40, 3) := by decide +kernel
theorem d_Re_readWord_8 : decode prog_5_method_8_code 8 = .ok (.iload_n 1, 1) := by decide +kernel
theorem d_Re_readWord_9 : decode prog_5_method_8_code 9 = .ok (.if_icmp .ne (16), 3) := by decide +kernel
theorem d_Re_readWord_12 : decode prog_5_method_8_code 12 = .ok (.aload_n 0, 1) := by decide +kernel
theorem d_Re_readWord_13 : decode prog_5_method_8_code 13 = .ok (.dup, 1) := by decide +kernel
theorem d_Re_readWord_14 : decode prog_5_method_8_code 14 = .ok (.getfield 27, 3) := by decide +kernel
theorem d_Re_readWord_17 : decode prog_5_method_8_code 17 = .ok (.iconst 1, 1) := by decide +kernel
theorem d_Re_readWord_18 : decode prog_5_method_8_code 18 = .ok (.iadd, 1) := by decide +kernel
theorem d_Re_readWord_19 : decode prog_5_method_8_code 19 = .ok (.putfield 27, 3) := by decide +kernel
theorem d_Re_readWord_22 : decode prog_5_method_8_code 22 = .ok (.goto (12), 3) := by decide +kernel
theorem d_Re_readWord_25 : decode prog_5_method_8_code 25 = .ok (.aload_n 0, 1) := by decide +kernel
theorem d_Re_readWord_26 : decode prog_5_method_8_code 26 = .ok (.iconst 1, 1) := by decide +kernel
theorem d_Re_readWord_27 : decode prog_5_method_8_code 27 = .ok (.aload_n 0, 1) := by decide +kernel
theorem d_Re_readWord_28 : decode prog_5_method_8_code 28 = .ok (.getfield 27, 3) := by decide +kernel
theorem d_Re_readWord_31 : decode prog_5_method_8_code 31 = .ok (.invokevirtual 51, 3) := by decide +kernel
theorem d_Re_readWord_34 : decode prog_5_method_8_code 34 = .ok (.return_, 1) := by decide +kernel
set_option maxRecDepth 20000 in
set_option maxHeartbeats 2000000 in
theorem T_Re_readWord {Z : ZT} (X : CX Z Y_Re_readWord) {hp : HP} {a1 : Int32} {p : Int32 × HP} (h : f_Re_readWord hp a1 = some p) (hR : RetV Z Y_Re_readWord p.2) : V Z Y_Re_readWord hp 0 [(0, .ref (gA (zG Z) 1)), (1, .int a1)] [] := by
  unfold f_Re_readWord at h
  refine R_aload_n X 0 d_Re_readWord_0 rfl ?_
  obtain ⟨p2, e1, h⟩ := ob h
  refine R_vcallv (ci := 3) (k := 1) (As := []) (st := []) X (M_Re_skipBlanks e1) tw_296 cf_Re_skipBlanks (of_decide_eq_true rfl) rfl rfl rfl rfl rfl d_Re_readWord_1 ?_
  refine R_aload_n X 0 d_Re_readWord_4 rfl ?_
  obtain ⟨p4, e3, h⟩ := ob h
  refine R_vcall (ci := 3) (k := 1) (As := []) (st := []) X (M_Re_letter e3) tw_300 cf_Re_letter (of_decide_eq_true rfl) rfl rfl rfl rfl rfl d_Re_readWord_5 ?_
  refine R_iload_n X 1 d_Re_readWord_8 rfl ?_
  refine V_pc (pc' := 9) rfl ?_
  refine R_icmp_ne (tgt := 25) X d_Re_readWord_9 rfl (fun c5 => ?_) (fun c5 => ?_)
  · replace h := (if_neg c5).symm.trans h
    refine R_aload_n X 0 d_Re_readWord_25 rfl ?_
    refine R_iconst (v := (1 : Int32)) X d_Re_readWord_26 rfl ?_
    refine R_aload_n X 0 d_Re_readWord_27 rfl ?_
    refine R_getI (ci := 3) X rfl iRe_ok (of_decide_eq_true rfl) rfl 4 rfl rfl tw_78 d_Re_readWord_28 ?_
    obtain ⟨p7, e6, h⟩ := ob h
    refine R_vcallv (ci := 3) (k := 1) (As := [.int (1 : Int32), .int (p4.2 1 4)]) (st := []) X (M_Re_fail e6) tw_323 cf_Re_fail (of_decide_eq_true rfl) rfl rfl rfl rfl rfl d_Re_readWord_31 ?_
    refine V_pc (pc' := 34) rfl ?_
    exact R_retv hR h d_Re_readWord_34
  · replace h := (if_pos c5).symm.trans h
    refine R_aload_n X 0 d_Re_readWord_12 rfl ?_
    refine R_dup X d_Re_readWord_13 rfl ?_
    refine R_getI (ci := 3) X rfl iRe_ok (of_decide_eq_true rfl) rfl 4 rfl rfl tw_78 d_Re_readWord_14 ?_
    refine R_iconst (v := (1 : Int32)) X d_Re_readWord_17 rfl ?_
    refine R_iadd X d_Re_readWord_18 ?_
    refine V_pc (pc' := 19) rfl ?_
    refine R_putI (ci := 3) X rfl iRe_ok yRe_ok nRe_ok (of_decide_eq_true rfl) rfl 4 rfl rfl rfl rfl tw_78 d_Re_readWord_19 ?_
    refine R_goto (tgt := 34) X d_Re_readWord_22 rfl ?_
    exact R_retv hR h d_Re_readWord_34
theorem M_Re_readWord {G : GT} {hp : HP} {a1 : Int32} {p : Int32 × HP} (h : f_Re_readWord hp a1 = some p) : MV G y_Re_readWord Y_Re_readWord [.ref (gA G 1), .int a1] hp p.2 := MV_of rfl (fun Z hz X hR => by subst hz; exact T_Re_readWord X h hR)
theorem d_Re_readParts_0 : decode prog_5_method_5_code 0 = .ok (.aload_n 1, 1) := by decide +kernel
theorem d_Re_readParts_1 : decode prog_5_method_5_code 1 = .ok (.aload_n 0, 1) := by decide +kernel
theorem d_Re_readParts_2 : decode prog_5_method_5_code 2 = .ok (.sipush (999), 3) := by decide +kernel
theorem d_Re_readParts_5 : decode prog_5_method_5_code 5 = .ok (.invokevirtual 67, 3) := by decide +kernel
theorem d_Re_readParts_8 : decode prog_5_method_5_code 8 = .ok (.invokevirtual 78, 3) := by decide +kernel
theorem d_Re_readParts_11 : decode prog_5_method_5_code 11 = .ok (.aload_n 0, 1) := by decide +kernel
theorem d_Re_readParts_12 : decode prog_5_method_5_code 12 = .ok (.invokevirtual 33, 3) := by decide +kernel
theorem d_Re_readParts_15 : decode prog_5_method_5_code 15 = .ok (.iconst 1, 1) := by decide +kernel
theorem d_Re_readParts_16 : decode prog_5_method_5_code 16 = .ok (.istore_n 2, 1) := by decide +kernel
theorem d_Re_readParts_17 : decode prog_5_method_5_code 17 = .ok (.iload_n 2, 1) := by decide +kernel
theorem d_Re_readParts_18 : decode prog_5_method_5_code 18 = .ok (.bipush (8), 2) := by decide +kernel
theorem d_Re_readParts_20 : decode prog_5_method_5_code 20 = .ok (.if_icmp .ge (50), 3) := by decide +kernel
theorem d_Re_readParts_23 : decode prog_5_method_5_code 23 = .ok (.aload_n 0, 1) := by decide +kernel
theorem d_Re_readParts_24 : decode prog_5_method_5_code 24 = .ok (.getfield 30, 3) := by decide +kernel
theorem d_Re_readParts_27 : decode prog_5_method_5_code 27 = .ok (.ifCond .ne (43), 3) := by decide +kernel
theorem d_Re_readParts_30 : decode prog_5_method_5_code 30 = .ok (.aload_n 0, 1) := by decide +kernel
theorem d_Re_readParts_31 : decode prog_5_method_5_code 31 = .ok (.invokevirtual 40, 3) := by decide +kernel
theorem d_Re_readParts_34 : decode prog_5_method_5_code 34 = .ok (.bipush (44), 2) := by decide +kernel
theorem d_Re_readParts_36 : decode prog_5_method_5_code 36 = .ok (.if_icmp .ne (34), 3) := by decide +kernel
theorem d_Re_readParts_39 : decode prog_5_method_5_code 39 = .ok (.aload_n 0, 1) := by decide +kernel
theorem d_Re_readParts_40 : decode prog_5_method_5_code 40 = .ok (.dup, 1) := by decide +kernel
theorem d_Re_readParts_41 : decode prog_5_method_5_code 41 = .ok (.getfield 27, 3) := by decide +kernel
theorem d_Re_readParts_44 : decode prog_5_method_5_code 44 = .ok (.iconst 1, 1) := by decide +kernel
theorem d_Re_readParts_45 : decode prog_5_method_5_code 45 = .ok (.iadd, 1) := by decide +kernel
theorem d_Re_readParts_46 : decode prog_5_method_5_code 46 = .ok (.putfield 27, 3) := by decide +kernel
theorem d_Re_readParts_49 : decode prog_5_method_5_code 49 = .ok (.aload_n 1, 1) := by decide +kernel
theorem d_Re_readParts_50 : decode prog_5_method_5_code 50 = .ok (.aload_n 0, 1) := by decide +kernel
theorem d_Re_readParts_51 : decode prog_5_method_5_code 51 = .ok (.sipush (999), 3) := by decide +kernel
theorem d_Re_readParts_54 : decode prog_5_method_5_code 54 = .ok (.invokevirtual 67, 3) := by decide +kernel
theorem d_Re_readParts_57 : decode prog_5_method_5_code 57 = .ok (.invokevirtual 78, 3) := by decide +kernel
theorem d_Re_readParts_60 : decode prog_5_method_5_code 60 = .ok (.aload_n 0, 1) := by decide +kernel
theorem d_Re_readParts_61 : decode prog_5_method_5_code 61 = .ok (.invokevirtual 33, 3) := by decide +kernel
theorem d_Re_readParts_64 : decode prog_5_method_5_code 64 = .ok (.iinc 2 (1), 3) := by decide +kernel
theorem d_Re_readParts_67 : decode prog_5_method_5_code 67 = .ok (.goto (-50), 3) := by decide +kernel
theorem d_Re_readParts_70 : decode prog_5_method_5_code 70 = .ok (.aload_n 0, 1) := by decide +kernel
theorem d_Re_readParts_71 : decode prog_5_method_5_code 71 = .ok (.bipush (59), 2) := by decide +kernel
theorem d_Re_readParts_73 : decode prog_5_method_5_code 73 = .ok (.invokevirtual 75, 3) := by decide +kernel
theorem d_Re_readParts_76 : decode prog_5_method_5_code 76 = .ok (.return_, 1) := by decide +kernel
set_option maxRecDepth 20000 in
set_option maxHeartbeats 2000000 in
theorem T_Re_readParts_L17 {Z : ZT} (X : CX Z Y_Re_readParts) {q1 : Nat} (hq1 : isB q1 = true) {p : Int32 × HP} (hR : RetV Z Y_Re_readParts p.2) {K : HP → Option (Int32 × HP)} (hK : ∀ (hp : HP), K hp = some p → V Z Y_Re_readParts hp 70 [(0, .ref (gA (zG Z) 1))] []) : ∀ (n : Nat) (hp : HP) (x2 : Int32), f_Re_readParts_L17 q1 K n hp x2 = some p → V Z Y_Re_readParts hp 17 [(0, .ref (gA (zG Z) 1)), (1, .ref (gA (zG Z) q1)), (2, .int x2)] [] := by
  intro n
  induction n with
  | zero =>
    intro hp x2 h
    cases h
  | succ n ih =>
    intro hp x2 h
    replace h : f_Re_readParts_L17 q1 K (n + 1) hp x2 = some p := h
    unfold f_Re_readParts_L17 at h
    refine R_iload_n X 2 d_Re_readParts_17 rfl ?_
    refine R_bipush (v := (8 : Int32)) X d_Re_readParts_18 rfl ?_
    refine R_icmp_ge (tgt := 70) X d_Re_readParts_20 rfl (fun c7 => ?_) (fun c7 => ?_)
    · replace h := (if_pos c7).symm.trans h
      refine V_pc (pc' := 70) rfl (R_loc (L' := [(0, .ref (gA (zG Z) 1))]) [0] rfl ?_)
      exact hK hp h
    · replace h := (if_neg c7).symm.trans h
      refine R_aload_n X 0 d_Re_readParts_23 rfl ?_
      refine R_getI (ci := 3) X rfl iRe_ok (of_decide_eq_true rfl) rfl 3 rfl rfl tw_77 d_Re_readParts_24 ?_
      refine R_ifne (tgt := 70) X d_Re_readParts_27 rfl (fun c8 => ?_) (fun c8 => ?_)
      · replace h := (if_neg c8).symm.trans h
        refine V_pc (pc' := 70) rfl (R_loc (L' := [(0, .ref (gA (zG Z) 1))]) [0] rfl ?_)
        exact hK hp h
      · replace h := (if_pos c8).symm.trans h
        refine R_aload_n X 0 d_Re_readParts_30 rfl ?_
        obtain ⟨p10, e9, h⟩ := ob h
        refine R_vcall (ci := 3) (k := 1) (As := []) (st := []) X (M_Re_letter e9) tw_300 cf_Re_letter (of_decide_eq_true rfl) rfl rfl rfl rfl rfl d_Re_readParts_31 ?_
        refine R_bipush (v := (44 : Int32)) X d_Re_readParts_34 rfl ?_
        refine R_icmp_ne (tgt := 70) X d_Re_readParts_36 rfl (fun c11 => ?_) (fun c11 => ?_)
        · replace h := (if_neg c11).symm.trans h
          refine V_pc (pc' := 70) rfl (R_loc (L' := [(0, .ref (gA (zG Z) 1))]) [0] rfl ?_)
          exact hK p10.2 h
        · replace h := (if_pos c11).symm.trans h
          refine R_aload_n X 0 d_Re_readParts_39 rfl ?_
          refine R_dup X d_Re_readParts_40 rfl ?_
          refine R_getI (ci := 3) X rfl iRe_ok (of_decide_eq_true rfl) rfl 4 rfl rfl tw_78 d_Re_readParts_41 ?_
          refine R_iconst (v := (1 : Int32)) X d_Re_readParts_44 rfl ?_
          refine R_iadd X d_Re_readParts_45 ?_
          refine V_pc (pc' := 46) rfl ?_
          refine R_putI (ci := 3) X rfl iRe_ok yRe_ok nRe_ok (of_decide_eq_true rfl) rfl 4 rfl rfl rfl rfl tw_78 d_Re_readParts_46 ?_
          refine R_aload_n X 1 d_Re_readParts_49 rfl ?_
          refine R_aload_n X 0 d_Re_readParts_50 rfl ?_
          refine R_sipush (v := (999 : Int32)) X d_Re_readParts_51 rfl ?_
          obtain ⟨p13, e12, h⟩ := ob h
          refine R_vcall (ci := 3) (k := 1) (As := [.int (999 : Int32)]) (st := [.ref (gA (zG Z) q1)]) X (M_Re_readNumber e12) tw_316 cf_Re_readNumber (of_decide_eq_true rfl) rfl rfl rfl rfl rfl d_Re_readParts_54 ?_
          obtain ⟨p15, e14, h⟩ := ob h
          refine R_vcallv (ci := 0) (k := q1) (As := [.int p13.1]) (st := []) X (M_Br_addPart hq1 e14) tw_327 cf_Br_addPart (B_all _ hq1).1.1 (B_all _ hq1).1.2 rfl rfl rfl rfl d_Re_readParts_57 ?_
          refine V_pc (pc' := 60) rfl ?_
          refine R_aload_n X 0 d_Re_readParts_60 rfl ?_
          obtain ⟨p17, e16, h⟩ := ob h
          refine R_vcallv (ci := 3) (k := 1) (As := []) (st := []) X (M_Re_skipBlanks e16) tw_296 cf_Re_skipBlanks (of_decide_eq_true rfl) rfl rfl rfl rfl rfl d_Re_readParts_61 ?_
          refine R_iinc (v := (x2 + 1)) (L' := [(2, .int (x2 + 1)), (0, .ref (gA (zG Z) 1)), (1, .ref (gA (zG Z) q1))]) X 2 d_Re_readParts_64 rfl rfl (by decide) rfl ?_
          refine R_goto (tgt := 17) X d_Re_readParts_67 rfl ?_
          refine V_pc (pc' := 17) rfl (R_loc (L' := [(0, .ref (gA (zG Z) 1)), (1, .ref (gA (zG Z) q1)), (2, .int (x2 + 1))]) [1, 2, 0] rfl ?_)
          exact ih p17.2 (x2 + 1) h
set_option maxRecDepth 20000 in
set_option maxHeartbeats 2000000 in
theorem T_Re_readParts {Z : ZT} (X : CX Z Y_Re_readParts) {hp : HP} {q1 : Nat} (hq1 : isB q1 = true) {p : Int32 × HP} (h : f_Re_readParts hp q1 = some p) (hR : RetV Z Y_Re_readParts p.2) : V Z Y_Re_readParts hp 0 [(0, .ref (gA (zG Z) 1)), (1, .ref (gA (zG Z) q1))] [] := by
  unfold f_Re_readParts at h
  refine R_aload_n X 1 d_Re_readParts_0 rfl ?_
  refine R_aload_n X 0 d_Re_readParts_1 rfl ?_
  refine R_sipush (v := (999 : Int32)) X d_Re_readParts_2 rfl ?_
  obtain ⟨p2, e1, h⟩ := ob h
  refine R_vcall (ci := 3) (k := 1) (As := [.int (999 : Int32)]) (st := [.ref (gA (zG Z) q1)]) X (M_Re_readNumber e1) tw_316 cf_Re_readNumber (of_decide_eq_true rfl) rfl rfl rfl rfl rfl d_Re_readParts_5 ?_
  obtain ⟨p4, e3, h⟩ := ob h
  refine R_vcallv (ci := 0) (k := q1) (As := [.int p2.1]) (st := []) X (M_Br_addPart hq1 e3) tw_327 cf_Br_addPart (B_all _ hq1).1.1 (B_all _ hq1).1.2 rfl rfl rfl rfl d_Re_readParts_8 ?_
  refine V_pc (pc' := 11) rfl ?_
  refine R_aload_n X 0 d_Re_readParts_11 rfl ?_
  obtain ⟨p6, e5, h⟩ := ob h
  refine R_vcallv (ci := 3) (k := 1) (As := []) (st := []) X (M_Re_skipBlanks e5) tw_296 cf_Re_skipBlanks (of_decide_eq_true rfl) rfl rfl rfl rfl rfl d_Re_readParts_12 ?_
  refine R_iconst (v := (1 : Int32)) X d_Re_readParts_15 rfl ?_
  refine R_istore_n (L' := [(2, .int (1 : Int32)), (0, .ref (gA (zG Z) 1)), (1, .ref (gA (zG Z) q1))]) X d_Re_readParts_16 (by decide) rfl ?_
  refine V_pc (pc' := 17) rfl (R_loc (L' := [(0, .ref (gA (zG Z) 1)), (1, .ref (gA (zG Z) q1)), (2, .int (1 : Int32))]) [1, 2, 0] rfl ?_)
  refine T_Re_readParts_L17 X hq1 hR (fun hp18 h => ?_) _ p6.2 (1 : Int32) h
  refine R_aload_n X 0 d_Re_readParts_70 rfl ?_
  refine R_bipush (v := (59 : Int32)) X d_Re_readParts_71 rfl ?_
  obtain ⟨p20, e19, h⟩ := ob h
  refine R_vcallv (ci := 3) (k := 1) (As := [.int (59 : Int32)]) (st := []) X (M_Re_readWord e19) tw_331 cf_Re_readWord (of_decide_eq_true rfl) rfl rfl rfl rfl rfl d_Re_readParts_73 ?_
  exact R_retv hR h d_Re_readParts_76
theorem M_Re_readParts {G : GT} {hp : HP} {q1 : Nat} (hq1 : isB q1 = true) {p : Int32 × HP} (h : f_Re_readParts hp q1 = some p) : MV G y_Re_readParts Y_Re_readParts [.ref (gA G 1), .ref (gA G q1)] hp p.2 := MV_of rfl (fun Z hz X hR => by subst hz; exact T_Re_readParts X hq1 h hR)
theorem d_Br_addCustomer_0 : decode prog_2_method_4_code 0 = .ok (.aload_n 0, 1) := by decide +kernel
theorem d_Br_addCustomer_1 : decode prog_2_method_4_code 1 = .ok (.getfield 31, 3) := by decide +kernel
theorem d_Br_addCustomer_4 : decode prog_2_method_4_code 4 = .ok (.iconst 5, 1) := by decide +kernel
theorem d_Br_addCustomer_5 : decode prog_2_method_4_code 5 = .ok (.if_icmp .ge (47), 3) := by decide +kernel
theorem d_Br_addCustomer_8 : decode prog_2_method_4_code 8 = .ok (.aload_n 0, 1) := by decide +kernel
theorem d_Br_addCustomer_9 : decode prog_2_method_4_code 9 = .ok (.getfield 15, 3) := by decide +kernel
theorem d_Br_addCustomer_12 : decode prog_2_method_4_code 12 = .ok (.aload_n 0, 1) := by decide +kernel
theorem d_Br_addCustomer_13 : decode prog_2_method_4_code 13 = .ok (.getfield 31, 3) := by decide +kernel
theorem d_Br_addCustomer_16 : decode prog_2_method_4_code 16 = .ok (.iload_n 1, 1) := by decide +kernel
theorem d_Br_addCustomer_17 : decode prog_2_method_4_code 17 = .ok (.sipush (500), 3) := by decide +kernel
theorem d_Br_addCustomer_20 : decode prog_2_method_4_code 20 = .ok (.isub, 1) := by decide +kernel
theorem d_Br_addCustomer_21 : decode prog_2_method_4_code 21 = .ok (.iastore, 1) := by decide +kernel
theorem d_Br_addCustomer_22 : decode prog_2_method_4_code 22 = .ok (.aload_n 0, 1) := by decide +kernel
theorem d_Br_addCustomer_23 : decode prog_2_method_4_code 23 = .ok (.getfield 18, 3) := by decide +kernel
theorem d_Br_addCustomer_26 : decode prog_2_method_4_code 26 = .ok (.aload_n 0, 1) := by decide +kernel
theorem d_Br_addCustomer_27 : decode prog_2_method_4_code 27 = .ok (.getfield 31, 3) := by decide +kernel
theorem d_Br_addCustomer_30 : decode prog_2_method_4_code 30 = .ok (.iload_n 2, 1) := by decide +kernel
theorem d_Br_addCustomer_31 : decode prog_2_method_4_code 31 = .ok (.iastore, 1) := by decide +kernel
theorem d_Br_addCustomer_32 : decode prog_2_method_4_code 32 = .ok (.aload_n 0, 1) := by decide +kernel
theorem d_Br_addCustomer_33 : decode prog_2_method_4_code 33 = .ok (.getfield 21, 3) := by decide +kernel
theorem d_Br_addCustomer_36 : decode prog_2_method_4_code 36 = .ok (.aload_n 0, 1) := by decide +kernel
theorem d_Br_addCustomer_37 : decode prog_2_method_4_code 37 = .ok (.getfield 31, 3) := by decide +kernel
theorem d_Br_addCustomer_40 : decode prog_2_method_4_code 40 = .ok (.iload_n 3, 1) := by decide +kernel
theorem d_Br_addCustomer_41 : decode prog_2_method_4_code 41 = .ok (.iastore, 1) := by decide +kernel
theorem d_Br_addCustomer_42 : decode prog_2_method_4_code 42 = .ok (.aload_n 0, 1) := by decide +kernel
theorem d_Br_addCustomer_43 : decode prog_2_method_4_code 43 = .ok (.dup, 1) := by decide +kernel
theorem d_Br_addCustomer_44 : decode prog_2_method_4_code 44 = .ok (.getfield 31, 3) := by decide +kernel
theorem d_Br_addCustomer_47 : decode prog_2_method_4_code 47 = .ok (.iconst 1, 1) := by decide +kernel
theorem d_Br_addCustomer_48 : decode prog_2_method_4_code 48 = .ok (.iadd, 1) := by decide +kernel
theorem d_Br_addCustomer_49 : decode prog_2_method_4_code 49 = .ok (.putfield 31, 3) := by decide +kernel
theorem d_Br_addCustomer_52 : decode prog_2_method_4_code 52 = .ok (.return_, 1) := by decide +kernel
set_option maxRecDepth 20000 in
set_option maxHeartbeats 2000000 in
theorem T_Br_addCustomer {Z : ZT} (X : CX Z Y_Br_addCustomer) {hp : HP} {q0 : Nat} {a1 : Int32} {a2 : Int32} {a3 : Int32} (hq0 : isB q0 = true) {p : Int32 × HP} (h : f_Br_addCustomer hp q0 a1 a2 a3 = some p) (hR : RetV Z Y_Br_addCustomer p.2) : V Z Y_Br_addCustomer hp 0 [(0, .ref (gA (zG Z) q0)), (1, .int a1), (2, .int a2), (3, .int a3)] [] := by
  unfold f_Br_addCustomer at h
  refine R_aload_n X 0 d_Br_addCustomer_0 rfl ?_
  refine R_getI (ci := 0) X rfl iBr_ok (B_all _ hq0).1.1 (B_all _ hq0).1.2 6 rfl rfl tw_210 d_Br_addCustomer_1 ?_
  refine R_iconst (v := (5 : Int32)) X d_Br_addCustomer_4 rfl ?_
  refine R_icmp_ge (tgt := 52) X d_Br_addCustomer_5 rfl (fun c1 => ?_) (fun c1 => ?_)
  · replace h := (if_pos c1).symm.trans h
    exact R_retv hR h d_Br_addCustomer_52
  · replace h := (if_neg c1).symm.trans h
    refine R_aload_n X 0 d_Br_addCustomer_8 rfl ?_
    refine R_getR (ci := 0) X rfl iBr_ok (B_all _ hq0).1.1 (B_all _ hq0).1.2 1 rfl rfl tw_201 d_Br_addCustomer_9 ?_
    refine R_aload_n X 0 d_Br_addCustomer_12 rfl ?_
    refine R_getI (ci := 0) X rfl iBr_ok (B_all _ hq0).1.1 (B_all _ hq0).1.2 6 rfl rfl tw_210 d_Br_addCustomer_13 ?_
    refine R_iload_n X 1 d_Br_addCustomer_16 rfl ?_
    refine V_pc (pc' := 17) rfl ?_
    refine R_sipush (v := (500 : Int32)) X d_Br_addCustomer_17 rfl ?_
    refine R_isub X d_Br_addCustomer_20 ?_
    obtain ⟨i2, h⟩ := ck h
    refine R_iast (n := 5) X (B_all _ hq0).2.2.1.1 (B_all _ hq0).2.2.1.2 i2 d_Br_addCustomer_21 ?_
    refine R_aload_n X 0 d_Br_addCustomer_22 rfl ?_
    refine R_getR (ci := 0) X rfl iBr_ok (B_all _ hq0).1.1 (B_all _ hq0).1.2 2 rfl rfl tw_203 d_Br_addCustomer_23 ?_
    refine R_aload_n X 0 d_Br_addCustomer_26 rfl ?_
    refine V_pc (pc' := 27) rfl ?_
    refine R_getI (ci := 0) X rfl iBr_ok (B_all _ hq0).1.1 (B_all _ hq0).1.2 6 rfl rfl tw_210 d_Br_addCustomer_27 ?_
    refine R_iload_n X 2 d_Br_addCustomer_30 rfl ?_
    obtain ⟨i3, h⟩ := ck h
    refine R_iast (n := 5) X (B_all _ hq0).2.2.2.1.1 (B_all _ hq0).2.2.2.1.2 i3 d_Br_addCustomer_31 ?_
    refine R_aload_n X 0 d_Br_addCustomer_32 rfl ?_
    refine R_getR (ci := 0) X rfl iBr_ok (B_all _ hq0).1.1 (B_all _ hq0).1.2 3 rfl rfl tw_205 d_Br_addCustomer_33 ?_
    refine R_aload_n X 0 d_Br_addCustomer_36 rfl ?_
    refine V_pc (pc' := 37) rfl ?_
    refine R_getI (ci := 0) X rfl iBr_ok (B_all _ hq0).1.1 (B_all _ hq0).1.2 6 rfl rfl tw_210 d_Br_addCustomer_37 ?_
    refine R_iload_n X 3 d_Br_addCustomer_40 rfl ?_
    obtain ⟨i4, h⟩ := ck h
    refine R_iast (n := 5) X (B_all _ hq0).2.2.2.2.1.1 (B_all _ hq0).2.2.2.2.1.2 i4 d_Br_addCustomer_41 ?_
    refine R_aload_n X 0 d_Br_addCustomer_42 rfl ?_
    refine R_dup X d_Br_addCustomer_43 rfl ?_
    refine R_getI (ci := 0) X rfl iBr_ok (B_all _ hq0).1.1 (B_all _ hq0).1.2 6 rfl rfl tw_210 d_Br_addCustomer_44 ?_
    refine V_pc (pc' := 47) rfl ?_
    refine R_iconst (v := (1 : Int32)) X d_Br_addCustomer_47 rfl ?_
    refine R_iadd X d_Br_addCustomer_48 ?_
    refine R_putI (ci := 0) X rfl iBr_ok yBr_ok nBr_ok (B_all _ hq0).1.1 (B_all _ hq0).1.2 6 rfl rfl rfl rfl tw_210 d_Br_addCustomer_49 ?_
    exact R_retv hR h d_Br_addCustomer_52
theorem M_Br_addCustomer {G : GT} {hp : HP} {q0 : Nat} {a1 : Int32} {a2 : Int32} {a3 : Int32} (hq0 : isB q0 = true) {p : Int32 × HP} (h : f_Br_addCustomer hp q0 a1 a2 a3 = some p) : MV G y_Br_addCustomer Y_Br_addCustomer [.ref (gA G q0), .int a1, .int a2, .int a3] hp p.2 := MV_of rfl (fun Z hz X hR => by subst hz; exact T_Br_addCustomer X hq0 h hR)
theorem d_Re_readCustomer_0 : decode prog_5_method_6_code 0 = .ok (.aload_n 0, 1) := by decide +kernel
theorem d_Re_readCustomer_1 : decode prog_5_method_6_code 1 = .ok (.sipush (999), 3) := by decide +kernel
theorem d_Re_readCustomer_4 : decode prog_5_method_6_code 4 = .ok (.invokevirtual 67, 3) := by decide +kernel
theorem d_Re_readCustomer_7 : decode prog_5_method_6_code 7 = .ok (.istore_n 2, 1) := by decide +kernel
theorem d_Re_readCustomer_8 : decode prog_5_method_6_code 8 = .ok (.aload_n 0, 1) := by decide +kernel
theorem d_Re_readCustomer_9 : decode prog_5_method_6_code 9 = .ok (.bipush (99), 2) := by decide +kernel
theorem d_Re_readCustomer_11 : decode prog_5_method_6_code 11 = .ok (.invokevirtual 67, 3) := by decide +kernel
theorem d_Re_readCustomer_14 : decode prog_5_method_6_code 14 = .ok (.istore_n 3, 1) := by decide +kernel
theorem d_Re_readCustomer_15 : decode prog_5_method_6_code 15 = .ok (.aload_n 0, 1) := by decide +kernel
theorem d_Re_readCustomer_16 : decode prog_5_method_6_code 16 = .ok (.bipush (99), 2) := by decide +kernel
theorem d_Re_readCustomer_18 : decode prog_5_method_6_code 18 = .ok (.invokevirtual 67, 3) := by decide +kernel
theorem d_Re_readCustomer_21 : decode prog_5_method_6_code 21 = .ok (.istore 4, 2) := by decide +kernel
theorem d_Re_readCustomer_23 : decode prog_5_method_6_code 23 = .ok (.aload_n 1, 1) := by decide +kernel
theorem d_Re_readCustomer_24 : decode prog_5_method_6_code 24 = .ok (.iload_n 2, 1) := by decide +kernel
theorem d_Re_readCustomer_25 : decode prog_5_method_6_code 25 = .ok (.iload_n 3, 1) := by decide +kernel
theorem d_Re_readCustomer_26 : decode prog_5_method_6_code 26 = .ok (.iload 4, 2) := by decide +kernel
theorem d_Re_readCustomer_28 : decode prog_5_method_6_code 28 = .ok (.invokevirtual 81, 3) := by decide +kernel
theorem d_Re_readCustomer_31 : decode prog_5_method_6_code 31 = .ok (.aload_n 0, 1) := by decide +kernel
theorem d_Re_readCustomer_32 : decode prog_5_method_6_code 32 = .ok (.bipush (59), 2) := by decide +kernel
theorem d_Re_readCustomer_34 : decode prog_5_method_6_code 34 = .ok (.invokevirtual 75, 3) := by decide +kernel
theorem d_Re_readCustomer_37 : decode prog_5_method_6_code 37 = .ok (.return_, 1) := by decide +kernel
set_option maxRecDepth 20000 in
set_option maxHeartbeats 2000000 in
theorem T_Re_readCustomer {Z : ZT} (X : CX Z Y_Re_readCustomer) {hp : HP} {q1 : Nat} (hq1 : isB q1 = true) {p : Int32 × HP} (h : f_Re_readCustomer hp q1 = some p) (hR : RetV Z Y_Re_readCustomer p.2) : V Z Y_Re_readCustomer hp 0 [(0, .ref (gA (zG Z) 1)), (1, .ref (gA (zG Z) q1))] [] := by
  unfold f_Re_readCustomer at h
  refine R_aload_n X 0 d_Re_readCustomer_0 rfl ?_
  refine R_sipush (v := (999 : Int32)) X d_Re_readCustomer_1 rfl ?_
  obtain ⟨p2, e1, h⟩ := ob h
  refine R_vcall (ci := 3) (k := 1) (As := [.int (999 : Int32)]) (st := []) X (M_Re_readNumber e1) tw_316 cf_Re_readNumber (of_decide_eq_true rfl) rfl rfl rfl rfl rfl d_Re_readCustomer_4 ?_
  refine R_istore_n (L' := [(2, .int p2.1), (0, .ref (gA (zG Z) 1)), (1, .ref (gA (zG Z) q1))]) X d_Re_readCustomer_7 (by decide) rfl ?_
  refine R_aload_n X 1 d_Re_readCustomer_8 rfl ?_
  refine V_pc (pc' := 9) rfl ?_
  refine R_bipush (v := (99 : Int32)) X d_Re_readCustomer_9 rfl ?_
  obtain ⟨p4, e3, h⟩ := ob h
  refine R_vcall (ci := 3) (k := 1) (As := [.int (99 : Int32)]) (st := []) X (M_Re_readNumber e3) tw_316 cf_Re_readNumber (of_decide_eq_true rfl) rfl rfl rfl rfl rfl d_Re_readCustomer_11 ?_
  refine R_istore_n (L' := [(3, .int p4.1), (2, .int p2.1), (0, .ref (gA (zG Z) 1)), (1, .ref (gA (zG Z) q1))]) X d_Re_readCustomer_14 (by decide) rfl ?_
  refine R_aload_n X 2 d_Re_readCustomer_15 rfl ?_
  refine R_bipush (v := (99 : Int32)) X d_Re_readCustomer_16 rfl ?_
  obtain ⟨p6, e5, h⟩ := ob h
  refine R_vcall (ci := 3) (k := 1) (As := [.int (99 : Int32)]) (st := []) X (M_Re_readNumber e5) tw_316 cf_Re_readNumber (of_decide_eq_true rfl) rfl rfl rfl rfl rfl d_Re_readCustomer_18 ?_
  refine V_pc (pc' := 21) rfl ?_
  refine R_istore (L' := [(4, .int p6.1), (3, .int p4.1), (2, .int p2.1), (0, .ref (gA (zG Z) 1)), (1, .ref (gA (zG Z) q1))]) X d_Re_readCustomer_21 (by decide) rfl ?_
  refine R_aload_n X 4 d_Re_readCustomer_23 rfl ?_
  refine R_iload_n X 2 d_Re_readCustomer_24 rfl ?_
  refine R_iload_n X 1 d_Re_readCustomer_25 rfl ?_
  refine R_iload X 0 d_Re_readCustomer_26 rfl ?_
  obtain ⟨p8, e7, h⟩ := ob h
  refine R_vcallv (ci := 0) (k := q1) (As := [.int p2.1, .int p4.1, .int p6.1]) (st := []) X (M_Br_addCustomer hq1 e7) tw_339 cf_Br_addCustomer (B_all _ hq1).1.1 (B_all _ hq1).1.2 rfl rfl rfl rfl d_Re_readCustomer_28 ?_
  refine V_pc (pc' := 31) rfl ?_
  refine R_aload_n X 3 d_Re_readCustomer_31 rfl ?_
  refine R_bipush (v := (59 : Int32)) X d_Re_readCustomer_32 rfl ?_
  obtain ⟨p10, e9, h⟩ := ob h
  refine R_vcallv (ci := 3) (k := 1) (As := [.int (59 : Int32)]) (st := []) X (M_Re_readWord e9) tw_331 cf_Re_readWord (of_decide_eq_true rfl) rfl rfl rfl rfl rfl d_Re_readCustomer_34 ?_
  exact R_retv hR h d_Re_readCustomer_37
theorem M_Re_readCustomer {G : GT} {hp : HP} {q1 : Nat} (hq1 : isB q1 = true) {p : Int32 × HP} (h : f_Re_readCustomer hp q1 = some p) : MV G y_Re_readCustomer Y_Re_readCustomer [.ref (gA G 1), .ref (gA G q1)] hp p.2 := MV_of rfl (fun Z hz X hR => by subst hz; exact T_Re_readCustomer X hq1 h hR)
theorem d_Br_allParts_0 : decode prog_2_method_10_code 0 = .ok (.iconst 1, 1) := by decide +kernel
theorem d_Br_allParts_1 : decode prog_2_method_10_code 1 = .ok (.aload_n 0, 1) := by decide +kernel
theorem d_Br_allParts_2 : decode prog_2_method_10_code 2 = .ok (.getfield 27, 3) := by decide +kernel
theorem d_Br_allParts_5 : decode prog_2_method_10_code 5 = .ok (.ishl, 1) := by decide +kernel
theorem d_Br_allParts_6 : decode prog_2_method_10_code 6 = .ok (.iconst 1, 1) := by decide +kernel
theorem d_Br_allParts_7 : decode prog_2_method_10_code 7 = .ok (.isub, 1) := by decide +kernel
theorem d_Br_allParts_8 : decode prog_2_method_10_code 8 = .ok (.ireturn, 1) := by decide +kernel
set_option maxRecDepth 20000 in
set_option maxHeartbeats 2000000 in
theorem T_Br_allParts {Z : ZT} (X : CX Z Y_Br_allParts) {hp : HP} {q0 : Nat} (hq0 : isB q0 = true) {p : Int32 × HP} (h : f_Br_allParts hp q0 = some p) (hR : RetI Z Y_Br_allParts .int p.1 p.2) : V Z Y_Br_allParts hp 0 [(0, .ref (gA (zG Z) q0))] [] := by
  unfold f_Br_allParts at h
  refine R_iconst (v := (1 : Int32)) X d_Br_allParts_0 rfl ?_
  refine R_aload_n X 0 d_Br_allParts_1 rfl ?_
  refine R_getI (ci := 0) X rfl iBr_ok (B_all _ hq0).1.1 (B_all _ hq0).1.2 5 rfl rfl tw_208 d_Br_allParts_2 ?_
  refine R_ishl X d_Br_allParts_5 ?_
  refine R_iconst (v := (1 : Int32)) X d_Br_allParts_6 rfl ?_
  refine V_pc (pc' := 7) rfl ?_
  refine R_isub X d_Br_allParts_7 ?_
  exact R_ret hR h d_Br_allParts_8
theorem M_Br_allParts {G : GT} {hp : HP} {q0 : Nat} (hq0 : isB q0 = true) {p : Int32 × HP} (h : f_Br_allParts hp q0 = some p) : MI G y_Br_allParts Y_Br_allParts .int [.ref (gA G q0)] hp p.1 p.2 := MI_of rfl (fun Z hz X hR => by subst hz; exact T_Br_allParts X hq0 h hR)
theorem d_Br_addTask_0 : decode prog_2_method_5_code 0 = .ok (.aload_n 0, 1) := by decide +kernel
theorem d_Br_addTask_1 : decode prog_2_method_5_code 1 = .ok (.getfield 34, 3) := by decide +kernel
theorem d_Br_addTask_4 : decode prog_2_method_5_code 4 = .ok (.bipush (6), 2) := by decide +kernel
theorem d_Br_addTask_6 : decode prog_2_method_5_code 6 = .ok (.if_icmp .ge (23), 3) := by decide +kernel
theorem d_Br_addTask_9 : decode prog_2_method_5_code 9 = .ok (.aload_n 0, 1) := by decide +kernel
theorem d_Br_addTask_10 : decode prog_2_method_5_code 10 = .ok (.getfield 24, 3) := by decide +kernel
theorem d_Br_addTask_13 : decode prog_2_method_5_code 13 = .ok (.aload_n 0, 1) := by decide +kernel
theorem d_Br_addTask_14 : decode prog_2_method_5_code 14 = .ok (.getfield 34, 3) := by decide +kernel
theorem d_Br_addTask_17 : decode prog_2_method_5_code 17 = .ok (.iload_n 1, 1) := by decide +kernel
theorem d_Br_addTask_18 : decode prog_2_method_5_code 18 = .ok (.iastore, 1) := by decide +kernel
theorem d_Br_addTask_19 : decode prog_2_method_5_code 19 = .ok (.aload_n 0, 1) := by decide +kernel
theorem d_Br_addTask_20 : decode prog_2_method_5_code 20 = .ok (.dup, 1) := by decide +kernel
theorem d_Br_addTask_21 : decode prog_2_method_5_code 21 = .ok (.getfield 34, 3) := by decide +kernel
theorem d_Br_addTask_24 : decode prog_2_method_5_code 24 = .ok (.iconst 1, 1) := by decide +kernel
theorem d_Br_addTask_25 : decode prog_2_method_5_code 25 = .ok (.iadd, 1) := by decide +kernel
theorem d_Br_addTask_26 : decode prog_2_method_5_code 26 = .ok (.putfield 34, 3) := by decide +kernel
theorem d_Br_addTask_29 : decode prog_2_method_5_code 29 = .ok (.return_, 1) := by decide +kernel
set_option maxRecDepth 20000 in
set_option maxHeartbeats 2000000 in
theorem T_Br_addTask {Z : ZT} (X : CX Z Y_Br_addTask) {hp : HP} {q0 : Nat} {a1 : Int32} (hq0 : isB q0 = true) {p : Int32 × HP} (h : f_Br_addTask hp q0 a1 = some p) (hR : RetV Z Y_Br_addTask p.2) : V Z Y_Br_addTask hp 0 [(0, .ref (gA (zG Z) q0)), (1, .int a1)] [] := by
  unfold f_Br_addTask at h
  refine R_aload_n X 0 d_Br_addTask_0 rfl ?_
  refine R_getI (ci := 0) X rfl iBr_ok (B_all _ hq0).1.1 (B_all _ hq0).1.2 7 rfl rfl tw_214 d_Br_addTask_1 ?_
  refine R_bipush (v := (6 : Int32)) X d_Br_addTask_4 rfl ?_
  refine R_icmp_ge (tgt := 29) X d_Br_addTask_6 rfl (fun c1 => ?_) (fun c1 => ?_)
  · replace h := (if_pos c1).symm.trans h
    exact R_retv hR h d_Br_addTask_29
  · replace h := (if_neg c1).symm.trans h
    refine R_aload_n X 0 d_Br_addTask_9 rfl ?_
    refine R_getR (ci := 0) X rfl iBr_ok (B_all _ hq0).1.1 (B_all _ hq0).1.2 4 rfl rfl tw_207 d_Br_addTask_10 ?_
    refine R_aload_n X 0 d_Br_addTask_13 rfl ?_
    refine R_getI (ci := 0) X rfl iBr_ok (B_all _ hq0).1.1 (B_all _ hq0).1.2 7 rfl rfl tw_214 d_Br_addTask_14 ?_
    refine R_iload_n X 1 d_Br_addTask_17 rfl ?_
    refine V_pc (pc' := 18) rfl ?_
    obtain ⟨i2, h⟩ := ck h
    refine R_iast (n := 6) X (B_all _ hq0).2.2.2.2.2.1 (B_all _ hq0).2.2.2.2.2.2 i2 d_Br_addTask_18 ?_
    refine R_aload_n X 0 d_Br_addTask_19 rfl ?_
    refine R_dup X d_Br_addTask_20 rfl ?_
    refine R_getI (ci := 0) X rfl iBr_ok (B_all _ hq0).1.1 (B_all _ hq0).1.2 7 rfl rfl tw_214 d_Br_addTask_21 ?_
    refine R_iconst (v := (1 : Int32)) X d_Br_addTask_24 rfl ?_
    refine R_iadd X d_Br_addTask_25 ?_
    refine V_pc (pc' := 26) rfl ?_
    refine R_putI (ci := 0) X rfl iBr_ok yBr_ok nBr_ok (B_all _ hq0).1.1 (B_all _ hq0).1.2 7 rfl rfl rfl rfl tw_214 d_Br_addTask_26 ?_
    exact R_retv hR h d_Br_addTask_29
theorem M_Br_addTask {G : GT} {hp : HP} {q0 : Nat} {a1 : Int32} (hq0 : isB q0 = true) {p : Int32 × HP} (h : f_Br_addTask hp q0 a1 = some p) : MV G y_Br_addTask Y_Br_addTask [.ref (gA G q0), .int a1] hp p.2 := MV_of rfl (fun Z hz X hR => by subst hz; exact T_Br_addTask X hq0 h hR)
theorem d_Re_readClause_0 : decode prog_5_method_4_code 0 = .ok (.aload_n 0, 1) := by decide +kernel
theorem d_Re_readClause_1 : decode prog_5_method_4_code 1 = .ok (.invokevirtual 40, 3) := by decide +kernel
theorem d_Re_readClause_4 : decode prog_5_method_4_code 4 = .ok (.istore_n 2, 1) := by decide +kernel
theorem d_Re_readClause_5 : decode prog_5_method_4_code 5 = .ok (.iload_n 2, 1) := by decide +kernel
theorem d_Re_readClause_6 : decode prog_5_method_4_code 6 = .ok (.bipush (98), 2) := by decide +kernel
theorem d_Re_readClause_8 : decode prog_5_method_4_code 8 = .ok (.if_icmp .ne (28), 3) := by decide +kernel
theorem d_Re_readClause_11 : decode prog_5_method_4_code 11 = .ok (.aload_n 1, 1) := by decide +kernel
theorem d_Re_readClause_12 : decode prog_5_method_4_code 12 = .ok (.invokevirtual 44, 3) := by decide +kernel
theorem d_Re_readClause_15 : decode prog_5_method_4_code 15 = .ok (.ifCond .ne (21), 3) := by decide +kernel
theorem d_Re_readClause_18 : decode prog_5_method_4_code 18 = .ok (.aload_n 0, 1) := by decide +kernel
theorem d_Re_readClause_19 : decode prog_5_method_4_code 19 = .ok (.dup, 1) := by decide +kernel
theorem d_Re_readClause_20 : decode prog_5_method_4_code 20 = .ok (.getfield 27, 3) := by decide +kernel
theorem d_Re_readClause_23 : decode prog_5_method_4_code 23 = .ok (.iconst 1, 1) := by decide +kernel
theorem d_Re_readClause_24 : decode prog_5_method_4_code 24 = .ok (.iadd, 1) := by decide +kernel
theorem d_Re_readClause_25 : decode prog_5_method_4_code 25 = .ok (.putfield 27, 3) := by decide +kernel
theorem d_Re_readClause_28 : decode prog_5_method_4_code 28 = .ok (.aload_n 0, 1) := by decide +kernel
theorem d_Re_readClause_29 : decode prog_5_method_4_code 29 = .ok (.aload_n 1, 1) := by decide +kernel
theorem d_Re_readClause_30 : decode prog_5_method_4_code 30 = .ok (.invokevirtual 48, 3) := by decide +kernel
theorem d_Re_readClause_33 : decode prog_5_method_4_code 33 = .ok (.goto (127), 3) := by decide +kernel
theorem d_Re_readClause_36 : decode prog_5_method_4_code 36 = .ok (.aload_n 1, 1) := by decide +kernel
theorem d_Re_readClause_37 : decode prog_5_method_4_code 37 = .ok (.invokevirtual 44, 3) := by decide +kernel
theorem d_Re_readClause_40 : decode prog_5_method_4_code 40 = .ok (.ifCond .eq (21), 3) := by decide +kernel
theorem d_Re_readClause_43 : decode prog_5_method_4_code 43 = .ok (.iload_n 2, 1) := by decide +kernel
theorem d_Re_readClause_44 : decode prog_5_method_4_code 44 = .ok (.bipush (98), 2) := by decide +kernel
theorem d_Re_readClause_46 : decode prog_5_method_4_code 46 = .ok (.if_icmp .eq (27), 3) := by decide +kernel
theorem d_Re_readClause_49 : decode prog_5_method_4_code 49 = .ok (.iload_n 2, 1) := by decide +kernel
theorem d_Re_readClause_50 : decode prog_5_method_4_code 50 = .ok (.bipush (99), 2) := by decide +kernel
theorem d_Re_readClause_52 : decode prog_5_method_4_code 52 = .ok (.if_icmp .eq (21), 3) := by decide +kernel
theorem d_Re_readClause_55 : decode prog_5_method_4_code 55 = .ok (.iload_n 2, 1) := by decide +kernel
theorem d_Re_readClause_56 : decode prog_5_method_4_code 56 = .ok (.bipush (116), 2) := by decide +kernel
theorem d_Re_readClause_58 : decode prog_5_method_4_code 58 = .ok (.if_icmp .eq (15), 3) := by decide +kernel
theorem d_Re_readClause_61 : decode prog_5_method_4_code 61 = .ok (.aload_n 0, 1) := by decide +kernel
theorem d_Re_readClause_62 : decode prog_5_method_4_code 62 = .ok (.iconst 1, 1) := by decide +kernel
theorem d_Re_readClause_63 : decode prog_5_method_4_code 63 = .ok (.aload_n 0, 1) := by decide +kernel
theorem d_Re_readClause_64 : decode prog_5_method_4_code 64 = .ok (.getfield 27, 3) := by decide +kernel
theorem d_Re_readClause_67 : decode prog_5_method_4_code 67 = .ok (.invokevirtual 51, 3) := by decide +kernel
theorem d_Re_readClause_70 : decode prog_5_method_4_code 70 = .ok (.goto (90), 3) := by decide +kernel
theorem d_Re_readClause_73 : decode prog_5_method_4_code 73 = .ok (.iload_n 2, 1) := by decide +kernel
theorem d_Re_readClause_74 : decode prog_5_method_4_code 74 = .ok (.bipush (99), 2) := by decide +kernel
theorem d_Re_readClause_76 : decode prog_5_method_4_code 76 = .ok (.if_icmp .ne (29), 3) := by decide +kernel
theorem d_Re_readClause_79 : decode prog_5_method_4_code 79 = .ok (.aload_n 1, 1) := by decide +kernel
theorem d_Re_readClause_80 : decode prog_5_method_4_code 80 = .ok (.getfield 55, 3) := by decide +kernel
theorem d_Re_readClause_83 : decode prog_5_method_4_code 83 = .ok (.iconst 5, 1) := by decide +kernel
theorem d_Re_readClause_84 : decode prog_5_method_4_code 84 = .ok (.if_icmp .ge (21), 3) := by decide +kernel
theorem d_Re_readClause_87 : decode prog_5_method_4_code 87 = .ok (.aload_n 0, 1) := by decide +kernel
theorem d_Re_readClause_88 : decode prog_5_method_4_code 88 = .ok (.dup, 1) := by decide +kernel
theorem d_Re_readClause_89 : decode prog_5_method_4_code 89 = .ok (.getfield 27, 3) := by decide +kernel
theorem d_Re_readClause_92 : decode prog_5_method_4_code 92 = .ok (.iconst 1, 1) := by decide +kernel
theorem d_Re_readClause_93 : decode prog_5_method_4_code 93 = .ok (.iadd, 1) := by decide +kernel
theorem d_Re_readClause_94 : decode prog_5_method_4_code 94 = .ok (.putfield 27, 3) := by decide +kernel
theorem d_Re_readClause_97 : decode prog_5_method_4_code 97 = .ok (.aload_n 0, 1) := by decide +kernel
theorem d_Re_readClause_98 : decode prog_5_method_4_code 98 = .ok (.aload_n 1, 1) := by decide +kernel
theorem d_Re_readClause_99 : decode prog_5_method_4_code 99 = .ok (.invokevirtual 58, 3) := by decide +kernel
theorem d_Re_readClause_102 : decode prog_5_method_4_code 102 = .ok (.goto (58), 3) := by decide +kernel
theorem d_Re_readClause_105 : decode prog_5_method_4_code 105 = .ok (.iload_n 2, 1) := by decide +kernel
theorem d_Re_readClause_106 : decode prog_5_method_4_code 106 = .ok (.bipush (116), 2) := by decide +kernel
theorem d_Re_readClause_108 : decode prog_5_method_4_code 108 = .ok (.if_icmp .ne (43), 3) := by decide +kernel
theorem d_Re_readClause_111 : decode prog_5_method_4_code 111 = .ok (.aload_n 1, 1) := by decide +kernel
theorem d_Re_readClause_112 : decode prog_5_method_4_code 112 = .ok (.getfield 61, 3) := by decide +kernel
theorem d_Re_readClause_115 : decode prog_5_method_4_code 115 = .ok (.bipush (6), 2) := by decide +kernel
theorem d_Re_readClause_117 : decode prog_5_method_4_code 117 = .ok (.if_icmp .ge (34), 3) := by decide +kernel
theorem d_Re_readClause_120 : decode prog_5_method_4_code 120 = .ok (.aload_n 0, 1) := by decide +kernel
theorem d_Re_readClause_121 : decode prog_5_method_4_code 121 = .ok (.dup, 1) := by decide +kernel
theorem d_Re_readClause_122 : decode prog_5_method_4_code 122 = .ok (.getfield 27, 3) := by decide +kernel
theorem d_Re_readClause_125 : decode prog_5_method_4_code 125 = .ok (.iconst 1, 1) := by decide +kernel
theorem d_Re_readClause_126 : decode prog_5_method_4_code 126 = .ok (.iadd, 1) := by decide +kernel
theorem d_Re_readClause_127 : decode prog_5_method_4_code 127 = .ok (.putfield 27, 3) := by decide +kernel
theorem d_Re_readClause_130 : decode prog_5_method_4_code 130 = .ok (.aload_n 1, 1) := by decide +kernel
theorem d_Re_readClause_131 : decode prog_5_method_4_code 131 = .ok (.aload_n 0, 1) := by decide +kernel
theorem d_Re_readClause_132 : decode prog_5_method_4_code 132 = .ok (.aload_n 1, 1) := by decide +kernel
theorem d_Re_readClause_133 : decode prog_5_method_4_code 133 = .ok (.invokevirtual 64, 3) := by decide +kernel
theorem d_Re_readClause_136 : decode prog_5_method_4_code 136 = .ok (.invokevirtual 67, 3) := by decide +kernel
theorem d_Re_readClause_139 : decode prog_5_method_4_code 139 = .ok (.invokevirtual 71, 3) := by decide +kernel
theorem d_Re_readClause_142 : decode prog_5_method_4_code 142 = .ok (.aload_n 0, 1) := by decide +kernel
theorem d_Re_readClause_143 : decode prog_5_method_4_code 143 = .ok (.bipush (59), 2) := by decide +kernel
theorem d_Re_readClause_145 : decode prog_5_method_4_code 145 = .ok (.invokevirtual 75, 3) := by decide +kernel
theorem d_Re_readClause_148 : decode prog_5_method_4_code 148 = .ok (.goto (12), 3) := by decide +kernel
theorem d_Re_readClause_151 : decode prog_5_method_4_code 151 = .ok (.aload_n 0, 1) := by decide +kernel
theorem d_Re_readClause_152 : decode prog_5_method_4_code 152 = .ok (.iconst 3, 1) := by decide +kernel
theorem d_Re_readClause_153 : decode prog_5_method_4_code 153 = .ok (.aload_n 0, 1) := by decide +kernel
theorem d_Re_readClause_154 : decode prog_5_method_4_code 154 = .ok (.getfield 27, 3) := by decide +kernel
theorem d_Re_readClause_157 : decode prog_5_method_4_code 157 = .ok (.invokevirtual 51, 3) := by decide +kernel
theorem d_Re_readClause_160 : decode prog_5_method_4_code 160 = .ok (.return_, 1) := by decide +kernel
set_option maxRecDepth 20000 in
set_option maxHeartbeats 2000000 in
theorem T_Re_readClause {Z : ZT} (X : CX Z Y_Re_readClause) {hp : HP} {q1 : Nat} (hq1 : isB q1 = true) {p : Int32 × HP} (h : f_Re_readClause hp q1 = some p) (hR : RetV Z Y_Re_readClause p.2) : V Z Y_Re_readClause hp 0 [(0, .ref (gA (zG Z) 1)), (1, .ref (gA (zG Z) q1))] [] := by
  unfold f_Re_readClause at h
  refine R_aload_n X 0 d_Re_readClause_0 rfl ?_
  obtain ⟨p2, e1, h⟩ := ob h
  refine R_vcall (ci := 3) (k := 1) (As := []) (st := []) X (M_Re_letter e1) tw_300 cf_Re_letter (of_decide_eq_true rfl) rfl rfl rfl rfl rfl d_Re_readClause_1 ?_
  refine R_istore_n (L' := [(2, .int p2.1), (0, .ref (gA (zG Z) 1)), (1, .ref (gA (zG Z) q1))]) X d_Re_readClause_4 (by decide) rfl ?_
  refine R_iload_n X 0 d_Re_readClause_5 rfl ?_
  refine R_bipush (v := (98 : Int32)) X d_Re_readClause_6 rfl ?_
  refine V_pc (pc' := 8) rfl ?_
  refine R_icmp_ne (tgt := 36) X d_Re_readClause_8 rfl (fun c3 => ?_) (fun c3 => ?_)
  · replace h := (if_neg c3).symm.trans h
    refine R_aload_n X 2 d_Re_readClause_36 rfl ?_
    obtain ⟨p48, e47, h⟩ := ob h
    refine R_vcall (ci := 0) (k := q1) (As := []) (st := []) X (M_Br_isThere hq1 e47) tw_308 cf_Br_isThere (B_all _ hq1).1.1 (B_all _ hq1).1.2 rfl rfl rfl rfl d_Re_readClause_37 ?_
    refine R_ifeq (tgt := 61) X d_Re_readClause_40 rfl (fun c49 => ?_) (fun c49 => ?_)
    · replace h := (if_pos c49).symm.trans h
      refine R_aload_n X 1 d_Re_readClause_61 rfl ?_
      refine R_iconst (v := (1 : Int32)) X d_Re_readClause_62 rfl ?_
      refine R_aload_n X 1 d_Re_readClause_63 rfl ?_
      refine R_getI (ci := 3) X rfl iRe_ok (of_decide_eq_true rfl) rfl 4 rfl rfl tw_78 d_Re_readClause_64 ?_
      obtain ⟨p51, e50, h⟩ := ob h
      refine R_vcallv (ci := 3) (k := 1) (As := [.int (1 : Int32), .int (p48.2 1 4)]) (st := []) X (M_Re_fail e50) tw_323 cf_Re_fail (of_decide_eq_true rfl) rfl rfl rfl rfl rfl d_Re_readClause_67 ?_
      refine V_pc (pc' := 70) rfl ?_
      refine R_goto (tgt := 160) X d_Re_readClause_70 rfl ?_
      exact R_retv hR h d_Re_readClause_160
    · replace h := (if_neg c49).symm.trans h
      refine R_iload_n X 0 d_Re_readClause_43 rfl ?_
      refine R_bipush (v := (98 : Int32)) X d_Re_readClause_44 rfl ?_
      refine R_icmp_eq (tgt := 73) X d_Re_readClause_46 rfl (fun c52 => absurd c52 c3) (fun c52 => ?_)
      refine R_iload_n X 0 d_Re_readClause_49 rfl ?_
      refine R_bipush (v := (99 : Int32)) X d_Re_readClause_50 rfl ?_
      refine V_pc (pc' := 52) rfl ?_
      refine R_icmp_eq (tgt := 73) X d_Re_readClause_52 rfl (fun c53 => ?_) (fun c53 => ?_)
      · replace h := (if_pos c53).symm.trans h
        refine R_iload_n X 0 d_Re_readClause_73 rfl ?_
        refine R_bipush (v := (99 : Int32)) X d_Re_readClause_74 rfl ?_
        refine R_icmp_ne (tgt := 105) X d_Re_readClause_76 rfl (fun c54 => absurd c53 c54) (fun c54 => ?_)
        refine R_aload_n X 2 d_Re_readClause_79 rfl ?_
        refine R_getI (ci := 0) X rfl iBr_ok (B_all _ hq1).1.1 (B_all _ hq1).1.2 6 rfl rfl tw_213 d_Re_readClause_80 ?_
        refine V_pc (pc' := 83) rfl ?_
        refine R_iconst (v := (5 : Int32)) X d_Re_readClause_83 rfl ?_
        refine R_icmp_ge (tgt := 105) X d_Re_readClause_84 rfl (fun c55 => ?_) (fun c55 => ?_)
        · replace h := (if_pos c55).symm.trans h
          refine R_iload_n X 0 d_Re_readClause_105 rfl ?_
          refine R_bipush (v := (116 : Int32)) X d_Re_readClause_106 rfl ?_
          refine R_icmp_ne (tgt := 151) X d_Re_readClause_108 rfl (fun c56 => ?_) (fun c56 => ?_)
          · replace h := (if_neg c56).symm.trans h
            refine R_aload_n X 1 d_Re_readClause_151 rfl ?_
            refine R_iconst (v := (3 : Int32)) X d_Re_readClause_152 rfl ?_
            refine R_aload_n X 1 d_Re_readClause_153 rfl ?_
            refine R_getI (ci := 3) X rfl iRe_ok (of_decide_eq_true rfl) rfl 4 rfl rfl tw_78 d_Re_readClause_154 ?_
            obtain ⟨p69, e68, h⟩ := ob h
            refine R_vcallv (ci := 3) (k := 1) (As := [.int (3 : Int32), .int (p48.2 1 4)]) (st := []) X (M_Re_fail e68) tw_323 cf_Re_fail (of_decide_eq_true rfl) rfl rfl rfl rfl rfl d_Re_readClause_157 ?_
            refine V_pc (pc' := 160) rfl ?_
            exact R_retv hR h d_Re_readClause_160
          · replace h := (if_pos c56).symm.trans h
            refine R_aload_n X 2 d_Re_readClause_111 rfl ?_
            refine R_getI (ci := 0) X rfl iBr_ok (B_all _ hq1).1.1 (B_all _ hq1).1.2 7 rfl rfl tw_215 d_Re_readClause_112 ?_
            refine R_bipush (v := (6 : Int32)) X d_Re_readClause_115 rfl ?_
            refine R_icmp_ge (tgt := 151) X d_Re_readClause_117 rfl (fun c57 => ?_) (fun c57 => ?_)
            · replace h := (if_pos c57).symm.trans h
              refine R_aload_n X 1 d_Re_readClause_151 rfl ?_
              refine R_iconst (v := (3 : Int32)) X d_Re_readClause_152 rfl ?_
              refine R_aload_n X 1 d_Re_readClause_153 rfl ?_
              refine R_getI (ci := 3) X rfl iRe_ok (of_decide_eq_true rfl) rfl 4 rfl rfl tw_78 d_Re_readClause_154 ?_
              obtain ⟨p59, e58, h⟩ := ob h
              refine R_vcallv (ci := 3) (k := 1) (As := [.int (3 : Int32), .int (p48.2 1 4)]) (st := []) X (M_Re_fail e58) tw_323 cf_Re_fail (of_decide_eq_true rfl) rfl rfl rfl rfl rfl d_Re_readClause_157 ?_
              refine V_pc (pc' := 160) rfl ?_
              exact R_retv hR h d_Re_readClause_160
            · replace h := (if_neg c57).symm.trans h
              refine R_aload_n X 1 d_Re_readClause_120 rfl ?_
              refine R_dup X d_Re_readClause_121 rfl ?_
              refine R_getI (ci := 3) X rfl iRe_ok (of_decide_eq_true rfl) rfl 4 rfl rfl tw_78 d_Re_readClause_122 ?_
              refine R_iconst (v := (1 : Int32)) X d_Re_readClause_125 rfl ?_
              refine R_iadd X d_Re_readClause_126 ?_
              refine V_pc (pc' := 127) rfl ?_
              refine R_putI (ci := 3) X rfl iRe_ok yRe_ok nRe_ok (of_decide_eq_true rfl) rfl 4 rfl rfl rfl rfl tw_78 d_Re_readClause_127 ?_
              refine R_aload_n X 2 d_Re_readClause_130 rfl ?_
              refine R_aload_n X 1 d_Re_readClause_131 rfl ?_
              refine R_aload_n X 2 d_Re_readClause_132 rfl ?_
              obtain ⟨p61, e60, h⟩ := ob h
              refine R_vcall (ci := 0) (k := q1) (As := []) (st := [.ref (gA (zG Z) 1), .ref (gA (zG Z) q1)]) X (M_Br_allParts hq1 e60) tw_343 cf_Br_allParts (B_all _ hq1).1.1 (B_all _ hq1).1.2 rfl rfl rfl rfl d_Re_readClause_133 ?_
              obtain ⟨p63, e62, h⟩ := ob h
              refine R_vcall (ci := 3) (k := 1) (As := [.int p61.1]) (st := [.ref (gA (zG Z) q1)]) X (M_Re_readNumber e62) tw_316 cf_Re_readNumber (of_decide_eq_true rfl) rfl rfl rfl rfl rfl d_Re_readClause_136 ?_
              refine V_pc (pc' := 139) rfl ?_
              obtain ⟨p65, e64, h⟩ := ob h
              refine R_vcallv (ci := 0) (k := q1) (As := [.int p63.1]) (st := []) X (M_Br_addTask hq1 e64) tw_347 cf_Br_addTask (B_all _ hq1).1.1 (B_all _ hq1).1.2 rfl rfl rfl rfl d_Re_readClause_139 ?_
              refine R_aload_n X 1 d_Re_readClause_142 rfl ?_
              refine R_bipush (v := (59 : Int32)) X d_Re_readClause_143 rfl ?_
              obtain ⟨p67, e66, h⟩ := ob h
              refine R_vcallv (ci := 3) (k := 1) (As := [.int (59 : Int32)]) (st := []) X (M_Re_readWord e66) tw_331 cf_Re_readWord (of_decide_eq_true rfl) rfl rfl rfl rfl rfl d_Re_readClause_145 ?_
              refine R_goto (tgt := 160) X d_Re_readClause_148 rfl ?_
              exact R_retv hR h d_Re_readClause_160
        · replace h := (if_neg c55).symm.trans h
          refine R_aload_n X 1 d_Re_readClause_87 rfl ?_
          refine R_dup X d_Re_readClause_88 rfl ?_
          refine R_getI (ci := 3) X rfl iRe_ok (of_decide_eq_true rfl) rfl 4 rfl rfl tw_78 d_Re_readClause_89 ?_
          refine R_iconst (v := (1 : Int32)) X d_Re_readClause_92 rfl ?_
          refine R_iadd X d_Re_readClause_93 ?_
          refine V_pc (pc' := 94) rfl ?_
          refine R_putI (ci := 3) X rfl iRe_ok yRe_ok nRe_ok (of_decide_eq_true rfl) rfl 4 rfl rfl rfl rfl tw_78 d_Re_readClause_94 ?_
          refine R_aload_n X 1 d_Re_readClause_97 rfl ?_
          refine R_aload_n X 2 d_Re_readClause_98 rfl ?_
          obtain ⟨p71, e70, h⟩ := ob h
          refine R_vcallv (ci := 3) (k := 1) (As := [.ref (gA (zG Z) q1)]) (st := []) X (M_Re_readCustomer hq1 e70) tw_335 cf_Re_readCustomer (of_decide_eq_true rfl) rfl rfl rfl rfl rfl d_Re_readClause_99 ?_
          refine R_goto (tgt := 160) X d_Re_readClause_102 rfl ?_
          exact R_retv hR h d_Re_readClause_160
      · replace h := (if_neg c53).symm.trans h
        refine R_iload_n X 0 d_Re_readClause_55 rfl ?_
        refine R_bipush (v := (116 : Int32)) X d_Re_readClause_56 rfl ?_
        refine R_icmp_eq (tgt := 73) X d_Re_readClause_58 rfl (fun c72 => ?_) (fun c72 => ?_)
        · replace h := (if_pos c72).symm.trans h
          refine R_iload_n X 0 d_Re_readClause_73 rfl ?_
          refine R_bipush (v := (99 : Int32)) X d_Re_readClause_74 rfl ?_
          refine R_icmp_ne (tgt := 105) X d_Re_readClause_76 rfl (fun c73 => ?_) (fun c73 => absurd c73 c53)
          refine R_iload_n X 0 d_Re_readClause_105 rfl ?_
          refine R_bipush (v := (116 : Int32)) X d_Re_readClause_106 rfl ?_
          refine V_pc (pc' := 108) rfl ?_
          refine R_icmp_ne (tgt := 151) X d_Re_readClause_108 rfl (fun c74 => absurd c72 c74) (fun c74 => ?_)
          refine R_aload_n X 2 d_Re_readClause_111 rfl ?_
          refine R_getI (ci := 0) X rfl iBr_ok (B_all _ hq1).1.1 (B_all _ hq1).1.2 7 rfl rfl tw_215 d_Re_readClause_112 ?_
          refine R_bipush (v := (6 : Int32)) X d_Re_readClause_115 rfl ?_
          refine R_icmp_ge (tgt := 151) X d_Re_readClause_117 rfl (fun c75 => ?_) (fun c75 => ?_)
          · replace h := (if_pos c75).symm.trans h
            refine R_aload_n X 1 d_Re_readClause_151 rfl ?_
            refine R_iconst (v := (3 : Int32)) X d_Re_readClause_152 rfl ?_
            refine R_aload_n X 1 d_Re_readClause_153 rfl ?_
            refine R_getI (ci := 3) X rfl iRe_ok (of_decide_eq_true rfl) rfl 4 rfl rfl tw_78 d_Re_readClause_154 ?_
            obtain ⟨p77, e76, h⟩ := ob h
            refine R_vcallv (ci := 3) (k := 1) (As := [.int (3 : Int32), .int (p48.2 1 4)]) (st := []) X (M_Re_fail e76) tw_323 cf_Re_fail (of_decide_eq_true rfl) rfl rfl rfl rfl rfl d_Re_readClause_157 ?_
            refine V_pc (pc' := 160) rfl ?_
            exact R_retv hR h d_Re_readClause_160
          · replace h := (if_neg c75).symm.trans h
            refine R_aload_n X 1 d_Re_readClause_120 rfl ?_
            refine R_dup X d_Re_readClause_121 rfl ?_
            refine R_getI (ci := 3) X rfl iRe_ok (of_decide_eq_true rfl) rfl 4 rfl rfl tw_78 d_Re_readClause_122 ?_
            refine R_iconst (v := (1 : Int32)) X d_Re_readClause_125 rfl ?_
            refine R_iadd X d_Re_readClause_126 ?_
            refine V_pc (pc' := 127) rfl ?_
            refine R_putI (ci := 3) X rfl iRe_ok yRe_ok nRe_ok (of_decide_eq_true rfl) rfl 4 rfl rfl rfl rfl tw_78 d_Re_readClause_127 ?_
            refine R_aload_n X 2 d_Re_readClause_130 rfl ?_
            refine R_aload_n X 1 d_Re_readClause_131 rfl ?_
            refine R_aload_n X 2 d_Re_readClause_132 rfl ?_
            obtain ⟨p79, e78, h⟩ := ob h
            refine R_vcall (ci := 0) (k := q1) (As := []) (st := [.ref (gA (zG Z) 1), .ref (gA (zG Z) q1)]) X (M_Br_allParts hq1 e78) tw_343 cf_Br_allParts (B_all _ hq1).1.1 (B_all _ hq1).1.2 rfl rfl rfl rfl d_Re_readClause_133 ?_
            obtain ⟨p81, e80, h⟩ := ob h
            refine R_vcall (ci := 3) (k := 1) (As := [.int p79.1]) (st := [.ref (gA (zG Z) q1)]) X (M_Re_readNumber e80) tw_316 cf_Re_readNumber (of_decide_eq_true rfl) rfl rfl rfl rfl rfl d_Re_readClause_136 ?_
            refine V_pc (pc' := 139) rfl ?_
            obtain ⟨p83, e82, h⟩ := ob h
            refine R_vcallv (ci := 0) (k := q1) (As := [.int p81.1]) (st := []) X (M_Br_addTask hq1 e82) tw_347 cf_Br_addTask (B_all _ hq1).1.1 (B_all _ hq1).1.2 rfl rfl rfl rfl d_Re_readClause_139 ?_
            refine R_aload_n X 1 d_Re_readClause_142 rfl ?_
            refine R_bipush (v := (59 : Int32)) X d_Re_readClause_143 rfl ?_
            obtain ⟨p85, e84, h⟩ := ob h
            refine R_vcallv (ci := 3) (k := 1) (As := [.int (59 : Int32)]) (st := []) X (M_Re_readWord e84) tw_331 cf_Re_readWord (of_decide_eq_true rfl) rfl rfl rfl rfl rfl d_Re_readClause_145 ?_
            refine R_goto (tgt := 160) X d_Re_readClause_148 rfl ?_
            exact R_retv hR h d_Re_readClause_160
        · replace h := (if_neg c72).symm.trans h
          refine R_aload_n X 1 d_Re_readClause_61 rfl ?_
          refine R_iconst (v := (1 : Int32)) X d_Re_readClause_62 rfl ?_
          refine R_aload_n X 1 d_Re_readClause_63 rfl ?_
          refine R_getI (ci := 3) X rfl iRe_ok (of_decide_eq_true rfl) rfl 4 rfl rfl tw_78 d_Re_readClause_64 ?_
          obtain ⟨p87, e86, h⟩ := ob h
          refine R_vcallv (ci := 3) (k := 1) (As := [.int (1 : Int32), .int (p48.2 1 4)]) (st := []) X (M_Re_fail e86) tw_323 cf_Re_fail (of_decide_eq_true rfl) rfl rfl rfl rfl rfl d_Re_readClause_67 ?_
          refine V_pc (pc' := 70) rfl ?_
          refine R_goto (tgt := 160) X d_Re_readClause_70 rfl ?_
          exact R_retv hR h d_Re_readClause_160
  · replace h := (if_pos c3).symm.trans h
    refine R_aload_n X 2 d_Re_readClause_11 rfl ?_
    obtain ⟨p5, e4, h⟩ := ob h
    refine R_vcall (ci := 0) (k := q1) (As := []) (st := []) X (M_Br_isThere hq1 e4) tw_308 cf_Br_isThere (B_all _ hq1).1.1 (B_all _ hq1).1.2 rfl rfl rfl rfl d_Re_readClause_12 ?_
    refine R_ifne (tgt := 36) X d_Re_readClause_15 rfl (fun c6 => ?_) (fun c6 => ?_)
    · replace h := (if_neg c6).symm.trans h
      refine R_aload_n X 2 d_Re_readClause_36 rfl ?_
      obtain ⟨p10, e9, h⟩ := ob h
      refine R_vcall (ci := 0) (k := q1) (As := []) (st := []) X (M_Br_isThere hq1 e9) tw_308 cf_Br_isThere (B_all _ hq1).1.1 (B_all _ hq1).1.2 rfl rfl rfl rfl d_Re_readClause_37 ?_
      refine R_ifeq (tgt := 61) X d_Re_readClause_40 rfl (fun c11 => ?_) (fun c11 => ?_)
      · replace h := (if_pos c11).symm.trans h
        refine R_aload_n X 1 d_Re_readClause_61 rfl ?_
        refine R_iconst (v := (1 : Int32)) X d_Re_readClause_62 rfl ?_
        refine R_aload_n X 1 d_Re_readClause_63 rfl ?_
        refine R_getI (ci := 3) X rfl iRe_ok (of_decide_eq_true rfl) rfl 4 rfl rfl tw_78 d_Re_readClause_64 ?_
        obtain ⟨p13, e12, h⟩ := ob h
        refine R_vcallv (ci := 3) (k := 1) (As := [.int (1 : Int32), .int (p10.2 1 4)]) (st := []) X (M_Re_fail e12) tw_323 cf_Re_fail (of_decide_eq_true rfl) rfl rfl rfl rfl rfl d_Re_readClause_67 ?_
        refine V_pc (pc' := 70) rfl ?_
        refine R_goto (tgt := 160) X d_Re_readClause_70 rfl ?_
        exact R_retv hR h d_Re_readClause_160
      · replace h := (if_neg c11).symm.trans h
        refine R_iload_n X 0 d_Re_readClause_43 rfl ?_
        refine R_bipush (v := (98 : Int32)) X d_Re_readClause_44 rfl ?_
        refine R_icmp_eq (tgt := 73) X d_Re_readClause_46 rfl (fun c14 => ?_) (fun c14 => absurd c3 c14)
        refine R_iload_n X 0 d_Re_readClause_73 rfl ?_
        refine R_bipush (v := (99 : Int32)) X d_Re_readClause_74 rfl ?_
        refine V_pc (pc' := 76) rfl ?_
        refine R_icmp_ne (tgt := 105) X d_Re_readClause_76 rfl (fun c15 => ?_) (fun c15 => ?_)
        · replace h := (if_neg c15).symm.trans h
          refine R_iload_n X 0 d_Re_readClause_105 rfl ?_
          refine R_bipush (v := (116 : Int32)) X d_Re_readClause_106 rfl ?_
          refine R_icmp_ne (tgt := 151) X d_Re_readClause_108 rfl (fun c33 => ?_) (fun c33 => ?_)
          · replace h := (if_neg c33).symm.trans h
            refine R_aload_n X 1 d_Re_readClause_151 rfl ?_
            refine R_iconst (v := (3 : Int32)) X d_Re_readClause_152 rfl ?_
            refine R_aload_n X 1 d_Re_readClause_153 rfl ?_
            refine R_getI (ci := 3) X rfl iRe_ok (of_decide_eq_true rfl) rfl 4 rfl rfl tw_78 d_Re_readClause_154 ?_
            obtain ⟨p46, e45, h⟩ := ob h
            refine R_vcallv (ci := 3) (k := 1) (As := [.int (3 : Int32), .int (p10.2 1 4)]) (st := []) X (M_Re_fail e45) tw_323 cf_Re_fail (of_decide_eq_true rfl) rfl rfl rfl rfl rfl d_Re_readClause_157 ?_
            refine V_pc (pc' := 160) rfl ?_
            exact R_retv hR h d_Re_readClause_160
          · replace h := (if_pos c33).symm.trans h
            refine R_aload_n X 2 d_Re_readClause_111 rfl ?_
            refine R_getI (ci := 0) X rfl iBr_ok (B_all _ hq1).1.1 (B_all _ hq1).1.2 7 rfl rfl tw_215 d_Re_readClause_112 ?_
            refine R_bipush (v := (6 : Int32)) X d_Re_readClause_115 rfl ?_
            refine R_icmp_ge (tgt := 151) X d_Re_readClause_117 rfl (fun c34 => ?_) (fun c34 => ?_)
            · replace h := (if_pos c34).symm.trans h
              refine R_aload_n X 1 d_Re_readClause_151 rfl ?_
              refine R_iconst (v := (3 : Int32)) X d_Re_readClause_152 rfl ?_
              refine R_aload_n X 1 d_Re_readClause_153 rfl ?_
              refine R_getI (ci := 3) X rfl iRe_ok (of_decide_eq_true rfl) rfl 4 rfl rfl tw_78 d_Re_readClause_154 ?_
              obtain ⟨p36, e35, h⟩ := ob h
              refine R_vcallv (ci := 3) (k := 1) (As := [.int (3 : Int32), .int (p10.2 1 4)]) (st := []) X (M_Re_fail e35) tw_323 cf_Re_fail (of_decide_eq_true rfl) rfl rfl rfl rfl rfl d_Re_readClause_157 ?_
              refine V_pc (pc' := 160) rfl ?_
              exact R_retv hR h d_Re_readClause_160
            · replace h := (if_neg c34).symm.trans h
              refine R_aload_n X 1 d_Re_readClause_120 rfl ?_
              refine R_dup X d_Re_readClause_121 rfl ?_
              refine R_getI (ci := 3) X rfl iRe_ok (of_decide_eq_true rfl) rfl 4 rfl rfl tw_78 d_Re_readClause_122 ?_
              refine R_iconst (v := (1 : Int32)) X d_Re_readClause_125 rfl ?_
              refine R_iadd X d_Re_readClause_126 ?_
              refine V_pc (pc' := 127) rfl ?_
              refine R_putI (ci := 3) X rfl iRe_ok yRe_ok nRe_ok (of_decide_eq_true rfl) rfl 4 rfl rfl rfl rfl tw_78 d_Re_readClause_127 ?_
              refine R_aload_n X 2 d_Re_readClause_130 rfl ?_
              refine R_aload_n X 1 d_Re_readClause_131 rfl ?_
              refine R_aload_n X 2 d_Re_readClause_132 rfl ?_
              obtain ⟨p38, e37, h⟩ := ob h
              refine R_vcall (ci := 0) (k := q1) (As := []) (st := [.ref (gA (zG Z) 1), .ref (gA (zG Z) q1)]) X (M_Br_allParts hq1 e37) tw_343 cf_Br_allParts (B_all _ hq1).1.1 (B_all _ hq1).1.2 rfl rfl rfl rfl d_Re_readClause_133 ?_
              obtain ⟨p40, e39, h⟩ := ob h
              refine R_vcall (ci := 3) (k := 1) (As := [.int p38.1]) (st := [.ref (gA (zG Z) q1)]) X (M_Re_readNumber e39) tw_316 cf_Re_readNumber (of_decide_eq_true rfl) rfl rfl rfl rfl rfl d_Re_readClause_136 ?_
              refine V_pc (pc' := 139) rfl ?_
              obtain ⟨p42, e41, h⟩ := ob h
              refine R_vcallv (ci := 0) (k := q1) (As := [.int p40.1]) (st := []) X (M_Br_addTask hq1 e41) tw_347 cf_Br_addTask (B_all _ hq1).1.1 (B_all _ hq1).1.2 rfl rfl rfl rfl d_Re_readClause_139 ?_
              refine R_aload_n X 1 d_Re_readClause_142 rfl ?_
              refine R_bipush (v := (59 : Int32)) X d_Re_readClause_143 rfl ?_
              obtain ⟨p44, e43, h⟩ := ob h
              refine R_vcallv (ci := 3) (k := 1) (As := [.int (59 : Int32)]) (st := []) X (M_Re_readWord e43) tw_331 cf_Re_readWord (of_decide_eq_true rfl) rfl rfl rfl rfl rfl d_Re_readClause_145 ?_
              refine R_goto (tgt := 160) X d_Re_readClause_148 rfl ?_
              exact R_retv hR h d_Re_readClause_160
        · replace h := (if_pos c15).symm.trans h
          refine R_aload_n X 2 d_Re_readClause_79 rfl ?_
          refine R_getI (ci := 0) X rfl iBr_ok (B_all _ hq1).1.1 (B_all _ hq1).1.2 6 rfl rfl tw_213 d_Re_readClause_80 ?_
          refine R_iconst (v := (5 : Int32)) X d_Re_readClause_83 rfl ?_
          refine R_icmp_ge (tgt := 105) X d_Re_readClause_84 rfl (fun c16 => ?_) (fun c16 => ?_)
          · replace h := (if_pos c16).symm.trans h
            refine R_iload_n X 0 d_Re_readClause_105 rfl ?_
            refine R_bipush (v := (116 : Int32)) X d_Re_readClause_106 rfl ?_
            refine R_icmp_ne (tgt := 151) X d_Re_readClause_108 rfl (fun c17 => ?_) (fun c17 => ?_)
            · replace h := (if_neg c17).symm.trans h
              refine R_aload_n X 1 d_Re_readClause_151 rfl ?_
              refine R_iconst (v := (3 : Int32)) X d_Re_readClause_152 rfl ?_
              refine R_aload_n X 1 d_Re_readClause_153 rfl ?_
              refine R_getI (ci := 3) X rfl iRe_ok (of_decide_eq_true rfl) rfl 4 rfl rfl tw_78 d_Re_readClause_154 ?_
              obtain ⟨p30, e29, h⟩ := ob h
              refine R_vcallv (ci := 3) (k := 1) (As := [.int (3 : Int32), .int (p10.2 1 4)]) (st := []) X (M_Re_fail e29) tw_323 cf_Re_fail (of_decide_eq_true rfl) rfl rfl rfl rfl rfl d_Re_readClause_157 ?_
              refine V_pc (pc' := 160) rfl ?_
              exact R_retv hR h d_Re_readClause_160
            · replace h := (if_pos c17).symm.trans h
              refine R_aload_n X 2 d_Re_readClause_111 rfl ?_
              refine R_getI (ci := 0) X rfl iBr_ok (B_all _ hq1).1.1 (B_all _ hq1).1.2 7 rfl rfl tw_215 d_Re_readClause_112 ?_
              refine R_bipush (v := (6 : Int32)) X d_Re_readClause_115 rfl ?_
              refine R_icmp_ge (tgt := 151) X d_Re_readClause_117 rfl (fun c18 => ?_) (fun c18 => ?_)
              · replace h := (if_pos c18).symm.trans h
                refine R_aload_n X 1 d_Re_readClause_151 rfl ?_
                refine R_iconst (v := (3 : Int32)) X d_Re_readClause_152 rfl ?_
                refine R_aload_n X 1 d_Re_readClause_153 rfl ?_
                refine R_getI (ci := 3) X rfl iRe_ok (of_decide_eq_true rfl) rfl 4 rfl rfl tw_78 d_Re_readClause_154 ?_
                obtain ⟨p20, e19, h⟩ := ob h
                refine R_vcallv (ci := 3) (k := 1) (As := [.int (3 : Int32), .int (p10.2 1 4)]) (st := []) X (M_Re_fail e19) tw_323 cf_Re_fail (of_decide_eq_true rfl) rfl rfl rfl rfl rfl d_Re_readClause_157 ?_
                refine V_pc (pc' := 160) rfl ?_
                exact R_retv hR h d_Re_readClause_160
              · replace h := (if_neg c18).symm.trans h
                refine R_aload_n X 1 d_Re_readClause_120 rfl ?_
                refine R_dup X d_Re_readClause_121 rfl ?_
                refine R_getI (ci := 3) X rfl iRe_ok (of_decide_eq_true rfl) rfl 4 rfl rfl tw_78 d_Re_readClause_122 ?_
                refine R_iconst (v := (1 : Int32)) X d_Re_readClause_125 rfl ?_
                refine R_iadd X d_Re_readClause_126 ?_
                refine V_pc (pc' := 127) rfl ?_
                refine R_putI (ci := 3) X rfl iRe_ok yRe_ok nRe_ok (of_decide_eq_true rfl) rfl 4 rfl rfl rfl rfl tw_78 d_Re_readClause_127 ?_
                refine R_aload_n X 2 d_Re_readClause_130 rfl ?_
                refine R_aload_n X 1 d_Re_readClause_131 rfl ?_
                refine R_aload_n X 2 d_Re_readClause_132 rfl ?_
                obtain ⟨p22, e21, h⟩ := ob h
                refine R_vcall (ci := 0) (k := q1) (As := []) (st := [.ref (gA (zG Z) 1), .ref (gA (zG Z) q1)]) X (M_Br_allParts hq1 e21) tw_343 cf_Br_allParts (B_all _ hq1).1.1 (B_all _ hq1).1.2 rfl rfl rfl rfl d_Re_readClause_133 ?_
                obtain ⟨p24, e23, h⟩ := ob h
                refine R_vcall (ci := 3) (k := 1) (As := [.int p22.1]) (st := [.ref (gA (zG Z) q1)]) X (M_Re_readNumber e23) tw_316 cf_Re_readNumber (of_decide_eq_true rfl) rfl rfl rfl rfl rfl d_Re_readClause_136 ?_
                refine V_pc (pc' := 139) rfl ?_
                obtain ⟨p26, e25, h⟩ := ob h
                refine R_vcallv (ci := 0) (k := q1) (As := [.int p24.1]) (st := []) X (M_Br_addTask hq1 e25) tw_347 cf_Br_addTask (B_all _ hq1).1.1 (B_all _ hq1).1.2 rfl rfl rfl rfl d_Re_readClause_139 ?_
                refine R_aload_n X 1 d_Re_readClause_142 rfl ?_
                refine R_bipush (v := (59 : Int32)) X d_Re_readClause_143 rfl ?_
                obtain ⟨p28, e27, h⟩ := ob h
                refine R_vcallv (ci := 3) (k := 1) (As := [.int (59 : Int32)]) (st := []) X (M_Re_readWord e27) tw_331 cf_Re_readWord (of_decide_eq_true rfl) rfl rfl rfl rfl rfl d_Re_readClause_145 ?_
                refine R_goto (tgt := 160) X d_Re_readClause_148 rfl ?_
                exact R_retv hR h d_Re_readClause_160
          · replace h := (if_neg c16).symm.trans h
            refine R_aload_n X 1 d_Re_readClause_87 rfl ?_
            refine R_dup X d_Re_readClause_88 rfl ?_
            refine R_getI (ci := 3) X rfl iRe_ok (of_decide_eq_true rfl) rfl 4 rfl rfl tw_78 d_Re_readClause_89 ?_
            refine R_iconst (v := (1 : Int32)) X d_Re_readClause_92 rfl ?_
            refine R_iadd X d_Re_readClause_93 ?_
            refine V_pc (pc' := 94) rfl ?_
            refine R_putI (ci := 3) X rfl iRe_ok yRe_ok nRe_ok (of_decide_eq_true rfl) rfl 4 rfl rfl rfl rfl tw_78 d_Re_readClause_94 ?_
            refine R_aload_n X 1 d_Re_readClause_97 rfl ?_
            refine R_aload_n X 2 d_Re_readClause_98 rfl ?_
            obtain ⟨p32, e31, h⟩ := ob h
            refine R_vcallv (ci := 3) (k := 1) (As := [.ref (gA (zG Z) q1)]) (st := []) X (M_Re_readCustomer hq1 e31) tw_335 cf_Re_readCustomer (of_decide_eq_true rfl) rfl rfl rfl rfl rfl d_Re_readClause_99 ?_
            refine R_goto (tgt := 160) X d_Re_readClause_102 rfl ?_
            exact R_retv hR h d_Re_readClause_160
    · replace h := (if_pos c6).symm.trans h
      refine R_aload_n X 1 d_Re_readClause_18 rfl ?_
      refine R_dup X d_Re_readClause_19 rfl ?_
      refine R_getI (ci := 3) X rfl iRe_ok (of_decide_eq_true rfl) rfl 4 rfl rfl tw_78 d_Re_readClause_20 ?_
      refine R_iconst (v := (1 : Int32)) X d_Re_readClause_23 rfl ?_
      refine R_iadd X d_Re_readClause_24 ?_
      refine V_pc (pc' := 25) rfl ?_
      refine R_putI (ci := 3) X rfl iRe_ok yRe_ok nRe_ok (of_decide_eq_true rfl) rfl 4 rfl rfl rfl rfl tw_78 d_Re_readClause_25 ?_
      refine R_aload_n X 1 d_Re_readClause_28 rfl ?_
      refine R_aload_n X 2 d_Re_readClause_29 rfl ?_
      obtain ⟨p8, e7, h⟩ := ob h
      refine R_vcallv (ci := 3) (k := 1) (As := [.ref (gA (zG Z) q1)]) (st := []) X (M_Re_readParts hq1 e7) tw_312 cf_Re_readParts (of_decide_eq_true rfl) rfl rfl rfl rfl rfl d_Re_readClause_30 ?_
      refine R_goto (tgt := 160) X d_Re_readClause_33 rfl ?_
      exact R_retv hR h d_Re_readClause_160
theorem M_Re_readClause {G : GT} {hp : HP} {q1 : Nat} (hq1 : isB q1 = true) {p : Int32 × HP} (h : f_Re_readClause hp q1 = some p) : MV G y_Re_readClause Y_Re_readClause [.ref (gA G 1), .ref (gA G q1)] hp p.2 := MV_of rfl (fun Z hz X hR => by subst hz; exact T_Re_readClause X hq1 h hR)
theorem d_Re_readInto_0 : decode prog_5_method_3_code 0 = .ok (.aload_n 1, 1) := by decide +kernel
theorem d_Re_readInto_1 : decode prog_5_method_3_code 1 = .ok (.invokevirtual 22, 3) := by decide +kernel
theorem d_Re_readInto_4 : decode prog_5_method_3_code 4 = .ok (.aload_n 0, 1) := by decide +kernel
theorem d_Re_readInto_5 : decode prog_5_method_3_code 5 = .ok (.iconst 0, 1) := by decide +kernel
theorem d_Re_readInto_6 : decode prog_5_method_3_code 6 = .ok (.putfield 27, 3) := by decide +kernel
theorem d_Re_readInto_9 : decode prog_5_method_3_code 9 = .ok (.aload_n 0, 1) := by decide +kernel
theorem d_Re_readInto_10 : decode prog_5_method_3_code 10 = .ok (.iconst 0, 1) := by decide +kernel
theorem d_Re_readInto_11 : decode prog_5_method_3_code 11 = .ok (.putfield 30, 3) := by decide +kernel
theorem d_Re_readInto_14 : decode prog_5_method_3_code 14 = .ok (.aload_n 0, 1) := by decide +kernel
theorem d_Re_readInto_15 : decode prog_5_method_3_code 15 = .ok (.iconst (-1), 1) := by decide +kernel
theorem d_Re_readInto_16 : decode prog_5_method_3_code 16 = .ok (.putfield 15, 3) := by decide +kernel
theorem d_Re_readInto_19 : decode prog_5_method_3_code 19 = .ok (.aload_n 0, 1) := by decide +kernel
theorem d_Re_readInto_20 : decode prog_5_method_3_code 20 = .ok (.invokevirtual 33, 3) := by decide +kernel
theorem d_Re_readInto_23 : decode prog_5_method_3_code 23 = .ok (.iconst 0, 1) := by decide +kernel
theorem d_Re_readInto_24 : decode prog_5_method_3_code 24 = .ok (.istore_n 2, 1) := by decide +kernel
theorem d_Re_readInto_25 : decode prog_5_method_3_code 25 = .ok (.iload_n 2, 1) := by decide +kernel
theorem d_Re_readInto_26 : decode prog_5_method_3_code 26 = .ok (.sipush (240), 3) := by decide +kernel
theorem d_Re_readInto_29 : decode prog_5_method_3_code 29 = .ok (.if_icmp .ge (36), 3) := by decide +kernel
theorem d_Re_readInto_32 : decode prog_5_method_3_code 32 = .ok (.aload_n 0, 1) := by decide +kernel
theorem d_Re_readInto_33 : decode prog_5_method_3_code 33 = .ok (.getfield 27, 3) := by decide +kernel
theorem d_Re_readInto_36 : decode prog_5_method_3_code 36 = .ok (.aload_n 0, 1) := by decide +kernel
theorem d_Re_readInto_37 : decode prog_5_method_3_code 37 = .ok (.getfield 19, 3) := by decide +kernel
theorem d_Re_readInto_40 : decode prog_5_method_3_code 40 = .ok (.if_icmp .ge (25), 3) := by decide +kernel
theorem d_Re_readInto_43 : decode prog_5_method_3_code 43 = .ok (.aload_n 0, 1) := by decide +kernel
theorem d_Re_readInto_44 : decode prog_5_method_3_code 44 = .ok (.getfield 30, 3) := by decide +kernel
theorem d_Re_readInto_47 : decode prog_5_method_3_code 47 = .ok (.ifCond .ne (18), 3) := by decide +kernel
theorem d_Re_readInto_50 : decode prog_5_method_3_code 50 = .ok (.aload_n 0, 1) := by decide +kernel
theorem d_Re_readInto_51 : decode prog_5_method_3_code 51 = .ok (.aload_n 1, 1) := by decide +kernel
theorem d_Re_readInto_52 : decode prog_5_method_3_code 52 = .ok (.invokevirtual 36, 3) := by decide +kernel
theorem d_Re_readInto_55 : decode prog_5_method_3_code 55 = .ok (.aload_n 0, 1) := by decide +kernel
theorem d_Re_readInto_56 : decode prog_5_method_3_code 56 = .ok (.invokevirtual 33, 3) := by decide +kernel
theorem d_Re_readInto_59 : decode prog_5_method_3_code 59 = .ok (.iinc 2 (1), 3) := by decide +kernel
theorem d_Re_readInto_62 : decode prog_5_method_3_code 62 = .ok (.goto (-37), 3) := by decide +kernel
theorem d_Re_readInto_65 : decode prog_5_method_3_code 65 = .ok (.aload_n 0, 1) := by decide +kernel
theorem d_Re_readInto_66 : decode prog_5_method_3_code 66 = .ok (.getfield 30, 3) := by decide +kernel
theorem d_Re_readInto_69 : decode prog_5_method_3_code 69 = .ok (.ireturn, 1) := by decide +kernel
set_option maxRecDepth 20000 in
set_option maxHeartbeats 2000000 in
theorem T_Re_readInto_L25 {Z : ZT} (X : CX Z Y_Re_readInto) {q1 : Nat} (hq1 : isB q1 = true) {p : Int32 × HP} (hR : RetI Z Y_Re_readInto .int p.1 p.2) {K : HP → Option (Int32 × HP)} (hK : ∀ (hp : HP), K hp = some p → V Z Y_Re_readInto hp 65 [(0, .ref (gA (zG Z) 1))] []) : ∀ (n : Nat) (hp : HP) (x2 : Int32), f_Re_readInto_L25 q1 K n hp x2 = some p → V Z Y_Re_readInto hp 25 [(0, .ref (gA (zG Z) 1)), (1, .ref (gA (zG Z) q1)), (2, .int x2)] [] := by
  intro n
  induction n with
  | zero =>
    intro hp x2 h
    cases h
  | succ n ih =>
    intro hp x2 h
    replace h : f_Re_readInto_L25 q1 K (n + 1) hp x2 = some p := h
    unfold f_Re_readInto_L25 at h
    refine R_iload_n X 2 d_Re_readInto_25 rfl ?_
    refine R_sipush (v := (240 : Int32)) X d_Re_readInto_26 rfl ?_
    refine R_icmp_ge (tgt := 65) X d_Re_readInto_29 rfl (fun c5 => ?_) (fun c5 => ?_)
    · replace h := (if_pos c5).symm.trans h
      refine V_pc (pc' := 65) rfl (R_loc (L' := [(0, .ref (gA (zG Z) 1))]) [0] rfl ?_)
      exact hK hp h
    · replace h := (if_neg c5).symm.trans h
      refine R_aload_n X 0 d_Re_readInto_32 rfl ?_
      refine R_getI (ci := 3) X rfl iRe_ok (of_decide_eq_true rfl) rfl 4 rfl rfl tw_78 d_Re_readInto_33 ?_
      refine R_aload_n X 0 d_Re_readInto_36 rfl ?_
      refine R_getI (ci := 3) X rfl iRe_ok (of_decide_eq_true rfl) rfl 1 rfl rfl tw_73 d_Re_readInto_37 ?_
      refine R_icmp_ge (tgt := 65) X d_Re_readInto_40 rfl (fun c6 => ?_) (fun c6 => ?_)
      · replace h := (if_pos c6).symm.trans h
        refine V_pc (pc' := 65) rfl (R_loc (L' := [(0, .ref (gA (zG Z) 1))]) [0] rfl ?_)
        exact hK hp h
      · replace h := (if_neg c6).symm.trans h
        refine R_aload_n X 0 d_Re_readInto_43 rfl ?_
        refine R_getI (ci := 3) X rfl iRe_ok (of_decide_eq_true rfl) rfl 3 rfl rfl tw_77 d_Re_readInto_44 ?_
        refine R_ifne (tgt := 65) X d_Re_readInto_47 rfl (fun c7 => ?_) (fun c7 => ?_)
        · replace h := (if_neg c7).symm.trans h
          refine V_pc (pc' := 65) rfl (R_loc (L' := [(0, .ref (gA (zG Z) 1))]) [0] rfl ?_)
          exact hK hp h
        · replace h := (if_pos c7).symm.trans h
          refine R_aload_n X 0 d_Re_readInto_50 rfl ?_
          refine R_aload_n X 1 d_Re_readInto_51 rfl ?_
          obtain ⟨p9, e8, h⟩ := ob h
          refine R_vcallv (ci := 3) (k := 1) (As := [.ref (gA (zG Z) q1)]) (st := []) X (M_Re_readClause hq1 e8) tw_304 cf_Re_readClause (of_decide_eq_true rfl) rfl rfl rfl rfl rfl d_Re_readInto_52 ?_
          refine R_aload_n X 0 d_Re_readInto_55 rfl ?_
          obtain ⟨p11, e10, h⟩ := ob h
          refine R_vcallv (ci := 3) (k := 1) (As := []) (st := []) X (M_Re_skipBlanks e10) tw_296 cf_Re_skipBlanks (of_decide_eq_true rfl) rfl rfl rfl rfl rfl d_Re_readInto_56 ?_
          refine V_pc (pc' := 59) rfl ?_
          refine R_iinc (v := (x2 + 1)) (L' := [(2, .int (x2 + 1)), (0, .ref (gA (zG Z) 1)), (1, .ref (gA (zG Z) q1))]) X 2 d_Re_readInto_59 rfl rfl (by decide) rfl ?_
          refine R_goto (tgt := 25) X d_Re_readInto_62 rfl ?_
          refine V_pc (pc' := 25) rfl (R_loc (L' := [(0, .ref (gA (zG Z) 1)), (1, .ref (gA (zG Z) q1)), (2, .int (x2 + 1))]) [1, 2, 0] rfl ?_)
          exact ih p11.2 (x2 + 1) h
set_option maxRecDepth 20000 in
set_option maxHeartbeats 2000000 in
theorem T_Re_readInto {Z : ZT} (X : CX Z Y_Re_readInto) {hp : HP} {q1 : Nat} (hq1 : isB q1 = true) {p : Int32 × HP} (h : f_Re_readInto hp q1 = some p) (hR : RetI Z Y_Re_readInto .int p.1 p.2) : V Z Y_Re_readInto hp 0 [(0, .ref (gA (zG Z) 1)), (1, .ref (gA (zG Z) q1))] [] := by
  unfold f_Re_readInto at h
  refine R_aload_n X 1 d_Re_readInto_0 rfl ?_
  obtain ⟨p2, e1, h⟩ := ob h
  refine R_vcallv (ci := 0) (k := q1) (As := []) (st := []) X (M_Br_clear hq1 e1) tw_292 cf_Br_clear (B_all _ hq1).1.1 (B_all _ hq1).1.2 rfl rfl rfl rfl d_Re_readInto_1 ?_
  refine R_aload_n X 0 d_Re_readInto_4 rfl ?_
  refine R_iconst (v := (0 : Int32)) X d_Re_readInto_5 rfl ?_
  refine R_putI (ci := 3) X rfl iRe_ok yRe_ok nRe_ok (of_decide_eq_true rfl) rfl 4 rfl rfl rfl rfl tw_78 d_Re_readInto_6 ?_
  refine V_pc (pc' := 9) rfl ?_
  refine R_aload_n X 0 d_Re_readInto_9 rfl ?_
  refine R_iconst (v := (0 : Int32)) X d_Re_readInto_10 rfl ?_
  refine R_putI (ci := 3) X rfl iRe_ok yRe_ok nRe_ok (of_decide_eq_true rfl) rfl 3 rfl rfl rfl rfl tw_77 d_Re_readInto_11 ?_
  refine R_aload_n X 0 d_Re_readInto_14 rfl ?_
  refine R_iconst (v := (-1 : Int32)) X d_Re_readInto_15 rfl ?_
  refine R_putI (ci := 3) X rfl iRe_ok yRe_ok nRe_ok (of_decide_eq_true rfl) rfl 2 rfl rfl rfl rfl tw_75 d_Re_readInto_16 ?_
  refine V_pc (pc' := 19) rfl ?_
  refine R_aload_n X 0 d_Re_readInto_19 rfl ?_
  obtain ⟨p4, e3, h⟩ := ob h
  refine R_vcallv (ci := 3) (k := 1) (As := []) (st := []) X (M_Re_skipBlanks e3) tw_296 cf_Re_skipBlanks (of_decide_eq_true rfl) rfl rfl rfl rfl rfl d_Re_readInto_20 ?_
  refine R_iconst (v := (0 : Int32)) X d_Re_readInto_23 rfl ?_
  refine R_istore_n (L' := [(2, .int (0 : Int32)), (0, .ref (gA (zG Z) 1)), (1, .ref (gA (zG Z) q1))]) X d_Re_readInto_24 (by decide) rfl ?_
  refine V_pc (pc' := 25) rfl (R_loc (L' := [(0, .ref (gA (zG Z) 1)), (1, .ref (gA (zG Z) q1)), (2, .int (0 : Int32))]) [1, 2, 0] rfl ?_)
  refine T_Re_readInto_L25 X hq1 hR (fun hp12 h => ?_) _ p4.2 (0 : Int32) h
  refine R_aload_n X 0 d_Re_readInto_65 rfl ?_
  refine R_getI (ci := 3) X rfl iRe_ok (of_decide_eq_true rfl) rfl 3 rfl rfl tw_77 d_Re_readInto_66 ?_
  exact R_ret hR h d_Re_readInto_69
theorem M_Re_readInto {G : GT} {hp : HP} {q1 : Nat} (hq1 : isB q1 = true) {p : Int32 × HP} (h : f_Re_readInto hp q1 = some p) : MI G y_Re_readInto Y_Re_readInto .int [.ref (gA G 1), .ref (gA G q1)] hp p.1 p.2 := MI_of rfl (fun Z hz X hR => by subst hz; exact T_Re_readInto X hq1 h hR)
theorem d_St_begin_0 : decode prog_7_method_2_code 0 = .ok (.iconst 0, 1) := by decide +kernel
theorem d_St_begin_1 : decode prog_7_method_2_code 1 = .ok (.istore_n 2, 1) := by decide +kernel
theorem d_St_begin_2 : decode prog_7_method_2_code 2 = .ok (.iload_n 2, 1) := by decide +kernel
theorem d_St_begin_3 : decode prog_7_method_2_code 3 = .ok (.iconst 5, 1) := by decide +kernel
theorem d_St_begin_4 : decode prog_7_method_2_code 4 = .ok (.if_icmp .ge (33), 3) := by decide +kernel
theorem d_St_begin_7 : decode prog_7_method_2_code 7 = .ok (.aload_n 0, 1) := by decide +kernel
theorem d_St_begin_8 : decode prog_7_method_2_code 8 = .ok (.getfield 9, 3) := by decide +kernel
theorem d_St_begin_11 : decode prog_7_method_2_code 11 = .ok (.iload_n 2, 1) := by decide +kernel
theorem d_St_begin_12 : decode prog_7_method_2_code 12 = .ok (.iload_n 2, 1) := by decide +kernel
theorem d_St_begin_13 : decode prog_7_method_2_code 13 = .ok (.aload_n 1, 1) := by decide +kernel
theorem d_St_begin_14 : decode prog_7_method_2_code 14 = .ok (.getfield 18, 3) := by decide +kernel
theorem d_St_begin_17 : decode prog_7_method_2_code 17 = .ok (.if_icmp .ge (12), 3) := by decide +kernel
theorem d_St_begin_20 : decode prog_7_method_2_code 20 = .ok (.aload_n 1, 1) := by decide +kernel
theorem d_St_begin_21 : decode prog_7_method_2_code 21 = .ok (.getfield 24, 3) := by decide +kernel
theorem d_St_begin_24 : decode prog_7_method_2_code 24 = .ok (.iload_n 2, 1) := by decide +kernel
theorem d_St_begin_25 : decode prog_7_method_2_code 25 = .ok (.iaload, 1) := by decide +kernel
theorem d_St_begin_26 : decode prog_7_method_2_code 26 = .ok (.goto (4), 3) := by decide +kernel
theorem d_St_begin_29 : decode prog_7_method_2_code 29 = .ok (.iconst 0, 1) := by decide +kernel
theorem d_St_begin_30 : decode prog_7_method_2_code 30 = .ok (.iastore, 1) := by decide +kernel
theorem d_St_begin_31 : decode prog_7_method_2_code 31 = .ok (.iinc 2 (1), 3) := by decide +kernel
theorem d_St_begin_34 : decode prog_7_method_2_code 34 = .ok (.goto (-32), 3) := by decide +kernel
theorem d_St_begin_37 : decode prog_7_method_2_code 37 = .ok (.iconst 0, 1) := by decide +kernel
theorem d_St_begin_38 : decode prog_7_method_2_code 38 = .ok (.istore_n 2, 1) := by decide +kernel
theorem d_St_begin_39 : decode prog_7_method_2_code 39 = .ok (.iload_n 2, 1) := by decide +kernel
theorem d_St_begin_40 : decode prog_7_method_2_code 40 = .ok (.aload_n 0, 1) := by decide +kernel
theorem d_St_begin_41 : decode prog_7_method_2_code 41 = .ok (.getfield 15, 3) := by decide +kernel
theorem d_St_begin_44 : decode prog_7_method_2_code 44 = .ok (.arraylength, 1) := by decide +kernel
theorem d_St_begin_45 : decode prog_7_method_2_code 45 = .ok (.if_icmp .ge (16), 3) := by decide +kernel
theorem d_St_begin_48 : decode prog_7_method_2_code 48 = .ok (.aload_n 0, 1) := by decide +kernel
theorem d_St_begin_49 : decode prog_7_method_2_code 49 = .ok (.getfield 15, 3) := by decide +kernel
theorem d_St_begin_52 : decode prog_7_method_2_code 52 = .ok (.iload_n 2, 1) := by decide +kernel
theorem d_St_begin_53 : decode prog_7_method_2_code 53 = .ok (.iconst 0, 1) := by decide +kernel
theorem d_St_begin_54 : decode prog_7_method_2_code 54 = .ok (.iastore, 1) := by decide +kernel
theorem d_St_begin_55 : decode prog_7_method_2_code 55 = .ok (.iinc 2 (1), 3) := by decide +kernel
theorem d_St_begin_58 : decode prog_7_method_2_code 58 = .ok (.goto (-19), 3) := by decide +kernel
theorem d_St_begin_61 : decode prog_7_method_2_code 61 = .ok (.aload_n 0, 1) := by decide +kernel
theorem d_St_begin_62 : decode prog_7_method_2_code 62 = .ok (.iconst 0, 1) := by decide +kernel
theorem d_St_begin_63 : decode prog_7_method_2_code 63 = .ok (.putfield 27, 3) := by decide +kernel
theorem d_St_begin_66 : decode prog_7_method_2_code 66 = .ok (.return_, 1) := by decide +kernel
set_option maxRecDepth 20000 in
set_option maxHeartbeats 2000000 in
theorem T_St_begin_L2 {Z : ZT} (X : CX Z Y_St_begin) {q0 : Nat} {q1 : Nat} (hq0 : isS q0 = true) (hq1 : isB q1 = true) {p : Int32 × HP} (hR : RetV Z Y_St_begin p.2) {K : HP → Option (Int32 × HP)} (hK : ∀ (hp : HP), K hp = some p → V Z Y_St_begin hp 37 [(0, .ref (gA (zG Z) q0))] []) : ∀ (n : Nat) (hp : HP) (x2 : Int32), f_St_begin_L2 q0 q1 K n hp x2 = some p → V Z Y_St_begin hp 2 [(0, .ref (gA (zG Z) q0)), (1, .ref (gA (zG Z) q1)), (2, .int x2)] [] := by
  intro n
  induction n with
  | zero =>
    intro hp x2 h
    cases h
  | succ n ih =>
    intro hp x2 h
    replace h : f_St_begin_L2 q0 q1 K (n + 1) hp x2 = some p := h
    unfold f_St_begin_L2 at h
    refine R_iload_n X 2 d_St_begin_2 rfl ?_
    refine R_iconst (v := (5 : Int32)) X d_St_begin_3 rfl ?_
    refine R_icmp_ge (tgt := 37) X d_St_begin_4 rfl (fun c1 => ?_) (fun c1 => ?_)
    · replace h := (if_pos c1).symm.trans h
      refine V_pc (pc' := 37) rfl (R_loc (L' := [(0, .ref (gA (zG Z) q0))]) [0] rfl ?_)
      exact hK hp h
    · replace h := (if_neg c1).symm.trans h
      refine R_aload_n X 0 d_St_begin_7 rfl ?_
      refine R_getR (ci := 5) X rfl iSt_ok (S_all _ hq0).1.1 (S_all _ hq0).1.2 0 rfl rfl tw_97 d_St_begin_8 ?_
      refine R_iload_n X 2 d_St_begin_11 rfl ?_
      refine R_iload_n X 2 d_St_begin_12 rfl ?_
      refine R_aload_n X 1 d_St_begin_13 rfl ?_
      refine V_pc (pc' := 14) rfl ?_
      refine R_getI (ci := 0) X rfl iBr_ok (B_all _ hq1).1.1 (B_all _ hq1).1.2 6 rfl rfl tw_211 d_St_begin_14 ?_
      refine R_icmp_ge (tgt := 29) X d_St_begin_17 rfl (fun c2 => ?_) (fun c2 => ?_)
      · replace h := (if_pos c2).symm.trans h
        refine R_iconst (v := (0 : Int32)) X d_St_begin_29 rfl ?_
        obtain ⟨i3, h⟩ := ck h
        refine R_iast (n := 5) X (S_all _ hq0).2.1.1 (S_all _ hq0).2.1.2 i3 d_St_begin_30 ?_
        refine R_iinc (v := (x2 + 1)) (L' := [(2, .int (x2 + 1)), (0, .ref (gA (zG Z) q0)), (1, .ref (gA (zG Z) q1))]) X 2 d_St_begin_31 rfl rfl (by decide) rfl ?_
        refine R_goto (tgt := 2) X d_St_begin_34 rfl ?_
        refine V_pc (pc' := 2) rfl (R_loc (L' := [(0, .ref (gA (zG Z) q0)), (1, .ref (gA (zG Z) q1)), (2, .int (x2 + 1))]) [1, 2, 0] rfl ?_)
        exact ih (up hp (q0 + 1) (x2).toNatClampNeg (0 : Int32)) (x2 + 1) h
      · replace h := (if_neg c2).symm.trans h
        refine R_aload_n X 1 d_St_begin_20 rfl ?_
        refine R_getR (ci := 0) X rfl iBr_ok (B_all _ hq1).1.1 (B_all _ hq1).1.2 1 rfl rfl tw_202 d_St_begin_21 ?_
        refine R_iload_n X 2 d_St_begin_24 rfl ?_
        obtain ⟨i4, h⟩ := ck h
        refine R_iald (n := 5) X (B_all _ hq1).2.2.1.1 (B_all _ hq1).2.2.1.2 i4 d_St_begin_25 ?_
        refine R_goto (tgt := 30) X d_St_begin_26 rfl ?_
        refine V_pc (pc' := 30) rfl ?_
        refine R_iast (n := 5) X (S_all _ hq0).2.1.1 (S_all _ hq0).2.1.2 i4 d_St_begin_30 ?_
        refine R_iinc (v := (x2 + 1)) (L' := [(2, .int (x2 + 1)), (0, .ref (gA (zG Z) q0)), (1, .ref (gA (zG Z) q1))]) X 2 d_St_begin_31 rfl rfl (by decide) rfl ?_
        refine R_goto (tgt := 2) X d_St_begin_34 rfl ?_
        refine V_pc (pc' := 2) rfl (R_loc (L' := [(0, .ref (gA (zG Z) q0)), (1, .ref (gA (zG Z) q1)), (2, .int (x2 + 1))]) [1, 2, 0] rfl ?_)
        exact ih (up hp (q0 + 1) (x2).toNatClampNeg (hp (q1 + 2) (x2).toNatClampNeg)) (x2 + 1) h
set_option maxRecDepth 20000 in
set_option maxHeartbeats 2000000 in
theorem T_St_begin_L39 {Z : ZT} (X : CX Z Y_St_begin) {q0 : Nat} (hq0 : isS q0 = true) {p : Int32 × HP} (hR : RetV Z Y_St_begin p.2) {K : HP → Option (Int32 × HP)} (hK : ∀ (hp : HP), K hp = some p → V Z Y_St_begin hp 61 [(0, .ref (gA (zG Z) q0))] []) : ∀ (n : Nat) (hp : HP) (x2 : Int32), f_St_begin_L39 q0 K n hp x2 = some p → V Z Y_St_begin hp 39 [(0, .ref (gA (zG Z) q0)), (2, .int x2)] [] := by
  intro n
  induction n with
  | zero =>
    intro hp x2 h
    cases h
  | succ n ih =>
    intro hp x2 h
    replace h : f_St_begin_L39 q0 K (n + 1) hp x2 = some p := h
    unfold f_St_begin_L39 at h
    refine R_iload_n X 1 d_St_begin_39 rfl ?_
    refine R_aload_n X 0 d_St_begin_40 rfl ?_
    refine R_getR (ci := 5) X rfl iSt_ok (S_all _ hq0).1.1 (S_all _ hq0).1.2 1 rfl rfl tw_99 d_St_begin_41 ?_
    refine R_alen (n := 25) X (S_all _ hq0).2.2.1 (S_all _ hq0).2.2.2 d_St_begin_44 ?_
    refine R_icmp_ge (tgt := 61) X d_St_begin_45 rfl (fun c6 => ?_) (fun c6 => ?_)
    · replace h := (if_pos c6).symm.trans h
      refine V_pc (pc' := 61) rfl (R_loc (L' := [(0, .ref (gA (zG Z) q0))]) [0] rfl ?_)
      exact hK hp h
    · replace h := (if_neg c6).symm.trans h
      refine R_aload_n X 0 d_St_begin_48 rfl ?_
      refine R_getR (ci := 5) X rfl iSt_ok (S_all _ hq0).1.1 (S_all _ hq0).1.2 1 rfl rfl tw_99 d_St_begin_49 ?_
      refine R_iload_n X 1 d_St_begin_52 rfl ?_
      refine R_iconst (v := (0 : Int32)) X d_St_begin_53 rfl ?_
      obtain ⟨i7, h⟩ := ck h
      refine R_iast (n := 25) X (S_all _ hq0).2.2.1 (S_all _ hq0).2.2.2 i7 d_St_begin_54 ?_
      refine V_pc (pc' := 55) rfl ?_
      refine R_iinc (v := (x2 + 1)) (L' := [(2, .int (x2 + 1)), (0, .ref (gA (zG Z) q0))]) X 1 d_St_begin_55 rfl rfl (by decide) rfl ?_
      refine R_goto (tgt := 39) X d_St_begin_58 rfl ?_
      refine V_pc (pc' := 39) rfl (R_loc (L' := [(0, .ref (gA (zG Z) q0)), (2, .int (x2 + 1))]) [1, 0] rfl ?_)
      exact ih (up hp (q0 + 2) (x2).toNatClampNeg (0 : Int32)) (x2 + 1) h
set_option maxRecDepth 20000 in
set_option maxHeartbeats 2000000 in
theorem T_St_begin {Z : ZT} (X : CX Z Y_St_begin) {hp : HP} {q0 : Nat} {q1 : Nat} (hq0 : isS q0 = true) (hq1 : isB q1 = true) {p : Int32 × HP} (h : f_St_begin hp q0 q1 = some p) (hR : RetV Z Y_St_begin p.2) : V Z Y_St_begin hp 0 [(0, .ref (gA (zG Z) q0)), (1, .ref (gA (zG Z) q1))] [] := by
  unfold f_St_begin at h
  refine R_iconst (v := (0 : Int32)) X d_St_begin_0 rfl ?_
  refine R_istore_n (L' := [(2, .int (0 : Int32)), (0, .ref (gA (zG Z) q0)), (1, .ref (gA (zG Z) q1))]) X d_St_begin_1 (by decide) rfl ?_
  refine V_pc (pc' := 2) rfl (R_loc (L' := [(0, .ref (gA (zG Z) q0)), (1, .ref (gA (zG Z) q1)), (2, .int (0 : Int32))]) [1, 2, 0] rfl ?_)
  refine T_St_begin_L2 X hq0 hq1 hR (fun hp5 h => ?_) _ hp (0 : Int32) h
  refine R_iconst (v := (0 : Int32)) X d_St_begin_37 rfl ?_
  refine R_istore_n (L' := [(2, .int (0 : Int32)), (0, .ref (gA (zG Z) q0))]) X d_St_begin_38 (by decide) rfl ?_
  refine V_pc (pc' := 39) rfl (R_loc (L' := [(0, .ref (gA (zG Z) q0)), (2, .int (0 : Int32))]) [1, 0] rfl ?_)
  refine T_St_begin_L39 X hq0 hR (fun hp8 h => ?_) _ hp5 (0 : Int32) h
  refine R_aload_n X 0 d_St_begin_61 rfl ?_
  refine R_iconst (v := (0 : Int32)) X d_St_begin_62 rfl ?_
  refine R_putI (ci := 5) X rfl iSt_ok ySt_ok nSt_ok (S_all _ hq0).1.1 (S_all _ hq0).1.2 2 rfl rfl rfl rfl tw_100 d_St_begin_63 ?_
  exact R_retv hR h d_St_begin_66
theorem M_St_begin {G : GT} {hp : HP} {q0 : Nat} {q1 : Nat} (hq0 : isS q0 = true) (hq1 : isB q1 = true) {p : Int32 × HP} (h : f_St_begin hp q0 q1 = some p) : MV G y_St_begin Y_St_begin [.ref (gA G q0), .ref (gA G q1)] hp p.2 := MV_of rfl (fun Z hz X hR => by subst hz; exact T_St_begin X hq0 hq1 h hR)
theorem d_Pa_clear_0 : decode prog_3_method_2_code 0 = .ok (.aload_n 0, 1) := by decide +kernel
theorem d_Pa_clear_1 : decode prog_3_method_2_code 1 = .ok (.iconst 0, 1) := by decide +kernel
theorem d_Pa_clear_2 : decode prog_3_method_2_code 2 = .ok (.putfield 18, 3) := by decide +kernel
theorem d_Pa_clear_5 : decode prog_3_method_2_code 5 = .ok (.return_, 1) := by decide +kernel
set_option maxRecDepth 20000 in
set_option maxHeartbeats 2000000 in
theorem T_Pa_clear {Z : ZT} (X : CX Z Y_Pa_clear) {hp : HP} {p : Int32 × HP} (h : f_Pa_clear hp = some p) (hR : RetV Z Y_Pa_clear p.2) : V Z Y_Pa_clear hp 0 [(0, .ref (gA (zG Z) 6))] [] := by
  unfold f_Pa_clear at h
  refine R_aload_n X 0 d_Pa_clear_0 rfl ?_
  refine R_iconst (v := (0 : Int32)) X d_Pa_clear_1 rfl ?_
  refine R_putI (ci := 1) X rfl iPa_ok yPa_ok nPa_ok (of_decide_eq_true rfl) rfl 2 rfl rfl rfl rfl tw_120 d_Pa_clear_2 ?_
  exact R_retv hR h d_Pa_clear_5
theorem M_Pa_clear {G : GT} {hp : HP} {p : Int32 × HP} (h : f_Pa_clear hp = some p) : MV G y_Pa_clear Y_Pa_clear [.ref (gA G 6)] hp p.2 := MV_of rfl (fun Z hz X hR => by subst hz; exact T_Pa_clear X h hR)
theorem d_Sl_clear_0 : decode prog_6_method_2_code 0 = .ok (.aload_n 0, 1) := by decide +kernel
theorem d_Sl_clear_1 : decode prog_6_method_2_code 1 = .ok (.iconst 0, 1) := by decide +kernel
theorem d_Sl_clear_2 : decode prog_6_method_2_code 2 = .ok (.putfield 34, 3) := by decide +kernel
theorem d_Sl_clear_5 : decode prog_6_method_2_code 5 = .ok (.aload_n 0, 1) := by decide +kernel
theorem d_Sl_clear_6 : decode prog_6_method_2_code 6 = .ok (.iconst 0, 1) := by decide +kernel
theorem d_Sl_clear_7 : decode prog_6_method_2_code 7 = .ok (.putfield 38, 3) := by decide +kernel
theorem d_Sl_clear_10 : decode prog_6_method_2_code 10 = .ok (.aload_n 0, 1) := by decide +kernel
theorem d_Sl_clear_11 : decode prog_6_method_2_code 11 = .ok (.iconst 0, 1) := by decide +kernel
theorem d_Sl_clear_12 : decode prog_6_method_2_code 12 = .ok (.putfield 41, 3) := by decide +kernel
theorem d_Sl_clear_15 : decode prog_6_method_2_code 15 = .ok (.aload_n 0, 1) := by decide +kernel
theorem d_Sl_clear_16 : decode prog_6_method_2_code 16 = .ok (.iconst 0, 1) := by decide +kernel
theorem d_Sl_clear_17 : decode prog_6_method_2_code 17 = .ok (.putfield 44, 3) := by decide +kernel
theorem d_Sl_clear_20 : decode prog_6_method_2_code 20 = .ok (.return_, 1) := by decide +kernel
set_option maxRecDepth 20000 in
set_option maxHeartbeats 2000000 in
theorem T_Sl_clear {Z : ZT} (X : CX Z Y_Sl_clear) {hp : HP} {p : Int32 × HP} (h : f_Sl_clear hp = some p) (hR : RetV Z Y_Sl_clear p.2) : V Z Y_Sl_clear hp 0 [(0, .ref (gA (zG Z) 68))] [] := by
  unfold f_Sl_clear at h
  refine R_aload_n X 0 d_Sl_clear_0 rfl ?_
  refine R_iconst (v := (0 : Int32)) X d_Sl_clear_1 rfl ?_
  refine R_putI (ci := 4) X rfl iSl_ok ySl_ok nSl_ok (of_decide_eq_true rfl) rfl 7 rfl rfl rfl rfl tw_147 d_Sl_clear_2 ?_
  refine R_aload_n X 0 d_Sl_clear_5 rfl ?_
  refine R_iconst (v := (0 : Int32)) X d_Sl_clear_6 rfl ?_
  refine V_pc (pc' := 7) rfl ?_
  refine R_putI (ci := 4) X rfl iSl_ok ySl_ok nSl_ok (of_decide_eq_true rfl) rfl 8 rfl rfl rfl rfl tw_150 d_Sl_clear_7 ?_
  refine R_aload_n X 0 d_Sl_clear_10 rfl ?_
  refine R_iconst (v := (0 : Int32)) X d_Sl_clear_11 rfl ?_
  refine R_putI (ci := 4) X rfl iSl_ok ySl_ok nSl_ok (of_decide_eq_true rfl) rfl 9 rfl rfl rfl rfl tw_153 d_Sl_clear_12 ?_
  refine R_aload_n X 0 d_Sl_clear_15 rfl ?_
  refine R_iconst (v := (0 : Int32)) X d_Sl_clear_16 rfl ?_
  refine V_pc (pc' := 17) rfl ?_
  refine R_putI (ci := 4) X rfl iSl_ok ySl_ok nSl_ok (of_decide_eq_true rfl) rfl 10 rfl rfl rfl rfl tw_155 d_Sl_clear_17 ?_
  exact R_retv hR h d_Sl_clear_20
theorem M_Sl_clear {G : GT} {hp : HP} {p : Int32 × HP} (h : f_Sl_clear hp = some p) : MV G y_Sl_clear Y_Sl_clear [.ref (gA G 68)] hp p.2 := MV_of rfl (fun Z hz X hR => by subst hz; exact T_Sl_clear X h hR)
theorem d_BA_branch_0 : decode prog_1_method_3_code 0 = .ok (.aload_n 0, 1) := by decide +kernel
theorem d_BA_branch_1 : decode prog_1_method_3_code 1 = .ok (.getfield 10, 3) := by decide +kernel
theorem d_BA_branch_4 : decode prog_1_method_3_code 4 = .ok (.aload_n 0, 1) := by decide +kernel
theorem d_BA_branch_5 : decode prog_1_method_3_code 5 = .ok (.getfield 63, 3) := by decide +kernel
theorem d_BA_branch_8 : decode prog_1_method_3_code 8 = .ok (.invokevirtual 86, 3) := by decide +kernel
theorem d_BA_branch_11 : decode prog_1_method_3_code 11 = .ok (.istore_n 1, 1) := by decide +kernel
theorem d_BA_branch_12 : decode prog_1_method_3_code 12 = .ok (.aload_n 0, 1) := by decide +kernel
theorem d_BA_branch_13 : decode prog_1_method_3_code 13 = .ok (.aload_n 0, 1) := by decide +kernel
theorem d_BA_branch_14 : decode prog_1_method_3_code 14 = .ok (.getfield 10, 3) := by decide +kernel
theorem d_BA_branch_17 : decode prog_1_method_3_code 17 = .ok (.getfield 90, 3) := by decide +kernel
theorem d_BA_branch_20 : decode prog_1_method_3_code 20 = .ok (.putfield 66, 3) := by decide +kernel
theorem d_BA_branch_23 : decode prog_1_method_3_code 23 = .ok (.aload_n 0, 1) := by decide +kernel
theorem d_BA_branch_24 : decode prog_1_method_3_code 24 = .ok (.getfield 10, 3) := by decide +kernel
theorem d_BA_branch_27 : decode prog_1_method_3_code 27 = .ok (.iconst 0, 1) := by decide +kernel
theorem d_BA_branch_28 : decode prog_1_method_3_code 28 = .ok (.putfield 78, 3) := by decide +kernel
theorem d_BA_branch_31 : decode prog_1_method_3_code 31 = .ok (.iload_n 1, 1) := by decide +kernel
theorem d_BA_branch_32 : decode prog_1_method_3_code 32 = .ok (.ifCond .eq (8), 3) := by decide +kernel
theorem d_BA_branch_35 : decode prog_1_method_3_code 35 = .ok (.bipush (-10), 2) := by decide +kernel
theorem d_BA_branch_37 : decode prog_1_method_3_code 37 = .ok (.iload_n 1, 1) := by decide +kernel
theorem d_BA_branch_38 : decode prog_1_method_3_code 38 = .ok (.isub, 1) := by decide +kernel
theorem d_BA_branch_39 : decode prog_1_method_3_code 39 = .ok (.ireturn, 1) := by decide +kernel
theorem d_BA_branch_40 : decode prog_1_method_3_code 40 = .ok (.aload_n 0, 1) := by decide +kernel
theorem d_BA_branch_41 : decode prog_1_method_3_code 41 = .ok (.getfield 59, 3) := by decide +kernel
theorem d_BA_branch_44 : decode prog_1_method_3_code 44 = .ok (.astore_n 2, 1) := by decide +kernel
theorem d_BA_branch_45 : decode prog_1_method_3_code 45 = .ok (.aload_n 0, 1) := by decide +kernel
theorem d_BA_branch_46 : decode prog_1_method_3_code 46 = .ok (.aload_n 0, 1) := by decide +kernel
theorem d_BA_branch_47 : decode prog_1_method_3_code 47 = .ok (.getfield 63, 3) := by decide +kernel
theorem d_BA_branch_50 : decode prog_1_method_3_code 50 = .ok (.putfield 59, 3) := by decide +kernel
theorem d_BA_branch_53 : decode prog_1_method_3_code 53 = .ok (.aload_n 0, 1) := by decide +kernel
theorem d_BA_branch_54 : decode prog_1_method_3_code 54 = .ok (.aload_n 2, 1) := by decide +kernel
theorem d_BA_branch_55 : decode prog_1_method_3_code 55 = .ok (.putfield 63, 3) := by decide +kernel
theorem d_BA_branch_58 : decode prog_1_method_3_code 58 = .ok (.aload_n 0, 1) := by decide +kernel
theorem d_BA_branch_59 : decode prog_1_method_3_code 59 = .ok (.getfield 19, 3) := by decide +kernel
theorem d_BA_branch_62 : decode prog_1_method_3_code 62 = .ok (.aload_n 0, 1) := by decide +kernel
theorem d_BA_branch_63 : decode prog_1_method_3_code 63 = .ok (.getfield 59, 3) := by decide +kernel
theorem d_BA_branch_66 : decode prog_1_method_3_code 66 = .ok (.invokevirtual 91, 3) := by decide +kernel
theorem d_BA_branch_69 : decode prog_1_method_3_code 69 = .ok (.aload_n 0, 1) := by decide +kernel
theorem d_BA_branch_70 : decode prog_1_method_3_code 70 = .ok (.getfield 26, 3) := by decide +kernel
theorem d_BA_branch_73 : decode prog_1_method_3_code 73 = .ok (.invokevirtual 95, 3) := by decide +kernel
theorem d_BA_branch_76 : decode prog_1_method_3_code 76 = .ok (.aload_n 0, 1) := by decide +kernel
theorem d_BA_branch_77 : decode prog_1_method_3_code 77 = .ok (.getfield 33, 3) := by decide +kernel
theorem d_BA_branch_80 : decode prog_1_method_3_code 80 = .ok (.invokevirtual 98, 3) := by decide +kernel
theorem d_BA_branch_83 : decode prog_1_method_3_code 83 = .ok (.iconst 0, 1) := by decide +kernel
theorem d_BA_branch_84 : decode prog_1_method_3_code 84 = .ok (.istore_n 3, 1) := by decide +kernel
theorem d_BA_branch_85 : decode prog_1_method_3_code 85 = .ok (.iload_n 3, 1) := by decide +kernel
theorem d_BA_branch_86 : decode prog_1_method_3_code 86 = .ok (.iconst 2, 1) := by decide +kernel
theorem d_BA_branch_87 : decode prog_1_method_3_code 87 = .ok (.if_icmp .ge (16), 3) := by decide +kernel
theorem d_BA_branch_90 : decode prog_1_method_3_code 90 = .ok (.aload_n 0, 1) := by decide +kernel
theorem d_BA_branch_91 : decode prog_1_method_3_code 91 = .ok (.getfield 52, 3) := by decide +kernel
theorem d_BA_branch_94 : decode prog_1_method_3_code 94 = .ok (.iload_n 3, 1) := by decide +kernel
theorem d_BA_branch_95 : decode prog_1_method_3_code 95 = .ok (.iconst 0, 1) := by decide +kernel
theorem d_BA_branch_96 : decode prog_1_method_3_code 96 = .ok (.bastore, 1) := by decide +kernel
theorem d_BA_branch_97 : decode prog_1_method_3_code 97 = .ok (.iinc 3 (1), 3) := by decide +kernel
theorem d_BA_branch_100 : decode prog_1_method_3_code 100 = .ok (.goto (-15), 3) := by decide +kernel
theorem d_BA_branch_103 : decode prog_1_method_3_code 103 = .ok (.aload_n 0, 1) := by decide +kernel
theorem d_BA_branch_104 : decode prog_1_method_3_code 104 = .ok (.getfield 59, 3) := by decide +kernel
theorem d_BA_branch_107 : decode prog_1_method_3_code 107 = .ok (.getfield 99, 3) := by decide +kernel
theorem d_BA_branch_110 : decode prog_1_method_3_code 110 = .ok (.ireturn, 1) := by decide +kernel
set_option maxRecDepth 20000 in
set_option maxHeartbeats 2000000 in
theorem T_BA_branch_L85 {Z : ZT} (X : CX Z Y_BA_branch) {p : Int32 × HP} (hR : RetI Z Y_BA_branch .int p.1 p.2) {K : HP → Option (Int32 × HP)} (hK : ∀ (hp : HP), K hp = some p → V Z Y_BA_branch hp 103 [(0, .ref (gA (zG Z) 0))] []) : ∀ (n : Nat) (hp : HP) (x3 : Int32), f_BA_branch_L85 K n hp x3 = some p → V Z Y_BA_branch hp 85 [(0, .ref (gA (zG Z) 0)), (3, .int x3)] [] := by
  intro n
  induction n with
  | zero =>
    intro hp x3 h
    cases h
  | succ n ih =>
    intro hp x3 h
    replace h : f_BA_branch_L85 K (n + 1) hp x3 = some p := h
    unfold f_BA_branch_L85 at h
    refine R_iload_n X 1 d_BA_branch_85 rfl ?_
    refine R_iconst (v := (2 : Int32)) X d_BA_branch_86 rfl ?_
    refine R_icmp_ge (tgt := 103) X d_BA_branch_87 rfl (fun c14 => ?_) (fun c14 => ?_)
    · replace h := (if_pos c14).symm.trans h
      refine V_pc (pc' := 103) rfl (R_loc (L' := [(0, .ref (gA (zG Z) 0))]) [0] rfl ?_)
      exact hK hp h
    · replace h := (if_neg c14).symm.trans h
      refine R_aload_n X 0 d_BA_branch_90 rfl ?_
      refine R_getR (ci := 6) X rfl iBA_ok (of_decide_eq_true rfl) rfl 7 rfl rfl tw_241 d_BA_branch_91 ?_
      refine R_iload_n X 1 d_BA_branch_94 rfl ?_
      refine R_iconst (v := (0 : Int32)) X d_BA_branch_95 rfl ?_
      obtain ⟨i15, h⟩ := ck h
      refine R_zast (n := 2) X (of_decide_eq_true rfl) rfl i15 d_BA_branch_96 ?_
      refine V_pc (pc' := 97) rfl ?_
      refine R_iinc (v := (x3 + 1)) (L' := [(3, .int (x3 + 1)), (0, .ref (gA (zG Z) 0))]) X 1 d_BA_branch_97 rfl rfl (by decide) rfl ?_
      refine R_goto (tgt := 85) X d_BA_branch_100 rfl ?_
      refine V_pc (pc' := 85) rfl (R_loc (L' := [(0, .ref (gA (zG Z) 0)), (3, .int (x3 + 1))]) [1, 0] rfl ?_)
      exact ih (up hp 86 (x3).toNatClampNeg (bz (0 : Int32))) (x3 + 1) h
set_option maxRecDepth 20000 in
set_option maxHeartbeats 2000000 in
theorem T_BA_branch {Z : ZT} (X : CX Z Y_BA_branch) {hp : HP} {p : Int32 × HP} (h : f_BA_branch hp = some p) (hR : RetI Z Y_BA_branch .int p.1 p.2) : V Z Y_BA_branch hp 0 [(0, .ref (gA (zG Z) 0))] [] := by
  unfold f_BA_branch at h
  refine R_aload_n X 0 d_BA_branch_0 rfl ?_
  refine R_getR (ci := 6) X rfl iBA_ok (of_decide_eq_true rfl) rfl 0 rfl rfl tw_234 d_BA_branch_1 ?_
  refine R_aload_n X 0 d_BA_branch_4 rfl ?_
  refine R_getD (ci := 6) X rfl iBA_ok (of_decide_eq_true rfl) rfl 9 rfl rfl tw_243 d_BA_branch_5 ?_
  obtain ⟨b1, h⟩ := ck h
  obtain ⟨p3, e2, h⟩ := ob h
  refine R_vcall (ci := 3) (k := 1) (As := [.ref (gA (zG Z) (hp 0 9).toNatClampNeg)]) (st := []) X (M_Re_readInto b1 e2) tw_288 cf_Re_readInto (of_decide_eq_true rfl) rfl rfl rfl rfl rfl d_BA_branch_8 ?_
  refine V_pc (pc' := 11) rfl ?_
  refine R_istore_n (L' := [(1, .int p3.1), (0, .ref (gA (zG Z) 0))]) X d_BA_branch_11 (by decide) rfl ?_
  refine R_aload_n X 1 d_BA_branch_12 rfl ?_
  refine R_aload_n X 1 d_BA_branch_13 rfl ?_
  refine R_getR (ci := 6) X rfl iBA_ok (of_decide_eq_true rfl) rfl 0 rfl rfl tw_234 d_BA_branch_14 ?_
  refine R_getI (ci := 3) X rfl iRe_ok (of_decide_eq_true rfl) rfl 2 rfl rfl tw_76 d_BA_branch_17 ?_
  refine R_putI (ci := 6) X rfl iBA_ok yBA_ok nBA_ok (of_decide_eq_true rfl) rfl 10 rfl rfl rfl rfl tw_244 d_BA_branch_20 ?_
  refine V_pc (pc' := 23) rfl ?_
  refine R_aload_n X 1 d_BA_branch_23 rfl ?_
  refine R_getR (ci := 6) X rfl iBA_ok (of_decide_eq_true rfl) rfl 0 rfl rfl tw_234 d_BA_branch_24 ?_
  refine R_iconst (v := (0 : Int32)) X d_BA_branch_27 rfl ?_
  refine R_putI (ci := 3) X rfl iRe_ok yRe_ok nRe_ok (of_decide_eq_true rfl) rfl 1 rfl rfl rfl rfl tw_74 d_BA_branch_28 ?_
  refine R_iload_n X 0 d_BA_branch_31 rfl ?_
  refine R_ifeq (tgt := 40) X d_BA_branch_32 rfl (fun c4 => ?_) (fun c4 => ?_)
  · replace h := (if_pos c4).symm.trans h
    refine R_aload_n X 1 d_BA_branch_40 rfl ?_
    refine R_getD (ci := 6) X rfl iBA_ok (of_decide_eq_true rfl) rfl 8 rfl rfl tw_242 d_BA_branch_41 ?_
    obtain ⟨b5, h⟩ := ck h
    refine R_astore_n (L' := [(2, .ref (gA (zG Z) ((up (up p3.2 0 10 (p3.2 1 2)) 1 1 (0 : Int32)) 0 8).toNatClampNeg)), (1, .int p3.1), (0, .ref (gA (zG Z) 0))]) X d_BA_branch_44 (by decide) rfl ?_
    refine R_aload_n X 2 d_BA_branch_45 rfl ?_
    refine R_aload_n X 2 d_BA_branch_46 rfl ?_
    refine V_pc (pc' := 47) rfl ?_
    refine R_getD (ci := 6) X rfl iBA_ok (of_decide_eq_true rfl) rfl 9 rfl rfl tw_243 d_BA_branch_47 ?_
    obtain ⟨b6, h⟩ := ck h
    refine R_putD (ci := 6) X rfl iBA_ok yBA_ok nBA_ok (of_decide_eq_true rfl) rfl 8 rfl rfl rfl rfl (B_all _ b6).1.1 tw_242 d_BA_branch_50 ?_
    refine R_aload_n X 2 d_BA_branch_53 rfl ?_
    refine R_aload_n X 0 d_BA_branch_54 rfl ?_
    refine R_putD (ci := 6) X rfl iBA_ok yBA_ok nBA_ok (of_decide_eq_true rfl) rfl 9 rfl rfl rfl rfl (B_all _ b5).1.1 tw_243 d_BA_branch_55 ?_
    refine R_aload_n X 2 d_BA_branch_58 rfl ?_
    refine V_pc (pc' := 59) rfl ?_
    refine R_getR (ci := 6) X rfl iBA_ok (of_decide_eq_true rfl) rfl 1 rfl rfl tw_235 d_BA_branch_59 ?_
    refine R_aload_n X 2 d_BA_branch_62 rfl ?_
    refine R_getD (ci := 6) X rfl iBA_ok (of_decide_eq_true rfl) rfl 8 rfl rfl tw_242 d_BA_branch_63 ?_
    obtain ⟨b7, h⟩ := ck h
    obtain ⟨p9, e8, h⟩ := ob h
    refine R_vcallv (ci := 5) (k := 3) (As := [.ref (gA (zG Z) ((up (up (up (up p3.2 0 10 (p3.2 1 2)) 1 1 (0 : Int32)) 0 8 (nI ((up (up p3.2 0 10 (p3.2 1 2)) 1 1 (0 : Int32)) 0 9).toNatClampNeg)) 0 9 (nI ((up (up p3.2 0 10 (p3.2 1 2)) 1 1 (0 : Int32)) 0 8).toNatClampNeg)) 0 8).toNatClampNeg)]) (st := []) X (M_St_begin rfl b7 e8) tw_351 cf_St_begin (of_decide_eq_true rfl) rfl rfl rfl rfl rfl d_BA_branch_66 ?_
    refine R_aload_n X 2 d_BA_branch_69 rfl ?_
    refine R_getR (ci := 6) X rfl iBA_ok (of_decide_eq_true rfl) rfl 2 rfl rfl tw_236 d_BA_branch_70 ?_
    refine V_pc (pc' := 73) rfl ?_
    obtain ⟨p11, e10, h⟩ := ob h
    refine R_vcallv (ci := 1) (k := 6) (As := []) (st := []) X (M_Pa_clear e10) tw_355 cf_Pa_clear (of_decide_eq_true rfl) rfl rfl rfl rfl rfl d_BA_branch_73 ?_
    refine R_aload_n X 2 d_BA_branch_76 rfl ?_
    refine R_getR (ci := 6) X rfl iBA_ok (of_decide_eq_true rfl) rfl 3 rfl rfl tw_237 d_BA_branch_77 ?_
    obtain ⟨p13, e12, h⟩ := ob h
    refine R_vcallv (ci := 4) (k := 68) (As := []) (st := []) X (M_Sl_clear e12) tw_359 cf_Sl_clear (of_decide_eq_true rfl) rfl rfl rfl rfl rfl d_BA_branch_80 ?_
    refine R_iconst (v := (0 : Int32)) X d_BA_branch_83 rfl ?_
    refine R_istore_n (L' := [(3, .int (0 : Int32)), (2, .ref (gA (zG Z) ((up (up p3.2 0 10 (p3.2 1 2)) 1 1 (0 : Int32)) 0 8).toNatClampNeg)), (1, .int p3.1), (0, .ref (gA (zG Z) 0))]) X d_BA_branch_84 (by decide) rfl ?_
    refine V_pc (pc' := 85) rfl (R_loc (L' := [(0, .ref (gA (zG Z) 0)), (3, .int (0 : Int32))]) [3, 0] rfl ?_)
    refine T_BA_branch_L85 X hR (fun hp16 h => ?_) _ p13.2 (0 : Int32) h
    refine R_aload_n X 0 d_BA_branch_103 rfl ?_
    refine R_getD (ci := 6) X rfl iBA_ok (of_decide_eq_true rfl) rfl 8 rfl rfl tw_242 d_BA_branch_104 ?_
    obtain ⟨b17, h⟩ := ck h
    refine R_getI (ci := 0) X rfl iBr_ok (B_all _ b17).1.1 (B_all _ b17).1.2 6 rfl rfl tw_212 d_BA_branch_107 ?_
    exact R_ret hR h d_BA_branch_110
  · replace h := (if_neg c4).symm.trans h
    refine R_bipush (v := (-10 : Int32)) X d_BA_branch_35 rfl ?_
    refine R_iload_n X 0 d_BA_branch_37 rfl ?_
    refine R_isub X d_BA_branch_38 ?_
    exact R_ret hR h d_BA_branch_39
theorem M_BA_branch {G : GT} {hp : HP} {p : Int32 × HP} (h : f_BA_branch hp = some p) : MI G y_BA_branch Y_BA_branch .int [.ref (gA G 0)] hp p.1 p.2 := MI_of rfl (fun Z hz X hR => by subst hz; exact T_BA_branch X h hR)
theorem d_BA_fault_0 : decode prog_1_method_4_code 0 = .ok (.aload_n 0, 1) := by decide +kernel
theorem d_BA_fault_1 : decode prog_1_method_4_code 1 = .ok (.getfield 66, 3) := by decide +kernel
theorem d_BA_fault_4 : decode prog_1_method_4_code 4 = .ok (.ireturn, 1) := by decide +kernel
set_option maxRecDepth 20000 in
set_option maxHeartbeats 2000000 in
theorem T_BA_fault {Z : ZT} (X : CX Z Y_BA_fault) {hp : HP} {p : Int32 × HP} (h : f_BA_fault hp = some p) (hR : RetI Z Y_BA_fault .int p.1 p.2) : V Z Y_BA_fault hp 0 [(0, .ref (gA (zG Z) 0))] [] := by
  unfold f_BA_fault at h
  refine R_aload_n X 0 d_BA_fault_0 rfl ?_
  refine R_getI (ci := 6) X rfl iBA_ok (of_decide_eq_true rfl) rfl 10 rfl rfl tw_244 d_BA_fault_1 ?_
  exact R_ret hR h d_BA_fault_4
theorem M_BA_fault {G : GT} {hp : HP} {p : Int32 × HP} (h : f_BA_fault hp = some p) : MI G y_BA_fault Y_BA_fault .int [.ref (gA G 0)] hp p.1 p.2 := MI_of rfl (fun Z hz X hR => by subst hz; exact T_BA_fault X h hR)
theorem d_Br_partsAt_0 : decode prog_2_method_11_code 0 = .ok (.iconst 0, 1) := by decide +kernel
theorem d_Br_partsAt_1 : decode prog_2_method_11_code 1 = .ok (.istore_n 2, 1) := by decide +kernel
theorem d_Br_partsAt_2 : decode prog_2_method_11_code 2 = .ok (.iconst 0, 1) := by decide +kernel
theorem d_Br_partsAt_3 : decode prog_2_method_11_code 3 = .ok (.istore_n 3, 1) := by decide +kernel
theorem d_Br_partsAt_4 : decode prog_2_method_11_code 4 = .ok (.iload_n 3, 1) := by decide +kernel
theorem d_Br_partsAt_5 : decode prog_2_method_11_code 5 = .ok (.aload_n 0, 1) := by decide +kernel
theorem d_Br_partsAt_6 : decode prog_2_method_11_code 6 = .ok (.getfield 27, 3) := by decide +kernel
theorem d_Br_partsAt_9 : decode prog_2_method_11_code 9 = .ok (.if_icmp .ge (25), 3) := by decide +kernel
theorem d_Br_partsAt_12 : decode prog_2_method_11_code 12 = .ok (.aload_n 0, 1) := by decide +kernel
theorem d_Br_partsAt_13 : decode prog_2_method_11_code 13 = .ok (.getfield 9, 3) := by decide +kernel
theorem d_Br_partsAt_16 : decode prog_2_method_11_code 16 = .ok (.iload_n 3, 1) := by decide +kernel
theorem d_Br_partsAt_17 : decode prog_2_method_11_code 17 = .ok (.iaload, 1) := by decide +kernel
theorem d_Br_partsAt_18 : decode prog_2_method_11_code 18 = .ok (.iload_n 1, 1) := by decide +kernel
theorem d_Br_partsAt_19 : decode prog_2_method_11_code 19 = .ok (.if_icmp .gt (9), 3) := by decide +kernel
theorem d_Br_partsAt_22 : decode prog_2_method_11_code 22 = .ok (.iload_n 2, 1) := by decide +kernel
theorem d_Br_partsAt_23 : decode prog_2_method_11_code 23 = .ok (.iconst 1, 1) := by decide +kernel
theorem d_Br_partsAt_24 : decode prog_2_method_11_code 24 = .ok (.iload_n 3, 1) := by decide +kernel
theorem d_Br_partsAt_25 : decode prog_2_method_11_code 25 = .ok (.ishl, 1) := by decide +kernel
theorem d_Br_partsAt_26 : decode prog_2_method_11_code 26 = .ok (.ior, 1) := by decide +kernel
theorem d_Br_partsAt_27 : decode prog_2_method_11_code 27 = .ok (.istore_n 2, 1) := by decide +kernel
theorem d_Br_partsAt_28 : decode prog_2_method_11_code 28 = .ok (.iinc 3 (1), 3) := by decide +kernel
theorem d_Br_partsAt_31 : decode prog_2_method_11_code 31 = .ok (.goto (-27), 3) := by decide +kernel
theorem d_Br_partsAt_34 : decode prog_2_method_11_code 34 = .ok (.iload_n 2, 1) := by decide +kernel
theorem d_Br_partsAt_35 : decode prog_2_method_11_code 35 = .ok (.ireturn, 1) := by decide +kernel
set_option maxRecDepth 20000 in
set_option maxHeartbeats 2000000 in
theorem T_Br_partsAt_L4 {Z : ZT} (X : CX Z Y_Br_partsAt) {q0 : Nat} {v1 : Int32} (hq0 : isB q0 = true) {p : Int32 × HP} (hR : RetI Z Y_Br_partsAt .int p.1 p.2) {K : HP → Int32 → Option (Int32 × HP)} (hK : ∀ (hp : HP) (x2 : Int32), K hp x2 = some p → V Z Y_Br_partsAt hp 34 [(2, .int x2)] []) : ∀ (n : Nat) (hp : HP) (x2 : Int32) (x3 : Int32), f_Br_partsAt_L4 q0 v1 K n hp x2 x3 = some p → V Z Y_Br_partsAt hp 4 [(0, .ref (gA (zG Z) q0)), (1, .int v1), (2, .int x2), (3, .int x3)] [] := by
  intro n
  induction n with
  | zero =>
    intro hp x2 x3 h
    cases h
  | succ n ih =>
    intro hp x2 x3 h
    replace h : f_Br_partsAt_L4 q0 v1 K (n + 1) hp x2 x3 = some p := h
    unfold f_Br_partsAt_L4 at h
    refine R_iload_n X 3 d_Br_partsAt_4 rfl ?_
    refine R_aload_n X 0 d_Br_partsAt_5 rfl ?_
    refine R_getI (ci := 0) X rfl iBr_ok (B_all _ hq0).1.1 (B_all _ hq0).1.2 5 rfl rfl tw_208 d_Br_partsAt_6 ?_
    refine R_icmp_ge (tgt := 34) X d_Br_partsAt_9 rfl (fun c1 => ?_) (fun c1 => ?_)
    · replace h := (if_pos c1).symm.trans h
      refine V_pc (pc' := 34) rfl (R_loc (L' := [(2, .int x2)]) [2] rfl ?_)
      exact hK hp x2 h
    · replace h := (if_neg c1).symm.trans h
      refine R_aload_n X 0 d_Br_partsAt_12 rfl ?_
      refine R_getR (ci := 0) X rfl iBr_ok (B_all _ hq0).1.1 (B_all _ hq0).1.2 0 rfl rfl tw_198 d_Br_partsAt_13 ?_
      refine R_iload_n X 3 d_Br_partsAt_16 rfl ?_
      obtain ⟨i2, h⟩ := ck h
      refine R_iald (n := 8) X (B_all _ hq0).2.1.1 (B_all _ hq0).2.1.2 i2 d_Br_partsAt_17 ?_
      refine R_iload_n X 1 d_Br_partsAt_18 rfl ?_
      refine V_pc (pc' := 19) rfl ?_
      refine R_icmp_gt (tgt := 28) X d_Br_partsAt_19 rfl (fun c3 => ?_) (fun c3 => ?_)
      · replace h := (if_pos c3).symm.trans h
        refine R_iinc (v := (x3 + 1)) (L' := [(3, .int (x3 + 1)), (0, .ref (gA (zG Z) q0)), (1, .int v1), (2, .int x2)]) X 3 d_Br_partsAt_28 rfl rfl (by decide) rfl ?_
        refine R_goto (tgt := 4) X d_Br_partsAt_31 rfl ?_
        refine V_pc (pc' := 4) rfl (R_loc (L' := [(0, .ref (gA (zG Z) q0)), (1, .int v1), (2, .int x2), (3, .int (x3 + 1))]) [1, 2, 3, 0] rfl ?_)
        exact ih hp x2 (x3 + 1) h
      · replace h := (if_neg c3).symm.trans h
        refine R_iload_n X 2 d_Br_partsAt_22 rfl ?_
        refine R_iconst (v := (1 : Int32)) X d_Br_partsAt_23 rfl ?_
        refine R_iload_n X 3 d_Br_partsAt_24 rfl ?_
        refine R_ishl X d_Br_partsAt_25 ?_
        refine R_ior X d_Br_partsAt_26 ?_
        refine V_pc (pc' := 27) rfl ?_
        refine R_istore_n (L' := [(2, .int (x2 ||| ((1 : Int32) <<< (x3 &&& 31)))), (0, .ref (gA (zG Z) q0)), (1, .int v1), (3, .int x3)]) X d_Br_partsAt_27 (by decide) rfl ?_
        refine R_iinc (v := (x3 + 1)) (L' := [(3, .int (x3 + 1)), (2, .int (x2 ||| ((1 : Int32) <<< (x3 &&& 31)))), (0, .ref (gA (zG Z) q0)), (1, .int v1)]) X 3 d_Br_partsAt_28 rfl rfl (by decide) rfl ?_
        refine R_goto (tgt := 4) X d_Br_partsAt_31 rfl ?_
        refine V_pc (pc' := 4) rfl (R_loc (L' := [(0, .ref (gA (zG Z) q0)), (1, .int v1), (2, .int (x2 ||| ((1 : Int32) <<< (x3 &&& 31)))), (3, .int (x3 + 1))]) [2, 3, 1, 0] rfl ?_)
        exact ih hp (x2 ||| ((1 : Int32) <<< (x3 &&& 31))) (x3 + 1) h
set_option maxRecDepth 20000 in
set_option maxHeartbeats 2000000 in
theorem T_Br_partsAt {Z : ZT} (X : CX Z Y_Br_partsAt) {hp : HP} {q0 : Nat} {a1 : Int32} (hq0 : isB q0 = true) {p : Int32 × HP} (h : f_Br_partsAt hp q0 a1 = some p) (hR : RetI Z Y_Br_partsAt .int p.1 p.2) : V Z Y_Br_partsAt hp 0 [(0, .ref (gA (zG Z) q0)), (1, .int a1)] [] := by
  unfold f_Br_partsAt at h
  refine R_iconst (v := (0 : Int32)) X d_Br_partsAt_0 rfl ?_
  refine R_istore_n (L' := [(2, .int (0 : Int32)), (0, .ref (gA (zG Z) q0)), (1, .int a1)]) X d_Br_partsAt_1 (by decide) rfl ?_
  refine R_iconst (v := (0 : Int32)) X d_Br_partsAt_2 rfl ?_
  refine R_istore_n (L' := [(3, .int (0 : Int32)), (2, .int (0 : Int32)), (0, .ref (gA (zG Z) q0)), (1, .int a1)]) X d_Br_partsAt_3 (by decide) rfl ?_
  refine V_pc (pc' := 4) rfl (R_loc (L' := [(0, .ref (gA (zG Z) q0)), (1, .int a1), (2, .int (0 : Int32)), (3, .int (0 : Int32))]) [2, 3, 1, 0] rfl ?_)
  refine T_Br_partsAt_L4 X hq0 hR (fun hp5 w4 h => ?_) _ hp (0 : Int32) (0 : Int32) h
  refine R_iload_n X 0 d_Br_partsAt_34 rfl ?_
  exact R_ret hR h d_Br_partsAt_35
theorem M_Br_partsAt {G : GT} {hp : HP} {q0 : Nat} {a1 : Int32} (hq0 : isB q0 = true) {p : Int32 × HP} (h : f_Br_partsAt hp q0 a1 = some p) : MI G y_Br_partsAt Y_Br_partsAt .int [.ref (gA G q0), .int a1] hp p.1 p.2 := MI_of rfl (fun Z hz X hR => by subst hz; exact T_Br_partsAt X hq0 h hR)
theorem d_BA_hats_0 : decode prog_1_method_37_code 0 = .ok (.iconst 0, 1) := by decide +kernel
theorem d_BA_hats_1 : decode prog_1_method_37_code 1 = .ok (.istore_n 1, 1) := by decide +kernel
theorem d_BA_hats_2 : decode prog_1_method_37_code 2 = .ok (.iconst 0, 1) := by decide +kernel
theorem d_BA_hats_3 : decode prog_1_method_37_code 3 = .ok (.istore_n 2, 1) := by decide +kernel
theorem d_BA_hats_4 : decode prog_1_method_37_code 4 = .ok (.iload_n 2, 1) := by decide +kernel
theorem d_BA_hats_5 : decode prog_1_method_37_code 5 = .ok (.aload_n 0, 1) := by decide +kernel
theorem d_BA_hats_6 : decode prog_1_method_37_code 6 = .ok (.getfield 59, 3) := by decide +kernel
theorem d_BA_hats_9 : decode prog_1_method_37_code 9 = .ok (.getfield 99, 3) := by decide +kernel
theorem d_BA_hats_12 : decode prog_1_method_37_code 12 = .ok (.if_icmp .ge (34), 3) := by decide +kernel
theorem d_BA_hats_15 : decode prog_1_method_37_code 15 = .ok (.aload_n 0, 1) := by decide +kernel
theorem d_BA_hats_16 : decode prog_1_method_37_code 16 = .ok (.getfield 59, 3) := by decide +kernel
theorem d_BA_hats_19 : decode prog_1_method_37_code 19 = .ok (.aload_n 0, 1) := by decide +kernel
theorem d_BA_hats_20 : decode prog_1_method_37_code 20 = .ok (.getfield 19, 3) := by decide +kernel
theorem d_BA_hats_23 : decode prog_1_method_37_code 23 = .ok (.getfield 148, 3) := by decide +kernel
theorem d_BA_hats_26 : decode prog_1_method_37_code 26 = .ok (.iload_n 2, 1) := by decide +kernel
theorem d_BA_hats_27 : decode prog_1_method_37_code 27 = .ok (.iaload, 1) := by decide +kernel
theorem d_BA_hats_28 : decode prog_1_method_37_code 28 = .ok (.invokevirtual 151, 3) := by decide +kernel
theorem d_BA_hats_31 : decode prog_1_method_37_code 31 = .ok (.ifCond .ne (9), 3) := by decide +kernel
theorem d_BA_hats_34 : decode prog_1_method_37_code 34 = .ok (.iload_n 1, 1) := by decide +kernel
theorem d_BA_hats_35 : decode prog_1_method_37_code 35 = .ok (.iconst 1, 1) := by decide +kernel
theorem d_BA_hats_36 : decode prog_1_method_37_code 36 = .ok (.iload_n 2, 1) := by decide +kernel
theorem d_BA_hats_37 : decode prog_1_method_37_code 37 = .ok (.ishl, 1) := by decide +kernel
theorem d_BA_hats_38 : decode prog_1_method_37_code 38 = .ok (.ior, 1) := by decide +kernel
theorem d_BA_hats_39 : decode prog_1_method_37_code 39 = .ok (.istore_n 1, 1) := by decide +kernel
theorem d_BA_hats_40 : decode prog_1_method_37_code 40 = .ok (.iinc 2 (1), 3) := by decide +kernel
theorem d_BA_hats_43 : decode prog_1_method_37_code 43 = .ok (.goto (-39), 3) := by decide +kernel
theorem d_BA_hats_46 : decode prog_1_method_37_code 46 = .ok (.iload_n 1, 1) := by decide +kernel
theorem d_BA_hats_47 : decode prog_1_method_37_code 47 = .ok (.ireturn, 1) := by decide +kernel
set_option maxRecDepth 20000 in
set_option maxHeartbeats 2000000 in
theorem T_BA_hats_L4 {Z : ZT} (X : CX Z Y_BA_hats) {p : Int32 × HP} (hR : RetI Z Y_BA_hats .int p.1 p.2) {K : HP → Int32 → Option (Int32 × HP)} (hK : ∀ (hp : HP) (x1 : Int32), K hp x1 = some p → V Z Y_BA_hats hp 46 [(1, .int x1)] []) : ∀ (n : Nat) (hp : HP) (x1 : Int32) (x2 : Int32), f_BA_hats_L4 K n hp x1 x2 = some p → V Z Y_BA_hats hp 4 [(0, .ref (gA (zG Z) 0)), (1, .int x1), (2, .int x2)] [] := by
  intro n
  induction n with
  | zero =>
    intro hp x1 x2 h
    cases h
  | succ n ih =>
    intro hp x1 x2 h
    replace h : f_BA_hats_L4 K (n + 1) hp x1 x2 = some p := h
    unfold f_BA_hats_L4 at h
    refine R_iload_n X 2 d_BA_hats_4 rfl ?_
    refine R_aload_n X 0 d_BA_hats_5 rfl ?_
    refine R_getD (ci := 6) X rfl iBA_ok (of_decide_eq_true rfl) rfl 8 rfl rfl tw_242 d_BA_hats_6 ?_
    obtain ⟨b1, h⟩ := ck h
    refine R_getI (ci := 0) X rfl iBr_ok (B_all _ b1).1.1 (B_all _ b1).1.2 6 rfl rfl tw_212 d_BA_hats_9 ?_
    refine R_icmp_ge (tgt := 46) X d_BA_hats_12 rfl (fun c2 => ?_) (fun c2 => ?_)
    · replace h := (if_pos c2).symm.trans h
      refine V_pc (pc' := 46) rfl (R_loc (L' := [(1, .int x1)]) [1] rfl ?_)
      exact hK hp x1 h
    · replace h := (if_neg c2).symm.trans h
      refine R_aload_n X 0 d_BA_hats_15 rfl ?_
      refine R_getD (ci := 6) X rfl iBA_ok (of_decide_eq_true rfl) rfl 8 rfl rfl tw_242 d_BA_hats_16 ?_
      refine R_aload_n X 0 d_BA_hats_19 rfl ?_
      refine R_getR (ci := 6) X rfl iBA_ok (of_decide_eq_true rfl) rfl 1 rfl rfl tw_235 d_BA_hats_20 ?_
      refine R_getR (ci := 5) X rfl iSt_ok (of_decide_eq_true rfl) rfl 0 rfl rfl tw_98 d_BA_hats_23 ?_
      refine V_pc (pc' := 26) rfl ?_
      refine R_iload_n X 2 d_BA_hats_26 rfl ?_
      obtain ⟨i3, h⟩ := ck h
      refine R_iald (n := 5) X (of_decide_eq_true rfl) rfl i3 d_BA_hats_27 ?_
      obtain ⟨p5, e4, h⟩ := ob h
      refine R_vcall (ci := 0) (k := (hp 0 8).toNatClampNeg) (As := [.int (hp 4 (x2).toNatClampNeg)]) (st := []) X (M_Br_partsAt b1 e4) tw_375 cf_Br_partsAt (B_all _ b1).1.1 (B_all _ b1).1.2 rfl rfl rfl rfl d_BA_hats_28 ?_
      refine R_ifne (tgt := 40) X d_BA_hats_31 rfl (fun c6 => ?_) (fun c6 => ?_)
      · replace h := (if_neg c6).symm.trans h
        refine R_iinc (v := (x2 + 1)) (L' := [(2, .int (x2 + 1)), (0, .ref (gA (zG Z) 0)), (1, .int x1)]) X 2 d_BA_hats_40 rfl rfl (by decide) rfl ?_
        refine R_goto (tgt := 4) X d_BA_hats_43 rfl ?_
        refine V_pc (pc' := 4) rfl (R_loc (L' := [(0, .ref (gA (zG Z) 0)), (1, .int x1), (2, .int (x2 + 1))]) [1, 2, 0] rfl ?_)
        exact ih p5.2 x1 (x2 + 1) h
      · replace h := (if_pos c6).symm.trans h
        refine R_iload_n X 1 d_BA_hats_34 rfl ?_
        refine R_iconst (v := (1 : Int32)) X d_BA_hats_35 rfl ?_
        refine R_iload_n X 2 d_BA_hats_36 rfl ?_
        refine R_ishl X d_BA_hats_37 ?_
        refine R_ior X d_BA_hats_38 ?_
        refine V_pc (pc' := 39) rfl ?_
        refine R_istore_n (L' := [(1, .int (x1 ||| ((1 : Int32) <<< (x2 &&& 31)))), (0, .ref (gA (zG Z) 0)), (2, .int x2)]) X d_BA_hats_39 (by decide) rfl ?_
        refine R_iinc (v := (x2 + 1)) (L' := [(2, .int (x2 + 1)), (1, .int (x1 ||| ((1 : Int32) <<< (x2 &&& 31)))), (0, .ref (gA (zG Z) 0))]) X 2 d_BA_hats_40 rfl rfl (by decide) rfl ?_
        refine R_goto (tgt := 4) X d_BA_hats_43 rfl ?_
        refine V_pc (pc' := 4) rfl (R_loc (L' := [(0, .ref (gA (zG Z) 0)), (1, .int (x1 ||| ((1 : Int32) <<< (x2 &&& 31)))), (2, .int (x2 + 1))]) [2, 1, 0] rfl ?_)
        exact ih p5.2 (x1 ||| ((1 : Int32) <<< (x2 &&& 31))) (x2 + 1) h
set_option maxRecDepth 20000 in
set_option maxHeartbeats 2000000 in
theorem T_BA_hats {Z : ZT} (X : CX Z Y_BA_hats) {hp : HP} {p : Int32 × HP} (h : f_BA_hats hp = some p) (hR : RetI Z Y_BA_hats .int p.1 p.2) : V Z Y_BA_hats hp 0 [(0, .ref (gA (zG Z) 0))] [] := by
  unfold f_BA_hats at h
  refine R_iconst (v := (0 : Int32)) X d_BA_hats_0 rfl ?_
  refine R_istore_n (L' := [(1, .int (0 : Int32)), (0, .ref (gA (zG Z) 0))]) X d_BA_hats_1 (by decide) rfl ?_
  refine R_iconst (v := (0 : Int32)) X d_BA_hats_2 rfl ?_
  refine R_istore_n (L' := [(2, .int (0 : Int32)), (1, .int (0 : Int32)), (0, .ref (gA (zG Z) 0))]) X d_BA_hats_3 (by decide) rfl ?_
  refine V_pc (pc' := 4) rfl (R_loc (L' := [(0, .ref (gA (zG Z) 0)), (1, .int (0 : Int32)), (2, .int (0 : Int32))]) [2, 1, 0] rfl ?_)
  refine T_BA_hats_L4 X hR (fun hp8 w7 h => ?_) _ hp (0 : Int32) (0 : Int32) h
  refine R_iload_n X 0 d_BA_hats_46 rfl ?_
  exact R_ret hR h d_BA_hats_47
theorem M_BA_hats {G : GT} {hp : HP} {p : Int32 × HP} (h : f_BA_hats hp = some p) : MI G y_BA_hats Y_BA_hats .int [.ref (gA G 0)] hp p.1 p.2 := MI_of rfl (fun Z hz X hR => by subst hz; exact T_BA_hats X h hR)
theorem d_St_debt_0 : decode prog_7_method_6_code 0 = .ok (.aload_n 0, 1) := by decide +kernel
theorem d_St_debt_1 : decode prog_7_method_6_code 1 = .ok (.getfield 15, 3) := by decide +kernel
theorem d_St_debt_4 : decode prog_7_method_6_code 4 = .ok (.iload_n 1, 1) := by decide +kernel
theorem d_St_debt_5 : decode prog_7_method_6_code 5 = .ok (.iconst 5, 1) := by decide +kernel
theorem d_St_debt_6 : decode prog_7_method_6_code 6 = .ok (.imul, 1) := by decide +kernel
theorem d_St_debt_7 : decode prog_7_method_6_code 7 = .ok (.iload_n 2, 1) := by decide +kernel
theorem d_St_debt_8 : decode prog_7_method_6_code 8 = .ok (.iadd, 1) := by decide +kernel
theorem d_St_debt_9 : decode prog_7_method_6_code 9 = .ok (.iaload, 1) := by decide +kernel
theorem d_St_debt_10 : decode prog_7_method_6_code 10 = .ok (.ireturn, 1) := by decide +kernel
set_option maxRecDepth 20000 in
set_option maxHeartbeats 2000000 in
theorem T_St_debt {Z : ZT} (X : CX Z Y_St_debt) {hp : HP} {q0 : Nat} {a1 : Int32} {a2 : Int32} (hq0 : isS q0 = true) {p : Int32 × HP} (h : f_St_debt hp q0 a1 a2 = some p) (hR : RetI Z Y_St_debt .int p.1 p.2) : V Z Y_St_debt hp 0 [(0, .ref (gA (zG Z) q0)), (1, .int a1), (2, .int a2)] [] := by
  unfold f_St_debt at h
  refine R_aload_n X 0 d_St_debt_0 rfl ?_
  refine R_getR (ci := 5) X rfl iSt_ok (S_all _ hq0).1.1 (S_all _ hq0).1.2 1 rfl rfl tw_99 d_St_debt_1 ?_
  refine R_iload_n X 1 d_St_debt_4 rfl ?_
  refine R_iconst (v := (5 : Int32)) X d_St_debt_5 rfl ?_
  refine R_imul X d_St_debt_6 ?_
  refine V_pc (pc' := 7) rfl ?_
  refine R_iload_n X 2 d_St_debt_7 rfl ?_
  refine R_iadd X d_St_debt_8 ?_
  obtain ⟨i1, h⟩ := ck h
  refine R_iald (n := 25) X (S_all _ hq0).2.2.1 (S_all _ hq0).2.2.2 i1 d_St_debt_9 ?_
  exact R_ret hR h d_St_debt_10
theorem M_St_debt {G : GT} {hp : HP} {q0 : Nat} {a1 : Int32} {a2 : Int32} (hq0 : isS q0 = true) {p : Int32 × HP} (h : f_St_debt hp q0 a1 a2 = some p) : MI G y_St_debt Y_St_debt .int [.ref (gA G q0), .int a1, .int a2] hp p.1 p.2 := MI_of rfl (fun Z hz X hR => by subst hz; exact T_St_debt X hq0 h hR)
theorem d_St_netOf_0 : decode prog_7_method_8_code 0 = .ok (.iconst 0, 1) := by decide +kernel
theorem d_St_netOf_1 : decode prog_7_method_8_code 1 = .ok (.istore_n 2, 1) := by decide +kernel
theorem d_St_netOf_2 : decode prog_7_method_8_code 2 = .ok (.iconst 0, 1) := by decide +kernel
theorem d_St_netOf_3 : decode prog_7_method_8_code 3 = .ok (.istore_n 3, 1) := by decide +kernel
theorem d_St_netOf_4 : decode prog_7_method_8_code 4 = .ok (.iload_n 3, 1) := by decide +kernel
theorem d_St_netOf_5 : decode prog_7_method_8_code 5 = .ok (.iconst 5, 1) := by decide +kernel
theorem d_St_netOf_6 : decode prog_7_method_8_code 6 = .ok (.if_icmp .ge (18), 3) := by decide +kernel
theorem d_St_netOf_9 : decode prog_7_method_8_code 9 = .ok (.iload_n 2, 1) := by decide +kernel
theorem d_St_netOf_10 : decode prog_7_method_8_code 10 = .ok (.aload_n 0, 1) := by decide +kernel
theorem d_St_netOf_11 : decode prog_7_method_8_code 11 = .ok (.iload_n 3, 1) := by decide +kernel
theorem d_St_netOf_12 : decode prog_7_method_8_code 12 = .ok (.iload_n 1, 1) := by decide +kernel
theorem d_St_netOf_13 : decode prog_7_method_8_code 13 = .ok (.invokevirtual 48, 3) := by decide +kernel
theorem d_St_netOf_16 : decode prog_7_method_8_code 16 = .ok (.iadd, 1) := by decide +kernel
theorem d_St_netOf_17 : decode prog_7_method_8_code 17 = .ok (.istore_n 2, 1) := by decide +kernel
theorem d_St_netOf_18 : decode prog_7_method_8_code 18 = .ok (.iinc 3 (1), 3) := by decide +kernel
theorem d_St_netOf_21 : decode prog_7_method_8_code 21 = .ok (.goto (-17), 3) := by decide +kernel
theorem d_St_netOf_24 : decode prog_7_method_8_code 24 = .ok (.iload_n 2, 1) := by decide +kernel
theorem d_St_netOf_25 : decode prog_7_method_8_code 25 = .ok (.ireturn, 1) := by decide +kernel
set_option maxRecDepth 20000 in
set_option maxHeartbeats 2000000 in
theorem T_St_netOf_L4 {Z : ZT} (X : CX Z Y_St_netOf) {q0 : Nat} {v1 : Int32} (hq0 : isS q0 = true) {p : Int32 × HP} (hR : RetI Z Y_St_netOf .int p.1 p.2) {K : HP → Int32 → Option (Int32 × HP)} (hK : ∀ (hp : HP) (x2 : Int32), K hp x2 = some p → V Z Y_St_netOf hp 24 [(2, .int x2)] []) : ∀ (n : Nat) (hp : HP) (x2 : Int32) (x3 : Int32), f_St_netOf_L4 q0 v1 K n hp x2 x3 = some p → V Z Y_St_netOf hp 4 [(0, .ref (gA (zG Z) q0)), (1, .int v1), (2, .int x2), (3, .int x3)] [] := by
  intro n
  induction n with
  | zero =>
    intro hp x2 x3 h
    cases h
  | succ n ih =>
    intro hp x2 x3 h
    replace h : f_St_netOf_L4 q0 v1 K (n + 1) hp x2 x3 = some p := h
    unfold f_St_netOf_L4 at h
    refine R_iload_n X 3 d_St_netOf_4 rfl ?_
    refine R_iconst (v := (5 : Int32)) X d_St_netOf_5 rfl ?_
    refine R_icmp_ge (tgt := 24) X d_St_netOf_6 rfl (fun c1 => ?_) (fun c1 => ?_)
    · replace h := (if_pos c1).symm.trans h
      refine V_pc (pc' := 24) rfl (R_loc (L' := [(2, .int x2)]) [2] rfl ?_)
      exact hK hp x2 h
    · replace h := (if_neg c1).symm.trans h
      refine R_iload_n X 2 d_St_netOf_9 rfl ?_
      refine R_aload_n X 0 d_St_netOf_10 rfl ?_
      refine R_iload_n X 3 d_St_netOf_11 rfl ?_
      refine R_iload_n X 1 d_St_netOf_12 rfl ?_
      obtain ⟨p3, e2, h⟩ := ob h
      refine R_vcall (ci := 5) (k := q0) (As := [.int x3, .int v1]) (st := [.int x2]) X (M_St_debt hq0 e2) tw_387 cf_St_debt (S_all _ hq0).1.1 (S_all _ hq0).1.2 rfl rfl rfl rfl d_St_netOf_13 ?_
      refine V_pc (pc' := 16) rfl ?_
      refine R_iadd X d_St_netOf_16 ?_
      refine R_istore_n (L' := [(2, .int (x2 + p3.1)), (0, .ref (gA (zG Z) q0)), (1, .int v1), (3, .int x3)]) X d_St_netOf_17 (by decide) rfl ?_
      refine R_iinc (v := (x3 + 1)) (L' := [(3, .int (x3 + 1)), (2, .int (x2 + p3.1)), (0, .ref (gA (zG Z) q0)), (1, .int v1)]) X 3 d_St_netOf_18 rfl rfl (by decide) rfl ?_
      refine R_goto (tgt := 4) X d_St_netOf_21 rfl ?_
      refine V_pc (pc' := 4) rfl (R_loc (L' := [(0, .ref (gA (zG Z) q0)), (1, .int v1), (2, .int (x2 + p3.1)), (3, .int (x3 + 1))]) [2, 3, 1, 0] rfl ?_)
      exact ih p3.2 (x2 + p3.1) (x3 + 1) h
set_option maxRecDepth 20000 in
set_option maxHeartbeats 2000000 in
theorem T_St_netOf {Z : ZT} (X : CX Z Y_St_netOf) {hp : HP} {q0 : Nat} {a1 : Int32} (hq0 : isS q0 = true) {p : Int32 × HP} (h : f_St_netOf hp q0 a1 = some p) (hR : RetI Z Y_St_netOf .int p.1 p.2) : V Z Y_St_netOf hp 0 [(0, .ref (gA (zG Z) q0)), (1, .int a1)] [] := by
  unfold f_St_netOf at h
  refine R_iconst (v := (0 : Int32)) X d_St_netOf_0 rfl ?_
  refine R_istore_n (L' := [(2, .int (0 : Int32)), (0, .ref (gA (zG Z) q0)), (1, .int a1)]) X d_St_netOf_1 (by decide) rfl ?_
  refine R_iconst (v := (0 : Int32)) X d_St_netOf_2 rfl ?_
  refine R_istore_n (L' := [(3, .int (0 : Int32)), (2, .int (0 : Int32)), (0, .ref (gA (zG Z) q0)), (1, .int a1)]) X d_St_netOf_3 (by decide) rfl ?_
  refine V_pc (pc' := 4) rfl (R_loc (L' := [(0, .ref (gA (zG Z) q0)), (1, .int a1), (2, .int (0 : Int32)), (3, .int (0 : Int32))]) [2, 3, 1, 0] rfl ?_)
  refine T_St_netOf_L4 X hq0 hR (fun hp5 w4 h => ?_) _ hp (0 : Int32) (0 : Int32) h
  refine R_iload_n X 0 d_St_netOf_24 rfl ?_
  exact R_ret hR h d_St_netOf_25
theorem M_St_netOf {G : GT} {hp : HP} {q0 : Nat} {a1 : Int32} (hq0 : isS q0 = true) {p : Int32 × HP} (h : f_St_netOf hp q0 a1 = some p) : MI G y_St_netOf Y_St_netOf .int [.ref (gA G q0), .int a1] hp p.1 p.2 := MI_of rfl (fun Z hz X hR => by subst hz; exact T_St_netOf X hq0 h hR)
theorem d_BA_bounded_0 : decode prog_1_method_35_code 0 = .ok (.sipush (-9999), 3) := by decide +kernel
theorem d_BA_bounded_3 : decode prog_1_method_35_code 3 = .ok (.sipush (9999), 3) := by decide +kernel
theorem d_BA_bounded_6 : decode prog_1_method_35_code 6 = .ok (.iload_n 0, 1) := by decide +kernel
theorem d_BA_bounded_7 : decode prog_1_method_35_code 7 = .ok (.invokestatic 230, 3) := by decide +kernel
theorem d_BA_bounded_10 : decode prog_1_method_35_code 10 = .ok (.invokestatic 252, 3) := by decide +kernel
theorem d_BA_bounded_13 : decode prog_1_method_35_code 13 = .ok (.ireturn, 1) := by decide +kernel
set_option maxRecDepth 20000 in
set_option maxHeartbeats 2000000 in
theorem T_BA_bounded {Z : ZT} (X : CX Z Y_BA_bounded) {hp : HP} {a0 : Int32} {p : Int32 × HP} (h : f_BA_bounded hp a0 = some p) (hR : RetI Z Y_BA_bounded .int p.1 p.2) : V Z Y_BA_bounded hp 0 [(0, .int a0)] [] := by
  unfold f_BA_bounded at h
  refine R_sipush (v := (-9999 : Int32)) X d_BA_bounded_0 rfl ?_
  refine R_sipush (v := (9999 : Int32)) X d_BA_bounded_3 rfl ?_
  refine R_iload_n X 0 d_BA_bounded_6 rfl ?_
  refine R_mmin X tw_394 tw_395 tw_56 tw_396 rfl d_BA_bounded_7 ?_
  refine R_mmax X tw_397 tw_398 tw_56 tw_399 rfl d_BA_bounded_10 ?_
  refine V_pc (pc' := 13) rfl ?_
  exact R_ret hR h d_BA_bounded_13
theorem M_BA_bounded {G : GT} {hp : HP} {a0 : Int32} {p : Int32 × HP} (h : f_BA_bounded hp a0 = some p) : MI G y_BA_bounded Y_BA_bounded .int [.int a0] hp p.1 p.2 := MI_of rfl (fun Z hz X hR => by subst hz; exact T_BA_bounded X h hR)
theorem d_BA_wholes_0 : decode prog_1_method_38_code 0 = .ok (.iconst 0, 1) := by decide +kernel
theorem d_BA_wholes_1 : decode prog_1_method_38_code 1 = .ok (.istore_n 2, 1) := by decide +kernel
theorem d_BA_wholes_2 : decode prog_1_method_38_code 2 = .ok (.iconst 0, 1) := by decide +kernel
theorem d_BA_wholes_3 : decode prog_1_method_38_code 3 = .ok (.istore_n 3, 1) := by decide +kernel
theorem d_BA_wholes_4 : decode prog_1_method_38_code 4 = .ok (.iload_n 3, 1) := by decide +kernel
theorem d_BA_wholes_5 : decode prog_1_method_38_code 5 = .ok (.aload_n 0, 1) := by decide +kernel
theorem d_BA_wholes_6 : decode prog_1_method_38_code 6 = .ok (.getfield 59, 3) := by decide +kernel
theorem d_BA_wholes_9 : decode prog_1_method_38_code 9 = .ok (.getfield 99, 3) := by decide +kernel
theorem d_BA_wholes_12 : decode prog_1_method_38_code 12 = .ok (.if_icmp .ge (65), 3) := by decide +kernel
theorem d_BA_wholes_15 : decode prog_1_method_38_code 15 = .ok (.aload_n 0, 1) := by decide +kernel
theorem d_BA_wholes_16 : decode prog_1_method_38_code 16 = .ok (.getfield 19, 3) := by decide +kernel
theorem d_BA_wholes_19 : decode prog_1_method_38_code 19 = .ok (.getfield 148, 3) := by decide +kernel
theorem d_BA_wholes_22 : decode prog_1_method_38_code 22 = .ok (.iload_n 3, 1) := by decide +kernel
theorem d_BA_wholes_23 : decode prog_1_method_38_code 23 = .ok (.iaload, 1) := by decide +kernel
theorem d_BA_wholes_24 : decode prog_1_method_38_code 24 = .ok (.iload_n 1, 1) := by decide +kernel
theorem d_BA_wholes_25 : decode prog_1_method_38_code 25 = .ok (.ifCond .eq (14), 3) := by decide +kernel
theorem d_BA_wholes_28 : decode prog_1_method_38_code 28 = .ok (.aload_n 0, 1) := by decide +kernel
theorem d_BA_wholes_29 : decode prog_1_method_38_code 29 = .ok (.getfield 19, 3) := by decide +kernel
theorem d_BA_wholes_32 : decode prog_1_method_38_code 32 = .ok (.iload_n 3, 1) := by decide +kernel
theorem d_BA_wholes_33 : decode prog_1_method_38_code 33 = .ok (.invokevirtual 161, 3) := by decide +kernel
theorem d_BA_wholes_36 : decode prog_1_method_38_code 36 = .ok (.goto (4), 3) := by decide +kernel
theorem d_BA_wholes_39 : decode prog_1_method_38_code 39 = .ok (.iconst 0, 1) := by decide +kernel
theorem d_BA_wholes_40 : decode prog_1_method_38_code 40 = .ok (.iadd, 1) := by decide +kernel
theorem d_BA_wholes_41 : decode prog_1_method_38_code 41 = .ok (.istore 4, 2) := by decide +kernel
theorem d_BA_wholes_43 : decode prog_1_method_38_code 43 = .ok (.aload_n 0, 1) := by decide +kernel
theorem d_BA_wholes_44 : decode prog_1_method_38_code 44 = .ok (.getfield 59, 3) := by decide +kernel
theorem d_BA_wholes_47 : decode prog_1_method_38_code 47 = .ok (.iload 4, 2) := by decide +kernel
theorem d_BA_wholes_49 : decode prog_1_method_38_code 49 = .ok (.invokestatic 270, 3) := by decide +kernel
theorem d_BA_wholes_52 : decode prog_1_method_38_code 52 = .ok (.invokevirtual 151, 3) := by decide +kernel
theorem d_BA_wholes_55 : decode prog_1_method_38_code 55 = .ok (.aload_n 0, 1) := by decide +kernel
theorem d_BA_wholes_56 : decode prog_1_method_38_code 56 = .ok (.getfield 59, 3) := by decide +kernel
theorem d_BA_wholes_59 : decode prog_1_method_38_code 59 = .ok (.invokevirtual 273, 3) := by decide +kernel
theorem d_BA_wholes_62 : decode prog_1_method_38_code 62 = .ok (.if_icmp .ne (9), 3) := by decide +kernel
theorem d_BA_wholes_65 : decode prog_1_method_38_code 65 = .ok (.iload_n 2, 1) := by decide +kernel
theorem d_BA_wholes_66 : decode prog_1_method_38_code 66 = .ok (.iconst 1, 1) := by decide +kernel
theorem d_BA_wholes_67 : decode prog_1_method_38_code 67 = .ok (.iload_n 3, 1) := by decide +kernel
theorem d_BA_wholes_68 : decode prog_1_method_38_code 68 = .ok (.ishl, 1) := by decide +kernel
theorem d_BA_wholes_69 : decode prog_1_method_38_code 69 = .ok (.ior, 1) := by decide +kernel
theorem d_BA_wholes_70 : decode prog_1_method_38_code 70 = .ok (.istore_n 2, 1) := by decide +kernel
theorem d_BA_wholes_71 : decode prog_1_method_38_code 71 = .ok (.iinc 3 (1), 3) := by decide +kernel
theorem d_BA_wholes_74 : decode prog_1_method_38_code 74 = .ok (.goto (-70), 3) := by decide +kernel
theorem d_BA_wholes_77 : decode prog_1_method_38_code 77 = .ok (.iload_n 2, 1) := by decide +kernel
theorem d_BA_wholes_78 : decode prog_1_method_38_code 78 = .ok (.ireturn, 1) := by decide +kernel
set_option maxRecDepth 20000 in
set_option maxHeartbeats 2000000 in
theorem T_BA_wholes_L4 {Z : ZT} (X : CX Z Y_BA_wholes) {v1 : Int32} {p : Int32 × HP} (hR : RetI Z Y_BA_wholes .int p.1 p.2) {K : HP → Int32 → Option (Int32 × HP)} (hK : ∀ (hp : HP) (x2 : Int32), K hp x2 = some p → V Z Y_BA_wholes hp 77 [(2, .int x2)] []) : ∀ (n : Nat) (hp : HP) (x2 : Int32) (x3 : Int32), f_BA_wholes_L4 v1 K n hp x2 x3 = some p → V Z Y_BA_wholes hp 4 [(0, .ref (gA (zG Z) 0)), (1, .int v1), (2, .int x2), (3, .int x3)] [] := by
  intro n
  induction n with
  | zero =>
    intro hp x2 x3 h
    cases h
  | succ n ih =>
    intro hp x2 x3 h
    replace h : f_BA_wholes_L4 v1 K (n + 1) hp x2 x3 = some p := h
    unfold f_BA_wholes_L4 at h
    refine R_iload_n X 3 d_BA_wholes_4 rfl ?_
    refine R_aload_n X 0 d_BA_wholes_5 rfl ?_
    refine R_getD (ci := 6) X rfl iBA_ok (of_decide_eq_true rfl) rfl 8 rfl rfl tw_242 d_BA_wholes_6 ?_
    obtain ⟨b1, h⟩ := ck h
    refine R_getI (ci := 0) X rfl iBr_ok (B_all _ b1).1.1 (B_all _ b1).1.2 6 rfl rfl tw_212 d_BA_wholes_9 ?_
    refine R_icmp_ge (tgt := 77) X d_BA_wholes_12 rfl (fun c2 => ?_) (fun c2 => ?_)
    · replace h := (if_pos c2).symm.trans h
      refine V_pc (pc' := 77) rfl (R_loc (L' := [(2, .int x2)]) [2] rfl ?_)
      exact hK hp x2 h
    · replace h := (if_neg c2).symm.trans h
      refine R_aload_n X 0 d_BA_wholes_15 rfl ?_
      refine R_getR (ci := 6) X rfl iBA_ok (of_decide_eq_true rfl) rfl 1 rfl rfl tw_235 d_BA_wholes_16 ?_
      refine R_getR (ci := 5) X rfl iSt_ok (of_decide_eq_true rfl) rfl 0 rfl rfl tw_98 d_BA_wholes_19 ?_
      refine R_iload_n X 3 d_BA_wholes_22 rfl ?_
      obtain ⟨i3, h⟩ := ck h
      refine R_iald (n := 5) X (of_decide_eq_true rfl) rfl i3 d_BA_wholes_23 ?_
      refine V_pc (pc' := 24) rfl ?_
      refine R_iload_n X 1 d_BA_wholes_24 rfl ?_
      refine R_ifeq (tgt := 39) X d_BA_wholes_25 rfl (fun c4 => ?_) (fun c4 => ?_)
      · replace h := (if_pos c4).symm.trans h
        refine R_iconst (v := (0 : Int32)) X d_BA_wholes_39 rfl ?_
        refine R_iadd X d_BA_wholes_40 ?_
        refine R_istore (L' := [(4, .int ((hp 4 (x3).toNatClampNeg) + (0 : Int32))), (0, .ref (gA (zG Z) 0)), (1, .int v1), (2, .int x2), (3, .int x3)]) X d_BA_wholes_41 (by decide) rfl ?_
        refine R_aload_n X 1 d_BA_wholes_43 rfl ?_
        refine R_getD (ci := 6) X rfl iBA_ok (of_decide_eq_true rfl) rfl 8 rfl rfl tw_242 d_BA_wholes_44 ?_
        refine V_pc (pc' := 47) rfl ?_
        refine R_iload X 0 d_BA_wholes_47 rfl ?_
        obtain ⟨p6, e5, h⟩ := ob h
        refine R_scall (As := [.int ((hp 4 (x3).toNatClampNeg) + (0 : Int32))]) (st := [.ref (gA (zG Z) (hp 0 8).toNatClampNeg)]) X (M_BA_bounded e5) tw_391 cf_BA_bounded rfl rfl rfl d_BA_wholes_49 ?_
        obtain ⟨p8, e7, h⟩ := ob h
        refine R_vcall (ci := 0) (k := (hp 0 8).toNatClampNeg) (As := [.int p6.1]) (st := []) X (M_Br_partsAt b1 e7) tw_375 cf_Br_partsAt (B_all _ b1).1.1 (B_all _ b1).1.2 rfl rfl rfl rfl d_BA_wholes_52 ?_
        refine R_aload_n X 1 d_BA_wholes_55 rfl ?_
        refine R_getD (ci := 6) X rfl iBA_ok (of_decide_eq_true rfl) rfl 8 rfl rfl tw_242 d_BA_wholes_56 ?_
        obtain ⟨b9, h⟩ := ck h
        obtain ⟨p11, e10, h⟩ := ob h
        refine R_vcall (ci := 0) (k := (p8.2 0 8).toNatClampNeg) (As := []) (st := [.int p8.1]) X (M_Br_allParts b9 e10) tw_400 cf_Br_allParts (B_all _ b9).1.1 (B_all _ b9).1.2 rfl rfl rfl rfl d_BA_wholes_59 ?_
        refine V_pc (pc' := 62) rfl ?_
        refine R_icmp_ne (tgt := 71) X d_BA_wholes_62 rfl (fun c12 => ?_) (fun c12 => ?_)
        · replace h := (if_neg c12).symm.trans h
          refine R_iinc (v := (x3 + 1)) (L' := [(3, .int (x3 + 1)), (4, .int ((hp 4 (x3).toNatClampNeg) + (0 : Int32))), (0, .ref (gA (zG Z) 0)), (1, .int v1), (2, .int x2)]) X 4 d_BA_wholes_71 rfl rfl (by decide) rfl ?_
          refine R_goto (tgt := 4) X d_BA_wholes_74 rfl ?_
          refine V_pc (pc' := 4) rfl (R_loc (L' := [(0, .ref (gA (zG Z) 0)), (1, .int v1), (2, .int x2), (3, .int (x3 + 1))]) [2, 3, 4, 0] rfl ?_)
          exact ih p11.2 x2 (x3 + 1) h
        · replace h := (if_pos c12).symm.trans h
          refine R_iload_n X 3 d_BA_wholes_65 rfl ?_
          refine R_iconst (v := (1 : Int32)) X d_BA_wholes_66 rfl ?_
          refine R_iload_n X 4 d_BA_wholes_67 rfl ?_
          refine R_ishl X d_BA_wholes_68 ?_
          refine R_ior X d_BA_wholes_69 ?_
          refine V_pc (pc' := 70) rfl ?_
          refine R_istore_n (L' := [(2, .int (x2 ||| ((1 : Int32) <<< (x3 &&& 31)))), (4, .int ((hp 4 (x3).toNatClampNeg) + (0 : Int32))), (0, .ref (gA (zG Z) 0)), (1, .int v1), (3, .int x3)]) X d_BA_wholes_70 (by decide) rfl ?_
          refine R_iinc (v := (x3 + 1)) (L' := [(3, .int (x3 + 1)), (2, .int (x2 ||| ((1 : Int32) <<< (x3 &&& 31)))), (4, .int ((hp 4 (x3).toNatClampNeg) + (0 : Int32))), (0, .ref (gA (zG Z) 0)), (1, .int v1)]) X 4 d_BA_wholes_71 rfl rfl (by decide) rfl ?_
          refine R_goto (tgt := 4) X d_BA_wholes_74 rfl ?_
          refine V_pc (pc' := 4) rfl (R_loc (L' := [(0, .ref (gA (zG Z) 0)), (1, .int v1), (2, .int (x2 ||| ((1 : Int32) <<< (x3 &&& 31)))), (3, .int (x3 + 1))]) [3, 4, 1, 0] rfl ?_)
          exact ih p11.2 (x2 ||| ((1 : Int32) <<< (x3 &&& 31))) (x3 + 1) h
      · replace h := (if_neg c4).symm.trans h
        refine R_aload_n X 0 d_BA_wholes_28 rfl ?_
        refine R_getR (ci := 6) X rfl iBA_ok (of_decide_eq_true rfl) rfl 1 rfl rfl tw_235 d_BA_wholes_29 ?_
        refine R_iload_n X 3 d_BA_wholes_32 rfl ?_
        obtain ⟨p14, e13, h⟩ := ob h
        refine R_vcall (ci := 5) (k := 3) (As := [.int x3]) (st := [.int (hp 4 (x3).toNatClampNeg)]) X (M_St_netOf rfl e13) tw_383 cf_St_netOf (of_decide_eq_true rfl) rfl rfl rfl rfl rfl d_BA_wholes_33 ?_
        refine R_goto (tgt := 40) X d_BA_wholes_36 rfl ?_
        refine V_pc (pc' := 40) rfl ?_
        refine R_iadd X d_BA_wholes_40 ?_
        refine R_istore (L' := [(4, .int ((hp 4 (x3).toNatClampNeg) + p14.1)), (0, .ref (gA (zG Z) 0)), (1, .int v1), (2, .int x2), (3, .int x3)]) X d_BA_wholes_41 (by decide) rfl ?_
        refine R_aload_n X 1 d_BA_wholes_43 rfl ?_
        refine R_getD (ci := 6) X rfl iBA_ok (of_decide_eq_true rfl) rfl 8 rfl rfl tw_242 d_BA_wholes_44 ?_
        obtain ⟨b15, h⟩ := ck h
        refine R_iload X 0 d_BA_wholes_47 rfl ?_
        obtain ⟨p17, e16, h⟩ := ob h
        refine R_scall (As := [.int ((hp 4 (x3).toNatClampNeg) + p14.1)]) (st := [.ref (gA (zG Z) (p14.2 0 8).toNatClampNeg)]) X (M_BA_bounded e16) tw_391 cf_BA_bounded rfl rfl rfl d_BA_wholes_49 ?_
        refine V_pc (pc' := 52) rfl ?_
        obtain ⟨p19, e18, h⟩ := ob h
        refine R_vcall (ci := 0) (k := (p14.2 0 8).toNatClampNeg) (As := [.int p17.1]) (st := []) X (M_Br_partsAt b15 e18) tw_375 cf_Br_partsAt (B_all _ b15).1.1 (B_all _ b15).1.2 rfl rfl rfl rfl d_BA_wholes_52 ?_
        refine R_aload_n X 1 d_BA_wholes_55 rfl ?_
        refine R_getD (ci := 6) X rfl iBA_ok (of_decide_eq_true rfl) rfl 8 rfl rfl tw_242 d_BA_wholes_56 ?_
        obtain ⟨b20, h⟩ := ck h
        obtain ⟨p22, e21, h⟩ := ob h
        refine R_vcall (ci := 0) (k := (p19.2 0 8).toNatClampNeg) (As := []) (st := [.int p19.1]) X (M_Br_allParts b20 e21) tw_400 cf_Br_allParts (B_all _ b20).1.1 (B_all _ b20).1.2 rfl rfl rfl rfl d_BA_wholes_59 ?_
        refine R_icmp_ne (tgt := 71) X d_BA_wholes_62 rfl (fun c23 => ?_) (fun c23 => ?_)
        · replace h := (if_neg c23).symm.trans h
          refine R_iinc (v := (x3 + 1)) (L' := [(3, .int (x3 + 1)), (4, .int ((hp 4 (x3).toNatClampNeg) + p14.1)), (0, .ref (gA (zG Z) 0)), (1, .int v1), (2, .int x2)]) X 4 d_BA_wholes_71 rfl rfl (by decide) rfl ?_
          refine R_goto (tgt := 4) X d_BA_wholes_74 rfl ?_
          refine V_pc (pc' := 4) rfl (R_loc (L' := [(0, .ref (gA (zG Z) 0)), (1, .int v1), (2, .int x2), (3, .int (x3 + 1))]) [2, 3, 4, 0] rfl ?_)
          exact ih p22.2 x2 (x3 + 1) h
        · replace h := (if_pos c23).symm.trans h
          refine R_iload_n X 3 d_BA_wholes_65 rfl ?_
          refine R_iconst (v := (1 : Int32)) X d_BA_wholes_66 rfl ?_
          refine R_iload_n X 4 d_BA_wholes_67 rfl ?_
          refine R_ishl X d_BA_wholes_68 ?_
          refine R_ior X d_BA_wholes_69 ?_
          refine V_pc (pc' := 70) rfl ?_
          refine R_istore_n (L' := [(2, .int (x2 ||| ((1 : Int32) <<< (x3 &&& 31)))), (4, .int ((hp 4 (x3).toNatClampNeg) + p14.1)), (0, .ref (gA (zG Z) 0)), (1, .int v1), (3, .int x3)]) X d_BA_wholes_70 (by decide) rfl ?_
          refine R_iinc (v := (x3 + 1)) (L' := [(3, .int (x3 + 1)), (2, .int (x2 ||| ((1 : Int32) <<< (x3 &&& 31)))), (4, .int ((hp 4 (x3).toNatClampNeg) + p14.1)), (0, .ref (gA (zG Z) 0)), (1, .int v1)]) X 4 d_BA_wholes_71 rfl rfl (by decide) rfl ?_
          refine R_goto (tgt := 4) X d_BA_wholes_74 rfl ?_
          refine V_pc (pc' := 4) rfl (R_loc (L' := [(0, .ref (gA (zG Z) 0)), (1, .int v1), (2, .int (x2 ||| ((1 : Int32) <<< (x3 &&& 31)))), (3, .int (x3 + 1))]) [3, 4, 1, 0] rfl ?_)
          exact ih p22.2 (x2 ||| ((1 : Int32) <<< (x3 &&& 31))) (x3 + 1) h
set_option maxRecDepth 20000 in
set_option maxHeartbeats 2000000 in
theorem T_BA_wholes {Z : ZT} (X : CX Z Y_BA_wholes) {hp : HP} {a1 : Int32} {p : Int32 × HP} (h : f_BA_wholes hp a1 = some p) (hR : RetI Z Y_BA_wholes .int p.1 p.2) : V Z Y_BA_wholes hp 0 [(0, .ref (gA (zG Z) 0)), (1, .int a1)] [] := by
  unfold f_BA_wholes at h
  refine R_iconst (v := (0 : Int32)) X d_BA_wholes_0 rfl ?_
  refine R_istore_n (L' := [(2, .int (0 : Int32)), (0, .ref (gA (zG Z) 0)), (1, .int a1)]) X d_BA_wholes_1 (by decide) rfl ?_
  refine R_iconst (v := (0 : Int32)) X d_BA_wholes_2 rfl ?_
  refine R_istore_n (L' := [(3, .int (0 : Int32)), (2, .int (0 : Int32)), (0, .ref (gA (zG Z) 0)), (1, .int a1)]) X d_BA_wholes_3 (by decide) rfl ?_
  refine V_pc (pc' := 4) rfl (R_loc (L' := [(0, .ref (gA (zG Z) 0)), (1, .int a1), (2, .int (0 : Int32)), (3, .int (0 : Int32))]) [2, 3, 1, 0] rfl ?_)
  refine T_BA_wholes_L4 X hR (fun hp25 w24 h => ?_) _ hp (0 : Int32) (0 : Int32) h
  refine R_iload_n X 0 d_BA_wholes_77 rfl ?_
  exact R_ret hR h d_BA_wholes_78
theorem M_BA_wholes {G : GT} {hp : HP} {a1 : Int32} {p : Int32 × HP} (h : f_BA_wholes hp a1 = some p) : MI G y_BA_wholes Y_BA_wholes .int [.ref (gA G 0), .int a1] hp p.1 p.2 := MI_of rfl (fun Z hz X hR => by subst hz; exact T_BA_wholes X h hR)
theorem d_BA_cleared_0 : decode prog_1_method_39_code 0 = .ok (.iconst 0, 1) := by decide +kernel
theorem d_BA_cleared_1 : decode prog_1_method_39_code 1 = .ok (.istore_n 1, 1) := by decide +kernel
theorem d_BA_cleared_2 : decode prog_1_method_39_code 2 = .ok (.iconst 0, 1) := by decide +kernel
theorem d_BA_cleared_3 : decode prog_1_method_39_code 3 = .ok (.istore_n 2, 1) := by decide +kernel
theorem d_BA_cleared_4 : decode prog_1_method_39_code 4 = .ok (.iload_n 2, 1) := by decide +kernel
theorem d_BA_cleared_5 : decode prog_1_method_39_code 5 = .ok (.aload_n 0, 1) := by decide +kernel
theorem d_BA_cleared_6 : decode prog_1_method_39_code 6 = .ok (.getfield 59, 3) := by decide +kernel
theorem d_BA_cleared_9 : decode prog_1_method_39_code 9 = .ok (.getfield 99, 3) := by decide +kernel
theorem d_BA_cleared_12 : decode prog_1_method_39_code 12 = .ok (.if_icmp .ge (23), 3) := by decide +kernel
theorem d_BA_cleared_15 : decode prog_1_method_39_code 15 = .ok (.aload_n 0, 1) := by decide +kernel
theorem d_BA_cleared_16 : decode prog_1_method_39_code 16 = .ok (.getfield 19, 3) := by decide +kernel
theorem d_BA_cleared_19 : decode prog_1_method_39_code 19 = .ok (.iload_n 2, 1) := by decide +kernel
theorem d_BA_cleared_20 : decode prog_1_method_39_code 20 = .ok (.invokevirtual 161, 3) := by decide +kernel
theorem d_BA_cleared_23 : decode prog_1_method_39_code 23 = .ok (.ifCond .ge (6), 3) := by decide +kernel
theorem d_BA_cleared_26 : decode prog_1_method_39_code 26 = .ok (.iinc 1 (1), 3) := by decide +kernel
theorem d_BA_cleared_29 : decode prog_1_method_39_code 29 = .ok (.iinc 2 (1), 3) := by decide +kernel
theorem d_BA_cleared_32 : decode prog_1_method_39_code 32 = .ok (.goto (-28), 3) := by decide +kernel
theorem d_BA_cleared_35 : decode prog_1_method_39_code 35 = .ok (.iload_n 1, 1) := by decide +kernel
theorem d_BA_cleared_36 : decode prog_1_method_39_code 36 = .ok (.ireturn, 1) := by decide +kernel
set_option maxRecDepth 20000 in
set_option maxHeartbeats 2000000 in
theorem T_BA_cleared_L4 {Z : ZT} (X : CX Z Y_BA_cleared) {p : Int32 × HP} (hR : RetI Z Y_BA_cleared .int p.1 p.2) {K : HP → Int32 → Option (Int32 × HP)} (hK : ∀ (hp : HP) (x1 : Int32), K hp x1 = some p → V Z Y_BA_cleared hp 35 [(1, .int x1)] []) : ∀ (n : Nat) (hp : HP) (x1 : Int32) (x2 : Int32), f_BA_cleared_L4 K n hp x1 x2 = some p → V Z Y_BA_cleared hp 4 [(0, .ref (gA (zG Z) 0)), (1, .int x1), (2, .int x2)] [] := by
  intro n
  induction n with
  | zero =>
    intro hp x1 x2 h
    cases h
  | succ n ih =>
    intro hp x1 x2 h
    replace h : f_BA_cleared_L4 K (n + 1) hp x1 x2 = some p := h
    unfold f_BA_cleared_L4 at h
    refine R_iload_n X 2 d_BA_cleared_4 rfl ?_
    refine R_aload_n X 0 d_BA_cleared_5 rfl ?_
    refine R_getD (ci := 6) X rfl iBA_ok (of_decide_eq_true rfl) rfl 8 rfl rfl tw_242 d_BA_cleared_6 ?_
    obtain ⟨b1, h⟩ := ck h
    refine R_getI (ci := 0) X rfl iBr_ok (B_all _ b1).1.1 (B_all _ b1).1.2 6 rfl rfl tw_212 d_BA_cleared_9 ?_
    refine R_icmp_ge (tgt := 35) X d_BA_cleared_12 rfl (fun c2 => ?_) (fun c2 => ?_)
    · replace h := (if_pos c2).symm.trans h
      refine V_pc (pc' := 35) rfl (R_loc (L' := [(1, .int x1)]) [1] rfl ?_)
      exact hK hp x1 h
    · replace h := (if_neg c2).symm.trans h
      refine R_aload_n X 0 d_BA_cleared_15 rfl ?_
      refine R_getR (ci := 6) X rfl iBA_ok (of_decide_eq_true rfl) rfl 1 rfl rfl tw_235 d_BA_cleared_16 ?_
      refine R_iload_n X 2 d_BA_cleared_19 rfl ?_
      obtain ⟨p4, e3, h⟩ := ob h
      refine R_vcall (ci := 5) (k := 3) (As := [.int x2]) (st := []) X (M_St_netOf rfl e3) tw_383 cf_St_netOf (of_decide_eq_true rfl) rfl rfl rfl rfl rfl d_BA_cleared_20 ?_
      refine R_ifge (tgt := 29) X d_BA_cleared_23 rfl (fun c5 => ?_) (fun c5 => ?_)
      · replace h := (if_pos c5).symm.trans h
        refine R_iinc (v := (x2 + 1)) (L' := [(2, .int (x2 + 1)), (0, .ref (gA (zG Z) 0)), (1, .int x1)]) X 2 d_BA_cleared_29 rfl rfl (by decide) rfl ?_
        refine R_goto (tgt := 4) X d_BA_cleared_32 rfl ?_
        refine V_pc (pc' := 4) rfl (R_loc (L' := [(0, .ref (gA (zG Z) 0)), (1, .int x1), (2, .int (x2 + 1))]) [1, 2, 0] rfl ?_)
        exact ih p4.2 x1 (x2 + 1) h
      · replace h := (if_neg c5).symm.trans h
        refine R_iinc (v := (x1 + 1)) (L' := [(1, .int (x1 + 1)), (0, .ref (gA (zG Z) 0)), (2, .int x2)]) X 1 d_BA_cleared_26 rfl rfl (by decide) rfl ?_
        refine R_iinc (v := (x2 + 1)) (L' := [(2, .int (x2 + 1)), (1, .int (x1 + 1)), (0, .ref (gA (zG Z) 0))]) X 2 d_BA_cleared_29 rfl rfl (by decide) rfl ?_
        refine R_goto (tgt := 4) X d_BA_cleared_32 rfl ?_
        refine V_pc (pc' := 4) rfl (R_loc (L' := [(0, .ref (gA (zG Z) 0)), (1, .int (x1 + 1)), (2, .int (x2 + 1))]) [2, 1, 0] rfl ?_)
        exact ih p4.2 (x1 + 1) (x2 + 1) h
set_option maxRecDepth 20000 in
set_option maxHeartbeats 2000000 in
theorem T_BA_cleared {Z : ZT} (X : CX Z Y_BA_cleared) {hp : HP} {p : Int32 × HP} (h : f_BA_cleared hp = some p) (hR : RetI Z Y_BA_cleared .int p.1 p.2) : V Z Y_BA_cleared hp 0 [(0, .ref (gA (zG Z) 0))] [] := by
  unfold f_BA_cleared at h
  refine R_iconst (v := (0 : Int32)) X d_BA_cleared_0 rfl ?_
  refine R_istore_n (L' := [(1, .int (0 : Int32)), (0, .ref (gA (zG Z) 0))]) X d_BA_cleared_1 (by decide) rfl ?_
  refine R_iconst (v := (0 : Int32)) X d_BA_cleared_2 rfl ?_
  refine R_istore_n (L' := [(2, .int (0 : Int32)), (1, .int (0 : Int32)), (0, .ref (gA (zG Z) 0))]) X d_BA_cleared_3 (by decide) rfl ?_
  refine V_pc (pc' := 4) rfl (R_loc (L' := [(0, .ref (gA (zG Z) 0)), (1, .int (0 : Int32)), (2, .int (0 : Int32))]) [2, 1, 0] rfl ?_)
  refine T_BA_cleared_L4 X hR (fun hp7 w6 h => ?_) _ hp (0 : Int32) (0 : Int32) h
  refine R_iload_n X 0 d_BA_cleared_35 rfl ?_
  exact R_ret hR h d_BA_cleared_36
theorem M_BA_cleared {G : GT} {hp : HP} {p : Int32 × HP} (h : f_BA_cleared hp = some p) : MI G y_BA_cleared Y_BA_cleared .int [.ref (gA G 0)] hp p.1 p.2 := MI_of rfl (fun Z hz X hR => by subst hz; exact T_BA_cleared X h hR)
theorem d_BA_told_0 : decode prog_1_method_5_code 0 = .ok (.iload_n 1, 1) := by decide +kernel
theorem d_BA_told_1 : decode prog_1_method_5_code 1 = .ok (.tableswitch 173 0 13 #[71, 79, 87, 95, 103, 111, 116, 122, 127, 133, 141, 149, 157, 165], 71) := by decide +kernel
theorem d_BA_told_72 : decode prog_1_method_5_code 72 = .ok (.aload_n 0, 1) := by decide +kernel
theorem d_BA_told_73 : decode prog_1_method_5_code 73 = .ok (.getfield 59, 3) := by decide +kernel
theorem d_BA_told_76 : decode prog_1_method_5_code 76 = .ok (.getfield 102, 3) := by decide +kernel
theorem d_BA_told_79 : decode prog_1_method_5_code 79 = .ok (.ireturn, 1) := by decide +kernel
theorem d_BA_told_80 : decode prog_1_method_5_code 80 = .ok (.aload_n 0, 1) := by decide +kernel
theorem d_BA_told_81 : decode prog_1_method_5_code 81 = .ok (.getfield 59, 3) := by decide +kernel
theorem d_BA_told_84 : decode prog_1_method_5_code 84 = .ok (.getfield 99, 3) := by decide +kernel
theorem d_BA_told_87 : decode prog_1_method_5_code 87 = .ok (.ireturn, 1) := by decide +kernel
theorem d_BA_told_88 : decode prog_1_method_5_code 88 = .ok (.aload_n 0, 1) := by decide +kernel
theorem d_BA_told_89 : decode prog_1_method_5_code 89 = .ok (.getfield 59, 3) := by decide +kernel
theorem d_BA_told_92 : decode prog_1_method_5_code 92 = .ok (.getfield 105, 3) := by decide +kernel
theorem d_BA_told_95 : decode prog_1_method_5_code 95 = .ok (.ireturn, 1) := by decide +kernel
theorem d_BA_told_96 : decode prog_1_method_5_code 96 = .ok (.aload_n 0, 1) := by decide +kernel
theorem d_BA_told_97 : decode prog_1_method_5_code 97 = .ok (.getfield 10, 3) := by decide +kernel
theorem d_BA_told_100 : decode prog_1_method_5_code 100 = .ok (.getfield 78, 3) := by decide +kernel
theorem d_BA_told_103 : decode prog_1_method_5_code 103 = .ok (.ireturn, 1) := by decide +kernel
theorem d_BA_told_104 : decode prog_1_method_5_code 104 = .ok (.aload_n 0, 1) := by decide +kernel
theorem d_BA_told_105 : decode prog_1_method_5_code 105 = .ok (.getfield 19, 3) := by decide +kernel
theorem d_BA_told_108 : decode prog_1_method_5_code 108 = .ok (.getfield 108, 3) := by decide +kernel
theorem d_BA_told_111 : decode prog_1_method_5_code 111 = .ok (.ireturn, 1) := by decide +kernel
theorem d_BA_told_112 : decode prog_1_method_5_code 112 = .ok (.aload_n 0, 1) := by decide +kernel
theorem d_BA_told_113 : decode prog_1_method_5_code 113 = .ok (.invokevirtual 111, 3) := by decide +kernel
theorem d_BA_told_116 : decode prog_1_method_5_code 116 = .ok (.ireturn, 1) := by decide +kernel
theorem d_BA_told_117 : decode prog_1_method_5_code 117 = .ok (.aload_n 0, 1) := by decide +kernel
theorem d_BA_told_118 : decode prog_1_method_5_code 118 = .ok (.iconst 0, 1) := by decide +kernel
theorem d_BA_told_119 : decode prog_1_method_5_code 119 = .ok (.invokevirtual 115, 3) := by decide +kernel
theorem d_BA_told_122 : decode prog_1_method_5_code 122 = .ok (.ireturn, 1) := by decide +kernel
theorem d_BA_told_123 : decode prog_1_method_5_code 123 = .ok (.aload_n 0, 1) := by decide +kernel
theorem d_BA_told_124 : decode prog_1_method_5_code 124 = .ok (.invokevirtual 119, 3) := by decide +kernel
theorem d_BA_told_127 : decode prog_1_method_5_code 127 = .ok (.ireturn, 1) := by decide +kernel
theorem d_BA_told_128 : decode prog_1_method_5_code 128 = .ok (.aload_n 0, 1) := by decide +kernel
theorem d_BA_told_129 : decode prog_1_method_5_code 129 = .ok (.iconst 1, 1) := by decide +kernel
theorem d_BA_told_130 : decode prog_1_method_5_code 130 = .ok (.invokevirtual 115, 3) := by decide +kernel
theorem d_BA_told_133 : decode prog_1_method_5_code 133 = .ok (.ireturn, 1) := by decide +kernel
theorem d_BA_told_134 : decode prog_1_method_5_code 134 = .ok (.aload_n 0, 1) := by decide +kernel
theorem d_BA_told_135 : decode prog_1_method_5_code 135 = .ok (.getfield 33, 3) := by decide +kernel
theorem d_BA_told_138 : decode prog_1_method_5_code 138 = .ok (.getfield 122, 3) := by decide +kernel
theorem d_BA_told_141 : decode prog_1_method_5_code 141 = .ok (.ireturn, 1) := by decide +kernel
theorem d_BA_told_142 : decode prog_1_method_5_code 142 = .ok (.aload_n 0, 1) := by decide +kernel
theorem d_BA_told_143 : decode prog_1_method_5_code 143 = .ok (.getfield 33, 3) := by decide +kernel
theorem d_BA_told_146 : decode prog_1_method_5_code 146 = .ok (.getfield 125, 3) := by decide +kernel
theorem d_BA_told_149 : decode prog_1_method_5_code 149 = .ok (.ireturn, 1) := by decide +kernel
theorem d_BA_told_150 : decode prog_1_method_5_code 150 = .ok (.aload_n 0, 1) := by decide +kernel
theorem d_BA_told_151 : decode prog_1_method_5_code 151 = .ok (.getfield 33, 3) := by decide +kernel
theorem d_BA_told_154 : decode prog_1_method_5_code 154 = .ok (.getfield 128, 3) := by decide +kernel
theorem d_BA_told_157 : decode prog_1_method_5_code 157 = .ok (.ireturn, 1) := by decide +kernel
theorem d_BA_told_158 : decode prog_1_method_5_code 158 = .ok (.aload_n 0, 1) := by decide +kernel
theorem d_BA_told_159 : decode prog_1_method_5_code 159 = .ok (.getfield 33, 3) := by decide +kernel
theorem d_BA_told_162 : decode prog_1_method_5_code 162 = .ok (.getfield 131, 3) := by decide +kernel
theorem d_BA_told_165 : decode prog_1_method_5_code 165 = .ok (.ireturn, 1) := by decide +kernel
theorem d_BA_told_166 : decode prog_1_method_5_code 166 = .ok (.aload_n 0, 1) := by decide +kernel
theorem d_BA_told_167 : decode prog_1_method_5_code 167 = .ok (.getfield 26, 3) := by decide +kernel
theorem d_BA_told_170 : decode prog_1_method_5_code 170 = .ok (.getfield 134, 3) := by decide +kernel
theorem d_BA_told_173 : decode prog_1_method_5_code 173 = .ok (.ireturn, 1) := by decide +kernel
theorem d_BA_told_174 : decode prog_1_method_5_code 174 = .ok (.ldc 77, 2) := by decide +kernel
theorem d_BA_told_176 : decode prog_1_method_5_code 176 = .ok (.ireturn, 1) := by decide +kernel
set_option maxRecDepth 20000 in
set_option maxHeartbeats 2000000 in
theorem T_BA_told {Z : ZT} (X : CX Z Y_BA_told) {hp : HP} {a1 : Int32} {p : Int32 × HP} (h : f_BA_told hp a1 = some p) (hR : RetI Z Y_BA_told .int p.1 p.2) : V Z Y_BA_told hp 0 [(0, .ref (gA (zG Z) 0)), (1, .int a1)] [] := by
  unfold f_BA_told at h
  refine R_iload_n X 1 d_BA_told_0 rfl ?_
  by_cases c1 : a1 = 0
  · replace h := (if_pos c1).symm.trans h
    refine R_swIn (tgt := 72) X d_BA_told_1 0 (by rw [c1]; rfl) (by decide) (by decide) rfl rfl ?_
    refine R_aload_n X 0 d_BA_told_72 rfl ?_
    refine R_getD (ci := 6) X rfl iBA_ok (of_decide_eq_true rfl) rfl 8 rfl rfl tw_242 d_BA_told_73 ?_
    obtain ⟨b2, h⟩ := ck h
    refine R_getI (ci := 0) X rfl iBr_ok (B_all _ b2).1.1 (B_all _ b2).1.2 5 rfl rfl tw_209 d_BA_told_76 ?_
    exact R_ret hR h d_BA_told_79
  replace h := (if_neg c1).symm.trans h
  by_cases c3 : a1 = 1
  · replace h := (if_pos c3).symm.trans h
    refine R_swIn (tgt := 80) X d_BA_told_1 1 (by rw [c3]; rfl) (by decide) (by decide) rfl rfl ?_
    refine R_aload_n X 0 d_BA_told_80 rfl ?_
    refine R_getD (ci := 6) X rfl iBA_ok (of_decide_eq_true rfl) rfl 8 rfl rfl tw_242 d_BA_told_81 ?_
    obtain ⟨b4, h⟩ := ck h
    refine R_getI (ci := 0) X rfl iBr_ok (B_all _ b4).1.1 (B_all _ b4).1.2 6 rfl rfl tw_212 d_BA_told_84 ?_
    exact R_ret hR h d_BA_told_87
  replace h := (if_neg c3).symm.trans h
  by_cases c5 : a1 = 2
  · replace h := (if_pos c5).symm.trans h
    refine R_swIn (tgt := 88) X d_BA_told_1 2 (by rw [c5]; rfl) (by decide) (by decide) rfl rfl ?_
    refine R_aload_n X 0 d_BA_told_88 rfl ?_
    refine R_getD (ci := 6) X rfl iBA_ok (of_decide_eq_true rfl) rfl 8 rfl rfl tw_242 d_BA_told_89 ?_
    obtain ⟨b6, h⟩ := ck h
    refine R_getI (ci := 0) X rfl iBr_ok (B_all _ b6).1.1 (B_all _ b6).1.2 7 rfl rfl tw_216 d_BA_told_92 ?_
    exact R_ret hR h d_BA_told_95
  replace h := (if_neg c5).symm.trans h
  by_cases c7 : a1 = 3
  · replace h := (if_pos c7).symm.trans h
    refine R_swIn (tgt := 96) X d_BA_told_1 3 (by rw [c7]; rfl) (by decide) (by decide) rfl rfl ?_
    refine R_aload_n X 0 d_BA_told_96 rfl ?_
    refine R_getR (ci := 6) X rfl iBA_ok (of_decide_eq_true rfl) rfl 0 rfl rfl tw_234 d_BA_told_97 ?_
    refine R_getI (ci := 3) X rfl iRe_ok (of_decide_eq_true rfl) rfl 1 rfl rfl tw_74 d_BA_told_100 ?_
    exact R_ret hR h d_BA_told_103
  replace h := (if_neg c7).symm.trans h
  by_cases c8 : a1 = 4
  · replace h := (if_pos c8).symm.trans h
    refine R_swIn (tgt := 104) X d_BA_told_1 4 (by rw [c8]; rfl) (by decide) (by decide) rfl rfl ?_
    refine R_aload_n X 0 d_BA_told_104 rfl ?_
    refine R_getR (ci := 6) X rfl iBA_ok (of_decide_eq_true rfl) rfl 1 rfl rfl tw_235 d_BA_told_105 ?_
    refine R_getI (ci := 5) X rfl iSt_ok (of_decide_eq_true rfl) rfl 2 rfl rfl tw_101 d_BA_told_108 ?_
    exact R_ret hR h d_BA_told_111
  replace h := (if_neg c8).symm.trans h
  by_cases c9 : a1 = 5
  · replace h := (if_pos c9).symm.trans h
    refine R_swIn (tgt := 112) X d_BA_told_1 5 (by rw [c9]; rfl) (by decide) (by decide) rfl rfl ?_
    refine R_aload_n X 0 d_BA_told_112 rfl ?_
    obtain ⟨p11, e10, h⟩ := ob h
    refine R_vcall (ci := 6) (k := 0) (As := []) (st := []) X (M_BA_hats e10) tw_371 cf_BA_hats (of_decide_eq_true rfl) rfl rfl rfl rfl rfl d_BA_told_113 ?_
    exact R_ret hR h d_BA_told_116
  replace h := (if_neg c9).symm.trans h
  by_cases c12 : a1 = 6
  · replace h := (if_pos c12).symm.trans h
    refine R_swIn (tgt := 117) X d_BA_told_1 6 (by rw [c12]; rfl) (by decide) (by decide) rfl rfl ?_
    refine R_aload_n X 0 d_BA_told_117 rfl ?_
    refine R_iconst (v := (0 : Int32)) X d_BA_told_118 rfl ?_
    obtain ⟨p14, e13, h⟩ := ob h
    refine R_vcall (ci := 6) (k := 0) (As := [.int (0 : Int32)]) (st := []) X (M_BA_wholes e13) tw_379 cf_BA_wholes (of_decide_eq_true rfl) rfl rfl rfl rfl rfl d_BA_told_119 ?_
    exact R_ret hR h d_BA_told_122
  replace h := (if_neg c12).symm.trans h
  by_cases c15 : a1 = 7
  · replace h := (if_pos c15).symm.trans h
    refine R_swIn (tgt := 123) X d_BA_told_1 7 (by rw [c15]; rfl) (by decide) (by decide) rfl rfl ?_
    refine R_aload_n X 0 d_BA_told_123 rfl ?_
    obtain ⟨p17, e16, h⟩ := ob h
    refine R_vcall (ci := 6) (k := 0) (As := []) (st := []) X (M_BA_cleared e16) tw_401 cf_BA_cleared (of_decide_eq_true rfl) rfl rfl rfl rfl rfl d_BA_told_124 ?_
    exact R_ret hR h d_BA_told_127
  replace h := (if_neg c15).symm.trans h
  by_cases c18 : a1 = 8
  · replace h := (if_pos c18).symm.trans h
    refine R_swIn (tgt := 128) X d_BA_told_1 8 (by rw [c18]; rfl) (by decide) (by decide) rfl rfl ?_
    refine R_aload_n X 0 d_BA_told_128 rfl ?_
    refine R_iconst (v := (1 : Int32)) X d_BA_told_129 rfl ?_
    obtain ⟨p20, e19, h⟩ := ob h
    refine R_vcall (ci := 6) (k := 0) (As := [.int (1 : Int32)]) (st := []) X (M_BA_wholes e19) tw_379 cf_BA_wholes (of_decide_eq_true rfl) rfl rfl rfl rfl rfl d_BA_told_130 ?_
    exact R_ret hR h d_BA_told_133
  replace h := (if_neg c18).symm.trans h
  by_cases c21 : a1 = 9
  · replace h := (if_pos c21).symm.trans h
    refine R_swIn (tgt := 134) X d_BA_told_1 9 (by rw [c21]; rfl) (by decide) (by decide) rfl rfl ?_
    refine R_aload_n X 0 d_BA_told_134 rfl ?_
    refine R_getR (ci := 6) X rfl iBA_ok (of_decide_eq_true rfl) rfl 3 rfl rfl tw_237 d_BA_told_135 ?_
    refine R_getI (ci := 4) X rfl iSl_ok (of_decide_eq_true rfl) rfl 7 rfl rfl tw_149 d_BA_told_138 ?_
    exact R_ret hR h d_BA_told_141
  replace h := (if_neg c21).symm.trans h
  by_cases c22 : a1 = 10
  · replace h := (if_pos c22).symm.trans h
    refine R_swIn (tgt := 142) X d_BA_told_1 10 (by rw [c22]; rfl) (by decide) (by decide) rfl rfl ?_
    refine R_aload_n X 0 d_BA_told_142 rfl ?_
    refine R_getR (ci := 6) X rfl iBA_ok (of_decide_eq_true rfl) rfl 3 rfl rfl tw_237 d_BA_told_143 ?_
    refine R_getI (ci := 4) X rfl iSl_ok (of_decide_eq_true rfl) rfl 8 rfl rfl tw_151 d_BA_told_146 ?_
    exact R_ret hR h d_BA_told_149
  replace h := (if_neg c22).symm.trans h
  by_cases c23 : a1 = 11
  · replace h := (if_pos c23).symm.trans h
    refine R_swIn (tgt := 150) X d_BA_told_1 11 (by rw [c23]; rfl) (by decide) (by decide) rfl rfl ?_
    refine R_aload_n X 0 d_BA_told_150 rfl ?_
    refine R_getR (ci := 6) X rfl iBA_ok (of_decide_eq_true rfl) rfl 3 rfl rfl tw_237 d_BA_told_151 ?_
    refine R_getI (ci := 4) X rfl iSl_ok (of_decide_eq_true rfl) rfl 9 rfl rfl tw_154 d_BA_told_154 ?_
    exact R_ret hR h d_BA_told_157
  replace h := (if_neg c23).symm.trans h
  by_cases c24 : a1 = 12
  · replace h := (if_pos c24).symm.trans h
    refine R_swIn (tgt := 158) X d_BA_told_1 12 (by rw [c24]; rfl) (by decide) (by decide) rfl rfl ?_
    refine R_aload_n X 0 d_BA_told_158 rfl ?_
    refine R_getR (ci := 6) X rfl iBA_ok (of_decide_eq_true rfl) rfl 3 rfl rfl tw_237 d_BA_told_159 ?_
    refine R_getI (ci := 4) X rfl iSl_ok (of_decide_eq_true rfl) rfl 10 rfl rfl tw_156 d_BA_told_162 ?_
    exact R_ret hR h d_BA_told_165
  replace h := (if_neg c24).symm.trans h
  by_cases c25 : a1 = 13
  · replace h := (if_pos c25).symm.trans h
    refine R_swIn (tgt := 166) X d_BA_told_1 13 (by rw [c25]; rfl) (by decide) (by decide) rfl rfl ?_
    refine R_aload_n X 0 d_BA_told_166 rfl ?_
    refine R_getR (ci := 6) X rfl iBA_ok (of_decide_eq_true rfl) rfl 2 rfl rfl tw_236 d_BA_told_167 ?_
    refine R_getI (ci := 1) X rfl iPa_ok (of_decide_eq_true rfl) rfl 2 rfl rfl tw_121 d_BA_told_170 ?_
    exact R_ret hR h d_BA_told_173
  replace h := (if_neg c25).symm.trans h
  refine R_swOut (tgt := 174) X d_BA_told_1 (sw_def 14 (by decide) (fun k hk => by
    match k, hk with
    | 0, _ => exact c1
    | 1, _ => exact c3
    | 2, _ => exact c5
    | 3, _ => exact c7
    | 4, _ => exact c8
    | 5, _ => exact c9
    | 6, _ => exact c12
    | 7, _ => exact c15
    | 8, _ => exact c18
    | 9, _ => exact c21
    | 10, _ => exact c22
    | 11, _ => exact c23
    | 12, _ => exact c24
    | 13, _ => exact c25
    | k + 14, hk => exact absurd hk (by omega))) rfl ?_
  refine R_ldc (v := (-1000000002 : Int32)) X tw_278 d_BA_told_174 ?_
  exact R_ret hR h d_BA_told_176
theorem M_BA_told {G : GT} {hp : HP} {a1 : Int32} {p : Int32 × HP} (h : f_BA_told hp a1 = some p) : MI G y_BA_told Y_BA_told .int [.ref (gA G 0), .int a1] hp p.1 p.2 := MI_of rfl (fun Z hz X hR => by subst hz; exact T_BA_told X h hR)
theorem d_Br_hasPart_0 : decode prog_2_method_7_code 0 = .ok (.iload_n 1, 1) := by decide +kernel
theorem d_Br_hasPart_1 : decode prog_2_method_7_code 1 = .ok (.iconst 0, 1) := by decide +kernel
theorem d_Br_hasPart_2 : decode prog_2_method_7_code 2 = .ok (.aload_n 0, 1) := by decide +kernel
theorem d_Br_hasPart_3 : decode prog_2_method_7_code 3 = .ok (.getfield 27, 3) := by decide +kernel
theorem d_Br_hasPart_6 : decode prog_2_method_7_code 6 = .ok (.iconst 1, 1) := by decide +kernel
theorem d_Br_hasPart_7 : decode prog_2_method_7_code 7 = .ok (.isub, 1) := by decide +kernel
theorem d_Br_hasPart_8 : decode prog_2_method_7_code 8 = .ok (.invokestatic 37, 3) := by decide +kernel
theorem d_Br_hasPart_11 : decode prog_2_method_7_code 11 = .ok (.ireturn, 1) := by decide +kernel
set_option maxRecDepth 20000 in
set_option maxHeartbeats 2000000 in
theorem T_Br_hasPart {Z : ZT} (X : CX Z Y_Br_hasPart) {hp : HP} {q0 : Nat} {a1 : Int32} (hq0 : isB q0 = true) {p : Int32 × HP} (h : f_Br_hasPart hp q0 a1 = some p) (hR : RetI Z Y_Br_hasPart .boolean p.1 p.2) : V Z Y_Br_hasPart hp 0 [(0, .ref (gA (zG Z) q0)), (1, .int a1)] [] := by
  unfold f_Br_hasPart at h
  refine R_iload_n X 1 d_Br_hasPart_0 rfl ?_
  refine R_iconst (v := (0 : Int32)) X d_Br_hasPart_1 rfl ?_
  refine R_aload_n X 0 d_Br_hasPart_2 rfl ?_
  refine R_getI (ci := 0) X rfl iBr_ok (B_all _ hq0).1.1 (B_all _ hq0).1.2 5 rfl rfl tw_208 d_Br_hasPart_3 ?_
  refine R_iconst (v := (1 : Int32)) X d_Br_hasPart_6 rfl ?_
  refine V_pc (pc' := 7) rfl ?_
  refine R_isub X d_Br_hasPart_7 ?_
  obtain ⟨p2, e1, h⟩ := ob h
  refine R_ncall (As := [.int a1, .int (0 : Int32), .int ((hp q0 5) - (1 : Int32))]) (st := []) (host := "BodyAccounts") X (M_BA_within e1) (by decide +kernel) cf_BA_within rfl rfl rfl d_Br_hasPart_8 ?_
  exact R_retz hR h d_Br_hasPart_11
theorem M_Br_hasPart {G : GT} {hp : HP} {q0 : Nat} {a1 : Int32} (hq0 : isB q0 = true) {p : Int32 × HP} (h : f_Br_hasPart hp q0 a1 = some p) : MI G y_Br_hasPart Y_Br_hasPart .boolean [.ref (gA G q0), .int a1] hp p.1 p.2 := MI_of rfl (fun Z hz X hR => by subst hz; exact T_Br_hasPart X hq0 h hR)
theorem d_BA_part_0 : decode prog_1_method_6_code 0 = .ok (.aload_n 0, 1) := by decide +kernel
theorem d_BA_part_1 : decode prog_1_method_6_code 1 = .ok (.getfield 59, 3) := by decide +kernel
theorem d_BA_part_4 : decode prog_1_method_6_code 4 = .ok (.iload_n 1, 1) := by decide +kernel
theorem d_BA_part_5 : decode prog_1_method_6_code 5 = .ok (.invokevirtual 137, 3) := by decide +kernel
theorem d_BA_part_8 : decode prog_1_method_6_code 8 = .ok (.ifCond .eq (19), 3) := by decide +kernel
theorem d_BA_part_11 : decode prog_1_method_6_code 11 = .ok (.aload_n 0, 1) := by decide +kernel
theorem d_BA_part_12 : decode prog_1_method_6_code 12 = .ok (.getfield 59, 3) := by decide +kernel
theorem d_BA_part_15 : decode prog_1_method_6_code 15 = .ok (.getfield 141, 3) := by decide +kernel
theorem d_BA_part_18 : decode prog_1_method_6_code 18 = .ok (.iload_n 1, 1) := by decide +kernel
theorem d_BA_part_19 : decode prog_1_method_6_code 19 = .ok (.iaload, 1) := by decide +kernel
theorem d_BA_part_20 : decode prog_1_method_6_code 20 = .ok (.sipush (500), 3) := by decide +kernel
theorem d_BA_part_23 : decode prog_1_method_6_code 23 = .ok (.iadd, 1) := by decide +kernel
theorem d_BA_part_24 : decode prog_1_method_6_code 24 = .ok (.goto (5), 3) := by decide +kernel
theorem d_BA_part_27 : decode prog_1_method_6_code 27 = .ok (.ldc 144, 2) := by decide +kernel
theorem d_BA_part_29 : decode prog_1_method_6_code 29 = .ok (.ireturn, 1) := by decide +kernel
set_option maxRecDepth 20000 in
set_option maxHeartbeats 2000000 in
theorem T_BA_part {Z : ZT} (X : CX Z Y_BA_part) {hp : HP} {a1 : Int32} {p : Int32 × HP} (h : f_BA_part hp a1 = some p) (hR : RetI Z Y_BA_part .int p.1 p.2) : V Z Y_BA_part hp 0 [(0, .ref (gA (zG Z) 0)), (1, .int a1)] [] := by
  unfold f_BA_part at h
  refine R_aload_n X 0 d_BA_part_0 rfl ?_
  refine R_getD (ci := 6) X rfl iBA_ok (of_decide_eq_true rfl) rfl 8 rfl rfl tw_242 d_BA_part_1 ?_
  obtain ⟨b1, h⟩ := ck h
  refine R_iload_n X 1 d_BA_part_4 rfl ?_
  obtain ⟨p3, e2, h⟩ := ob h
  refine R_vcall (ci := 0) (k := (hp 0 8).toNatClampNeg) (As := [.int a1]) (st := []) X (M_Br_hasPart b1 e2) tw_409 cf_Br_hasPart (B_all _ b1).1.1 (B_all _ b1).1.2 rfl rfl rfl rfl d_BA_part_5 ?_
  refine R_ifeq (tgt := 27) X d_BA_part_8 rfl (fun c4 => ?_) (fun c4 => ?_)
  · replace h := (if_pos c4).symm.trans h
    refine R_ldc (v := (-1000000001 : Int32)) X tw_414 d_BA_part_27 ?_
    exact R_ret hR h d_BA_part_29
  · replace h := (if_neg c4).symm.trans h
    refine R_aload_n X 0 d_BA_part_11 rfl ?_
    refine R_getD (ci := 6) X rfl iBA_ok (of_decide_eq_true rfl) rfl 8 rfl rfl tw_242 d_BA_part_12 ?_
    obtain ⟨b5, h⟩ := ck h
    refine R_getR (ci := 0) X rfl iBr_ok (B_all _ b5).1.1 (B_all _ b5).1.2 0 rfl rfl tw_199 d_BA_part_15 ?_
    refine R_iload_n X 1 d_BA_part_18 rfl ?_
    obtain ⟨i6, h⟩ := ck h
    refine R_iald (n := 8) X (B_all _ b5).2.1.1 (B_all _ b5).2.1.2 i6 d_BA_part_19 ?_
    refine V_pc (pc' := 20) rfl ?_
    refine R_sipush (v := (500 : Int32)) X d_BA_part_20 rfl ?_
    refine R_iadd X d_BA_part_23 ?_
    refine R_goto (tgt := 29) X d_BA_part_24 rfl ?_
    exact R_ret hR h d_BA_part_29
theorem M_BA_part {G : GT} {hp : HP} {a1 : Int32} {p : Int32 × HP} (h : f_BA_part hp a1 = some p) : MI G y_BA_part Y_BA_part .int [.ref (gA G 0), .int a1] hp p.1 p.2 := MI_of rfl (fun Z hz X hR => by subst hz; exact T_BA_part X h hR)
theorem d_Br_hasCustomer_0 : decode prog_2_method_8_code 0 = .ok (.iload_n 1, 1) := by decide +kernel
theorem d_Br_hasCustomer_1 : decode prog_2_method_8_code 1 = .ok (.iconst 0, 1) := by decide +kernel
theorem d_Br_hasCustomer_2 : decode prog_2_method_8_code 2 = .ok (.aload_n 0, 1) := by decide +kernel
theorem d_Br_hasCustomer_3 : decode prog_2_method_8_code 3 = .ok (.getfield 31, 3) := by decide +kernel
theorem d_Br_hasCustomer_6 : decode prog_2_method_8_code 6 = .ok (.iconst 1, 1) := by decide +kernel
theorem d_Br_hasCustomer_7 : decode prog_2_method_8_code 7 = .ok (.isub, 1) := by decide +kernel
theorem d_Br_hasCustomer_8 : decode prog_2_method_8_code 8 = .ok (.invokestatic 37, 3) := by decide +kernel
theorem d_Br_hasCustomer_11 : decode prog_2_method_8_code 11 = .ok (.ireturn, 1) := by decide +kernel
set_option maxRecDepth 20000 in
set_option maxHeartbeats 2000000 in
theorem T_Br_hasCustomer {Z : ZT} (X : CX Z Y_Br_hasCustomer) {hp : HP} {q0 : Nat} {a1 : Int32} (hq0 : isB q0 = true) {p : Int32 × HP} (h : f_Br_hasCustomer hp q0 a1 = some p) (hR : RetI Z Y_Br_hasCustomer .boolean p.1 p.2) : V Z Y_Br_hasCustomer hp 0 [(0, .ref (gA (zG Z) q0)), (1, .int a1)] [] := by
  unfold f_Br_hasCustomer at h
  refine R_iload_n X 1 d_Br_hasCustomer_0 rfl ?_
  refine R_iconst (v := (0 : Int32)) X d_Br_hasCustomer_1 rfl ?_
  refine R_aload_n X 0 d_Br_hasCustomer_2 rfl ?_
  refine R_getI (ci := 0) X rfl iBr_ok (B_all _ hq0).1.1 (B_all _ hq0).1.2 6 rfl rfl tw_210 d_Br_hasCustomer_3 ?_
  refine R_iconst (v := (1 : Int32)) X d_Br_hasCustomer_6 rfl ?_
  refine V_pc (pc' := 7) rfl ?_
  refine R_isub X d_Br_hasCustomer_7 ?_
  obtain ⟨p2, e1, h⟩ := ob h
  refine R_ncall (As := [.int a1, .int (0 : Int32), .int ((hp q0 6) - (1 : Int32))]) (st := []) (host := "BodyAccounts") X (M_BA_within e1) (by decide +kernel) cf_BA_within rfl rfl rfl d_Br_hasCustomer_8 ?_
  exact R_retz hR h d_Br_hasCustomer_11
theorem M_Br_hasCustomer {G : GT} {hp : HP} {q0 : Nat} {a1 : Int32} (hq0 : isB q0 = true) {p : Int32 × HP} (h : f_Br_hasCustomer hp q0 a1 = some p) : MI G y_Br_hasCustomer Y_Br_hasCustomer .boolean [.ref (gA G q0), .int a1] hp p.1 p.2 := MI_of rfl (fun Z hz X hR => by subst hz; exact T_Br_hasCustomer X hq0 h hR)
theorem d_BA_customer_0 : decode prog_1_method_7_code 0 = .ok (.aload_n 0, 1) := by decide +kernel
theorem d_BA_customer_1 : decode prog_1_method_7_code 1 = .ok (.getfield 59, 3) := by decide +kernel
theorem d_BA_customer_4 : decode prog_1_method_7_code 4 = .ok (.iload_n 1, 1) := by decide +kernel
theorem d_BA_customer_5 : decode prog_1_method_7_code 5 = .ok (.invokevirtual 145, 3) := by decide +kernel
theorem d_BA_customer_8 : decode prog_1_method_7_code 8 = .ok (.ifCond .ne (6), 3) := by decide +kernel
theorem d_BA_customer_11 : decode prog_1_method_7_code 11 = .ok (.ldc 144, 2) := by decide +kernel
theorem d_BA_customer_13 : decode prog_1_method_7_code 13 = .ok (.ireturn, 1) := by decide +kernel
theorem d_BA_customer_14 : decode prog_1_method_7_code 14 = .ok (.iload_n 2, 1) := by decide +kernel
theorem d_BA_customer_15 : decode prog_1_method_7_code 15 = .ok (.tableswitch 96 0 4 #[33, 47, 64, 74, 84], 33) := by decide +kernel
theorem d_BA_customer_48 : decode prog_1_method_7_code 48 = .ok (.aload_n 0, 1) := by decide +kernel
theorem d_BA_customer_49 : decode prog_1_method_7_code 49 = .ok (.getfield 19, 3) := by decide +kernel
theorem d_BA_customer_52 : decode prog_1_method_7_code 52 = .ok (.getfield 148, 3) := by decide +kernel
theorem d_BA_customer_55 : decode prog_1_method_7_code 55 = .ok (.iload_n 1, 1) := by decide +kernel
theorem d_BA_customer_56 : decode prog_1_method_7_code 56 = .ok (.iaload, 1) := by decide +kernel
theorem d_BA_customer_57 : decode prog_1_method_7_code 57 = .ok (.sipush (10000), 3) := by decide +kernel
theorem d_BA_customer_60 : decode prog_1_method_7_code 60 = .ok (.iadd, 1) := by decide +kernel
theorem d_BA_customer_61 : decode prog_1_method_7_code 61 = .ok (.ireturn, 1) := by decide +kernel
theorem d_BA_customer_62 : decode prog_1_method_7_code 62 = .ok (.aload_n 0, 1) := by decide +kernel
theorem d_BA_customer_63 : decode prog_1_method_7_code 63 = .ok (.getfield 59, 3) := by decide +kernel
theorem d_BA_customer_66 : decode prog_1_method_7_code 66 = .ok (.aload_n 0, 1) := by decide +kernel
theorem d_BA_customer_67 : decode prog_1_method_7_code 67 = .ok (.getfield 19, 3) := by decide +kernel
theorem d_BA_customer_70 : decode prog_1_method_7_code 70 = .ok (.getfield 148, 3) := by decide +kernel
theorem d_BA_customer_73 : decode prog_1_method_7_code 73 = .ok (.iload_n 1, 1) := by decide +kernel
theorem d_BA_customer_74 : decode prog_1_method_7_code 74 = .ok (.iaload, 1) := by decide +kernel
theorem d_BA_customer_75 : decode prog_1_method_7_code 75 = .ok (.invokevirtual 151, 3) := by decide +kernel
theorem d_BA_customer_78 : decode prog_1_method_7_code 78 = .ok (.ireturn, 1) := by decide +kernel
theorem d_BA_customer_79 : decode prog_1_method_7_code 79 = .ok (.aload_n 0, 1) := by decide +kernel
theorem d_BA_customer_80 : decode prog_1_method_7_code 80 = .ok (.getfield 59, 3) := by decide +kernel
theorem d_BA_customer_83 : decode prog_1_method_7_code 83 = .ok (.getfield 155, 3) := by decide +kernel
theorem d_BA_customer_86 : decode prog_1_method_7_code 86 = .ok (.iload_n 1, 1) := by decide +kernel
theorem d_BA_customer_87 : decode prog_1_method_7_code 87 = .ok (.iaload, 1) := by decide +kernel
theorem d_BA_customer_88 : decode prog_1_method_7_code 88 = .ok (.ireturn, 1) := by decide +kernel
theorem d_BA_customer_89 : decode prog_1_method_7_code 89 = .ok (.aload_n 0, 1) := by decide +kernel
theorem d_BA_customer_90 : decode prog_1_method_7_code 90 = .ok (.getfield 59, 3) := by decide +kernel
theorem d_BA_customer_93 : decode prog_1_method_7_code 93 = .ok (.getfield 158, 3) := by decide +kernel
theorem d_BA_customer_96 : decode prog_1_method_7_code 96 = .ok (.iload_n 1, 1) := by decide +kernel
theorem d_BA_customer_97 : decode prog_1_method_7_code 97 = .ok (.iaload, 1) := by decide +kernel
theorem d_BA_customer_98 : decode prog_1_method_7_code 98 = .ok (.ireturn, 1) := by decide +kernel
theorem d_BA_customer_99 : decode prog_1_method_7_code 99 = .ok (.aload_n 0, 1) := by decide +kernel
theorem d_BA_customer_100 : decode prog_1_method_7_code 100 = .ok (.getfield 19, 3) := by decide +kernel
theorem d_BA_customer_103 : decode prog_1_method_7_code 103 = .ok (.iload_n 1, 1) := by decide +kernel
theorem d_BA_customer_104 : decode prog_1_method_7_code 104 = .ok (.invokevirtual 161, 3) := by decide +kernel
theorem d_BA_customer_107 : decode prog_1_method_7_code 107 = .ok (.ldc 164, 2) := by decide +kernel
theorem d_BA_customer_109 : decode prog_1_method_7_code 109 = .ok (.iadd, 1) := by decide +kernel
theorem d_BA_customer_110 : decode prog_1_method_7_code 110 = .ok (.ireturn, 1) := by decide +kernel
theorem d_BA_customer_111 : decode prog_1_method_7_code 111 = .ok (.ldc 77, 2) := by decide +kernel
theorem d_BA_customer_113 : decode prog_1_method_7_code 113 = .ok (.ireturn, 1) := by decide +kernel
set_option maxRecDepth 20000 in
set_option maxHeartbeats 2000000 in
theorem T_BA_customer {Z : ZT} (X : CX Z Y_BA_customer) {hp : HP} {a1 : Int32} {a2 : Int32} {p : Int32 × HP} (h : f_BA_customer hp a1 a2 = some p) (hR : RetI Z Y_BA_customer .int p.1 p.2) : V Z Y_BA_customer hp 0 [(0, .ref (gA (zG Z) 0)), (1, .int a1), (2, .int a2)] [] := by
  unfold f_BA_customer at h
  refine R_aload_n X 0 d_BA_customer_0 rfl ?_
  refine R_getD (ci := 6) X rfl iBA_ok (of_decide_eq_true rfl) rfl 8 rfl rfl tw_242 d_BA_customer_1 ?_
  obtain ⟨b1, h⟩ := ck h
  refine R_iload_n X 1 d_BA_customer_4 rfl ?_
  obtain ⟨p3, e2, h⟩ := ob h
  refine R_vcall (ci := 0) (k := (hp 0 8).toNatClampNeg) (As := [.int a1]) (st := []) X (M_Br_hasCustomer b1 e2) tw_419 cf_Br_hasCustomer (B_all _ b1).1.1 (B_all _ b1).1.2 rfl rfl rfl rfl d_BA_customer_5 ?_
  refine R_ifne (tgt := 14) X d_BA_customer_8 rfl (fun c4 => ?_) (fun c4 => ?_)
  · replace h := (if_neg c4).symm.trans h
    refine R_iload_n X 2 d_BA_customer_14 rfl ?_
    by_cases c5 : a2 = 0
    · replace h := (if_pos c5).symm.trans h
      refine R_swIn (tgt := 48) X d_BA_customer_15 0 (by rw [c5]; rfl) (by decide) (by decide) rfl rfl ?_
      refine R_aload_n X 0 d_BA_customer_48 rfl ?_
      refine R_getR (ci := 6) X rfl iBA_ok (of_decide_eq_true rfl) rfl 1 rfl rfl tw_235 d_BA_customer_49 ?_
      refine R_getR (ci := 5) X rfl iSt_ok (of_decide_eq_true rfl) rfl 0 rfl rfl tw_98 d_BA_customer_52 ?_
      refine R_iload_n X 1 d_BA_customer_55 rfl ?_
      obtain ⟨i6, h⟩ := ck h
      refine R_iald (n := 5) X (of_decide_eq_true rfl) rfl i6 d_BA_customer_56 ?_
      refine V_pc (pc' := 57) rfl ?_
      refine R_sipush (v := (10000 : Int32)) X d_BA_customer_57 rfl ?_
      refine R_iadd X d_BA_customer_60 ?_
      exact R_ret hR h d_BA_customer_61
    replace h := (if_neg c5).symm.trans h
    by_cases c7 : a2 = 1
    · replace h := (if_pos c7).symm.trans h
      refine R_swIn (tgt := 62) X d_BA_customer_15 1 (by rw [c7]; rfl) (by decide) (by decide) rfl rfl ?_
      refine R_aload_n X 0 d_BA_customer_62 rfl ?_
      refine R_getD (ci := 6) X rfl iBA_ok (of_decide_eq_true rfl) rfl 8 rfl rfl tw_242 d_BA_customer_63 ?_
      obtain ⟨b8, h⟩ := ck h
      refine R_aload_n X 0 d_BA_customer_66 rfl ?_
      refine R_getR (ci := 6) X rfl iBA_ok (of_decide_eq_true rfl) rfl 1 rfl rfl tw_235 d_BA_customer_67 ?_
      refine R_getR (ci := 5) X rfl iSt_ok (of_decide_eq_true rfl) rfl 0 rfl rfl tw_98 d_BA_customer_70 ?_
      refine V_pc (pc' := 73) rfl ?_
      refine R_iload_n X 1 d_BA_customer_73 rfl ?_
      obtain ⟨i9, h⟩ := ck h
      refine R_iald (n := 5) X (of_decide_eq_true rfl) rfl i9 d_BA_customer_74 ?_
      obtain ⟨p11, e10, h⟩ := ob h
      refine R_vcall (ci := 0) (k := (p3.2 0 8).toNatClampNeg) (As := [.int (p3.2 4 (a1).toNatClampNeg)]) (st := []) X (M_Br_partsAt b8 e10) tw_375 cf_Br_partsAt (B_all _ b8).1.1 (B_all _ b8).1.2 rfl rfl rfl rfl d_BA_customer_75 ?_
      exact R_ret hR h d_BA_customer_78
    replace h := (if_neg c7).symm.trans h
    by_cases c12 : a2 = 2
    · replace h := (if_pos c12).symm.trans h
      refine R_swIn (tgt := 79) X d_BA_customer_15 2 (by rw [c12]; rfl) (by decide) (by decide) rfl rfl ?_
      refine R_aload_n X 0 d_BA_customer_79 rfl ?_
      refine R_getD (ci := 6) X rfl iBA_ok (of_decide_eq_true rfl) rfl 8 rfl rfl tw_242 d_BA_customer_80 ?_
      obtain ⟨b13, h⟩ := ck h
      refine R_getR (ci := 0) X rfl iBr_ok (B_all _ b13).1.1 (B_all _ b13).1.2 2 rfl rfl tw_204 d_BA_customer_83 ?_
      refine R_iload_n X 1 d_BA_customer_86 rfl ?_
      obtain ⟨i14, h⟩ := ck h
      refine R_iald (n := 5) X (B_all _ b13).2.2.2.1.1 (B_all _ b13).2.2.2.1.2 i14 d_BA_customer_87 ?_
      refine V_pc (pc' := 88) rfl ?_
      exact R_ret hR h d_BA_customer_88
    replace h := (if_neg c12).symm.trans h
    by_cases c15 : a2 = 3
    · replace h := (if_pos c15).symm.trans h
      refine R_swIn (tgt := 89) X d_BA_customer_15 3 (by rw [c15]; rfl) (by decide) (by decide) rfl rfl ?_
      refine R_aload_n X 0 d_BA_customer_89 rfl ?_
      refine R_getD (ci := 6) X rfl iBA_ok (of_decide_eq_true rfl) rfl 8 rfl rfl tw_242 d_BA_customer_90 ?_
      obtain ⟨b16, h⟩ := ck h
      refine R_getR (ci := 0) X rfl iBr_ok (B_all _ b16).1.1 (B_all _ b16).1.2 3 rfl rfl tw_206 d_BA_customer_93 ?_
      refine R_iload_n X 1 d_BA_customer_96 rfl ?_
      obtain ⟨i17, h⟩ := ck h
      refine R_iald (n := 5) X (B_all _ b16).2.2.2.2.1.1 (B_all _ b16).2.2.2.2.1.2 i17 d_BA_customer_97 ?_
      refine V_pc (pc' := 98) rfl ?_
      exact R_ret hR h d_BA_customer_98
    replace h := (if_neg c15).symm.trans h
    by_cases c18 : a2 = 4
    · replace h := (if_pos c18).symm.trans h
      refine R_swIn (tgt := 99) X d_BA_customer_15 4 (by rw [c18]; rfl) (by decide) (by decide) rfl rfl ?_
      refine R_aload_n X 0 d_BA_customer_99 rfl ?_
      refine R_getR (ci := 6) X rfl iBA_ok (of_decide_eq_true rfl) rfl 1 rfl rfl tw_235 d_BA_customer_100 ?_
      refine R_iload_n X 1 d_BA_customer_103 rfl ?_
      obtain ⟨p20, e19, h⟩ := ob h
      refine R_vcall (ci := 5) (k := 3) (As := [.int a1]) (st := []) X (M_St_netOf rfl e19) tw_383 cf_St_netOf (of_decide_eq_true rfl) rfl rfl rfl rfl rfl d_BA_customer_104 ?_
      refine R_ldc (v := (100000 : Int32)) X tw_423 d_BA_customer_107 ?_
      refine V_pc (pc' := 109) rfl ?_
      refine R_iadd X d_BA_customer_109 ?_
      exact R_ret hR h d_BA_customer_110
    replace h := (if_neg c18).symm.trans h
    refine R_swOut (tgt := 111) X d_BA_customer_15 (sw_def 5 (by decide) (fun k hk => by
      match k, hk with
      | 0, _ => exact c5
      | 1, _ => exact c7
      | 2, _ => exact c12
      | 3, _ => exact c15
      | 4, _ => exact c18
      | k + 5, hk => exact absurd hk (by omega))) rfl ?_
    refine R_ldc (v := (-1000000002 : Int32)) X tw_278 d_BA_customer_111 ?_
    exact R_ret hR h d_BA_customer_113
  · replace h := (if_pos c4).symm.trans h
    refine R_ldc (v := (-1000000001 : Int32)) X tw_414 d_BA_customer_11 ?_
    exact R_ret hR h d_BA_customer_13
theorem M_BA_customer {G : GT} {hp : HP} {a1 : Int32} {a2 : Int32} {p : Int32 × HP} (h : f_BA_customer hp a1 a2 = some p) : MI G y_BA_customer Y_BA_customer .int [.ref (gA G 0), .int a1, .int a2] hp p.1 p.2 := MI_of rfl (fun Z hz X hR => by subst hz; exact T_BA_customer X h hR)
theorem d_BA_areTwo_0 : decode prog_1_method_36_code 0 = .ok (.aload_n 0, 1) := by decide +kernel
theorem d_BA_areTwo_1 : decode prog_1_method_36_code 1 = .ok (.getfield 59, 3) := by decide +kernel
theorem d_BA_areTwo_4 : decode prog_1_method_36_code 4 = .ok (.iload_n 1, 1) := by decide +kernel
theorem d_BA_areTwo_5 : decode prog_1_method_36_code 5 = .ok (.invokevirtual 145, 3) := by decide +kernel
theorem d_BA_areTwo_8 : decode prog_1_method_36_code 8 = .ok (.ifCond .eq (23), 3) := by decide +kernel
theorem d_BA_areTwo_11 : decode prog_1_method_36_code 11 = .ok (.aload_n 0, 1) := by decide +kernel
theorem d_BA_areTwo_12 : decode prog_1_method_36_code 12 = .ok (.getfield 59, 3) := by decide +kernel
theorem d_BA_areTwo_15 : decode prog_1_method_36_code 15 = .ok (.iload_n 2, 1) := by decide +kernel
theorem d_BA_areTwo_16 : decode prog_1_method_36_code 16 = .ok (.invokevirtual 145, 3) := by decide +kernel
theorem d_BA_areTwo_19 : decode prog_1_method_36_code 19 = .ok (.ifCond .eq (12), 3) := by decide +kernel
theorem d_BA_areTwo_22 : decode prog_1_method_36_code 22 = .ok (.iload_n 1, 1) := by decide +kernel
theorem d_BA_areTwo_23 : decode prog_1_method_36_code 23 = .ok (.iload_n 2, 1) := by decide +kernel
theorem d_BA_areTwo_24 : decode prog_1_method_36_code 24 = .ok (.if_icmp .eq (7), 3) := by decide +kernel
theorem d_BA_areTwo_27 : decode prog_1_method_36_code 27 = .ok (.iconst 1, 1) := by decide +kernel
theorem d_BA_areTwo_28 : decode prog_1_method_36_code 28 = .ok (.goto (4), 3) := by decide +kernel
theorem d_BA_areTwo_31 : decode prog_1_method_36_code 31 = .ok (.iconst 0, 1) := by decide +kernel
theorem d_BA_areTwo_32 : decode prog_1_method_36_code 32 = .ok (.ireturn, 1) := by decide +kernel
set_option maxRecDepth 20000 in
set_option maxHeartbeats 2000000 in
theorem T_BA_areTwo {Z : ZT} (X : CX Z Y_BA_areTwo) {hp : HP} {a1 : Int32} {a2 : Int32} {p : Int32 × HP} (h : f_BA_areTwo hp a1 a2 = some p) (hR : RetI Z Y_BA_areTwo .boolean p.1 p.2) : V Z Y_BA_areTwo hp 0 [(0, .ref (gA (zG Z) 0)), (1, .int a1), (2, .int a2)] [] := by
  unfold f_BA_areTwo at h
  refine R_aload_n X 0 d_BA_areTwo_0 rfl ?_
  refine R_getD (ci := 6) X rfl iBA_ok (of_decide_eq_true rfl) rfl 8 rfl rfl tw_242 d_BA_areTwo_1 ?_
  obtain ⟨b1, h⟩ := ck h
  refine R_iload_n X 1 d_BA_areTwo_4 rfl ?_
  obtain ⟨p3, e2, h⟩ := ob h
  refine R_vcall (ci := 0) (k := (hp 0 8).toNatClampNeg) (As := [.int a1]) (st := []) X (M_Br_hasCustomer b1 e2) tw_419 cf_Br_hasCustomer (B_all _ b1).1.1 (B_all _ b1).1.2 rfl rfl rfl rfl d_BA_areTwo_5 ?_
  refine R_ifeq (tgt := 31) X d_BA_areTwo_8 rfl (fun c4 => ?_) (fun c4 => ?_)
  · replace h := (if_pos c4).symm.trans h
    refine R_iconst (v := (0 : Int32)) X d_BA_areTwo_31 rfl ?_
    exact R_retc hR (by decide) h d_BA_areTwo_32
  · replace h := (if_neg c4).symm.trans h
    refine R_aload_n X 0 d_BA_areTwo_11 rfl ?_
    refine R_getD (ci := 6) X rfl iBA_ok (of_decide_eq_true rfl) rfl 8 rfl rfl tw_242 d_BA_areTwo_12 ?_
    obtain ⟨b5, h⟩ := ck h
    refine R_iload_n X 2 d_BA_areTwo_15 rfl ?_
    obtain ⟨p7, e6, h⟩ := ob h
    refine R_vcall (ci := 0) (k := (p3.2 0 8).toNatClampNeg) (As := [.int a2]) (st := []) X (M_Br_hasCustomer b5 e6) tw_419 cf_Br_hasCustomer (B_all _ b5).1.1 (B_all _ b5).1.2 rfl rfl rfl rfl d_BA_areTwo_16 ?_
    refine R_ifeq (tgt := 31) X d_BA_areTwo_19 rfl (fun c8 => ?_) (fun c8 => ?_)
    · replace h := (if_pos c8).symm.trans h
      refine R_iconst (v := (0 : Int32)) X d_BA_areTwo_31 rfl ?_
      exact R_retc hR (by decide) h d_BA_areTwo_32
    · replace h := (if_neg c8).symm.trans h
      refine R_iload_n X 1 d_BA_areTwo_22 rfl ?_
      refine R_iload_n X 2 d_BA_areTwo_23 rfl ?_
      refine R_icmp_eq (tgt := 31) X d_BA_areTwo_24 rfl (fun c9 => ?_) (fun c9 => ?_)
      · replace h := (if_pos c9).symm.trans h
        refine R_iconst (v := (0 : Int32)) X d_BA_areTwo_31 rfl ?_
        exact R_retc hR (by decide) h d_BA_areTwo_32
      · replace h := (if_neg c9).symm.trans h
        refine R_iconst (v := (1 : Int32)) X d_BA_areTwo_27 rfl ?_
        refine R_goto (tgt := 32) X d_BA_areTwo_28 rfl ?_
        exact R_retc hR (by decide) h d_BA_areTwo_32
theorem M_BA_areTwo {G : GT} {hp : HP} {a1 : Int32} {a2 : Int32} {p : Int32 × HP} (h : f_BA_areTwo hp a1 a2 = some p) : MI G y_BA_areTwo Y_BA_areTwo .boolean [.ref (gA G 0), .int a1, .int a2] hp p.1 p.2 := MI_of rfl (fun Z hz X hR => by subst hz; exact T_BA_areTwo X h hR)
theorem d_BA_owes_0 : decode prog_1_method_8_code 0 = .ok (.aload_n 0, 1) := by decide +kernel
theorem d_BA_owes_1 : decode prog_1_method_8_code 1 = .ok (.iload_n 1, 1) := by decide +kernel
theorem d_BA_owes_2 : decode prog_1_method_8_code 2 = .ok (.iload_n 2, 1) := by decide +kernel
theorem d_BA_owes_3 : decode prog_1_method_8_code 3 = .ok (.invokevirtual 165, 3) := by decide +kernel
theorem d_BA_owes_6 : decode prog_1_method_8_code 6 = .ok (.ifCond .eq (18), 3) := by decide +kernel
theorem d_BA_owes_9 : decode prog_1_method_8_code 9 = .ok (.aload_n 0, 1) := by decide +kernel
theorem d_BA_owes_10 : decode prog_1_method_8_code 10 = .ok (.getfield 19, 3) := by decide +kernel
theorem d_BA_owes_13 : decode prog_1_method_8_code 13 = .ok (.iload_n 1, 1) := by decide +kernel
theorem d_BA_owes_14 : decode prog_1_method_8_code 14 = .ok (.iload_n 2, 1) := by decide +kernel
theorem d_BA_owes_15 : decode prog_1_method_8_code 15 = .ok (.invokevirtual 169, 3) := by decide +kernel
theorem d_BA_owes_18 : decode prog_1_method_8_code 18 = .ok (.ldc 164, 2) := by decide +kernel
theorem d_BA_owes_20 : decode prog_1_method_8_code 20 = .ok (.iadd, 1) := by decide +kernel
theorem d_BA_owes_21 : decode prog_1_method_8_code 21 = .ok (.goto (5), 3) := by decide +kernel
theorem d_BA_owes_24 : decode prog_1_method_8_code 24 = .ok (.ldc 144, 2) := by decide +kernel
theorem d_BA_owes_26 : decode prog_1_method_8_code 26 = .ok (.ireturn, 1) := by decide +kernel
set_option maxRecDepth 20000 in
set_option maxHeartbeats 2000000 in
theorem T_BA_owes {Z : ZT} (X : CX Z Y_BA_owes) {hp : HP} {a1 : Int32} {a2 : Int32} {p : Int32 × HP} (h : f_BA_owes hp a1 a2 = some p) (hR : RetI Z Y_BA_owes .int p.1 p.2) : V Z Y_BA_owes hp 0 [(0, .ref (gA (zG Z) 0)), (1, .int a1), (2, .int a2)] [] := by
  unfold f_BA_owes at h
  refine R_aload_n X 0 d_BA_owes_0 rfl ?_
  refine R_iload_n X 1 d_BA_owes_1 rfl ?_
  refine R_iload_n X 2 d_BA_owes_2 rfl ?_
  obtain ⟨p2, e1, h⟩ := ob h
  refine R_vcall (ci := 6) (k := 0) (As := [.int a1, .int a2]) (st := []) X (M_BA_areTwo e1) tw_428 cf_BA_areTwo (of_decide_eq_true rfl) rfl rfl rfl rfl rfl d_BA_owes_3 ?_
  refine R_ifeq (tgt := 24) X d_BA_owes_6 rfl (fun c3 => ?_) (fun c3 => ?_)
  · replace h := (if_pos c3).symm.trans h
    refine R_ldc (v := (-1000000001 : Int32)) X tw_414 d_BA_owes_24 ?_
    exact R_ret hR h d_BA_owes_26
  · replace h := (if_neg c3).symm.trans h
    refine R_aload_n X 0 d_BA_owes_9 rfl ?_
    refine R_getR (ci := 6) X rfl iBA_ok (of_decide_eq_true rfl) rfl 1 rfl rfl tw_235 d_BA_owes_10 ?_
    refine R_iload_n X 1 d_BA_owes_13 rfl ?_
    refine R_iload_n X 2 d_BA_owes_14 rfl ?_
    obtain ⟨p5, e4, h⟩ := ob h
    refine R_vcall (ci := 5) (k := 3) (As := [.int a1, .int a2]) (st := []) X (M_St_debt rfl e4) tw_432 cf_St_debt (of_decide_eq_true rfl) rfl rfl rfl rfl rfl d_BA_owes_15 ?_
    refine V_pc (pc' := 18) rfl ?_
    refine R_ldc (v := (100000 : Int32)) X tw_423 d_BA_owes_18 ?_
    refine R_iadd X d_BA_owes_20 ?_
    refine R_goto (tgt := 26) X d_BA_owes_21 rfl ?_
    exact R_ret hR h d_BA_owes_26
theorem M_BA_owes {G : GT} {hp : HP} {a1 : Int32} {a2 : Int32} {p : Int32 × HP} (h : f_BA_owes hp a1 a2 = some p) : MI G y_BA_owes Y_BA_owes .int [.ref (gA G 0), .int a1, .int a2] hp p.1 p.2 := MI_of rfl (fun Z hz X hR => by subst hz; exact T_BA_owes X h hR)
theorem d_Br_hasTask_0 : decode prog_2_method_9_code 0 = .ok (.iload_n 1, 1) := by decide +kernel
theorem d_Br_hasTask_1 : decode prog_2_method_9_code 1 = .ok (.iconst 0, 1) := by decide +kernel
theorem d_Br_hasTask_2 : decode prog_2_method_9_code 2 = .ok (.aload_n 0, 1) := by decide +kernel
theorem d_Br_hasTask_3 : decode prog_2_method_9_code 3 = .ok (.getfield 34, 3) := by decide +kernel
theorem d_Br_hasTask_6 : decode prog_2_method_9_code 6 = .ok (.iconst 1, 1) := by decide +kernel
theorem d_Br_hasTask_7 : decode prog_2_method_9_code 7 = .ok (.isub, 1) := by decide +kernel
theorem d_Br_hasTask_8 : decode prog_2_method_9_code 8 = .ok (.invokestatic 37, 3) := by decide +kernel
theorem d_Br_hasTask_11 : decode prog_2_method_9_code 11 = .ok (.ireturn, 1) := by decide +kernel
set_option maxRecDepth 20000 in
set_option maxHeartbeats 2000000 in
theorem T_Br_hasTask {Z : ZT} (X : CX Z Y_Br_hasTask) {hp : HP} {q0 : Nat} {a1 : Int32} (hq0 : isB q0 = true) {p : Int32 × HP} (h : f_Br_hasTask hp q0 a1 = some p) (hR : RetI Z Y_Br_hasTask .boolean p.1 p.2) : V Z Y_Br_hasTask hp 0 [(0, .ref (gA (zG Z) q0)), (1, .int a1)] [] := by
  unfold f_Br_hasTask at h
  refine R_iload_n X 1 d_Br_hasTask_0 rfl ?_
  refine R_iconst (v := (0 : Int32)) X d_Br_hasTask_1 rfl ?_
  refine R_aload_n X 0 d_Br_hasTask_2 rfl ?_
  refine R_getI (ci := 0) X rfl iBr_ok (B_all _ hq0).1.1 (B_all _ hq0).1.2 7 rfl rfl tw_214 d_Br_hasTask_3 ?_
  refine R_iconst (v := (1 : Int32)) X d_Br_hasTask_6 rfl ?_
  refine V_pc (pc' := 7) rfl ?_
  refine R_isub X d_Br_hasTask_7 ?_
  obtain ⟨p2, e1, h⟩ := ob h
  refine R_ncall (As := [.int a1, .int (0 : Int32), .int ((hp q0 7) - (1 : Int32))]) (st := []) (host := "BodyAccounts") X (M_BA_within e1) (by decide +kernel) cf_BA_within rfl rfl rfl d_Br_hasTask_8 ?_
  exact R_retz hR h d_Br_hasTask_11
theorem M_Br_hasTask {G : GT} {hp : HP} {q0 : Nat} {a1 : Int32} (hq0 : isB q0 = true) {p : Int32 × HP} (h : f_Br_hasTask hp q0 a1 = some p) : MI G y_Br_hasTask Y_Br_hasTask .boolean [.ref (gA G q0), .int a1] hp p.1 p.2 := MI_of rfl (fun Z hz X hR => by subst hz; exact T_Br_hasTask X hq0 h hR)
theorem d_Br_needOf_0 : decode prog_2_method_13_code 0 = .ok (.ldc 45, 2) := by decide +kernel
theorem d_Br_needOf_2 : decode prog_2_method_13_code 2 = .ok (.istore_n 2, 1) := by decide +kernel
theorem d_Br_needOf_3 : decode prog_2_method_13_code 3 = .ok (.iconst 0, 1) := by decide +kernel
theorem d_Br_needOf_4 : decode prog_2_method_13_code 4 = .ok (.istore_n 3, 1) := by decide +kernel
theorem d_Br_needOf_5 : decode prog_2_method_13_code 5 = .ok (.iload_n 3, 1) := by decide +kernel
theorem d_Br_needOf_6 : decode prog_2_method_13_code 6 = .ok (.aload_n 0, 1) := by decide +kernel
theorem d_Br_needOf_7 : decode prog_2_method_13_code 7 = .ok (.getfield 27, 3) := by decide +kernel
theorem d_Br_needOf_10 : decode prog_2_method_13_code 10 = .ok (.if_icmp .ge (34), 3) := by decide +kernel
theorem d_Br_needOf_13 : decode prog_2_method_13_code 13 = .ok (.aload_n 0, 1) := by decide +kernel
theorem d_Br_needOf_14 : decode prog_2_method_13_code 14 = .ok (.getfield 24, 3) := by decide +kernel
theorem d_Br_needOf_17 : decode prog_2_method_13_code 17 = .ok (.iload_n 1, 1) := by decide +kernel
theorem d_Br_needOf_18 : decode prog_2_method_13_code 18 = .ok (.iaload, 1) := by decide +kernel
theorem d_Br_needOf_19 : decode prog_2_method_13_code 19 = .ok (.iload_n 3, 1) := by decide +kernel
theorem d_Br_needOf_20 : decode prog_2_method_13_code 20 = .ok (.ishr, 1) := by decide +kernel
theorem d_Br_needOf_21 : decode prog_2_method_13_code 21 = .ok (.iconst 1, 1) := by decide +kernel
theorem d_Br_needOf_22 : decode prog_2_method_13_code 22 = .ok (.iand, 1) := by decide +kernel
theorem d_Br_needOf_23 : decode prog_2_method_13_code 23 = .ok (.iconst 1, 1) := by decide +kernel
theorem d_Br_needOf_24 : decode prog_2_method_13_code 24 = .ok (.if_icmp .ne (14), 3) := by decide +kernel
theorem d_Br_needOf_27 : decode prog_2_method_13_code 27 = .ok (.iload_n 2, 1) := by decide +kernel
theorem d_Br_needOf_28 : decode prog_2_method_13_code 28 = .ok (.aload_n 0, 1) := by decide +kernel
theorem d_Br_needOf_29 : decode prog_2_method_13_code 29 = .ok (.getfield 9, 3) := by decide +kernel
theorem d_Br_needOf_32 : decode prog_2_method_13_code 32 = .ok (.iload_n 3, 1) := by decide +kernel
theorem d_Br_needOf_33 : decode prog_2_method_13_code 33 = .ok (.iaload, 1) := by decide +kernel
theorem d_Br_needOf_34 : decode prog_2_method_13_code 34 = .ok (.invokestatic 46, 3) := by decide +kernel
theorem d_Br_needOf_37 : decode prog_2_method_13_code 37 = .ok (.istore_n 2, 1) := by decide +kernel
theorem d_Br_needOf_38 : decode prog_2_method_13_code 38 = .ok (.iinc 3 (1), 3) := by decide +kernel
theorem d_Br_needOf_41 : decode prog_2_method_13_code 41 = .ok (.goto (-36), 3) := by decide +kernel
theorem d_Br_needOf_44 : decode prog_2_method_13_code 44 = .ok (.iload_n 2, 1) := by decide +kernel
theorem d_Br_needOf_45 : decode prog_2_method_13_code 45 = .ok (.ireturn, 1) := by decide +kernel
set_option maxRecDepth 20000 in
set_option maxHeartbeats 2000000 in
theorem T_Br_needOf_L5 {Z : ZT} (X : CX Z Y_Br_needOf) {q0 : Nat} {v1 : Int32} (hq0 : isB q0 = true) {p : Int32 × HP} (hR : RetI Z Y_Br_needOf .int p.1 p.2) {K : HP → Int32 → Option (Int32 × HP)} (hK : ∀ (hp : HP) (x2 : Int32), K hp x2 = some p → V Z Y_Br_needOf hp 44 [(2, .int x2)] []) : ∀ (n : Nat) (hp : HP) (x2 : Int32) (x3 : Int32), f_Br_needOf_L5 q0 v1 K n hp x2 x3 = some p → V Z Y_Br_needOf hp 5 [(0, .ref (gA (zG Z) q0)), (1, .int v1), (2, .int x2), (3, .int x3)] [] := by
  intro n
  induction n with
  | zero =>
    intro hp x2 x3 h
    cases h
  | succ n ih =>
    intro hp x2 x3 h
    replace h : f_Br_needOf_L5 q0 v1 K (n + 1) hp x2 x3 = some p := h
    unfold f_Br_needOf_L5 at h
    refine R_iload_n X 3 d_Br_needOf_5 rfl ?_
    refine R_aload_n X 0 d_Br_needOf_6 rfl ?_
    refine R_getI (ci := 0) X rfl iBr_ok (B_all _ hq0).1.1 (B_all _ hq0).1.2 5 rfl rfl tw_208 d_Br_needOf_7 ?_
    refine R_icmp_ge (tgt := 44) X d_Br_needOf_10 rfl (fun c1 => ?_) (fun c1 => ?_)
    · replace h := (if_pos c1).symm.trans h
      refine V_pc (pc' := 44) rfl (R_loc (L' := [(2, .int x2)]) [2] rfl ?_)
      exact hK hp x2 h
    · replace h := (if_neg c1).symm.trans h
      refine R_aload_n X 0 d_Br_needOf_13 rfl ?_
      refine R_getR (ci := 0) X rfl iBr_ok (B_all _ hq0).1.1 (B_all _ hq0).1.2 4 rfl rfl tw_207 d_Br_needOf_14 ?_
      refine R_iload_n X 1 d_Br_needOf_17 rfl ?_
      obtain ⟨i2, h⟩ := ck h
      refine R_iald (n := 6) X (B_all _ hq0).2.2.2.2.2.1 (B_all _ hq0).2.2.2.2.2.2 i2 d_Br_needOf_18 ?_
      refine R_iload_n X 3 d_Br_needOf_19 rfl ?_
      refine V_pc (pc' := 20) rfl ?_
      refine R_ishr X d_Br_needOf_20 ?_
      refine R_iconst (v := (1 : Int32)) X d_Br_needOf_21 rfl ?_
      refine R_iand X d_Br_needOf_22 ?_
      refine R_iconst (v := (1 : Int32)) X d_Br_needOf_23 rfl ?_
      refine R_icmp_ne (tgt := 38) X d_Br_needOf_24 rfl (fun c3 => ?_) (fun c3 => ?_)
      · replace h := (if_neg c3).symm.trans h
        refine R_iinc (v := (x3 + 1)) (L' := [(3, .int (x3 + 1)), (0, .ref (gA (zG Z) q0)), (1, .int v1), (2, .int x2)]) X 3 d_Br_needOf_38 rfl rfl (by decide) rfl ?_
        refine R_goto (tgt := 5) X d_Br_needOf_41 rfl ?_
        refine V_pc (pc' := 5) rfl (R_loc (L' := [(0, .ref (gA (zG Z) q0)), (1, .int v1), (2, .int x2), (3, .int (x3 + 1))]) [1, 2, 3, 0] rfl ?_)
        exact ih hp x2 (x3 + 1) h
      · replace h := (if_pos c3).symm.trans h
        refine R_iload_n X 2 d_Br_needOf_27 rfl ?_
        refine R_aload_n X 0 d_Br_needOf_28 rfl ?_
        refine R_getR (ci := 0) X rfl iBr_ok (B_all _ hq0).1.1 (B_all _ hq0).1.2 0 rfl rfl tw_198 d_Br_needOf_29 ?_
        refine R_iload_n X 3 d_Br_needOf_32 rfl ?_
        obtain ⟨i4, h⟩ := ck h
        refine R_iald (n := 8) X (B_all _ hq0).2.1.1 (B_all _ hq0).2.1.2 i4 d_Br_needOf_33 ?_
        refine V_pc (pc' := 34) rfl ?_
        refine R_mmax X tw_450 tw_398 tw_56 tw_399 rfl d_Br_needOf_34 ?_
        refine R_istore_n (L' := [(2, .int (mx x2 (hp (q0 + 1) (x3).toNatClampNeg))), (0, .ref (gA (zG Z) q0)), (1, .int v1), (3, .int x3)]) X d_Br_needOf_37 (by decide) rfl ?_
        refine R_iinc (v := (x3 + 1)) (L' := [(3, .int (x3 + 1)), (2, .int (mx x2 (hp (q0 + 1) (x3).toNatClampNeg))), (0, .ref (gA (zG Z) q0)), (1, .int v1)]) X 3 d_Br_needOf_38 rfl rfl (by decide) rfl ?_
        refine R_goto (tgt := 5) X d_Br_needOf_41 rfl ?_
        refine V_pc (pc' := 5) rfl (R_loc (L' := [(0, .ref (gA (zG Z) q0)), (1, .int v1), (2, .int (mx x2 (hp (q0 + 1) (x3).toNatClampNeg))), (3, .int (x3 + 1))]) [2, 3, 1, 0] rfl ?_)
        exact ih hp (mx x2 (hp (q0 + 1) (x3).toNatClampNeg)) (x3 + 1) h
set_option maxRecDepth 20000 in
set_option maxHeartbeats 2000000 in
theorem T_Br_needOf {Z : ZT} (X : CX Z Y_Br_needOf) {hp : HP} {q0 : Nat} {a1 : Int32} (hq0 : isB q0 = true) {p : Int32 × HP} (h : f_Br_needOf hp q0 a1 = some p) (hR : RetI Z Y_Br_needOf .int p.1 p.2) : V Z Y_Br_needOf hp 0 [(0, .ref (gA (zG Z) q0)), (1, .int a1)] [] := by
  unfold f_Br_needOf at h
  refine R_ldc (v := (-100000 : Int32)) X tw_449 d_Br_needOf_0 ?_
  refine R_istore_n (L' := [(2, .int (-100000 : Int32)), (0, .ref (gA (zG Z) q0)), (1, .int a1)]) X d_Br_needOf_2 (by decide) rfl ?_
  refine R_iconst (v := (0 : Int32)) X d_Br_needOf_3 rfl ?_
  refine R_istore_n (L' := [(3, .int (0 : Int32)), (2, .int (-100000 : Int32)), (0, .ref (gA (zG Z) q0)), (1, .int a1)]) X d_Br_needOf_4 (by decide) rfl ?_
  refine V_pc (pc' := 5) rfl (R_loc (L' := [(0, .ref (gA (zG Z) q0)), (1, .int a1), (2, .int (-100000 : Int32)), (3, .int (0 : Int32))]) [2, 3, 1, 0] rfl ?_)
  refine T_Br_needOf_L5 X hq0 hR (fun hp6 w5 h => ?_) _ hp (-100000 : Int32) (0 : Int32) h
  refine R_iload_n X 0 d_Br_needOf_44 rfl ?_
  exact R_ret hR h d_Br_needOf_45
theorem M_Br_needOf {G : GT} {hp : HP} {q0 : Nat} {a1 : Int32} (hq0 : isB q0 = true) {p : Int32 × HP} (h : f_Br_needOf hp q0 a1 = some p) : MI G y_Br_needOf Y_Br_needOf .int [.ref (gA G q0), .int a1] hp p.1 p.2 := MI_of rfl (fun Z hz X hR => by subst hz; exact T_Br_needOf X hq0 h hR)
end
