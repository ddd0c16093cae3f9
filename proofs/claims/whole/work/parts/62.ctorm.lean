/-! The reference's constructor. Printed by wip/whole/ctor.py. -/
theorem cw_55 : Cond.initialized "BodyAccountsModel" ∈ TB := TB_at 55 (by decide +kernel) rfl
theorem cw_668 : Cond.instanceMethod ⟨"BodyAccountsModel", "<init>", "()V"⟩ ∈ TB := TB_at 668 (by decide +kernel) rfl
theorem cw_669 : Cond.code ⟨"BodyAccountsModel", "<init>", "()V"⟩ prog_9_method_1_code 1 none ∈ TB := TB_at 669 (by decide +kernel) rfl
theorem cw_670 : Cond.methodLink "BodyAccountsModel" 1 objectInit ∈ TB := TB_at 670 (by decide +kernel) rfl
theorem cw_671 : Cond.fieldLink "BodyAccountsModel" 7 "BodyAccountsModel" "w" "[I" ∈ TB := TB_at 671 (by decide +kernel) rfl
theorem cw_672 : Cond.fieldLink "BodyAccountsModel" 13 "BodyAccountsModel" "isKept" "[Z" ∈ TB := TB_at 672 (by decide +kernel) rfl
theorem cw_674 : Cond.fieldLink "BodyAccountsModel" 69 "BodyAccountsModel" "parts" "I" ∈ TB := TB_at 674 (by decide +kernel) rfl
theorem cw_675 : Cond.fieldLink "BodyAccountsModel" 17 "BodyAccountsModel" "needs" "[I" ∈ TB := TB_at 675 (by decide +kernel) rfl
theorem cw_677 : Cond.fieldLink "BodyAccountsModel" 20 "BodyAccountsModel" "pay" "[I" ∈ TB := TB_at 677 (by decide +kernel) rfl
theorem cw_678 : Cond.fieldLink "BodyAccountsModel" 23 "BodyAccountsModel" "spends" "[I" ∈ TB := TB_at 678 (by decide +kernel) rfl
theorem cw_680 : Cond.fieldLink "BodyAccountsModel" 26 "BodyAccountsModel" "takesParts" "[I" ∈ TB := TB_at 680 (by decide +kernel) rfl
theorem cw_681 : Cond.fieldLink "BodyAccountsModel" 29 "BodyAccountsModel" "text" "[I" ∈ TB := TB_at 681 (by decide +kernel) rfl
theorem cw_687 : Cond.fieldLink "BodyAccountsModel" 32 "BodyAccountsModel" "faultAt" "I" ∈ TB := TB_at 687 (by decide +kernel) rfl
theorem cw_689 : Cond.fieldLink "BodyAccountsModel" 36 "BodyAccountsModel" "readNeeds" "[I" ∈ TB := TB_at 689 (by decide +kernel) rfl
theorem cw_691 : Cond.fieldLink "BodyAccountsModel" 39 "BodyAccountsModel" "readCustomer" "[I" ∈ TB := TB_at 691 (by decide +kernel) rfl
theorem cw_693 : Cond.fieldLink "BodyAccountsModel" 42 "BodyAccountsModel" "readTask" "[I" ∈ TB := TB_at 693 (by decide +kernel) rfl
theorem cw_695 : Cond.fieldLink "BodyAccountsModel" 45 "BodyAccountsModel" "spending" "[I" ∈ TB := TB_at 695 (by decide +kernel) rfl
theorem cw_697 : Cond.fieldLink "BodyAccountsModel" 48 "BodyAccountsModel" "mustTask" "[I" ∈ TB := TB_at 697 (by decide +kernel) rfl
theorem cw_698 : Cond.fieldLink "BodyAccountsModel" 51 "BodyAccountsModel" "mustMonth" "[I" ∈ TB := TB_at 698 (by decide +kernel) rfl
theorem cw_699 : Cond.fieldLink "BodyAccountsModel" 54 "BodyAccountsModel" "given" "[I" ∈ TB := TB_at 699 (by decide +kernel) rfl
theorem cw_701 : Cond.fieldLink "BodyAccountsModel" 57 "BodyAccountsModel" "seenPart" "[I" ∈ TB := TB_at 701 (by decide +kernel) rfl
theorem cw_702 : Cond.fieldLink "BodyAccountsModel" 60 "BodyAccountsModel" "seenThere" "[Z" ∈ TB := TB_at 702 (by decide +kernel) rfl
theorem cw_704 : Cond.fieldLink "BodyAccountsModel" 63 "BodyAccountsModel" "bookOf" "[I" ∈ TB := TB_at 704 (by decide +kernel) rfl
theorem cw_705 : Cond.fieldLink "BodyAccountsModel" 66 "BodyAccountsModel" "bookBalance" "[I" ∈ TB := TB_at 705 (by decide +kernel) rfl
def y_Mo_init : MethodName := ⟨"BodyAccountsModel", "<init>", "()V"⟩
abbrev Y_Mo_init : YT := (prog_9_method_1_code, "BodyAccountsModel", 1, 1)
theorem cf_Mo_init : CFc y_Mo_init Y_Mo_init := ⟨cw_668, cw_55, cw_669, by decide +kernel, rfl⟩
theorem d_Mo_init_0 : decode prog_9_method_1_code 0 = .ok (.aload_n 0, 1) := by decide +kernel
theorem d_Mo_init_1 : decode prog_9_method_1_code 1 = .ok (.invokespecial 1, 3) := by decide +kernel
theorem d_Mo_init_4 : decode prog_9_method_1_code 4 = .ok (.aload_n 0, 1) := by decide +kernel
theorem d_Mo_init_5 : decode prog_9_method_1_code 5 = .ok (.sipush (736), 3) := by decide +kernel
theorem d_Mo_init_8 : decode prog_9_method_1_code 8 = .ok (.newarray .int, 2) := by decide +kernel
theorem d_Mo_init_10 : decode prog_9_method_1_code 10 = .ok (.putfield 7, 3) := by decide +kernel
theorem d_Mo_init_13 : decode prog_9_method_1_code 13 = .ok (.aload_n 0, 1) := by decide +kernel
theorem d_Mo_init_14 : decode prog_9_method_1_code 14 = .ok (.iconst 2, 1) := by decide +kernel
theorem d_Mo_init_15 : decode prog_9_method_1_code 15 = .ok (.newarray .boolean, 2) := by decide +kernel
theorem d_Mo_init_17 : decode prog_9_method_1_code 17 = .ok (.putfield 13, 3) := by decide +kernel
theorem d_Mo_init_20 : decode prog_9_method_1_code 20 = .ok (.aload_n 0, 1) := by decide +kernel
theorem d_Mo_init_21 : decode prog_9_method_1_code 21 = .ok (.bipush (8), 2) := by decide +kernel
theorem d_Mo_init_23 : decode prog_9_method_1_code 23 = .ok (.newarray .int, 2) := by decide +kernel
theorem d_Mo_init_25 : decode prog_9_method_1_code 25 = .ok (.putfield 17, 3) := by decide +kernel
theorem d_Mo_init_28 : decode prog_9_method_1_code 28 = .ok (.aload_n 0, 1) := by decide +kernel
theorem d_Mo_init_29 : decode prog_9_method_1_code 29 = .ok (.iconst 5, 1) := by decide +kernel
theorem d_Mo_init_30 : decode prog_9_method_1_code 30 = .ok (.newarray .int, 2) := by decide +kernel
theorem d_Mo_init_32 : decode prog_9_method_1_code 32 = .ok (.putfield 20, 3) := by decide +kernel
theorem d_Mo_init_35 : decode prog_9_method_1_code 35 = .ok (.aload_n 0, 1) := by decide +kernel
theorem d_Mo_init_36 : decode prog_9_method_1_code 36 = .ok (.iconst 5, 1) := by decide +kernel
theorem d_Mo_init_37 : decode prog_9_method_1_code 37 = .ok (.newarray .int, 2) := by decide +kernel
theorem d_Mo_init_39 : decode prog_9_method_1_code 39 = .ok (.putfield 23, 3) := by decide +kernel
theorem d_Mo_init_42 : decode prog_9_method_1_code 42 = .ok (.aload_n 0, 1) := by decide +kernel
theorem d_Mo_init_43 : decode prog_9_method_1_code 43 = .ok (.bipush (6), 2) := by decide +kernel
theorem d_Mo_init_45 : decode prog_9_method_1_code 45 = .ok (.newarray .int, 2) := by decide +kernel
theorem d_Mo_init_47 : decode prog_9_method_1_code 47 = .ok (.putfield 26, 3) := by decide +kernel
theorem d_Mo_init_50 : decode prog_9_method_1_code 50 = .ok (.aload_n 0, 1) := by decide +kernel
theorem d_Mo_init_51 : decode prog_9_method_1_code 51 = .ok (.sipush (240), 3) := by decide +kernel
theorem d_Mo_init_54 : decode prog_9_method_1_code 54 = .ok (.newarray .int, 2) := by decide +kernel
theorem d_Mo_init_56 : decode prog_9_method_1_code 56 = .ok (.putfield 29, 3) := by decide +kernel
theorem d_Mo_init_59 : decode prog_9_method_1_code 59 = .ok (.aload_n 0, 1) := by decide +kernel
theorem d_Mo_init_60 : decode prog_9_method_1_code 60 = .ok (.iconst (-1), 1) := by decide +kernel
theorem d_Mo_init_61 : decode prog_9_method_1_code 61 = .ok (.putfield 32, 3) := by decide +kernel
theorem d_Mo_init_64 : decode prog_9_method_1_code 64 = .ok (.aload_n 0, 1) := by decide +kernel
theorem d_Mo_init_65 : decode prog_9_method_1_code 65 = .ok (.bipush (8), 2) := by decide +kernel
theorem d_Mo_init_67 : decode prog_9_method_1_code 67 = .ok (.newarray .int, 2) := by decide +kernel
theorem d_Mo_init_69 : decode prog_9_method_1_code 69 = .ok (.putfield 36, 3) := by decide +kernel
theorem d_Mo_init_72 : decode prog_9_method_1_code 72 = .ok (.aload_n 0, 1) := by decide +kernel
theorem d_Mo_init_73 : decode prog_9_method_1_code 73 = .ok (.bipush (15), 2) := by decide +kernel
theorem d_Mo_init_75 : decode prog_9_method_1_code 75 = .ok (.newarray .int, 2) := by decide +kernel
theorem d_Mo_init_77 : decode prog_9_method_1_code 77 = .ok (.putfield 39, 3) := by decide +kernel
theorem d_Mo_init_80 : decode prog_9_method_1_code 80 = .ok (.aload_n 0, 1) := by decide +kernel
theorem d_Mo_init_81 : decode prog_9_method_1_code 81 = .ok (.bipush (6), 2) := by decide +kernel
theorem d_Mo_init_83 : decode prog_9_method_1_code 83 = .ok (.newarray .int, 2) := by decide +kernel
theorem d_Mo_init_85 : decode prog_9_method_1_code 85 = .ok (.putfield 42, 3) := by decide +kernel
theorem d_Mo_init_88 : decode prog_9_method_1_code 88 = .ok (.aload_n 0, 1) := by decide +kernel
theorem d_Mo_init_89 : decode prog_9_method_1_code 89 = .ok (.iconst 5, 1) := by decide +kernel
theorem d_Mo_init_90 : decode prog_9_method_1_code 90 = .ok (.newarray .int, 2) := by decide +kernel
theorem d_Mo_init_92 : decode prog_9_method_1_code 92 = .ok (.putfield 45, 3) := by decide +kernel
theorem d_Mo_init_95 : decode prog_9_method_1_code 95 = .ok (.aload_n 0, 1) := by decide +kernel
theorem d_Mo_init_96 : decode prog_9_method_1_code 96 = .ok (.iconst 4, 1) := by decide +kernel
theorem d_Mo_init_97 : decode prog_9_method_1_code 97 = .ok (.newarray .int, 2) := by decide +kernel
theorem d_Mo_init_99 : decode prog_9_method_1_code 99 = .ok (.putfield 48, 3) := by decide +kernel
theorem d_Mo_init_102 : decode prog_9_method_1_code 102 = .ok (.aload_n 0, 1) := by decide +kernel
theorem d_Mo_init_103 : decode prog_9_method_1_code 103 = .ok (.iconst 4, 1) := by decide +kernel
theorem d_Mo_init_104 : decode prog_9_method_1_code 104 = .ok (.newarray .int, 2) := by decide +kernel
theorem d_Mo_init_106 : decode prog_9_method_1_code 106 = .ok (.putfield 51, 3) := by decide +kernel
theorem d_Mo_init_109 : decode prog_9_method_1_code 109 = .ok (.aload_n 0, 1) := by decide +kernel
theorem d_Mo_init_110 : decode prog_9_method_1_code 110 = .ok (.iconst 5, 1) := by decide +kernel
theorem d_Mo_init_111 : decode prog_9_method_1_code 111 = .ok (.newarray .int, 2) := by decide +kernel
theorem d_Mo_init_113 : decode prog_9_method_1_code 113 = .ok (.putfield 54, 3) := by decide +kernel
theorem d_Mo_init_116 : decode prog_9_method_1_code 116 = .ok (.aload_n 0, 1) := by decide +kernel
theorem d_Mo_init_117 : decode prog_9_method_1_code 117 = .ok (.bipush (8), 2) := by decide +kernel
theorem d_Mo_init_119 : decode prog_9_method_1_code 119 = .ok (.newarray .int, 2) := by decide +kernel
theorem d_Mo_init_121 : decode prog_9_method_1_code 121 = .ok (.putfield 57, 3) := by decide +kernel
theorem d_Mo_init_124 : decode prog_9_method_1_code 124 = .ok (.aload_n 0, 1) := by decide +kernel
theorem d_Mo_init_125 : decode prog_9_method_1_code 125 = .ok (.bipush (8), 2) := by decide +kernel
theorem d_Mo_init_127 : decode prog_9_method_1_code 127 = .ok (.newarray .boolean, 2) := by decide +kernel
theorem d_Mo_init_129 : decode prog_9_method_1_code 129 = .ok (.putfield 60, 3) := by decide +kernel
theorem d_Mo_init_132 : decode prog_9_method_1_code 132 = .ok (.aload_n 0, 1) := by decide +kernel
theorem d_Mo_init_133 : decode prog_9_method_1_code 133 = .ok (.bipush (15), 2) := by decide +kernel
theorem d_Mo_init_135 : decode prog_9_method_1_code 135 = .ok (.newarray .int, 2) := by decide +kernel
theorem d_Mo_init_137 : decode prog_9_method_1_code 137 = .ok (.putfield 63, 3) := by decide +kernel
theorem d_Mo_init_140 : decode prog_9_method_1_code 140 = .ok (.aload_n 0, 1) := by decide +kernel
theorem d_Mo_init_141 : decode prog_9_method_1_code 141 = .ok (.bipush (15), 2) := by decide +kernel
theorem d_Mo_init_143 : decode prog_9_method_1_code 143 = .ok (.newarray .int, 2) := by decide +kernel
theorem d_Mo_init_145 : decode prog_9_method_1_code 145 = .ok (.putfield 66, 3) := by decide +kernel
theorem d_Mo_init_148 : decode prog_9_method_1_code 148 = .ok (.aload_n 0, 1) := by decide +kernel
theorem d_Mo_init_149 : decode prog_9_method_1_code 149 = .ok (.iconst 0, 1) := by decide +kernel
theorem d_Mo_init_150 : decode prog_9_method_1_code 150 = .ok (.putfield 69, 3) := by decide +kernel
theorem d_Mo_init_153 : decode prog_9_method_1_code 153 = .ok (.return_, 1) := by decide +kernel
def b_Mo (G : GT) (f : Nat → Nat) : va_W := [(f 0, .inr (7, [.ref (f 1), .ref (f 2), .int 0, .int (0), .ref (f 3), .int 0, .ref (f 4), .ref (f 5), .int 0, .ref (f 6), .ref (f 7), .int 0, .int 0, .int 0, .int 0, .int 0, .int (-1), .int 0, .ref (f 8), .int 0, .ref (f 9), .int 0, .ref (f 10), .int 0, .ref (f 11), .int 0, .ref (f 12), .ref (f 13), .ref (f 14), .int 0, .ref (f 15), .ref (f 16), .int 0, .ref (f 17), .ref (f 18)])), (f 1, .inl (G.2.2.1, 736, .inl (fun _ => 0))), (f 2, .inl (G.2.2.2.1, 2, .inl (fun _ => 0))), (f 3, .inl (G.2.2.1, 8, .inl (fun _ => 0))), (f 4, .inl (G.2.2.1, 5, .inl (fun _ => 0))), (f 5, .inl (G.2.2.1, 5, .inl (fun _ => 0))), (f 6, .inl (G.2.2.1, 6, .inl (fun _ => 0))), (f 7, .inl (G.2.2.1, 240, .inl (fun _ => 0))), (f 8, .inl (G.2.2.1, 8, .inl (fun _ => 0))), (f 9, .inl (G.2.2.1, 15, .inl (fun _ => 0))), (f 10, .inl (G.2.2.1, 6, .inl (fun _ => 0))), (f 11, .inl (G.2.2.1, 5, .inl (fun _ => 0))), (f 12, .inl (G.2.2.1, 4, .inl (fun _ => 0))), (f 13, .inl (G.2.2.1, 4, .inl (fun _ => 0))), (f 14, .inl (G.2.2.1, 5, .inl (fun _ => 0))), (f 15, .inl (G.2.2.1, 8, .inl (fun _ => 0))), (f 16, .inl (G.2.2.2.1, 8, .inl (fun _ => 0))), (f 17, .inl (G.2.2.1, 15, .inl (fun _ => 0))), (f 18, .inl (G.2.2.1, 15, .inl (fun _ => 0)))]
set_option maxRecDepth 20000 in
set_option maxHeartbeats 2000000 in
theorem M_Mo_init (G : GT) : MC G y_Mo_init Y_Mo_init 7 [.null, .null, .int 0, .int 0, .null, .int 0, .null, .null, .int 0, .null, .null, .int 0, .int 0, .int 0, .int 0, .int 0, .int 0, .int 0, .null, .int 0, .null, .int 0, .null, .int 0, .null, .int 0, .null, .null, .null, .int 0, .null, .null, .int 0, .null, .null] 18 1095 (b_Mo G) := by
  refine MC_of rfl (fun Z h0 hz X hin hc ho hR => ?_)
  subst hz
  refine C_aload_n X 0 d_Mo_init_0 rfl ?_
  refine C_obj X cw_670 cw_64 cw_65 rfl d_Mo_init_1 ?_
  refine VC_pc (pc' := 4) rfl ?_
  refine C_aload_n X 0 d_Mo_init_4 rfl ?_
  refine C_sipush (v := (736 : Int32)) X d_Mo_init_5 rfl ?_
  refine C_newi (N := 736) X cw_90 rfl (by rw [hc]; decide) (by rw [ho]; decide) d_Mo_init_8 (fun q8 => ?_)
  refine VC_ap ?_
  refine VC_no (n' := 1) (o' := 736) (by decide) (by decide) ?_
  refine VC_pc (pc' := 10) rfl ?_
  refine C_putF (ci := 7) X hin rfl iMo_ok yMo_ok nMo_ok 0 rfl rfl rfl rfl cw_671 d_Mo_init_10 ?_
  refine VC_hd (fs' := [.ref q8, .null, .int 0, .int 0, .null, .int 0, .null, .null, .int 0, .null, .null, .int 0, .int 0, .int 0, .int 0, .int 0, .int 0, .int 0, .null, .int 0, .null, .int 0, .null, .int 0, .null, .int 0, .null, .null, .null, .int 0, .null, .null, .int 0, .null, .null]) rfl ?_
  refine VC_pc (pc' := 13) rfl ?_
  refine C_aload_n X 0 d_Mo_init_13 rfl ?_
  refine C_iconst (v := (2 : Int32)) X d_Mo_init_14 rfl ?_
  refine C_newz (N := 2) X cw_180 rfl (by rw [hc]; decide) (by rw [ho]; decide) d_Mo_init_15 (fun q15 => ?_)
  refine VC_ap ?_
  refine VC_no (n' := 2) (o' := 738) (by decide) (by decide) ?_
  refine VC_pc (pc' := 17) rfl ?_
  refine C_putF (ci := 7) X hin rfl iMo_ok yMo_ok nMo_ok 1 rfl rfl rfl rfl cw_672 d_Mo_init_17 ?_
  refine VC_hd (fs' := [.ref q8, .ref q15, .int 0, .int 0, .null, .int 0, .null, .null, .int 0, .null, .null, .int 0, .int 0, .int 0, .int 0, .int 0, .int 0, .int 0, .null, .int 0, .null, .int 0, .null, .int 0, .null, .int 0, .null, .null, .null, .int 0, .null, .null, .int 0, .null, .null]) rfl ?_
  refine VC_pc (pc' := 20) rfl ?_
  refine C_aload_n X 0 d_Mo_init_20 rfl ?_
  refine C_bipush (v := (8 : Int32)) X d_Mo_init_21 rfl ?_
  refine C_newi (N := 8) X cw_90 rfl (by rw [hc]; decide) (by rw [ho]; decide) d_Mo_init_23 (fun q23 => ?_)
  refine VC_ap ?_
  refine VC_no (n' := 3) (o' := 746) (by decide) (by decide) ?_
  refine VC_pc (pc' := 25) rfl ?_
  refine C_putF (ci := 7) X hin rfl iMo_ok yMo_ok nMo_ok 4 rfl rfl rfl rfl cw_675 d_Mo_init_25 ?_
  refine VC_hd (fs' := [.ref q8, .ref q15, .int 0, .int 0, .ref q23, .int 0, .null, .null, .int 0, .null, .null, .int 0, .int 0, .int 0, .int 0, .int 0, .int 0, .int 0, .null, .int 0, .null, .int 0, .null, .int 0, .null, .int 0, .null, .null, .null, .int 0, .null, .null, .int 0, .null, .null]) rfl ?_
  refine VC_pc (pc' := 28) rfl ?_
  refine C_aload_n X 0 d_Mo_init_28 rfl ?_
  refine C_iconst (v := (5 : Int32)) X d_Mo_init_29 rfl ?_
  refine C_newi (N := 5) X cw_90 rfl (by rw [hc]; decide) (by rw [ho]; decide) d_Mo_init_30 (fun q30 => ?_)
  refine VC_ap ?_
  refine VC_no (n' := 4) (o' := 751) (by decide) (by decide) ?_
  refine VC_pc (pc' := 32) rfl ?_
  refine C_putF (ci := 7) X hin rfl iMo_ok yMo_ok nMo_ok 6 rfl rfl rfl rfl cw_677 d_Mo_init_32 ?_
  refine VC_hd (fs' := [.ref q8, .ref q15, .int 0, .int 0, .ref q23, .int 0, .ref q30, .null, .int 0, .null, .null, .int 0, .int 0, .int 0, .int 0, .int 0, .int 0, .int 0, .null, .int 0, .null, .int 0, .null, .int 0, .null, .int 0, .null, .null, .null, .int 0, .null, .null, .int 0, .null, .null]) rfl ?_
  refine VC_pc (pc' := 35) rfl ?_
  refine C_aload_n X 0 d_Mo_init_35 rfl ?_
  refine C_iconst (v := (5 : Int32)) X d_Mo_init_36 rfl ?_
  refine C_newi (N := 5) X cw_90 rfl (by rw [hc]; decide) (by rw [ho]; decide) d_Mo_init_37 (fun q37 => ?_)
  refine VC_ap ?_
  refine VC_no (n' := 5) (o' := 756) (by decide) (by decide) ?_
  refine VC_pc (pc' := 39) rfl ?_
  refine C_putF (ci := 7) X hin rfl iMo_ok yMo_ok nMo_ok 7 rfl rfl rfl rfl cw_678 d_Mo_init_39 ?_
  refine VC_hd (fs' := [.ref q8, .ref q15, .int 0, .int 0, .ref q23, .int 0, .ref q30, .ref q37, .int 0, .null, .null, .int 0, .int 0, .int 0, .int 0, .int 0, .int 0, .int 0, .null, .int 0, .null, .int 0, .null, .int 0, .null, .int 0, .null, .null, .null, .int 0, .null, .null, .int 0, .null, .null]) rfl ?_
  refine VC_pc (pc' := 42) rfl ?_
  refine C_aload_n X 0 d_Mo_init_42 rfl ?_
  refine C_bipush (v := (6 : Int32)) X d_Mo_init_43 rfl ?_
  refine C_newi (N := 6) X cw_90 rfl (by rw [hc]; decide) (by rw [ho]; decide) d_Mo_init_45 (fun q45 => ?_)
  refine VC_ap ?_
  refine VC_no (n' := 6) (o' := 762) (by decide) (by decide) ?_
  refine VC_pc (pc' := 47) rfl ?_
  refine C_putF (ci := 7) X hin rfl iMo_ok yMo_ok nMo_ok 9 rfl rfl rfl rfl cw_680 d_Mo_init_47 ?_
  refine VC_hd (fs' := [.ref q8, .ref q15, .int 0, .int 0, .ref q23, .int 0, .ref q30, .ref q37, .int 0, .ref q45, .null, .int 0, .int 0, .int 0, .int 0, .int 0, .int 0, .int 0, .null, .int 0, .null, .int 0, .null, .int 0, .null, .int 0, .null, .null, .null, .int 0, .null, .null, .int 0, .null, .null]) rfl ?_
  refine VC_pc (pc' := 50) rfl ?_
  refine C_aload_n X 0 d_Mo_init_50 rfl ?_
  refine C_sipush (v := (240 : Int32)) X d_Mo_init_51 rfl ?_
  refine C_newi (N := 240) X cw_90 rfl (by rw [hc]; decide) (by rw [ho]; decide) d_Mo_init_54 (fun q54 => ?_)
  refine VC_ap ?_
  refine VC_no (n' := 7) (o' := 1002) (by decide) (by decide) ?_
  refine VC_pc (pc' := 56) rfl ?_
  refine C_putF (ci := 7) X hin rfl iMo_ok yMo_ok nMo_ok 10 rfl rfl rfl rfl cw_681 d_Mo_init_56 ?_
  refine VC_hd (fs' := [.ref q8, .ref q15, .int 0, .int 0, .ref q23, .int 0, .ref q30, .ref q37, .int 0, .ref q45, .ref q54, .int 0, .int 0, .int 0, .int 0, .int 0, .int 0, .int 0, .null, .int 0, .null, .int 0, .null, .int 0, .null, .int 0, .null, .null, .null, .int 0, .null, .null, .int 0, .null, .null]) rfl ?_
  refine VC_pc (pc' := 59) rfl ?_
  refine C_aload_n X 0 d_Mo_init_59 rfl ?_
  refine C_iconst (v := (-1 : Int32)) X d_Mo_init_60 rfl ?_
  refine C_put (ci := 7) X rfl iMo_ok yMo_ok nMo_ok 16 rfl rfl rfl cw_687 d_Mo_init_61 ?_
  refine VC_hd (fs' := [.ref q8, .ref q15, .int 0, .int 0, .ref q23, .int 0, .ref q30, .ref q37, .int 0, .ref q45, .ref q54, .int 0, .int 0, .int 0, .int 0, .int 0, .int (-1), .int 0, .null, .int 0, .null, .int 0, .null, .int 0, .null, .int 0, .null, .null, .null, .int 0, .null, .null, .int 0, .null, .null]) rfl ?_
  refine VC_pc (pc' := 64) rfl ?_
  refine C_aload_n X 0 d_Mo_init_64 rfl ?_
  refine C_bipush (v := (8 : Int32)) X d_Mo_init_65 rfl ?_
  refine C_newi (N := 8) X cw_90 rfl (by rw [hc]; decide) (by rw [ho]; decide) d_Mo_init_67 (fun q67 => ?_)
  refine VC_ap ?_
  refine VC_no (n' := 8) (o' := 1010) (by decide) (by decide) ?_
  refine VC_pc (pc' := 69) rfl ?_
  refine C_putF (ci := 7) X hin rfl iMo_ok yMo_ok nMo_ok 18 rfl rfl rfl rfl cw_689 d_Mo_init_69 ?_
  refine VC_hd (fs' := [.ref q8, .ref q15, .int 0, .int 0, .ref q23, .int 0, .ref q30, .ref q37, .int 0, .ref q45, .ref q54, .int 0, .int 0, .int 0, .int 0, .int 0, .int (-1), .int 0, .ref q67, .int 0, .null, .int 0, .null, .int 0, .null, .int 0, .null, .null, .null, .int 0, .null, .null, .int 0, .null, .null]) rfl ?_
  refine VC_pc (pc' := 72) rfl ?_
  refine C_aload_n X 0 d_Mo_init_72 rfl ?_
  refine C_bipush (v := (15 : Int32)) X d_Mo_init_73 rfl ?_
  refine C_newi (N := 15) X cw_90 rfl (by rw [hc]; decide) (by rw [ho]; decide) d_Mo_init_75 (fun q75 => ?_)
  refine VC_ap ?_
  refine VC_no (n' := 9) (o' := 1025) (by decide) (by decide) ?_
  refine VC_pc (pc' := 77) rfl ?_
  refine C_putF (ci := 7) X hin rfl iMo_ok yMo_ok nMo_ok 20 rfl rfl rfl rfl cw_691 d_Mo_init_77 ?_
  refine VC_hd (fs' := [.ref q8, .ref q15, .int 0, .int 0, .ref q23, .int 0, .ref q30, .ref q37, .int 0, .ref q45, .ref q54, .int 0, .int 0, .int 0, .int 0, .int 0, .int (-1), .int 0, .ref q67, .int 0, .ref q75, .int 0, .null, .int 0, .null, .int 0, .null, .null, .null, .int 0, .null, .null, .int 0, .null, .null]) rfl ?_
  refine VC_pc (pc' := 80) rfl ?_
  refine C_aload_n X 0 d_Mo_init_80 rfl ?_
  refine C_bipush (v := (6 : Int32)) X d_Mo_init_81 rfl ?_
  refine C_newi (N := 6) X cw_90 rfl (by rw [hc]; decide) (by rw [ho]; decide) d_Mo_init_83 (fun q83 => ?_)
  refine VC_ap ?_
  refine VC_no (n' := 10) (o' := 1031) (by decide) (by decide) ?_
  refine VC_pc (pc' := 85) rfl ?_
  refine C_putF (ci := 7) X hin rfl iMo_ok yMo_ok nMo_ok 22 rfl rfl rfl rfl cw_693 d_Mo_init_85 ?_
  refine VC_hd (fs' := [.ref q8, .ref q15, .int 0, .int 0, .ref q23, .int 0, .ref q30, .ref q37, .int 0, .ref q45, .ref q54, .int 0, .int 0, .int 0, .int 0, .int 0, .int (-1), .int 0, .ref q67, .int 0, .ref q75, .int 0, .ref q83, .int 0, .null, .int 0, .null, .null, .null, .int 0, .null, .null, .int 0, .null, .null]) rfl ?_
  refine VC_pc (pc' := 88) rfl ?_
  refine C_aload_n X 0 d_Mo_init_88 rfl ?_
  refine C_iconst (v := (5 : Int32)) X d_Mo_init_89 rfl ?_
  refine C_newi (N := 5) X cw_90 rfl (by rw [hc]; decide) (by rw [ho]; decide) d_Mo_init_90 (fun q90 => ?_)
  refine VC_ap ?_
  refine VC_no (n' := 11) (o' := 1036) (by decide) (by decide) ?_
  refine VC_pc (pc' := 92) rfl ?_
  refine C_putF (ci := 7) X hin rfl iMo_ok yMo_ok nMo_ok 24 rfl rfl rfl rfl cw_695 d_Mo_init_92 ?_
  refine VC_hd (fs' := [.ref q8, .ref q15, .int 0, .int 0, .ref q23, .int 0, .ref q30, .ref q37, .int 0, .ref q45, .ref q54, .int 0, .int 0, .int 0, .int 0, .int 0, .int (-1), .int 0, .ref q67, .int 0, .ref q75, .int 0, .ref q83, .int 0, .ref q90, .int 0, .null, .null, .null, .int 0, .null, .null, .int 0, .null, .null]) rfl ?_
  refine VC_pc (pc' := 95) rfl ?_
  refine C_aload_n X 0 d_Mo_init_95 rfl ?_
  refine C_iconst (v := (4 : Int32)) X d_Mo_init_96 rfl ?_
  refine C_newi (N := 4) X cw_90 rfl (by rw [hc]; decide) (by rw [ho]; decide) d_Mo_init_97 (fun q97 => ?_)
  refine VC_ap ?_
  refine VC_no (n' := 12) (o' := 1040) (by decide) (by decide) ?_
  refine VC_pc (pc' := 99) rfl ?_
  refine C_putF (ci := 7) X hin rfl iMo_ok yMo_ok nMo_ok 26 rfl rfl rfl rfl cw_697 d_Mo_init_99 ?_
  refine VC_hd (fs' := [.ref q8, .ref q15, .int 0, .int 0, .ref q23, .int 0, .ref q30, .ref q37, .int 0, .ref q45, .ref q54, .int 0, .int 0, .int 0, .int 0, .int 0, .int (-1), .int 0, .ref q67, .int 0, .ref q75, .int 0, .ref q83, .int 0, .ref q90, .int 0, .ref q97, .null, .null, .int 0, .null, .null, .int 0, .null, .null]) rfl ?_
  refine VC_pc (pc' := 102) rfl ?_
  refine C_aload_n X 0 d_Mo_init_102 rfl ?_
  refine C_iconst (v := (4 : Int32)) X d_Mo_init_103 rfl ?_
  refine C_newi (N := 4) X cw_90 rfl (by rw [hc]; decide) (by rw [ho]; decide) d_Mo_init_104 (fun q104 => ?_)
  refine VC_ap ?_
  refine VC_no (n' := 13) (o' := 1044) (by decide) (by decide) ?_
  refine VC_pc (pc' := 106) rfl ?_
  refine C_putF (ci := 7) X hin rfl iMo_ok yMo_ok nMo_ok 27 rfl rfl rfl rfl cw_698 d_Mo_init_106 ?_
  refine VC_hd (fs' := [.ref q8, .ref q15, .int 0, .int 0, .ref q23, .int 0, .ref q30, .ref q37, .int 0, .ref q45, .ref q54, .int 0, .int 0, .int 0, .int 0, .int 0, .int (-1), .int 0, .ref q67, .int 0, .ref q75, .int 0, .ref q83, .int 0, .ref q90, .int 0, .ref q97, .ref q104, .null, .int 0, .null, .null, .int 0, .null, .null]) rfl ?_
  refine VC_pc (pc' := 109) rfl ?_
  refine C_aload_n X 0 d_Mo_init_109 rfl ?_
  refine C_iconst (v := (5 : Int32)) X d_Mo_init_110 rfl ?_
  refine C_newi (N := 5) X cw_90 rfl (by rw [hc]; decide) (by rw [ho]; decide) d_Mo_init_111 (fun q111 => ?_)
  refine VC_ap ?_
  refine VC_no (n' := 14) (o' := 1049) (by decide) (by decide) ?_
  refine VC_pc (pc' := 113) rfl ?_
  refine C_putF (ci := 7) X hin rfl iMo_ok yMo_ok nMo_ok 28 rfl rfl rfl rfl cw_699 d_Mo_init_113 ?_
  refine VC_hd (fs' := [.ref q8, .ref q15, .int 0, .int 0, .ref q23, .int 0, .ref q30, .ref q37, .int 0, .ref q45, .ref q54, .int 0, .int 0, .int 0, .int 0, .int 0, .int (-1), .int 0, .ref q67, .int 0, .ref q75, .int 0, .ref q83, .int 0, .ref q90, .int 0, .ref q97, .ref q104, .ref q111, .int 0, .null, .null, .int 0, .null, .null]) rfl ?_
  refine VC_pc (pc' := 116) rfl ?_
  refine C_aload_n X 0 d_Mo_init_116 rfl ?_
  refine C_bipush (v := (8 : Int32)) X d_Mo_init_117 rfl ?_
  refine C_newi (N := 8) X cw_90 rfl (by rw [hc]; decide) (by rw [ho]; decide) d_Mo_init_119 (fun q119 => ?_)
  refine VC_ap ?_
  refine VC_no (n' := 15) (o' := 1057) (by decide) (by decide) ?_
  refine VC_pc (pc' := 121) rfl ?_
  refine C_putF (ci := 7) X hin rfl iMo_ok yMo_ok nMo_ok 30 rfl rfl rfl rfl cw_701 d_Mo_init_121 ?_
  refine VC_hd (fs' := [.ref q8, .ref q15, .int 0, .int 0, .ref q23, .int 0, .ref q30, .ref q37, .int 0, .ref q45, .ref q54, .int 0, .int 0, .int 0, .int 0, .int 0, .int (-1), .int 0, .ref q67, .int 0, .ref q75, .int 0, .ref q83, .int 0, .ref q90, .int 0, .ref q97, .ref q104, .ref q111, .int 0, .ref q119, .null, .int 0, .null, .null]) rfl ?_
  refine VC_pc (pc' := 124) rfl ?_
  refine C_aload_n X 0 d_Mo_init_124 rfl ?_
  refine C_bipush (v := (8 : Int32)) X d_Mo_init_125 rfl ?_
  refine C_newz (N := 8) X cw_180 rfl (by rw [hc]; decide) (by rw [ho]; decide) d_Mo_init_127 (fun q127 => ?_)
  refine VC_ap ?_
  refine VC_no (n' := 16) (o' := 1065) (by decide) (by decide) ?_
  refine VC_pc (pc' := 129) rfl ?_
  refine C_putF (ci := 7) X hin rfl iMo_ok yMo_ok nMo_ok 31 rfl rfl rfl rfl cw_702 d_Mo_init_129 ?_
  refine VC_hd (fs' := [.ref q8, .ref q15, .int 0, .int 0, .ref q23, .int 0, .ref q30, .ref q37, .int 0, .ref q45, .ref q54, .int 0, .int 0, .int 0, .int 0, .int 0, .int (-1), .int 0, .ref q67, .int 0, .ref q75, .int 0, .ref q83, .int 0, .ref q90, .int 0, .ref q97, .ref q104, .ref q111, .int 0, .ref q119, .ref q127, .int 0, .null, .null]) rfl ?_
  refine VC_pc (pc' := 132) rfl ?_
  refine C_aload_n X 0 d_Mo_init_132 rfl ?_
  refine C_bipush (v := (15 : Int32)) X d_Mo_init_133 rfl ?_
  refine C_newi (N := 15) X cw_90 rfl (by rw [hc]; decide) (by rw [ho]; decide) d_Mo_init_135 (fun q135 => ?_)
  refine VC_ap ?_
  refine VC_no (n' := 17) (o' := 1080) (by decide) (by decide) ?_
  refine VC_pc (pc' := 137) rfl ?_
  refine C_putF (ci := 7) X hin rfl iMo_ok yMo_ok nMo_ok 33 rfl rfl rfl rfl cw_704 d_Mo_init_137 ?_
  refine VC_hd (fs' := [.ref q8, .ref q15, .int 0, .int 0, .ref q23, .int 0, .ref q30, .ref q37, .int 0, .ref q45, .ref q54, .int 0, .int 0, .int 0, .int 0, .int 0, .int (-1), .int 0, .ref q67, .int 0, .ref q75, .int 0, .ref q83, .int 0, .ref q90, .int 0, .ref q97, .ref q104, .ref q111, .int 0, .ref q119, .ref q127, .int 0, .ref q135, .null]) rfl ?_
  refine VC_pc (pc' := 140) rfl ?_
  refine C_aload_n X 0 d_Mo_init_140 rfl ?_
  refine C_bipush (v := (15 : Int32)) X d_Mo_init_141 rfl ?_
  refine C_newi (N := 15) X cw_90 rfl (by rw [hc]; decide) (by rw [ho]; decide) d_Mo_init_143 (fun q143 => ?_)
  refine VC_ap ?_
  refine VC_no (n' := 18) (o' := 1095) (by decide) (by decide) ?_
  refine VC_pc (pc' := 145) rfl ?_
  refine C_putF (ci := 7) X hin rfl iMo_ok yMo_ok nMo_ok 34 rfl rfl rfl rfl cw_705 d_Mo_init_145 ?_
  refine VC_hd (fs' := [.ref q8, .ref q15, .int 0, .int 0, .ref q23, .int 0, .ref q30, .ref q37, .int 0, .ref q45, .ref q54, .int 0, .int 0, .int 0, .int 0, .int 0, .int (-1), .int 0, .ref q67, .int 0, .ref q75, .int 0, .ref q83, .int 0, .ref q90, .int 0, .ref q97, .ref q104, .ref q111, .int 0, .ref q119, .ref q127, .int 0, .ref q135, .ref q143]) rfl ?_
  refine VC_pc (pc' := 148) rfl ?_
  refine C_aload_n X 0 d_Mo_init_148 rfl ?_
  refine C_iconst (v := (0 : Int32)) X d_Mo_init_149 rfl ?_
  refine C_put (ci := 7) X rfl iMo_ok yMo_ok nMo_ok 3 rfl rfl rfl cw_674 d_Mo_init_150 ?_
  refine VC_hd (fs' := [.ref q8, .ref q15, .int 0, .int (0), .ref q23, .int 0, .ref q30, .ref q37, .int 0, .ref q45, .ref q54, .int 0, .int 0, .int 0, .int 0, .int 0, .int (-1), .int 0, .ref q67, .int 0, .ref q75, .int 0, .ref q83, .int 0, .ref q90, .int 0, .ref q97, .ref q104, .ref q111, .int 0, .ref q119, .ref q127, .int 0, .ref q135, .ref q143]) rfl ?_
  refine VC_pc (pc' := 153) rfl ?_
  refine VC_eq (ws' := b_Mo (zG Z) (fun k => [h0, q8, q15, q23, q30, q37, q45, q54, q67, q75, q83, q90, q97, q104, q111, q119, q127, q135, q143].getD k 0)) rfl ?_
  exact hR (fun k => [h0, q8, q15, q23, q30, q37, q45, q54, q67, q75, q83, q90, q97, q104, q111, q119, q127, q135, q143].getD k 0) 153 _ rfl d_Mo_init_153
