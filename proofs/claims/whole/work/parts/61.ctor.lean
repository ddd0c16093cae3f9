/-! The constructors. Printed by wip/whole/ctor.py. -/
theorem cw_49 : Cond.initialized "BodyAccounts$Reader" ∈ TB := TB_at 49 (by decide +kernel) rfl
theorem cw_50 : Cond.initialized "BodyAccounts$Standing" ∈ TB := TB_at 50 (by decide +kernel) rfl
theorem cw_52 : Cond.initialized "BodyAccounts$Slate" ∈ TB := TB_at 52 (by decide +kernel) rfl
theorem cw_53 : Cond.initialized "BodyAccounts$Planner" ∈ TB := TB_at 53 (by decide +kernel) rfl
theorem cw_54 : Cond.initialized "BodyAccounts$Branch" ∈ TB := TB_at 54 (by decide +kernel) rfl
theorem cw_64 : Cond.instanceMethod objectInit ∈ TB := TB_at 64 (by decide +kernel) rfl
theorem cw_65 : Cond.code objectInit ⟨#[0xb1]⟩ 1 none ∈ TB := TB_at 65 (by decide +kernel) rfl
theorem cw_69 : Cond.instanceMethod ⟨"BodyAccounts$Reader", "<init>", "()V"⟩ ∈ TB := TB_at 69 (by decide +kernel) rfl
theorem cw_70 : Cond.code ⟨"BodyAccounts$Reader", "<init>", "()V"⟩ prog_5_method_1_code 1 none ∈ TB := TB_at 70 (by decide +kernel) rfl
theorem cw_71 : Cond.methodLink "BodyAccounts$Reader" 3 objectInit ∈ TB := TB_at 71 (by decide +kernel) rfl
theorem cw_72 : Cond.fieldLink "BodyAccounts$Reader" 9 "BodyAccounts$Reader" "letters" "[I" ∈ TB := TB_at 72 (by decide +kernel) rfl
theorem cw_75 : Cond.fieldLink "BodyAccounts$Reader" 15 "BodyAccounts$Reader" "faultPlace" "I" ∈ TB := TB_at 75 (by decide +kernel) rfl
theorem cw_90 : Cond.arrayClass .int ∈ TB := TB_at 90 (by decide +kernel) rfl
theorem cw_94 : Cond.instanceMethod ⟨"BodyAccounts$Standing", "<init>", "()V"⟩ ∈ TB := TB_at 94 (by decide +kernel) rfl
theorem cw_95 : Cond.code ⟨"BodyAccounts$Standing", "<init>", "()V"⟩ prog_7_method_1_code 1 none ∈ TB := TB_at 95 (by decide +kernel) rfl
theorem cw_96 : Cond.methodLink "BodyAccounts$Standing" 3 objectInit ∈ TB := TB_at 96 (by decide +kernel) rfl
theorem cw_97 : Cond.fieldLink "BodyAccounts$Standing" 9 "BodyAccounts$Standing" "balances" "[I" ∈ TB := TB_at 97 (by decide +kernel) rfl
theorem cw_99 : Cond.fieldLink "BodyAccounts$Standing" 15 "BodyAccounts$Standing" "debts" "[I" ∈ TB := TB_at 99 (by decide +kernel) rfl
theorem cw_132 : Cond.instanceMethod ⟨"BodyAccounts$Slate", "<init>", "()V"⟩ ∈ TB := TB_at 132 (by decide +kernel) rfl
theorem cw_133 : Cond.code ⟨"BodyAccounts$Slate", "<init>", "()V"⟩ prog_6_method_1_code 1 none ∈ TB := TB_at 133 (by decide +kernel) rfl
theorem cw_134 : Cond.methodLink "BodyAccounts$Slate" 3 objectInit ∈ TB := TB_at 134 (by decide +kernel) rfl
theorem cw_135 : Cond.fieldLink "BodyAccounts$Slate" 9 "BodyAccounts$Slate" "sums" "[I" ∈ TB := TB_at 135 (by decide +kernel) rfl
theorem cw_137 : Cond.fieldLink "BodyAccounts$Slate" 15 "BodyAccounts$Slate" "mustTasks" "[I" ∈ TB := TB_at 137 (by decide +kernel) rfl
theorem cw_139 : Cond.fieldLink "BodyAccounts$Slate" 18 "BodyAccounts$Slate" "mustMonths" "[I" ∈ TB := TB_at 139 (by decide +kernel) rfl
theorem cw_141 : Cond.fieldLink "BodyAccounts$Slate" 21 "BodyAccounts$Slate" "seenParts" "[I" ∈ TB := TB_at 141 (by decide +kernel) rfl
theorem cw_142 : Cond.fieldLink "BodyAccounts$Slate" 24 "BodyAccounts$Slate" "seenThere" "[Z" ∈ TB := TB_at 142 (by decide +kernel) rfl
theorem cw_143 : Cond.fieldLink "BodyAccounts$Slate" 28 "BodyAccounts$Slate" "entryCustomers" "[I" ∈ TB := TB_at 143 (by decide +kernel) rfl
theorem cw_145 : Cond.fieldLink "BodyAccounts$Slate" 31 "BodyAccounts$Slate" "entryBalances" "[I" ∈ TB := TB_at 145 (by decide +kernel) rfl
theorem cw_180 : Cond.arrayClass .boolean ∈ TB := TB_at 180 (by decide +kernel) rfl
theorem cw_184 : Cond.instanceMethod ⟨"BodyAccounts$Planner", "<init>", "()V"⟩ ∈ TB := TB_at 184 (by decide +kernel) rfl
theorem cw_185 : Cond.code ⟨"BodyAccounts$Planner", "<init>", "()V"⟩ prog_4_method_1_code 1 none ∈ TB := TB_at 185 (by decide +kernel) rfl
theorem cw_186 : Cond.methodLink "BodyAccounts$Planner" 3 objectInit ∈ TB := TB_at 186 (by decide +kernel) rfl
theorem cw_187 : Cond.fieldLink "BodyAccounts$Planner" 9 "BodyAccounts$Planner" "given" "[I" ∈ TB := TB_at 187 (by decide +kernel) rfl
theorem cw_195 : Cond.instanceMethod ⟨"BodyAccounts$Branch", "<init>", "()V"⟩ ∈ TB := TB_at 195 (by decide +kernel) rfl
theorem cw_196 : Cond.code ⟨"BodyAccounts$Branch", "<init>", "()V"⟩ prog_2_method_1_code 1 none ∈ TB := TB_at 196 (by decide +kernel) rfl
theorem cw_197 : Cond.methodLink "BodyAccounts$Branch" 3 objectInit ∈ TB := TB_at 197 (by decide +kernel) rfl
theorem cw_198 : Cond.fieldLink "BodyAccounts$Branch" 9 "BodyAccounts$Branch" "needs" "[I" ∈ TB := TB_at 198 (by decide +kernel) rfl
theorem cw_201 : Cond.fieldLink "BodyAccounts$Branch" 15 "BodyAccounts$Branch" "starts" "[I" ∈ TB := TB_at 201 (by decide +kernel) rfl
theorem cw_203 : Cond.fieldLink "BodyAccounts$Branch" 18 "BodyAccounts$Branch" "pays" "[I" ∈ TB := TB_at 203 (by decide +kernel) rfl
theorem cw_205 : Cond.fieldLink "BodyAccounts$Branch" 21 "BodyAccounts$Branch" "costs" "[I" ∈ TB := TB_at 205 (by decide +kernel) rfl
theorem cw_207 : Cond.fieldLink "BodyAccounts$Branch" 24 "BodyAccounts$Branch" "takes" "[I" ∈ TB := TB_at 207 (by decide +kernel) rfl
def y_St_init : MethodName := ⟨"BodyAccounts$Standing", "<init>", "()V"⟩
abbrev Y_St_init : YT := (prog_7_method_1_code, "BodyAccounts$Standing", 1, 1)
theorem cf_St_init : CFc y_St_init Y_St_init := ⟨cw_94, cw_50, cw_95, by decide +kernel, rfl⟩
def y_Re_init : MethodName := ⟨"BodyAccounts$Reader", "<init>", "()V"⟩
abbrev Y_Re_init : YT := (prog_5_method_1_code, "BodyAccounts$Reader", 1, 1)
theorem cf_Re_init : CFc y_Re_init Y_Re_init := ⟨cw_69, cw_49, cw_70, by decide +kernel, rfl⟩
def y_Sl_init : MethodName := ⟨"BodyAccounts$Slate", "<init>", "()V"⟩
abbrev Y_Sl_init : YT := (prog_6_method_1_code, "BodyAccounts$Slate", 1, 1)
theorem cf_Sl_init : CFc y_Sl_init Y_Sl_init := ⟨cw_132, cw_52, cw_133, by decide +kernel, rfl⟩
def y_Pl_init : MethodName := ⟨"BodyAccounts$Planner", "<init>", "()V"⟩
abbrev Y_Pl_init : YT := (prog_4_method_1_code, "BodyAccounts$Planner", 1, 1)
theorem cf_Pl_init : CFc y_Pl_init Y_Pl_init := ⟨cw_184, cw_53, cw_185, by decide +kernel, rfl⟩
def y_Br_init : MethodName := ⟨"BodyAccounts$Branch", "<init>", "()V"⟩
abbrev Y_Br_init : YT := (prog_2_method_1_code, "BodyAccounts$Branch", 1, 1)
theorem cf_Br_init : CFc y_Br_init Y_Br_init := ⟨cw_195, cw_54, cw_196, by decide +kernel, rfl⟩
theorem d_St_init_0 : decode prog_7_method_1_code 0 = .ok (.aload_n 0, 1) := by decide +kernel
theorem d_St_init_1 : decode prog_7_method_1_code 1 = .ok (.invokespecial 3, 3) := by decide +kernel
theorem d_St_init_4 : decode prog_7_method_1_code 4 = .ok (.aload_n 0, 1) := by decide +kernel
theorem d_St_init_5 : decode prog_7_method_1_code 5 = .ok (.iconst 5, 1) := by decide +kernel
theorem d_St_init_6 : decode prog_7_method_1_code 6 = .ok (.newarray .int, 2) := by decide +kernel
theorem d_St_init_8 : decode prog_7_method_1_code 8 = .ok (.putfield 9, 3) := by decide +kernel
theorem d_St_init_11 : decode prog_7_method_1_code 11 = .ok (.aload_n 0, 1) := by decide +kernel
theorem d_St_init_12 : decode prog_7_method_1_code 12 = .ok (.bipush (25), 2) := by decide +kernel
theorem d_St_init_14 : decode prog_7_method_1_code 14 = .ok (.newarray .int, 2) := by decide +kernel
theorem d_St_init_16 : decode prog_7_method_1_code 16 = .ok (.putfield 15, 3) := by decide +kernel
theorem d_St_init_19 : decode prog_7_method_1_code 19 = .ok (.return_, 1) := by decide +kernel
theorem d_Re_init_0 : decode prog_5_method_1_code 0 = .ok (.aload_n 0, 1) := by decide +kernel
theorem d_Re_init_1 : decode prog_5_method_1_code 1 = .ok (.invokespecial 3, 3) := by decide +kernel
theorem d_Re_init_4 : decode prog_5_method_1_code 4 = .ok (.aload_n 0, 1) := by decide +kernel
theorem d_Re_init_5 : decode prog_5_method_1_code 5 = .ok (.sipush (240), 3) := by decide +kernel
theorem d_Re_init_8 : decode prog_5_method_1_code 8 = .ok (.newarray .int, 2) := by decide +kernel
theorem d_Re_init_10 : decode prog_5_method_1_code 10 = .ok (.putfield 9, 3) := by decide +kernel
theorem d_Re_init_13 : decode prog_5_method_1_code 13 = .ok (.aload_n 0, 1) := by decide +kernel
theorem d_Re_init_14 : decode prog_5_method_1_code 14 = .ok (.iconst (-1), 1) := by decide +kernel
theorem d_Re_init_15 : decode prog_5_method_1_code 15 = .ok (.putfield 15, 3) := by decide +kernel
theorem d_Re_init_18 : decode prog_5_method_1_code 18 = .ok (.return_, 1) := by decide +kernel
theorem d_Sl_init_0 : decode prog_6_method_1_code 0 = .ok (.aload_n 0, 1) := by decide +kernel
theorem d_Sl_init_1 : decode prog_6_method_1_code 1 = .ok (.invokespecial 3, 3) := by decide +kernel
theorem d_Sl_init_4 : decode prog_6_method_1_code 4 = .ok (.aload_n 0, 1) := by decide +kernel
theorem d_Sl_init_5 : decode prog_6_method_1_code 5 = .ok (.iconst 5, 1) := by decide +kernel
theorem d_Sl_init_6 : decode prog_6_method_1_code 6 = .ok (.newarray .int, 2) := by decide +kernel
theorem d_Sl_init_8 : decode prog_6_method_1_code 8 = .ok (.putfield 9, 3) := by decide +kernel
theorem d_Sl_init_11 : decode prog_6_method_1_code 11 = .ok (.aload_n 0, 1) := by decide +kernel
theorem d_Sl_init_12 : decode prog_6_method_1_code 12 = .ok (.iconst 4, 1) := by decide +kernel
theorem d_Sl_init_13 : decode prog_6_method_1_code 13 = .ok (.newarray .int, 2) := by decide +kernel
theorem d_Sl_init_15 : decode prog_6_method_1_code 15 = .ok (.putfield 15, 3) := by decide +kernel
theorem d_Sl_init_18 : decode prog_6_method_1_code 18 = .ok (.aload_n 0, 1) := by decide +kernel
theorem d_Sl_init_19 : decode prog_6_method_1_code 19 = .ok (.iconst 4, 1) := by decide +kernel
theorem d_Sl_init_20 : decode prog_6_method_1_code 20 = .ok (.newarray .int, 2) := by decide +kernel
theorem d_Sl_init_22 : decode prog_6_method_1_code 22 = .ok (.putfield 18, 3) := by decide +kernel
theorem d_Sl_init_25 : decode prog_6_method_1_code 25 = .ok (.aload_n 0, 1) := by decide +kernel
theorem d_Sl_init_26 : decode prog_6_method_1_code 26 = .ok (.bipush (8), 2) := by decide +kernel
theorem d_Sl_init_28 : decode prog_6_method_1_code 28 = .ok (.newarray .int, 2) := by decide +kernel
theorem d_Sl_init_30 : decode prog_6_method_1_code 30 = .ok (.putfield 21, 3) := by decide +kernel
theorem d_Sl_init_33 : decode prog_6_method_1_code 33 = .ok (.aload_n 0, 1) := by decide +kernel
theorem d_Sl_init_34 : decode prog_6_method_1_code 34 = .ok (.bipush (8), 2) := by decide +kernel
theorem d_Sl_init_36 : decode prog_6_method_1_code 36 = .ok (.newarray .boolean, 2) := by decide +kernel
theorem d_Sl_init_38 : decode prog_6_method_1_code 38 = .ok (.putfield 24, 3) := by decide +kernel
theorem d_Sl_init_41 : decode prog_6_method_1_code 41 = .ok (.aload_n 0, 1) := by decide +kernel
theorem d_Sl_init_42 : decode prog_6_method_1_code 42 = .ok (.bipush (15), 2) := by decide +kernel
theorem d_Sl_init_44 : decode prog_6_method_1_code 44 = .ok (.newarray .int, 2) := by decide +kernel
theorem d_Sl_init_46 : decode prog_6_method_1_code 46 = .ok (.putfield 28, 3) := by decide +kernel
theorem d_Sl_init_49 : decode prog_6_method_1_code 49 = .ok (.aload_n 0, 1) := by decide +kernel
theorem d_Sl_init_50 : decode prog_6_method_1_code 50 = .ok (.bipush (15), 2) := by decide +kernel
theorem d_Sl_init_52 : decode prog_6_method_1_code 52 = .ok (.newarray .int, 2) := by decide +kernel
theorem d_Sl_init_54 : decode prog_6_method_1_code 54 = .ok (.putfield 31, 3) := by decide +kernel
theorem d_Sl_init_57 : decode prog_6_method_1_code 57 = .ok (.return_, 1) := by decide +kernel
theorem d_Pl_init_0 : decode prog_4_method_1_code 0 = .ok (.aload_n 0, 1) := by decide +kernel
theorem d_Pl_init_1 : decode prog_4_method_1_code 1 = .ok (.invokespecial 3, 3) := by decide +kernel
theorem d_Pl_init_4 : decode prog_4_method_1_code 4 = .ok (.aload_n 0, 1) := by decide +kernel
theorem d_Pl_init_5 : decode prog_4_method_1_code 5 = .ok (.iconst 5, 1) := by decide +kernel
theorem d_Pl_init_6 : decode prog_4_method_1_code 6 = .ok (.newarray .int, 2) := by decide +kernel
theorem d_Pl_init_8 : decode prog_4_method_1_code 8 = .ok (.putfield 9, 3) := by decide +kernel
theorem d_Pl_init_11 : decode prog_4_method_1_code 11 = .ok (.return_, 1) := by decide +kernel
theorem d_Br_init_0 : decode prog_2_method_1_code 0 = .ok (.aload_n 0, 1) := by decide +kernel
theorem d_Br_init_1 : decode prog_2_method_1_code 1 = .ok (.invokespecial 3, 3) := by decide +kernel
theorem d_Br_init_4 : decode prog_2_method_1_code 4 = .ok (.aload_n 0, 1) := by decide +kernel
theorem d_Br_init_5 : decode prog_2_method_1_code 5 = .ok (.bipush (8), 2) := by decide +kernel
theorem d_Br_init_7 : decode prog_2_method_1_code 7 = .ok (.newarray .int, 2) := by decide +kernel
theorem d_Br_init_9 : decode prog_2_method_1_code 9 = .ok (.putfield 9, 3) := by decide +kernel
theorem d_Br_init_12 : decode prog_2_method_1_code 12 = .ok (.aload_n 0, 1) := by decide +kernel
theorem d_Br_init_13 : decode prog_2_method_1_code 13 = .ok (.iconst 5, 1) := by decide +kernel
theorem d_Br_init_14 : decode prog_2_method_1_code 14 = .ok (.newarray .int, 2) := by decide +kernel
theorem d_Br_init_16 : decode prog_2_method_1_code 16 = .ok (.putfield 15, 3) := by decide +kernel
theorem d_Br_init_19 : decode prog_2_method_1_code 19 = .ok (.aload_n 0, 1) := by decide +kernel
theorem d_Br_init_20 : decode prog_2_method_1_code 20 = .ok (.iconst 5, 1) := by decide +kernel
theorem d_Br_init_21 : decode prog_2_method_1_code 21 = .ok (.newarray .int, 2) := by decide +kernel
theorem d_Br_init_23 : decode prog_2_method_1_code 23 = .ok (.putfield 18, 3) := by decide +kernel
theorem d_Br_init_26 : decode prog_2_method_1_code 26 = .ok (.aload_n 0, 1) := by decide +kernel
theorem d_Br_init_27 : decode prog_2_method_1_code 27 = .ok (.iconst 5, 1) := by decide +kernel
theorem d_Br_init_28 : decode prog_2_method_1_code 28 = .ok (.newarray .int, 2) := by decide +kernel
theorem d_Br_init_30 : decode prog_2_method_1_code 30 = .ok (.putfield 21, 3) := by decide +kernel
theorem d_Br_init_33 : decode prog_2_method_1_code 33 = .ok (.aload_n 0, 1) := by decide +kernel
theorem d_Br_init_34 : decode prog_2_method_1_code 34 = .ok (.bipush (6), 2) := by decide +kernel
theorem d_Br_init_36 : decode prog_2_method_1_code 36 = .ok (.newarray .int, 2) := by decide +kernel
theorem d_Br_init_38 : decode prog_2_method_1_code 38 = .ok (.putfield 24, 3) := by decide +kernel
theorem d_Br_init_41 : decode prog_2_method_1_code 41 = .ok (.return_, 1) := by decide +kernel
set_option maxRecDepth 20000 in
set_option maxHeartbeats 2000000 in
theorem M_St_init (G : GT) : MC G y_St_init Y_St_init 5 [.null, .null, .int 0] 2 30 (b_St G) := by
  refine MC_of rfl (fun Z h0 hz X hin hc ho hR => ?_)
  subst hz
  refine C_aload_n X 0 d_St_init_0 rfl ?_
  refine C_obj X cw_96 cw_64 cw_65 rfl d_St_init_1 ?_
  refine VC_pc (pc' := 4) rfl ?_
  refine C_aload_n X 0 d_St_init_4 rfl ?_
  refine C_iconst (v := (5 : Int32)) X d_St_init_5 rfl ?_
  refine C_newi (N := 5) X cw_90 rfl (by rw [hc]; decide) (by rw [ho]; decide) d_St_init_6 (fun q6 => ?_)
  refine VC_ap ?_
  refine VC_no (n' := 1) (o' := 5) (by decide) (by decide) ?_
  refine VC_pc (pc' := 8) rfl ?_
  refine C_putF (ci := 5) X hin rfl iSt_ok ySt_ok nSt_ok 0 rfl rfl rfl rfl cw_97 d_St_init_8 ?_
  refine VC_hd (fs' := [.ref q6, .null, .int 0]) rfl ?_
  refine VC_pc (pc' := 11) rfl ?_
  refine C_aload_n X 0 d_St_init_11 rfl ?_
  refine C_bipush (v := (25 : Int32)) X d_St_init_12 rfl ?_
  refine C_newi (N := 25) X cw_90 rfl (by rw [hc]; decide) (by rw [ho]; decide) d_St_init_14 (fun q14 => ?_)
  refine VC_ap ?_
  refine VC_no (n' := 2) (o' := 30) (by decide) (by decide) ?_
  refine VC_pc (pc' := 16) rfl ?_
  refine C_putF (ci := 5) X hin rfl iSt_ok ySt_ok nSt_ok 1 rfl rfl rfl rfl cw_99 d_St_init_16 ?_
  refine VC_hd (fs' := [.ref q6, .ref q14, .int 0]) rfl ?_
  refine VC_pc (pc' := 19) rfl ?_
  refine VC_eq (ws' := b_St (zG Z) (fun k => [h0, q6, q14].getD k 0)) rfl ?_
  exact hR (fun k => [h0, q6, q14].getD k 0) 19 _ rfl d_St_init_19
def b_Re (G : GT) (f : Nat → Nat) : va_W := [(f 0, .inr (3, [.ref (f 1), .int 0, .int (-1), .int 0, .int 0])), (f 1, .inl (G.2.2.1, 240, .inl (fun _ => 0)))]
set_option maxRecDepth 20000 in
set_option maxHeartbeats 2000000 in
theorem M_Re_init (G : GT) : MC G y_Re_init Y_Re_init 3 [.null, .int 0, .int 0, .int 0, .int 0] 1 240 (b_Re G) := by
  refine MC_of rfl (fun Z h0 hz X hin hc ho hR => ?_)
  subst hz
  refine C_aload_n X 0 d_Re_init_0 rfl ?_
  refine C_obj X cw_71 cw_64 cw_65 rfl d_Re_init_1 ?_
  refine VC_pc (pc' := 4) rfl ?_
  refine C_aload_n X 0 d_Re_init_4 rfl ?_
  refine C_sipush (v := (240 : Int32)) X d_Re_init_5 rfl ?_
  refine C_newi (N := 240) X cw_90 rfl (by rw [hc]; decide) (by rw [ho]; decide) d_Re_init_8 (fun q8 => ?_)
  refine VC_ap ?_
  refine VC_no (n' := 1) (o' := 240) (by decide) (by decide) ?_
  refine VC_pc (pc' := 10) rfl ?_
  refine C_putF (ci := 3) X hin rfl iRe_ok yRe_ok nRe_ok 0 rfl rfl rfl rfl cw_72 d_Re_init_10 ?_
  refine VC_hd (fs' := [.ref q8, .int 0, .int 0, .int 0, .int 0]) rfl ?_
  refine VC_pc (pc' := 13) rfl ?_
  refine C_aload_n X 0 d_Re_init_13 rfl ?_
  refine C_iconst (v := (-1 : Int32)) X d_Re_init_14 rfl ?_
  refine C_put (ci := 3) X rfl iRe_ok yRe_ok nRe_ok 2 rfl rfl rfl cw_75 d_Re_init_15 ?_
  refine VC_hd (fs' := [.ref q8, .int 0, .int (-1), .int 0, .int 0]) rfl ?_
  refine VC_pc (pc' := 18) rfl ?_
  refine VC_eq (ws' := b_Re (zG Z) (fun k => [h0, q8].getD k 0)) rfl ?_
  exact hR (fun k => [h0, q8].getD k 0) 18 _ rfl d_Re_init_18
def b_Sl (G : GT) (f : Nat → Nat) : va_W := [(f 0, .inr (4, [.ref (f 1), .ref (f 2), .ref (f 3), .ref (f 4), .ref (f 5), .ref (f 6), .ref (f 7), .int 0, .int 0, .int 0, .int 0])), (f 1, .inl (G.2.2.1, 5, .inl (fun _ => 0))), (f 2, .inl (G.2.2.1, 4, .inl (fun _ => 0))), (f 3, .inl (G.2.2.1, 4, .inl (fun _ => 0))), (f 4, .inl (G.2.2.1, 8, .inl (fun _ => 0))), (f 5, .inl (G.2.2.2.1, 8, .inl (fun _ => 0))), (f 6, .inl (G.2.2.1, 15, .inl (fun _ => 0))), (f 7, .inl (G.2.2.1, 15, .inl (fun _ => 0)))]
set_option maxRecDepth 20000 in
set_option maxHeartbeats 2000000 in
theorem M_Sl_init (G : GT) : MC G y_Sl_init Y_Sl_init 4 [.null, .null, .null, .null, .null, .null, .null, .int 0, .int 0, .int 0, .int 0] 7 59 (b_Sl G) := by
  refine MC_of rfl (fun Z h0 hz X hin hc ho hR => ?_)
  subst hz
  refine C_aload_n X 0 d_Sl_init_0 rfl ?_
  refine C_obj X cw_134 cw_64 cw_65 rfl d_Sl_init_1 ?_
  refine VC_pc (pc' := 4) rfl ?_
  refine C_aload_n X 0 d_Sl_init_4 rfl ?_
  refine C_iconst (v := (5 : Int32)) X d_Sl_init_5 rfl ?_
  refine C_newi (N := 5) X cw_90 rfl (by rw [hc]; decide) (by rw [ho]; decide) d_Sl_init_6 (fun q6 => ?_)
  refine VC_ap ?_
  refine VC_no (n' := 1) (o' := 5) (by decide) (by decide) ?_
  refine VC_pc (pc' := 8) rfl ?_
  refine C_putF (ci := 4) X hin rfl iSl_ok ySl_ok nSl_ok 0 rfl rfl rfl rfl cw_135 d_Sl_init_8 ?_
  refine VC_hd (fs' := [.ref q6, .null, .null, .null, .null, .null, .null, .int 0, .int 0, .int 0, .int 0]) rfl ?_
  refine VC_pc (pc' := 11) rfl ?_
  refine C_aload_n X 0 d_Sl_init_11 rfl ?_
  refine C_iconst (v := (4 : Int32)) X d_Sl_init_12 rfl ?_
  refine C_newi (N := 4) X cw_90 rfl (by rw [hc]; decide) (by rw [ho]; decide) d_Sl_init_13 (fun q13 => ?_)
  refine VC_ap ?_
  refine VC_no (n' := 2) (o' := 9) (by decide) (by decide) ?_
  refine VC_pc (pc' := 15) rfl ?_
  refine C_putF (ci := 4) X hin rfl iSl_ok ySl_ok nSl_ok 1 rfl rfl rfl rfl cw_137 d_Sl_init_15 ?_
  refine VC_hd (fs' := [.ref q6, .ref q13, .null, .null, .null, .null, .null, .int 0, .int 0, .int 0, .int 0]) rfl ?_
  refine VC_pc (pc' := 18) rfl ?_
  refine C_aload_n X 0 d_Sl_init_18 rfl ?_
  refine C_iconst (v := (4 : Int32)) X d_Sl_init_19 rfl ?_
  refine C_newi (N := 4) X cw_90 rfl (by rw [hc]; decide) (by rw [ho]; decide) d_Sl_init_20 (fun q20 => ?_)
  refine VC_ap ?_
  refine VC_no (n' := 3) (o' := 13) (by decide) (by decide) ?_
  refine VC_pc (pc' := 22) rfl ?_
  refine C_putF (ci := 4) X hin rfl iSl_ok ySl_ok nSl_ok 2 rfl rfl rfl rfl cw_139 d_Sl_init_22 ?_
  refine VC_hd (fs' := [.ref q6, .ref q13, .ref q20, .null, .null, .null, .null, .int 0, .int 0, .int 0, .int 0]) rfl ?_
  refine VC_pc (pc' := 25) rfl ?_
  refine C_aload_n X 0 d_Sl_init_25 rfl ?_
  refine C_bipush (v := (8 : Int32)) X d_Sl_init_26 rfl ?_
  refine C_newi (N := 8) X cw_90 rfl (by rw [hc]; decide) (by rw [ho]; decide) d_Sl_init_28 (fun q28 => ?_)
  refine VC_ap ?_
  refine VC_no (n' := 4) (o' := 21) (by decide) (by decide) ?_
  refine VC_pc (pc' := 30) rfl ?_
  refine C_putF (ci := 4) X hin rfl iSl_ok ySl_ok nSl_ok 3 rfl rfl rfl rfl cw_141 d_Sl_init_30 ?_
  refine VC_hd (fs' := [.ref q6, .ref q13, .ref q20, .ref q28, .null, .null, .null, .int 0, .int 0, .int 0, .int 0]) rfl ?_
  refine VC_pc (pc' := 33) rfl ?_
  refine C_aload_n X 0 d_Sl_init_33 rfl ?_
  refine C_bipush (v := (8 : Int32)) X d_Sl_init_34 rfl ?_
  refine C_newz (N := 8) X cw_180 rfl (by rw [hc]; decide) (by rw [ho]; decide) d_Sl_init_36 (fun q36 => ?_)
  refine VC_ap ?_
  refine VC_no (n' := 5) (o' := 29) (by decide) (by decide) ?_
  refine VC_pc (pc' := 38) rfl ?_
  refine C_putF (ci := 4) X hin rfl iSl_ok ySl_ok nSl_ok 4 rfl rfl rfl rfl cw_142 d_Sl_init_38 ?_
  refine VC_hd (fs' := [.ref q6, .ref q13, .ref q20, .ref q28, .ref q36, .null, .null, .int 0, .int 0, .int 0, .int 0]) rfl ?_
  refine VC_pc (pc' := 41) rfl ?_
  refine C_aload_n X 0 d_Sl_init_41 rfl ?_
  refine C_bipush (v := (15 : Int32)) X d_Sl_init_42 rfl ?_
  refine C_newi (N := 15) X cw_90 rfl (by rw [hc]; decide) (by rw [ho]; decide) d_Sl_init_44 (fun q44 => ?_)
  refine VC_ap ?_
  refine VC_no (n' := 6) (o' := 44) (by decide) (by decide) ?_
  refine VC_pc (pc' := 46) rfl ?_
  refine C_putF (ci := 4) X hin rfl iSl_ok ySl_ok nSl_ok 5 rfl rfl rfl rfl cw_143 d_Sl_init_46 ?_
  refine VC_hd (fs' := [.ref q6, .ref q13, .ref q20, .ref q28, .ref q36, .ref q44, .null, .int 0, .int 0, .int 0, .int 0]) rfl ?_
  refine VC_pc (pc' := 49) rfl ?_
  refine C_aload_n X 0 d_Sl_init_49 rfl ?_
  refine C_bipush (v := (15 : Int32)) X d_Sl_init_50 rfl ?_
  refine C_newi (N := 15) X cw_90 rfl (by rw [hc]; decide) (by rw [ho]; decide) d_Sl_init_52 (fun q52 => ?_)
  refine VC_ap ?_
  refine VC_no (n' := 7) (o' := 59) (by decide) (by decide) ?_
  refine VC_pc (pc' := 54) rfl ?_
  refine C_putF (ci := 4) X hin rfl iSl_ok ySl_ok nSl_ok 6 rfl rfl rfl rfl cw_145 d_Sl_init_54 ?_
  refine VC_hd (fs' := [.ref q6, .ref q13, .ref q20, .ref q28, .ref q36, .ref q44, .ref q52, .int 0, .int 0, .int 0, .int 0]) rfl ?_
  refine VC_pc (pc' := 57) rfl ?_
  refine VC_eq (ws' := b_Sl (zG Z) (fun k => [h0, q6, q13, q20, q28, q36, q44, q52].getD k 0)) rfl ?_
  exact hR (fun k => [h0, q6, q13, q20, q28, q36, q44, q52].getD k 0) 57 _ rfl d_Sl_init_57
def b_Pl (G : GT) (f : Nat → Nat) : va_W := [(f 0, .inr (2, [.ref (f 1)])), (f 1, .inl (G.2.2.1, 5, .inl (fun _ => 0)))]
set_option maxRecDepth 20000 in
set_option maxHeartbeats 2000000 in
theorem M_Pl_init (G : GT) : MC G y_Pl_init Y_Pl_init 2 [.null] 1 5 (b_Pl G) := by
  refine MC_of rfl (fun Z h0 hz X hin hc ho hR => ?_)
  subst hz
  refine C_aload_n X 0 d_Pl_init_0 rfl ?_
  refine C_obj X cw_186 cw_64 cw_65 rfl d_Pl_init_1 ?_
  refine VC_pc (pc' := 4) rfl ?_
  refine C_aload_n X 0 d_Pl_init_4 rfl ?_
  refine C_iconst (v := (5 : Int32)) X d_Pl_init_5 rfl ?_
  refine C_newi (N := 5) X cw_90 rfl (by rw [hc]; decide) (by rw [ho]; decide) d_Pl_init_6 (fun q6 => ?_)
  refine VC_ap ?_
  refine VC_no (n' := 1) (o' := 5) (by decide) (by decide) ?_
  refine VC_pc (pc' := 8) rfl ?_
  refine C_putF (ci := 2) X hin rfl iPl_ok yPl_ok nPl_ok 0 rfl rfl rfl rfl cw_187 d_Pl_init_8 ?_
  refine VC_hd (fs' := [.ref q6]) rfl ?_
  refine VC_pc (pc' := 11) rfl ?_
  refine VC_eq (ws' := b_Pl (zG Z) (fun k => [h0, q6].getD k 0)) rfl ?_
  exact hR (fun k => [h0, q6].getD k 0) 11 _ rfl d_Pl_init_11
def b_Br (G : GT) (f : Nat → Nat) : va_W := [(f 0, .inr (0, [.ref (f 1), .ref (f 2), .ref (f 3), .ref (f 4), .ref (f 5), .int 0, .int 0, .int 0])), (f 1, .inl (G.2.2.1, 8, .inl (fun _ => 0))), (f 2, .inl (G.2.2.1, 5, .inl (fun _ => 0))), (f 3, .inl (G.2.2.1, 5, .inl (fun _ => 0))), (f 4, .inl (G.2.2.1, 5, .inl (fun _ => 0))), (f 5, .inl (G.2.2.1, 6, .inl (fun _ => 0)))]
set_option maxRecDepth 20000 in
set_option maxHeartbeats 2000000 in
theorem M_Br_init (G : GT) : MC G y_Br_init Y_Br_init 0 [.null, .null, .null, .null, .null, .int 0, .int 0, .int 0] 5 29 (b_Br G) := by
  refine MC_of rfl (fun Z h0 hz X hin hc ho hR => ?_)
  subst hz
  refine C_aload_n X 0 d_Br_init_0 rfl ?_
  refine C_obj X cw_197 cw_64 cw_65 rfl d_Br_init_1 ?_
  refine VC_pc (pc' := 4) rfl ?_
  refine C_aload_n X 0 d_Br_init_4 rfl ?_
  refine C_bipush (v := (8 : Int32)) X d_Br_init_5 rfl ?_
  refine C_newi (N := 8) X cw_90 rfl (by rw [hc]; decide) (by rw [ho]; decide) d_Br_init_7 (fun q7 => ?_)
  refine VC_ap ?_
  refine VC_no (n' := 1) (o' := 8) (by decide) (by decide) ?_
  refine VC_pc (pc' := 9) rfl ?_
  refine C_putF (ci := 0) X hin rfl iBr_ok yBr_ok nBr_ok 0 rfl rfl rfl rfl cw_198 d_Br_init_9 ?_
  refine VC_hd (fs' := [.ref q7, .null, .null, .null, .null, .int 0, .int 0, .int 0]) rfl ?_
  refine VC_pc (pc' := 12) rfl ?_
  refine C_aload_n X 0 d_Br_init_12 rfl ?_
  refine C_iconst (v := (5 : Int32)) X d_Br_init_13 rfl ?_
  refine C_newi (N := 5) X cw_90 rfl (by rw [hc]; decide) (by rw [ho]; decide) d_Br_init_14 (fun q14 => ?_)
  refine VC_ap ?_
  refine VC_no (n' := 2) (o' := 13) (by decide) (by decide) ?_
  refine VC_pc (pc' := 16) rfl ?_
  refine C_putF (ci := 0) X hin rfl iBr_ok yBr_ok nBr_ok 1 rfl rfl rfl rfl cw_201 d_Br_init_16 ?_
  refine VC_hd (fs' := [.ref q7, .ref q14, .null, .null, .null, .int 0, .int 0, .int 0]) rfl ?_
  refine VC_pc (pc' := 19) rfl ?_
  refine C_aload_n X 0 d_Br_init_19 rfl ?_
  refine C_iconst (v := (5 : Int32)) X d_Br_init_20 rfl ?_
  refine C_newi (N := 5) X cw_90 rfl (by rw [hc]; decide) (by rw [ho]; decide) d_Br_init_21 (fun q21 => ?_)
  refine VC_ap ?_
  refine VC_no (n' := 3) (o' := 18) (by decide) (by decide) ?_
  refine VC_pc (pc' := 23) rfl ?_
  refine C_putF (ci := 0) X hin rfl iBr_ok yBr_ok nBr_ok 2 rfl rfl rfl rfl cw_203 d_Br_init_23 ?_
  refine VC_hd (fs' := [.ref q7, .ref q14, .ref q21, .null, .null, .int 0, .int 0, .int 0]) rfl ?_
  refine VC_pc (pc' := 26) rfl ?_
  refine C_aload_n X 0 d_Br_init_26 rfl ?_
  refine C_iconst (v := (5 : Int32)) X d_Br_init_27 rfl ?_
  refine C_newi (N := 5) X cw_90 rfl (by rw [hc]; decide) (by rw [ho]; decide) d_Br_init_28 (fun q28 => ?_)
  refine VC_ap ?_
  refine VC_no (n' := 4) (o' := 23) (by decide) (by decide) ?_
  refine VC_pc (pc' := 30) rfl ?_
  refine C_putF (ci := 0) X hin rfl iBr_ok yBr_ok nBr_ok 3 rfl rfl rfl rfl cw_205 d_Br_init_30 ?_
  refine VC_hd (fs' := [.ref q7, .ref q14, .ref q21, .ref q28, .null, .int 0, .int 0, .int 0]) rfl ?_
  refine VC_pc (pc' := 33) rfl ?_
  refine C_aload_n X 0 d_Br_init_33 rfl ?_
  refine C_bipush (v := (6 : Int32)) X d_Br_init_34 rfl ?_
  refine C_newi (N := 6) X cw_90 rfl (by rw [hc]; decide) (by rw [ho]; decide) d_Br_init_36 (fun q36 => ?_)
  refine VC_ap ?_
  refine VC_no (n' := 5) (o' := 29) (by decide) (by decide) ?_
  refine VC_pc (pc' := 38) rfl ?_
  refine C_putF (ci := 0) X hin rfl iBr_ok yBr_ok nBr_ok 4 rfl rfl rfl rfl cw_207 d_Br_init_38 ?_
  refine VC_hd (fs' := [.ref q7, .ref q14, .ref q21, .ref q28, .ref q36, .int 0, .int 0, .int 0]) rfl ?_
  refine VC_pc (pc' := 41) rfl ?_
  refine VC_eq (ws' := b_Br (zG Z) (fun k => [h0, q7, q14, q21, q28, q36].getD k 0)) rfl ?_
  exact hR (fun k => [h0, q7, q14, q21, q28, q36].getD k 0) 41 _ rfl d_Br_init_41
