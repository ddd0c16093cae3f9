/-! The class's constructor. Printed by wip/whole/ctor.py. -/
theorem cw_48 : Cond.initialized "BodyAccounts" ∈ TB := TB_at 48 (by decide +kernel) rfl
theorem cw_61 : Cond.instanceMethod ⟨"BodyAccounts", "<init>", "()V"⟩ ∈ TB := TB_at 61 (by decide +kernel) rfl
theorem cw_62 : Cond.code ⟨"BodyAccounts", "<init>", "()V"⟩ prog_1_method_1_code 2 none ∈ TB := TB_at 62 (by decide +kernel) rfl
theorem cw_63 : Cond.methodLink "BodyAccounts" 1 objectInit ∈ TB := TB_at 63 (by decide +kernel) rfl
theorem cw_66 : Cond.classLink "BodyAccounts" 7 "BodyAccounts$Reader" ∈ TB := TB_at 66 (by decide +kernel) rfl
theorem cw_67 : Cond.instantiable "BodyAccounts$Reader" 5 ∈ TB := TB_at 67 (by decide +kernel) rfl
theorem cw_91 : Cond.classLink "BodyAccounts" 16 "BodyAccounts$Standing" ∈ TB := TB_at 91 (by decide +kernel) rfl
theorem cw_109 : Cond.classLink "BodyAccounts" 23 "BodyAccounts$Past" ∈ TB := TB_at 109 (by decide +kernel) rfl
theorem cw_110 : Cond.instantiable "BodyAccounts$Past" 3 ∈ TB := TB_at 110 (by decide +kernel) rfl
theorem cw_111 : Cond.methodLink "BodyAccounts" 25 ⟨"BodyAccounts$Past", "<init>", "()V"⟩ ∈ TB := TB_at 111 (by decide +kernel) rfl
theorem cw_129 : Cond.classLink "BodyAccounts" 30 "BodyAccounts$Slate" ∈ TB := TB_at 129 (by decide +kernel) rfl
theorem cw_130 : Cond.instantiable "BodyAccounts$Slate" 11 ∈ TB := TB_at 130 (by decide +kernel) rfl
theorem cw_181 : Cond.classLink "BodyAccounts" 37 "BodyAccounts$Planner" ∈ TB := TB_at 181 (by decide +kernel) rfl
theorem cw_182 : Cond.instantiable "BodyAccounts$Planner" 1 ∈ TB := TB_at 182 (by decide +kernel) rfl
theorem cw_192 : Cond.classLink "BodyAccounts" 56 "BodyAccounts$Branch" ∈ TB := TB_at 192 (by decide +kernel) rfl
theorem cw_193 : Cond.instantiable "BodyAccounts$Branch" 8 ∈ TB := TB_at 193 (by decide +kernel) rfl
theorem cw_234 : Cond.fieldLink "BodyAccounts" 10 "BodyAccounts" "reader" "LBodyAccounts$Reader;" ∈ TB := TB_at 234 (by decide +kernel) rfl
theorem cw_235 : Cond.fieldLink "BodyAccounts" 19 "BodyAccounts" "now" "LBodyAccounts$Standing;" ∈ TB := TB_at 235 (by decide +kernel) rfl
theorem cw_236 : Cond.fieldLink "BodyAccounts" 26 "BodyAccounts" "past" "LBodyAccounts$Past;" ∈ TB := TB_at 236 (by decide +kernel) rfl
theorem cw_237 : Cond.fieldLink "BodyAccounts" 33 "BodyAccounts" "slate" "LBodyAccounts$Slate;" ∈ TB := TB_at 237 (by decide +kernel) rfl
theorem cw_238 : Cond.fieldLink "BodyAccounts" 40 "BodyAccounts" "planner" "LBodyAccounts$Planner;" ∈ TB := TB_at 238 (by decide +kernel) rfl
theorem cw_239 : Cond.fieldLink "BodyAccounts" 44 "BodyAccounts" "images" "[LBodyAccounts$Standing;" ∈ TB := TB_at 239 (by decide +kernel) rfl
theorem cw_240 : Cond.fieldLink "BodyAccounts" 48 "BodyAccounts" "imageSeeds" "[I" ∈ TB := TB_at 240 (by decide +kernel) rfl
theorem cw_241 : Cond.fieldLink "BodyAccounts" 52 "BodyAccounts" "imageKept" "[Z" ∈ TB := TB_at 241 (by decide +kernel) rfl
theorem cw_242 : Cond.fieldLink "BodyAccounts" 59 "BodyAccounts" "current" "LBodyAccounts$Branch;" ∈ TB := TB_at 242 (by decide +kernel) rfl
theorem cw_243 : Cond.fieldLink "BodyAccounts" 63 "BodyAccounts" "spare" "LBodyAccounts$Branch;" ∈ TB := TB_at 243 (by decide +kernel) rfl
theorem cw_244 : Cond.fieldLink "BodyAccounts" 66 "BodyAccounts" "faultPlace" "I" ∈ TB := TB_at 244 (by decide +kernel) rfl
theorem cw_245 : Cond.fieldLink "BodyAccounts" 70 "BodyAccounts" "seedNow" "I" ∈ TB := TB_at 245 (by decide +kernel) rfl
def y_BA_init : MethodName := ⟨"BodyAccounts", "<init>", "()V"⟩
abbrev Y_BA_init : YT := (prog_1_method_1_code, "BodyAccounts", 2, 3)
theorem cf_BA_init : CFc y_BA_init Y_BA_init := ⟨cw_61, cw_48, cw_62, by decide +kernel, rfl⟩
theorem d_BA_init_0 : decode prog_1_method_1_code 0 = .ok (.aload_n 0, 1) := by decide +kernel
theorem d_BA_init_1 : decode prog_1_method_1_code 1 = .ok (.invokespecial 1, 3) := by decide +kernel
theorem d_BA_init_4 : decode prog_1_method_1_code 4 = .ok (.aload_n 0, 1) := by decide +kernel
theorem d_BA_init_5 : decode prog_1_method_1_code 5 = .ok (.new 7, 3) := by decide +kernel
theorem d_BA_init_8 : decode prog_1_method_1_code 8 = .ok (.dup, 1) := by decide +kernel
theorem d_BA_init_9 : decode prog_1_method_1_code 9 = .ok (.invokespecial 9, 3) := by decide +kernel
theorem d_BA_init_12 : decode prog_1_method_1_code 12 = .ok (.putfield 10, 3) := by decide +kernel
theorem d_BA_init_15 : decode prog_1_method_1_code 15 = .ok (.aload_n 0, 1) := by decide +kernel
theorem d_BA_init_16 : decode prog_1_method_1_code 16 = .ok (.new 16, 3) := by decide +kernel
theorem d_BA_init_19 : decode prog_1_method_1_code 19 = .ok (.dup, 1) := by decide +kernel
theorem d_BA_init_20 : decode prog_1_method_1_code 20 = .ok (.invokespecial 18, 3) := by decide +kernel
theorem d_BA_init_23 : decode prog_1_method_1_code 23 = .ok (.putfield 19, 3) := by decide +kernel
theorem d_BA_init_26 : decode prog_1_method_1_code 26 = .ok (.aload_n 0, 1) := by decide +kernel
theorem d_BA_init_27 : decode prog_1_method_1_code 27 = .ok (.new 23, 3) := by decide +kernel
theorem d_BA_init_30 : decode prog_1_method_1_code 30 = .ok (.dup, 1) := by decide +kernel
theorem d_BA_init_31 : decode prog_1_method_1_code 31 = .ok (.invokespecial 25, 3) := by decide +kernel
theorem d_BA_init_34 : decode prog_1_method_1_code 34 = .ok (.putfield 26, 3) := by decide +kernel
theorem d_BA_init_37 : decode prog_1_method_1_code 37 = .ok (.aload_n 0, 1) := by decide +kernel
theorem d_BA_init_38 : decode prog_1_method_1_code 38 = .ok (.new 30, 3) := by decide +kernel
theorem d_BA_init_41 : decode prog_1_method_1_code 41 = .ok (.dup, 1) := by decide +kernel
theorem d_BA_init_42 : decode prog_1_method_1_code 42 = .ok (.invokespecial 32, 3) := by decide +kernel
theorem d_BA_init_45 : decode prog_1_method_1_code 45 = .ok (.putfield 33, 3) := by decide +kernel
theorem d_BA_init_48 : decode prog_1_method_1_code 48 = .ok (.aload_n 0, 1) := by decide +kernel
theorem d_BA_init_49 : decode prog_1_method_1_code 49 = .ok (.new 37, 3) := by decide +kernel
theorem d_BA_init_52 : decode prog_1_method_1_code 52 = .ok (.dup, 1) := by decide +kernel
theorem d_BA_init_53 : decode prog_1_method_1_code 53 = .ok (.invokespecial 39, 3) := by decide +kernel
theorem d_BA_init_56 : decode prog_1_method_1_code 56 = .ok (.putfield 40, 3) := by decide +kernel
theorem d_BA_init_59 : decode prog_1_method_1_code 59 = .ok (.aload_n 0, 1) := by decide +kernel
theorem d_BA_init_60 : decode prog_1_method_1_code 60 = .ok (.iconst 2, 1) := by decide +kernel
theorem d_BA_init_61 : decode prog_1_method_1_code 61 = .ok (.anewarray 16, 3) := by decide +kernel
theorem d_BA_init_64 : decode prog_1_method_1_code 64 = .ok (.putfield 44, 3) := by decide +kernel
theorem d_BA_init_67 : decode prog_1_method_1_code 67 = .ok (.iconst 0, 1) := by decide +kernel
theorem d_BA_init_68 : decode prog_1_method_1_code 68 = .ok (.istore_n 1, 1) := by decide +kernel
theorem d_BA_init_69 : decode prog_1_method_1_code 69 = .ok (.iload_n 1, 1) := by decide +kernel
theorem d_BA_init_70 : decode prog_1_method_1_code 70 = .ok (.iconst 2, 1) := by decide +kernel
theorem d_BA_init_71 : decode prog_1_method_1_code 71 = .ok (.if_icmp .ge (22), 3) := by decide +kernel
theorem d_BA_init_74 : decode prog_1_method_1_code 74 = .ok (.aload_n 0, 1) := by decide +kernel
theorem d_BA_init_75 : decode prog_1_method_1_code 75 = .ok (.getfield 44, 3) := by decide +kernel
theorem d_BA_init_78 : decode prog_1_method_1_code 78 = .ok (.iload_n 1, 1) := by decide +kernel
theorem d_BA_init_79 : decode prog_1_method_1_code 79 = .ok (.new 16, 3) := by decide +kernel
theorem d_BA_init_82 : decode prog_1_method_1_code 82 = .ok (.dup, 1) := by decide +kernel
theorem d_BA_init_83 : decode prog_1_method_1_code 83 = .ok (.invokespecial 18, 3) := by decide +kernel
theorem d_BA_init_86 : decode prog_1_method_1_code 86 = .ok (.aastore, 1) := by decide +kernel
theorem d_BA_init_87 : decode prog_1_method_1_code 87 = .ok (.iinc 1 (1), 3) := by decide +kernel
theorem d_BA_init_90 : decode prog_1_method_1_code 90 = .ok (.goto (-21), 3) := by decide +kernel
theorem d_BA_init_93 : decode prog_1_method_1_code 93 = .ok (.aload_n 0, 1) := by decide +kernel
theorem d_BA_init_94 : decode prog_1_method_1_code 94 = .ok (.iconst 2, 1) := by decide +kernel
theorem d_BA_init_95 : decode prog_1_method_1_code 95 = .ok (.newarray .int, 2) := by decide +kernel
theorem d_BA_init_97 : decode prog_1_method_1_code 97 = .ok (.putfield 48, 3) := by decide +kernel
theorem d_BA_init_100 : decode prog_1_method_1_code 100 = .ok (.aload_n 0, 1) := by decide +kernel
theorem d_BA_init_101 : decode prog_1_method_1_code 101 = .ok (.iconst 2, 1) := by decide +kernel
theorem d_BA_init_102 : decode prog_1_method_1_code 102 = .ok (.newarray .boolean, 2) := by decide +kernel
theorem d_BA_init_104 : decode prog_1_method_1_code 104 = .ok (.putfield 52, 3) := by decide +kernel
theorem d_BA_init_107 : decode prog_1_method_1_code 107 = .ok (.aload_n 0, 1) := by decide +kernel
theorem d_BA_init_108 : decode prog_1_method_1_code 108 = .ok (.new 56, 3) := by decide +kernel
theorem d_BA_init_111 : decode prog_1_method_1_code 111 = .ok (.dup, 1) := by decide +kernel
theorem d_BA_init_112 : decode prog_1_method_1_code 112 = .ok (.invokespecial 58, 3) := by decide +kernel
theorem d_BA_init_115 : decode prog_1_method_1_code 115 = .ok (.putfield 59, 3) := by decide +kernel
theorem d_BA_init_118 : decode prog_1_method_1_code 118 = .ok (.aload_n 0, 1) := by decide +kernel
theorem d_BA_init_119 : decode prog_1_method_1_code 119 = .ok (.new 56, 3) := by decide +kernel
theorem d_BA_init_122 : decode prog_1_method_1_code 122 = .ok (.dup, 1) := by decide +kernel
theorem d_BA_init_123 : decode prog_1_method_1_code 123 = .ok (.invokespecial 58, 3) := by decide +kernel
theorem d_BA_init_126 : decode prog_1_method_1_code 126 = .ok (.putfield 63, 3) := by decide +kernel
theorem d_BA_init_129 : decode prog_1_method_1_code 129 = .ok (.aload_n 0, 1) := by decide +kernel
theorem d_BA_init_130 : decode prog_1_method_1_code 130 = .ok (.iconst (-1), 1) := by decide +kernel
theorem d_BA_init_131 : decode prog_1_method_1_code 131 = .ok (.putfield 66, 3) := by decide +kernel
theorem d_BA_init_134 : decode prog_1_method_1_code 134 = .ok (.aload_n 0, 1) := by decide +kernel
theorem d_BA_init_135 : decode prog_1_method_1_code 135 = .ok (.iconst 0, 1) := by decide +kernel
theorem d_BA_init_136 : decode prog_1_method_1_code 136 = .ok (.putfield 70, 3) := by decide +kernel
theorem d_BA_init_139 : decode prog_1_method_1_code 139 = .ok (.return_, 1) := by decide +kernel
def b_BA (G : GT) (f : Nat → Nat) : va_W := (f 0, .inr (6, [.ref (f 1), .ref (f 3), .ref (f 6), .ref (f 68), .ref (f 76), .ref (f 78), .ref (f 85), .ref (f 86), .ref (f 87), .ref (f 93), .int (-1), .int 0])) :: ((((((((((b_Re G (fun j => f (j + 1)) ++ b_St G (fun j => f (j + 3))) ++ b_Pa G (fun j => f (j + 6))) ++ b_Sl G (fun j => f (j + 68))) ++ b_Pl G (fun j => f (j + 76))) ++ [(f 78, rgE G 2 ([f 79] ++ [f 82]))]) ++ (b_St G (fun j => f (j + 79)) ++ b_St G (fun j => f (j + 82)))) ++ [(f 85, .inl (G.2.2.1, 2, .inl (fun _ => 0)))]) ++ [(f 86, .inl (G.2.2.2.1, 2, .inl (fun _ => 0)))]) ++ b_Br G (fun j => f (j + 87))) ++ b_Br G (fun j => f (j + 93)))
theorem VC_im0 {Z : ZT} {Y : YT} {n o pc : Nat} {L : List (Nat × Value)} {st : List Value} {x A : Nat × va_E} {tl w : va_W} (k : VC Z Y (x :: (tl ++ ([] ++ A :: w))) n o pc L st) : VC Z Y ((x :: tl) ++ (A :: w)) n o pc L st := k
theorem VC_im1 {Z : ZT} {Y : YT} {n o pc : Nat} {L : List (Nat × Value)} {st : List Value} {x A : Nat × va_E} {tl B w : va_W} (k : VC Z Y (x :: (tl ++ (B ++ A :: w))) n o pc L st) : VC Z Y ((x :: (tl ++ B)) ++ (A :: w)) n o pc L st := by
  rw [List.cons_append, List.append_assoc]
  exact k
theorem VC_im2 {Z : ZT} {Y : YT} {n o pc : Nat} {L : List (Nat × Value)} {st : List Value} {x A : Nat × va_E} {tl B w : va_W} (h : A :: w = B) (k : VC Z Y (x :: (tl ++ B)) n o pc L st) : VC Z Y (x :: (tl ++ ([] ++ A :: w))) n o pc L st := by
  rw [List.nil_append, h]
  exact k
set_option maxRecDepth 20000 in
set_option maxHeartbeats 8000000 in
theorem M_BA_init (G : GT) : MC G y_BA_init Y_BA_init 6 [.null, .null, .null, .null, .null, .null, .null, .null, .null, .null, .int 0, .int 0] 98 1183 (b_BA G) := by
  refine MC_of rfl (fun Z h0 hz X hin hc ho hR => ?_)
  subst hz
  refine C_aload_n X 0 d_BA_init_0 rfl ?_
  refine C_obj X cw_63 cw_64 cw_65 rfl d_BA_init_1 ?_
  refine VC_pc (pc' := 4) rfl ?_
  refine C_aload_n X 0 d_BA_init_4 rfl ?_
  refine C_new (ci := 3) (fs := [.null, .int 0, .int 0, .int 0, .int 0]) X rfl iRe_ok yRe_ok cw_66 cw_67 cw_49 (by decide) (by rw [hc]; decide) (by rw [ho]; decide) d_BA_init_5 (fun q5 => ?_)
  refine C_dup X d_BA_init_8 rfl ?_
  refine C_callN (host := "BodyAccounts") X (M_Re_init (zG Z)) (by decide +kernel) cf_Re_init rfl rfl (by rw [hc]; decide) (by rw [ho]; decide) d_BA_init_9 (fun f9 hf9 => ?_)
  subst hf9
  refine VC_ap ?_
  refine VC_no (n' := 2) (o' := 245) (by decide) (by decide) ?_
  refine VC_pc (pc' := 12) rfl ?_
  refine C_putF (ci := 6) X hin rfl iBA_ok yBA_ok nBA_ok 0 rfl rfl rfl rfl cw_234 d_BA_init_12 ?_
  refine VC_hd (fs' := [.ref (f9 0), .null, .null, .null, .null, .null, .null, .null, .null, .null, .int 0, .int 0]) rfl ?_
  refine VC_pc (pc' := 15) rfl ?_
  refine C_aload_n X 0 d_BA_init_15 rfl ?_
  refine C_new (ci := 5) (fs := [.null, .null, .int 0]) X rfl iSt_ok ySt_ok cw_91 cw_92 cw_50 (by decide) (by rw [hc]; decide) (by rw [ho]; decide) d_BA_init_16 (fun q16 => ?_)
  refine C_dup X d_BA_init_19 rfl ?_
  refine C_callN (host := "BodyAccounts") X (M_St_init (zG Z)) (by decide +kernel) cf_St_init rfl rfl (by rw [hc]; decide) (by rw [ho]; decide) d_BA_init_20 (fun f20 hf20 => ?_)
  subst hf20
  refine VC_ap ?_
  refine VC_no (n' := 5) (o' := 278) (by decide) (by decide) ?_
  refine VC_pc (pc' := 23) rfl ?_
  refine C_putF (ci := 6) X hin rfl iBA_ok yBA_ok nBA_ok 1 rfl rfl rfl rfl cw_235 d_BA_init_23 ?_
  refine VC_hd (fs' := [.ref (f9 0), .ref (f20 0), .null, .null, .null, .null, .null, .null, .null, .null, .int 0, .int 0]) rfl ?_
  refine VC_pc (pc' := 26) rfl ?_
  refine C_aload_n X 0 d_BA_init_26 rfl ?_
  refine C_new (ci := 1) (fs := [.null, .int 0, .int 0]) X rfl iPa_ok yPa_ok cw_109 cw_110 cw_51 (by decide) (by rw [hc]; decide) (by rw [ho]; decide) d_BA_init_27 (fun q27 => ?_)
  refine C_dup X d_BA_init_30 rfl ?_
  refine C_call X (M_Pa_init (zG Z)) cw_111 cf_Pa_init rfl rfl (by rw [hc]; decide) (by rw [ho]; decide) d_BA_init_31 (fun f31 hf31 => ?_)
  subst hf31
  refine VC_ap ?_
  refine VC_no (n' := 67) (o' := 961) (by decide) (by decide) ?_
  refine VC_pc (pc' := 34) rfl ?_
  refine C_putF (ci := 6) X hin rfl iBA_ok yBA_ok nBA_ok 2 rfl rfl rfl rfl cw_236 d_BA_init_34 ?_
  refine VC_hd (fs' := [.ref (f9 0), .ref (f20 0), .ref (f31 0), .null, .null, .null, .null, .null, .null, .null, .int 0, .int 0]) rfl ?_
  refine VC_pc (pc' := 37) rfl ?_
  refine C_aload_n X 0 d_BA_init_37 rfl ?_
  refine C_new (ci := 4) (fs := [.null, .null, .null, .null, .null, .null, .null, .int 0, .int 0, .int 0, .int 0]) X rfl iSl_ok ySl_ok cw_129 cw_130 cw_52 (by decide) (by rw [hc]; decide) (by rw [ho]; decide) d_BA_init_38 (fun q38 => ?_)
  refine C_dup X d_BA_init_41 rfl ?_
  refine C_callN (host := "BodyAccounts") X (M_Sl_init (zG Z)) (by decide +kernel) cf_Sl_init rfl rfl (by rw [hc]; decide) (by rw [ho]; decide) d_BA_init_42 (fun f42 hf42 => ?_)
  subst hf42
  refine VC_ap ?_
  refine VC_no (n' := 75) (o' := 1031) (by decide) (by decide) ?_
  refine VC_pc (pc' := 45) rfl ?_
  refine C_putF (ci := 6) X hin rfl iBA_ok yBA_ok nBA_ok 3 rfl rfl rfl rfl cw_237 d_BA_init_45 ?_
  refine VC_hd (fs' := [.ref (f9 0), .ref (f20 0), .ref (f31 0), .ref (f42 0), .null, .null, .null, .null, .null, .null, .int 0, .int 0]) rfl ?_
  refine VC_pc (pc' := 48) rfl ?_
  refine C_aload_n X 0 d_BA_init_48 rfl ?_
  refine C_new (ci := 2) (fs := [.null]) X rfl iPl_ok yPl_ok cw_181 cw_182 cw_53 (by decide) (by rw [hc]; decide) (by rw [ho]; decide) d_BA_init_49 (fun q49 => ?_)
  refine C_dup X d_BA_init_52 rfl ?_
  refine C_callN (host := "BodyAccounts") X (M_Pl_init (zG Z)) (by decide +kernel) cf_Pl_init rfl rfl (by rw [hc]; decide) (by rw [ho]; decide) d_BA_init_53 (fun f53 hf53 => ?_)
  subst hf53
  refine VC_ap ?_
  refine VC_no (n' := 77) (o' := 1037) (by decide) (by decide) ?_
  refine VC_pc (pc' := 56) rfl ?_
  refine C_putF (ci := 6) X hin rfl iBA_ok yBA_ok nBA_ok 4 rfl rfl rfl rfl cw_238 d_BA_init_56 ?_
  refine VC_hd (fs' := [.ref (f9 0), .ref (f20 0), .ref (f31 0), .ref (f42 0), .ref (f53 0), .null, .null, .null, .null, .null, .int 0, .int 0]) rfl ?_
  refine VC_pc (pc' := 59) rfl ?_
  refine C_aload_n X 0 d_BA_init_59 rfl ?_
  refine C_iconst (v := (2 : Int32)) X d_BA_init_60 rfl ?_
  refine C_newq (N := 2) X cw_91 rfl (by rw [hc]; decide) (by rw [ho]; decide) d_BA_init_61 (fun q61 => ?_)
  refine VC_ap ?_
  refine VC_no (n' := 78) (o' := 1039) (by decide) (by decide) ?_
  refine VC_pc (pc' := 64) rfl ?_
  refine C_putF (ci := 6) X hin rfl iBA_ok yBA_ok nBA_ok 5 rfl rfl rfl rfl cw_239 d_BA_init_64 ?_
  refine VC_hd (fs' := [.ref (f9 0), .ref (f20 0), .ref (f31 0), .ref (f42 0), .ref (f53 0), .ref q61, .null, .null, .null, .null, .int 0, .int 0]) rfl ?_
  refine VC_pc (pc' := 67) rfl ?_
  refine C_iconst (v := (0 : Int32)) X d_BA_init_67 rfl ?_
  refine C_istore_n (L' := [(1, .int 0), (0, .ref h0)]) X d_BA_init_68 (by decide) rfl ?_
  refine VC_pc (pc' := 69) rfl ?_
  refine C_iload_n X 0 d_BA_init_69 rfl ?_
  refine C_iconst (v := (2 : Int32)) X d_BA_init_70 rfl ?_
  refine C_icmp_ge (tgt := 93) X d_BA_init_71 rfl (fun c => absurd c (by decide)) (fun _ => ?_)
  refine C_aload_n X 1 d_BA_init_74 rfl ?_
  refine C_get (ci := 6) X rfl iBA_ok 5 (by decide) rfl cw_239 d_BA_init_75 ?_
  refine C_iload_n X 0 d_BA_init_78 rfl ?_
  refine C_new (ci := 5) (fs := [.null, .null, .int 0]) X rfl iSt_ok ySt_ok cw_91 cw_92 cw_50 (by decide) (by rw [hc]; decide) (by rw [ho]; decide) d_BA_init_79 (fun q => ?_)
  refine C_dup X d_BA_init_82 rfl ?_
  refine C_callN (host := "BodyAccounts") X (M_St_init (zG Z)) (by decide +kernel) cf_St_init rfl rfl (by rw [hc]; decide) (by rw [ho]; decide) d_BA_init_83 (fun g0 hg => ?_)
  subst hg
  refine VC_im0 (A := (g0 0, .inr (5, [.ref (g0 1), .ref (g0 2), .int 0]))) (w := [(g0 1, .inl ((zG Z).2.2.1, 5, .inl (fun _ => 0))), (g0 2, .inl ((zG Z).2.2.1, 25, .inl (fun _ => 0)))]) ?_
  refine C_ast X (l := []) rfl rfl d_BA_init_86 ?_
  refine C_iinc (v := 1) (L' := [(1, .int 1), (0, .ref h0)]) X 0 d_BA_init_87 rfl (by decide) (by decide) rfl ?_
  refine C_goto (tgt := 69) X d_BA_init_90 rfl ?_
  refine VC_im2 (B := b_St (zG Z) g0) rfl ?_
  refine VC_no (n' := 81) (o' := 1072) (by decide) (by decide) ?_
  refine C_iload_n X 0 d_BA_init_69 rfl ?_
  refine C_iconst (v := (2 : Int32)) X d_BA_init_70 rfl ?_
  refine C_icmp_ge (tgt := 93) X d_BA_init_71 rfl (fun c => absurd c (by decide)) (fun _ => ?_)
  refine C_aload_n X 1 d_BA_init_74 rfl ?_
  refine C_get (ci := 6) X rfl iBA_ok 5 (by decide) rfl cw_239 d_BA_init_75 ?_
  refine C_iload_n X 0 d_BA_init_78 rfl ?_
  refine C_new (ci := 5) (fs := [.null, .null, .int 0]) X rfl iSt_ok ySt_ok cw_91 cw_92 cw_50 (by decide) (by rw [hc]; decide) (by rw [ho]; decide) d_BA_init_79 (fun q => ?_)
  refine C_dup X d_BA_init_82 rfl ?_
  refine C_callN (host := "BodyAccounts") X (M_St_init (zG Z)) (by decide +kernel) cf_St_init rfl rfl (by rw [hc]; decide) (by rw [ho]; decide) d_BA_init_83 (fun g1 hg => ?_)
  subst hg
  refine VC_im1 (B := b_St (zG Z) g0) (A := (g1 0, .inr (5, [.ref (g1 1), .ref (g1 2), .int 0]))) (w := [(g1 1, .inl ((zG Z).2.2.1, 5, .inl (fun _ => 0))), (g1 2, .inl ((zG Z).2.2.1, 25, .inl (fun _ => 0)))]) ?_
  refine C_ast X (l := [g0 0]) rfl rfl d_BA_init_86 ?_
  refine C_iinc (v := 2) (L' := [(1, .int 2), (0, .ref h0)]) X 0 d_BA_init_87 rfl (by decide) (by decide) rfl ?_
  refine C_goto (tgt := 69) X d_BA_init_90 rfl ?_
  refine VC_no (n' := 84) (o' := 1105) (by decide) (by decide) ?_
  refine C_iload_n X 0 d_BA_init_69 rfl ?_
  refine C_iconst (v := (2 : Int32)) X d_BA_init_70 rfl ?_
  refine C_icmp_ge (tgt := 93) X d_BA_init_71 rfl (fun _ => ?_) (fun c => absurd (by decide) c)
  refine C_aload_n X 1 d_BA_init_93 rfl ?_
  refine C_iconst (v := (2 : Int32)) X d_BA_init_94 rfl ?_
  refine C_newi (N := 2) X cw_90 rfl (by rw [hc]; decide) (by rw [ho]; decide) d_BA_init_95 (fun q95 => ?_)
  refine VC_ap ?_
  refine VC_no (n' := 85) (o' := 1107) (by decide) (by decide) ?_
  refine VC_pc (pc' := 97) rfl ?_
  refine C_putF (ci := 6) X hin rfl iBA_ok yBA_ok nBA_ok 6 rfl rfl rfl rfl cw_240 d_BA_init_97 ?_
  refine VC_hd (fs' := [.ref (f9 0), .ref (f20 0), .ref (f31 0), .ref (f42 0), .ref (f53 0), .ref q61, .ref q95, .null, .null, .null, .int 0, .int 0]) rfl ?_
  refine VC_pc (pc' := 100) rfl ?_
  refine C_aload_n X 1 d_BA_init_100 rfl ?_
  refine C_iconst (v := (2 : Int32)) X d_BA_init_101 rfl ?_
  refine C_newz (N := 2) X cw_180 rfl (by rw [hc]; decide) (by rw [ho]; decide) d_BA_init_102 (fun q102 => ?_)
  refine VC_ap ?_
  refine VC_no (n' := 86) (o' := 1109) (by decide) (by decide) ?_
  refine VC_pc (pc' := 104) rfl ?_
  refine C_putF (ci := 6) X hin rfl iBA_ok yBA_ok nBA_ok 7 rfl rfl rfl rfl cw_241 d_BA_init_104 ?_
  refine VC_hd (fs' := [.ref (f9 0), .ref (f20 0), .ref (f31 0), .ref (f42 0), .ref (f53 0), .ref q61, .ref q95, .ref q102, .null, .null, .int 0, .int 0]) rfl ?_
  refine VC_pc (pc' := 107) rfl ?_
  refine C_aload_n X 1 d_BA_init_107 rfl ?_
  refine C_new (ci := 0) (fs := [.null, .null, .null, .null, .null, .int 0, .int 0, .int 0]) X rfl iBr_ok yBr_ok cw_192 cw_193 cw_54 (by decide) (by rw [hc]; decide) (by rw [ho]; decide) d_BA_init_108 (fun q108 => ?_)
  refine C_dup X d_BA_init_111 rfl ?_
  refine C_callN (host := "BodyAccounts") X (M_Br_init (zG Z)) (by decide +kernel) cf_Br_init rfl rfl (by rw [hc]; decide) (by rw [ho]; decide) d_BA_init_112 (fun f112 hf112 => ?_)
  subst hf112
  refine VC_ap ?_
  refine VC_no (n' := 92) (o' := 1146) (by decide) (by decide) ?_
  refine VC_pc (pc' := 115) rfl ?_
  refine C_put (ci := 6) X rfl iBA_ok yBA_ok nBA_ok 8 rfl rfl rfl cw_242 d_BA_init_115 ?_
  refine VC_hd (fs' := [.ref (f9 0), .ref (f20 0), .ref (f31 0), .ref (f42 0), .ref (f53 0), .ref q61, .ref q95, .ref q102, .ref (f112 0), .null, .int 0, .int 0]) rfl ?_
  refine VC_pc (pc' := 118) rfl ?_
  refine C_aload_n X 1 d_BA_init_118 rfl ?_
  refine C_new (ci := 0) (fs := [.null, .null, .null, .null, .null, .int 0, .int 0, .int 0]) X rfl iBr_ok yBr_ok cw_192 cw_193 cw_54 (by decide) (by rw [hc]; decide) (by rw [ho]; decide) d_BA_init_119 (fun q119 => ?_)
  refine C_dup X d_BA_init_122 rfl ?_
  refine C_callN (host := "BodyAccounts") X (M_Br_init (zG Z)) (by decide +kernel) cf_Br_init rfl rfl (by rw [hc]; decide) (by rw [ho]; decide) d_BA_init_123 (fun f123 hf123 => ?_)
  subst hf123
  refine VC_ap ?_
  refine VC_no (n' := 98) (o' := 1183) (by decide) (by decide) ?_
  refine VC_pc (pc' := 126) rfl ?_
  refine C_put (ci := 6) X rfl iBA_ok yBA_ok nBA_ok 9 rfl rfl rfl cw_243 d_BA_init_126 ?_
  refine VC_hd (fs' := [.ref (f9 0), .ref (f20 0), .ref (f31 0), .ref (f42 0), .ref (f53 0), .ref q61, .ref q95, .ref q102, .ref (f112 0), .ref (f123 0), .int 0, .int 0]) rfl ?_
  refine VC_pc (pc' := 129) rfl ?_
  refine C_aload_n X 1 d_BA_init_129 rfl ?_
  refine C_iconst (v := (-1 : Int32)) X d_BA_init_130 rfl ?_
  refine C_put (ci := 6) X rfl iBA_ok yBA_ok nBA_ok 10 rfl rfl rfl cw_244 d_BA_init_131 ?_
  refine VC_hd (fs' := [.ref (f9 0), .ref (f20 0), .ref (f31 0), .ref (f42 0), .ref (f53 0), .ref q61, .ref q95, .ref q102, .ref (f112 0), .ref (f123 0), .int (-1), .int 0]) rfl ?_
  refine VC_pc (pc' := 134) rfl ?_
  refine C_aload_n X 1 d_BA_init_134 rfl ?_
  refine C_iconst (v := (0 : Int32)) X d_BA_init_135 rfl ?_
  refine C_put (ci := 6) X rfl iBA_ok yBA_ok nBA_ok 11 rfl rfl rfl cw_245 d_BA_init_136 ?_
  refine VC_hd (fs' := [.ref (f9 0), .ref (f20 0), .ref (f31 0), .ref (f42 0), .ref (f53 0), .ref q61, .ref q95, .ref q102, .ref (f112 0), .ref (f123 0), .int (-1), .int (0)]) rfl ?_
  refine VC_pc (pc' := 139) rfl ?_
  refine VC_eq (ws' := b_BA (zG Z) (fun k => if k = 0 then h0 else if k < 3 then f9 (k - 1) else if k < 6 then f20 (k - 3) else if k < 68 then f31 (k - 6) else if k < 76 then f42 (k - 68) else if k < 78 then f53 (k - 76) else if k = 78 then q61 else if k < 82 then g0 (k - 79) else if k < 85 then g1 (k - 82) else if k = 85 then q95 else if k = 86 then q102 else if k < 93 then f112 (k - 87) else f123 (k - 93))) rfl ?_
  exact hR (fun k => if k = 0 then h0 else if k < 3 then f9 (k - 1) else if k < 6 then f20 (k - 3) else if k < 68 then f31 (k - 6) else if k < 76 then f42 (k - 68) else if k < 78 then f53 (k - 76) else if k = 78 then q61 else if k < 82 then g0 (k - 79) else if k < 85 then g1 (k - 82) else if k = 85 then q95 else if k = 86 then q102 else if k < 93 then f112 (k - 87) else f123 (k - 93)) 139 _ rfl d_BA_init_139
