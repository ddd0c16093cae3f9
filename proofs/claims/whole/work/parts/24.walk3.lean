/-! Printed by wip/whole/walk.py. -/
theorem d_Mo_takesClause_0 : decode prog_9_method_20_code 0 = .ok (.aload_n 0, 1) := by decide +kernel
theorem d_Mo_takesClause_1 : decode prog_9_method_20_code 1 = .ok (.invokevirtual 106, 3) := by decide +kernel
theorem d_Mo_takesClause_4 : decode prog_9_method_20_code 4 = .ok (.istore_n 1, 1) := by decide +kernel
theorem d_Mo_takesClause_5 : decode prog_9_method_20_code 5 = .ok (.iload_n 1, 1) := by decide +kernel
theorem d_Mo_takesClause_6 : decode prog_9_method_20_code 6 = .ok (.bipush (98), 2) := by decide +kernel
theorem d_Mo_takesClause_8 : decode prog_9_method_20_code 8 = .ok (.if_icmp .eq (22), 3) := by decide +kernel
theorem d_Mo_takesClause_11 : decode prog_9_method_20_code 11 = .ok (.aload_n 0, 1) := by decide +kernel
theorem d_Mo_takesClause_12 : decode prog_9_method_20_code 12 = .ok (.getfield 124, 3) := by decide +kernel
theorem d_Mo_takesClause_15 : decode prog_9_method_20_code 15 = .ok (.ifCond .le (19), 3) := by decide +kernel
theorem d_Mo_takesClause_18 : decode prog_9_method_20_code 18 = .ok (.iload_n 1, 1) := by decide +kernel
theorem d_Mo_takesClause_19 : decode prog_9_method_20_code 19 = .ok (.bipush (99), 2) := by decide +kernel
theorem d_Mo_takesClause_21 : decode prog_9_method_20_code 21 = .ok (.if_icmp .eq (9), 3) := by decide +kernel
theorem d_Mo_takesClause_24 : decode prog_9_method_20_code 24 = .ok (.iload_n 1, 1) := by decide +kernel
theorem d_Mo_takesClause_25 : decode prog_9_method_20_code 25 = .ok (.bipush (116), 2) := by decide +kernel
theorem d_Mo_takesClause_27 : decode prog_9_method_20_code 27 = .ok (.if_icmp .ne (7), 3) := by decide +kernel
theorem d_Mo_takesClause_30 : decode prog_9_method_20_code 30 = .ok (.iconst 1, 1) := by decide +kernel
theorem d_Mo_takesClause_31 : decode prog_9_method_20_code 31 = .ok (.goto (4), 3) := by decide +kernel
theorem d_Mo_takesClause_34 : decode prog_9_method_20_code 34 = .ok (.iconst 0, 1) := by decide +kernel
theorem d_Mo_takesClause_35 : decode prog_9_method_20_code 35 = .ok (.istore_n 2, 1) := by decide +kernel
theorem d_Mo_takesClause_36 : decode prog_9_method_20_code 36 = .ok (.iload_n 2, 1) := by decide +kernel
theorem d_Mo_takesClause_37 : decode prog_9_method_20_code 37 = .ok (.ifCond .ne (13), 3) := by decide +kernel
theorem d_Mo_takesClause_40 : decode prog_9_method_20_code 40 = .ok (.aload_n 0, 1) := by decide +kernel
theorem d_Mo_takesClause_41 : decode prog_9_method_20_code 41 = .ok (.iconst 1, 1) := by decide +kernel
theorem d_Mo_takesClause_42 : decode prog_9_method_20_code 42 = .ok (.aload_n 0, 1) := by decide +kernel
theorem d_Mo_takesClause_43 : decode prog_9_method_20_code 43 = .ok (.getfield 100, 3) := by decide +kernel
theorem d_Mo_takesClause_46 : decode prog_9_method_20_code 46 = .ok (.invokevirtual 110, 3) := by decide +kernel
theorem d_Mo_takesClause_49 : decode prog_9_method_20_code 49 = .ok (.ireturn, 1) := by decide +kernel
theorem d_Mo_takesClause_50 : decode prog_9_method_20_code 50 = .ok (.iload_n 1, 1) := by decide +kernel
theorem d_Mo_takesClause_51 : decode prog_9_method_20_code 51 = .ok (.bipush (98), 2) := by decide +kernel
theorem d_Mo_takesClause_53 : decode prog_9_method_20_code 53 = .ok (.if_icmp .ne (18), 3) := by decide +kernel
theorem d_Mo_takesClause_56 : decode prog_9_method_20_code 56 = .ok (.aload_n 0, 1) := by decide +kernel
theorem d_Mo_takesClause_57 : decode prog_9_method_20_code 57 = .ok (.getfield 124, 3) := by decide +kernel
theorem d_Mo_takesClause_60 : decode prog_9_method_20_code 60 = .ok (.ifCond .le (7), 3) := by decide +kernel
theorem d_Mo_takesClause_63 : decode prog_9_method_20_code 63 = .ok (.iconst 1, 1) := by decide +kernel
theorem d_Mo_takesClause_64 : decode prog_9_method_20_code 64 = .ok (.goto (43), 3) := by decide +kernel
theorem d_Mo_takesClause_67 : decode prog_9_method_20_code 67 = .ok (.iconst 0, 1) := by decide +kernel
theorem d_Mo_takesClause_68 : decode prog_9_method_20_code 68 = .ok (.goto (39), 3) := by decide +kernel
theorem d_Mo_takesClause_71 : decode prog_9_method_20_code 71 = .ok (.iload_n 1, 1) := by decide +kernel
theorem d_Mo_takesClause_72 : decode prog_9_method_20_code 72 = .ok (.bipush (99), 2) := by decide +kernel
theorem d_Mo_takesClause_74 : decode prog_9_method_20_code 74 = .ok (.if_icmp .ne (19), 3) := by decide +kernel
theorem d_Mo_takesClause_77 : decode prog_9_method_20_code 77 = .ok (.aload_n 0, 1) := by decide +kernel
theorem d_Mo_takesClause_78 : decode prog_9_method_20_code 78 = .ok (.getfield 127, 3) := by decide +kernel
theorem d_Mo_takesClause_81 : decode prog_9_method_20_code 81 = .ok (.iconst 5, 1) := by decide +kernel
theorem d_Mo_takesClause_82 : decode prog_9_method_20_code 82 = .ok (.if_icmp .ne (7), 3) := by decide +kernel
theorem d_Mo_takesClause_85 : decode prog_9_method_20_code 85 = .ok (.iconst 1, 1) := by decide +kernel
theorem d_Mo_takesClause_86 : decode prog_9_method_20_code 86 = .ok (.goto (21), 3) := by decide +kernel
theorem d_Mo_takesClause_89 : decode prog_9_method_20_code 89 = .ok (.iconst 0, 1) := by decide +kernel
theorem d_Mo_takesClause_90 : decode prog_9_method_20_code 90 = .ok (.goto (17), 3) := by decide +kernel
theorem d_Mo_takesClause_93 : decode prog_9_method_20_code 93 = .ok (.aload_n 0, 1) := by decide +kernel
theorem d_Mo_takesClause_94 : decode prog_9_method_20_code 94 = .ok (.getfield 130, 3) := by decide +kernel
theorem d_Mo_takesClause_97 : decode prog_9_method_20_code 97 = .ok (.bipush (6), 2) := by decide +kernel
theorem d_Mo_takesClause_99 : decode prog_9_method_20_code 99 = .ok (.if_icmp .ne (7), 3) := by decide +kernel
theorem d_Mo_takesClause_102 : decode prog_9_method_20_code 102 = .ok (.iconst 1, 1) := by decide +kernel
theorem d_Mo_takesClause_103 : decode prog_9_method_20_code 103 = .ok (.goto (4), 3) := by decide +kernel
theorem d_Mo_takesClause_106 : decode prog_9_method_20_code 106 = .ok (.iconst 0, 1) := by decide +kernel
theorem d_Mo_takesClause_107 : decode prog_9_method_20_code 107 = .ok (.istore_n 3, 1) := by decide +kernel
theorem d_Mo_takesClause_108 : decode prog_9_method_20_code 108 = .ok (.iload_n 3, 1) := by decide +kernel
theorem d_Mo_takesClause_109 : decode prog_9_method_20_code 109 = .ok (.ifCond .eq (13), 3) := by decide +kernel
theorem d_Mo_takesClause_112 : decode prog_9_method_20_code 112 = .ok (.aload_n 0, 1) := by decide +kernel
theorem d_Mo_takesClause_113 : decode prog_9_method_20_code 113 = .ok (.iconst 3, 1) := by decide +kernel
theorem d_Mo_takesClause_114 : decode prog_9_method_20_code 114 = .ok (.aload_n 0, 1) := by decide +kernel
theorem d_Mo_takesClause_115 : decode prog_9_method_20_code 115 = .ok (.getfield 100, 3) := by decide +kernel
theorem d_Mo_takesClause_118 : decode prog_9_method_20_code 118 = .ok (.invokevirtual 110, 3) := by decide +kernel
theorem d_Mo_takesClause_121 : decode prog_9_method_20_code 121 = .ok (.ireturn, 1) := by decide +kernel
theorem d_Mo_takesClause_122 : decode prog_9_method_20_code 122 = .ok (.aload_n 0, 1) := by decide +kernel
theorem d_Mo_takesClause_123 : decode prog_9_method_20_code 123 = .ok (.dup, 1) := by decide +kernel
theorem d_Mo_takesClause_124 : decode prog_9_method_20_code 124 = .ok (.getfield 93, 3) := by decide +kernel
theorem d_Mo_takesClause_127 : decode prog_9_method_20_code 127 = .ok (.iconst 1, 1) := by decide +kernel
theorem d_Mo_takesClause_128 : decode prog_9_method_20_code 128 = .ok (.iadd, 1) := by decide +kernel
theorem d_Mo_takesClause_129 : decode prog_9_method_20_code 129 = .ok (.putfield 93, 3) := by decide +kernel
theorem d_Mo_takesClause_132 : decode prog_9_method_20_code 132 = .ok (.iload_n 1, 1) := by decide +kernel
theorem d_Mo_takesClause_133 : decode prog_9_method_20_code 133 = .ok (.bipush (98), 2) := by decide +kernel
theorem d_Mo_takesClause_135 : decode prog_9_method_20_code 135 = .ok (.if_icmp .ne (10), 3) := by decide +kernel
theorem d_Mo_takesClause_138 : decode prog_9_method_20_code 138 = .ok (.aload_n 0, 1) := by decide +kernel
theorem d_Mo_takesClause_139 : decode prog_9_method_20_code 139 = .ok (.invokevirtual 133, 3) := by decide +kernel
theorem d_Mo_takesClause_142 : decode prog_9_method_20_code 142 = .ok (.goto (20), 3) := by decide +kernel
theorem d_Mo_takesClause_145 : decode prog_9_method_20_code 145 = .ok (.iload_n 1, 1) := by decide +kernel
theorem d_Mo_takesClause_146 : decode prog_9_method_20_code 146 = .ok (.bipush (99), 2) := by decide +kernel
theorem d_Mo_takesClause_148 : decode prog_9_method_20_code 148 = .ok (.if_icmp .ne (10), 3) := by decide +kernel
theorem d_Mo_takesClause_151 : decode prog_9_method_20_code 151 = .ok (.aload_n 0, 1) := by decide +kernel
theorem d_Mo_takesClause_152 : decode prog_9_method_20_code 152 = .ok (.invokevirtual 137, 3) := by decide +kernel
theorem d_Mo_takesClause_155 : decode prog_9_method_20_code 155 = .ok (.goto (7), 3) := by decide +kernel
theorem d_Mo_takesClause_158 : decode prog_9_method_20_code 158 = .ok (.aload_n 0, 1) := by decide +kernel
theorem d_Mo_takesClause_159 : decode prog_9_method_20_code 159 = .ok (.invokevirtual 140, 3) := by decide +kernel
theorem d_Mo_takesClause_162 : decode prog_9_method_20_code 162 = .ok (.istore 4, 2) := by decide +kernel
theorem d_Mo_takesClause_164 : decode prog_9_method_20_code 164 = .ok (.iload 4, 2) := by decide +kernel
theorem d_Mo_takesClause_166 : decode prog_9_method_20_code 166 = .ok (.ifCond .eq (16), 3) := by decide +kernel
theorem d_Mo_takesClause_169 : decode prog_9_method_20_code 169 = .ok (.aload_n 0, 1) := by decide +kernel
theorem d_Mo_takesClause_170 : decode prog_9_method_20_code 170 = .ok (.bipush (59), 2) := by decide +kernel
theorem d_Mo_takesClause_172 : decode prog_9_method_20_code 172 = .ok (.invokevirtual 143, 3) := by decide +kernel
theorem d_Mo_takesClause_175 : decode prog_9_method_20_code 175 = .ok (.ifCond .eq (7), 3) := by decide +kernel
theorem d_Mo_takesClause_178 : decode prog_9_method_20_code 178 = .ok (.iconst 1, 1) := by decide +kernel
theorem d_Mo_takesClause_179 : decode prog_9_method_20_code 179 = .ok (.goto (4), 3) := by decide +kernel
theorem d_Mo_takesClause_182 : decode prog_9_method_20_code 182 = .ok (.iconst 0, 1) := by decide +kernel
theorem d_Mo_takesClause_183 : decode prog_9_method_20_code 183 = .ok (.ireturn, 1) := by decide +kernel
set_option maxRecDepth 20000 in
set_option maxHeartbeats 2000000 in
theorem T_Mo_takesClause {Z : ZT} (X : CX Z Y_Mo_takesClause) {hp : HP} {p : Int32 × HP} (h : f_Mo_takesClause hp = some p) (hR : RetI Z Y_Mo_takesClause .boolean p.1 p.2) : V Z Y_Mo_takesClause hp 0 [(0, .ref (gA (zG Z) 99))] [] := by
  unfold f_Mo_takesClause at h
  refine R_aload_n X 0 d_Mo_takesClause_0 rfl ?_
  obtain ⟨p2, e1, h⟩ := ob h
  refine R_vcall (ci := 7) (k := 99) (As := []) (st := []) X (M_Mo_here e1) tw_791 cf_Mo_here (of_decide_eq_true rfl) rfl rfl rfl rfl rfl d_Mo_takesClause_1 ?_
  refine R_istore_n (L' := [(1, .int p2.1), (0, .ref (gA (zG Z) 99))]) X d_Mo_takesClause_4 (by decide) rfl ?_
  refine R_iload_n X 0 d_Mo_takesClause_5 rfl ?_
  refine R_bipush (v := (98 : Int32)) X d_Mo_takesClause_6 rfl ?_
  refine V_pc (pc' := 8) rfl ?_
  refine R_icmp_eq (tgt := 30) X d_Mo_takesClause_8 rfl (fun c3 => ?_) (fun c3 => ?_)
  · replace h := (if_pos c3).symm.trans h
    refine R_iconst (v := (1 : Int32)) X d_Mo_takesClause_30 rfl ?_
    refine R_goto (tgt := 35) X d_Mo_takesClause_31 rfl ?_
    refine R_istore_n (L' := [(2, .int (1 : Int32)), (1, .int p2.1), (0, .ref (gA (zG Z) 99))]) X d_Mo_takesClause_35 (by decide) rfl ?_
    refine R_iload_n X 0 d_Mo_takesClause_36 rfl ?_
    refine R_ifne (tgt := 50) X d_Mo_takesClause_37 rfl (fun c4 => ?_) (fun c4 => absurd c4 (by decide))
    refine V_pc (pc' := 50) rfl ?_
    refine R_iload_n X 1 d_Mo_takesClause_50 rfl ?_
    refine R_bipush (v := (98 : Int32)) X d_Mo_takesClause_51 rfl ?_
    refine R_icmp_ne (tgt := 71) X d_Mo_takesClause_53 rfl (fun c5 => absurd c3 c5) (fun c5 => ?_)
    refine R_aload_n X 2 d_Mo_takesClause_56 rfl ?_
    refine R_getI (ci := 7) X rfl iMo_ok (of_decide_eq_true rfl) rfl 17 rfl rfl tw_688 d_Mo_takesClause_57 ?_
    refine R_ifle (tgt := 67) X d_Mo_takesClause_60 rfl (fun c6 => ?_) (fun c6 => ?_)
    · replace h := (if_pos c6).symm.trans h
      refine R_iconst (v := (0 : Int32)) X d_Mo_takesClause_67 rfl ?_
      refine R_goto (tgt := 107) X d_Mo_takesClause_68 rfl ?_
      refine R_istore_n (L' := [(3, .int (0 : Int32)), (2, .int (1 : Int32)), (1, .int p2.1), (0, .ref (gA (zG Z) 99))]) X d_Mo_takesClause_107 (by decide) rfl ?_
      refine R_iload_n X 0 d_Mo_takesClause_108 rfl ?_
      refine R_ifeq (tgt := 122) X d_Mo_takesClause_109 rfl (fun c7 => ?_) (fun c7 => absurd (by decide) c7)
      refine V_pc (pc' := 122) rfl ?_
      refine R_aload_n X 3 d_Mo_takesClause_122 rfl ?_
      refine R_dup X d_Mo_takesClause_123 rfl ?_
      refine R_getI (ci := 7) X rfl iMo_ok (of_decide_eq_true rfl) rfl 12 rfl rfl tw_683 d_Mo_takesClause_124 ?_
      refine R_iconst (v := (1 : Int32)) X d_Mo_takesClause_127 rfl ?_
      refine R_iadd X d_Mo_takesClause_128 ?_
      refine R_putI (ci := 7) X rfl iMo_ok yMo_ok nMo_ok (of_decide_eq_true rfl) rfl 12 rfl rfl rfl rfl tw_683 d_Mo_takesClause_129 ?_
      refine V_pc (pc' := 132) rfl ?_
      refine R_iload_n X 2 d_Mo_takesClause_132 rfl ?_
      refine R_bipush (v := (98 : Int32)) X d_Mo_takesClause_133 rfl ?_
      refine R_icmp_ne (tgt := 145) X d_Mo_takesClause_135 rfl (fun c8 => absurd c3 c8) (fun c8 => ?_)
      refine R_aload_n X 3 d_Mo_takesClause_138 rfl ?_
      obtain ⟨p10, e9, h⟩ := ob h
      refine R_vcall (ci := 7) (k := 99) (As := []) (st := []) X (M_Mo_takesBranch e9) tw_807 cf_Mo_takesBranch (of_decide_eq_true rfl) rfl rfl rfl rfl rfl d_Mo_takesClause_139 ?_
      refine R_goto (tgt := 162) X d_Mo_takesClause_142 rfl ?_
      refine V_pc (pc' := 162) rfl ?_
      refine R_istore (L' := [(4, .int p10.1), (3, .int (0 : Int32)), (2, .int (1 : Int32)), (1, .int p2.1), (0, .ref (gA (zG Z) 99))]) X d_Mo_takesClause_162 (by decide) rfl ?_
      refine R_iload X 0 d_Mo_takesClause_164 rfl ?_
      refine R_ifeq (tgt := 182) X d_Mo_takesClause_166 rfl (fun c11 => ?_) (fun c11 => ?_)
      · replace h := (if_pos c11).symm.trans h
        refine R_iconst (v := (0 : Int32)) X d_Mo_takesClause_182 rfl ?_
        exact R_retc hR (by decide) h d_Mo_takesClause_183
      · replace h := (if_neg c11).symm.trans h
        refine R_aload_n X 4 d_Mo_takesClause_169 rfl ?_
        refine R_bipush (v := (59 : Int32)) X d_Mo_takesClause_170 rfl ?_
        obtain ⟨p13, e12, h⟩ := ob h
        refine R_vcall (ci := 7) (k := 99) (As := [.int (59 : Int32)]) (st := []) X (M_Mo_takes e12) tw_825 cf_Mo_takes (of_decide_eq_true rfl) rfl rfl rfl rfl rfl d_Mo_takesClause_172 ?_
        refine R_ifeq (tgt := 182) X d_Mo_takesClause_175 rfl (fun c14 => ?_) (fun c14 => ?_)
        · replace h := (if_pos c14).symm.trans h
          refine R_iconst (v := (0 : Int32)) X d_Mo_takesClause_182 rfl ?_
          exact R_retc hR (by decide) h d_Mo_takesClause_183
        · replace h := (if_neg c14).symm.trans h
          refine R_iconst (v := (1 : Int32)) X d_Mo_takesClause_178 rfl ?_
          refine R_goto (tgt := 183) X d_Mo_takesClause_179 rfl ?_
          exact R_retc hR (by decide) h d_Mo_takesClause_183
    · replace h := (if_neg c6).symm.trans h
      refine R_iconst (v := (1 : Int32)) X d_Mo_takesClause_63 rfl ?_
      refine R_goto (tgt := 107) X d_Mo_takesClause_64 rfl ?_
      refine R_istore_n (L' := [(3, .int (1 : Int32)), (2, .int (1 : Int32)), (1, .int p2.1), (0, .ref (gA (zG Z) 99))]) X d_Mo_takesClause_107 (by decide) rfl ?_
      refine R_iload_n X 0 d_Mo_takesClause_108 rfl ?_
      refine R_ifeq (tgt := 122) X d_Mo_takesClause_109 rfl (fun c15 => absurd c15 (by decide)) (fun c15 => ?_)
      refine V_pc (pc' := 112) rfl ?_
      refine R_aload_n X 3 d_Mo_takesClause_112 rfl ?_
      refine R_iconst (v := (3 : Int32)) X d_Mo_takesClause_113 rfl ?_
      refine R_aload_n X 3 d_Mo_takesClause_114 rfl ?_
      refine R_getI (ci := 7) X rfl iMo_ok (of_decide_eq_true rfl) rfl 13 rfl rfl tw_684 d_Mo_takesClause_115 ?_
      obtain ⟨p17, e16, h⟩ := ob h
      refine R_vcall (ci := 7) (k := 99) (As := [.int (3 : Int32), .int (p2.2 99 13)]) (st := []) X (M_Mo_fails e16) tw_803 cf_Mo_fails (of_decide_eq_true rfl) rfl rfl rfl rfl rfl d_Mo_takesClause_118 ?_
      exact R_retz hR h d_Mo_takesClause_121
  · replace h := (if_neg c3).symm.trans h
    refine R_aload_n X 1 d_Mo_takesClause_11 rfl ?_
    refine R_getI (ci := 7) X rfl iMo_ok (of_decide_eq_true rfl) rfl 17 rfl rfl tw_688 d_Mo_takesClause_12 ?_
    refine R_ifle (tgt := 34) X d_Mo_takesClause_15 rfl (fun c18 => ?_) (fun c18 => ?_)
    · replace h := (if_pos c18).symm.trans h
      refine R_iconst (v := (0 : Int32)) X d_Mo_takesClause_34 rfl ?_
      refine R_istore_n (L' := [(2, .int (0 : Int32)), (1, .int p2.1), (0, .ref (gA (zG Z) 99))]) X d_Mo_takesClause_35 (by decide) rfl ?_
      refine R_iload_n X 0 d_Mo_takesClause_36 rfl ?_
      refine R_ifne (tgt := 50) X d_Mo_takesClause_37 rfl (fun c19 => absurd (by decide) c19) (fun c19 => ?_)
      refine R_aload_n X 2 d_Mo_takesClause_40 rfl ?_
      refine V_pc (pc' := 41) rfl ?_
      refine R_iconst (v := (1 : Int32)) X d_Mo_takesClause_41 rfl ?_
      refine R_aload_n X 2 d_Mo_takesClause_42 rfl ?_
      refine R_getI (ci := 7) X rfl iMo_ok (of_decide_eq_true rfl) rfl 13 rfl rfl tw_684 d_Mo_takesClause_43 ?_
      obtain ⟨p21, e20, h⟩ := ob h
      refine R_vcall (ci := 7) (k := 99) (As := [.int (1 : Int32), .int (p2.2 99 13)]) (st := []) X (M_Mo_fails e20) tw_803 cf_Mo_fails (of_decide_eq_true rfl) rfl rfl rfl rfl rfl d_Mo_takesClause_46 ?_
      exact R_retz hR h d_Mo_takesClause_49
    · replace h := (if_neg c18).symm.trans h
      refine R_iload_n X 0 d_Mo_takesClause_18 rfl ?_
      refine R_bipush (v := (99 : Int32)) X d_Mo_takesClause_19 rfl ?_
      refine R_icmp_eq (tgt := 30) X d_Mo_takesClause_21 rfl (fun c22 => ?_) (fun c22 => ?_)
      · replace h := (if_pos c22).symm.trans h
        refine R_iconst (v := (1 : Int32)) X d_Mo_takesClause_30 rfl ?_
        refine R_goto (tgt := 35) X d_Mo_takesClause_31 rfl ?_
        refine R_istore_n (L' := [(2, .int (1 : Int32)), (1, .int p2.1), (0, .ref (gA (zG Z) 99))]) X d_Mo_takesClause_35 (by decide) rfl ?_
        refine R_iload_n X 0 d_Mo_takesClause_36 rfl ?_
        refine R_ifne (tgt := 50) X d_Mo_takesClause_37 rfl (fun c23 => ?_) (fun c23 => absurd c23 (by decide))
        refine V_pc (pc' := 50) rfl ?_
        refine R_iload_n X 1 d_Mo_takesClause_50 rfl ?_
        refine R_bipush (v := (98 : Int32)) X d_Mo_takesClause_51 rfl ?_
        refine R_icmp_ne (tgt := 71) X d_Mo_takesClause_53 rfl (fun c24 => ?_) (fun c24 => absurd c24 c3)
        refine R_iload_n X 1 d_Mo_takesClause_71 rfl ?_
        refine R_bipush (v := (99 : Int32)) X d_Mo_takesClause_72 rfl ?_
        refine R_icmp_ne (tgt := 93) X d_Mo_takesClause_74 rfl (fun c25 => absurd c22 c25) (fun c25 => ?_)
        refine V_pc (pc' := 77) rfl ?_
        refine R_aload_n X 2 d_Mo_takesClause_77 rfl ?_
        refine R_getI (ci := 7) X rfl iMo_ok (of_decide_eq_true rfl) rfl 19 rfl rfl tw_690 d_Mo_takesClause_78 ?_
        refine R_iconst (v := (5 : Int32)) X d_Mo_takesClause_81 rfl ?_
        refine R_icmp_ne (tgt := 89) X d_Mo_takesClause_82 rfl (fun c26 => ?_) (fun c26 => ?_)
        · replace h := (if_neg c26).symm.trans h
          refine R_iconst (v := (0 : Int32)) X d_Mo_takesClause_89 rfl ?_
          refine R_goto (tgt := 107) X d_Mo_takesClause_90 rfl ?_
          refine R_istore_n (L' := [(3, .int (0 : Int32)), (2, .int (1 : Int32)), (1, .int p2.1), (0, .ref (gA (zG Z) 99))]) X d_Mo_takesClause_107 (by decide) rfl ?_
          refine R_iload_n X 0 d_Mo_takesClause_108 rfl ?_
          refine R_ifeq (tgt := 122) X d_Mo_takesClause_109 rfl (fun c30 => ?_) (fun c30 => absurd (by decide) c30)
          refine V_pc (pc' := 122) rfl ?_
          refine R_aload_n X 3 d_Mo_takesClause_122 rfl ?_
          refine R_dup X d_Mo_takesClause_123 rfl ?_
          refine R_getI (ci := 7) X rfl iMo_ok (of_decide_eq_true rfl) rfl 12 rfl rfl tw_683 d_Mo_takesClause_124 ?_
          refine R_iconst (v := (1 : Int32)) X d_Mo_takesClause_127 rfl ?_
          refine R_iadd X d_Mo_takesClause_128 ?_
          refine R_putI (ci := 7) X rfl iMo_ok yMo_ok nMo_ok (of_decide_eq_true rfl) rfl 12 rfl rfl rfl rfl tw_683 d_Mo_takesClause_129 ?_
          refine V_pc (pc' := 132) rfl ?_
          refine R_iload_n X 2 d_Mo_takesClause_132 rfl ?_
          refine R_bipush (v := (98 : Int32)) X d_Mo_takesClause_133 rfl ?_
          refine R_icmp_ne (tgt := 145) X d_Mo_takesClause_135 rfl (fun c31 => ?_) (fun c31 => absurd c31 c3)
          refine R_iload_n X 2 d_Mo_takesClause_145 rfl ?_
          refine R_bipush (v := (99 : Int32)) X d_Mo_takesClause_146 rfl ?_
          refine R_icmp_ne (tgt := 158) X d_Mo_takesClause_148 rfl (fun c32 => absurd c22 c32) (fun c32 => ?_)
          refine V_pc (pc' := 151) rfl ?_
          refine R_aload_n X 3 d_Mo_takesClause_151 rfl ?_
          obtain ⟨p34, e33, h⟩ := ob h
          refine R_vcall (ci := 7) (k := 99) (As := []) (st := []) X (M_Mo_takesCustomer e33) tw_817 cf_Mo_takesCustomer (of_decide_eq_true rfl) rfl rfl rfl rfl rfl d_Mo_takesClause_152 ?_
          refine R_goto (tgt := 162) X d_Mo_takesClause_155 rfl ?_
          refine R_istore (L' := [(4, .int p34.1), (3, .int (0 : Int32)), (2, .int (1 : Int32)), (1, .int p2.1), (0, .ref (gA (zG Z) 99))]) X d_Mo_takesClause_162 (by decide) rfl ?_
          refine R_iload X 0 d_Mo_takesClause_164 rfl ?_
          refine R_ifeq (tgt := 182) X d_Mo_takesClause_166 rfl (fun c35 => ?_) (fun c35 => ?_)
          · replace h := (if_pos c35).symm.trans h
            refine R_iconst (v := (0 : Int32)) X d_Mo_takesClause_182 rfl ?_
            exact R_retc hR (by decide) h d_Mo_takesClause_183
          · replace h := (if_neg c35).symm.trans h
            refine R_aload_n X 4 d_Mo_takesClause_169 rfl ?_
            refine R_bipush (v := (59 : Int32)) X d_Mo_takesClause_170 rfl ?_
            obtain ⟨p37, e36, h⟩ := ob h
            refine R_vcall (ci := 7) (k := 99) (As := [.int (59 : Int32)]) (st := []) X (M_Mo_takes e36) tw_825 cf_Mo_takes (of_decide_eq_true rfl) rfl rfl rfl rfl rfl d_Mo_takesClause_172 ?_
            refine R_ifeq (tgt := 182) X d_Mo_takesClause_175 rfl (fun c38 => ?_) (fun c38 => ?_)
            · replace h := (if_pos c38).symm.trans h
              refine R_iconst (v := (0 : Int32)) X d_Mo_takesClause_182 rfl ?_
              exact R_retc hR (by decide) h d_Mo_takesClause_183
            · replace h := (if_neg c38).symm.trans h
              refine R_iconst (v := (1 : Int32)) X d_Mo_takesClause_178 rfl ?_
              refine R_goto (tgt := 183) X d_Mo_takesClause_179 rfl ?_
              exact R_retc hR (by decide) h d_Mo_takesClause_183
        · replace h := (if_pos c26).symm.trans h
          refine R_iconst (v := (1 : Int32)) X d_Mo_takesClause_85 rfl ?_
          refine R_goto (tgt := 107) X d_Mo_takesClause_86 rfl ?_
          refine R_istore_n (L' := [(3, .int (1 : Int32)), (2, .int (1 : Int32)), (1, .int p2.1), (0, .ref (gA (zG Z) 99))]) X d_Mo_takesClause_107 (by decide) rfl ?_
          refine R_iload_n X 0 d_Mo_takesClause_108 rfl ?_
          refine R_ifeq (tgt := 122) X d_Mo_takesClause_109 rfl (fun c27 => absurd c27 (by decide)) (fun c27 => ?_)
          refine V_pc (pc' := 112) rfl ?_
          refine R_aload_n X 3 d_Mo_takesClause_112 rfl ?_
          refine R_iconst (v := (3 : Int32)) X d_Mo_takesClause_113 rfl ?_
          refine R_aload_n X 3 d_Mo_takesClause_114 rfl ?_
          refine R_getI (ci := 7) X rfl iMo_ok (of_decide_eq_true rfl) rfl 13 rfl rfl tw_684 d_Mo_takesClause_115 ?_
          obtain ⟨p29, e28, h⟩ := ob h
          refine R_vcall (ci := 7) (k := 99) (As := [.int (3 : Int32), .int (p2.2 99 13)]) (st := []) X (M_Mo_fails e28) tw_803 cf_Mo_fails (of_decide_eq_true rfl) rfl rfl rfl rfl rfl d_Mo_takesClause_118 ?_
          exact R_retz hR h d_Mo_takesClause_121
      · replace h := (if_neg c22).symm.trans h
        refine R_iload_n X 0 d_Mo_takesClause_24 rfl ?_
        refine R_bipush (v := (116 : Int32)) X d_Mo_takesClause_25 rfl ?_
        refine R_icmp_ne (tgt := 34) X d_Mo_takesClause_27 rfl (fun c39 => ?_) (fun c39 => ?_)
        · replace h := (if_neg c39).symm.trans h
          refine R_iconst (v := (0 : Int32)) X d_Mo_takesClause_34 rfl ?_
          refine R_istore_n (L' := [(2, .int (0 : Int32)), (1, .int p2.1), (0, .ref (gA (zG Z) 99))]) X d_Mo_takesClause_35 (by decide) rfl ?_
          refine R_iload_n X 0 d_Mo_takesClause_36 rfl ?_
          refine R_ifne (tgt := 50) X d_Mo_takesClause_37 rfl (fun c56 => absurd (by decide) c56) (fun c56 => ?_)
          refine R_aload_n X 2 d_Mo_takesClause_40 rfl ?_
          refine V_pc (pc' := 41) rfl ?_
          refine R_iconst (v := (1 : Int32)) X d_Mo_takesClause_41 rfl ?_
          refine R_aload_n X 2 d_Mo_takesClause_42 rfl ?_
          refine R_getI (ci := 7) X rfl iMo_ok (of_decide_eq_true rfl) rfl 13 rfl rfl tw_684 d_Mo_takesClause_43 ?_
          obtain ⟨p58, e57, h⟩ := ob h
          refine R_vcall (ci := 7) (k := 99) (As := [.int (1 : Int32), .int (p2.2 99 13)]) (st := []) X (M_Mo_fails e57) tw_803 cf_Mo_fails (of_decide_eq_true rfl) rfl rfl rfl rfl rfl d_Mo_takesClause_46 ?_
          exact R_retz hR h d_Mo_takesClause_49
        · replace h := (if_pos c39).symm.trans h
          refine R_iconst (v := (1 : Int32)) X d_Mo_takesClause_30 rfl ?_
          refine R_goto (tgt := 35) X d_Mo_takesClause_31 rfl ?_
          refine R_istore_n (L' := [(2, .int (1 : Int32)), (1, .int p2.1), (0, .ref (gA (zG Z) 99))]) X d_Mo_takesClause_35 (by decide) rfl ?_
          refine R_iload_n X 0 d_Mo_takesClause_36 rfl ?_
          refine R_ifne (tgt := 50) X d_Mo_takesClause_37 rfl (fun c40 => ?_) (fun c40 => absurd c40 (by decide))
          refine V_pc (pc' := 50) rfl ?_
          refine R_iload_n X 1 d_Mo_takesClause_50 rfl ?_
          refine R_bipush (v := (98 : Int32)) X d_Mo_takesClause_51 rfl ?_
          refine R_icmp_ne (tgt := 71) X d_Mo_takesClause_53 rfl (fun c41 => ?_) (fun c41 => absurd c41 c3)
          refine R_iload_n X 1 d_Mo_takesClause_71 rfl ?_
          refine R_bipush (v := (99 : Int32)) X d_Mo_takesClause_72 rfl ?_
          refine R_icmp_ne (tgt := 93) X d_Mo_takesClause_74 rfl (fun c42 => ?_) (fun c42 => absurd c42 c22)
          refine V_pc (pc' := 93) rfl ?_
          refine R_aload_n X 2 d_Mo_takesClause_93 rfl ?_
          refine R_getI (ci := 7) X rfl iMo_ok (of_decide_eq_true rfl) rfl 21 rfl rfl tw_692 d_Mo_takesClause_94 ?_
          refine R_bipush (v := (6 : Int32)) X d_Mo_takesClause_97 rfl ?_
          refine R_icmp_ne (tgt := 106) X d_Mo_takesClause_99 rfl (fun c43 => ?_) (fun c43 => ?_)
          · replace h := (if_neg c43).symm.trans h
            refine R_iconst (v := (0 : Int32)) X d_Mo_takesClause_106 rfl ?_
            refine R_istore_n (L' := [(3, .int (0 : Int32)), (2, .int (1 : Int32)), (1, .int p2.1), (0, .ref (gA (zG Z) 99))]) X d_Mo_takesClause_107 (by decide) rfl ?_
            refine R_iload_n X 0 d_Mo_takesClause_108 rfl ?_
            refine R_ifeq (tgt := 122) X d_Mo_takesClause_109 rfl (fun c47 => ?_) (fun c47 => absurd (by decide) c47)
            refine R_aload_n X 3 d_Mo_takesClause_122 rfl ?_
            refine V_pc (pc' := 123) rfl ?_
            refine R_dup X d_Mo_takesClause_123 rfl ?_
            refine R_getI (ci := 7) X rfl iMo_ok (of_decide_eq_true rfl) rfl 12 rfl rfl tw_683 d_Mo_takesClause_124 ?_
            refine R_iconst (v := (1 : Int32)) X d_Mo_takesClause_127 rfl ?_
            refine R_iadd X d_Mo_takesClause_128 ?_
            refine R_putI (ci := 7) X rfl iMo_ok yMo_ok nMo_ok (of_decide_eq_true rfl) rfl 12 rfl rfl rfl rfl tw_683 d_Mo_takesClause_129 ?_
            refine R_iload_n X 2 d_Mo_takesClause_132 rfl ?_
            refine V_pc (pc' := 133) rfl ?_
            refine R_bipush (v := (98 : Int32)) X d_Mo_takesClause_133 rfl ?_
            refine R_icmp_ne (tgt := 145) X d_Mo_takesClause_135 rfl (fun c48 => ?_) (fun c48 => absurd c48 c3)
            refine R_iload_n X 2 d_Mo_takesClause_145 rfl ?_
            refine R_bipush (v := (99 : Int32)) X d_Mo_takesClause_146 rfl ?_
            refine R_icmp_ne (tgt := 158) X d_Mo_takesClause_148 rfl (fun c49 => ?_) (fun c49 => absurd c49 c22)
            refine R_aload_n X 3 d_Mo_takesClause_158 rfl ?_
            refine V_pc (pc' := 159) rfl ?_
            obtain ⟨p51, e50, h⟩ := ob h
            refine R_vcall (ci := 7) (k := 99) (As := []) (st := []) X (M_Mo_takesTask e50) tw_821 cf_Mo_takesTask (of_decide_eq_true rfl) rfl rfl rfl rfl rfl d_Mo_takesClause_159 ?_
            refine R_istore (L' := [(4, .int p51.1), (3, .int (0 : Int32)), (2, .int (1 : Int32)), (1, .int p2.1), (0, .ref (gA (zG Z) 99))]) X d_Mo_takesClause_162 (by decide) rfl ?_
            refine R_iload X 0 d_Mo_takesClause_164 rfl ?_
            refine R_ifeq (tgt := 182) X d_Mo_takesClause_166 rfl (fun c52 => ?_) (fun c52 => ?_)
            · replace h := (if_pos c52).symm.trans h
              refine R_iconst (v := (0 : Int32)) X d_Mo_takesClause_182 rfl ?_
              exact R_retc hR (by decide) h d_Mo_takesClause_183
            · replace h := (if_neg c52).symm.trans h
              refine R_aload_n X 4 d_Mo_takesClause_169 rfl ?_
              refine R_bipush (v := (59 : Int32)) X d_Mo_takesClause_170 rfl ?_
              obtain ⟨p54, e53, h⟩ := ob h
              refine R_vcall (ci := 7) (k := 99) (As := [.int (59 : Int32)]) (st := []) X (M_Mo_takes e53) tw_825 cf_Mo_takes (of_decide_eq_true rfl) rfl rfl rfl rfl rfl d_Mo_takesClause_172 ?_
              refine R_ifeq (tgt := 182) X d_Mo_takesClause_175 rfl (fun c55 => ?_) (fun c55 => ?_)
              · replace h := (if_pos c55).symm.trans h
                refine R_iconst (v := (0 : Int32)) X d_Mo_takesClause_182 rfl ?_
                exact R_retc hR (by decide) h d_Mo_takesClause_183
              · replace h := (if_neg c55).symm.trans h
                refine R_iconst (v := (1 : Int32)) X d_Mo_takesClause_178 rfl ?_
                refine R_goto (tgt := 183) X d_Mo_takesClause_179 rfl ?_
                exact R_retc hR (by decide) h d_Mo_takesClause_183
          · replace h := (if_pos c43).symm.trans h
            refine R_iconst (v := (1 : Int32)) X d_Mo_takesClause_102 rfl ?_
            refine R_goto (tgt := 107) X d_Mo_takesClause_103 rfl ?_
            refine R_istore_n (L' := [(3, .int (1 : Int32)), (2, .int (1 : Int32)), (1, .int p2.1), (0, .ref (gA (zG Z) 99))]) X d_Mo_takesClause_107 (by decide) rfl ?_
            refine R_iload_n X 0 d_Mo_takesClause_108 rfl ?_
            refine R_ifeq (tgt := 122) X d_Mo_takesClause_109 rfl (fun c44 => absurd c44 (by decide)) (fun c44 => ?_)
            refine V_pc (pc' := 112) rfl ?_
            refine R_aload_n X 3 d_Mo_takesClause_112 rfl ?_
            refine R_iconst (v := (3 : Int32)) X d_Mo_takesClause_113 rfl ?_
            refine R_aload_n X 3 d_Mo_takesClause_114 rfl ?_
            refine R_getI (ci := 7) X rfl iMo_ok (of_decide_eq_true rfl) rfl 13 rfl rfl tw_684 d_Mo_takesClause_115 ?_
            obtain ⟨p46, e45, h⟩ := ob h
            refine R_vcall (ci := 7) (k := 99) (As := [.int (3 : Int32), .int (p2.2 99 13)]) (st := []) X (M_Mo_fails e45) tw_803 cf_Mo_fails (of_decide_eq_true rfl) rfl rfl rfl rfl rfl d_Mo_takesClause_118 ?_
            exact R_retz hR h d_Mo_takesClause_121
theorem M_Mo_takesClause {G : GT} {hp : HP} {p : Int32 × HP} (h : f_Mo_takesClause hp = some p) : MI G y_Mo_takesClause Y_Mo_takesClause .boolean [.ref (gA G 99)] hp p.1 p.2 := MI_of rfl (fun Z hz X hR => by subst hz; exact T_Mo_takesClause X h hR)
theorem d_Mo_branch_0 : decode prog_9_method_21_code 0 = .ok (.aload_n 0, 1) := by decide +kernel
theorem d_Mo_branch_1 : decode prog_9_method_21_code 1 = .ok (.iconst 0, 1) := by decide +kernel
theorem d_Mo_branch_2 : decode prog_9_method_21_code 2 = .ok (.putfield 93, 3) := by decide +kernel
theorem d_Mo_branch_5 : decode prog_9_method_21_code 5 = .ok (.aload_n 0, 1) := by decide +kernel
theorem d_Mo_branch_6 : decode prog_9_method_21_code 6 = .ok (.iconst 0, 1) := by decide +kernel
theorem d_Mo_branch_7 : decode prog_9_method_21_code 7 = .ok (.putfield 103, 3) := by decide +kernel
theorem d_Mo_branch_10 : decode prog_9_method_21_code 10 = .ok (.aload_n 0, 1) := by decide +kernel
theorem d_Mo_branch_11 : decode prog_9_method_21_code 11 = .ok (.iconst (-1), 1) := by decide +kernel
theorem d_Mo_branch_12 : decode prog_9_method_21_code 12 = .ok (.putfield 32, 3) := by decide +kernel
theorem d_Mo_branch_15 : decode prog_9_method_21_code 15 = .ok (.aload_n 0, 1) := by decide +kernel
theorem d_Mo_branch_16 : decode prog_9_method_21_code 16 = .ok (.iconst 0, 1) := by decide +kernel
theorem d_Mo_branch_17 : decode prog_9_method_21_code 17 = .ok (.putfield 124, 3) := by decide +kernel
theorem d_Mo_branch_20 : decode prog_9_method_21_code 20 = .ok (.aload_n 0, 1) := by decide +kernel
theorem d_Mo_branch_21 : decode prog_9_method_21_code 21 = .ok (.iconst 0, 1) := by decide +kernel
theorem d_Mo_branch_22 : decode prog_9_method_21_code 22 = .ok (.putfield 127, 3) := by decide +kernel
theorem d_Mo_branch_25 : decode prog_9_method_21_code 25 = .ok (.aload_n 0, 1) := by decide +kernel
theorem d_Mo_branch_26 : decode prog_9_method_21_code 26 = .ok (.iconst 0, 1) := by decide +kernel
theorem d_Mo_branch_27 : decode prog_9_method_21_code 27 = .ok (.putfield 130, 3) := by decide +kernel
theorem d_Mo_branch_30 : decode prog_9_method_21_code 30 = .ok (.iconst 1, 1) := by decide +kernel
theorem d_Mo_branch_31 : decode prog_9_method_21_code 31 = .ok (.istore_n 1, 1) := by decide +kernel
theorem d_Mo_branch_32 : decode prog_9_method_21_code 32 = .ok (.iload_n 1, 1) := by decide +kernel
theorem d_Mo_branch_33 : decode prog_9_method_21_code 33 = .ok (.ifCond .eq (19), 3) := by decide +kernel
theorem d_Mo_branch_36 : decode prog_9_method_21_code 36 = .ok (.aload_n 0, 1) := by decide +kernel
theorem d_Mo_branch_37 : decode prog_9_method_21_code 37 = .ok (.invokevirtual 106, 3) := by decide +kernel
theorem d_Mo_branch_40 : decode prog_9_method_21_code 40 = .ok (.iconst (-1), 1) := by decide +kernel
theorem d_Mo_branch_41 : decode prog_9_method_21_code 41 = .ok (.if_icmp .eq (11), 3) := by decide +kernel
theorem d_Mo_branch_44 : decode prog_9_method_21_code 44 = .ok (.aload_n 0, 1) := by decide +kernel
theorem d_Mo_branch_45 : decode prog_9_method_21_code 45 = .ok (.invokevirtual 146, 3) := by decide +kernel
theorem d_Mo_branch_48 : decode prog_9_method_21_code 48 = .ok (.istore_n 1, 1) := by decide +kernel
theorem d_Mo_branch_49 : decode prog_9_method_21_code 49 = .ok (.goto (-17), 3) := by decide +kernel
theorem d_Mo_branch_52 : decode prog_9_method_21_code 52 = .ok (.aload_n 0, 1) := by decide +kernel
theorem d_Mo_branch_53 : decode prog_9_method_21_code 53 = .ok (.iconst 0, 1) := by decide +kernel
theorem d_Mo_branch_54 : decode prog_9_method_21_code 54 = .ok (.putfield 89, 3) := by decide +kernel
theorem d_Mo_branch_57 : decode prog_9_method_21_code 57 = .ok (.iload_n 1, 1) := by decide +kernel
theorem d_Mo_branch_58 : decode prog_9_method_21_code 58 = .ok (.ifCond .ne (11), 3) := by decide +kernel
theorem d_Mo_branch_61 : decode prog_9_method_21_code 61 = .ok (.bipush (-10), 2) := by decide +kernel
theorem d_Mo_branch_63 : decode prog_9_method_21_code 63 = .ok (.aload_n 0, 1) := by decide +kernel
theorem d_Mo_branch_64 : decode prog_9_method_21_code 64 = .ok (.getfield 103, 3) := by decide +kernel
theorem d_Mo_branch_67 : decode prog_9_method_21_code 67 = .ok (.isub, 1) := by decide +kernel
theorem d_Mo_branch_68 : decode prog_9_method_21_code 68 = .ok (.ireturn, 1) := by decide +kernel
theorem d_Mo_branch_69 : decode prog_9_method_21_code 69 = .ok (.aload_n 0, 1) := by decide +kernel
theorem d_Mo_branch_70 : decode prog_9_method_21_code 70 = .ok (.getfield 7, 3) := by decide +kernel
theorem d_Mo_branch_73 : decode prog_9_method_21_code 73 = .ok (.bipush (31), 2) := by decide +kernel
theorem d_Mo_branch_75 : decode prog_9_method_21_code 75 = .ok (.iaload, 1) := by decide +kernel
theorem d_Mo_branch_76 : decode prog_9_method_21_code 76 = .ok (.istore_n 2, 1) := by decide +kernel
theorem d_Mo_branch_77 : decode prog_9_method_21_code 77 = .ok (.iconst 0, 1) := by decide +kernel
theorem d_Mo_branch_78 : decode prog_9_method_21_code 78 = .ok (.istore_n 3, 1) := by decide +kernel
theorem d_Mo_branch_79 : decode prog_9_method_21_code 79 = .ok (.iload_n 3, 1) := by decide +kernel
theorem d_Mo_branch_80 : decode prog_9_method_21_code 80 = .ok (.bipush (32), 2) := by decide +kernel
theorem d_Mo_branch_82 : decode prog_9_method_21_code 82 = .ok (.if_icmp .ge (16), 3) := by decide +kernel
theorem d_Mo_branch_85 : decode prog_9_method_21_code 85 = .ok (.aload_n 0, 1) := by decide +kernel
theorem d_Mo_branch_86 : decode prog_9_method_21_code 86 = .ok (.getfield 7, 3) := by decide +kernel
theorem d_Mo_branch_89 : decode prog_9_method_21_code 89 = .ok (.iload_n 3, 1) := by decide +kernel
theorem d_Mo_branch_90 : decode prog_9_method_21_code 90 = .ok (.iconst 0, 1) := by decide +kernel
theorem d_Mo_branch_91 : decode prog_9_method_21_code 91 = .ok (.iastore, 1) := by decide +kernel
theorem d_Mo_branch_92 : decode prog_9_method_21_code 92 = .ok (.iinc 3 (1), 3) := by decide +kernel
theorem d_Mo_branch_95 : decode prog_9_method_21_code 95 = .ok (.goto (-16), 3) := by decide +kernel
theorem d_Mo_branch_98 : decode prog_9_method_21_code 98 = .ok (.aload_n 0, 1) := by decide +kernel
theorem d_Mo_branch_99 : decode prog_9_method_21_code 99 = .ok (.getfield 7, 3) := by decide +kernel
theorem d_Mo_branch_102 : decode prog_9_method_21_code 102 = .ok (.bipush (31), 2) := by decide +kernel
theorem d_Mo_branch_104 : decode prog_9_method_21_code 104 = .ok (.iload_n 2, 1) := by decide +kernel
theorem d_Mo_branch_105 : decode prog_9_method_21_code 105 = .ok (.iastore, 1) := by decide +kernel
theorem d_Mo_branch_106 : decode prog_9_method_21_code 106 = .ok (.aload_n 0, 1) := by decide +kernel
theorem d_Mo_branch_107 : decode prog_9_method_21_code 107 = .ok (.aload_n 0, 1) := by decide +kernel
theorem d_Mo_branch_108 : decode prog_9_method_21_code 108 = .ok (.getfield 124, 3) := by decide +kernel
theorem d_Mo_branch_111 : decode prog_9_method_21_code 111 = .ok (.putfield 69, 3) := by decide +kernel
theorem d_Mo_branch_114 : decode prog_9_method_21_code 114 = .ok (.aload_n 0, 1) := by decide +kernel
theorem d_Mo_branch_115 : decode prog_9_method_21_code 115 = .ok (.aload_n 0, 1) := by decide +kernel
theorem d_Mo_branch_116 : decode prog_9_method_21_code 116 = .ok (.getfield 127, 3) := by decide +kernel
theorem d_Mo_branch_119 : decode prog_9_method_21_code 119 = .ok (.putfield 76, 3) := by decide +kernel
theorem d_Mo_branch_122 : decode prog_9_method_21_code 122 = .ok (.aload_n 0, 1) := by decide +kernel
theorem d_Mo_branch_123 : decode prog_9_method_21_code 123 = .ok (.aload_n 0, 1) := by decide +kernel
theorem d_Mo_branch_124 : decode prog_9_method_21_code 124 = .ok (.getfield 130, 3) := by decide +kernel
theorem d_Mo_branch_127 : decode prog_9_method_21_code 127 = .ok (.putfield 83, 3) := by decide +kernel
theorem d_Mo_branch_130 : decode prog_9_method_21_code 130 = .ok (.iconst 0, 1) := by decide +kernel
theorem d_Mo_branch_131 : decode prog_9_method_21_code 131 = .ok (.istore_n 3, 1) := by decide +kernel
theorem d_Mo_branch_132 : decode prog_9_method_21_code 132 = .ok (.iload_n 3, 1) := by decide +kernel
theorem d_Mo_branch_133 : decode prog_9_method_21_code 133 = .ok (.aload_n 0, 1) := by decide +kernel
theorem d_Mo_branch_134 : decode prog_9_method_21_code 134 = .ok (.getfield 69, 3) := by decide +kernel
theorem d_Mo_branch_137 : decode prog_9_method_21_code 137 = .ok (.if_icmp .ge (21), 3) := by decide +kernel
theorem d_Mo_branch_140 : decode prog_9_method_21_code 140 = .ok (.aload_n 0, 1) := by decide +kernel
theorem d_Mo_branch_141 : decode prog_9_method_21_code 141 = .ok (.getfield 17, 3) := by decide +kernel
theorem d_Mo_branch_144 : decode prog_9_method_21_code 144 = .ok (.iload_n 3, 1) := by decide +kernel
theorem d_Mo_branch_145 : decode prog_9_method_21_code 145 = .ok (.aload_n 0, 1) := by decide +kernel
theorem d_Mo_branch_146 : decode prog_9_method_21_code 146 = .ok (.getfield 36, 3) := by decide +kernel
theorem d_Mo_branch_149 : decode prog_9_method_21_code 149 = .ok (.iload_n 3, 1) := by decide +kernel
theorem d_Mo_branch_150 : decode prog_9_method_21_code 150 = .ok (.iaload, 1) := by decide +kernel
theorem d_Mo_branch_151 : decode prog_9_method_21_code 151 = .ok (.iastore, 1) := by decide +kernel
theorem d_Mo_branch_152 : decode prog_9_method_21_code 152 = .ok (.iinc 3 (1), 3) := by decide +kernel
theorem d_Mo_branch_155 : decode prog_9_method_21_code 155 = .ok (.goto (-23), 3) := by decide +kernel
theorem d_Mo_branch_158 : decode prog_9_method_21_code 158 = .ok (.iconst 0, 1) := by decide +kernel
theorem d_Mo_branch_159 : decode prog_9_method_21_code 159 = .ok (.istore_n 3, 1) := by decide +kernel
theorem d_Mo_branch_160 : decode prog_9_method_21_code 160 = .ok (.iload_n 3, 1) := by decide +kernel
theorem d_Mo_branch_161 : decode prog_9_method_21_code 161 = .ok (.aload_n 0, 1) := by decide +kernel
theorem d_Mo_branch_162 : decode prog_9_method_21_code 162 = .ok (.getfield 76, 3) := by decide +kernel
theorem d_Mo_branch_165 : decode prog_9_method_21_code 165 = .ok (.if_icmp .ge (61), 3) := by decide +kernel
theorem d_Mo_branch_168 : decode prog_9_method_21_code 168 = .ok (.aload_n 0, 1) := by decide +kernel
theorem d_Mo_branch_169 : decode prog_9_method_21_code 169 = .ok (.getfield 7, 3) := by decide +kernel
theorem d_Mo_branch_172 : decode prog_9_method_21_code 172 = .ok (.iconst 1, 1) := by decide +kernel
theorem d_Mo_branch_173 : decode prog_9_method_21_code 173 = .ok (.iload_n 3, 1) := by decide +kernel
theorem d_Mo_branch_174 : decode prog_9_method_21_code 174 = .ok (.iadd, 1) := by decide +kernel
theorem d_Mo_branch_175 : decode prog_9_method_21_code 175 = .ok (.aload_n 0, 1) := by decide +kernel
theorem d_Mo_branch_176 : decode prog_9_method_21_code 176 = .ok (.getfield 39, 3) := by decide +kernel
theorem d_Mo_branch_179 : decode prog_9_method_21_code 179 = .ok (.iconst 3, 1) := by decide +kernel
theorem d_Mo_branch_180 : decode prog_9_method_21_code 180 = .ok (.iload_n 3, 1) := by decide +kernel
theorem d_Mo_branch_181 : decode prog_9_method_21_code 181 = .ok (.imul, 1) := by decide +kernel
theorem d_Mo_branch_182 : decode prog_9_method_21_code 182 = .ok (.iaload, 1) := by decide +kernel
theorem d_Mo_branch_183 : decode prog_9_method_21_code 183 = .ok (.sipush (500), 3) := by decide +kernel
theorem d_Mo_branch_186 : decode prog_9_method_21_code 186 = .ok (.isub, 1) := by decide +kernel
theorem d_Mo_branch_187 : decode prog_9_method_21_code 187 = .ok (.iastore, 1) := by decide +kernel
theorem d_Mo_branch_188 : decode prog_9_method_21_code 188 = .ok (.aload_n 0, 1) := by decide +kernel
theorem d_Mo_branch_189 : decode prog_9_method_21_code 189 = .ok (.getfield 20, 3) := by decide +kernel
theorem d_Mo_branch_192 : decode prog_9_method_21_code 192 = .ok (.iload_n 3, 1) := by decide +kernel
theorem d_Mo_branch_193 : decode prog_9_method_21_code 193 = .ok (.aload_n 0, 1) := by decide +kernel
theorem d_Mo_branch_194 : decode prog_9_method_21_code 194 = .ok (.getfield 39, 3) := by decide +kernel
theorem d_Mo_branch_197 : decode prog_9_method_21_code 197 = .ok (.iconst 3, 1) := by decide +kernel
theorem d_Mo_branch_198 : decode prog_9_method_21_code 198 = .ok (.iload_n 3, 1) := by decide +kernel
theorem d_Mo_branch_199 : decode prog_9_method_21_code 199 = .ok (.imul, 1) := by decide +kernel
theorem d_Mo_branch_200 : decode prog_9_method_21_code 200 = .ok (.iconst 1, 1) := by decide +kernel
theorem d_Mo_branch_201 : decode prog_9_method_21_code 201 = .ok (.iadd, 1) := by decide +kernel
theorem d_Mo_branch_202 : decode prog_9_method_21_code 202 = .ok (.iaload, 1) := by decide +kernel
theorem d_Mo_branch_203 : decode prog_9_method_21_code 203 = .ok (.iastore, 1) := by decide +kernel
theorem d_Mo_branch_204 : decode prog_9_method_21_code 204 = .ok (.aload_n 0, 1) := by decide +kernel
theorem d_Mo_branch_205 : decode prog_9_method_21_code 205 = .ok (.getfield 23, 3) := by decide +kernel
theorem d_Mo_branch_208 : decode prog_9_method_21_code 208 = .ok (.iload_n 3, 1) := by decide +kernel
theorem d_Mo_branch_209 : decode prog_9_method_21_code 209 = .ok (.aload_n 0, 1) := by decide +kernel
theorem d_Mo_branch_210 : decode prog_9_method_21_code 210 = .ok (.getfield 39, 3) := by decide +kernel
theorem d_Mo_branch_213 : decode prog_9_method_21_code 213 = .ok (.iconst 3, 1) := by decide +kernel
theorem d_Mo_branch_214 : decode prog_9_method_21_code 214 = .ok (.iload_n 3, 1) := by decide +kernel
theorem d_Mo_branch_215 : decode prog_9_method_21_code 215 = .ok (.imul, 1) := by decide +kernel
theorem d_Mo_branch_216 : decode prog_9_method_21_code 216 = .ok (.iconst 2, 1) := by decide +kernel
theorem d_Mo_branch_217 : decode prog_9_method_21_code 217 = .ok (.iadd, 1) := by decide +kernel
theorem d_Mo_branch_218 : decode prog_9_method_21_code 218 = .ok (.iaload, 1) := by decide +kernel
theorem d_Mo_branch_219 : decode prog_9_method_21_code 219 = .ok (.iastore, 1) := by decide +kernel
theorem d_Mo_branch_220 : decode prog_9_method_21_code 220 = .ok (.iinc 3 (1), 3) := by decide +kernel
theorem d_Mo_branch_223 : decode prog_9_method_21_code 223 = .ok (.goto (-63), 3) := by decide +kernel
theorem d_Mo_branch_226 : decode prog_9_method_21_code 226 = .ok (.iconst 0, 1) := by decide +kernel
theorem d_Mo_branch_227 : decode prog_9_method_21_code 227 = .ok (.istore_n 3, 1) := by decide +kernel
theorem d_Mo_branch_228 : decode prog_9_method_21_code 228 = .ok (.iload_n 3, 1) := by decide +kernel
theorem d_Mo_branch_229 : decode prog_9_method_21_code 229 = .ok (.aload_n 0, 1) := by decide +kernel
theorem d_Mo_branch_230 : decode prog_9_method_21_code 230 = .ok (.getfield 83, 3) := by decide +kernel
theorem d_Mo_branch_233 : decode prog_9_method_21_code 233 = .ok (.if_icmp .ge (21), 3) := by decide +kernel
theorem d_Mo_branch_236 : decode prog_9_method_21_code 236 = .ok (.aload_n 0, 1) := by decide +kernel
theorem d_Mo_branch_237 : decode prog_9_method_21_code 237 = .ok (.getfield 26, 3) := by decide +kernel
theorem d_Mo_branch_240 : decode prog_9_method_21_code 240 = .ok (.iload_n 3, 1) := by decide +kernel
theorem d_Mo_branch_241 : decode prog_9_method_21_code 241 = .ok (.aload_n 0, 1) := by decide +kernel
theorem d_Mo_branch_242 : decode prog_9_method_21_code 242 = .ok (.getfield 42, 3) := by decide +kernel
theorem d_Mo_branch_245 : decode prog_9_method_21_code 245 = .ok (.iload_n 3, 1) := by decide +kernel
theorem d_Mo_branch_246 : decode prog_9_method_21_code 246 = .ok (.iaload, 1) := by decide +kernel
theorem d_Mo_branch_247 : decode prog_9_method_21_code 247 = .ok (.iastore, 1) := by decide +kernel
theorem d_Mo_branch_248 : decode prog_9_method_21_code 248 = .ok (.iinc 3 (1), 3) := by decide +kernel
theorem d_Mo_branch_251 : decode prog_9_method_21_code 251 = .ok (.goto (-23), 3) := by decide +kernel
theorem d_Mo_branch_254 : decode prog_9_method_21_code 254 = .ok (.aload_n 0, 1) := by decide +kernel
theorem d_Mo_branch_255 : decode prog_9_method_21_code 255 = .ok (.iconst 0, 1) := by decide +kernel
theorem d_Mo_branch_256 : decode prog_9_method_21_code 256 = .ok (.putfield 149, 3) := by decide +kernel
theorem d_Mo_branch_259 : decode prog_9_method_21_code 259 = .ok (.aload_n 0, 1) := by decide +kernel
theorem d_Mo_branch_260 : decode prog_9_method_21_code 260 = .ok (.iconst 0, 1) := by decide +kernel
theorem d_Mo_branch_261 : decode prog_9_method_21_code 261 = .ok (.putfield 152, 3) := by decide +kernel
theorem d_Mo_branch_264 : decode prog_9_method_21_code 264 = .ok (.aload_n 0, 1) := by decide +kernel
theorem d_Mo_branch_265 : decode prog_9_method_21_code 265 = .ok (.iconst 0, 1) := by decide +kernel
theorem d_Mo_branch_266 : decode prog_9_method_21_code 266 = .ok (.putfield 155, 3) := by decide +kernel
theorem d_Mo_branch_269 : decode prog_9_method_21_code 269 = .ok (.aload_n 0, 1) := by decide +kernel
theorem d_Mo_branch_270 : decode prog_9_method_21_code 270 = .ok (.iconst 0, 1) := by decide +kernel
theorem d_Mo_branch_271 : decode prog_9_method_21_code 271 = .ok (.putfield 158, 3) := by decide +kernel
theorem d_Mo_branch_274 : decode prog_9_method_21_code 274 = .ok (.aload_n 0, 1) := by decide +kernel
theorem d_Mo_branch_275 : decode prog_9_method_21_code 275 = .ok (.iconst 0, 1) := by decide +kernel
theorem d_Mo_branch_276 : decode prog_9_method_21_code 276 = .ok (.putfield 161, 3) := by decide +kernel
theorem d_Mo_branch_279 : decode prog_9_method_21_code 279 = .ok (.aload_n 0, 1) := by decide +kernel
theorem d_Mo_branch_280 : decode prog_9_method_21_code 280 = .ok (.getfield 13, 3) := by decide +kernel
theorem d_Mo_branch_283 : decode prog_9_method_21_code 283 = .ok (.iconst 0, 1) := by decide +kernel
theorem d_Mo_branch_284 : decode prog_9_method_21_code 284 = .ok (.iconst 0, 1) := by decide +kernel
theorem d_Mo_branch_285 : decode prog_9_method_21_code 285 = .ok (.bastore, 1) := by decide +kernel
theorem d_Mo_branch_286 : decode prog_9_method_21_code 286 = .ok (.aload_n 0, 1) := by decide +kernel
theorem d_Mo_branch_287 : decode prog_9_method_21_code 287 = .ok (.getfield 13, 3) := by decide +kernel
theorem d_Mo_branch_290 : decode prog_9_method_21_code 290 = .ok (.iconst 1, 1) := by decide +kernel
theorem d_Mo_branch_291 : decode prog_9_method_21_code 291 = .ok (.iconst 0, 1) := by decide +kernel
theorem d_Mo_branch_292 : decode prog_9_method_21_code 292 = .ok (.bastore, 1) := by decide +kernel
theorem d_Mo_branch_293 : decode prog_9_method_21_code 293 = .ok (.aload_n 0, 1) := by decide +kernel
theorem d_Mo_branch_294 : decode prog_9_method_21_code 294 = .ok (.getfield 76, 3) := by decide +kernel
theorem d_Mo_branch_297 : decode prog_9_method_21_code 297 = .ok (.ireturn, 1) := by decide +kernel
set_option maxRecDepth 20000 in
set_option maxHeartbeats 2000000 in
theorem T_Mo_branch_L32 {Z : ZT} (X : CX Z Y_Mo_branch) {p : Int32 × HP} (hR : RetI Z Y_Mo_branch .int p.1 p.2) {K : HP → Int32 → Option (Int32 × HP)} (hK : ∀ (hp : HP) (x1 : Int32), K hp x1 = some p → V Z Y_Mo_branch hp 52 [(0, .ref (gA (zG Z) 99)), (1, .int x1)] []) : ∀ (n : Nat) (hp : HP) (x1 : Int32), f_Mo_branch_L32 K n hp x1 = some p → V Z Y_Mo_branch hp 32 [(0, .ref (gA (zG Z) 99)), (1, .int x1)] [] := by
  intro n
  induction n with
  | zero =>
    intro hp x1 h
    cases h
  | succ n ih =>
    intro hp x1 h
    replace h : f_Mo_branch_L32 K (n + 1) hp x1 = some p := h
    unfold f_Mo_branch_L32 at h
    refine R_iload_n X 1 d_Mo_branch_32 rfl ?_
    refine R_ifeq (tgt := 52) X d_Mo_branch_33 rfl (fun c1 => ?_) (fun c1 => ?_)
    · replace h := (if_pos c1).symm.trans h
      refine V_pc (pc' := 52) rfl (R_loc (L' := [(0, .ref (gA (zG Z) 99)), (1, .int x1)]) [0, 1] rfl ?_)
      exact hK hp x1 h
    · replace h := (if_neg c1).symm.trans h
      refine R_aload_n X 0 d_Mo_branch_36 rfl ?_
      obtain ⟨p3, e2, h⟩ := ob h
      refine R_vcall (ci := 7) (k := 99) (As := []) (st := []) X (M_Mo_here e2) tw_791 cf_Mo_here (of_decide_eq_true rfl) rfl rfl rfl rfl rfl d_Mo_branch_37 ?_
      refine R_iconst (v := (-1 : Int32)) X d_Mo_branch_40 rfl ?_
      refine R_icmp_eq (tgt := 52) X d_Mo_branch_41 rfl (fun c4 => ?_) (fun c4 => ?_)
      · replace h := (if_pos c4).symm.trans h
        refine V_pc (pc' := 52) rfl (R_loc (L' := [(0, .ref (gA (zG Z) 99)), (1, .int x1)]) [0, 1] rfl ?_)
        exact hK p3.2 x1 h
      · replace h := (if_neg c4).symm.trans h
        refine R_aload_n X 0 d_Mo_branch_44 rfl ?_
        obtain ⟨p6, e5, h⟩ := ob h
        refine R_vcall (ci := 7) (k := 99) (As := []) (st := []) X (M_Mo_takesClause e5) tw_799 cf_Mo_takesClause (of_decide_eq_true rfl) rfl rfl rfl rfl rfl d_Mo_branch_45 ?_
        refine R_istore_n (L' := [(1, .int p6.1), (0, .ref (gA (zG Z) 99))]) X d_Mo_branch_48 (by decide) rfl ?_
        refine R_goto (tgt := 32) X d_Mo_branch_49 rfl ?_
        refine V_pc (pc' := 32) rfl (R_loc (L' := [(0, .ref (gA (zG Z) 99)), (1, .int p6.1)]) [1, 0] rfl ?_)
        exact ih p6.2 p6.1 h
set_option maxRecDepth 20000 in
set_option maxHeartbeats 2000000 in
theorem T_Mo_branch_L79 {Z : ZT} (X : CX Z Y_Mo_branch) {v2 : Int32} {p : Int32 × HP} (hR : RetI Z Y_Mo_branch .int p.1 p.2) {K : HP → Option (Int32 × HP)} (hK : ∀ (hp : HP), K hp = some p → V Z Y_Mo_branch hp 98 [(0, .ref (gA (zG Z) 99)), (2, .int v2)] []) : ∀ (n : Nat) (hp : HP) (x3 : Int32), f_Mo_branch_L79 v2 K n hp x3 = some p → V Z Y_Mo_branch hp 79 [(0, .ref (gA (zG Z) 99)), (2, .int v2), (3, .int x3)] [] := by
  intro n
  induction n with
  | zero =>
    intro hp x3 h
    cases h
  | succ n ih =>
    intro hp x3 h
    replace h : f_Mo_branch_L79 v2 K (n + 1) hp x3 = some p := h
    unfold f_Mo_branch_L79 at h
    refine R_iload_n X 2 d_Mo_branch_79 rfl ?_
    refine R_bipush (v := (32 : Int32)) X d_Mo_branch_80 rfl ?_
    refine R_icmp_ge (tgt := 98) X d_Mo_branch_82 rfl (fun c10 => ?_) (fun c10 => ?_)
    · replace h := (if_pos c10).symm.trans h
      refine V_pc (pc' := 98) rfl (R_loc (L' := [(0, .ref (gA (zG Z) 99)), (2, .int v2)]) [0, 1] rfl ?_)
      exact hK hp h
    · replace h := (if_neg c10).symm.trans h
      refine R_aload_n X 0 d_Mo_branch_85 rfl ?_
      refine R_getR (ci := 7) X rfl iMo_ok (of_decide_eq_true rfl) rfl 0 rfl rfl tw_671 d_Mo_branch_86 ?_
      refine R_iload_n X 2 d_Mo_branch_89 rfl ?_
      refine R_iconst (v := (0 : Int32)) X d_Mo_branch_90 rfl ?_
      obtain ⟨i11, h⟩ := ck h
      refine R_iast (n := 736) X (of_decide_eq_true rfl) rfl i11 d_Mo_branch_91 ?_
      refine V_pc (pc' := 92) rfl ?_
      refine R_iinc (v := (x3 + 1)) (L' := [(3, .int (x3 + 1)), (0, .ref (gA (zG Z) 99)), (2, .int v2)]) X 2 d_Mo_branch_92 rfl rfl (by decide) rfl ?_
      refine R_goto (tgt := 79) X d_Mo_branch_95 rfl ?_
      refine V_pc (pc' := 79) rfl (R_loc (L' := [(0, .ref (gA (zG Z) 99)), (2, .int v2), (3, .int (x3 + 1))]) [1, 2, 0] rfl ?_)
      exact ih (up hp 100 (x3).toNatClampNeg (0 : Int32)) (x3 + 1) h
set_option maxRecDepth 20000 in
set_option maxHeartbeats 2000000 in
theorem T_Mo_branch_L132 {Z : ZT} (X : CX Z Y_Mo_branch) {p : Int32 × HP} (hR : RetI Z Y_Mo_branch .int p.1 p.2) {K : HP → Option (Int32 × HP)} (hK : ∀ (hp : HP), K hp = some p → V Z Y_Mo_branch hp 158 [(0, .ref (gA (zG Z) 99))] []) : ∀ (n : Nat) (hp : HP) (x3 : Int32), f_Mo_branch_L132 K n hp x3 = some p → V Z Y_Mo_branch hp 132 [(0, .ref (gA (zG Z) 99)), (3, .int x3)] [] := by
  intro n
  induction n with
  | zero =>
    intro hp x3 h
    cases h
  | succ n ih =>
    intro hp x3 h
    replace h : f_Mo_branch_L132 K (n + 1) hp x3 = some p := h
    unfold f_Mo_branch_L132 at h
    refine R_iload_n X 1 d_Mo_branch_132 rfl ?_
    refine R_aload_n X 0 d_Mo_branch_133 rfl ?_
    refine R_getI (ci := 7) X rfl iMo_ok (of_decide_eq_true rfl) rfl 3 rfl rfl tw_674 d_Mo_branch_134 ?_
    refine R_icmp_ge (tgt := 158) X d_Mo_branch_137 rfl (fun c13 => ?_) (fun c13 => ?_)
    · replace h := (if_pos c13).symm.trans h
      refine V_pc (pc' := 158) rfl (R_loc (L' := [(0, .ref (gA (zG Z) 99))]) [0] rfl ?_)
      exact hK hp h
    · replace h := (if_neg c13).symm.trans h
      refine R_aload_n X 0 d_Mo_branch_140 rfl ?_
      refine R_getR (ci := 7) X rfl iMo_ok (of_decide_eq_true rfl) rfl 4 rfl rfl tw_675 d_Mo_branch_141 ?_
      refine R_iload_n X 1 d_Mo_branch_144 rfl ?_
      refine R_aload_n X 0 d_Mo_branch_145 rfl ?_
      refine R_getR (ci := 7) X rfl iMo_ok (of_decide_eq_true rfl) rfl 18 rfl rfl tw_689 d_Mo_branch_146 ?_
      refine V_pc (pc' := 149) rfl ?_
      refine R_iload_n X 1 d_Mo_branch_149 rfl ?_
      obtain ⟨i14, h⟩ := ck h
      refine R_iald (n := 8) X (of_decide_eq_true rfl) rfl i14 d_Mo_branch_150 ?_
      refine R_iast (n := 8) X (of_decide_eq_true rfl) rfl i14 d_Mo_branch_151 ?_
      refine R_iinc (v := (x3 + 1)) (L' := [(3, .int (x3 + 1)), (0, .ref (gA (zG Z) 99))]) X 1 d_Mo_branch_152 rfl rfl (by decide) rfl ?_
      refine R_goto (tgt := 132) X d_Mo_branch_155 rfl ?_
      refine V_pc (pc' := 132) rfl (R_loc (L' := [(0, .ref (gA (zG Z) 99)), (3, .int (x3 + 1))]) [1, 0] rfl ?_)
      exact ih (up hp 102 (x3).toNatClampNeg (hp 107 (x3).toNatClampNeg)) (x3 + 1) h
set_option maxRecDepth 20000 in
set_option maxHeartbeats 2000000 in
theorem T_Mo_branch_L160 {Z : ZT} (X : CX Z Y_Mo_branch) {p : Int32 × HP} (hR : RetI Z Y_Mo_branch .int p.1 p.2) {K : HP → Option (Int32 × HP)} (hK : ∀ (hp : HP), K hp = some p → V Z Y_Mo_branch hp 226 [(0, .ref (gA (zG Z) 99))] []) : ∀ (n : Nat) (hp : HP) (x3 : Int32), f_Mo_branch_L160 K n hp x3 = some p → V Z Y_Mo_branch hp 160 [(0, .ref (gA (zG Z) 99)), (3, .int x3)] [] := by
  intro n
  induction n with
  | zero =>
    intro hp x3 h
    cases h
  | succ n ih =>
    intro hp x3 h
    replace h : f_Mo_branch_L160 K (n + 1) hp x3 = some p := h
    unfold f_Mo_branch_L160 at h
    refine R_iload_n X 1 d_Mo_branch_160 rfl ?_
    refine R_aload_n X 0 d_Mo_branch_161 rfl ?_
    refine R_getI (ci := 7) X rfl iMo_ok (of_decide_eq_true rfl) rfl 5 rfl rfl tw_676 d_Mo_branch_162 ?_
    refine R_icmp_ge (tgt := 226) X d_Mo_branch_165 rfl (fun c16 => ?_) (fun c16 => ?_)
    · replace h := (if_pos c16).symm.trans h
      refine V_pc (pc' := 226) rfl (R_loc (L' := [(0, .ref (gA (zG Z) 99))]) [0] rfl ?_)
      exact hK hp h
    · replace h := (if_neg c16).symm.trans h
      refine R_aload_n X 0 d_Mo_branch_168 rfl ?_
      refine R_getR (ci := 7) X rfl iMo_ok (of_decide_eq_true rfl) rfl 0 rfl rfl tw_671 d_Mo_branch_169 ?_
      refine R_iconst (v := (1 : Int32)) X d_Mo_branch_172 rfl ?_
      refine R_iload_n X 1 d_Mo_branch_173 rfl ?_
      refine R_iadd X d_Mo_branch_174 ?_
      refine V_pc (pc' := 175) rfl ?_
      refine R_aload_n X 0 d_Mo_branch_175 rfl ?_
      refine R_getR (ci := 7) X rfl iMo_ok (of_decide_eq_true rfl) rfl 20 rfl rfl tw_691 d_Mo_branch_176 ?_
      refine R_iconst (v := (3 : Int32)) X d_Mo_branch_179 rfl ?_
      refine R_iload_n X 1 d_Mo_branch_180 rfl ?_
      refine R_imul X d_Mo_branch_181 ?_
      obtain ⟨i17, h⟩ := ck h
      refine R_iald (n := 15) X (of_decide_eq_true rfl) rfl i17 d_Mo_branch_182 ?_
      refine V_pc (pc' := 183) rfl ?_
      refine R_sipush (v := (500 : Int32)) X d_Mo_branch_183 rfl ?_
      refine R_isub X d_Mo_branch_186 ?_
      obtain ⟨i18, h⟩ := ck h
      refine R_iast (n := 736) X (of_decide_eq_true rfl) rfl i18 d_Mo_branch_187 ?_
      refine R_aload_n X 0 d_Mo_branch_188 rfl ?_
      refine R_getR (ci := 7) X rfl iMo_ok (of_decide_eq_true rfl) rfl 6 rfl rfl tw_677 d_Mo_branch_189 ?_
      refine R_iload_n X 1 d_Mo_branch_192 rfl ?_
      refine V_pc (pc' := 193) rfl ?_
      refine R_aload_n X 0 d_Mo_branch_193 rfl ?_
      refine R_getR (ci := 7) X rfl iMo_ok (of_decide_eq_true rfl) rfl 20 rfl rfl tw_691 d_Mo_branch_194 ?_
      refine R_iconst (v := (3 : Int32)) X d_Mo_branch_197 rfl ?_
      refine R_iload_n X 1 d_Mo_branch_198 rfl ?_
      refine R_imul X d_Mo_branch_199 ?_
      refine R_iconst (v := (1 : Int32)) X d_Mo_branch_200 rfl ?_
      refine V_pc (pc' := 201) rfl ?_
      refine R_iadd X d_Mo_branch_201 ?_
      obtain ⟨i19, h⟩ := ck h
      refine R_iald (n := 15) X (of_decide_eq_true rfl) rfl i19 d_Mo_branch_202 ?_
      obtain ⟨i20, h⟩ := ck h
      refine R_iast (n := 5) X (of_decide_eq_true rfl) rfl i20 d_Mo_branch_203 ?_
      refine R_aload_n X 0 d_Mo_branch_204 rfl ?_
      refine R_getR (ci := 7) X rfl iMo_ok (of_decide_eq_true rfl) rfl 7 rfl rfl tw_678 d_Mo_branch_205 ?_
      refine R_iload_n X 1 d_Mo_branch_208 rfl ?_
      refine V_pc (pc' := 209) rfl ?_
      refine R_aload_n X 0 d_Mo_branch_209 rfl ?_
      refine R_getR (ci := 7) X rfl iMo_ok (of_decide_eq_true rfl) rfl 20 rfl rfl tw_691 d_Mo_branch_210 ?_
      refine R_iconst (v := (3 : Int32)) X d_Mo_branch_213 rfl ?_
      refine R_iload_n X 1 d_Mo_branch_214 rfl ?_
      refine R_imul X d_Mo_branch_215 ?_
      refine R_iconst (v := (2 : Int32)) X d_Mo_branch_216 rfl ?_
      refine V_pc (pc' := 217) rfl ?_
      refine R_iadd X d_Mo_branch_217 ?_
      obtain ⟨i21, h⟩ := ck h
      refine R_iald (n := 15) X (of_decide_eq_true rfl) rfl i21 d_Mo_branch_218 ?_
      refine R_iast (n := 5) X (of_decide_eq_true rfl) rfl i20 d_Mo_branch_219 ?_
      refine R_iinc (v := (x3 + 1)) (L' := [(3, .int (x3 + 1)), (0, .ref (gA (zG Z) 99))]) X 1 d_Mo_branch_220 rfl rfl (by decide) rfl ?_
      refine R_goto (tgt := 160) X d_Mo_branch_223 rfl ?_
      refine V_pc (pc' := 160) rfl (R_loc (L' := [(0, .ref (gA (zG Z) 99)), (3, .int (x3 + 1))]) [1, 0] rfl ?_)
      exact ih (up (up (up hp 100 (((1 : Int32) + x3)).toNatClampNeg ((hp 108 (((3 : Int32) * x3)).toNatClampNeg) - (500 : Int32))) 103 (x3).toNatClampNeg ((up hp 100 (((1 : Int32) + x3)).toNatClampNeg ((hp 108 (((3 : Int32) * x3)).toNatClampNeg) - (500 : Int32))) 108 ((((3 : Int32) * x3) + (1 : Int32))).toNatClampNeg)) 104 (x3).toNatClampNeg ((up (up hp 100 (((1 : Int32) + x3)).toNatClampNeg ((hp 108 (((3 : Int32) * x3)).toNatClampNeg) - (500 : Int32))) 103 (x3).toNatClampNeg ((up hp 100 (((1 : Int32) + x3)).toNatClampNeg ((hp 108 (((3 : Int32) * x3)).toNatClampNeg) - (500 : Int32))) 108 ((((3 : Int32) * x3) + (1 : Int32))).toNatClampNeg)) 108 ((((3 : Int32) * x3) + (2 : Int32))).toNatClampNeg)) (x3 + 1) h
set_option maxRecDepth 20000 in
set_option maxHeartbeats 2000000 in
theorem T_Mo_branch_L228 {Z : ZT} (X : CX Z Y_Mo_branch) {p : Int32 × HP} (hR : RetI Z Y_Mo_branch .int p.1 p.2) {K : HP → Option (Int32 × HP)} (hK : ∀ (hp : HP), K hp = some p → V Z Y_Mo_branch hp 254 [(0, .ref (gA (zG Z) 99))] []) : ∀ (n : Nat) (hp : HP) (x3 : Int32), f_Mo_branch_L228 K n hp x3 = some p → V Z Y_Mo_branch hp 228 [(0, .ref (gA (zG Z) 99)), (3, .int x3)] [] := by
  intro n
  induction n with
  | zero =>
    intro hp x3 h
    cases h
  | succ n ih =>
    intro hp x3 h
    replace h : f_Mo_branch_L228 K (n + 1) hp x3 = some p := h
    unfold f_Mo_branch_L228 at h
    refine R_iload_n X 1 d_Mo_branch_228 rfl ?_
    refine R_aload_n X 0 d_Mo_branch_229 rfl ?_
    refine R_getI (ci := 7) X rfl iMo_ok (of_decide_eq_true rfl) rfl 8 rfl rfl tw_679 d_Mo_branch_230 ?_
    refine R_icmp_ge (tgt := 254) X d_Mo_branch_233 rfl (fun c23 => ?_) (fun c23 => ?_)
    · replace h := (if_pos c23).symm.trans h
      refine V_pc (pc' := 254) rfl (R_loc (L' := [(0, .ref (gA (zG Z) 99))]) [0] rfl ?_)
      exact hK hp h
    · replace h := (if_neg c23).symm.trans h
      refine R_aload_n X 0 d_Mo_branch_236 rfl ?_
      refine R_getR (ci := 7) X rfl iMo_ok (of_decide_eq_true rfl) rfl 9 rfl rfl tw_680 d_Mo_branch_237 ?_
      refine R_iload_n X 1 d_Mo_branch_240 rfl ?_
      refine R_aload_n X 0 d_Mo_branch_241 rfl ?_
      refine R_getR (ci := 7) X rfl iMo_ok (of_decide_eq_true rfl) rfl 22 rfl rfl tw_693 d_Mo_branch_242 ?_
      refine V_pc (pc' := 245) rfl ?_
      refine R_iload_n X 1 d_Mo_branch_245 rfl ?_
      obtain ⟨i24, h⟩ := ck h
      refine R_iald (n := 6) X (of_decide_eq_true rfl) rfl i24 d_Mo_branch_246 ?_
      refine R_iast (n := 6) X (of_decide_eq_true rfl) rfl i24 d_Mo_branch_247 ?_
      refine R_iinc (v := (x3 + 1)) (L' := [(3, .int (x3 + 1)), (0, .ref (gA (zG Z) 99))]) X 1 d_Mo_branch_248 rfl rfl (by decide) rfl ?_
      refine R_goto (tgt := 228) X d_Mo_branch_251 rfl ?_
      refine V_pc (pc' := 228) rfl (R_loc (L' := [(0, .ref (gA (zG Z) 99)), (3, .int (x3 + 1))]) [1, 0] rfl ?_)
      exact ih (up hp 105 (x3).toNatClampNeg (hp 109 (x3).toNatClampNeg)) (x3 + 1) h
set_option maxRecDepth 20000 in
set_option maxHeartbeats 2000000 in
theorem T_Mo_branch {Z : ZT} (X : CX Z Y_Mo_branch) {hp : HP} {p : Int32 × HP} (h : f_Mo_branch hp = some p) (hR : RetI Z Y_Mo_branch .int p.1 p.2) : V Z Y_Mo_branch hp 0 [(0, .ref (gA (zG Z) 99))] [] := by
  unfold f_Mo_branch at h
  refine R_aload_n X 0 d_Mo_branch_0 rfl ?_
  refine R_iconst (v := (0 : Int32)) X d_Mo_branch_1 rfl ?_
  refine R_putI (ci := 7) X rfl iMo_ok yMo_ok nMo_ok (of_decide_eq_true rfl) rfl 12 rfl rfl rfl rfl tw_683 d_Mo_branch_2 ?_
  refine R_aload_n X 0 d_Mo_branch_5 rfl ?_
  refine R_iconst (v := (0 : Int32)) X d_Mo_branch_6 rfl ?_
  refine V_pc (pc' := 7) rfl ?_
  refine R_putI (ci := 7) X rfl iMo_ok yMo_ok nMo_ok (of_decide_eq_true rfl) rfl 15 rfl rfl rfl rfl tw_686 d_Mo_branch_7 ?_
  refine R_aload_n X 0 d_Mo_branch_10 rfl ?_
  refine R_iconst (v := (-1 : Int32)) X d_Mo_branch_11 rfl ?_
  refine R_putI (ci := 7) X rfl iMo_ok yMo_ok nMo_ok (of_decide_eq_true rfl) rfl 16 rfl rfl rfl rfl tw_687 d_Mo_branch_12 ?_
  refine R_aload_n X 0 d_Mo_branch_15 rfl ?_
  refine R_iconst (v := (0 : Int32)) X d_Mo_branch_16 rfl ?_
  refine V_pc (pc' := 17) rfl ?_
  refine R_putI (ci := 7) X rfl iMo_ok yMo_ok nMo_ok (of_decide_eq_true rfl) rfl 17 rfl rfl rfl rfl tw_688 d_Mo_branch_17 ?_
  refine R_aload_n X 0 d_Mo_branch_20 rfl ?_
  refine R_iconst (v := (0 : Int32)) X d_Mo_branch_21 rfl ?_
  refine R_putI (ci := 7) X rfl iMo_ok yMo_ok nMo_ok (of_decide_eq_true rfl) rfl 19 rfl rfl rfl rfl tw_690 d_Mo_branch_22 ?_
  refine R_aload_n X 0 d_Mo_branch_25 rfl ?_
  refine R_iconst (v := (0 : Int32)) X d_Mo_branch_26 rfl ?_
  refine V_pc (pc' := 27) rfl ?_
  refine R_putI (ci := 7) X rfl iMo_ok yMo_ok nMo_ok (of_decide_eq_true rfl) rfl 21 rfl rfl rfl rfl tw_692 d_Mo_branch_27 ?_
  refine R_iconst (v := (1 : Int32)) X d_Mo_branch_30 rfl ?_
  refine R_istore_n (L' := [(1, .int (1 : Int32)), (0, .ref (gA (zG Z) 99))]) X d_Mo_branch_31 (by decide) rfl ?_
  refine V_pc (pc' := 32) rfl (R_loc (L' := [(0, .ref (gA (zG Z) 99)), (1, .int (1 : Int32))]) [1, 0] rfl ?_)
  refine T_Mo_branch_L32 X hR (fun hp8 w7 h => ?_) _ (up (up (up (up (up (up hp 99 12 (0 : Int32)) 99 15 (0 : Int32)) 99 16 (-1 : Int32)) 99 17 (0 : Int32)) 99 19 (0 : Int32)) 99 21 (0 : Int32)) (1 : Int32) h
  refine R_aload_n X 0 d_Mo_branch_52 rfl ?_
  refine R_iconst (v := (0 : Int32)) X d_Mo_branch_53 rfl ?_
  refine R_putI (ci := 7) X rfl iMo_ok yMo_ok nMo_ok (of_decide_eq_true rfl) rfl 11 rfl rfl rfl rfl tw_682 d_Mo_branch_54 ?_
  refine R_iload_n X 1 d_Mo_branch_57 rfl ?_
  refine R_ifne (tgt := 69) X d_Mo_branch_58 rfl (fun c9 => ?_) (fun c9 => ?_)
  · replace h := (if_neg c9).symm.trans h
    refine R_aload_n X 0 d_Mo_branch_69 rfl ?_
    refine R_getR (ci := 7) X rfl iMo_ok (of_decide_eq_true rfl) rfl 0 rfl rfl tw_671 d_Mo_branch_70 ?_
    refine R_bipush (v := (31 : Int32)) X d_Mo_branch_73 rfl ?_
    refine R_iald (n := 736) X (of_decide_eq_true rfl) rfl rfl d_Mo_branch_75 ?_
    refine R_istore_n (L' := [(2, .int ((up hp8 99 11 (0 : Int32)) 100 31)), (0, .ref (gA (zG Z) 99)), (1, .int w7)]) X d_Mo_branch_76 (by decide) rfl ?_
    refine V_pc (pc' := 77) rfl ?_
    refine R_iconst (v := (0 : Int32)) X d_Mo_branch_77 rfl ?_
    refine R_istore_n (L' := [(3, .int (0 : Int32)), (2, .int ((up hp8 99 11 (0 : Int32)) 100 31)), (0, .ref (gA (zG Z) 99)), (1, .int w7)]) X d_Mo_branch_78 (by decide) rfl ?_
    refine V_pc (pc' := 79) rfl (R_loc (L' := [(0, .ref (gA (zG Z) 99)), (2, .int ((up hp8 99 11 (0 : Int32)) 100 31)), (3, .int (0 : Int32))]) [2, 1, 0] rfl ?_)
    refine T_Mo_branch_L79 X hR (fun hp12 h => ?_) _ (up hp8 99 11 (0 : Int32)) (0 : Int32) h
    refine R_aload_n X 0 d_Mo_branch_98 rfl ?_
    refine R_getR (ci := 7) X rfl iMo_ok (of_decide_eq_true rfl) rfl 0 rfl rfl tw_671 d_Mo_branch_99 ?_
    refine R_bipush (v := (31 : Int32)) X d_Mo_branch_102 rfl ?_
    refine R_iload_n X 1 d_Mo_branch_104 rfl ?_
    refine R_iast (n := 736) X (of_decide_eq_true rfl) rfl rfl d_Mo_branch_105 ?_
    refine V_pc (pc' := 106) rfl ?_
    refine R_aload_n X 0 d_Mo_branch_106 rfl ?_
    refine R_aload_n X 0 d_Mo_branch_107 rfl ?_
    refine R_getI (ci := 7) X rfl iMo_ok (of_decide_eq_true rfl) rfl 17 rfl rfl tw_688 d_Mo_branch_108 ?_
    refine R_putI (ci := 7) X rfl iMo_ok yMo_ok nMo_ok (of_decide_eq_true rfl) rfl 3 rfl rfl rfl rfl tw_674 d_Mo_branch_111 ?_
    refine R_aload_n X 0 d_Mo_branch_114 rfl ?_
    refine R_aload_n X 0 d_Mo_branch_115 rfl ?_
    refine V_pc (pc' := 116) rfl ?_
    refine R_getI (ci := 7) X rfl iMo_ok (of_decide_eq_true rfl) rfl 19 rfl rfl tw_690 d_Mo_branch_116 ?_
    refine R_putI (ci := 7) X rfl iMo_ok yMo_ok nMo_ok (of_decide_eq_true rfl) rfl 5 rfl rfl rfl rfl tw_676 d_Mo_branch_119 ?_
    refine R_aload_n X 0 d_Mo_branch_122 rfl ?_
    refine R_aload_n X 0 d_Mo_branch_123 rfl ?_
    refine R_getI (ci := 7) X rfl iMo_ok (of_decide_eq_true rfl) rfl 21 rfl rfl tw_692 d_Mo_branch_124 ?_
    refine R_putI (ci := 7) X rfl iMo_ok yMo_ok nMo_ok (of_decide_eq_true rfl) rfl 8 rfl rfl rfl rfl tw_679 d_Mo_branch_127 ?_
    refine V_pc (pc' := 130) rfl ?_
    refine R_iconst (v := (0 : Int32)) X d_Mo_branch_130 rfl ?_
    refine R_istore_n (L' := [(3, .int (0 : Int32)), (0, .ref (gA (zG Z) 99)), (2, .int ((up hp8 99 11 (0 : Int32)) 100 31))]) X d_Mo_branch_131 (by decide) rfl ?_
    refine V_pc (pc' := 132) rfl (R_loc (L' := [(0, .ref (gA (zG Z) 99)), (3, .int (0 : Int32))]) [1, 0] rfl ?_)
    refine T_Mo_branch_L132 X hR (fun hp15 h => ?_) _ (up (up (up (up hp12 100 31 ((up hp8 99 11 (0 : Int32)) 100 31)) 99 3 ((up hp12 100 31 ((up hp8 99 11 (0 : Int32)) 100 31)) 99 17)) 99 5 ((up (up hp12 100 31 ((up hp8 99 11 (0 : Int32)) 100 31)) 99 3 ((up hp12 100 31 ((up hp8 99 11 (0 : Int32)) 100 31)) 99 17)) 99 19)) 99 8 ((up (up (up hp12 100 31 ((up hp8 99 11 (0 : Int32)) 100 31)) 99 3 ((up hp12 100 31 ((up hp8 99 11 (0 : Int32)) 100 31)) 99 17)) 99 5 ((up (up hp12 100 31 ((up hp8 99 11 (0 : Int32)) 100 31)) 99 3 ((up hp12 100 31 ((up hp8 99 11 (0 : Int32)) 100 31)) 99 17)) 99 19)) 99 21)) (0 : Int32) h
    refine R_iconst (v := (0 : Int32)) X d_Mo_branch_158 rfl ?_
    refine R_istore_n (L' := [(3, .int (0 : Int32)), (0, .ref (gA (zG Z) 99))]) X d_Mo_branch_159 (by decide) rfl ?_
    refine V_pc (pc' := 160) rfl (R_loc (L' := [(0, .ref (gA (zG Z) 99)), (3, .int (0 : Int32))]) [1, 0] rfl ?_)
    refine T_Mo_branch_L160 X hR (fun hp22 h => ?_) _ hp15 (0 : Int32) h
    refine R_iconst (v := (0 : Int32)) X d_Mo_branch_226 rfl ?_
    refine R_istore_n (L' := [(3, .int (0 : Int32)), (0, .ref (gA (zG Z) 99))]) X d_Mo_branch_227 (by decide) rfl ?_
    refine V_pc (pc' := 228) rfl (R_loc (L' := [(0, .ref (gA (zG Z) 99)), (3, .int (0 : Int32))]) [1, 0] rfl ?_)
    refine T_Mo_branch_L228 X hR (fun hp25 h => ?_) _ hp22 (0 : Int32) h
    refine R_aload_n X 0 d_Mo_branch_254 rfl ?_
    refine R_iconst (v := (0 : Int32)) X d_Mo_branch_255 rfl ?_
    refine R_putI (ci := 7) X rfl iMo_ok yMo_ok nMo_ok (of_decide_eq_true rfl) rfl 23 rfl rfl rfl rfl tw_694 d_Mo_branch_256 ?_
    refine R_aload_n X 0 d_Mo_branch_259 rfl ?_
    refine R_iconst (v := (0 : Int32)) X d_Mo_branch_260 rfl ?_
    refine V_pc (pc' := 261) rfl ?_
    refine R_putI (ci := 7) X rfl iMo_ok yMo_ok nMo_ok (of_decide_eq_true rfl) rfl 25 rfl rfl rfl rfl tw_696 d_Mo_branch_261 ?_
    refine R_aload_n X 0 d_Mo_branch_264 rfl ?_
    refine R_iconst (v := (0 : Int32)) X d_Mo_branch_265 rfl ?_
    refine R_putI (ci := 7) X rfl iMo_ok yMo_ok nMo_ok (of_decide_eq_true rfl) rfl 29 rfl rfl rfl rfl tw_700 d_Mo_branch_266 ?_
    refine R_aload_n X 0 d_Mo_branch_269 rfl ?_
    refine R_iconst (v := (0 : Int32)) X d_Mo_branch_270 rfl ?_
    refine V_pc (pc' := 271) rfl ?_
    refine R_putI (ci := 7) X rfl iMo_ok yMo_ok nMo_ok (of_decide_eq_true rfl) rfl 32 rfl rfl rfl rfl tw_703 d_Mo_branch_271 ?_
    refine R_aload_n X 0 d_Mo_branch_274 rfl ?_
    refine R_iconst (v := (0 : Int32)) X d_Mo_branch_275 rfl ?_
    refine R_putI (ci := 7) X rfl iMo_ok yMo_ok nMo_ok (of_decide_eq_true rfl) rfl 2 rfl rfl rfl rfl tw_673 d_Mo_branch_276 ?_
    refine R_aload_n X 0 d_Mo_branch_279 rfl ?_
    refine R_getR (ci := 7) X rfl iMo_ok (of_decide_eq_true rfl) rfl 1 rfl rfl tw_672 d_Mo_branch_280 ?_
    refine V_pc (pc' := 283) rfl ?_
    refine R_iconst (v := (0 : Int32)) X d_Mo_branch_283 rfl ?_
    refine R_iconst (v := (0 : Int32)) X d_Mo_branch_284 rfl ?_
    refine R_zast (n := 2) X (of_decide_eq_true rfl) rfl rfl d_Mo_branch_285 ?_
    refine R_aload_n X 0 d_Mo_branch_286 rfl ?_
    refine R_getR (ci := 7) X rfl iMo_ok (of_decide_eq_true rfl) rfl 1 rfl rfl tw_672 d_Mo_branch_287 ?_
    refine R_iconst (v := (1 : Int32)) X d_Mo_branch_290 rfl ?_
    refine V_pc (pc' := 291) rfl ?_
    refine R_iconst (v := (0 : Int32)) X d_Mo_branch_291 rfl ?_
    refine R_zast (n := 2) X (of_decide_eq_true rfl) rfl rfl d_Mo_branch_292 ?_
    refine R_aload_n X 0 d_Mo_branch_293 rfl ?_
    refine R_getI (ci := 7) X rfl iMo_ok (of_decide_eq_true rfl) rfl 5 rfl rfl tw_676 d_Mo_branch_294 ?_
    exact R_ret hR h d_Mo_branch_297
  · replace h := (if_pos c9).symm.trans h
    refine R_bipush (v := (-10 : Int32)) X d_Mo_branch_61 rfl ?_
    refine R_aload_n X 0 d_Mo_branch_63 rfl ?_
    refine R_getI (ci := 7) X rfl iMo_ok (of_decide_eq_true rfl) rfl 15 rfl rfl tw_686 d_Mo_branch_64 ?_
    refine R_isub X d_Mo_branch_67 ?_
    exact R_ret hR h d_Mo_branch_68
theorem M_Mo_branch {G : GT} {hp : HP} {p : Int32 × HP} (h : f_Mo_branch hp = some p) : MI G y_Mo_branch Y_Mo_branch .int [.ref (gA G 99)] hp p.1 p.2 := MI_of rfl (fun Z hz X hR => by subst hz; exact T_Mo_branch X h hR)
theorem d_Mo_fault_0 : decode prog_9_method_22_code 0 = .ok (.aload_n 0, 1) := by decide +kernel
theorem d_Mo_fault_1 : decode prog_9_method_22_code 1 = .ok (.getfield 32, 3) := by decide +kernel
theorem d_Mo_fault_4 : decode prog_9_method_22_code 4 = .ok (.ireturn, 1) := by decide +kernel
set_option maxRecDepth 20000 in
set_option maxHeartbeats 2000000 in
theorem T_Mo_fault {Z : ZT} (X : CX Z Y_Mo_fault) {hp : HP} {p : Int32 × HP} (h : f_Mo_fault hp = some p) (hR : RetI Z Y_Mo_fault .int p.1 p.2) : V Z Y_Mo_fault hp 0 [(0, .ref (gA (zG Z) 99))] [] := by
  unfold f_Mo_fault at h
  refine R_aload_n X 0 d_Mo_fault_0 rfl ?_
  refine R_getI (ci := 7) X rfl iMo_ok (of_decide_eq_true rfl) rfl 16 rfl rfl tw_687 d_Mo_fault_1 ?_
  exact R_ret hR h d_Mo_fault_4
theorem M_Mo_fault {G : GT} {hp : HP} {p : Int32 × HP} (h : f_Mo_fault hp = some p) : MI G y_Mo_fault Y_Mo_fault .int [.ref (gA G 99)] hp p.1 p.2 := MI_of rfl (fun Z hz X hR => by subst hz; exact T_Mo_fault X h hR)
theorem d_Mo_thereBy_0 : decode prog_9_method_23_code 0 = .ok (.iconst 0, 1) := by decide +kernel
theorem d_Mo_thereBy_1 : decode prog_9_method_23_code 1 = .ok (.istore_n 2, 1) := by decide +kernel
theorem d_Mo_thereBy_2 : decode prog_9_method_23_code 2 = .ok (.iconst 0, 1) := by decide +kernel
theorem d_Mo_thereBy_3 : decode prog_9_method_23_code 3 = .ok (.istore_n 3, 1) := by decide +kernel
theorem d_Mo_thereBy_4 : decode prog_9_method_23_code 4 = .ok (.iload_n 3, 1) := by decide +kernel
theorem d_Mo_thereBy_5 : decode prog_9_method_23_code 5 = .ok (.aload_n 0, 1) := by decide +kernel
theorem d_Mo_thereBy_6 : decode prog_9_method_23_code 6 = .ok (.getfield 69, 3) := by decide +kernel
theorem d_Mo_thereBy_9 : decode prog_9_method_23_code 9 = .ok (.if_icmp .ge (33), 3) := by decide +kernel
theorem d_Mo_thereBy_12 : decode prog_9_method_23_code 12 = .ok (.iload_n 2, 1) := by decide +kernel
theorem d_Mo_thereBy_13 : decode prog_9_method_23_code 13 = .ok (.aload_n 0, 1) := by decide +kernel
theorem d_Mo_thereBy_14 : decode prog_9_method_23_code 14 = .ok (.getfield 17, 3) := by decide +kernel
theorem d_Mo_thereBy_17 : decode prog_9_method_23_code 17 = .ok (.iload_n 3, 1) := by decide +kernel
theorem d_Mo_thereBy_18 : decode prog_9_method_23_code 18 = .ok (.iaload, 1) := by decide +kernel
theorem d_Mo_thereBy_19 : decode prog_9_method_23_code 19 = .ok (.sipush (500), 3) := by decide +kernel
theorem d_Mo_thereBy_22 : decode prog_9_method_23_code 22 = .ok (.isub, 1) := by decide +kernel
theorem d_Mo_thereBy_23 : decode prog_9_method_23_code 23 = .ok (.iload_n 1, 1) := by decide +kernel
theorem d_Mo_thereBy_24 : decode prog_9_method_23_code 24 = .ok (.if_icmp .gt (9), 3) := by decide +kernel
theorem d_Mo_thereBy_27 : decode prog_9_method_23_code 27 = .ok (.iconst 1, 1) := by decide +kernel
theorem d_Mo_thereBy_28 : decode prog_9_method_23_code 28 = .ok (.iload_n 3, 1) := by decide +kernel
theorem d_Mo_thereBy_29 : decode prog_9_method_23_code 29 = .ok (.ishl, 1) := by decide +kernel
theorem d_Mo_thereBy_30 : decode prog_9_method_23_code 30 = .ok (.goto (4), 3) := by decide +kernel
theorem d_Mo_thereBy_33 : decode prog_9_method_23_code 33 = .ok (.iconst 0, 1) := by decide +kernel
theorem d_Mo_thereBy_34 : decode prog_9_method_23_code 34 = .ok (.ior, 1) := by decide +kernel
theorem d_Mo_thereBy_35 : decode prog_9_method_23_code 35 = .ok (.istore_n 2, 1) := by decide +kernel
theorem d_Mo_thereBy_36 : decode prog_9_method_23_code 36 = .ok (.iinc 3 (1), 3) := by decide +kernel
theorem d_Mo_thereBy_39 : decode prog_9_method_23_code 39 = .ok (.goto (-35), 3) := by decide +kernel
theorem d_Mo_thereBy_42 : decode prog_9_method_23_code 42 = .ok (.iload_n 2, 1) := by decide +kernel
theorem d_Mo_thereBy_43 : decode prog_9_method_23_code 43 = .ok (.ireturn, 1) := by decide +kernel
set_option maxRecDepth 20000 in
set_option maxHeartbeats 2000000 in
theorem T_Mo_thereBy_L4 {Z : ZT} (X : CX Z Y_Mo_thereBy) {v1 : Int32} {p : Int32 × HP} (hR : RetI Z Y_Mo_thereBy .int p.1 p.2) {K : HP → Int32 → Option (Int32 × HP)} (hK : ∀ (hp : HP) (x2 : Int32), K hp x2 = some p → V Z Y_Mo_thereBy hp 42 [(2, .int x2)] []) : ∀ (n : Nat) (hp : HP) (x2 : Int32) (x3 : Int32), f_Mo_thereBy_L4 v1 K n hp x2 x3 = some p → V Z Y_Mo_thereBy hp 4 [(0, .ref (gA (zG Z) 99)), (1, .int v1), (2, .int x2), (3, .int x3)] [] := by
  intro n
  induction n with
  | zero =>
    intro hp x2 x3 h
    cases h
  | succ n ih =>
    intro hp x2 x3 h
    replace h : f_Mo_thereBy_L4 v1 K (n + 1) hp x2 x3 = some p := h
    unfold f_Mo_thereBy_L4 at h
    refine R_iload_n X 3 d_Mo_thereBy_4 rfl ?_
    refine R_aload_n X 0 d_Mo_thereBy_5 rfl ?_
    refine R_getI (ci := 7) X rfl iMo_ok (of_decide_eq_true rfl) rfl 3 rfl rfl tw_674 d_Mo_thereBy_6 ?_
    refine R_icmp_ge (tgt := 42) X d_Mo_thereBy_9 rfl (fun c1 => ?_) (fun c1 => ?_)
    · replace h := (if_pos c1).symm.trans h
      refine V_pc (pc' := 42) rfl (R_loc (L' := [(2, .int x2)]) [2] rfl ?_)
      exact hK hp x2 h
    · replace h := (if_neg c1).symm.trans h
      refine R_iload_n X 2 d_Mo_thereBy_12 rfl ?_
      refine R_aload_n X 0 d_Mo_thereBy_13 rfl ?_
      refine R_getR (ci := 7) X rfl iMo_ok (of_decide_eq_true rfl) rfl 4 rfl rfl tw_675 d_Mo_thereBy_14 ?_
      refine R_iload_n X 3 d_Mo_thereBy_17 rfl ?_
      obtain ⟨i2, h⟩ := ck h
      refine R_iald (n := 8) X (of_decide_eq_true rfl) rfl i2 d_Mo_thereBy_18 ?_
      refine V_pc (pc' := 19) rfl ?_
      refine R_sipush (v := (500 : Int32)) X d_Mo_thereBy_19 rfl ?_
      refine R_isub X d_Mo_thereBy_22 ?_
      refine R_iload_n X 1 d_Mo_thereBy_23 rfl ?_
      refine R_icmp_gt (tgt := 33) X d_Mo_thereBy_24 rfl (fun c3 => ?_) (fun c3 => ?_)
      · replace h := (if_pos c3).symm.trans h
        refine R_iconst (v := (0 : Int32)) X d_Mo_thereBy_33 rfl ?_
        refine R_ior X d_Mo_thereBy_34 ?_
        refine R_istore_n (L' := [(2, .int (x2 ||| (0 : Int32))), (0, .ref (gA (zG Z) 99)), (1, .int v1), (3, .int x3)]) X d_Mo_thereBy_35 (by decide) rfl ?_
        refine R_iinc (v := (x3 + 1)) (L' := [(3, .int (x3 + 1)), (2, .int (x2 ||| (0 : Int32))), (0, .ref (gA (zG Z) 99)), (1, .int v1)]) X 3 d_Mo_thereBy_36 rfl rfl (by decide) rfl ?_
        refine R_goto (tgt := 4) X d_Mo_thereBy_39 rfl ?_
        refine V_pc (pc' := 4) rfl (R_loc (L' := [(0, .ref (gA (zG Z) 99)), (1, .int v1), (2, .int (x2 ||| (0 : Int32))), (3, .int (x3 + 1))]) [2, 3, 1, 0] rfl ?_)
        exact ih hp (x2 ||| (0 : Int32)) (x3 + 1) h
      · replace h := (if_neg c3).symm.trans h
        refine R_iconst (v := (1 : Int32)) X d_Mo_thereBy_27 rfl ?_
        refine R_iload_n X 3 d_Mo_thereBy_28 rfl ?_
        refine R_ishl X d_Mo_thereBy_29 ?_
        refine R_goto (tgt := 34) X d_Mo_thereBy_30 rfl ?_
        refine R_ior X d_Mo_thereBy_34 ?_
        refine V_pc (pc' := 35) rfl ?_
        refine R_istore_n (L' := [(2, .int (x2 ||| ((1 : Int32) <<< (x3 &&& 31)))), (0, .ref (gA (zG Z) 99)), (1, .int v1), (3, .int x3)]) X d_Mo_thereBy_35 (by decide) rfl ?_
        refine R_iinc (v := (x3 + 1)) (L' := [(3, .int (x3 + 1)), (2, .int (x2 ||| ((1 : Int32) <<< (x3 &&& 31)))), (0, .ref (gA (zG Z) 99)), (1, .int v1)]) X 3 d_Mo_thereBy_36 rfl rfl (by decide) rfl ?_
        refine R_goto (tgt := 4) X d_Mo_thereBy_39 rfl ?_
        refine V_pc (pc' := 4) rfl (R_loc (L' := [(0, .ref (gA (zG Z) 99)), (1, .int v1), (2, .int (x2 ||| ((1 : Int32) <<< (x3 &&& 31)))), (3, .int (x3 + 1))]) [2, 3, 1, 0] rfl ?_)
        exact ih hp (x2 ||| ((1 : Int32) <<< (x3 &&& 31))) (x3 + 1) h
set_option maxRecDepth 20000 in
set_option maxHeartbeats 2000000 in
theorem T_Mo_thereBy {Z : ZT} (X : CX Z Y_Mo_thereBy) {hp : HP} {a1 : Int32} {p : Int32 × HP} (h : f_Mo_thereBy hp a1 = some p) (hR : RetI Z Y_Mo_thereBy .int p.1 p.2) : V Z Y_Mo_thereBy hp 0 [(0, .ref (gA (zG Z) 99)), (1, .int a1)] [] := by
  unfold f_Mo_thereBy at h
  refine R_iconst (v := (0 : Int32)) X d_Mo_thereBy_0 rfl ?_
  refine R_istore_n (L' := [(2, .int (0 : Int32)), (0, .ref (gA (zG Z) 99)), (1, .int a1)]) X d_Mo_thereBy_1 (by decide) rfl ?_
  refine R_iconst (v := (0 : Int32)) X d_Mo_thereBy_2 rfl ?_
  refine R_istore_n (L' := [(3, .int (0 : Int32)), (2, .int (0 : Int32)), (0, .ref (gA (zG Z) 99)), (1, .int a1)]) X d_Mo_thereBy_3 (by decide) rfl ?_
  refine V_pc (pc' := 4) rfl (R_loc (L' := [(0, .ref (gA (zG Z) 99)), (1, .int a1), (2, .int (0 : Int32)), (3, .int (0 : Int32))]) [2, 3, 1, 0] rfl ?_)
  refine T_Mo_thereBy_L4 X hR (fun hp5 w4 h => ?_) _ hp (0 : Int32) (0 : Int32) h
  refine R_iload_n X 0 d_Mo_thereBy_42 rfl ?_
  exact R_ret hR h d_Mo_thereBy_43
theorem M_Mo_thereBy {G : GT} {hp : HP} {a1 : Int32} {p : Int32 × HP} (h : f_Mo_thereBy hp a1 = some p) : MI G y_Mo_thereBy Y_Mo_thereBy .int [.ref (gA G 99), .int a1] hp p.1 p.2 := MI_of rfl (fun Z hz X hR => by subst hz; exact T_Mo_thereBy X h hR)
theorem d_Mo_thereOf_0 : decode prog_9_method_24_code 0 = .ok (.aload_n 0, 1) := by decide +kernel
theorem d_Mo_thereOf_1 : decode prog_9_method_24_code 1 = .ok (.aload_n 0, 1) := by decide +kernel
theorem d_Mo_thereOf_2 : decode prog_9_method_24_code 2 = .ok (.getfield 7, 3) := by decide +kernel
theorem d_Mo_thereOf_5 : decode prog_9_method_24_code 5 = .ok (.iconst 1, 1) := by decide +kernel
theorem d_Mo_thereOf_6 : decode prog_9_method_24_code 6 = .ok (.iload_n 1, 1) := by decide +kernel
theorem d_Mo_thereOf_7 : decode prog_9_method_24_code 7 = .ok (.iadd, 1) := by decide +kernel
theorem d_Mo_thereOf_8 : decode prog_9_method_24_code 8 = .ok (.iaload, 1) := by decide +kernel
theorem d_Mo_thereOf_9 : decode prog_9_method_24_code 9 = .ok (.invokevirtual 164, 3) := by decide +kernel
theorem d_Mo_thereOf_12 : decode prog_9_method_24_code 12 = .ok (.ireturn, 1) := by decide +kernel
set_option maxRecDepth 20000 in
set_option maxHeartbeats 2000000 in
theorem T_Mo_thereOf {Z : ZT} (X : CX Z Y_Mo_thereOf) {hp : HP} {a1 : Int32} {p : Int32 × HP} (h : f_Mo_thereOf hp a1 = some p) (hR : RetI Z Y_Mo_thereOf .int p.1 p.2) : V Z Y_Mo_thereOf hp 0 [(0, .ref (gA (zG Z) 99)), (1, .int a1)] [] := by
  unfold f_Mo_thereOf at h
  refine R_aload_n X 0 d_Mo_thereOf_0 rfl ?_
  refine R_aload_n X 0 d_Mo_thereOf_1 rfl ?_
  refine R_getR (ci := 7) X rfl iMo_ok (of_decide_eq_true rfl) rfl 0 rfl rfl tw_671 d_Mo_thereOf_2 ?_
  refine R_iconst (v := (1 : Int32)) X d_Mo_thereOf_5 rfl ?_
  refine R_iload_n X 1 d_Mo_thereOf_6 rfl ?_
  refine V_pc (pc' := 7) rfl ?_
  refine R_iadd X d_Mo_thereOf_7 ?_
  obtain ⟨i1, h⟩ := ck h
  refine R_iald (n := 736) X (of_decide_eq_true rfl) rfl i1 d_Mo_thereOf_8 ?_
  obtain ⟨p3, e2, h⟩ := ob h
  refine R_vcall (ci := 7) (k := 99) (As := [.int (hp 100 (((1 : Int32) + a1)).toNatClampNeg)]) (st := []) X (M_Mo_thereBy e2) tw_845 cf_Mo_thereBy (of_decide_eq_true rfl) rfl rfl rfl rfl rfl d_Mo_thereOf_9 ?_
  exact R_ret hR h d_Mo_thereOf_12
theorem M_Mo_thereOf {G : GT} {hp : HP} {a1 : Int32} {p : Int32 × HP} (h : f_Mo_thereOf hp a1 = some p) : MI G y_Mo_thereOf Y_Mo_thereOf .int [.ref (gA G 99), .int a1] hp p.1 p.2 := MI_of rfl (fun Z hz X hR => by subst hz; exact T_Mo_thereOf X h hR)
theorem d_Mo_whole_0 : decode prog_9_method_25_code 0 = .ok (.iconst 1, 1) := by decide +kernel
theorem d_Mo_whole_1 : decode prog_9_method_25_code 1 = .ok (.aload_n 0, 1) := by decide +kernel
theorem d_Mo_whole_2 : decode prog_9_method_25_code 2 = .ok (.getfield 69, 3) := by decide +kernel
theorem d_Mo_whole_5 : decode prog_9_method_25_code 5 = .ok (.ishl, 1) := by decide +kernel
theorem d_Mo_whole_6 : decode prog_9_method_25_code 6 = .ok (.iconst 1, 1) := by decide +kernel
theorem d_Mo_whole_7 : decode prog_9_method_25_code 7 = .ok (.isub, 1) := by decide +kernel
theorem d_Mo_whole_8 : decode prog_9_method_25_code 8 = .ok (.ireturn, 1) := by decide +kernel
set_option maxRecDepth 20000 in
set_option maxHeartbeats 2000000 in
theorem T_Mo_whole {Z : ZT} (X : CX Z Y_Mo_whole) {hp : HP} {p : Int32 × HP} (h : f_Mo_whole hp = some p) (hR : RetI Z Y_Mo_whole .int p.1 p.2) : V Z Y_Mo_whole hp 0 [(0, .ref (gA (zG Z) 99))] [] := by
  unfold f_Mo_whole at h
  refine R_iconst (v := (1 : Int32)) X d_Mo_whole_0 rfl ?_
  refine R_aload_n X 0 d_Mo_whole_1 rfl ?_
  refine R_getI (ci := 7) X rfl iMo_ok (of_decide_eq_true rfl) rfl 3 rfl rfl tw_674 d_Mo_whole_2 ?_
  refine R_ishl X d_Mo_whole_5 ?_
  refine R_iconst (v := (1 : Int32)) X d_Mo_whole_6 rfl ?_
  refine V_pc (pc' := 7) rfl ?_
  refine R_isub X d_Mo_whole_7 ?_
  exact R_ret hR h d_Mo_whole_8
theorem M_Mo_whole {G : GT} {hp : HP} {p : Int32 × HP} (h : f_Mo_whole hp = some p) : MI G y_Mo_whole Y_Mo_whole .int [.ref (gA G 99)] hp p.1 p.2 := MI_of rfl (fun Z hz X hR => by subst hz; exact T_Mo_whole X h hR)
theorem d_Mo_hats_0 : decode prog_9_method_26_code 0 = .ok (.iconst 0, 1) := by decide +kernel
theorem d_Mo_hats_1 : decode prog_9_method_26_code 1 = .ok (.istore_n 1, 1) := by decide +kernel
theorem d_Mo_hats_2 : decode prog_9_method_26_code 2 = .ok (.iconst 0, 1) := by decide +kernel
theorem d_Mo_hats_3 : decode prog_9_method_26_code 3 = .ok (.istore_n 2, 1) := by decide +kernel
theorem d_Mo_hats_4 : decode prog_9_method_26_code 4 = .ok (.iload_n 2, 1) := by decide +kernel
theorem d_Mo_hats_5 : decode prog_9_method_26_code 5 = .ok (.aload_n 0, 1) := by decide +kernel
theorem d_Mo_hats_6 : decode prog_9_method_26_code 6 = .ok (.getfield 76, 3) := by decide +kernel
theorem d_Mo_hats_9 : decode prog_9_method_26_code 9 = .ok (.if_icmp .ge (27), 3) := by decide +kernel
theorem d_Mo_hats_12 : decode prog_9_method_26_code 12 = .ok (.iload_n 1, 1) := by decide +kernel
theorem d_Mo_hats_13 : decode prog_9_method_26_code 13 = .ok (.aload_n 0, 1) := by decide +kernel
theorem d_Mo_hats_14 : decode prog_9_method_26_code 14 = .ok (.iload_n 2, 1) := by decide +kernel
theorem d_Mo_hats_15 : decode prog_9_method_26_code 15 = .ok (.invokevirtual 167, 3) := by decide +kernel
theorem d_Mo_hats_18 : decode prog_9_method_26_code 18 = .ok (.ifCond .ne (9), 3) := by decide +kernel
theorem d_Mo_hats_21 : decode prog_9_method_26_code 21 = .ok (.iconst 1, 1) := by decide +kernel
theorem d_Mo_hats_22 : decode prog_9_method_26_code 22 = .ok (.iload_n 2, 1) := by decide +kernel
theorem d_Mo_hats_23 : decode prog_9_method_26_code 23 = .ok (.ishl, 1) := by decide +kernel
theorem d_Mo_hats_24 : decode prog_9_method_26_code 24 = .ok (.goto (4), 3) := by decide +kernel
theorem d_Mo_hats_27 : decode prog_9_method_26_code 27 = .ok (.iconst 0, 1) := by decide +kernel
theorem d_Mo_hats_28 : decode prog_9_method_26_code 28 = .ok (.ior, 1) := by decide +kernel
theorem d_Mo_hats_29 : decode prog_9_method_26_code 29 = .ok (.istore_n 1, 1) := by decide +kernel
theorem d_Mo_hats_30 : decode prog_9_method_26_code 30 = .ok (.iinc 2 (1), 3) := by decide +kernel
theorem d_Mo_hats_33 : decode prog_9_method_26_code 33 = .ok (.goto (-29), 3) := by decide +kernel
theorem d_Mo_hats_36 : decode prog_9_method_26_code 36 = .ok (.iload_n 1, 1) := by decide +kernel
theorem d_Mo_hats_37 : decode prog_9_method_26_code 37 = .ok (.ireturn, 1) := by decide +kernel
set_option maxRecDepth 20000 in
set_option maxHeartbeats 2000000 in
theorem T_Mo_hats_L4 {Z : ZT} (X : CX Z Y_Mo_hats) {p : Int32 × HP} (hR : RetI Z Y_Mo_hats .int p.1 p.2) {K : HP → Int32 → Option (Int32 × HP)} (hK : ∀ (hp : HP) (x1 : Int32), K hp x1 = some p → V Z Y_Mo_hats hp 36 [(1, .int x1)] []) : ∀ (n : Nat) (hp : HP) (x1 : Int32) (x2 : Int32), f_Mo_hats_L4 K n hp x1 x2 = some p → V Z Y_Mo_hats hp 4 [(0, .ref (gA (zG Z) 99)), (1, .int x1), (2, .int x2)] [] := by
  intro n
  induction n with
  | zero =>
    intro hp x1 x2 h
    cases h
  | succ n ih =>
    intro hp x1 x2 h
    replace h : f_Mo_hats_L4 K (n + 1) hp x1 x2 = some p := h
    unfold f_Mo_hats_L4 at h
    refine R_iload_n X 2 d_Mo_hats_4 rfl ?_
    refine R_aload_n X 0 d_Mo_hats_5 rfl ?_
    refine R_getI (ci := 7) X rfl iMo_ok (of_decide_eq_true rfl) rfl 5 rfl rfl tw_676 d_Mo_hats_6 ?_
    refine R_icmp_ge (tgt := 36) X d_Mo_hats_9 rfl (fun c1 => ?_) (fun c1 => ?_)
    · replace h := (if_pos c1).symm.trans h
      refine V_pc (pc' := 36) rfl (R_loc (L' := [(1, .int x1)]) [1] rfl ?_)
      exact hK hp x1 h
    · replace h := (if_neg c1).symm.trans h
      refine R_iload_n X 1 d_Mo_hats_12 rfl ?_
      refine R_aload_n X 0 d_Mo_hats_13 rfl ?_
      refine R_iload_n X 2 d_Mo_hats_14 rfl ?_
      obtain ⟨p3, e2, h⟩ := ob h
      refine R_vcall (ci := 7) (k := 99) (As := [.int x2]) (st := [.int x1]) X (M_Mo_thereOf e2) tw_841 cf_Mo_thereOf (of_decide_eq_true rfl) rfl rfl rfl rfl rfl d_Mo_hats_15 ?_
      refine R_ifne (tgt := 27) X d_Mo_hats_18 rfl (fun c4 => ?_) (fun c4 => ?_)
      · replace h := (if_neg c4).symm.trans h
        refine R_iconst (v := (0 : Int32)) X d_Mo_hats_27 rfl ?_
        refine R_ior X d_Mo_hats_28 ?_
        refine R_istore_n (L' := [(1, .int (x1 ||| (0 : Int32))), (0, .ref (gA (zG Z) 99)), (2, .int x2)]) X d_Mo_hats_29 (by decide) rfl ?_
        refine R_iinc (v := (x2 + 1)) (L' := [(2, .int (x2 + 1)), (1, .int (x1 ||| (0 : Int32))), (0, .ref (gA (zG Z) 99))]) X 2 d_Mo_hats_30 rfl rfl (by decide) rfl ?_
        refine R_goto (tgt := 4) X d_Mo_hats_33 rfl ?_
        refine V_pc (pc' := 4) rfl (R_loc (L' := [(0, .ref (gA (zG Z) 99)), (1, .int (x1 ||| (0 : Int32))), (2, .int (x2 + 1))]) [2, 1, 0] rfl ?_)
        exact ih p3.2 (x1 ||| (0 : Int32)) (x2 + 1) h
      · replace h := (if_pos c4).symm.trans h
        refine R_iconst (v := (1 : Int32)) X d_Mo_hats_21 rfl ?_
        refine R_iload_n X 2 d_Mo_hats_22 rfl ?_
        refine R_ishl X d_Mo_hats_23 ?_
        refine R_goto (tgt := 28) X d_Mo_hats_24 rfl ?_
        refine R_ior X d_Mo_hats_28 ?_
        refine V_pc (pc' := 29) rfl ?_
        refine R_istore_n (L' := [(1, .int (x1 ||| ((1 : Int32) <<< (x2 &&& 31)))), (0, .ref (gA (zG Z) 99)), (2, .int x2)]) X d_Mo_hats_29 (by decide) rfl ?_
        refine R_iinc (v := (x2 + 1)) (L' := [(2, .int (x2 + 1)), (1, .int (x1 ||| ((1 : Int32) <<< (x2 &&& 31)))), (0, .ref (gA (zG Z) 99))]) X 2 d_Mo_hats_30 rfl rfl (by decide) rfl ?_
        refine R_goto (tgt := 4) X d_Mo_hats_33 rfl ?_
        refine V_pc (pc' := 4) rfl (R_loc (L' := [(0, .ref (gA (zG Z) 99)), (1, .int (x1 ||| ((1 : Int32) <<< (x2 &&& 31)))), (2, .int (x2 + 1))]) [2, 1, 0] rfl ?_)
        exact ih p3.2 (x1 ||| ((1 : Int32) <<< (x2 &&& 31))) (x2 + 1) h
set_option maxRecDepth 20000 in
set_option maxHeartbeats 2000000 in
theorem T_Mo_hats {Z : ZT} (X : CX Z Y_Mo_hats) {hp : HP} {p : Int32 × HP} (h : f_Mo_hats hp = some p) (hR : RetI Z Y_Mo_hats .int p.1 p.2) : V Z Y_Mo_hats hp 0 [(0, .ref (gA (zG Z) 99))] [] := by
  unfold f_Mo_hats at h
  refine R_iconst (v := (0 : Int32)) X d_Mo_hats_0 rfl ?_
  refine R_istore_n (L' := [(1, .int (0 : Int32)), (0, .ref (gA (zG Z) 99))]) X d_Mo_hats_1 (by decide) rfl ?_
  refine R_iconst (v := (0 : Int32)) X d_Mo_hats_2 rfl ?_
  refine R_istore_n (L' := [(2, .int (0 : Int32)), (1, .int (0 : Int32)), (0, .ref (gA (zG Z) 99))]) X d_Mo_hats_3 (by decide) rfl ?_
  refine V_pc (pc' := 4) rfl (R_loc (L' := [(0, .ref (gA (zG Z) 99)), (1, .int (0 : Int32)), (2, .int (0 : Int32))]) [2, 1, 0] rfl ?_)
  refine T_Mo_hats_L4 X hR (fun hp6 w5 h => ?_) _ hp (0 : Int32) (0 : Int32) h
  refine R_iload_n X 0 d_Mo_hats_36 rfl ?_
  exact R_ret hR h d_Mo_hats_37
theorem M_Mo_hats {G : GT} {hp : HP} {p : Int32 × HP} (h : f_Mo_hats hp = some p) : MI G y_Mo_hats Y_Mo_hats .int [.ref (gA G 99)] hp p.1 p.2 := MI_of rfl (fun Z hz X hR => by subst hz; exact T_Mo_hats X h hR)
theorem d_Mo_net_0 : decode prog_9_method_27_code 0 = .ok (.iconst 0, 1) := by decide +kernel
theorem d_Mo_net_1 : decode prog_9_method_27_code 1 = .ok (.istore_n 2, 1) := by decide +kernel
theorem d_Mo_net_2 : decode prog_9_method_27_code 2 = .ok (.iconst 0, 1) := by decide +kernel
theorem d_Mo_net_3 : decode prog_9_method_27_code 3 = .ok (.istore_n 3, 1) := by decide +kernel
theorem d_Mo_net_4 : decode prog_9_method_27_code 4 = .ok (.iload_n 3, 1) := by decide +kernel
theorem d_Mo_net_5 : decode prog_9_method_27_code 5 = .ok (.aload_n 0, 1) := by decide +kernel
theorem d_Mo_net_6 : decode prog_9_method_27_code 6 = .ok (.getfield 76, 3) := by decide +kernel
theorem d_Mo_net_9 : decode prog_9_method_27_code 9 = .ok (.if_icmp .ge (25), 3) := by decide +kernel
theorem d_Mo_net_12 : decode prog_9_method_27_code 12 = .ok (.iload_n 2, 1) := by decide +kernel
theorem d_Mo_net_13 : decode prog_9_method_27_code 13 = .ok (.aload_n 0, 1) := by decide +kernel
theorem d_Mo_net_14 : decode prog_9_method_27_code 14 = .ok (.getfield 7, 3) := by decide +kernel
theorem d_Mo_net_17 : decode prog_9_method_27_code 17 = .ok (.bipush (6), 2) := by decide +kernel
theorem d_Mo_net_19 : decode prog_9_method_27_code 19 = .ok (.iconst 5, 1) := by decide +kernel
theorem d_Mo_net_20 : decode prog_9_method_27_code 20 = .ok (.iload_n 1, 1) := by decide +kernel
theorem d_Mo_net_21 : decode prog_9_method_27_code 21 = .ok (.imul, 1) := by decide +kernel
theorem d_Mo_net_22 : decode prog_9_method_27_code 22 = .ok (.iadd, 1) := by decide +kernel
theorem d_Mo_net_23 : decode prog_9_method_27_code 23 = .ok (.iload_n 3, 1) := by decide +kernel
theorem d_Mo_net_24 : decode prog_9_method_27_code 24 = .ok (.iadd, 1) := by decide +kernel
theorem d_Mo_net_25 : decode prog_9_method_27_code 25 = .ok (.iaload, 1) := by decide +kernel
theorem d_Mo_net_26 : decode prog_9_method_27_code 26 = .ok (.isub, 1) := by decide +kernel
theorem d_Mo_net_27 : decode prog_9_method_27_code 27 = .ok (.istore_n 2, 1) := by decide +kernel
theorem d_Mo_net_28 : decode prog_9_method_27_code 28 = .ok (.iinc 3 (1), 3) := by decide +kernel
theorem d_Mo_net_31 : decode prog_9_method_27_code 31 = .ok (.goto (-27), 3) := by decide +kernel
theorem d_Mo_net_34 : decode prog_9_method_27_code 34 = .ok (.iload_n 2, 1) := by decide +kernel
theorem d_Mo_net_35 : decode prog_9_method_27_code 35 = .ok (.ireturn, 1) := by decide +kernel
set_option maxRecDepth 20000 in
set_option maxHeartbeats 2000000 in
theorem T_Mo_net_L4 {Z : ZT} (X : CX Z Y_Mo_net) {v1 : Int32} {p : Int32 × HP} (hR : RetI Z Y_Mo_net .int p.1 p.2) {K : HP → Int32 → Option (Int32 × HP)} (hK : ∀ (hp : HP) (x2 : Int32), K hp x2 = some p → V Z Y_Mo_net hp 34 [(2, .int x2)] []) : ∀ (n : Nat) (hp : HP) (x2 : Int32) (x3 : Int32), f_Mo_net_L4 v1 K n hp x2 x3 = some p → V Z Y_Mo_net hp 4 [(0, .ref (gA (zG Z) 99)), (1, .int v1), (2, .int x2), (3, .int x3)] [] := by
  intro n
  induction n with
  | zero =>
    intro hp x2 x3 h
    cases h
  | succ n ih =>
    intro hp x2 x3 h
    replace h : f_Mo_net_L4 v1 K (n + 1) hp x2 x3 = some p := h
    unfold f_Mo_net_L4 at h
    refine R_iload_n X 3 d_Mo_net_4 rfl ?_
    refine R_aload_n X 0 d_Mo_net_5 rfl ?_
    refine R_getI (ci := 7) X rfl iMo_ok (of_decide_eq_true rfl) rfl 5 rfl rfl tw_676 d_Mo_net_6 ?_
    refine R_icmp_ge (tgt := 34) X d_Mo_net_9 rfl (fun c1 => ?_) (fun c1 => ?_)
    · replace h := (if_pos c1).symm.trans h
      refine V_pc (pc' := 34) rfl (R_loc (L' := [(2, .int x2)]) [2] rfl ?_)
      exact hK hp x2 h
    · replace h := (if_neg c1).symm.trans h
      refine R_iload_n X 2 d_Mo_net_12 rfl ?_
      refine R_aload_n X 0 d_Mo_net_13 rfl ?_
      refine R_getR (ci := 7) X rfl iMo_ok (of_decide_eq_true rfl) rfl 0 rfl rfl tw_671 d_Mo_net_14 ?_
      refine R_bipush (v := (6 : Int32)) X d_Mo_net_17 rfl ?_
      refine R_iconst (v := (5 : Int32)) X d_Mo_net_19 rfl ?_
      refine V_pc (pc' := 20) rfl ?_
      refine R_iload_n X 1 d_Mo_net_20 rfl ?_
      refine R_imul X d_Mo_net_21 ?_
      refine R_iadd X d_Mo_net_22 ?_
      refine R_iload_n X 3 d_Mo_net_23 rfl ?_
      refine R_iadd X d_Mo_net_24 ?_
      obtain ⟨i2, h⟩ := ck h
      refine R_iald (n := 736) X (of_decide_eq_true rfl) rfl i2 d_Mo_net_25 ?_
      refine V_pc (pc' := 26) rfl ?_
      refine R_isub X d_Mo_net_26 ?_
      refine R_istore_n (L' := [(2, .int (x2 - (hp 100 ((((6 : Int32) + ((5 : Int32) * v1)) + x3)).toNatClampNeg))), (0, .ref (gA (zG Z) 99)), (1, .int v1), (3, .int x3)]) X d_Mo_net_27 (by decide) rfl ?_
      refine R_iinc (v := (x3 + 1)) (L' := [(3, .int (x3 + 1)), (2, .int (x2 - (hp 100 ((((6 : Int32) + ((5 : Int32) * v1)) + x3)).toNatClampNeg))), (0, .ref (gA (zG Z) 99)), (1, .int v1)]) X 3 d_Mo_net_28 rfl rfl (by decide) rfl ?_
      refine R_goto (tgt := 4) X d_Mo_net_31 rfl ?_
      refine V_pc (pc' := 4) rfl (R_loc (L' := [(0, .ref (gA (zG Z) 99)), (1, .int v1), (2, .int (x2 - (hp 100 ((((6 : Int32) + ((5 : Int32) * v1)) + x3)).toNatClampNeg))), (3, .int (x3 + 1))]) [2, 3, 1, 0] rfl ?_)
      exact ih hp (x2 - (hp 100 ((((6 : Int32) + ((5 : Int32) * v1)) + x3)).toNatClampNeg)) (x3 + 1) h
set_option maxRecDepth 20000 in
set_option maxHeartbeats 2000000 in
theorem T_Mo_net {Z : ZT} (X : CX Z Y_Mo_net) {hp : HP} {a1 : Int32} {p : Int32 × HP} (h : f_Mo_net hp a1 = some p) (hR : RetI Z Y_Mo_net .int p.1 p.2) : V Z Y_Mo_net hp 0 [(0, .ref (gA (zG Z) 99)), (1, .int a1)] [] := by
  unfold f_Mo_net at h
  refine R_iconst (v := (0 : Int32)) X d_Mo_net_0 rfl ?_
  refine R_istore_n (L' := [(2, .int (0 : Int32)), (0, .ref (gA (zG Z) 99)), (1, .int a1)]) X d_Mo_net_1 (by decide) rfl ?_
  refine R_iconst (v := (0 : Int32)) X d_Mo_net_2 rfl ?_
  refine R_istore_n (L' := [(3, .int (0 : Int32)), (2, .int (0 : Int32)), (0, .ref (gA (zG Z) 99)), (1, .int a1)]) X d_Mo_net_3 (by decide) rfl ?_
  refine V_pc (pc' := 4) rfl (R_loc (L' := [(0, .ref (gA (zG Z) 99)), (1, .int a1), (2, .int (0 : Int32)), (3, .int (0 : Int32))]) [2, 3, 1, 0] rfl ?_)
  refine T_Mo_net_L4 X hR (fun hp4 w3 h => ?_) _ hp (0 : Int32) (0 : Int32) h
  refine R_iload_n X 0 d_Mo_net_34 rfl ?_
  exact R_ret hR h d_Mo_net_35
theorem M_Mo_net {G : GT} {hp : HP} {a1 : Int32} {p : Int32 × HP} (h : f_Mo_net hp a1 = some p) : MI G y_Mo_net Y_Mo_net .int [.ref (gA G 99), .int a1] hp p.1 p.2 := MI_of rfl (fun Z hz X hR => by subst hz; exact T_Mo_net X h hR)
theorem d_Mo_wholes_0 : decode prog_9_method_28_code 0 = .ok (.iconst 0, 1) := by decide +kernel
theorem d_Mo_wholes_1 : decode prog_9_method_28_code 1 = .ok (.istore_n 2, 1) := by decide +kernel
theorem d_Mo_wholes_2 : decode prog_9_method_28_code 2 = .ok (.iconst 0, 1) := by decide +kernel
theorem d_Mo_wholes_3 : decode prog_9_method_28_code 3 = .ok (.istore_n 3, 1) := by decide +kernel
theorem d_Mo_wholes_4 : decode prog_9_method_28_code 4 = .ok (.iload_n 3, 1) := by decide +kernel
theorem d_Mo_wholes_5 : decode prog_9_method_28_code 5 = .ok (.aload_n 0, 1) := by decide +kernel
theorem d_Mo_wholes_6 : decode prog_9_method_28_code 6 = .ok (.getfield 76, 3) := by decide +kernel
theorem d_Mo_wholes_9 : decode prog_9_method_28_code 9 = .ok (.if_icmp .ge (52), 3) := by decide +kernel
theorem d_Mo_wholes_12 : decode prog_9_method_28_code 12 = .ok (.iload_n 2, 1) := by decide +kernel
theorem d_Mo_wholes_13 : decode prog_9_method_28_code 13 = .ok (.aload_n 0, 1) := by decide +kernel
theorem d_Mo_wholes_14 : decode prog_9_method_28_code 14 = .ok (.aload_n 0, 1) := by decide +kernel
theorem d_Mo_wholes_15 : decode prog_9_method_28_code 15 = .ok (.getfield 7, 3) := by decide +kernel
theorem d_Mo_wholes_18 : decode prog_9_method_28_code 18 = .ok (.iconst 1, 1) := by decide +kernel
theorem d_Mo_wholes_19 : decode prog_9_method_28_code 19 = .ok (.iload_n 3, 1) := by decide +kernel
theorem d_Mo_wholes_20 : decode prog_9_method_28_code 20 = .ok (.iadd, 1) := by decide +kernel
theorem d_Mo_wholes_21 : decode prog_9_method_28_code 21 = .ok (.iaload, 1) := by decide +kernel
theorem d_Mo_wholes_22 : decode prog_9_method_28_code 22 = .ok (.iload_n 1, 1) := by decide +kernel
theorem d_Mo_wholes_23 : decode prog_9_method_28_code 23 = .ok (.ifCond .eq (11), 3) := by decide +kernel
theorem d_Mo_wholes_26 : decode prog_9_method_28_code 26 = .ok (.aload_n 0, 1) := by decide +kernel
theorem d_Mo_wholes_27 : decode prog_9_method_28_code 27 = .ok (.iload_n 3, 1) := by decide +kernel
theorem d_Mo_wholes_28 : decode prog_9_method_28_code 28 = .ok (.invokevirtual 170, 3) := by decide +kernel
theorem d_Mo_wholes_31 : decode prog_9_method_28_code 31 = .ok (.goto (4), 3) := by decide +kernel
theorem d_Mo_wholes_34 : decode prog_9_method_28_code 34 = .ok (.iconst 0, 1) := by decide +kernel
theorem d_Mo_wholes_35 : decode prog_9_method_28_code 35 = .ok (.iadd, 1) := by decide +kernel
theorem d_Mo_wholes_36 : decode prog_9_method_28_code 36 = .ok (.invokevirtual 164, 3) := by decide +kernel
theorem d_Mo_wholes_39 : decode prog_9_method_28_code 39 = .ok (.aload_n 0, 1) := by decide +kernel
theorem d_Mo_wholes_40 : decode prog_9_method_28_code 40 = .ok (.invokevirtual 173, 3) := by decide +kernel
theorem d_Mo_wholes_43 : decode prog_9_method_28_code 43 = .ok (.if_icmp .ne (9), 3) := by decide +kernel
theorem d_Mo_wholes_46 : decode prog_9_method_28_code 46 = .ok (.iconst 1, 1) := by decide +kernel
theorem d_Mo_wholes_47 : decode prog_9_method_28_code 47 = .ok (.iload_n 3, 1) := by decide +kernel
theorem d_Mo_wholes_48 : decode prog_9_method_28_code 48 = .ok (.ishl, 1) := by decide +kernel
theorem d_Mo_wholes_49 : decode prog_9_method_28_code 49 = .ok (.goto (4), 3) := by decide +kernel
theorem d_Mo_wholes_52 : decode prog_9_method_28_code 52 = .ok (.iconst 0, 1) := by decide +kernel
theorem d_Mo_wholes_53 : decode prog_9_method_28_code 53 = .ok (.ior, 1) := by decide +kernel
theorem d_Mo_wholes_54 : decode prog_9_method_28_code 54 = .ok (.istore_n 2, 1) := by decide +kernel
theorem d_Mo_wholes_55 : decode prog_9_method_28_code 55 = .ok (.iinc 3 (1), 3) := by decide +kernel
theorem d_Mo_wholes_58 : decode prog_9_method_28_code 58 = .ok (.goto (-54), 3) := by decide +kernel
theorem d_Mo_wholes_61 : decode prog_9_method_28_code 61 = .ok (.iload_n 2, 1) := by decide +kernel
theorem d_Mo_wholes_62 : decode prog_9_method_28_code 62 = .ok (.ireturn, 1) := by decide +kernel
set_option maxRecDepth 20000 in
set_option maxHeartbeats 2000000 in
theorem T_Mo_wholes_L4 {Z : ZT} (X : CX Z Y_Mo_wholes) {v1 : Int32} {p : Int32 × HP} (hR : RetI Z Y_Mo_wholes .int p.1 p.2) {K : HP → Int32 → Option (Int32 × HP)} (hK : ∀ (hp : HP) (x2 : Int32), K hp x2 = some p → V Z Y_Mo_wholes hp 61 [(2, .int x2)] []) : ∀ (n : Nat) (hp : HP) (x2 : Int32) (x3 : Int32), f_Mo_wholes_L4 v1 K n hp x2 x3 = some p → V Z Y_Mo_wholes hp 4 [(0, .ref (gA (zG Z) 99)), (1, .int v1), (2, .int x2), (3, .int x3)] [] := by
  intro n
  induction n with
  | zero =>
    intro hp x2 x3 h
    cases h
  | succ n ih =>
    intro hp x2 x3 h
    replace h : f_Mo_wholes_L4 v1 K (n + 1) hp x2 x3 = some p := h
    unfold f_Mo_wholes_L4 at h
    refine R_iload_n X 3 d_Mo_wholes_4 rfl ?_
    refine R_aload_n X 0 d_Mo_wholes_5 rfl ?_
    refine R_getI (ci := 7) X rfl iMo_ok (of_decide_eq_true rfl) rfl 5 rfl rfl tw_676 d_Mo_wholes_6 ?_
    refine R_icmp_ge (tgt := 61) X d_Mo_wholes_9 rfl (fun c1 => ?_) (fun c1 => ?_)
    · replace h := (if_pos c1).symm.trans h
      refine V_pc (pc' := 61) rfl (R_loc (L' := [(2, .int x2)]) [2] rfl ?_)
      exact hK hp x2 h
    · replace h := (if_neg c1).symm.trans h
      refine R_iload_n X 2 d_Mo_wholes_12 rfl ?_
      refine R_aload_n X 0 d_Mo_wholes_13 rfl ?_
      refine R_aload_n X 0 d_Mo_wholes_14 rfl ?_
      refine R_getR (ci := 7) X rfl iMo_ok (of_decide_eq_true rfl) rfl 0 rfl rfl tw_671 d_Mo_wholes_15 ?_
      refine R_iconst (v := (1 : Int32)) X d_Mo_wholes_18 rfl ?_
      refine V_pc (pc' := 19) rfl ?_
      refine R_iload_n X 3 d_Mo_wholes_19 rfl ?_
      refine R_iadd X d_Mo_wholes_20 ?_
      obtain ⟨i2, h⟩ := ck h
      refine R_iald (n := 736) X (of_decide_eq_true rfl) rfl i2 d_Mo_wholes_21 ?_
      refine R_iload_n X 1 d_Mo_wholes_22 rfl ?_
      refine R_ifeq (tgt := 34) X d_Mo_wholes_23 rfl (fun c3 => ?_) (fun c3 => ?_)
      · replace h := (if_pos c3).symm.trans h
        refine R_iconst (v := (0 : Int32)) X d_Mo_wholes_34 rfl ?_
        refine R_iadd X d_Mo_wholes_35 ?_
        obtain ⟨p5, e4, h⟩ := ob h
        refine R_vcall (ci := 7) (k := 99) (As := [.int ((hp 100 (((1 : Int32) + x3)).toNatClampNeg) + (0 : Int32))]) (st := [.int x2]) X (M_Mo_thereBy e4) tw_845 cf_Mo_thereBy (of_decide_eq_true rfl) rfl rfl rfl rfl rfl d_Mo_wholes_36 ?_
        refine R_aload_n X 0 d_Mo_wholes_39 rfl ?_
        obtain ⟨p7, e6, h⟩ := ob h
        refine R_vcall (ci := 7) (k := 99) (As := []) (st := [.int p5.1, .int x2]) X (M_Mo_whole e6) tw_857 cf_Mo_whole (of_decide_eq_true rfl) rfl rfl rfl rfl rfl d_Mo_wholes_40 ?_
        refine V_pc (pc' := 43) rfl ?_
        refine R_icmp_ne (tgt := 52) X d_Mo_wholes_43 rfl (fun c8 => ?_) (fun c8 => ?_)
        · replace h := (if_neg c8).symm.trans h
          refine R_iconst (v := (0 : Int32)) X d_Mo_wholes_52 rfl ?_
          refine R_ior X d_Mo_wholes_53 ?_
          refine R_istore_n (L' := [(2, .int (x2 ||| (0 : Int32))), (0, .ref (gA (zG Z) 99)), (1, .int v1), (3, .int x3)]) X d_Mo_wholes_54 (by decide) rfl ?_
          refine R_iinc (v := (x3 + 1)) (L' := [(3, .int (x3 + 1)), (2, .int (x2 ||| (0 : Int32))), (0, .ref (gA (zG Z) 99)), (1, .int v1)]) X 3 d_Mo_wholes_55 rfl rfl (by decide) rfl ?_
          refine R_goto (tgt := 4) X d_Mo_wholes_58 rfl ?_
          refine V_pc (pc' := 4) rfl (R_loc (L' := [(0, .ref (gA (zG Z) 99)), (1, .int v1), (2, .int (x2 ||| (0 : Int32))), (3, .int (x3 + 1))]) [2, 3, 1, 0] rfl ?_)
          exact ih p7.2 (x2 ||| (0 : Int32)) (x3 + 1) h
        · replace h := (if_pos c8).symm.trans h
          refine R_iconst (v := (1 : Int32)) X d_Mo_wholes_46 rfl ?_
          refine R_iload_n X 3 d_Mo_wholes_47 rfl ?_
          refine R_ishl X d_Mo_wholes_48 ?_
          refine R_goto (tgt := 53) X d_Mo_wholes_49 rfl ?_
          refine R_ior X d_Mo_wholes_53 ?_
          refine V_pc (pc' := 54) rfl ?_
          refine R_istore_n (L' := [(2, .int (x2 ||| ((1 : Int32) <<< (x3 &&& 31)))), (0, .ref (gA (zG Z) 99)), (1, .int v1), (3, .int x3)]) X d_Mo_wholes_54 (by decide) rfl ?_
          refine R_iinc (v := (x3 + 1)) (L' := [(3, .int (x3 + 1)), (2, .int (x2 ||| ((1 : Int32) <<< (x3 &&& 31)))), (0, .ref (gA (zG Z) 99)), (1, .int v1)]) X 3 d_Mo_wholes_55 rfl rfl (by decide) rfl ?_
          refine R_goto (tgt := 4) X d_Mo_wholes_58 rfl ?_
          refine V_pc (pc' := 4) rfl (R_loc (L' := [(0, .ref (gA (zG Z) 99)), (1, .int v1), (2, .int (x2 ||| ((1 : Int32) <<< (x3 &&& 31)))), (3, .int (x3 + 1))]) [2, 3, 1, 0] rfl ?_)
          exact ih p7.2 (x2 ||| ((1 : Int32) <<< (x3 &&& 31))) (x3 + 1) h
      · replace h := (if_neg c3).symm.trans h
        refine R_aload_n X 0 d_Mo_wholes_26 rfl ?_
        refine R_iload_n X 3 d_Mo_wholes_27 rfl ?_
        obtain ⟨p10, e9, h⟩ := ob h
        refine R_vcall (ci := 7) (k := 99) (As := [.int x3]) (st := [.int (hp 100 (((1 : Int32) + x3)).toNatClampNeg), .ref (gA (zG Z) 99), .int x2]) X (M_Mo_net e9) tw_853 cf_Mo_net (of_decide_eq_true rfl) rfl rfl rfl rfl rfl d_Mo_wholes_28 ?_
        refine R_goto (tgt := 35) X d_Mo_wholes_31 rfl ?_
        refine R_iadd X d_Mo_wholes_35 ?_
        refine V_pc (pc' := 36) rfl ?_
        obtain ⟨p12, e11, h⟩ := ob h
        refine R_vcall (ci := 7) (k := 99) (As := [.int ((hp 100 (((1 : Int32) + x3)).toNatClampNeg) + p10.1)]) (st := [.int x2]) X (M_Mo_thereBy e11) tw_845 cf_Mo_thereBy (of_decide_eq_true rfl) rfl rfl rfl rfl rfl d_Mo_wholes_36 ?_
        refine R_aload_n X 0 d_Mo_wholes_39 rfl ?_
        obtain ⟨p14, e13, h⟩ := ob h
        refine R_vcall (ci := 7) (k := 99) (As := []) (st := [.int p12.1, .int x2]) X (M_Mo_whole e13) tw_857 cf_Mo_whole (of_decide_eq_true rfl) rfl rfl rfl rfl rfl d_Mo_wholes_40 ?_
        refine R_icmp_ne (tgt := 52) X d_Mo_wholes_43 rfl (fun c15 => ?_) (fun c15 => ?_)
        · replace h := (if_neg c15).symm.trans h
          refine R_iconst (v := (0 : Int32)) X d_Mo_wholes_52 rfl ?_
          refine R_ior X d_Mo_wholes_53 ?_
          refine R_istore_n (L' := [(2, .int (x2 ||| (0 : Int32))), (0, .ref (gA (zG Z) 99)), (1, .int v1), (3, .int x3)]) X d_Mo_wholes_54 (by decide) rfl ?_
          refine R_iinc (v := (x3 + 1)) (L' := [(3, .int (x3 + 1)), (2, .int (x2 ||| (0 : Int32))), (0, .ref (gA (zG Z) 99)), (1, .int v1)]) X 3 d_Mo_wholes_55 rfl rfl (by decide) rfl ?_
          refine R_goto (tgt := 4) X d_Mo_wholes_58 rfl ?_
          refine V_pc (pc' := 4) rfl (R_loc (L' := [(0, .ref (gA (zG Z) 99)), (1, .int v1), (2, .int (x2 ||| (0 : Int32))), (3, .int (x3 + 1))]) [2, 3, 1, 0] rfl ?_)
          exact ih p14.2 (x2 ||| (0 : Int32)) (x3 + 1) h
        · replace h := (if_pos c15).symm.trans h
          refine R_iconst (v := (1 : Int32)) X d_Mo_wholes_46 rfl ?_
          refine R_iload_n X 3 d_Mo_wholes_47 rfl ?_
          refine R_ishl X d_Mo_wholes_48 ?_
          refine R_goto (tgt := 53) X d_Mo_wholes_49 rfl ?_
          refine R_ior X d_Mo_wholes_53 ?_
          refine V_pc (pc' := 54) rfl ?_
          refine R_istore_n (L' := [(2, .int (x2 ||| ((1 : Int32) <<< (x3 &&& 31)))), (0, .ref (gA (zG Z) 99)), (1, .int v1), (3, .int x3)]) X d_Mo_wholes_54 (by decide) rfl ?_
          refine R_iinc (v := (x3 + 1)) (L' := [(3, .int (x3 + 1)), (2, .int (x2 ||| ((1 : Int32) <<< (x3 &&& 31)))), (0, .ref (gA (zG Z) 99)), (1, .int v1)]) X 3 d_Mo_wholes_55 rfl rfl (by decide) rfl ?_
          refine R_goto (tgt := 4) X d_Mo_wholes_58 rfl ?_
          refine V_pc (pc' := 4) rfl (R_loc (L' := [(0, .ref (gA (zG Z) 99)), (1, .int v1), (2, .int (x2 ||| ((1 : Int32) <<< (x3 &&& 31)))), (3, .int (x3 + 1))]) [2, 3, 1, 0] rfl ?_)
          exact ih p14.2 (x2 ||| ((1 : Int32) <<< (x3 &&& 31))) (x3 + 1) h
set_option maxRecDepth 20000 in
set_option maxHeartbeats 2000000 in
theorem T_Mo_wholes {Z : ZT} (X : CX Z Y_Mo_wholes) {hp : HP} {a1 : Int32} {p : Int32 × HP} (h : f_Mo_wholes hp a1 = some p) (hR : RetI Z Y_Mo_wholes .int p.1 p.2) : V Z Y_Mo_wholes hp 0 [(0, .ref (gA (zG Z) 99)), (1, .int a1)] [] := by
  unfold f_Mo_wholes at h
  refine R_iconst (v := (0 : Int32)) X d_Mo_wholes_0 rfl ?_
  refine R_istore_n (L' := [(2, .int (0 : Int32)), (0, .ref (gA (zG Z) 99)), (1, .int a1)]) X d_Mo_wholes_1 (by decide) rfl ?_
  refine R_iconst (v := (0 : Int32)) X d_Mo_wholes_2 rfl ?_
  refine R_istore_n (L' := [(3, .int (0 : Int32)), (2, .int (0 : Int32)), (0, .ref (gA (zG Z) 99)), (1, .int a1)]) X d_Mo_wholes_3 (by decide) rfl ?_
  refine V_pc (pc' := 4) rfl (R_loc (L' := [(0, .ref (gA (zG Z) 99)), (1, .int a1), (2, .int (0 : Int32)), (3, .int (0 : Int32))]) [2, 3, 1, 0] rfl ?_)
  refine T_Mo_wholes_L4 X hR (fun hp17 w16 h => ?_) _ hp (0 : Int32) (0 : Int32) h
  refine R_iload_n X 0 d_Mo_wholes_61 rfl ?_
  exact R_ret hR h d_Mo_wholes_62
theorem M_Mo_wholes {G : GT} {hp : HP} {a1 : Int32} {p : Int32 × HP} (h : f_Mo_wholes hp a1 = some p) : MI G y_Mo_wholes Y_Mo_wholes .int [.ref (gA G 99), .int a1] hp p.1 p.2 := MI_of rfl (fun Z hz X hR => by subst hz; exact T_Mo_wholes X h hR)
theorem d_Mo_cleared_0 : decode prog_9_method_29_code 0 = .ok (.iconst 0, 1) := by decide +kernel
theorem d_Mo_cleared_1 : decode prog_9_method_29_code 1 = .ok (.istore_n 1, 1) := by decide +kernel
theorem d_Mo_cleared_2 : decode prog_9_method_29_code 2 = .ok (.iconst 0, 1) := by decide +kernel
theorem d_Mo_cleared_3 : decode prog_9_method_29_code 3 = .ok (.istore_n 2, 1) := by decide +kernel
theorem d_Mo_cleared_4 : decode prog_9_method_29_code 4 = .ok (.iload_n 2, 1) := by decide +kernel
theorem d_Mo_cleared_5 : decode prog_9_method_29_code 5 = .ok (.aload_n 0, 1) := by decide +kernel
theorem d_Mo_cleared_6 : decode prog_9_method_29_code 6 = .ok (.getfield 76, 3) := by decide +kernel
theorem d_Mo_cleared_9 : decode prog_9_method_29_code 9 = .ok (.if_icmp .ge (25), 3) := by decide +kernel
theorem d_Mo_cleared_12 : decode prog_9_method_29_code 12 = .ok (.iload_n 1, 1) := by decide +kernel
theorem d_Mo_cleared_13 : decode prog_9_method_29_code 13 = .ok (.aload_n 0, 1) := by decide +kernel
theorem d_Mo_cleared_14 : decode prog_9_method_29_code 14 = .ok (.iload_n 2, 1) := by decide +kernel
theorem d_Mo_cleared_15 : decode prog_9_method_29_code 15 = .ok (.invokevirtual 170, 3) := by decide +kernel
theorem d_Mo_cleared_18 : decode prog_9_method_29_code 18 = .ok (.ifCond .ge (7), 3) := by decide +kernel
theorem d_Mo_cleared_21 : decode prog_9_method_29_code 21 = .ok (.iconst 1, 1) := by decide +kernel
theorem d_Mo_cleared_22 : decode prog_9_method_29_code 22 = .ok (.goto (4), 3) := by decide +kernel
theorem d_Mo_cleared_25 : decode prog_9_method_29_code 25 = .ok (.iconst 0, 1) := by decide +kernel
theorem d_Mo_cleared_26 : decode prog_9_method_29_code 26 = .ok (.iadd, 1) := by decide +kernel
theorem d_Mo_cleared_27 : decode prog_9_method_29_code 27 = .ok (.istore_n 1, 1) := by decide +kernel
theorem d_Mo_cleared_28 : decode prog_9_method_29_code 28 = .ok (.iinc 2 (1), 3) := by decide +kernel
theorem d_Mo_cleared_31 : decode prog_9_method_29_code 31 = .ok (.goto (-27), 3) := by decide +kernel
theorem d_Mo_cleared_34 : decode prog_9_method_29_code 34 = .ok (.iload_n 1, 1) := by decide +kernel
theorem d_Mo_cleared_35 : decode prog_9_method_29_code 35 = .ok (.ireturn, 1) := by decide +kernel
set_option maxRecDepth 20000 in
set_option maxHeartbeats 2000000 in
theorem T_Mo_cleared_L4 {Z : ZT} (X : CX Z Y_Mo_cleared) {p : Int32 × HP} (hR : RetI Z Y_Mo_cleared .int p.1 p.2) {K : HP → Int32 → Option (Int32 × HP)} (hK : ∀ (hp : HP) (x1 : Int32), K hp x1 = some p → V Z Y_Mo_cleared hp 34 [(1, .int x1)] []) : ∀ (n : Nat) (hp : HP) (x1 : Int32) (x2 : Int32), f_Mo_cleared_L4 K n hp x1 x2 = some p → V Z Y_Mo_cleared hp 4 [(0, .ref (gA (zG Z) 99)), (1, .int x1), (2, .int x2)] [] := by
  intro n
  induction n with
  | zero =>
    intro hp x1 x2 h
    cases h
  | succ n ih =>
    intro hp x1 x2 h
    replace h : f_Mo_cleared_L4 K (n + 1) hp x1 x2 = some p := h
    unfold f_Mo_cleared_L4 at h
    refine R_iload_n X 2 d_Mo_cleared_4 rfl ?_
    refine R_aload_n X 0 d_Mo_cleared_5 rfl ?_
    refine R_getI (ci := 7) X rfl iMo_ok (of_decide_eq_true rfl) rfl 5 rfl rfl tw_676 d_Mo_cleared_6 ?_
    refine R_icmp_ge (tgt := 34) X d_Mo_cleared_9 rfl (fun c1 => ?_) (fun c1 => ?_)
    · replace h := (if_pos c1).symm.trans h
      refine V_pc (pc' := 34) rfl (R_loc (L' := [(1, .int x1)]) [1] rfl ?_)
      exact hK hp x1 h
    · replace h := (if_neg c1).symm.trans h
      refine R_iload_n X 1 d_Mo_cleared_12 rfl ?_
      refine R_aload_n X 0 d_Mo_cleared_13 rfl ?_
      refine R_iload_n X 2 d_Mo_cleared_14 rfl ?_
      obtain ⟨p3, e2, h⟩ := ob h
      refine R_vcall (ci := 7) (k := 99) (As := [.int x2]) (st := [.int x1]) X (M_Mo_net e2) tw_853 cf_Mo_net (of_decide_eq_true rfl) rfl rfl rfl rfl rfl d_Mo_cleared_15 ?_
      refine R_ifge (tgt := 25) X d_Mo_cleared_18 rfl (fun c4 => ?_) (fun c4 => ?_)
      · replace h := (if_pos c4).symm.trans h
        refine R_iconst (v := (0 : Int32)) X d_Mo_cleared_25 rfl ?_
        refine R_iadd X d_Mo_cleared_26 ?_
        refine R_istore_n (L' := [(1, .int (x1 + (0 : Int32))), (0, .ref (gA (zG Z) 99)), (2, .int x2)]) X d_Mo_cleared_27 (by decide) rfl ?_
        refine R_iinc (v := (x2 + 1)) (L' := [(2, .int (x2 + 1)), (1, .int (x1 + (0 : Int32))), (0, .ref (gA (zG Z) 99))]) X 2 d_Mo_cleared_28 rfl rfl (by decide) rfl ?_
        refine R_goto (tgt := 4) X d_Mo_cleared_31 rfl ?_
        refine V_pc (pc' := 4) rfl (R_loc (L' := [(0, .ref (gA (zG Z) 99)), (1, .int (x1 + (0 : Int32))), (2, .int (x2 + 1))]) [2, 1, 0] rfl ?_)
        exact ih p3.2 (x1 + (0 : Int32)) (x2 + 1) h
      · replace h := (if_neg c4).symm.trans h
        refine R_iconst (v := (1 : Int32)) X d_Mo_cleared_21 rfl ?_
        refine R_goto (tgt := 26) X d_Mo_cleared_22 rfl ?_
        refine R_iadd X d_Mo_cleared_26 ?_
        refine R_istore_n (L' := [(1, .int (x1 + (1 : Int32))), (0, .ref (gA (zG Z) 99)), (2, .int x2)]) X d_Mo_cleared_27 (by decide) rfl ?_
        refine R_iinc (v := (x2 + 1)) (L' := [(2, .int (x2 + 1)), (1, .int (x1 + (1 : Int32))), (0, .ref (gA (zG Z) 99))]) X 2 d_Mo_cleared_28 rfl rfl (by decide) rfl ?_
        refine V_pc (pc' := 31) rfl ?_
        refine R_goto (tgt := 4) X d_Mo_cleared_31 rfl ?_
        refine V_pc (pc' := 4) rfl (R_loc (L' := [(0, .ref (gA (zG Z) 99)), (1, .int (x1 + (1 : Int32))), (2, .int (x2 + 1))]) [2, 1, 0] rfl ?_)
        exact ih p3.2 (x1 + (1 : Int32)) (x2 + 1) h
set_option maxRecDepth 20000 in
set_option maxHeartbeats 2000000 in
theorem T_Mo_cleared {Z : ZT} (X : CX Z Y_Mo_cleared) {hp : HP} {p : Int32 × HP} (h : f_Mo_cleared hp = some p) (hR : RetI Z Y_Mo_cleared .int p.1 p.2) : V Z Y_Mo_cleared hp 0 [(0, .ref (gA (zG Z) 99))] [] := by
  unfold f_Mo_cleared at h
  refine R_iconst (v := (0 : Int32)) X d_Mo_cleared_0 rfl ?_
  refine R_istore_n (L' := [(1, .int (0 : Int32)), (0, .ref (gA (zG Z) 99))]) X d_Mo_cleared_1 (by decide) rfl ?_
  refine R_iconst (v := (0 : Int32)) X d_Mo_cleared_2 rfl ?_
  refine R_istore_n (L' := [(2, .int (0 : Int32)), (1, .int (0 : Int32)), (0, .ref (gA (zG Z) 99))]) X d_Mo_cleared_3 (by decide) rfl ?_
  refine V_pc (pc' := 4) rfl (R_loc (L' := [(0, .ref (gA (zG Z) 99)), (1, .int (0 : Int32)), (2, .int (0 : Int32))]) [2, 1, 0] rfl ?_)
  refine T_Mo_cleared_L4 X hR (fun hp6 w5 h => ?_) _ hp (0 : Int32) (0 : Int32) h
  refine R_iload_n X 0 d_Mo_cleared_34 rfl ?_
  exact R_ret hR h d_Mo_cleared_35
theorem M_Mo_cleared {G : GT} {hp : HP} {p : Int32 × HP} (h : f_Mo_cleared hp = some p) : MI G y_Mo_cleared Y_Mo_cleared .int [.ref (gA G 99)] hp p.1 p.2 := MI_of rfl (fun Z hz X hR => by subst hz; exact T_Mo_cleared X h hR)
theorem d_Mo_told_0 : decode prog_9_method_30_code 0 = .ok (.iload_n 1, 1) := by decide +kernel
theorem d_Mo_told_1 : decode prog_9_method_30_code 1 = .ok (.tableswitch 145 0 13 #[71, 76, 81, 86, 91, 98, 103, 109, 114, 120, 125, 130, 135, 140], 71) := by decide +kernel
theorem d_Mo_told_72 : decode prog_9_method_30_code 72 = .ok (.aload_n 0, 1) := by decide +kernel
theorem d_Mo_told_73 : decode prog_9_method_30_code 73 = .ok (.getfield 69, 3) := by decide +kernel
theorem d_Mo_told_76 : decode prog_9_method_30_code 76 = .ok (.ireturn, 1) := by decide +kernel
theorem d_Mo_told_77 : decode prog_9_method_30_code 77 = .ok (.aload_n 0, 1) := by decide +kernel
theorem d_Mo_told_78 : decode prog_9_method_30_code 78 = .ok (.getfield 76, 3) := by decide +kernel
theorem d_Mo_told_81 : decode prog_9_method_30_code 81 = .ok (.ireturn, 1) := by decide +kernel
theorem d_Mo_told_82 : decode prog_9_method_30_code 82 = .ok (.aload_n 0, 1) := by decide +kernel
theorem d_Mo_told_83 : decode prog_9_method_30_code 83 = .ok (.getfield 83, 3) := by decide +kernel
theorem d_Mo_told_86 : decode prog_9_method_30_code 86 = .ok (.ireturn, 1) := by decide +kernel
theorem d_Mo_told_87 : decode prog_9_method_30_code 87 = .ok (.aload_n 0, 1) := by decide +kernel
theorem d_Mo_told_88 : decode prog_9_method_30_code 88 = .ok (.getfield 89, 3) := by decide +kernel
theorem d_Mo_told_91 : decode prog_9_method_30_code 91 = .ok (.ireturn, 1) := by decide +kernel
theorem d_Mo_told_92 : decode prog_9_method_30_code 92 = .ok (.aload_n 0, 1) := by decide +kernel
theorem d_Mo_told_93 : decode prog_9_method_30_code 93 = .ok (.getfield 7, 3) := by decide +kernel
theorem d_Mo_told_96 : decode prog_9_method_30_code 96 = .ok (.iconst 0, 1) := by decide +kernel
theorem d_Mo_told_97 : decode prog_9_method_30_code 97 = .ok (.iaload, 1) := by decide +kernel
theorem d_Mo_told_98 : decode prog_9_method_30_code 98 = .ok (.ireturn, 1) := by decide +kernel
theorem d_Mo_told_99 : decode prog_9_method_30_code 99 = .ok (.aload_n 0, 1) := by decide +kernel
theorem d_Mo_told_100 : decode prog_9_method_30_code 100 = .ok (.invokevirtual 176, 3) := by decide +kernel
theorem d_Mo_told_103 : decode prog_9_method_30_code 103 = .ok (.ireturn, 1) := by decide +kernel
theorem d_Mo_told_104 : decode prog_9_method_30_code 104 = .ok (.aload_n 0, 1) := by decide +kernel
theorem d_Mo_told_105 : decode prog_9_method_30_code 105 = .ok (.iconst 0, 1) := by decide +kernel
theorem d_Mo_told_106 : decode prog_9_method_30_code 106 = .ok (.invokevirtual 179, 3) := by decide +kernel
theorem d_Mo_told_109 : decode prog_9_method_30_code 109 = .ok (.ireturn, 1) := by decide +kernel
theorem d_Mo_told_110 : decode prog_9_method_30_code 110 = .ok (.aload_n 0, 1) := by decide +kernel
theorem d_Mo_told_111 : decode prog_9_method_30_code 111 = .ok (.invokevirtual 183, 3) := by decide +kernel
theorem d_Mo_told_114 : decode prog_9_method_30_code 114 = .ok (.ireturn, 1) := by decide +kernel
theorem d_Mo_told_115 : decode prog_9_method_30_code 115 = .ok (.aload_n 0, 1) := by decide +kernel
theorem d_Mo_told_116 : decode prog_9_method_30_code 116 = .ok (.iconst 1, 1) := by decide +kernel
theorem d_Mo_told_117 : decode prog_9_method_30_code 117 = .ok (.invokevirtual 179, 3) := by decide +kernel
theorem d_Mo_told_120 : decode prog_9_method_30_code 120 = .ok (.ireturn, 1) := by decide +kernel
theorem d_Mo_told_121 : decode prog_9_method_30_code 121 = .ok (.aload_n 0, 1) := by decide +kernel
theorem d_Mo_told_122 : decode prog_9_method_30_code 122 = .ok (.getfield 149, 3) := by decide +kernel
theorem d_Mo_told_125 : decode prog_9_method_30_code 125 = .ok (.ireturn, 1) := by decide +kernel
theorem d_Mo_told_126 : decode prog_9_method_30_code 126 = .ok (.aload_n 0, 1) := by decide +kernel
theorem d_Mo_told_127 : decode prog_9_method_30_code 127 = .ok (.getfield 152, 3) := by decide +kernel
theorem d_Mo_told_130 : decode prog_9_method_30_code 130 = .ok (.ireturn, 1) := by decide +kernel
theorem d_Mo_told_131 : decode prog_9_method_30_code 131 = .ok (.aload_n 0, 1) := by decide +kernel
theorem d_Mo_told_132 : decode prog_9_method_30_code 132 = .ok (.getfield 155, 3) := by decide +kernel
theorem d_Mo_told_135 : decode prog_9_method_30_code 135 = .ok (.ireturn, 1) := by decide +kernel
theorem d_Mo_told_136 : decode prog_9_method_30_code 136 = .ok (.aload_n 0, 1) := by decide +kernel
theorem d_Mo_told_137 : decode prog_9_method_30_code 137 = .ok (.getfield 158, 3) := by decide +kernel
theorem d_Mo_told_140 : decode prog_9_method_30_code 140 = .ok (.ireturn, 1) := by decide +kernel
theorem d_Mo_told_141 : decode prog_9_method_30_code 141 = .ok (.aload_n 0, 1) := by decide +kernel
theorem d_Mo_told_142 : decode prog_9_method_30_code 142 = .ok (.getfield 161, 3) := by decide +kernel
theorem d_Mo_told_145 : decode prog_9_method_30_code 145 = .ok (.ireturn, 1) := by decide +kernel
theorem d_Mo_told_146 : decode prog_9_method_30_code 146 = .ok (.ldc 88, 2) := by decide +kernel
theorem d_Mo_told_148 : decode prog_9_method_30_code 148 = .ok (.ireturn, 1) := by decide +kernel
set_option maxRecDepth 20000 in
set_option maxHeartbeats 2000000 in
theorem T_Mo_told {Z : ZT} (X : CX Z Y_Mo_told) {hp : HP} {a1 : Int32} {p : Int32 × HP} (h : f_Mo_told hp a1 = some p) (hR : RetI Z Y_Mo_told .int p.1 p.2) : V Z Y_Mo_told hp 0 [(0, .ref (gA (zG Z) 99)), (1, .int a1)] [] := by
  unfold f_Mo_told at h
  refine R_iload_n X 1 d_Mo_told_0 rfl ?_
  by_cases c1 : a1 = 0
  · replace h := (if_pos c1).symm.trans h
    refine R_swIn (tgt := 72) X d_Mo_told_1 0 (by rw [c1]; rfl) (by decide) (by decide) rfl rfl ?_
    refine R_aload_n X 0 d_Mo_told_72 rfl ?_
    refine R_getI (ci := 7) X rfl iMo_ok (of_decide_eq_true rfl) rfl 3 rfl rfl tw_674 d_Mo_told_73 ?_
    exact R_ret hR h d_Mo_told_76
  replace h := (if_neg c1).symm.trans h
  by_cases c2 : a1 = 1
  · replace h := (if_pos c2).symm.trans h
    refine R_swIn (tgt := 77) X d_Mo_told_1 1 (by rw [c2]; rfl) (by decide) (by decide) rfl rfl ?_
    refine R_aload_n X 0 d_Mo_told_77 rfl ?_
    refine R_getI (ci := 7) X rfl iMo_ok (of_decide_eq_true rfl) rfl 5 rfl rfl tw_676 d_Mo_told_78 ?_
    exact R_ret hR h d_Mo_told_81
  replace h := (if_neg c2).symm.trans h
  by_cases c3 : a1 = 2
  · replace h := (if_pos c3).symm.trans h
    refine R_swIn (tgt := 82) X d_Mo_told_1 2 (by rw [c3]; rfl) (by decide) (by decide) rfl rfl ?_
    refine R_aload_n X 0 d_Mo_told_82 rfl ?_
    refine R_getI (ci := 7) X rfl iMo_ok (of_decide_eq_true rfl) rfl 8 rfl rfl tw_679 d_Mo_told_83 ?_
    exact R_ret hR h d_Mo_told_86
  replace h := (if_neg c3).symm.trans h
  by_cases c4 : a1 = 3
  · replace h := (if_pos c4).symm.trans h
    refine R_swIn (tgt := 87) X d_Mo_told_1 3 (by rw [c4]; rfl) (by decide) (by decide) rfl rfl ?_
    refine R_aload_n X 0 d_Mo_told_87 rfl ?_
    refine R_getI (ci := 7) X rfl iMo_ok (of_decide_eq_true rfl) rfl 11 rfl rfl tw_682 d_Mo_told_88 ?_
    exact R_ret hR h d_Mo_told_91
  replace h := (if_neg c4).symm.trans h
  by_cases c5 : a1 = 4
  · replace h := (if_pos c5).symm.trans h
    refine R_swIn (tgt := 92) X d_Mo_told_1 4 (by rw [c5]; rfl) (by decide) (by decide) rfl rfl ?_
    refine R_aload_n X 0 d_Mo_told_92 rfl ?_
    refine R_getR (ci := 7) X rfl iMo_ok (of_decide_eq_true rfl) rfl 0 rfl rfl tw_671 d_Mo_told_93 ?_
    refine R_iconst (v := (0 : Int32)) X d_Mo_told_96 rfl ?_
    refine R_iald (n := 736) X (of_decide_eq_true rfl) rfl rfl d_Mo_told_97 ?_
    exact R_ret hR h d_Mo_told_98
  replace h := (if_neg c5).symm.trans h
  by_cases c6 : a1 = 5
  · replace h := (if_pos c6).symm.trans h
    refine R_swIn (tgt := 99) X d_Mo_told_1 5 (by rw [c6]; rfl) (by decide) (by decide) rfl rfl ?_
    refine R_aload_n X 0 d_Mo_told_99 rfl ?_
    obtain ⟨p8, e7, h⟩ := ob h
    refine R_vcall (ci := 7) (k := 99) (As := []) (st := []) X (M_Mo_hats e7) tw_837 cf_Mo_hats (of_decide_eq_true rfl) rfl rfl rfl rfl rfl d_Mo_told_100 ?_
    exact R_ret hR h d_Mo_told_103
  replace h := (if_neg c6).symm.trans h
  by_cases c9 : a1 = 6
  · replace h := (if_pos c9).symm.trans h
    refine R_swIn (tgt := 104) X d_Mo_told_1 6 (by rw [c9]; rfl) (by decide) (by decide) rfl rfl ?_
    refine R_aload_n X 0 d_Mo_told_104 rfl ?_
    refine R_iconst (v := (0 : Int32)) X d_Mo_told_105 rfl ?_
    obtain ⟨p11, e10, h⟩ := ob h
    refine R_vcall (ci := 7) (k := 99) (As := [.int (0 : Int32)]) (st := []) X (M_Mo_wholes e10) tw_849 cf_Mo_wholes (of_decide_eq_true rfl) rfl rfl rfl rfl rfl d_Mo_told_106 ?_
    exact R_ret hR h d_Mo_told_109
  replace h := (if_neg c9).symm.trans h
  by_cases c12 : a1 = 7
  · replace h := (if_pos c12).symm.trans h
    refine R_swIn (tgt := 110) X d_Mo_told_1 7 (by rw [c12]; rfl) (by decide) (by decide) rfl rfl ?_
    refine R_aload_n X 0 d_Mo_told_110 rfl ?_
    obtain ⟨p14, e13, h⟩ := ob h
    refine R_vcall (ci := 7) (k := 99) (As := []) (st := []) X (M_Mo_cleared e13) tw_861 cf_Mo_cleared (of_decide_eq_true rfl) rfl rfl rfl rfl rfl d_Mo_told_111 ?_
    exact R_ret hR h d_Mo_told_114
  replace h := (if_neg c12).symm.trans h
  by_cases c15 : a1 = 8
  · replace h := (if_pos c15).symm.trans h
    refine R_swIn (tgt := 115) X d_Mo_told_1 8 (by rw [c15]; rfl) (by decide) (by decide) rfl rfl ?_
    refine R_aload_n X 0 d_Mo_told_115 rfl ?_
    refine R_iconst (v := (1 : Int32)) X d_Mo_told_116 rfl ?_
    obtain ⟨p17, e16, h⟩ := ob h
    refine R_vcall (ci := 7) (k := 99) (As := [.int (1 : Int32)]) (st := []) X (M_Mo_wholes e16) tw_849 cf_Mo_wholes (of_decide_eq_true rfl) rfl rfl rfl rfl rfl d_Mo_told_117 ?_
    exact R_ret hR h d_Mo_told_120
  replace h := (if_neg c15).symm.trans h
  by_cases c18 : a1 = 9
  · replace h := (if_pos c18).symm.trans h
    refine R_swIn (tgt := 121) X d_Mo_told_1 9 (by rw [c18]; rfl) (by decide) (by decide) rfl rfl ?_
    refine R_aload_n X 0 d_Mo_told_121 rfl ?_
    refine R_getI (ci := 7) X rfl iMo_ok (of_decide_eq_true rfl) rfl 23 rfl rfl tw_694 d_Mo_told_122 ?_
    exact R_ret hR h d_Mo_told_125
  replace h := (if_neg c18).symm.trans h
  by_cases c19 : a1 = 10
  · replace h := (if_pos c19).symm.trans h
    refine R_swIn (tgt := 126) X d_Mo_told_1 10 (by rw [c19]; rfl) (by decide) (by decide) rfl rfl ?_
    refine R_aload_n X 0 d_Mo_told_126 rfl ?_
    refine R_getI (ci := 7) X rfl iMo_ok (of_decide_eq_true rfl) rfl 25 rfl rfl tw_696 d_Mo_told_127 ?_
    exact R_ret hR h d_Mo_told_130
  replace h := (if_neg c19).symm.trans h
  by_cases c20 : a1 = 11
  · replace h := (if_pos c20).symm.trans h
    refine R_swIn (tgt := 131) X d_Mo_told_1 11 (by rw [c20]; rfl) (by decide) (by decide) rfl rfl ?_
    refine R_aload_n X 0 d_Mo_told_131 rfl ?_
    refine R_getI (ci := 7) X rfl iMo_ok (of_decide_eq_true rfl) rfl 29 rfl rfl tw_700 d_Mo_told_132 ?_
    exact R_ret hR h d_Mo_told_135
  replace h := (if_neg c20).symm.trans h
  by_cases c21 : a1 = 12
  · replace h := (if_pos c21).symm.trans h
    refine R_swIn (tgt := 136) X d_Mo_told_1 12 (by rw [c21]; rfl) (by decide) (by decide) rfl rfl ?_
    refine R_aload_n X 0 d_Mo_told_136 rfl ?_
    refine R_getI (ci := 7) X rfl iMo_ok (of_decide_eq_true rfl) rfl 32 rfl rfl tw_703 d_Mo_told_137 ?_
    exact R_ret hR h d_Mo_told_140
  replace h := (if_neg c21).symm.trans h
  by_cases c22 : a1 = 13
  · replace h := (if_pos c22).symm.trans h
    refine R_swIn (tgt := 141) X d_Mo_told_1 13 (by rw [c22]; rfl) (by decide) (by decide) rfl rfl ?_
    refine R_aload_n X 0 d_Mo_told_141 rfl ?_
    refine R_getI (ci := 7) X rfl iMo_ok (of_decide_eq_true rfl) rfl 2 rfl rfl tw_673 d_Mo_told_142 ?_
    exact R_ret hR h d_Mo_told_145
  replace h := (if_neg c22).symm.trans h
  refine R_swOut (tgt := 146) X d_Mo_told_1 (sw_def 14 (by decide) (fun k hk => by
    match k, hk with
    | 0, _ => exact c1
    | 1, _ => exact c2
    | 2, _ => exact c3
    | 3, _ => exact c4
    | 4, _ => exact c5
    | 5, _ => exact c6
    | 6, _ => exact c9
    | 7, _ => exact c12
    | 8, _ => exact c15
    | 9, _ => exact c18
    | 10, _ => exact c19
    | 11, _ => exact c20
    | 12, _ => exact c21
    | 13, _ => exact c22
    | k + 14, hk => exact absurd hk (by omega))) rfl ?_
  refine R_ldc (v := (-1000000002 : Int32)) X tw_785 d_Mo_told_146 ?_
  exact R_ret hR h d_Mo_told_148
theorem M_Mo_told {G : GT} {hp : HP} {a1 : Int32} {p : Int32 × HP} (h : f_Mo_told hp a1 = some p) : MI G y_Mo_told Y_Mo_told .int [.ref (gA G 99), .int a1] hp p.1 p.2 := MI_of rfl (fun Z hz X hR => by subst hz; exact T_Mo_told X h hR)
theorem d_Mo_part_0 : decode prog_9_method_31_code 0 = .ok (.aload_n 0, 1) := by decide +kernel
theorem d_Mo_part_1 : decode prog_9_method_31_code 1 = .ok (.iload_n 1, 1) := by decide +kernel
theorem d_Mo_part_2 : decode prog_9_method_31_code 2 = .ok (.invokevirtual 186, 3) := by decide +kernel
theorem d_Mo_part_5 : decode prog_9_method_31_code 5 = .ok (.ifCond .eq (12), 3) := by decide +kernel
theorem d_Mo_part_8 : decode prog_9_method_31_code 8 = .ok (.aload_n 0, 1) := by decide +kernel
theorem d_Mo_part_9 : decode prog_9_method_31_code 9 = .ok (.getfield 17, 3) := by decide +kernel
theorem d_Mo_part_12 : decode prog_9_method_31_code 12 = .ok (.iload_n 1, 1) := by decide +kernel
theorem d_Mo_part_13 : decode prog_9_method_31_code 13 = .ok (.iaload, 1) := by decide +kernel
theorem d_Mo_part_14 : decode prog_9_method_31_code 14 = .ok (.goto (5), 3) := by decide +kernel
theorem d_Mo_part_17 : decode prog_9_method_31_code 17 = .ok (.ldc 189, 2) := by decide +kernel
theorem d_Mo_part_19 : decode prog_9_method_31_code 19 = .ok (.ireturn, 1) := by decide +kernel
set_option maxRecDepth 20000 in
set_option maxHeartbeats 2000000 in
theorem T_Mo_part {Z : ZT} (X : CX Z Y_Mo_part) {hp : HP} {a1 : Int32} {p : Int32 × HP} (h : f_Mo_part hp a1 = some p) (hR : RetI Z Y_Mo_part .int p.1 p.2) : V Z Y_Mo_part hp 0 [(0, .ref (gA (zG Z) 99)), (1, .int a1)] [] := by
  unfold f_Mo_part at h
  refine R_aload_n X 0 d_Mo_part_0 rfl ?_
  refine R_iload_n X 1 d_Mo_part_1 rfl ?_
  obtain ⟨p2, e1, h⟩ := ob h
  refine R_vcall (ci := 7) (k := 99) (As := [.int a1]) (st := []) X (M_Mo_isPart e1) tw_869 cf_Mo_isPart (of_decide_eq_true rfl) rfl rfl rfl rfl rfl d_Mo_part_2 ?_
  refine R_ifeq (tgt := 17) X d_Mo_part_5 rfl (fun c3 => ?_) (fun c3 => ?_)
  · replace h := (if_pos c3).symm.trans h
    refine R_ldc (v := (-1000000001 : Int32)) X tw_873 d_Mo_part_17 ?_
    exact R_ret hR h d_Mo_part_19
  · replace h := (if_neg c3).symm.trans h
    refine R_aload_n X 0 d_Mo_part_8 rfl ?_
    refine R_getR (ci := 7) X rfl iMo_ok (of_decide_eq_true rfl) rfl 4 rfl rfl tw_675 d_Mo_part_9 ?_
    refine R_iload_n X 1 d_Mo_part_12 rfl ?_
    obtain ⟨i4, h⟩ := ck h
    refine R_iald (n := 8) X (of_decide_eq_true rfl) rfl i4 d_Mo_part_13 ?_
    refine R_goto (tgt := 19) X d_Mo_part_14 rfl ?_
    refine V_pc (pc' := 19) rfl ?_
    exact R_ret hR h d_Mo_part_19
theorem M_Mo_part {G : GT} {hp : HP} {a1 : Int32} {p : Int32 × HP} (h : f_Mo_part hp a1 = some p) : MI G y_Mo_part Y_Mo_part .int [.ref (gA G 99), .int a1] hp p.1 p.2 := MI_of rfl (fun Z hz X hR => by subst hz; exact T_Mo_part X h hR)
theorem d_Mo_customer_0 : decode prog_9_method_32_code 0 = .ok (.aload_n 0, 1) := by decide +kernel
theorem d_Mo_customer_1 : decode prog_9_method_32_code 1 = .ok (.iload_n 1, 1) := by decide +kernel
theorem d_Mo_customer_2 : decode prog_9_method_32_code 2 = .ok (.invokevirtual 79, 3) := by decide +kernel
theorem d_Mo_customer_5 : decode prog_9_method_32_code 5 = .ok (.ifCond .ne (6), 3) := by decide +kernel
theorem d_Mo_customer_8 : decode prog_9_method_32_code 8 = .ok (.ldc 189, 2) := by decide +kernel
theorem d_Mo_customer_10 : decode prog_9_method_32_code 10 = .ok (.ireturn, 1) := by decide +kernel
theorem d_Mo_customer_11 : decode prog_9_method_32_code 11 = .ok (.iload_n 2, 1) := by decide +kernel
theorem d_Mo_customer_12 : decode prog_9_method_32_code 12 = .ok (.tableswitch 78 0 4 #[36, 49, 55, 62, 69], 36) := by decide +kernel
theorem d_Mo_customer_48 : decode prog_9_method_32_code 48 = .ok (.aload_n 0, 1) := by decide +kernel
theorem d_Mo_customer_49 : decode prog_9_method_32_code 49 = .ok (.getfield 7, 3) := by decide +kernel
theorem d_Mo_customer_52 : decode prog_9_method_32_code 52 = .ok (.iconst 1, 1) := by decide +kernel
theorem d_Mo_customer_53 : decode prog_9_method_32_code 53 = .ok (.iload_n 1, 1) := by decide +kernel
theorem d_Mo_customer_54 : decode prog_9_method_32_code 54 = .ok (.iadd, 1) := by decide +kernel
theorem d_Mo_customer_55 : decode prog_9_method_32_code 55 = .ok (.iaload, 1) := by decide +kernel
theorem d_Mo_customer_56 : decode prog_9_method_32_code 56 = .ok (.sipush (10000), 3) := by decide +kernel
theorem d_Mo_customer_59 : decode prog_9_method_32_code 59 = .ok (.iadd, 1) := by decide +kernel
theorem d_Mo_customer_60 : decode prog_9_method_32_code 60 = .ok (.ireturn, 1) := by decide +kernel
theorem d_Mo_customer_61 : decode prog_9_method_32_code 61 = .ok (.aload_n 0, 1) := by decide +kernel
theorem d_Mo_customer_62 : decode prog_9_method_32_code 62 = .ok (.iload_n 1, 1) := by decide +kernel
theorem d_Mo_customer_63 : decode prog_9_method_32_code 63 = .ok (.invokevirtual 167, 3) := by decide +kernel
theorem d_Mo_customer_66 : decode prog_9_method_32_code 66 = .ok (.ireturn, 1) := by decide +kernel
theorem d_Mo_customer_67 : decode prog_9_method_32_code 67 = .ok (.aload_n 0, 1) := by decide +kernel
theorem d_Mo_customer_68 : decode prog_9_method_32_code 68 = .ok (.getfield 20, 3) := by decide +kernel
theorem d_Mo_customer_71 : decode prog_9_method_32_code 71 = .ok (.iload_n 1, 1) := by decide +kernel
theorem d_Mo_customer_72 : decode prog_9_method_32_code 72 = .ok (.iaload, 1) := by decide +kernel
theorem d_Mo_customer_73 : decode prog_9_method_32_code 73 = .ok (.ireturn, 1) := by decide +kernel
theorem d_Mo_customer_74 : decode prog_9_method_32_code 74 = .ok (.aload_n 0, 1) := by decide +kernel
theorem d_Mo_customer_75 : decode prog_9_method_32_code 75 = .ok (.getfield 23, 3) := by decide +kernel
theorem d_Mo_customer_78 : decode prog_9_method_32_code 78 = .ok (.iload_n 1, 1) := by decide +kernel
theorem d_Mo_customer_79 : decode prog_9_method_32_code 79 = .ok (.iaload, 1) := by decide +kernel
theorem d_Mo_customer_80 : decode prog_9_method_32_code 80 = .ok (.ireturn, 1) := by decide +kernel
theorem d_Mo_customer_81 : decode prog_9_method_32_code 81 = .ok (.aload_n 0, 1) := by decide +kernel
theorem d_Mo_customer_82 : decode prog_9_method_32_code 82 = .ok (.iload_n 1, 1) := by decide +kernel
theorem d_Mo_customer_83 : decode prog_9_method_32_code 83 = .ok (.invokevirtual 170, 3) := by decide +kernel
theorem d_Mo_customer_86 : decode prog_9_method_32_code 86 = .ok (.ldc 190, 2) := by decide +kernel
theorem d_Mo_customer_88 : decode prog_9_method_32_code 88 = .ok (.iadd, 1) := by decide +kernel
theorem d_Mo_customer_89 : decode prog_9_method_32_code 89 = .ok (.ireturn, 1) := by decide +kernel
theorem d_Mo_customer_90 : decode prog_9_method_32_code 90 = .ok (.ldc 88, 2) := by decide +kernel
theorem d_Mo_customer_92 : decode prog_9_method_32_code 92 = .ok (.ireturn, 1) := by decide +kernel
set_option maxRecDepth 20000 in
set_option maxHeartbeats 2000000 in
theorem T_Mo_customer {Z : ZT} (X : CX Z Y_Mo_customer) {hp : HP} {a1 : Int32} {a2 : Int32} {p : Int32 × HP} (h : f_Mo_customer hp a1 a2 = some p) (hR : RetI Z Y_Mo_customer .int p.1 p.2) : V Z Y_Mo_customer hp 0 [(0, .ref (gA (zG Z) 99)), (1, .int a1), (2, .int a2)] [] := by
  unfold f_Mo_customer at h
  refine R_aload_n X 0 d_Mo_customer_0 rfl ?_
  refine R_iload_n X 1 d_Mo_customer_1 rfl ?_
  obtain ⟨p2, e1, h⟩ := ob h
  refine R_vcall (ci := 7) (k := 99) (As := [.int a1]) (st := []) X (M_Mo_isCustomer e1) tw_878 cf_Mo_isCustomer (of_decide_eq_true rfl) rfl rfl rfl rfl rfl d_Mo_customer_2 ?_
  refine R_ifne (tgt := 11) X d_Mo_customer_5 rfl (fun c3 => ?_) (fun c3 => ?_)
  · replace h := (if_neg c3).symm.trans h
    refine R_iload_n X 2 d_Mo_customer_11 rfl ?_
    by_cases c4 : a2 = 0
    · replace h := (if_pos c4).symm.trans h
      refine R_swIn (tgt := 48) X d_Mo_customer_12 0 (by rw [c4]; rfl) (by decide) (by decide) rfl rfl ?_
      refine R_aload_n X 0 d_Mo_customer_48 rfl ?_
      refine R_getR (ci := 7) X rfl iMo_ok (of_decide_eq_true rfl) rfl 0 rfl rfl tw_671 d_Mo_customer_49 ?_
      refine R_iconst (v := (1 : Int32)) X d_Mo_customer_52 rfl ?_
      refine R_iload_n X 1 d_Mo_customer_53 rfl ?_
      refine R_iadd X d_Mo_customer_54 ?_
      refine V_pc (pc' := 55) rfl ?_
      obtain ⟨i5, h⟩ := ck h
      refine R_iald (n := 736) X (of_decide_eq_true rfl) rfl i5 d_Mo_customer_55 ?_
      refine R_sipush (v := (10000 : Int32)) X d_Mo_customer_56 rfl ?_
      refine R_iadd X d_Mo_customer_59 ?_
      exact R_ret hR h d_Mo_customer_60
    replace h := (if_neg c4).symm.trans h
    by_cases c6 : a2 = 1
    · replace h := (if_pos c6).symm.trans h
      refine R_swIn (tgt := 61) X d_Mo_customer_12 1 (by rw [c6]; rfl) (by decide) (by decide) rfl rfl ?_
      refine R_aload_n X 0 d_Mo_customer_61 rfl ?_
      refine R_iload_n X 1 d_Mo_customer_62 rfl ?_
      obtain ⟨p8, e7, h⟩ := ob h
      refine R_vcall (ci := 7) (k := 99) (As := [.int a1]) (st := []) X (M_Mo_thereOf e7) tw_841 cf_Mo_thereOf (of_decide_eq_true rfl) rfl rfl rfl rfl rfl d_Mo_customer_63 ?_
      exact R_ret hR h d_Mo_customer_66
    replace h := (if_neg c6).symm.trans h
    by_cases c9 : a2 = 2
    · replace h := (if_pos c9).symm.trans h
      refine R_swIn (tgt := 67) X d_Mo_customer_12 2 (by rw [c9]; rfl) (by decide) (by decide) rfl rfl ?_
      refine R_aload_n X 0 d_Mo_customer_67 rfl ?_
      refine R_getR (ci := 7) X rfl iMo_ok (of_decide_eq_true rfl) rfl 6 rfl rfl tw_677 d_Mo_customer_68 ?_
      refine R_iload_n X 1 d_Mo_customer_71 rfl ?_
      obtain ⟨i10, h⟩ := ck h
      refine R_iald (n := 5) X (of_decide_eq_true rfl) rfl i10 d_Mo_customer_72 ?_
      exact R_ret hR h d_Mo_customer_73
    replace h := (if_neg c9).symm.trans h
    by_cases c11 : a2 = 3
    · replace h := (if_pos c11).symm.trans h
      refine R_swIn (tgt := 74) X d_Mo_customer_12 3 (by rw [c11]; rfl) (by decide) (by decide) rfl rfl ?_
      refine R_aload_n X 0 d_Mo_customer_74 rfl ?_
      refine R_getR (ci := 7) X rfl iMo_ok (of_decide_eq_true rfl) rfl 7 rfl rfl tw_678 d_Mo_customer_75 ?_
      refine R_iload_n X 1 d_Mo_customer_78 rfl ?_
      obtain ⟨i12, h⟩ := ck h
      refine R_iald (n := 5) X (of_decide_eq_true rfl) rfl i12 d_Mo_customer_79 ?_
      exact R_ret hR h d_Mo_customer_80
    replace h := (if_neg c11).symm.trans h
    by_cases c13 : a2 = 4
    · replace h := (if_pos c13).symm.trans h
      refine R_swIn (tgt := 81) X d_Mo_customer_12 4 (by rw [c13]; rfl) (by decide) (by decide) rfl rfl ?_
      refine R_aload_n X 0 d_Mo_customer_81 rfl ?_
      refine R_iload_n X 1 d_Mo_customer_82 rfl ?_
      obtain ⟨p15, e14, h⟩ := ob h
      refine R_vcall (ci := 7) (k := 99) (As := [.int a1]) (st := []) X (M_Mo_net e14) tw_853 cf_Mo_net (of_decide_eq_true rfl) rfl rfl rfl rfl rfl d_Mo_customer_83 ?_
      refine R_ldc (v := (100000 : Int32)) X tw_882 d_Mo_customer_86 ?_
      refine R_iadd X d_Mo_customer_88 ?_
      refine V_pc (pc' := 89) rfl ?_
      exact R_ret hR h d_Mo_customer_89
    replace h := (if_neg c13).symm.trans h
    refine R_swOut (tgt := 90) X d_Mo_customer_12 (sw_def 5 (by decide) (fun k hk => by
      match k, hk with
      | 0, _ => exact c4
      | 1, _ => exact c6
      | 2, _ => exact c9
      | 3, _ => exact c11
      | 4, _ => exact c13
      | k + 5, hk => exact absurd hk (by omega))) rfl ?_
    refine R_ldc (v := (-1000000002 : Int32)) X tw_785 d_Mo_customer_90 ?_
    exact R_ret hR h d_Mo_customer_92
  · replace h := (if_pos c3).symm.trans h
    refine R_ldc (v := (-1000000001 : Int32)) X tw_873 d_Mo_customer_8 ?_
    exact R_ret hR h d_Mo_customer_10
theorem M_Mo_customer {G : GT} {hp : HP} {a1 : Int32} {a2 : Int32} {p : Int32 × HP} (h : f_Mo_customer hp a1 a2 = some p) : MI G y_Mo_customer Y_Mo_customer .int [.ref (gA G 99), .int a1, .int a2] hp p.1 p.2 := MI_of rfl (fun Z hz X hR => by subst hz; exact T_Mo_customer X h hR)
theorem d_Mo_owes_0 : decode prog_9_method_33_code 0 = .ok (.aload_n 0, 1) := by decide +kernel
theorem d_Mo_owes_1 : decode prog_9_method_33_code 1 = .ok (.iload_n 1, 1) := by decide +kernel
theorem d_Mo_owes_2 : decode prog_9_method_33_code 2 = .ok (.iload_n 2, 1) := by decide +kernel
theorem d_Mo_owes_3 : decode prog_9_method_33_code 3 = .ok (.invokevirtual 191, 3) := by decide +kernel
theorem d_Mo_owes_6 : decode prog_9_method_33_code 6 = .ok (.ifCond .eq (22), 3) := by decide +kernel
theorem d_Mo_owes_9 : decode prog_9_method_33_code 9 = .ok (.aload_n 0, 1) := by decide +kernel
theorem d_Mo_owes_10 : decode prog_9_method_33_code 10 = .ok (.getfield 7, 3) := by decide +kernel
theorem d_Mo_owes_13 : decode prog_9_method_33_code 13 = .ok (.bipush (6), 2) := by decide +kernel
theorem d_Mo_owes_15 : decode prog_9_method_33_code 15 = .ok (.iconst 5, 1) := by decide +kernel
theorem d_Mo_owes_16 : decode prog_9_method_33_code 16 = .ok (.iload_n 1, 1) := by decide +kernel
theorem d_Mo_owes_17 : decode prog_9_method_33_code 17 = .ok (.imul, 1) := by decide +kernel
theorem d_Mo_owes_18 : decode prog_9_method_33_code 18 = .ok (.iadd, 1) := by decide +kernel
theorem d_Mo_owes_19 : decode prog_9_method_33_code 19 = .ok (.iload_n 2, 1) := by decide +kernel
theorem d_Mo_owes_20 : decode prog_9_method_33_code 20 = .ok (.iadd, 1) := by decide +kernel
theorem d_Mo_owes_21 : decode prog_9_method_33_code 21 = .ok (.iaload, 1) := by decide +kernel
theorem d_Mo_owes_22 : decode prog_9_method_33_code 22 = .ok (.ldc 190, 2) := by decide +kernel
theorem d_Mo_owes_24 : decode prog_9_method_33_code 24 = .ok (.iadd, 1) := by decide +kernel
theorem d_Mo_owes_25 : decode prog_9_method_33_code 25 = .ok (.goto (5), 3) := by decide +kernel
theorem d_Mo_owes_28 : decode prog_9_method_33_code 28 = .ok (.ldc 189, 2) := by decide +kernel
theorem d_Mo_owes_30 : decode prog_9_method_33_code 30 = .ok (.ireturn, 1) := by decide +kernel
set_option maxRecDepth 20000 in
set_option maxHeartbeats 2000000 in
theorem T_Mo_owes {Z : ZT} (X : CX Z Y_Mo_owes) {hp : HP} {a1 : Int32} {a2 : Int32} {p : Int32 × HP} (h : f_Mo_owes hp a1 a2 = some p) (hR : RetI Z Y_Mo_owes .int p.1 p.2) : V Z Y_Mo_owes hp 0 [(0, .ref (gA (zG Z) 99)), (1, .int a1), (2, .int a2)] [] := by
  unfold f_Mo_owes at h
  refine R_aload_n X 0 d_Mo_owes_0 rfl ?_
  refine R_iload_n X 1 d_Mo_owes_1 rfl ?_
  refine R_iload_n X 2 d_Mo_owes_2 rfl ?_
  obtain ⟨p2, e1, h⟩ := ob h
  refine R_vcall (ci := 7) (k := 99) (As := [.int a1, .int a2]) (st := []) X (M_Mo_areTwo e1) tw_887 cf_Mo_areTwo (of_decide_eq_true rfl) rfl rfl rfl rfl rfl d_Mo_owes_3 ?_
  refine R_ifeq (tgt := 28) X d_Mo_owes_6 rfl (fun c3 => ?_) (fun c3 => ?_)
  · replace h := (if_pos c3).symm.trans h
    refine R_ldc (v := (-1000000001 : Int32)) X tw_873 d_Mo_owes_28 ?_
    exact R_ret hR h d_Mo_owes_30
  · replace h := (if_neg c3).symm.trans h
    refine R_aload_n X 0 d_Mo_owes_9 rfl ?_
    refine R_getR (ci := 7) X rfl iMo_ok (of_decide_eq_true rfl) rfl 0 rfl rfl tw_671 d_Mo_owes_10 ?_
    refine R_bipush (v := (6 : Int32)) X d_Mo_owes_13 rfl ?_
    refine R_iconst (v := (5 : Int32)) X d_Mo_owes_15 rfl ?_
    refine R_iload_n X 1 d_Mo_owes_16 rfl ?_
    refine V_pc (pc' := 17) rfl ?_
    refine R_imul X d_Mo_owes_17 ?_
    refine R_iadd X d_Mo_owes_18 ?_
    refine R_iload_n X 2 d_Mo_owes_19 rfl ?_
    refine R_iadd X d_Mo_owes_20 ?_
    obtain ⟨i4, h⟩ := ck h
    refine R_iald (n := 736) X (of_decide_eq_true rfl) rfl i4 d_Mo_owes_21 ?_
    refine R_ldc (v := (100000 : Int32)) X tw_882 d_Mo_owes_22 ?_
    refine V_pc (pc' := 24) rfl ?_
    refine R_iadd X d_Mo_owes_24 ?_
    refine R_goto (tgt := 30) X d_Mo_owes_25 rfl ?_
    exact R_ret hR h d_Mo_owes_30
theorem M_Mo_owes {G : GT} {hp : HP} {a1 : Int32} {a2 : Int32} {p : Int32 × HP} (h : f_Mo_owes hp a1 a2 = some p) : MI G y_Mo_owes Y_Mo_owes .int [.ref (gA G 99), .int a1, .int a2] hp p.1 p.2 := MI_of rfl (fun Z hz X hR => by subst hz; exact T_Mo_owes X h hR)
theorem d_Mo_canBy_0 : decode prog_9_method_34_code 0 = .ok (.aload_n 0, 1) := by decide +kernel
theorem d_Mo_canBy_1 : decode prog_9_method_34_code 1 = .ok (.getfield 26, 3) := by decide +kernel
theorem d_Mo_canBy_4 : decode prog_9_method_34_code 4 = .ok (.iload_n 2, 1) := by decide +kernel
theorem d_Mo_canBy_5 : decode prog_9_method_34_code 5 = .ok (.iaload, 1) := by decide +kernel
theorem d_Mo_canBy_6 : decode prog_9_method_34_code 6 = .ok (.aload_n 0, 1) := by decide +kernel
theorem d_Mo_canBy_7 : decode prog_9_method_34_code 7 = .ok (.iload_n 1, 1) := by decide +kernel
theorem d_Mo_canBy_8 : decode prog_9_method_34_code 8 = .ok (.invokevirtual 164, 3) := by decide +kernel
theorem d_Mo_canBy_11 : decode prog_9_method_34_code 11 = .ok (.iconst (-1), 1) := by decide +kernel
theorem d_Mo_canBy_12 : decode prog_9_method_34_code 12 = .ok (.ixor, 1) := by decide +kernel
theorem d_Mo_canBy_13 : decode prog_9_method_34_code 13 = .ok (.iand, 1) := by decide +kernel
theorem d_Mo_canBy_14 : decode prog_9_method_34_code 14 = .ok (.ifCond .ne (7), 3) := by decide +kernel
theorem d_Mo_canBy_17 : decode prog_9_method_34_code 17 = .ok (.iconst 1, 1) := by decide +kernel
theorem d_Mo_canBy_18 : decode prog_9_method_34_code 18 = .ok (.goto (4), 3) := by decide +kernel
theorem d_Mo_canBy_21 : decode prog_9_method_34_code 21 = .ok (.iconst 0, 1) := by decide +kernel
theorem d_Mo_canBy_22 : decode prog_9_method_34_code 22 = .ok (.ireturn, 1) := by decide +kernel
set_option maxRecDepth 20000 in
set_option maxHeartbeats 2000000 in
theorem T_Mo_canBy {Z : ZT} (X : CX Z Y_Mo_canBy) {hp : HP} {a1 : Int32} {a2 : Int32} {p : Int32 × HP} (h : f_Mo_canBy hp a1 a2 = some p) (hR : RetI Z Y_Mo_canBy .boolean p.1 p.2) : V Z Y_Mo_canBy hp 0 [(0, .ref (gA (zG Z) 99)), (1, .int a1), (2, .int a2)] [] := by
  unfold f_Mo_canBy at h
  refine R_aload_n X 0 d_Mo_canBy_0 rfl ?_
  refine R_getR (ci := 7) X rfl iMo_ok (of_decide_eq_true rfl) rfl 9 rfl rfl tw_680 d_Mo_canBy_1 ?_
  refine R_iload_n X 2 d_Mo_canBy_4 rfl ?_
  obtain ⟨i1, h⟩ := ck h
  refine R_iald (n := 6) X (of_decide_eq_true rfl) rfl i1 d_Mo_canBy_5 ?_
  refine R_aload_n X 0 d_Mo_canBy_6 rfl ?_
  refine V_pc (pc' := 7) rfl ?_
  refine R_iload_n X 1 d_Mo_canBy_7 rfl ?_
  obtain ⟨p3, e2, h⟩ := ob h
  refine R_vcall (ci := 7) (k := 99) (As := [.int a1]) (st := [.int (hp 105 (a2).toNatClampNeg)]) X (M_Mo_thereBy e2) tw_845 cf_Mo_thereBy (of_decide_eq_true rfl) rfl rfl rfl rfl rfl d_Mo_canBy_8 ?_
  refine R_iconst (v := (-1 : Int32)) X d_Mo_canBy_11 rfl ?_
  refine R_ixor X d_Mo_canBy_12 ?_
  refine R_iand X d_Mo_canBy_13 ?_
  refine R_ifne (tgt := 21) X d_Mo_canBy_14 rfl (fun c4 => ?_) (fun c4 => ?_)
  · replace h := (if_neg c4).symm.trans h
    refine R_iconst (v := (0 : Int32)) X d_Mo_canBy_21 rfl ?_
    exact R_retc hR (by decide) h d_Mo_canBy_22
  · replace h := (if_pos c4).symm.trans h
    refine R_iconst (v := (1 : Int32)) X d_Mo_canBy_17 rfl ?_
    refine R_goto (tgt := 22) X d_Mo_canBy_18 rfl ?_
    exact R_retc hR (by decide) h d_Mo_canBy_22
theorem M_Mo_canBy {G : GT} {hp : HP} {a1 : Int32} {a2 : Int32} {p : Int32 × HP} (h : f_Mo_canBy hp a1 a2 = some p) : MI G y_Mo_canBy Y_Mo_canBy .boolean [.ref (gA G 99), .int a1, .int a2] hp p.1 p.2 := MI_of rfl (fun Z hz X hR => by subst hz; exact T_Mo_canBy X h hR)
theorem d_Mo_can_0 : decode prog_9_method_35_code 0 = .ok (.aload_n 0, 1) := by decide +kernel
theorem d_Mo_can_1 : decode prog_9_method_35_code 1 = .ok (.iload_n 1, 1) := by decide +kernel
theorem d_Mo_can_2 : decode prog_9_method_35_code 2 = .ok (.invokevirtual 79, 3) := by decide +kernel
theorem d_Mo_can_5 : decode prog_9_method_35_code 5 = .ok (.ifCond .eq (11), 3) := by decide +kernel
theorem d_Mo_can_8 : decode prog_9_method_35_code 8 = .ok (.aload_n 0, 1) := by decide +kernel
theorem d_Mo_can_9 : decode prog_9_method_35_code 9 = .ok (.iload_n 2, 1) := by decide +kernel
theorem d_Mo_can_10 : decode prog_9_method_35_code 10 = .ok (.invokevirtual 194, 3) := by decide +kernel
theorem d_Mo_can_13 : decode prog_9_method_35_code 13 = .ok (.ifCond .ne (6), 3) := by decide +kernel
theorem d_Mo_can_16 : decode prog_9_method_35_code 16 = .ok (.ldc 189, 2) := by decide +kernel
theorem d_Mo_can_18 : decode prog_9_method_35_code 18 = .ok (.ireturn, 1) := by decide +kernel
theorem d_Mo_can_19 : decode prog_9_method_35_code 19 = .ok (.aload_n 0, 1) := by decide +kernel
theorem d_Mo_can_20 : decode prog_9_method_35_code 20 = .ok (.aload_n 0, 1) := by decide +kernel
theorem d_Mo_can_21 : decode prog_9_method_35_code 21 = .ok (.getfield 7, 3) := by decide +kernel
theorem d_Mo_can_24 : decode prog_9_method_35_code 24 = .ok (.iconst 1, 1) := by decide +kernel
theorem d_Mo_can_25 : decode prog_9_method_35_code 25 = .ok (.iload_n 1, 1) := by decide +kernel
theorem d_Mo_can_26 : decode prog_9_method_35_code 26 = .ok (.iadd, 1) := by decide +kernel
theorem d_Mo_can_27 : decode prog_9_method_35_code 27 = .ok (.iaload, 1) := by decide +kernel
theorem d_Mo_can_28 : decode prog_9_method_35_code 28 = .ok (.iload_n 2, 1) := by decide +kernel
theorem d_Mo_can_29 : decode prog_9_method_35_code 29 = .ok (.invokevirtual 197, 3) := by decide +kernel
theorem d_Mo_can_32 : decode prog_9_method_35_code 32 = .ok (.ifCond .eq (7), 3) := by decide +kernel
theorem d_Mo_can_35 : decode prog_9_method_35_code 35 = .ok (.iconst 1, 1) := by decide +kernel
theorem d_Mo_can_36 : decode prog_9_method_35_code 36 = .ok (.goto (4), 3) := by decide +kernel
theorem d_Mo_can_39 : decode prog_9_method_35_code 39 = .ok (.iconst 0, 1) := by decide +kernel
theorem d_Mo_can_40 : decode prog_9_method_35_code 40 = .ok (.ireturn, 1) := by decide +kernel
set_option maxRecDepth 20000 in
set_option maxHeartbeats 2000000 in
theorem T_Mo_can {Z : ZT} (X : CX Z Y_Mo_can) {hp : HP} {a1 : Int32} {a2 : Int32} {p : Int32 × HP} (h : f_Mo_can hp a1 a2 = some p) (hR : RetI Z Y_Mo_can .int p.1 p.2) : V Z Y_Mo_can hp 0 [(0, .ref (gA (zG Z) 99)), (1, .int a1), (2, .int a2)] [] := by
  unfold f_Mo_can at h
  refine R_aload_n X 0 d_Mo_can_0 rfl ?_
  refine R_iload_n X 1 d_Mo_can_1 rfl ?_
  obtain ⟨p2, e1, h⟩ := ob h
  refine R_vcall (ci := 7) (k := 99) (As := [.int a1]) (st := []) X (M_Mo_isCustomer e1) tw_878 cf_Mo_isCustomer (of_decide_eq_true rfl) rfl rfl rfl rfl rfl d_Mo_can_2 ?_
  refine R_ifeq (tgt := 16) X d_Mo_can_5 rfl (fun c3 => ?_) (fun c3 => ?_)
  · replace h := (if_pos c3).symm.trans h
    refine R_ldc (v := (-1000000001 : Int32)) X tw_873 d_Mo_can_16 ?_
    exact R_ret hR h d_Mo_can_18
  · replace h := (if_neg c3).symm.trans h
    refine R_aload_n X 0 d_Mo_can_8 rfl ?_
    refine R_iload_n X 2 d_Mo_can_9 rfl ?_
    obtain ⟨p5, e4, h⟩ := ob h
    refine R_vcall (ci := 7) (k := 99) (As := [.int a2]) (st := []) X (M_Mo_isTask e4) tw_895 cf_Mo_isTask (of_decide_eq_true rfl) rfl rfl rfl rfl rfl d_Mo_can_10 ?_
    refine R_ifne (tgt := 19) X d_Mo_can_13 rfl (fun c6 => ?_) (fun c6 => ?_)
    · replace h := (if_neg c6).symm.trans h
      refine R_aload_n X 0 d_Mo_can_19 rfl ?_
      refine R_aload_n X 0 d_Mo_can_20 rfl ?_
      refine R_getR (ci := 7) X rfl iMo_ok (of_decide_eq_true rfl) rfl 0 rfl rfl tw_671 d_Mo_can_21 ?_
      refine R_iconst (v := (1 : Int32)) X d_Mo_can_24 rfl ?_
      refine R_iload_n X 1 d_Mo_can_25 rfl ?_
      refine V_pc (pc' := 26) rfl ?_
      refine R_iadd X d_Mo_can_26 ?_
      obtain ⟨i7, h⟩ := ck h
      refine R_iald (n := 736) X (of_decide_eq_true rfl) rfl i7 d_Mo_can_27 ?_
      refine R_iload_n X 2 d_Mo_can_28 rfl ?_
      obtain ⟨p9, e8, h⟩ := ob h
      refine R_vcall (ci := 7) (k := 99) (As := [.int (p5.2 100 (((1 : Int32) + a1)).toNatClampNeg), .int a2]) (st := []) X (M_Mo_canBy e8) tw_899 cf_Mo_canBy (of_decide_eq_true rfl) rfl rfl rfl rfl rfl d_Mo_can_29 ?_
      refine R_ifeq (tgt := 39) X d_Mo_can_32 rfl (fun c10 => ?_) (fun c10 => ?_)
      · replace h := (if_pos c10).symm.trans h
        refine R_iconst (v := (0 : Int32)) X d_Mo_can_39 rfl ?_
        exact R_ret hR h d_Mo_can_40
      · replace h := (if_neg c10).symm.trans h
        refine R_iconst (v := (1 : Int32)) X d_Mo_can_35 rfl ?_
        refine R_goto (tgt := 40) X d_Mo_can_36 rfl ?_
        exact R_ret hR h d_Mo_can_40
    · replace h := (if_pos c6).symm.trans h
      refine R_ldc (v := (-1000000001 : Int32)) X tw_873 d_Mo_can_16 ?_
      exact R_ret hR h d_Mo_can_18
theorem M_Mo_can {G : GT} {hp : HP} {a1 : Int32} {a2 : Int32} {p : Int32 × HP} (h : f_Mo_can hp a1 a2 = some p) : MI G y_Mo_can Y_Mo_can .int [.ref (gA G 99), .int a1, .int a2] hp p.1 p.2 := MI_of rfl (fun Z hz X hR => by subst hz; exact T_Mo_can X h hR)
theorem d_Mo_minds_0 : decode prog_9_method_36_code 0 = .ok (.aload_n 0, 1) := by decide +kernel
theorem d_Mo_minds_1 : decode prog_9_method_36_code 1 = .ok (.getfield 161, 3) := by decide +kernel
theorem d_Mo_minds_4 : decode prog_9_method_36_code 4 = .ok (.bipush (20), 2) := by decide +kernel
theorem d_Mo_minds_6 : decode prog_9_method_36_code 6 = .ok (.if_icmp .ne (49), 3) := by decide +kernel
theorem d_Mo_minds_9 : decode prog_9_method_36_code 9 = .ok (.iconst 0, 1) := by decide +kernel
theorem d_Mo_minds_10 : decode prog_9_method_36_code 10 = .ok (.istore_n 1, 1) := by decide +kernel
theorem d_Mo_minds_11 : decode prog_9_method_36_code 11 = .ok (.iload_n 1, 1) := by decide +kernel
theorem d_Mo_minds_12 : decode prog_9_method_36_code 12 = .ok (.sipush (608), 3) := by decide +kernel
theorem d_Mo_minds_15 : decode prog_9_method_36_code 15 = .ok (.if_icmp .ge (30), 3) := by decide +kernel
theorem d_Mo_minds_18 : decode prog_9_method_36_code 18 = .ok (.aload_n 0, 1) := by decide +kernel
theorem d_Mo_minds_19 : decode prog_9_method_36_code 19 = .ok (.getfield 7, 3) := by decide +kernel
theorem d_Mo_minds_22 : decode prog_9_method_36_code 22 = .ok (.bipush (96), 2) := by decide +kernel
theorem d_Mo_minds_24 : decode prog_9_method_36_code 24 = .ok (.iload_n 1, 1) := by decide +kernel
theorem d_Mo_minds_25 : decode prog_9_method_36_code 25 = .ok (.iadd, 1) := by decide +kernel
theorem d_Mo_minds_26 : decode prog_9_method_36_code 26 = .ok (.aload_n 0, 1) := by decide +kernel
theorem d_Mo_minds_27 : decode prog_9_method_36_code 27 = .ok (.getfield 7, 3) := by decide +kernel
theorem d_Mo_minds_30 : decode prog_9_method_36_code 30 = .ok (.bipush (96), 2) := by decide +kernel
theorem d_Mo_minds_32 : decode prog_9_method_36_code 32 = .ok (.iload_n 1, 1) := by decide +kernel
theorem d_Mo_minds_33 : decode prog_9_method_36_code 33 = .ok (.iadd, 1) := by decide +kernel
theorem d_Mo_minds_34 : decode prog_9_method_36_code 34 = .ok (.bipush (32), 2) := by decide +kernel
theorem d_Mo_minds_36 : decode prog_9_method_36_code 36 = .ok (.iadd, 1) := by decide +kernel
theorem d_Mo_minds_37 : decode prog_9_method_36_code 37 = .ok (.iaload, 1) := by decide +kernel
theorem d_Mo_minds_38 : decode prog_9_method_36_code 38 = .ok (.iastore, 1) := by decide +kernel
theorem d_Mo_minds_39 : decode prog_9_method_36_code 39 = .ok (.iinc 1 (1), 3) := by decide +kernel
theorem d_Mo_minds_42 : decode prog_9_method_36_code 42 = .ok (.goto (-31), 3) := by decide +kernel
theorem d_Mo_minds_45 : decode prog_9_method_36_code 45 = .ok (.aload_n 0, 1) := by decide +kernel
theorem d_Mo_minds_46 : decode prog_9_method_36_code 46 = .ok (.dup, 1) := by decide +kernel
theorem d_Mo_minds_47 : decode prog_9_method_36_code 47 = .ok (.getfield 161, 3) := by decide +kernel
theorem d_Mo_minds_50 : decode prog_9_method_36_code 50 = .ok (.iconst 1, 1) := by decide +kernel
theorem d_Mo_minds_51 : decode prog_9_method_36_code 51 = .ok (.isub, 1) := by decide +kernel
theorem d_Mo_minds_52 : decode prog_9_method_36_code 52 = .ok (.putfield 161, 3) := by decide +kernel
theorem d_Mo_minds_55 : decode prog_9_method_36_code 55 = .ok (.aload_n 0, 1) := by decide +kernel
theorem d_Mo_minds_56 : decode prog_9_method_36_code 56 = .ok (.iconst 0, 1) := by decide +kernel
theorem d_Mo_minds_57 : decode prog_9_method_36_code 57 = .ok (.bipush (96), 2) := by decide +kernel
theorem d_Mo_minds_59 : decode prog_9_method_36_code 59 = .ok (.bipush (32), 2) := by decide +kernel
theorem d_Mo_minds_61 : decode prog_9_method_36_code 61 = .ok (.aload_n 0, 1) := by decide +kernel
theorem d_Mo_minds_62 : decode prog_9_method_36_code 62 = .ok (.getfield 161, 3) := by decide +kernel
theorem d_Mo_minds_65 : decode prog_9_method_36_code 65 = .ok (.imul, 1) := by decide +kernel
theorem d_Mo_minds_66 : decode prog_9_method_36_code 66 = .ok (.iadd, 1) := by decide +kernel
theorem d_Mo_minds_67 : decode prog_9_method_36_code 67 = .ok (.invokevirtual 200, 3) := by decide +kernel
theorem d_Mo_minds_70 : decode prog_9_method_36_code 70 = .ok (.aload_n 0, 1) := by decide +kernel
theorem d_Mo_minds_71 : decode prog_9_method_36_code 71 = .ok (.dup, 1) := by decide +kernel
theorem d_Mo_minds_72 : decode prog_9_method_36_code 72 = .ok (.getfield 161, 3) := by decide +kernel
theorem d_Mo_minds_75 : decode prog_9_method_36_code 75 = .ok (.iconst 1, 1) := by decide +kernel
theorem d_Mo_minds_76 : decode prog_9_method_36_code 76 = .ok (.iadd, 1) := by decide +kernel
theorem d_Mo_minds_77 : decode prog_9_method_36_code 77 = .ok (.putfield 161, 3) := by decide +kernel
theorem d_Mo_minds_80 : decode prog_9_method_36_code 80 = .ok (.return_, 1) := by decide +kernel
set_option maxRecDepth 20000 in
set_option maxHeartbeats 2000000 in
theorem T_Mo_minds_L11 {Z : ZT} (X : CX Z Y_Mo_minds) {p : Int32 × HP} (hR : RetV Z Y_Mo_minds p.2) {K : HP → Option (Int32 × HP)} (hK : ∀ (hp : HP), K hp = some p → V Z Y_Mo_minds hp 45 [(0, .ref (gA (zG Z) 99))] []) : ∀ (n : Nat) (hp : HP) (x1 : Int32), f_Mo_minds_L11 K n hp x1 = some p → V Z Y_Mo_minds hp 11 [(0, .ref (gA (zG Z) 99)), (1, .int x1)] [] := by
  intro n
  induction n with
  | zero =>
    intro hp x1 h
    cases h
  | succ n ih =>
    intro hp x1 h
    replace h : f_Mo_minds_L11 K (n + 1) hp x1 = some p := h
    unfold f_Mo_minds_L11 at h
    refine R_iload_n X 1 d_Mo_minds_11 rfl ?_
    refine R_sipush (v := (608 : Int32)) X d_Mo_minds_12 rfl ?_
    refine R_icmp_ge (tgt := 45) X d_Mo_minds_15 rfl (fun c2 => ?_) (fun c2 => ?_)
    · replace h := (if_pos c2).symm.trans h
      refine V_pc (pc' := 45) rfl (R_loc (L' := [(0, .ref (gA (zG Z) 99))]) [0] rfl ?_)
      exact hK hp h
    · replace h := (if_neg c2).symm.trans h
      refine R_aload_n X 0 d_Mo_minds_18 rfl ?_
      refine R_getR (ci := 7) X rfl iMo_ok (of_decide_eq_true rfl) rfl 0 rfl rfl tw_671 d_Mo_minds_19 ?_
      refine R_bipush (v := (96 : Int32)) X d_Mo_minds_22 rfl ?_
      refine R_iload_n X 1 d_Mo_minds_24 rfl ?_
      refine R_iadd X d_Mo_minds_25 ?_
      refine V_pc (pc' := 26) rfl ?_
      refine R_aload_n X 0 d_Mo_minds_26 rfl ?_
      refine R_getR (ci := 7) X rfl iMo_ok (of_decide_eq_true rfl) rfl 0 rfl rfl tw_671 d_Mo_minds_27 ?_
      refine R_bipush (v := (96 : Int32)) X d_Mo_minds_30 rfl ?_
      refine R_iload_n X 1 d_Mo_minds_32 rfl ?_
      refine R_iadd X d_Mo_minds_33 ?_
      refine R_bipush (v := (32 : Int32)) X d_Mo_minds_34 rfl ?_
      refine V_pc (pc' := 36) rfl ?_
      refine R_iadd X d_Mo_minds_36 ?_
      obtain ⟨i3, h⟩ := ck h
      refine R_iald (n := 736) X (of_decide_eq_true rfl) rfl i3 d_Mo_minds_37 ?_
      obtain ⟨i4, h⟩ := ck h
      refine R_iast (n := 736) X (of_decide_eq_true rfl) rfl i4 d_Mo_minds_38 ?_
      refine R_iinc (v := (x1 + 1)) (L' := [(1, .int (x1 + 1)), (0, .ref (gA (zG Z) 99))]) X 1 d_Mo_minds_39 rfl rfl (by decide) rfl ?_
      refine R_goto (tgt := 11) X d_Mo_minds_42 rfl ?_
      refine V_pc (pc' := 11) rfl (R_loc (L' := [(0, .ref (gA (zG Z) 99)), (1, .int (x1 + 1))]) [1, 0] rfl ?_)
      exact ih (up hp 100 (((96 : Int32) + x1)).toNatClampNeg (hp 100 ((((96 : Int32) + x1) + (32 : Int32))).toNatClampNeg)) (x1 + 1) h
set_option maxRecDepth 20000 in
set_option maxHeartbeats 2000000 in
theorem T_Mo_minds {Z : ZT} (X : CX Z Y_Mo_minds) {hp : HP} {p : Int32 × HP} (h : f_Mo_minds hp = some p) (hR : RetV Z Y_Mo_minds p.2) : V Z Y_Mo_minds hp 0 [(0, .ref (gA (zG Z) 99))] [] := by
  unfold f_Mo_minds at h
  refine R_aload_n X 0 d_Mo_minds_0 rfl ?_
  refine R_getI (ci := 7) X rfl iMo_ok (of_decide_eq_true rfl) rfl 2 rfl rfl tw_673 d_Mo_minds_1 ?_
  refine R_bipush (v := (20 : Int32)) X d_Mo_minds_4 rfl ?_
  refine R_icmp_ne (tgt := 55) X d_Mo_minds_6 rfl (fun c1 => ?_) (fun c1 => ?_)
  · replace h := (if_neg c1).symm.trans h
    refine R_aload_n X 0 d_Mo_minds_55 rfl ?_
    refine R_iconst (v := (0 : Int32)) X d_Mo_minds_56 rfl ?_
    refine R_bipush (v := (96 : Int32)) X d_Mo_minds_57 rfl ?_
    refine R_bipush (v := (32 : Int32)) X d_Mo_minds_59 rfl ?_
    refine R_aload_n X 0 d_Mo_minds_61 rfl ?_
    refine V_pc (pc' := 62) rfl ?_
    refine R_getI (ci := 7) X rfl iMo_ok (of_decide_eq_true rfl) rfl 2 rfl rfl tw_673 d_Mo_minds_62 ?_
    refine R_imul X d_Mo_minds_65 ?_
    refine R_iadd X d_Mo_minds_66 ?_
    obtain ⟨p9, e8, h⟩ := ob h
    refine R_vcallv (ci := 7) (k := 99) (As := [.int (0 : Int32), .int ((96 : Int32) + ((32 : Int32) * (hp 99 2)))]) (st := []) X (M_Mo_copy e8) tw_908 cf_Mo_copy (of_decide_eq_true rfl) rfl rfl rfl rfl rfl d_Mo_minds_67 ?_
    refine R_aload_n X 0 d_Mo_minds_70 rfl ?_
    refine R_dup X d_Mo_minds_71 rfl ?_
    refine V_pc (pc' := 72) rfl ?_
    refine R_getI (ci := 7) X rfl iMo_ok (of_decide_eq_true rfl) rfl 2 rfl rfl tw_673 d_Mo_minds_72 ?_
    refine R_iconst (v := (1 : Int32)) X d_Mo_minds_75 rfl ?_
    refine R_iadd X d_Mo_minds_76 ?_
    refine R_putI (ci := 7) X rfl iMo_ok yMo_ok nMo_ok (of_decide_eq_true rfl) rfl 2 rfl rfl rfl rfl tw_673 d_Mo_minds_77 ?_
    exact R_retv hR h d_Mo_minds_80
  · replace h := (if_pos c1).symm.trans h
    refine R_iconst (v := (0 : Int32)) X d_Mo_minds_9 rfl ?_
    refine R_istore_n (L' := [(1, .int (0 : Int32)), (0, .ref (gA (zG Z) 99))]) X d_Mo_minds_10 (by decide) rfl ?_
    refine V_pc (pc' := 11) rfl (R_loc (L' := [(0, .ref (gA (zG Z) 99)), (1, .int (0 : Int32))]) [1, 0] rfl ?_)
    refine T_Mo_minds_L11 X hR (fun hp5 h => ?_) _ hp (0 : Int32) h
    refine R_aload_n X 0 d_Mo_minds_45 rfl ?_
    refine R_dup X d_Mo_minds_46 rfl ?_
    refine R_getI (ci := 7) X rfl iMo_ok (of_decide_eq_true rfl) rfl 2 rfl rfl tw_673 d_Mo_minds_47 ?_
    refine R_iconst (v := (1 : Int32)) X d_Mo_minds_50 rfl ?_
    refine R_isub X d_Mo_minds_51 ?_
    refine V_pc (pc' := 52) rfl ?_
    refine R_putI (ci := 7) X rfl iMo_ok yMo_ok nMo_ok (of_decide_eq_true rfl) rfl 2 rfl rfl rfl rfl tw_673 d_Mo_minds_52 ?_
    refine R_aload_n X 0 d_Mo_minds_55 rfl ?_
    refine R_iconst (v := (0 : Int32)) X d_Mo_minds_56 rfl ?_
    refine R_bipush (v := (96 : Int32)) X d_Mo_minds_57 rfl ?_
    refine R_bipush (v := (32 : Int32)) X d_Mo_minds_59 rfl ?_
    refine R_aload_n X 0 d_Mo_minds_61 rfl ?_
    refine V_pc (pc' := 62) rfl ?_
    refine R_getI (ci := 7) X rfl iMo_ok (of_decide_eq_true rfl) rfl 2 rfl rfl tw_673 d_Mo_minds_62 ?_
    refine R_imul X d_Mo_minds_65 ?_
    refine R_iadd X d_Mo_minds_66 ?_
    obtain ⟨p7, e6, h⟩ := ob h
    refine R_vcallv (ci := 7) (k := 99) (As := [.int (0 : Int32), .int ((96 : Int32) + ((32 : Int32) * ((up hp5 99 2 ((hp5 99 2) - (1 : Int32))) 99 2)))]) (st := []) X (M_Mo_copy e6) tw_908 cf_Mo_copy (of_decide_eq_true rfl) rfl rfl rfl rfl rfl d_Mo_minds_67 ?_
    refine R_aload_n X 0 d_Mo_minds_70 rfl ?_
    refine R_dup X d_Mo_minds_71 rfl ?_
    refine V_pc (pc' := 72) rfl ?_
    refine R_getI (ci := 7) X rfl iMo_ok (of_decide_eq_true rfl) rfl 2 rfl rfl tw_673 d_Mo_minds_72 ?_
    refine R_iconst (v := (1 : Int32)) X d_Mo_minds_75 rfl ?_
    refine R_iadd X d_Mo_minds_76 ?_
    refine R_putI (ci := 7) X rfl iMo_ok yMo_ok nMo_ok (of_decide_eq_true rfl) rfl 2 rfl rfl rfl rfl tw_673 d_Mo_minds_77 ?_
    exact R_retv hR h d_Mo_minds_80
theorem M_Mo_minds {G : GT} {hp : HP} {p : Int32 × HP} (h : f_Mo_minds hp = some p) : MV G y_Mo_minds Y_Mo_minds [.ref (gA G 99)] hp p.2 := MV_of rfl (fun Z hz X hR => by subst hz; exact T_Mo_minds X h hR)
theorem d_Mo_undo_0 : decode prog_9_method_37_code 0 = .ok (.aload_n 0, 1) := by decide +kernel
theorem d_Mo_undo_1 : decode prog_9_method_37_code 1 = .ok (.getfield 161, 3) := by decide +kernel
theorem d_Mo_undo_4 : decode prog_9_method_37_code 4 = .ok (.ifCond .ne (6), 3) := by decide +kernel
theorem d_Mo_undo_7 : decode prog_9_method_37_code 7 = .ok (.ldc 204, 2) := by decide +kernel
theorem d_Mo_undo_9 : decode prog_9_method_37_code 9 = .ok (.ireturn, 1) := by decide +kernel
theorem d_Mo_undo_10 : decode prog_9_method_37_code 10 = .ok (.aload_n 0, 1) := by decide +kernel
theorem d_Mo_undo_11 : decode prog_9_method_37_code 11 = .ok (.getfield 7, 3) := by decide +kernel
theorem d_Mo_undo_14 : decode prog_9_method_37_code 14 = .ok (.bipush (31), 2) := by decide +kernel
theorem d_Mo_undo_16 : decode prog_9_method_37_code 16 = .ok (.iaload, 1) := by decide +kernel
theorem d_Mo_undo_17 : decode prog_9_method_37_code 17 = .ok (.istore_n 1, 1) := by decide +kernel
theorem d_Mo_undo_18 : decode prog_9_method_37_code 18 = .ok (.aload_n 0, 1) := by decide +kernel
theorem d_Mo_undo_19 : decode prog_9_method_37_code 19 = .ok (.dup, 1) := by decide +kernel
theorem d_Mo_undo_20 : decode prog_9_method_37_code 20 = .ok (.getfield 161, 3) := by decide +kernel
theorem d_Mo_undo_23 : decode prog_9_method_37_code 23 = .ok (.iconst 1, 1) := by decide +kernel
theorem d_Mo_undo_24 : decode prog_9_method_37_code 24 = .ok (.isub, 1) := by decide +kernel
theorem d_Mo_undo_25 : decode prog_9_method_37_code 25 = .ok (.putfield 161, 3) := by decide +kernel
theorem d_Mo_undo_28 : decode prog_9_method_37_code 28 = .ok (.aload_n 0, 1) := by decide +kernel
theorem d_Mo_undo_29 : decode prog_9_method_37_code 29 = .ok (.bipush (96), 2) := by decide +kernel
theorem d_Mo_undo_31 : decode prog_9_method_37_code 31 = .ok (.bipush (32), 2) := by decide +kernel
theorem d_Mo_undo_33 : decode prog_9_method_37_code 33 = .ok (.aload_n 0, 1) := by decide +kernel
theorem d_Mo_undo_34 : decode prog_9_method_37_code 34 = .ok (.getfield 161, 3) := by decide +kernel
theorem d_Mo_undo_37 : decode prog_9_method_37_code 37 = .ok (.imul, 1) := by decide +kernel
theorem d_Mo_undo_38 : decode prog_9_method_37_code 38 = .ok (.iadd, 1) := by decide +kernel
theorem d_Mo_undo_39 : decode prog_9_method_37_code 39 = .ok (.iconst 0, 1) := by decide +kernel
theorem d_Mo_undo_40 : decode prog_9_method_37_code 40 = .ok (.invokevirtual 200, 3) := by decide +kernel
theorem d_Mo_undo_43 : decode prog_9_method_37_code 43 = .ok (.aload_n 0, 1) := by decide +kernel
theorem d_Mo_undo_44 : decode prog_9_method_37_code 44 = .ok (.getfield 7, 3) := by decide +kernel
theorem d_Mo_undo_47 : decode prog_9_method_37_code 47 = .ok (.bipush (31), 2) := by decide +kernel
theorem d_Mo_undo_49 : decode prog_9_method_37_code 49 = .ok (.iload_n 1, 1) := by decide +kernel
theorem d_Mo_undo_50 : decode prog_9_method_37_code 50 = .ok (.iastore, 1) := by decide +kernel
theorem d_Mo_undo_51 : decode prog_9_method_37_code 51 = .ok (.aload_n 0, 1) := by decide +kernel
theorem d_Mo_undo_52 : decode prog_9_method_37_code 52 = .ok (.getfield 161, 3) := by decide +kernel
theorem d_Mo_undo_55 : decode prog_9_method_37_code 55 = .ok (.ireturn, 1) := by decide +kernel
set_option maxRecDepth 20000 in
set_option maxHeartbeats 2000000 in
theorem T_Mo_undo {Z : ZT} (X : CX Z Y_Mo_undo) {hp : HP} {p : Int32 × HP} (h : f_Mo_undo hp = some p) (hR : RetI Z Y_Mo_undo .int p.1 p.2) : V Z Y_Mo_undo hp 0 [(0, .ref (gA (zG Z) 99))] [] := by
  unfold f_Mo_undo at h
  refine R_aload_n X 0 d_Mo_undo_0 rfl ?_
  refine R_getI (ci := 7) X rfl iMo_ok (of_decide_eq_true rfl) rfl 2 rfl rfl tw_673 d_Mo_undo_1 ?_
  refine R_ifne (tgt := 10) X d_Mo_undo_4 rfl (fun c1 => ?_) (fun c1 => ?_)
  · replace h := (if_neg c1).symm.trans h
    refine R_aload_n X 0 d_Mo_undo_10 rfl ?_
    refine R_getR (ci := 7) X rfl iMo_ok (of_decide_eq_true rfl) rfl 0 rfl rfl tw_671 d_Mo_undo_11 ?_
    refine R_bipush (v := (31 : Int32)) X d_Mo_undo_14 rfl ?_
    refine R_iald (n := 736) X (of_decide_eq_true rfl) rfl rfl d_Mo_undo_16 ?_
    refine R_istore_n (L' := [(1, .int (hp 100 31)), (0, .ref (gA (zG Z) 99))]) X d_Mo_undo_17 (by decide) rfl ?_
    refine V_pc (pc' := 18) rfl ?_
    refine R_aload_n X 1 d_Mo_undo_18 rfl ?_
    refine R_dup X d_Mo_undo_19 rfl ?_
    refine R_getI (ci := 7) X rfl iMo_ok (of_decide_eq_true rfl) rfl 2 rfl rfl tw_673 d_Mo_undo_20 ?_
    refine R_iconst (v := (1 : Int32)) X d_Mo_undo_23 rfl ?_
    refine R_isub X d_Mo_undo_24 ?_
    refine R_putI (ci := 7) X rfl iMo_ok yMo_ok nMo_ok (of_decide_eq_true rfl) rfl 2 rfl rfl rfl rfl tw_673 d_Mo_undo_25 ?_
    refine V_pc (pc' := 28) rfl ?_
    refine R_aload_n X 1 d_Mo_undo_28 rfl ?_
    refine R_bipush (v := (96 : Int32)) X d_Mo_undo_29 rfl ?_
    refine R_bipush (v := (32 : Int32)) X d_Mo_undo_31 rfl ?_
    refine R_aload_n X 1 d_Mo_undo_33 rfl ?_
    refine R_getI (ci := 7) X rfl iMo_ok (of_decide_eq_true rfl) rfl 2 rfl rfl tw_673 d_Mo_undo_34 ?_
    refine R_imul X d_Mo_undo_37 ?_
    refine V_pc (pc' := 38) rfl ?_
    refine R_iadd X d_Mo_undo_38 ?_
    refine R_iconst (v := (0 : Int32)) X d_Mo_undo_39 rfl ?_
    obtain ⟨p3, e2, h⟩ := ob h
    refine R_vcallv (ci := 7) (k := 99) (As := [.int ((96 : Int32) + ((32 : Int32) * ((up hp 99 2 ((hp 99 2) - (1 : Int32))) 99 2))), .int (0 : Int32)]) (st := []) X (M_Mo_copy e2) tw_908 cf_Mo_copy (of_decide_eq_true rfl) rfl rfl rfl rfl rfl d_Mo_undo_40 ?_
    refine R_aload_n X 1 d_Mo_undo_43 rfl ?_
    refine R_getR (ci := 7) X rfl iMo_ok (of_decide_eq_true rfl) rfl 0 rfl rfl tw_671 d_Mo_undo_44 ?_
    refine R_bipush (v := (31 : Int32)) X d_Mo_undo_47 rfl ?_
    refine V_pc (pc' := 49) rfl ?_
    refine R_iload_n X 0 d_Mo_undo_49 rfl ?_
    refine R_iast (n := 736) X (of_decide_eq_true rfl) rfl rfl d_Mo_undo_50 ?_
    refine R_aload_n X 1 d_Mo_undo_51 rfl ?_
    refine R_getI (ci := 7) X rfl iMo_ok (of_decide_eq_true rfl) rfl 2 rfl rfl tw_673 d_Mo_undo_52 ?_
    exact R_ret hR h d_Mo_undo_55
  · replace h := (if_pos c1).symm.trans h
    refine R_ldc (v := (-1000000003 : Int32)) X tw_907 d_Mo_undo_7 ?_
    exact R_ret hR h d_Mo_undo_9
theorem M_Mo_undo {G : GT} {hp : HP} {p : Int32 × HP} (h : f_Mo_undo hp = some p) : MI G y_Mo_undo Y_Mo_undo .int [.ref (gA G 99)] hp p.1 p.2 := MI_of rfl (fun Z hz X hR => by subst hz; exact T_Mo_undo X h hR)
theorem d_Mo_behindMonth_0 : decode prog_9_method_38_code 0 = .ok (.iload_n 2, 1) := by decide +kernel
theorem d_Mo_behindMonth_1 : decode prog_9_method_38_code 1 = .ok (.aload_n 0, 1) := by decide +kernel
theorem d_Mo_behindMonth_2 : decode prog_9_method_38_code 2 = .ok (.getfield 20, 3) := by decide +kernel
theorem d_Mo_behindMonth_5 : decode prog_9_method_38_code 5 = .ok (.iload_n 1, 1) := by decide +kernel
theorem d_Mo_behindMonth_6 : decode prog_9_method_38_code 6 = .ok (.iaload, 1) := by decide +kernel
theorem d_Mo_behindMonth_7 : decode prog_9_method_38_code 7 = .ok (.iadd, 1) := by decide +kernel
theorem d_Mo_behindMonth_8 : decode prog_9_method_38_code 8 = .ok (.invokestatic 205, 3) := by decide +kernel
theorem d_Mo_behindMonth_11 : decode prog_9_method_38_code 11 = .ok (.aload_n 0, 1) := by decide +kernel
theorem d_Mo_behindMonth_12 : decode prog_9_method_38_code 12 = .ok (.getfield 23, 3) := by decide +kernel
theorem d_Mo_behindMonth_15 : decode prog_9_method_38_code 15 = .ok (.iload_n 1, 1) := by decide +kernel
theorem d_Mo_behindMonth_16 : decode prog_9_method_38_code 16 = .ok (.iaload, 1) := by decide +kernel
theorem d_Mo_behindMonth_17 : decode prog_9_method_38_code 17 = .ok (.isub, 1) := by decide +kernel
theorem d_Mo_behindMonth_18 : decode prog_9_method_38_code 18 = .ok (.invokestatic 205, 3) := by decide +kernel
theorem d_Mo_behindMonth_21 : decode prog_9_method_38_code 21 = .ok (.ireturn, 1) := by decide +kernel
set_option maxRecDepth 20000 in
set_option maxHeartbeats 2000000 in
theorem T_Mo_behindMonth {Z : ZT} (X : CX Z Y_Mo_behindMonth) {hp : HP} {a1 : Int32} {a2 : Int32} {p : Int32 × HP} (h : f_Mo_behindMonth hp a1 a2 = some p) (hR : RetI Z Y_Mo_behindMonth .int p.1 p.2) : V Z Y_Mo_behindMonth hp 0 [(0, .ref (gA (zG Z) 99)), (1, .int a1), (2, .int a2)] [] := by
  unfold f_Mo_behindMonth at h
  refine R_iload_n X 2 d_Mo_behindMonth_0 rfl ?_
  refine R_aload_n X 0 d_Mo_behindMonth_1 rfl ?_
  refine R_getR (ci := 7) X rfl iMo_ok (of_decide_eq_true rfl) rfl 6 rfl rfl tw_677 d_Mo_behindMonth_2 ?_
  refine R_iload_n X 1 d_Mo_behindMonth_5 rfl ?_
  obtain ⟨i1, h⟩ := ck h
  refine R_iald (n := 5) X (of_decide_eq_true rfl) rfl i1 d_Mo_behindMonth_6 ?_
  refine V_pc (pc' := 7) rfl ?_
  refine R_iadd X d_Mo_behindMonth_7 ?_
  obtain ⟨p3, e2, h⟩ := ob h
  refine R_scall (As := [.int (a2 + (hp 103 (a1).toNatClampNeg))]) (st := []) X (M_Mo_bounded e2) tw_925 cf_Mo_bounded rfl rfl rfl d_Mo_behindMonth_8 ?_
  refine R_aload_n X 0 d_Mo_behindMonth_11 rfl ?_
  refine R_getR (ci := 7) X rfl iMo_ok (of_decide_eq_true rfl) rfl 7 rfl rfl tw_678 d_Mo_behindMonth_12 ?_
  refine R_iload_n X 1 d_Mo_behindMonth_15 rfl ?_
  refine R_iald (n := 5) X (of_decide_eq_true rfl) rfl i1 d_Mo_behindMonth_16 ?_
  refine V_pc (pc' := 17) rfl ?_
  refine R_isub X d_Mo_behindMonth_17 ?_
  obtain ⟨p5, e4, h⟩ := ob h
  refine R_scall (As := [.int (p3.1 - (p3.2 104 (a1).toNatClampNeg))]) (st := []) X (M_Mo_bounded e4) tw_925 cf_Mo_bounded rfl rfl rfl d_Mo_behindMonth_18 ?_
  exact R_ret hR h d_Mo_behindMonth_21
theorem M_Mo_behindMonth {G : GT} {hp : HP} {a1 : Int32} {a2 : Int32} {p : Int32 × HP} (h : f_Mo_behindMonth hp a1 a2 = some p) : MI G y_Mo_behindMonth Y_Mo_behindMonth .int [.ref (gA G 99), .int a1, .int a2] hp p.1 p.2 := MI_of rfl (fun Z hz X hR => by subst hz; exact T_Mo_behindMonth X h hR)
theorem d_Mo_month_0 : decode prog_9_method_39_code 0 = .ok (.iload_n 1, 1) := by decide +kernel
theorem d_Mo_month_1 : decode prog_9_method_39_code 1 = .ok (.i2l, 1) := by decide +kernel
theorem d_Mo_month_2 : decode prog_9_method_39_code 2 = .ok (.lconst 1, 1) := by decide +kernel
theorem d_Mo_month_3 : decode prog_9_method_39_code 3 = .ok (.ldc2_w 208, 3) := by decide +kernel
theorem d_Mo_month_6 : decode prog_9_method_39_code 6 = .ok (.invokestatic 72, 3) := by decide +kernel
theorem d_Mo_month_9 : decode prog_9_method_39_code 9 = .ok (.ifCond .ne (6), 3) := by decide +kernel
theorem d_Mo_month_12 : decode prog_9_method_39_code 12 = .ok (.ldc 88, 2) := by decide +kernel
theorem d_Mo_month_14 : decode prog_9_method_39_code 14 = .ok (.ireturn, 1) := by decide +kernel
theorem d_Mo_month_15 : decode prog_9_method_39_code 15 = .ok (.aload_n 0, 1) := by decide +kernel
theorem d_Mo_month_16 : decode prog_9_method_39_code 16 = .ok (.getfield 69, 3) := by decide +kernel
theorem d_Mo_month_19 : decode prog_9_method_39_code 19 = .ok (.ifCond .ne (6), 3) := by decide +kernel
theorem d_Mo_month_22 : decode prog_9_method_39_code 22 = .ok (.ldc 204, 2) := by decide +kernel
theorem d_Mo_month_24 : decode prog_9_method_39_code 24 = .ok (.ireturn, 1) := by decide +kernel
theorem d_Mo_month_25 : decode prog_9_method_39_code 25 = .ok (.aload_n 0, 1) := by decide +kernel
theorem d_Mo_month_26 : decode prog_9_method_39_code 26 = .ok (.getfield 7, 3) := by decide +kernel
theorem d_Mo_month_29 : decode prog_9_method_39_code 29 = .ok (.iconst 0, 1) := by decide +kernel
theorem d_Mo_month_30 : decode prog_9_method_39_code 30 = .ok (.iaload, 1) := by decide +kernel
theorem d_Mo_month_31 : decode prog_9_method_39_code 31 = .ok (.sipush (9000), 3) := by decide +kernel
theorem d_Mo_month_34 : decode prog_9_method_39_code 34 = .ok (.if_icmp .le (6), 3) := by decide +kernel
theorem d_Mo_month_37 : decode prog_9_method_39_code 37 = .ok (.ldc 92, 2) := by decide +kernel
theorem d_Mo_month_39 : decode prog_9_method_39_code 39 = .ok (.ireturn, 1) := by decide +kernel
theorem d_Mo_month_40 : decode prog_9_method_39_code 40 = .ok (.aload_n 0, 1) := by decide +kernel
theorem d_Mo_month_41 : decode prog_9_method_39_code 41 = .ok (.invokevirtual 210, 3) := by decide +kernel
theorem d_Mo_month_44 : decode prog_9_method_39_code 44 = .ok (.iconst 0, 1) := by decide +kernel
theorem d_Mo_month_45 : decode prog_9_method_39_code 45 = .ok (.istore_n 2, 1) := by decide +kernel
theorem d_Mo_month_46 : decode prog_9_method_39_code 46 = .ok (.iload_n 2, 1) := by decide +kernel
theorem d_Mo_month_47 : decode prog_9_method_39_code 47 = .ok (.iload_n 1, 1) := by decide +kernel
theorem d_Mo_month_48 : decode prog_9_method_39_code 48 = .ok (.if_icmp .ge (56), 3) := by decide +kernel
theorem d_Mo_month_51 : decode prog_9_method_39_code 51 = .ok (.iconst 0, 1) := by decide +kernel
theorem d_Mo_month_52 : decode prog_9_method_39_code 52 = .ok (.istore_n 3, 1) := by decide +kernel
theorem d_Mo_month_53 : decode prog_9_method_39_code 53 = .ok (.iload_n 3, 1) := by decide +kernel
theorem d_Mo_month_54 : decode prog_9_method_39_code 54 = .ok (.aload_n 0, 1) := by decide +kernel
theorem d_Mo_month_55 : decode prog_9_method_39_code 55 = .ok (.getfield 76, 3) := by decide +kernel
theorem d_Mo_month_58 : decode prog_9_method_39_code 58 = .ok (.if_icmp .ge (30), 3) := by decide +kernel
theorem d_Mo_month_61 : decode prog_9_method_39_code 61 = .ok (.aload_n 0, 1) := by decide +kernel
theorem d_Mo_month_62 : decode prog_9_method_39_code 62 = .ok (.getfield 7, 3) := by decide +kernel
theorem d_Mo_month_65 : decode prog_9_method_39_code 65 = .ok (.iconst 1, 1) := by decide +kernel
theorem d_Mo_month_66 : decode prog_9_method_39_code 66 = .ok (.iload_n 3, 1) := by decide +kernel
theorem d_Mo_month_67 : decode prog_9_method_39_code 67 = .ok (.iadd, 1) := by decide +kernel
theorem d_Mo_month_68 : decode prog_9_method_39_code 68 = .ok (.aload_n 0, 1) := by decide +kernel
theorem d_Mo_month_69 : decode prog_9_method_39_code 69 = .ok (.iload_n 3, 1) := by decide +kernel
theorem d_Mo_month_70 : decode prog_9_method_39_code 70 = .ok (.aload_n 0, 1) := by decide +kernel
theorem d_Mo_month_71 : decode prog_9_method_39_code 71 = .ok (.getfield 7, 3) := by decide +kernel
theorem d_Mo_month_74 : decode prog_9_method_39_code 74 = .ok (.iconst 1, 1) := by decide +kernel
theorem d_Mo_month_75 : decode prog_9_method_39_code 75 = .ok (.iload_n 3, 1) := by decide +kernel
theorem d_Mo_month_76 : decode prog_9_method_39_code 76 = .ok (.iadd, 1) := by decide +kernel
theorem d_Mo_month_77 : decode prog_9_method_39_code 77 = .ok (.iaload, 1) := by decide +kernel
theorem d_Mo_month_78 : decode prog_9_method_39_code 78 = .ok (.invokevirtual 213, 3) := by decide +kernel
theorem d_Mo_month_81 : decode prog_9_method_39_code 81 = .ok (.iastore, 1) := by decide +kernel
theorem d_Mo_month_82 : decode prog_9_method_39_code 82 = .ok (.iinc 3 (1), 3) := by decide +kernel
theorem d_Mo_month_85 : decode prog_9_method_39_code 85 = .ok (.goto (-32), 3) := by decide +kernel
theorem d_Mo_month_88 : decode prog_9_method_39_code 88 = .ok (.aload_n 0, 1) := by decide +kernel
theorem d_Mo_month_89 : decode prog_9_method_39_code 89 = .ok (.getfield 7, 3) := by decide +kernel
theorem d_Mo_month_92 : decode prog_9_method_39_code 92 = .ok (.iconst 0, 1) := by decide +kernel
theorem d_Mo_month_93 : decode prog_9_method_39_code 93 = .ok (.dup2, 1) := by decide +kernel
theorem d_Mo_month_94 : decode prog_9_method_39_code 94 = .ok (.iaload, 1) := by decide +kernel
theorem d_Mo_month_95 : decode prog_9_method_39_code 95 = .ok (.iconst 1, 1) := by decide +kernel
theorem d_Mo_month_96 : decode prog_9_method_39_code 96 = .ok (.iadd, 1) := by decide +kernel
theorem d_Mo_month_97 : decode prog_9_method_39_code 97 = .ok (.iastore, 1) := by decide +kernel
theorem d_Mo_month_98 : decode prog_9_method_39_code 98 = .ok (.iinc 2 (1), 3) := by decide +kernel
theorem d_Mo_month_101 : decode prog_9_method_39_code 101 = .ok (.goto (-55), 3) := by decide +kernel
theorem d_Mo_month_104 : decode prog_9_method_39_code 104 = .ok (.aload_n 0, 1) := by decide +kernel
theorem d_Mo_month_105 : decode prog_9_method_39_code 105 = .ok (.getfield 7, 3) := by decide +kernel
theorem d_Mo_month_108 : decode prog_9_method_39_code 108 = .ok (.iconst 0, 1) := by decide +kernel
theorem d_Mo_month_109 : decode prog_9_method_39_code 109 = .ok (.iaload, 1) := by decide +kernel
theorem d_Mo_month_110 : decode prog_9_method_39_code 110 = .ok (.ireturn, 1) := by decide +kernel
set_option maxRecDepth 20000 in
set_option maxHeartbeats 2000000 in
theorem T_Mo_month_L53 {Z : ZT} (X : CX Z Y_Mo_month) {v1 : Int32} {v2 : Int32} {p : Int32 × HP} (hR : RetI Z Y_Mo_month .int p.1 p.2) {K : HP → Option (Int32 × HP)} (hK : ∀ (hp : HP), K hp = some p → V Z Y_Mo_month hp 88 [(0, .ref (gA (zG Z) 99)), (1, .int v1), (2, .int v2)] []) : ∀ (n : Nat) (hp : HP) (x3 : Int32), f_Mo_month_L53 v1 v2 K n hp x3 = some p → V Z Y_Mo_month hp 53 [(0, .ref (gA (zG Z) 99)), (1, .int v1), (2, .int v2), (3, .int x3)] [] := by
  intro n
  induction n with
  | zero =>
    intro hp x3 h
    cases h
  | succ n ih =>
    intro hp x3 h
    replace h : f_Mo_month_L53 v1 v2 K (n + 1) hp x3 = some p := h
    unfold f_Mo_month_L53 at h
    refine R_iload_n X 3 d_Mo_month_53 rfl ?_
    refine R_aload_n X 0 d_Mo_month_54 rfl ?_
    refine R_getI (ci := 7) X rfl iMo_ok (of_decide_eq_true rfl) rfl 5 rfl rfl tw_676 d_Mo_month_55 ?_
    refine R_icmp_ge (tgt := 88) X d_Mo_month_58 rfl (fun c9 => ?_) (fun c9 => ?_)
    · replace h := (if_pos c9).symm.trans h
      refine V_pc (pc' := 88) rfl (R_loc (L' := [(0, .ref (gA (zG Z) 99)), (1, .int v1), (2, .int v2)]) [0, 1, 2] rfl ?_)
      exact hK hp h
    · replace h := (if_neg c9).symm.trans h
      refine R_aload_n X 0 d_Mo_month_61 rfl ?_
      refine R_getR (ci := 7) X rfl iMo_ok (of_decide_eq_true rfl) rfl 0 rfl rfl tw_671 d_Mo_month_62 ?_
      refine R_iconst (v := (1 : Int32)) X d_Mo_month_65 rfl ?_
      refine R_iload_n X 3 d_Mo_month_66 rfl ?_
      refine R_iadd X d_Mo_month_67 ?_
      refine V_pc (pc' := 68) rfl ?_
      refine R_aload_n X 0 d_Mo_month_68 rfl ?_
      refine R_iload_n X 3 d_Mo_month_69 rfl ?_
      refine R_aload_n X 0 d_Mo_month_70 rfl ?_
      refine R_getR (ci := 7) X rfl iMo_ok (of_decide_eq_true rfl) rfl 0 rfl rfl tw_671 d_Mo_month_71 ?_
      refine R_iconst (v := (1 : Int32)) X d_Mo_month_74 rfl ?_
      refine R_iload_n X 3 d_Mo_month_75 rfl ?_
      refine V_pc (pc' := 76) rfl ?_
      refine R_iadd X d_Mo_month_76 ?_
      obtain ⟨i10, h⟩ := ck h
      refine R_iald (n := 736) X (of_decide_eq_true rfl) rfl i10 d_Mo_month_77 ?_
      obtain ⟨p12, e11, h⟩ := ob h
      refine R_vcall (ci := 7) (k := 99) (As := [.int x3, .int (hp 100 (((1 : Int32) + x3)).toNatClampNeg)]) (st := [.int ((1 : Int32) + x3), .ref (gA (zG Z) 100)]) X (M_Mo_behindMonth e11) tw_921 cf_Mo_behindMonth (of_decide_eq_true rfl) rfl rfl rfl rfl rfl d_Mo_month_78 ?_
      refine R_iast (n := 736) X (of_decide_eq_true rfl) rfl i10 d_Mo_month_81 ?_
      refine R_iinc (v := (x3 + 1)) (L' := [(3, .int (x3 + 1)), (0, .ref (gA (zG Z) 99)), (1, .int v1), (2, .int v2)]) X 3 d_Mo_month_82 rfl rfl (by decide) rfl ?_
      refine R_goto (tgt := 53) X d_Mo_month_85 rfl ?_
      refine V_pc (pc' := 53) rfl (R_loc (L' := [(0, .ref (gA (zG Z) 99)), (1, .int v1), (2, .int v2), (3, .int (x3 + 1))]) [1, 2, 3, 0] rfl ?_)
      exact ih (up p12.2 100 (((1 : Int32) + x3)).toNatClampNeg p12.1) (x3 + 1) h
set_option maxRecDepth 20000 in
set_option maxHeartbeats 2000000 in
theorem T_Mo_month_L46 {Z : ZT} (X : CX Z Y_Mo_month) {v1 : Int32} {p : Int32 × HP} (hR : RetI Z Y_Mo_month .int p.1 p.2) {K : HP → Option (Int32 × HP)} (hK : ∀ (hp : HP), K hp = some p → V Z Y_Mo_month hp 104 [(0, .ref (gA (zG Z) 99))] []) : ∀ (n : Nat) (hp : HP) (x2 : Int32), f_Mo_month_L46 v1 K n hp x2 = some p → V Z Y_Mo_month hp 46 [(0, .ref (gA (zG Z) 99)), (1, .int v1), (2, .int x2)] [] := by
  intro n
  induction n with
  | zero =>
    intro hp x2 h
    cases h
  | succ n ih =>
    intro hp x2 h
    replace h : f_Mo_month_L46 v1 K (n + 1) hp x2 = some p := h
    unfold f_Mo_month_L46 at h
    refine R_iload_n X 2 d_Mo_month_46 rfl ?_
    refine R_iload_n X 1 d_Mo_month_47 rfl ?_
    refine R_icmp_ge (tgt := 104) X d_Mo_month_48 rfl (fun c8 => ?_) (fun c8 => ?_)
    · replace h := (if_pos c8).symm.trans h
      refine V_pc (pc' := 104) rfl (R_loc (L' := [(0, .ref (gA (zG Z) 99))]) [0] rfl ?_)
      exact hK hp h
    · replace h := (if_neg c8).symm.trans h
      refine R_iconst (v := (0 : Int32)) X d_Mo_month_51 rfl ?_
      refine R_istore_n (L' := [(3, .int (0 : Int32)), (0, .ref (gA (zG Z) 99)), (1, .int v1), (2, .int x2)]) X d_Mo_month_52 (by decide) rfl ?_
      refine V_pc (pc' := 53) rfl (R_loc (L' := [(0, .ref (gA (zG Z) 99)), (1, .int v1), (2, .int x2), (3, .int (0 : Int32))]) [1, 2, 3, 0] rfl ?_)
      refine T_Mo_month_L53 X hR (fun hp13 h => ?_) _ hp (0 : Int32) h
      refine R_aload_n X 0 d_Mo_month_88 rfl ?_
      refine R_getR (ci := 7) X rfl iMo_ok (of_decide_eq_true rfl) rfl 0 rfl rfl tw_671 d_Mo_month_89 ?_
      refine R_iconst (v := (0 : Int32)) X d_Mo_month_92 rfl ?_
      refine R_dup2 X d_Mo_month_93 rfl rfl ?_
      refine R_iald (n := 736) X (of_decide_eq_true rfl) rfl rfl d_Mo_month_94 ?_
      refine V_pc (pc' := 95) rfl ?_
      refine R_iconst (v := (1 : Int32)) X d_Mo_month_95 rfl ?_
      refine R_iadd X d_Mo_month_96 ?_
      refine R_iast (n := 736) X (of_decide_eq_true rfl) rfl rfl d_Mo_month_97 ?_
      refine R_iinc (v := (x2 + 1)) (L' := [(2, .int (x2 + 1)), (0, .ref (gA (zG Z) 99)), (1, .int v1)]) X 2 d_Mo_month_98 rfl rfl (by decide) rfl ?_
      refine R_goto (tgt := 46) X d_Mo_month_101 rfl ?_
      refine V_pc (pc' := 46) rfl (R_loc (L' := [(0, .ref (gA (zG Z) 99)), (1, .int v1), (2, .int (x2 + 1))]) [1, 2, 0] rfl ?_)
      exact ih (up hp13 100 0 ((hp13 100 0) + (1 : Int32))) (x2 + 1) h
set_option maxRecDepth 20000 in
set_option maxHeartbeats 2000000 in
theorem T_Mo_month {Z : ZT} (X : CX Z Y_Mo_month) {hp : HP} {a1 : Int32} {p : Int32 × HP} (h : f_Mo_month hp a1 = some p) (hR : RetI Z Y_Mo_month .int p.1 p.2) : V Z Y_Mo_month hp 0 [(0, .ref (gA (zG Z) 99)), (1, .int a1)] [] := by
  unfold f_Mo_month at h
  refine R_iload_n X 1 d_Mo_month_0 rfl ?_
  refine R_i2l X d_Mo_month_1 ?_
  refine R_lconst (v := (1 : Int64)) X d_Mo_month_2 rfl ?_
  refine R_ldc2 (v := (60 : Int64)) X tw_916 d_Mo_month_3 ?_
  obtain ⟨p2, e1, h⟩ := ob h
  refine R_scall (As := [.long (a1).toInt64, .long (1 : Int64), .long (60 : Int64)]) (st := []) X (M_Mo_in e1) tw_782 cf_Mo_in rfl rfl rfl d_Mo_month_6 ?_
  refine V_pc (pc' := 9) rfl ?_
  refine R_ifne (tgt := 15) X d_Mo_month_9 rfl (fun c3 => ?_) (fun c3 => ?_)
  · replace h := (if_neg c3).symm.trans h
    refine R_aload_n X 0 d_Mo_month_15 rfl ?_
    refine R_getI (ci := 7) X rfl iMo_ok (of_decide_eq_true rfl) rfl 3 rfl rfl tw_674 d_Mo_month_16 ?_
    refine R_ifne (tgt := 25) X d_Mo_month_19 rfl (fun c4 => ?_) (fun c4 => ?_)
    · replace h := (if_neg c4).symm.trans h
      refine R_aload_n X 0 d_Mo_month_25 rfl ?_
      refine R_getR (ci := 7) X rfl iMo_ok (of_decide_eq_true rfl) rfl 0 rfl rfl tw_671 d_Mo_month_26 ?_
      refine R_iconst (v := (0 : Int32)) X d_Mo_month_29 rfl ?_
      refine R_iald (n := 736) X (of_decide_eq_true rfl) rfl rfl d_Mo_month_30 ?_
      refine R_sipush (v := (9000 : Int32)) X d_Mo_month_31 rfl ?_
      refine V_pc (pc' := 34) rfl ?_
      refine R_icmp_le (tgt := 40) X d_Mo_month_34 rfl (fun c5 => ?_) (fun c5 => ?_)
      · replace h := (if_pos c5).symm.trans h
        refine R_aload_n X 0 d_Mo_month_40 rfl ?_
        obtain ⟨p7, e6, h⟩ := ob h
        refine R_vcallv (ci := 7) (k := 99) (As := []) (st := []) X (M_Mo_minds e6) tw_917 cf_Mo_minds (of_decide_eq_true rfl) rfl rfl rfl rfl rfl d_Mo_month_41 ?_
        refine R_iconst (v := (0 : Int32)) X d_Mo_month_44 rfl ?_
        refine R_istore_n (L' := [(2, .int (0 : Int32)), (0, .ref (gA (zG Z) 99)), (1, .int a1)]) X d_Mo_month_45 (by decide) rfl ?_
        refine V_pc (pc' := 46) rfl (R_loc (L' := [(0, .ref (gA (zG Z) 99)), (1, .int a1), (2, .int (0 : Int32))]) [1, 2, 0] rfl ?_)
        refine T_Mo_month_L46 X hR (fun hp14 h => ?_) _ p7.2 (0 : Int32) h
        refine R_aload_n X 0 d_Mo_month_104 rfl ?_
        refine R_getR (ci := 7) X rfl iMo_ok (of_decide_eq_true rfl) rfl 0 rfl rfl tw_671 d_Mo_month_105 ?_
        refine R_iconst (v := (0 : Int32)) X d_Mo_month_108 rfl ?_
        refine R_iald (n := 736) X (of_decide_eq_true rfl) rfl rfl d_Mo_month_109 ?_
        exact R_ret hR h d_Mo_month_110
      · replace h := (if_neg c5).symm.trans h
        refine R_ldc (v := (-1000000004 : Int32)) X tw_786 d_Mo_month_37 ?_
        exact R_ret hR h d_Mo_month_39
    · replace h := (if_pos c4).symm.trans h
      refine R_ldc (v := (-1000000003 : Int32)) X tw_907 d_Mo_month_22 ?_
      exact R_ret hR h d_Mo_month_24
  · replace h := (if_pos c3).symm.trans h
    refine R_ldc (v := (-1000000002 : Int32)) X tw_785 d_Mo_month_12 ?_
    exact R_ret hR h d_Mo_month_14
theorem M_Mo_month {G : GT} {hp : HP} {a1 : Int32} {p : Int32 × HP} (h : f_Mo_month hp a1 = some p) : MI G y_Mo_month Y_Mo_month .int [.ref (gA G 99), .int a1] hp p.1 p.2 := MI_of rfl (fun Z hz X hR => by subst hz; exact T_Mo_month X h hR)
theorem d_Mo_changes_0 : decode prog_9_method_40_code 0 = .ok (.aload_n 0, 1) := by decide +kernel
theorem d_Mo_changes_1 : decode prog_9_method_40_code 1 = .ok (.getfield 7, 3) := by decide +kernel
theorem d_Mo_changes_4 : decode prog_9_method_40_code 4 = .ok (.iconst 1, 1) := by decide +kernel
theorem d_Mo_changes_5 : decode prog_9_method_40_code 5 = .ok (.iload_n 1, 1) := by decide +kernel
theorem d_Mo_changes_6 : decode prog_9_method_40_code 6 = .ok (.iadd, 1) := by decide +kernel
theorem d_Mo_changes_7 : decode prog_9_method_40_code 7 = .ok (.aload_n 0, 1) := by decide +kernel
theorem d_Mo_changes_8 : decode prog_9_method_40_code 8 = .ok (.getfield 7, 3) := by decide +kernel
theorem d_Mo_changes_11 : decode prog_9_method_40_code 11 = .ok (.iconst 1, 1) := by decide +kernel
theorem d_Mo_changes_12 : decode prog_9_method_40_code 12 = .ok (.iload_n 1, 1) := by decide +kernel
theorem d_Mo_changes_13 : decode prog_9_method_40_code 13 = .ok (.iadd, 1) := by decide +kernel
theorem d_Mo_changes_14 : decode prog_9_method_40_code 14 = .ok (.iaload, 1) := by decide +kernel
theorem d_Mo_changes_15 : decode prog_9_method_40_code 15 = .ok (.iload_n 2, 1) := by decide +kernel
theorem d_Mo_changes_16 : decode prog_9_method_40_code 16 = .ok (.iadd, 1) := by decide +kernel
theorem d_Mo_changes_17 : decode prog_9_method_40_code 17 = .ok (.invokestatic 205, 3) := by decide +kernel
theorem d_Mo_changes_20 : decode prog_9_method_40_code 20 = .ok (.iastore, 1) := by decide +kernel
theorem d_Mo_changes_21 : decode prog_9_method_40_code 21 = .ok (.return_, 1) := by decide +kernel
set_option maxRecDepth 20000 in
set_option maxHeartbeats 2000000 in
theorem T_Mo_changes {Z : ZT} (X : CX Z Y_Mo_changes) {hp : HP} {a1 : Int32} {a2 : Int32} {p : Int32 × HP} (h : f_Mo_changes hp a1 a2 = some p) (hR : RetV Z Y_Mo_changes p.2) : V Z Y_Mo_changes hp 0 [(0, .ref (gA (zG Z) 99)), (1, .int a1), (2, .int a2)] [] := by
  unfold f_Mo_changes at h
  refine R_aload_n X 0 d_Mo_changes_0 rfl ?_
  refine R_getR (ci := 7) X rfl iMo_ok (of_decide_eq_true rfl) rfl 0 rfl rfl tw_671 d_Mo_changes_1 ?_
  refine R_iconst (v := (1 : Int32)) X d_Mo_changes_4 rfl ?_
  refine R_iload_n X 1 d_Mo_changes_5 rfl ?_
  refine R_iadd X d_Mo_changes_6 ?_
  refine V_pc (pc' := 7) rfl ?_
  refine R_aload_n X 0 d_Mo_changes_7 rfl ?_
  refine R_getR (ci := 7) X rfl iMo_ok (of_decide_eq_true rfl) rfl 0 rfl rfl tw_671 d_Mo_changes_8 ?_
  refine R_iconst (v := (1 : Int32)) X d_Mo_changes_11 rfl ?_
  refine R_iload_n X 1 d_Mo_changes_12 rfl ?_
  refine R_iadd X d_Mo_changes_13 ?_
  obtain ⟨i1, h⟩ := ck h
  refine R_iald (n := 736) X (of_decide_eq_true rfl) rfl i1 d_Mo_changes_14 ?_
  refine V_pc (pc' := 15) rfl ?_
  refine R_iload_n X 2 d_Mo_changes_15 rfl ?_
  refine R_iadd X d_Mo_changes_16 ?_
  obtain ⟨p3, e2, h⟩ := ob h
  refine R_scall (As := [.int ((hp 100 (((1 : Int32) + a1)).toNatClampNeg) + a2)]) (st := [.int ((1 : Int32) + a1), .ref (gA (zG Z) 100)]) X (M_Mo_bounded e2) tw_925 cf_Mo_bounded rfl rfl rfl d_Mo_changes_17 ?_
  refine R_iast (n := 736) X (of_decide_eq_true rfl) rfl i1 d_Mo_changes_20 ?_
  exact R_retv hR h d_Mo_changes_21
theorem M_Mo_changes {G : GT} {hp : HP} {a1 : Int32} {a2 : Int32} {p : Int32 × HP} (h : f_Mo_changes hp a1 a2 = some p) : MV G y_Mo_changes Y_Mo_changes [.ref (gA G 99), .int a1, .int a2] hp p.2 := MV_of rfl (fun Z hz X hR => by subst hz; exact T_Mo_changes X h hR)
theorem d_Mo_spend_0 : decode prog_9_method_41_code 0 = .ok (.aload_n 0, 1) := by decide +kernel
theorem d_Mo_spend_1 : decode prog_9_method_41_code 1 = .ok (.iload_n 1, 1) := by decide +kernel
theorem d_Mo_spend_2 : decode prog_9_method_41_code 2 = .ok (.invokevirtual 79, 3) := by decide +kernel
theorem d_Mo_spend_5 : decode prog_9_method_41_code 5 = .ok (.ifCond .ne (6), 3) := by decide +kernel
theorem d_Mo_spend_8 : decode prog_9_method_41_code 8 = .ok (.ldc 189, 2) := by decide +kernel
theorem d_Mo_spend_10 : decode prog_9_method_41_code 10 = .ok (.ireturn, 1) := by decide +kernel
theorem d_Mo_spend_11 : decode prog_9_method_41_code 11 = .ok (.iload_n 2, 1) := by decide +kernel
theorem d_Mo_spend_12 : decode prog_9_method_41_code 12 = .ok (.i2l, 1) := by decide +kernel
theorem d_Mo_spend_13 : decode prog_9_method_41_code 13 = .ok (.lconst 1, 1) := by decide +kernel
theorem d_Mo_spend_14 : decode prog_9_method_41_code 14 = .ok (.ldc2_w 217, 3) := by decide +kernel
theorem d_Mo_spend_17 : decode prog_9_method_41_code 17 = .ok (.invokestatic 72, 3) := by decide +kernel
theorem d_Mo_spend_20 : decode prog_9_method_41_code 20 = .ok (.ifCond .ne (6), 3) := by decide +kernel
theorem d_Mo_spend_23 : decode prog_9_method_41_code 23 = .ok (.ldc 88, 2) := by decide +kernel
theorem d_Mo_spend_25 : decode prog_9_method_41_code 25 = .ok (.ireturn, 1) := by decide +kernel
theorem d_Mo_spend_26 : decode prog_9_method_41_code 26 = .ok (.aload_n 0, 1) := by decide +kernel
theorem d_Mo_spend_27 : decode prog_9_method_41_code 27 = .ok (.invokevirtual 210, 3) := by decide +kernel
theorem d_Mo_spend_30 : decode prog_9_method_41_code 30 = .ok (.aload_n 0, 1) := by decide +kernel
theorem d_Mo_spend_31 : decode prog_9_method_41_code 31 = .ok (.iload_n 1, 1) := by decide +kernel
theorem d_Mo_spend_32 : decode prog_9_method_41_code 32 = .ok (.iload_n 2, 1) := by decide +kernel
theorem d_Mo_spend_33 : decode prog_9_method_41_code 33 = .ok (.ineg, 1) := by decide +kernel
theorem d_Mo_spend_34 : decode prog_9_method_41_code 34 = .ok (.invokevirtual 219, 3) := by decide +kernel
theorem d_Mo_spend_37 : decode prog_9_method_41_code 37 = .ok (.aload_n 0, 1) := by decide +kernel
theorem d_Mo_spend_38 : decode prog_9_method_41_code 38 = .ok (.iload_n 1, 1) := by decide +kernel
theorem d_Mo_spend_39 : decode prog_9_method_41_code 39 = .ok (.invokevirtual 167, 3) := by decide +kernel
theorem d_Mo_spend_42 : decode prog_9_method_41_code 42 = .ok (.ireturn, 1) := by decide +kernel
set_option maxRecDepth 20000 in
set_option maxHeartbeats 2000000 in
theorem T_Mo_spend {Z : ZT} (X : CX Z Y_Mo_spend) {hp : HP} {a1 : Int32} {a2 : Int32} {p : Int32 × HP} (h : f_Mo_spend hp a1 a2 = some p) (hR : RetI Z Y_Mo_spend .int p.1 p.2) : V Z Y_Mo_spend hp 0 [(0, .ref (gA (zG Z) 99)), (1, .int a1), (2, .int a2)] [] := by
  unfold f_Mo_spend at h
  refine R_aload_n X 0 d_Mo_spend_0 rfl ?_
  refine R_iload_n X 1 d_Mo_spend_1 rfl ?_
  obtain ⟨p2, e1, h⟩ := ob h
  refine R_vcall (ci := 7) (k := 99) (As := [.int a1]) (st := []) X (M_Mo_isCustomer e1) tw_878 cf_Mo_isCustomer (of_decide_eq_true rfl) rfl rfl rfl rfl rfl d_Mo_spend_2 ?_
  refine R_ifne (tgt := 11) X d_Mo_spend_5 rfl (fun c3 => ?_) (fun c3 => ?_)
  · replace h := (if_neg c3).symm.trans h
    refine R_iload_n X 2 d_Mo_spend_11 rfl ?_
    refine R_i2l X d_Mo_spend_12 ?_
    refine R_lconst (v := (1 : Int64)) X d_Mo_spend_13 rfl ?_
    refine R_ldc2 (v := (999 : Int64)) X tw_932 d_Mo_spend_14 ?_
    obtain ⟨p5, e4, h⟩ := ob h
    refine R_scall (As := [.long (a2).toInt64, .long (1 : Int64), .long (999 : Int64)]) (st := []) X (M_Mo_in e4) tw_782 cf_Mo_in rfl rfl rfl d_Mo_spend_17 ?_
    refine V_pc (pc' := 20) rfl ?_
    refine R_ifne (tgt := 26) X d_Mo_spend_20 rfl (fun c6 => ?_) (fun c6 => ?_)
    · replace h := (if_neg c6).symm.trans h
      refine R_aload_n X 0 d_Mo_spend_26 rfl ?_
      obtain ⟨p8, e7, h⟩ := ob h
      refine R_vcallv (ci := 7) (k := 99) (As := []) (st := []) X (M_Mo_minds e7) tw_917 cf_Mo_minds (of_decide_eq_true rfl) rfl rfl rfl rfl rfl d_Mo_spend_27 ?_
      refine R_aload_n X 0 d_Mo_spend_30 rfl ?_
      refine R_iload_n X 1 d_Mo_spend_31 rfl ?_
      refine R_iload_n X 2 d_Mo_spend_32 rfl ?_
      refine V_pc (pc' := 33) rfl ?_
      refine R_ineg X d_Mo_spend_33 ?_
      obtain ⟨p10, e9, h⟩ := ob h
      refine R_vcallv (ci := 7) (k := 99) (As := [.int a1, .int (-a2)]) (st := []) X (M_Mo_changes e9) tw_933 cf_Mo_changes (of_decide_eq_true rfl) rfl rfl rfl rfl rfl d_Mo_spend_34 ?_
      refine R_aload_n X 0 d_Mo_spend_37 rfl ?_
      refine R_iload_n X 1 d_Mo_spend_38 rfl ?_
      obtain ⟨p12, e11, h⟩ := ob h
      refine R_vcall (ci := 7) (k := 99) (As := [.int a1]) (st := []) X (M_Mo_thereOf e11) tw_841 cf_Mo_thereOf (of_decide_eq_true rfl) rfl rfl rfl rfl rfl d_Mo_spend_39 ?_
      exact R_ret hR h d_Mo_spend_42
    · replace h := (if_pos c6).symm.trans h
      refine R_ldc (v := (-1000000002 : Int32)) X tw_785 d_Mo_spend_23 ?_
      exact R_ret hR h d_Mo_spend_25
  · replace h := (if_pos c3).symm.trans h
    refine R_ldc (v := (-1000000001 : Int32)) X tw_873 d_Mo_spend_8 ?_
    exact R_ret hR h d_Mo_spend_10
theorem M_Mo_spend {G : GT} {hp : HP} {a1 : Int32} {a2 : Int32} {p : Int32 × HP} (h : f_Mo_spend hp a1 a2 = some p) : MI G y_Mo_spend Y_Mo_spend .int [.ref (gA G 99), .int a1, .int a2] hp p.1 p.2 := MI_of rfl (fun Z hz X hR => by subst hz; exact T_Mo_spend X h hR)
theorem d_Mo_owesMore_0 : decode prog_9_method_42_code 0 = .ok (.aload_n 0, 1) := by decide +kernel
theorem d_Mo_owesMore_1 : decode prog_9_method_42_code 1 = .ok (.getfield 7, 3) := by decide +kernel
theorem d_Mo_owesMore_4 : decode prog_9_method_42_code 4 = .ok (.bipush (6), 2) := by decide +kernel
theorem d_Mo_owesMore_6 : decode prog_9_method_42_code 6 = .ok (.iconst 5, 1) := by decide +kernel
theorem d_Mo_owesMore_7 : decode prog_9_method_42_code 7 = .ok (.iload_n 1, 1) := by decide +kernel
theorem d_Mo_owesMore_8 : decode prog_9_method_42_code 8 = .ok (.imul, 1) := by decide +kernel
theorem d_Mo_owesMore_9 : decode prog_9_method_42_code 9 = .ok (.iadd, 1) := by decide +kernel
theorem d_Mo_owesMore_10 : decode prog_9_method_42_code 10 = .ok (.iload_n 2, 1) := by decide +kernel
theorem d_Mo_owesMore_11 : decode prog_9_method_42_code 11 = .ok (.iadd, 1) := by decide +kernel
theorem d_Mo_owesMore_12 : decode prog_9_method_42_code 12 = .ok (.dup2, 1) := by decide +kernel
theorem d_Mo_owesMore_13 : decode prog_9_method_42_code 13 = .ok (.iaload, 1) := by decide +kernel
theorem d_Mo_owesMore_14 : decode prog_9_method_42_code 14 = .ok (.iload_n 3, 1) := by decide +kernel
theorem d_Mo_owesMore_15 : decode prog_9_method_42_code 15 = .ok (.iadd, 1) := by decide +kernel
theorem d_Mo_owesMore_16 : decode prog_9_method_42_code 16 = .ok (.iastore, 1) := by decide +kernel
theorem d_Mo_owesMore_17 : decode prog_9_method_42_code 17 = .ok (.aload_n 0, 1) := by decide +kernel
theorem d_Mo_owesMore_18 : decode prog_9_method_42_code 18 = .ok (.getfield 7, 3) := by decide +kernel
theorem d_Mo_owesMore_21 : decode prog_9_method_42_code 21 = .ok (.bipush (6), 2) := by decide +kernel
theorem d_Mo_owesMore_23 : decode prog_9_method_42_code 23 = .ok (.iconst 5, 1) := by decide +kernel
theorem d_Mo_owesMore_24 : decode prog_9_method_42_code 24 = .ok (.iload_n 2, 1) := by decide +kernel
theorem d_Mo_owesMore_25 : decode prog_9_method_42_code 25 = .ok (.imul, 1) := by decide +kernel
theorem d_Mo_owesMore_26 : decode prog_9_method_42_code 26 = .ok (.iadd, 1) := by decide +kernel
theorem d_Mo_owesMore_27 : decode prog_9_method_42_code 27 = .ok (.iload_n 1, 1) := by decide +kernel
theorem d_Mo_owesMore_28 : decode prog_9_method_42_code 28 = .ok (.iadd, 1) := by decide +kernel
theorem d_Mo_owesMore_29 : decode prog_9_method_42_code 29 = .ok (.dup2, 1) := by decide +kernel
theorem d_Mo_owesMore_30 : decode prog_9_method_42_code 30 = .ok (.iaload, 1) := by decide +kernel
theorem d_Mo_owesMore_31 : decode prog_9_method_42_code 31 = .ok (.iload_n 3, 1) := by decide +kernel
theorem d_Mo_owesMore_32 : decode prog_9_method_42_code 32 = .ok (.isub, 1) := by decide +kernel
theorem d_Mo_owesMore_33 : decode prog_9_method_42_code 33 = .ok (.iastore, 1) := by decide +kernel
theorem d_Mo_owesMore_34 : decode prog_9_method_42_code 34 = .ok (.return_, 1) := by decide +kernel
set_option maxRecDepth 20000 in
set_option maxHeartbeats 2000000 in
theorem T_Mo_owesMore {Z : ZT} (X : CX Z Y_Mo_owesMore) {hp : HP} {a1 : Int32} {a2 : Int32} {a3 : Int32} {p : Int32 × HP} (h : f_Mo_owesMore hp a1 a2 a3 = some p) (hR : RetV Z Y_Mo_owesMore p.2) : V Z Y_Mo_owesMore hp 0 [(0, .ref (gA (zG Z) 99)), (1, .int a1), (2, .int a2), (3, .int a3)] [] := by
  unfold f_Mo_owesMore at h
  refine R_aload_n X 0 d_Mo_owesMore_0 rfl ?_
  refine R_getR (ci := 7) X rfl iMo_ok (of_decide_eq_true rfl) rfl 0 rfl rfl tw_671 d_Mo_owesMore_1 ?_
  refine R_bipush (v := (6 : Int32)) X d_Mo_owesMore_4 rfl ?_
  refine R_iconst (v := (5 : Int32)) X d_Mo_owesMore_6 rfl ?_
  refine R_iload_n X 1 d_Mo_owesMore_7 rfl ?_
  refine V_pc (pc' := 8) rfl ?_
  refine R_imul X d_Mo_owesMore_8 ?_
  refine R_iadd X d_Mo_owesMore_9 ?_
  refine R_iload_n X 2 d_Mo_owesMore_10 rfl ?_
  refine R_iadd X d_Mo_owesMore_11 ?_
  refine R_dup2 X d_Mo_owesMore_12 rfl rfl ?_
  obtain ⟨i1, h⟩ := ck h
  refine R_iald (n := 736) X (of_decide_eq_true rfl) rfl i1 d_Mo_owesMore_13 ?_
  refine V_pc (pc' := 14) rfl ?_
  refine R_iload_n X 3 d_Mo_owesMore_14 rfl ?_
  refine R_iadd X d_Mo_owesMore_15 ?_
  refine R_iast (n := 736) X (of_decide_eq_true rfl) rfl i1 d_Mo_owesMore_16 ?_
  refine R_aload_n X 0 d_Mo_owesMore_17 rfl ?_
  refine R_getR (ci := 7) X rfl iMo_ok (of_decide_eq_true rfl) rfl 0 rfl rfl tw_671 d_Mo_owesMore_18 ?_
  refine R_bipush (v := (6 : Int32)) X d_Mo_owesMore_21 rfl ?_
  refine V_pc (pc' := 23) rfl ?_
  refine R_iconst (v := (5 : Int32)) X d_Mo_owesMore_23 rfl ?_
  refine R_iload_n X 2 d_Mo_owesMore_24 rfl ?_
  refine R_imul X d_Mo_owesMore_25 ?_
  refine R_iadd X d_Mo_owesMore_26 ?_
  refine R_iload_n X 1 d_Mo_owesMore_27 rfl ?_
  refine R_iadd X d_Mo_owesMore_28 ?_
  refine V_pc (pc' := 29) rfl ?_
  refine R_dup2 X d_Mo_owesMore_29 rfl rfl ?_
  obtain ⟨i2, h⟩ := ck h
  refine R_iald (n := 736) X (of_decide_eq_true rfl) rfl i2 d_Mo_owesMore_30 ?_
  refine R_iload_n X 3 d_Mo_owesMore_31 rfl ?_
  refine R_isub X d_Mo_owesMore_32 ?_
  refine R_iast (n := 736) X (of_decide_eq_true rfl) rfl i2 d_Mo_owesMore_33 ?_
  exact R_retv hR h d_Mo_owesMore_34
theorem M_Mo_owesMore {G : GT} {hp : HP} {a1 : Int32} {a2 : Int32} {a3 : Int32} {p : Int32 × HP} (h : f_Mo_owesMore hp a1 a2 a3 = some p) : MV G y_Mo_owesMore Y_Mo_owesMore [.ref (gA G 99), .int a1, .int a2, .int a3] hp p.2 := MV_of rfl (fun Z hz X hR => by subst hz; exact T_Mo_owesMore X h hR)
theorem d_Mo_lend_0 : decode prog_9_method_43_code 0 = .ok (.aload_n 0, 1) := by decide +kernel
theorem d_Mo_lend_1 : decode prog_9_method_43_code 1 = .ok (.iload_n 1, 1) := by decide +kernel
theorem d_Mo_lend_2 : decode prog_9_method_43_code 2 = .ok (.iload_n 2, 1) := by decide +kernel
theorem d_Mo_lend_3 : decode prog_9_method_43_code 3 = .ok (.invokevirtual 191, 3) := by decide +kernel
theorem d_Mo_lend_6 : decode prog_9_method_43_code 6 = .ok (.ifCond .ne (6), 3) := by decide +kernel
theorem d_Mo_lend_9 : decode prog_9_method_43_code 9 = .ok (.ldc 189, 2) := by decide +kernel
theorem d_Mo_lend_11 : decode prog_9_method_43_code 11 = .ok (.ireturn, 1) := by decide +kernel
theorem d_Mo_lend_12 : decode prog_9_method_43_code 12 = .ok (.iload_n 3, 1) := by decide +kernel
theorem d_Mo_lend_13 : decode prog_9_method_43_code 13 = .ok (.i2l, 1) := by decide +kernel
theorem d_Mo_lend_14 : decode prog_9_method_43_code 14 = .ok (.lconst 1, 1) := by decide +kernel
theorem d_Mo_lend_15 : decode prog_9_method_43_code 15 = .ok (.ldc2_w 217, 3) := by decide +kernel
theorem d_Mo_lend_18 : decode prog_9_method_43_code 18 = .ok (.invokestatic 72, 3) := by decide +kernel
theorem d_Mo_lend_21 : decode prog_9_method_43_code 21 = .ok (.ifCond .ne (6), 3) := by decide +kernel
theorem d_Mo_lend_24 : decode prog_9_method_43_code 24 = .ok (.ldc 88, 2) := by decide +kernel
theorem d_Mo_lend_26 : decode prog_9_method_43_code 26 = .ok (.ireturn, 1) := by decide +kernel
theorem d_Mo_lend_27 : decode prog_9_method_43_code 27 = .ok (.aload_n 0, 1) := by decide +kernel
theorem d_Mo_lend_28 : decode prog_9_method_43_code 28 = .ok (.getfield 7, 3) := by decide +kernel
theorem d_Mo_lend_31 : decode prog_9_method_43_code 31 = .ok (.bipush (6), 2) := by decide +kernel
theorem d_Mo_lend_33 : decode prog_9_method_43_code 33 = .ok (.iconst 5, 1) := by decide +kernel
theorem d_Mo_lend_34 : decode prog_9_method_43_code 34 = .ok (.iload_n 2, 1) := by decide +kernel
theorem d_Mo_lend_35 : decode prog_9_method_43_code 35 = .ok (.imul, 1) := by decide +kernel
theorem d_Mo_lend_36 : decode prog_9_method_43_code 36 = .ok (.iadd, 1) := by decide +kernel
theorem d_Mo_lend_37 : decode prog_9_method_43_code 37 = .ok (.iload_n 1, 1) := by decide +kernel
theorem d_Mo_lend_38 : decode prog_9_method_43_code 38 = .ok (.iadd, 1) := by decide +kernel
theorem d_Mo_lend_39 : decode prog_9_method_43_code 39 = .ok (.iaload, 1) := by decide +kernel
theorem d_Mo_lend_40 : decode prog_9_method_43_code 40 = .ok (.iload_n 3, 1) := by decide +kernel
theorem d_Mo_lend_41 : decode prog_9_method_43_code 41 = .ok (.iadd, 1) := by decide +kernel
theorem d_Mo_lend_42 : decode prog_9_method_43_code 42 = .ok (.sipush (9999), 3) := by decide +kernel
theorem d_Mo_lend_45 : decode prog_9_method_43_code 45 = .ok (.if_icmp .le (6), 3) := by decide +kernel
theorem d_Mo_lend_48 : decode prog_9_method_43_code 48 = .ok (.ldc 92, 2) := by decide +kernel
theorem d_Mo_lend_50 : decode prog_9_method_43_code 50 = .ok (.ireturn, 1) := by decide +kernel
theorem d_Mo_lend_51 : decode prog_9_method_43_code 51 = .ok (.aload_n 0, 1) := by decide +kernel
theorem d_Mo_lend_52 : decode prog_9_method_43_code 52 = .ok (.invokevirtual 210, 3) := by decide +kernel
theorem d_Mo_lend_55 : decode prog_9_method_43_code 55 = .ok (.aload_n 0, 1) := by decide +kernel
theorem d_Mo_lend_56 : decode prog_9_method_43_code 56 = .ok (.iload_n 1, 1) := by decide +kernel
theorem d_Mo_lend_57 : decode prog_9_method_43_code 57 = .ok (.iload_n 3, 1) := by decide +kernel
theorem d_Mo_lend_58 : decode prog_9_method_43_code 58 = .ok (.ineg, 1) := by decide +kernel
theorem d_Mo_lend_59 : decode prog_9_method_43_code 59 = .ok (.invokevirtual 219, 3) := by decide +kernel
theorem d_Mo_lend_62 : decode prog_9_method_43_code 62 = .ok (.aload_n 0, 1) := by decide +kernel
theorem d_Mo_lend_63 : decode prog_9_method_43_code 63 = .ok (.iload_n 2, 1) := by decide +kernel
theorem d_Mo_lend_64 : decode prog_9_method_43_code 64 = .ok (.iload_n 3, 1) := by decide +kernel
theorem d_Mo_lend_65 : decode prog_9_method_43_code 65 = .ok (.invokevirtual 219, 3) := by decide +kernel
theorem d_Mo_lend_68 : decode prog_9_method_43_code 68 = .ok (.aload_n 0, 1) := by decide +kernel
theorem d_Mo_lend_69 : decode prog_9_method_43_code 69 = .ok (.iload_n 2, 1) := by decide +kernel
theorem d_Mo_lend_70 : decode prog_9_method_43_code 70 = .ok (.iload_n 1, 1) := by decide +kernel
theorem d_Mo_lend_71 : decode prog_9_method_43_code 71 = .ok (.iload_n 3, 1) := by decide +kernel
theorem d_Mo_lend_72 : decode prog_9_method_43_code 72 = .ok (.invokevirtual 222, 3) := by decide +kernel
theorem d_Mo_lend_75 : decode prog_9_method_43_code 75 = .ok (.aload_n 0, 1) := by decide +kernel
theorem d_Mo_lend_76 : decode prog_9_method_43_code 76 = .ok (.iload_n 2, 1) := by decide +kernel
theorem d_Mo_lend_77 : decode prog_9_method_43_code 77 = .ok (.invokevirtual 167, 3) := by decide +kernel
theorem d_Mo_lend_80 : decode prog_9_method_43_code 80 = .ok (.ireturn, 1) := by decide +kernel
set_option maxRecDepth 20000 in
set_option maxHeartbeats 2000000 in
theorem T_Mo_lend {Z : ZT} (X : CX Z Y_Mo_lend) {hp : HP} {a1 : Int32} {a2 : Int32} {a3 : Int32} {p : Int32 × HP} (h : f_Mo_lend hp a1 a2 a3 = some p) (hR : RetI Z Y_Mo_lend .int p.1 p.2) : V Z Y_Mo_lend hp 0 [(0, .ref (gA (zG Z) 99)), (1, .int a1), (2, .int a2), (3, .int a3)] [] := by
  unfold f_Mo_lend at h
  refine R_aload_n X 0 d_Mo_lend_0 rfl ?_
  refine R_iload_n X 1 d_Mo_lend_1 rfl ?_
  refine R_iload_n X 2 d_Mo_lend_2 rfl ?_
  obtain ⟨p2, e1, h⟩ := ob h
  refine R_vcall (ci := 7) (k := 99) (As := [.int a1, .int a2]) (st := []) X (M_Mo_areTwo e1) tw_887 cf_Mo_areTwo (of_decide_eq_true rfl) rfl rfl rfl rfl rfl d_Mo_lend_3 ?_
  refine R_ifne (tgt := 12) X d_Mo_lend_6 rfl (fun c3 => ?_) (fun c3 => ?_)
  · replace h := (if_neg c3).symm.trans h
    refine R_iload_n X 3 d_Mo_lend_12 rfl ?_
    refine R_i2l X d_Mo_lend_13 ?_
    refine R_lconst (v := (1 : Int64)) X d_Mo_lend_14 rfl ?_
    refine R_ldc2 (v := (999 : Int64)) X tw_932 d_Mo_lend_15 ?_
    obtain ⟨p5, e4, h⟩ := ob h
    refine R_scall (As := [.long (a3).toInt64, .long (1 : Int64), .long (999 : Int64)]) (st := []) X (M_Mo_in e4) tw_782 cf_Mo_in rfl rfl rfl d_Mo_lend_18 ?_
    refine V_pc (pc' := 21) rfl ?_
    refine R_ifne (tgt := 27) X d_Mo_lend_21 rfl (fun c6 => ?_) (fun c6 => ?_)
    · replace h := (if_neg c6).symm.trans h
      refine R_aload_n X 0 d_Mo_lend_27 rfl ?_
      refine R_getR (ci := 7) X rfl iMo_ok (of_decide_eq_true rfl) rfl 0 rfl rfl tw_671 d_Mo_lend_28 ?_
      refine R_bipush (v := (6 : Int32)) X d_Mo_lend_31 rfl ?_
      refine R_iconst (v := (5 : Int32)) X d_Mo_lend_33 rfl ?_
      refine R_iload_n X 2 d_Mo_lend_34 rfl ?_
      refine V_pc (pc' := 35) rfl ?_
      refine R_imul X d_Mo_lend_35 ?_
      refine R_iadd X d_Mo_lend_36 ?_
      refine R_iload_n X 1 d_Mo_lend_37 rfl ?_
      refine R_iadd X d_Mo_lend_38 ?_
      obtain ⟨i7, h⟩ := ck h
      refine R_iald (n := 736) X (of_decide_eq_true rfl) rfl i7 d_Mo_lend_39 ?_
      refine R_iload_n X 3 d_Mo_lend_40 rfl ?_
      refine V_pc (pc' := 41) rfl ?_
      refine R_iadd X d_Mo_lend_41 ?_
      refine R_sipush (v := (9999 : Int32)) X d_Mo_lend_42 rfl ?_
      refine R_icmp_le (tgt := 51) X d_Mo_lend_45 rfl (fun c8 => ?_) (fun c8 => ?_)
      · replace h := (if_pos c8).symm.trans h
        refine R_aload_n X 0 d_Mo_lend_51 rfl ?_
        obtain ⟨p10, e9, h⟩ := ob h
        refine R_vcallv (ci := 7) (k := 99) (As := []) (st := []) X (M_Mo_minds e9) tw_917 cf_Mo_minds (of_decide_eq_true rfl) rfl rfl rfl rfl rfl d_Mo_lend_52 ?_
        refine R_aload_n X 0 d_Mo_lend_55 rfl ?_
        refine R_iload_n X 1 d_Mo_lend_56 rfl ?_
        refine R_iload_n X 3 d_Mo_lend_57 rfl ?_
        refine V_pc (pc' := 58) rfl ?_
        refine R_ineg X d_Mo_lend_58 ?_
        obtain ⟨p12, e11, h⟩ := ob h
        refine R_vcallv (ci := 7) (k := 99) (As := [.int a1, .int (-a3)]) (st := []) X (M_Mo_changes e11) tw_933 cf_Mo_changes (of_decide_eq_true rfl) rfl rfl rfl rfl rfl d_Mo_lend_59 ?_
        refine R_aload_n X 0 d_Mo_lend_62 rfl ?_
        refine R_iload_n X 2 d_Mo_lend_63 rfl ?_
        refine R_iload_n X 3 d_Mo_lend_64 rfl ?_
        obtain ⟨p14, e13, h⟩ := ob h
        refine R_vcallv (ci := 7) (k := 99) (As := [.int a2, .int a3]) (st := []) X (M_Mo_changes e13) tw_933 cf_Mo_changes (of_decide_eq_true rfl) rfl rfl rfl rfl rfl d_Mo_lend_65 ?_
        refine V_pc (pc' := 68) rfl ?_
        refine R_aload_n X 0 d_Mo_lend_68 rfl ?_
        refine R_iload_n X 2 d_Mo_lend_69 rfl ?_
        refine R_iload_n X 1 d_Mo_lend_70 rfl ?_
        refine R_iload_n X 3 d_Mo_lend_71 rfl ?_
        obtain ⟨p16, e15, h⟩ := ob h
        refine R_vcallv (ci := 7) (k := 99) (As := [.int a2, .int a1, .int a3]) (st := []) X (M_Mo_owesMore e15) tw_941 cf_Mo_owesMore (of_decide_eq_true rfl) rfl rfl rfl rfl rfl d_Mo_lend_72 ?_
        refine R_aload_n X 0 d_Mo_lend_75 rfl ?_
        refine V_pc (pc' := 76) rfl ?_
        refine R_iload_n X 2 d_Mo_lend_76 rfl ?_
        obtain ⟨p18, e17, h⟩ := ob h
        refine R_vcall (ci := 7) (k := 99) (As := [.int a2]) (st := []) X (M_Mo_thereOf e17) tw_841 cf_Mo_thereOf (of_decide_eq_true rfl) rfl rfl rfl rfl rfl d_Mo_lend_77 ?_
        exact R_ret hR h d_Mo_lend_80
      · replace h := (if_neg c8).symm.trans h
        refine R_ldc (v := (-1000000004 : Int32)) X tw_786 d_Mo_lend_48 ?_
        exact R_ret hR h d_Mo_lend_50
    · replace h := (if_pos c6).symm.trans h
      refine R_ldc (v := (-1000000002 : Int32)) X tw_785 d_Mo_lend_24 ?_
      exact R_ret hR h d_Mo_lend_26
  · replace h := (if_pos c3).symm.trans h
    refine R_ldc (v := (-1000000001 : Int32)) X tw_873 d_Mo_lend_9 ?_
    exact R_ret hR h d_Mo_lend_11
theorem M_Mo_lend {G : GT} {hp : HP} {a1 : Int32} {a2 : Int32} {a3 : Int32} {p : Int32 × HP} (h : f_Mo_lend hp a1 a2 a3 = some p) : MI G y_Mo_lend Y_Mo_lend .int [.ref (gA G 99), .int a1, .int a2, .int a3] hp p.1 p.2 := MI_of rfl (fun Z hz X hR => by subst hz; exact T_Mo_lend X h hR)
theorem d_Mo_payBack_0 : decode prog_9_method_44_code 0 = .ok (.aload_n 0, 1) := by decide +kernel
theorem d_Mo_payBack_1 : decode prog_9_method_44_code 1 = .ok (.iload_n 1, 1) := by decide +kernel
theorem d_Mo_payBack_2 : decode prog_9_method_44_code 2 = .ok (.iload_n 2, 1) := by decide +kernel
theorem d_Mo_payBack_3 : decode prog_9_method_44_code 3 = .ok (.invokevirtual 191, 3) := by decide +kernel
theorem d_Mo_payBack_6 : decode prog_9_method_44_code 6 = .ok (.ifCond .ne (6), 3) := by decide +kernel
theorem d_Mo_payBack_9 : decode prog_9_method_44_code 9 = .ok (.ldc 189, 2) := by decide +kernel
theorem d_Mo_payBack_11 : decode prog_9_method_44_code 11 = .ok (.ireturn, 1) := by decide +kernel
theorem d_Mo_payBack_12 : decode prog_9_method_44_code 12 = .ok (.iload_n 3, 1) := by decide +kernel
theorem d_Mo_payBack_13 : decode prog_9_method_44_code 13 = .ok (.i2l, 1) := by decide +kernel
theorem d_Mo_payBack_14 : decode prog_9_method_44_code 14 = .ok (.lconst 1, 1) := by decide +kernel
theorem d_Mo_payBack_15 : decode prog_9_method_44_code 15 = .ok (.ldc2_w 217, 3) := by decide +kernel
theorem d_Mo_payBack_18 : decode prog_9_method_44_code 18 = .ok (.invokestatic 72, 3) := by decide +kernel
theorem d_Mo_payBack_21 : decode prog_9_method_44_code 21 = .ok (.ifCond .ne (6), 3) := by decide +kernel
theorem d_Mo_payBack_24 : decode prog_9_method_44_code 24 = .ok (.ldc 88, 2) := by decide +kernel
theorem d_Mo_payBack_26 : decode prog_9_method_44_code 26 = .ok (.ireturn, 1) := by decide +kernel
theorem d_Mo_payBack_27 : decode prog_9_method_44_code 27 = .ok (.aload_n 0, 1) := by decide +kernel
theorem d_Mo_payBack_28 : decode prog_9_method_44_code 28 = .ok (.getfield 7, 3) := by decide +kernel
theorem d_Mo_payBack_31 : decode prog_9_method_44_code 31 = .ok (.bipush (6), 2) := by decide +kernel
theorem d_Mo_payBack_33 : decode prog_9_method_44_code 33 = .ok (.iconst 5, 1) := by decide +kernel
theorem d_Mo_payBack_34 : decode prog_9_method_44_code 34 = .ok (.iload_n 1, 1) := by decide +kernel
theorem d_Mo_payBack_35 : decode prog_9_method_44_code 35 = .ok (.imul, 1) := by decide +kernel
theorem d_Mo_payBack_36 : decode prog_9_method_44_code 36 = .ok (.iadd, 1) := by decide +kernel
theorem d_Mo_payBack_37 : decode prog_9_method_44_code 37 = .ok (.iload_n 2, 1) := by decide +kernel
theorem d_Mo_payBack_38 : decode prog_9_method_44_code 38 = .ok (.iadd, 1) := by decide +kernel
theorem d_Mo_payBack_39 : decode prog_9_method_44_code 39 = .ok (.iaload, 1) := by decide +kernel
theorem d_Mo_payBack_40 : decode prog_9_method_44_code 40 = .ok (.iload_n 3, 1) := by decide +kernel
theorem d_Mo_payBack_41 : decode prog_9_method_44_code 41 = .ok (.if_icmp .ge (6), 3) := by decide +kernel
theorem d_Mo_payBack_44 : decode prog_9_method_44_code 44 = .ok (.ldc 204, 2) := by decide +kernel
theorem d_Mo_payBack_46 : decode prog_9_method_44_code 46 = .ok (.ireturn, 1) := by decide +kernel
theorem d_Mo_payBack_47 : decode prog_9_method_44_code 47 = .ok (.aload_n 0, 1) := by decide +kernel
theorem d_Mo_payBack_48 : decode prog_9_method_44_code 48 = .ok (.invokevirtual 210, 3) := by decide +kernel
theorem d_Mo_payBack_51 : decode prog_9_method_44_code 51 = .ok (.aload_n 0, 1) := by decide +kernel
theorem d_Mo_payBack_52 : decode prog_9_method_44_code 52 = .ok (.iload_n 1, 1) := by decide +kernel
theorem d_Mo_payBack_53 : decode prog_9_method_44_code 53 = .ok (.iload_n 3, 1) := by decide +kernel
theorem d_Mo_payBack_54 : decode prog_9_method_44_code 54 = .ok (.ineg, 1) := by decide +kernel
theorem d_Mo_payBack_55 : decode prog_9_method_44_code 55 = .ok (.invokevirtual 219, 3) := by decide +kernel
theorem d_Mo_payBack_58 : decode prog_9_method_44_code 58 = .ok (.aload_n 0, 1) := by decide +kernel
theorem d_Mo_payBack_59 : decode prog_9_method_44_code 59 = .ok (.iload_n 2, 1) := by decide +kernel
theorem d_Mo_payBack_60 : decode prog_9_method_44_code 60 = .ok (.iload_n 3, 1) := by decide +kernel
theorem d_Mo_payBack_61 : decode prog_9_method_44_code 61 = .ok (.invokevirtual 219, 3) := by decide +kernel
theorem d_Mo_payBack_64 : decode prog_9_method_44_code 64 = .ok (.aload_n 0, 1) := by decide +kernel
theorem d_Mo_payBack_65 : decode prog_9_method_44_code 65 = .ok (.iload_n 1, 1) := by decide +kernel
theorem d_Mo_payBack_66 : decode prog_9_method_44_code 66 = .ok (.iload_n 2, 1) := by decide +kernel
theorem d_Mo_payBack_67 : decode prog_9_method_44_code 67 = .ok (.iload_n 3, 1) := by decide +kernel
theorem d_Mo_payBack_68 : decode prog_9_method_44_code 68 = .ok (.ineg, 1) := by decide +kernel
theorem d_Mo_payBack_69 : decode prog_9_method_44_code 69 = .ok (.invokevirtual 222, 3) := by decide +kernel
theorem d_Mo_payBack_72 : decode prog_9_method_44_code 72 = .ok (.aload_n 0, 1) := by decide +kernel
theorem d_Mo_payBack_73 : decode prog_9_method_44_code 73 = .ok (.getfield 7, 3) := by decide +kernel
theorem d_Mo_payBack_76 : decode prog_9_method_44_code 76 = .ok (.bipush (6), 2) := by decide +kernel
theorem d_Mo_payBack_78 : decode prog_9_method_44_code 78 = .ok (.iconst 5, 1) := by decide +kernel
theorem d_Mo_payBack_79 : decode prog_9_method_44_code 79 = .ok (.iload_n 1, 1) := by decide +kernel
theorem d_Mo_payBack_80 : decode prog_9_method_44_code 80 = .ok (.imul, 1) := by decide +kernel
theorem d_Mo_payBack_81 : decode prog_9_method_44_code 81 = .ok (.iadd, 1) := by decide +kernel
theorem d_Mo_payBack_82 : decode prog_9_method_44_code 82 = .ok (.iload_n 2, 1) := by decide +kernel
theorem d_Mo_payBack_83 : decode prog_9_method_44_code 83 = .ok (.iadd, 1) := by decide +kernel
theorem d_Mo_payBack_84 : decode prog_9_method_44_code 84 = .ok (.iaload, 1) := by decide +kernel
theorem d_Mo_payBack_85 : decode prog_9_method_44_code 85 = .ok (.ireturn, 1) := by decide +kernel
set_option maxRecDepth 20000 in
set_option maxHeartbeats 2000000 in
theorem T_Mo_payBack {Z : ZT} (X : CX Z Y_Mo_payBack) {hp : HP} {a1 : Int32} {a2 : Int32} {a3 : Int32} {p : Int32 × HP} (h : f_Mo_payBack hp a1 a2 a3 = some p) (hR : RetI Z Y_Mo_payBack .int p.1 p.2) : V Z Y_Mo_payBack hp 0 [(0, .ref (gA (zG Z) 99)), (1, .int a1), (2, .int a2), (3, .int a3)] [] := by
  unfold f_Mo_payBack at h
  refine R_aload_n X 0 d_Mo_payBack_0 rfl ?_
  refine R_iload_n X 1 d_Mo_payBack_1 rfl ?_
  refine R_iload_n X 2 d_Mo_payBack_2 rfl ?_
  obtain ⟨p2, e1, h⟩ := ob h
  refine R_vcall (ci := 7) (k := 99) (As := [.int a1, .int a2]) (st := []) X (M_Mo_areTwo e1) tw_887 cf_Mo_areTwo (of_decide_eq_true rfl) rfl rfl rfl rfl rfl d_Mo_payBack_3 ?_
  refine R_ifne (tgt := 12) X d_Mo_payBack_6 rfl (fun c3 => ?_) (fun c3 => ?_)
  · replace h := (if_neg c3).symm.trans h
    refine R_iload_n X 3 d_Mo_payBack_12 rfl ?_
    refine R_i2l X d_Mo_payBack_13 ?_
    refine R_lconst (v := (1 : Int64)) X d_Mo_payBack_14 rfl ?_
    refine R_ldc2 (v := (999 : Int64)) X tw_932 d_Mo_payBack_15 ?_
    obtain ⟨p5, e4, h⟩ := ob h
    refine R_scall (As := [.long (a3).toInt64, .long (1 : Int64), .long (999 : Int64)]) (st := []) X (M_Mo_in e4) tw_782 cf_Mo_in rfl rfl rfl d_Mo_payBack_18 ?_
    refine V_pc (pc' := 21) rfl ?_
    refine R_ifne (tgt := 27) X d_Mo_payBack_21 rfl (fun c6 => ?_) (fun c6 => ?_)
    · replace h := (if_neg c6).symm.trans h
      refine R_aload_n X 0 d_Mo_payBack_27 rfl ?_
      refine R_getR (ci := 7) X rfl iMo_ok (of_decide_eq_true rfl) rfl 0 rfl rfl tw_671 d_Mo_payBack_28 ?_
      refine R_bipush (v := (6 : Int32)) X d_Mo_payBack_31 rfl ?_
      refine R_iconst (v := (5 : Int32)) X d_Mo_payBack_33 rfl ?_
      refine R_iload_n X 1 d_Mo_payBack_34 rfl ?_
      refine V_pc (pc' := 35) rfl ?_
      refine R_imul X d_Mo_payBack_35 ?_
      refine R_iadd X d_Mo_payBack_36 ?_
      refine R_iload_n X 2 d_Mo_payBack_37 rfl ?_
      refine R_iadd X d_Mo_payBack_38 ?_
      obtain ⟨i7, h⟩ := ck h
      refine R_iald (n := 736) X (of_decide_eq_true rfl) rfl i7 d_Mo_payBack_39 ?_
      refine R_iload_n X 3 d_Mo_payBack_40 rfl ?_
      refine V_pc (pc' := 41) rfl ?_
      refine R_icmp_ge (tgt := 47) X d_Mo_payBack_41 rfl (fun c8 => ?_) (fun c8 => ?_)
      · replace h := (if_pos c8).symm.trans h
        refine R_aload_n X 0 d_Mo_payBack_47 rfl ?_
        obtain ⟨p10, e9, h⟩ := ob h
        refine R_vcallv (ci := 7) (k := 99) (As := []) (st := []) X (M_Mo_minds e9) tw_917 cf_Mo_minds (of_decide_eq_true rfl) rfl rfl rfl rfl rfl d_Mo_payBack_48 ?_
        refine R_aload_n X 0 d_Mo_payBack_51 rfl ?_
        refine R_iload_n X 1 d_Mo_payBack_52 rfl ?_
        refine R_iload_n X 3 d_Mo_payBack_53 rfl ?_
        refine V_pc (pc' := 54) rfl ?_
        refine R_ineg X d_Mo_payBack_54 ?_
        obtain ⟨p12, e11, h⟩ := ob h
        refine R_vcallv (ci := 7) (k := 99) (As := [.int a1, .int (-a3)]) (st := []) X (M_Mo_changes e11) tw_933 cf_Mo_changes (of_decide_eq_true rfl) rfl rfl rfl rfl rfl d_Mo_payBack_55 ?_
        refine R_aload_n X 0 d_Mo_payBack_58 rfl ?_
        refine R_iload_n X 2 d_Mo_payBack_59 rfl ?_
        refine R_iload_n X 3 d_Mo_payBack_60 rfl ?_
        obtain ⟨p14, e13, h⟩ := ob h
        refine R_vcallv (ci := 7) (k := 99) (As := [.int a2, .int a3]) (st := []) X (M_Mo_changes e13) tw_933 cf_Mo_changes (of_decide_eq_true rfl) rfl rfl rfl rfl rfl d_Mo_payBack_61 ?_
        refine V_pc (pc' := 64) rfl ?_
        refine R_aload_n X 0 d_Mo_payBack_64 rfl ?_
        refine R_iload_n X 1 d_Mo_payBack_65 rfl ?_
        refine R_iload_n X 2 d_Mo_payBack_66 rfl ?_
        refine R_iload_n X 3 d_Mo_payBack_67 rfl ?_
        refine R_ineg X d_Mo_payBack_68 ?_
        obtain ⟨p16, e15, h⟩ := ob h
        refine R_vcallv (ci := 7) (k := 99) (As := [.int a1, .int a2, .int (-a3)]) (st := []) X (M_Mo_owesMore e15) tw_941 cf_Mo_owesMore (of_decide_eq_true rfl) rfl rfl rfl rfl rfl d_Mo_payBack_69 ?_
        refine V_pc (pc' := 72) rfl ?_
        refine R_aload_n X 0 d_Mo_payBack_72 rfl ?_
        refine R_getR (ci := 7) X rfl iMo_ok (of_decide_eq_true rfl) rfl 0 rfl rfl tw_671 d_Mo_payBack_73 ?_
        refine R_bipush (v := (6 : Int32)) X d_Mo_payBack_76 rfl ?_
        refine R_iconst (v := (5 : Int32)) X d_Mo_payBack_78 rfl ?_
        refine R_iload_n X 1 d_Mo_payBack_79 rfl ?_
        refine R_imul X d_Mo_payBack_80 ?_
        refine V_pc (pc' := 81) rfl ?_
        refine R_iadd X d_Mo_payBack_81 ?_
        refine R_iload_n X 2 d_Mo_payBack_82 rfl ?_
        refine R_iadd X d_Mo_payBack_83 ?_
        refine R_iald (n := 736) X (of_decide_eq_true rfl) rfl i7 d_Mo_payBack_84 ?_
        exact R_ret hR h d_Mo_payBack_85
      · replace h := (if_neg c8).symm.trans h
        refine R_ldc (v := (-1000000003 : Int32)) X tw_907 d_Mo_payBack_44 ?_
        exact R_ret hR h d_Mo_payBack_46
    · replace h := (if_pos c6).symm.trans h
      refine R_ldc (v := (-1000000002 : Int32)) X tw_785 d_Mo_payBack_24 ?_
      exact R_ret hR h d_Mo_payBack_26
  · replace h := (if_pos c3).symm.trans h
    refine R_ldc (v := (-1000000001 : Int32)) X tw_873 d_Mo_payBack_9 ?_
    exact R_ret hR h d_Mo_payBack_11
theorem M_Mo_payBack {G : GT} {hp : HP} {a1 : Int32} {a2 : Int32} {a3 : Int32} {p : Int32 × HP} (h : f_Mo_payBack hp a1 a2 a3 = some p) : MI G y_Mo_payBack Y_Mo_payBack .int [.ref (gA G 99), .int a1, .int a2, .int a3] hp p.1 p.2 := MI_of rfl (fun Z hz X hR => by subst hz; exact T_Mo_payBack X h hR)
