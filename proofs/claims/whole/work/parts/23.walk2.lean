/-! Printed by wip/whole/walk.py. -/
theorem d_BA_loan_0 : decode prog_1_method_22_code 0 = .ok (.aload_n 0, 1) := by decide +kernel
theorem d_BA_loan_1 : decode prog_1_method_22_code 1 = .ok (.getfield 59, 3) := by decide +kernel
theorem d_BA_loan_4 : decode prog_1_method_22_code 4 = .ok (.iload_n 1, 1) := by decide +kernel
theorem d_BA_loan_5 : decode prog_1_method_22_code 5 = .ok (.invokevirtual 145, 3) := by decide +kernel
theorem d_BA_loan_8 : decode prog_1_method_22_code 8 = .ok (.ifCond .eq (14), 3) := by decide +kernel
theorem d_BA_loan_11 : decode prog_1_method_22_code 11 = .ok (.aload_n 0, 1) := by decide +kernel
theorem d_BA_loan_12 : decode prog_1_method_22_code 12 = .ok (.getfield 59, 3) := by decide +kernel
theorem d_BA_loan_15 : decode prog_1_method_22_code 15 = .ok (.iload_n 2, 1) := by decide +kernel
theorem d_BA_loan_16 : decode prog_1_method_22_code 16 = .ok (.invokevirtual 173, 3) := by decide +kernel
theorem d_BA_loan_19 : decode prog_1_method_22_code 19 = .ok (.ifCond .ne (6), 3) := by decide +kernel
theorem d_BA_loan_22 : decode prog_1_method_22_code 22 = .ok (.ldc 144, 2) := by decide +kernel
theorem d_BA_loan_24 : decode prog_1_method_22_code 24 = .ok (.ireturn, 1) := by decide +kernel
theorem d_BA_loan_25 : decode prog_1_method_22_code 25 = .ok (.iload_n 3, 1) := by decide +kernel
theorem d_BA_loan_26 : decode prog_1_method_22_code 26 = .ok (.iconst 0, 1) := by decide +kernel
theorem d_BA_loan_27 : decode prog_1_method_22_code 27 = .ok (.iconst 1, 1) := by decide +kernel
theorem d_BA_loan_28 : decode prog_1_method_22_code 28 = .ok (.invokestatic 73, 3) := by decide +kernel
theorem d_BA_loan_31 : decode prog_1_method_22_code 31 = .ok (.ifCond .ne (6), 3) := by decide +kernel
theorem d_BA_loan_34 : decode prog_1_method_22_code 34 = .ok (.ldc 77, 2) := by decide +kernel
theorem d_BA_loan_36 : decode prog_1_method_22_code 36 = .ok (.ireturn, 1) := by decide +kernel
theorem d_BA_loan_37 : decode prog_1_method_22_code 37 = .ok (.aload_n 0, 1) := by decide +kernel
theorem d_BA_loan_38 : decode prog_1_method_22_code 38 = .ok (.getfield 19, 3) := by decide +kernel
theorem d_BA_loan_41 : decode prog_1_method_22_code 41 = .ok (.getfield 148, 3) := by decide +kernel
theorem d_BA_loan_44 : decode prog_1_method_22_code 44 = .ok (.iload_n 1, 1) := by decide +kernel
theorem d_BA_loan_45 : decode prog_1_method_22_code 45 = .ok (.iaload, 1) := by decide +kernel
theorem d_BA_loan_46 : decode prog_1_method_22_code 46 = .ok (.aload_n 0, 1) := by decide +kernel
theorem d_BA_loan_47 : decode prog_1_method_22_code 47 = .ok (.getfield 59, 3) := by decide +kernel
theorem d_BA_loan_50 : decode prog_1_method_22_code 50 = .ok (.iload_n 2, 1) := by decide +kernel
theorem d_BA_loan_51 : decode prog_1_method_22_code 51 = .ok (.invokevirtual 227, 3) := by decide +kernel
theorem d_BA_loan_54 : decode prog_1_method_22_code 54 = .ok (.isub, 1) := by decide +kernel
theorem d_BA_loan_55 : decode prog_1_method_22_code 55 = .ok (.istore 4, 2) := by decide +kernel
theorem d_BA_loan_57 : decode prog_1_method_22_code 57 = .ok (.iload_n 3, 1) := by decide +kernel
theorem d_BA_loan_58 : decode prog_1_method_22_code 58 = .ok (.iconst 1, 1) := by decide +kernel
theorem d_BA_loan_59 : decode prog_1_method_22_code 59 = .ok (.if_icmp .ne (21), 3) := by decide +kernel
theorem d_BA_loan_62 : decode prog_1_method_22_code 62 = .ok (.iload 4, 2) := by decide +kernel
theorem d_BA_loan_64 : decode prog_1_method_22_code 64 = .ok (.ifCond .ge (7), 3) := by decide +kernel
theorem d_BA_loan_67 : decode prog_1_method_22_code 67 = .ok (.iconst (-1), 1) := by decide +kernel
theorem d_BA_loan_68 : decode prog_1_method_22_code 68 = .ok (.goto (11), 3) := by decide +kernel
theorem d_BA_loan_71 : decode prog_1_method_22_code 71 = .ok (.iload 4, 2) := by decide +kernel
theorem d_BA_loan_73 : decode prog_1_method_22_code 73 = .ok (.sipush (9999), 3) := by decide +kernel
theorem d_BA_loan_76 : decode prog_1_method_22_code 76 = .ok (.invokestatic 230, 3) := by decide +kernel
theorem d_BA_loan_79 : decode prog_1_method_22_code 79 = .ok (.ireturn, 1) := by decide +kernel
theorem d_BA_loan_80 : decode prog_1_method_22_code 80 = .ok (.iload 4, 2) := by decide +kernel
theorem d_BA_loan_82 : decode prog_1_method_22_code 82 = .ok (.ifCond .lt (5), 3) := by decide +kernel
theorem d_BA_loan_85 : decode prog_1_method_22_code 85 = .ok (.iconst 0, 1) := by decide +kernel
theorem d_BA_loan_86 : decode prog_1_method_22_code 86 = .ok (.ireturn, 1) := by decide +kernel
theorem d_BA_loan_87 : decode prog_1_method_22_code 87 = .ok (.iload 4, 2) := by decide +kernel
theorem d_BA_loan_89 : decode prog_1_method_22_code 89 = .ok (.ineg, 1) := by decide +kernel
theorem d_BA_loan_90 : decode prog_1_method_22_code 90 = .ok (.sipush (9999), 3) := by decide +kernel
theorem d_BA_loan_93 : decode prog_1_method_22_code 93 = .ok (.if_icmp .gt (9), 3) := by decide +kernel
theorem d_BA_loan_96 : decode prog_1_method_22_code 96 = .ok (.iload 4, 2) := by decide +kernel
theorem d_BA_loan_98 : decode prog_1_method_22_code 98 = .ok (.ineg, 1) := by decide +kernel
theorem d_BA_loan_99 : decode prog_1_method_22_code 99 = .ok (.goto (4), 3) := by decide +kernel
theorem d_BA_loan_102 : decode prog_1_method_22_code 102 = .ok (.iconst (-1), 1) := by decide +kernel
theorem d_BA_loan_103 : decode prog_1_method_22_code 103 = .ok (.ireturn, 1) := by decide +kernel
set_option maxRecDepth 20000 in
set_option maxHeartbeats 2000000 in
theorem T_BA_loan {Z : ZT} (X : CX Z Y_BA_loan) {hp : HP} {a1 : Int32} {a2 : Int32} {a3 : Int32} {p : Int32 × HP} (h : f_BA_loan hp a1 a2 a3 = some p) (hR : RetI Z Y_BA_loan .int p.1 p.2) : V Z Y_BA_loan hp 0 [(0, .ref (gA (zG Z) 0)), (1, .int a1), (2, .int a2), (3, .int a3)] [] := by
  unfold f_BA_loan at h
  refine R_aload_n X 0 d_BA_loan_0 rfl ?_
  refine R_getD (ci := 6) X rfl iBA_ok (of_decide_eq_true rfl) rfl 8 rfl rfl tw_242 d_BA_loan_1 ?_
  obtain ⟨b1, h⟩ := ck h
  refine R_iload_n X 1 d_BA_loan_4 rfl ?_
  obtain ⟨p3, e2, h⟩ := ob h
  refine R_vcall (ci := 0) (k := (hp 0 8).toNatClampNeg) (As := [.int a1]) (st := []) X (M_Br_hasCustomer b1 e2) tw_419 cf_Br_hasCustomer (B_all _ b1).1.1 (B_all _ b1).1.2 rfl rfl rfl rfl d_BA_loan_5 ?_
  refine R_ifeq (tgt := 22) X d_BA_loan_8 rfl (fun c4 => ?_) (fun c4 => ?_)
  · replace h := (if_pos c4).symm.trans h
    refine R_ldc (v := (-1000000001 : Int32)) X tw_414 d_BA_loan_22 ?_
    exact R_ret hR h d_BA_loan_24
  · replace h := (if_neg c4).symm.trans h
    refine R_aload_n X 0 d_BA_loan_11 rfl ?_
    refine R_getD (ci := 6) X rfl iBA_ok (of_decide_eq_true rfl) rfl 8 rfl rfl tw_242 d_BA_loan_12 ?_
    obtain ⟨b5, h⟩ := ck h
    refine R_iload_n X 2 d_BA_loan_15 rfl ?_
    obtain ⟨p7, e6, h⟩ := ob h
    refine R_vcall (ci := 0) (k := (p3.2 0 8).toNatClampNeg) (As := [.int a2]) (st := []) X (M_Br_hasTask b5 e6) tw_437 cf_Br_hasTask (B_all _ b5).1.1 (B_all _ b5).1.2 rfl rfl rfl rfl d_BA_loan_16 ?_
    refine R_ifne (tgt := 25) X d_BA_loan_19 rfl (fun c8 => ?_) (fun c8 => ?_)
    · replace h := (if_neg c8).symm.trans h
      refine R_iload_n X 3 d_BA_loan_25 rfl ?_
      refine R_iconst (v := (0 : Int32)) X d_BA_loan_26 rfl ?_
      refine R_iconst (v := (1 : Int32)) X d_BA_loan_27 rfl ?_
      obtain ⟨p10, e9, h⟩ := ob h
      refine R_scall (As := [.int a3, .int (0 : Int32), .int (1 : Int32)]) (st := []) X (M_BA_within e9) tw_275 cf_BA_within rfl rfl rfl d_BA_loan_28 ?_
      refine R_ifne (tgt := 37) X d_BA_loan_31 rfl (fun c11 => ?_) (fun c11 => ?_)
      · replace h := (if_neg c11).symm.trans h
        refine R_aload_n X 0 d_BA_loan_37 rfl ?_
        refine R_getR (ci := 6) X rfl iBA_ok (of_decide_eq_true rfl) rfl 1 rfl rfl tw_235 d_BA_loan_38 ?_
        refine R_getR (ci := 5) X rfl iSt_ok (of_decide_eq_true rfl) rfl 0 rfl rfl tw_98 d_BA_loan_41 ?_
        refine R_iload_n X 1 d_BA_loan_44 rfl ?_
        obtain ⟨i12, h⟩ := ck h
        refine R_iald (n := 5) X (of_decide_eq_true rfl) rfl i12 d_BA_loan_45 ?_
        refine V_pc (pc' := 46) rfl ?_
        refine R_aload_n X 0 d_BA_loan_46 rfl ?_
        refine R_getD (ci := 6) X rfl iBA_ok (of_decide_eq_true rfl) rfl 8 rfl rfl tw_242 d_BA_loan_47 ?_
        obtain ⟨b13, h⟩ := ck h
        refine R_iload_n X 2 d_BA_loan_50 rfl ?_
        obtain ⟨p15, e14, h⟩ := ob h
        refine R_vcall (ci := 0) (k := (p10.2 0 8).toNatClampNeg) (As := [.int a2]) (st := [.int (p10.2 4 (a1).toNatClampNeg)]) X (M_Br_needOf b13 e14) tw_592 cf_Br_needOf (B_all _ b13).1.1 (B_all _ b13).1.2 rfl rfl rfl rfl d_BA_loan_51 ?_
        refine R_isub X d_BA_loan_54 ?_
        refine R_istore (L' := [(4, .int ((p10.2 4 (a1).toNatClampNeg) - p15.1)), (0, .ref (gA (zG Z) 0)), (1, .int a1), (2, .int a2), (3, .int a3)]) X d_BA_loan_55 (by decide) rfl ?_
        refine V_pc (pc' := 57) rfl ?_
        refine R_iload_n X 4 d_BA_loan_57 rfl ?_
        refine R_iconst (v := (1 : Int32)) X d_BA_loan_58 rfl ?_
        refine R_icmp_ne (tgt := 80) X d_BA_loan_59 rfl (fun c16 => ?_) (fun c16 => ?_)
        · replace h := (if_neg c16).symm.trans h
          refine R_iload X 0 d_BA_loan_80 rfl ?_
          refine R_iflt (tgt := 87) X d_BA_loan_82 rfl (fun c18 => ?_) (fun c18 => ?_)
          · replace h := (if_pos c18).symm.trans h
            refine R_iload X 0 d_BA_loan_87 rfl ?_
            refine R_ineg X d_BA_loan_89 ?_
            refine R_sipush (v := (9999 : Int32)) X d_BA_loan_90 rfl ?_
            refine R_icmp_gt (tgt := 102) X d_BA_loan_93 rfl (fun c19 => ?_) (fun c19 => ?_)
            · replace h := (if_pos c19).symm.trans h
              refine R_iconst (v := (-1 : Int32)) X d_BA_loan_102 rfl ?_
              exact R_ret hR h d_BA_loan_103
            · replace h := (if_neg c19).symm.trans h
              refine R_iload X 0 d_BA_loan_96 rfl ?_
              refine R_ineg X d_BA_loan_98 ?_
              refine R_goto (tgt := 103) X d_BA_loan_99 rfl ?_
              exact R_ret hR h d_BA_loan_103
          · replace h := (if_neg c18).symm.trans h
            refine R_iconst (v := (0 : Int32)) X d_BA_loan_85 rfl ?_
            exact R_ret hR h d_BA_loan_86
        · replace h := (if_pos c16).symm.trans h
          refine R_iload X 0 d_BA_loan_62 rfl ?_
          refine R_ifge (tgt := 71) X d_BA_loan_64 rfl (fun c17 => ?_) (fun c17 => ?_)
          · replace h := (if_pos c17).symm.trans h
            refine R_iload X 0 d_BA_loan_71 rfl ?_
            refine R_sipush (v := (9999 : Int32)) X d_BA_loan_73 rfl ?_
            refine R_mmin X tw_394 tw_395 tw_56 tw_396 rfl d_BA_loan_76 ?_
            exact R_ret hR h d_BA_loan_79
          · replace h := (if_neg c17).symm.trans h
            refine R_iconst (v := (-1 : Int32)) X d_BA_loan_67 rfl ?_
            refine R_goto (tgt := 79) X d_BA_loan_68 rfl ?_
            exact R_ret hR h d_BA_loan_79
      · replace h := (if_pos c11).symm.trans h
        refine R_ldc (v := (-1000000002 : Int32)) X tw_278 d_BA_loan_34 ?_
        exact R_ret hR h d_BA_loan_36
    · replace h := (if_pos c8).symm.trans h
      refine R_ldc (v := (-1000000001 : Int32)) X tw_414 d_BA_loan_22 ?_
      exact R_ret hR h d_BA_loan_24
theorem M_BA_loan {G : GT} {hp : HP} {a1 : Int32} {a2 : Int32} {a3 : Int32} {p : Int32 × HP} (h : f_BA_loan hp a1 a2 a3 = some p) : MI G y_BA_loan Y_BA_loan .int [.ref (gA G 0), .int a1, .int a2, .int a3] hp p.1 p.2 := MI_of rfl (fun Z hz X hR => by subst hz; exact T_BA_loan X h hR)
theorem d_Br_goneAheadOf_0 : decode prog_2_method_15_code 0 = .ok (.iconst 0, 1) := by decide +kernel
theorem d_Br_goneAheadOf_1 : decode prog_2_method_15_code 1 = .ok (.istore_n 2, 1) := by decide +kernel
theorem d_Br_goneAheadOf_2 : decode prog_2_method_15_code 2 = .ok (.iconst 0, 1) := by decide +kernel
theorem d_Br_goneAheadOf_3 : decode prog_2_method_15_code 3 = .ok (.istore_n 3, 1) := by decide +kernel
theorem d_Br_goneAheadOf_4 : decode prog_2_method_15_code 4 = .ok (.iload_n 3, 1) := by decide +kernel
theorem d_Br_goneAheadOf_5 : decode prog_2_method_15_code 5 = .ok (.aload_n 0, 1) := by decide +kernel
theorem d_Br_goneAheadOf_6 : decode prog_2_method_15_code 6 = .ok (.getfield 27, 3) := by decide +kernel
theorem d_Br_goneAheadOf_9 : decode prog_2_method_15_code 9 = .ok (.if_icmp .ge (47), 3) := by decide +kernel
theorem d_Br_goneAheadOf_12 : decode prog_2_method_15_code 12 = .ok (.aload_n 0, 1) := by decide +kernel
theorem d_Br_goneAheadOf_13 : decode prog_2_method_15_code 13 = .ok (.getfield 9, 3) := by decide +kernel
theorem d_Br_goneAheadOf_16 : decode prog_2_method_15_code 16 = .ok (.iload_n 3, 1) := by decide +kernel
theorem d_Br_goneAheadOf_17 : decode prog_2_method_15_code 17 = .ok (.iaload, 1) := by decide +kernel
theorem d_Br_goneAheadOf_18 : decode prog_2_method_15_code 18 = .ok (.aload_n 0, 1) := by decide +kernel
theorem d_Br_goneAheadOf_19 : decode prog_2_method_15_code 19 = .ok (.getfield 9, 3) := by decide +kernel
theorem d_Br_goneAheadOf_22 : decode prog_2_method_15_code 22 = .ok (.iload_n 1, 1) := by decide +kernel
theorem d_Br_goneAheadOf_23 : decode prog_2_method_15_code 23 = .ok (.iaload, 1) := by decide +kernel
theorem d_Br_goneAheadOf_24 : decode prog_2_method_15_code 24 = .ok (.if_icmp .gt (23), 3) := by decide +kernel
theorem d_Br_goneAheadOf_27 : decode prog_2_method_15_code 27 = .ok (.aload_n 0, 1) := by decide +kernel
theorem d_Br_goneAheadOf_28 : decode prog_2_method_15_code 28 = .ok (.getfield 9, 3) := by decide +kernel
theorem d_Br_goneAheadOf_31 : decode prog_2_method_15_code 31 = .ok (.iload_n 3, 1) := by decide +kernel
theorem d_Br_goneAheadOf_32 : decode prog_2_method_15_code 32 = .ok (.iaload, 1) := by decide +kernel
theorem d_Br_goneAheadOf_33 : decode prog_2_method_15_code 33 = .ok (.aload_n 0, 1) := by decide +kernel
theorem d_Br_goneAheadOf_34 : decode prog_2_method_15_code 34 = .ok (.getfield 9, 3) := by decide +kernel
theorem d_Br_goneAheadOf_37 : decode prog_2_method_15_code 37 = .ok (.iload_n 1, 1) := by decide +kernel
theorem d_Br_goneAheadOf_38 : decode prog_2_method_15_code 38 = .ok (.iaload, 1) := by decide +kernel
theorem d_Br_goneAheadOf_39 : decode prog_2_method_15_code 39 = .ok (.if_icmp .ne (11), 3) := by decide +kernel
theorem d_Br_goneAheadOf_42 : decode prog_2_method_15_code 42 = .ok (.iload_n 3, 1) := by decide +kernel
theorem d_Br_goneAheadOf_43 : decode prog_2_method_15_code 43 = .ok (.iload_n 1, 1) := by decide +kernel
theorem d_Br_goneAheadOf_44 : decode prog_2_method_15_code 44 = .ok (.if_icmp .ge (6), 3) := by decide +kernel
theorem d_Br_goneAheadOf_47 : decode prog_2_method_15_code 47 = .ok (.iinc 2 (1), 3) := by decide +kernel
theorem d_Br_goneAheadOf_50 : decode prog_2_method_15_code 50 = .ok (.iinc 3 (1), 3) := by decide +kernel
theorem d_Br_goneAheadOf_53 : decode prog_2_method_15_code 53 = .ok (.goto (-49), 3) := by decide +kernel
theorem d_Br_goneAheadOf_56 : decode prog_2_method_15_code 56 = .ok (.iload_n 2, 1) := by decide +kernel
theorem d_Br_goneAheadOf_57 : decode prog_2_method_15_code 57 = .ok (.ireturn, 1) := by decide +kernel
set_option maxRecDepth 20000 in
set_option maxHeartbeats 2000000 in
theorem T_Br_goneAheadOf_L4 {Z : ZT} (X : CX Z Y_Br_goneAheadOf) {q0 : Nat} {v1 : Int32} (hq0 : isB q0 = true) {p : Int32 × HP} (hR : RetI Z Y_Br_goneAheadOf .int p.1 p.2) {K : HP → Int32 → Option (Int32 × HP)} (hK : ∀ (hp : HP) (x2 : Int32), K hp x2 = some p → V Z Y_Br_goneAheadOf hp 56 [(2, .int x2)] []) : ∀ (n : Nat) (hp : HP) (x2 : Int32) (x3 : Int32), f_Br_goneAheadOf_L4 q0 v1 K n hp x2 x3 = some p → V Z Y_Br_goneAheadOf hp 4 [(0, .ref (gA (zG Z) q0)), (1, .int v1), (2, .int x2), (3, .int x3)] [] := by
  intro n
  induction n with
  | zero =>
    intro hp x2 x3 h
    cases h
  | succ n ih =>
    intro hp x2 x3 h
    replace h : f_Br_goneAheadOf_L4 q0 v1 K (n + 1) hp x2 x3 = some p := h
    unfold f_Br_goneAheadOf_L4 at h
    refine R_iload_n X 3 d_Br_goneAheadOf_4 rfl ?_
    refine R_aload_n X 0 d_Br_goneAheadOf_5 rfl ?_
    refine R_getI (ci := 0) X rfl iBr_ok (B_all _ hq0).1.1 (B_all _ hq0).1.2 5 rfl rfl tw_208 d_Br_goneAheadOf_6 ?_
    refine R_icmp_ge (tgt := 56) X d_Br_goneAheadOf_9 rfl (fun c1 => ?_) (fun c1 => ?_)
    · replace h := (if_pos c1).symm.trans h
      refine V_pc (pc' := 56) rfl (R_loc (L' := [(2, .int x2)]) [2] rfl ?_)
      exact hK hp x2 h
    · replace h := (if_neg c1).symm.trans h
      refine R_aload_n X 0 d_Br_goneAheadOf_12 rfl ?_
      refine R_getR (ci := 0) X rfl iBr_ok (B_all _ hq0).1.1 (B_all _ hq0).1.2 0 rfl rfl tw_198 d_Br_goneAheadOf_13 ?_
      refine R_iload_n X 3 d_Br_goneAheadOf_16 rfl ?_
      obtain ⟨i2, h⟩ := ck h
      refine R_iald (n := 8) X (B_all _ hq0).2.1.1 (B_all _ hq0).2.1.2 i2 d_Br_goneAheadOf_17 ?_
      refine R_aload_n X 0 d_Br_goneAheadOf_18 rfl ?_
      refine V_pc (pc' := 19) rfl ?_
      refine R_getR (ci := 0) X rfl iBr_ok (B_all _ hq0).1.1 (B_all _ hq0).1.2 0 rfl rfl tw_198 d_Br_goneAheadOf_19 ?_
      refine R_iload_n X 1 d_Br_goneAheadOf_22 rfl ?_
      obtain ⟨i3, h⟩ := ck h
      refine R_iald (n := 8) X (B_all _ hq0).2.1.1 (B_all _ hq0).2.1.2 i3 d_Br_goneAheadOf_23 ?_
      refine R_icmp_gt (tgt := 47) X d_Br_goneAheadOf_24 rfl (fun c4 => ?_) (fun c4 => ?_)
      · replace h := (if_pos c4).symm.trans h
        refine R_iinc (v := (x2 + 1)) (L' := [(2, .int (x2 + 1)), (0, .ref (gA (zG Z) q0)), (1, .int v1), (3, .int x3)]) X 2 d_Br_goneAheadOf_47 rfl rfl (by decide) rfl ?_
        refine R_iinc (v := (x3 + 1)) (L' := [(3, .int (x3 + 1)), (2, .int (x2 + 1)), (0, .ref (gA (zG Z) q0)), (1, .int v1)]) X 3 d_Br_goneAheadOf_50 rfl rfl (by decide) rfl ?_
        refine R_goto (tgt := 4) X d_Br_goneAheadOf_53 rfl ?_
        refine V_pc (pc' := 4) rfl (R_loc (L' := [(0, .ref (gA (zG Z) q0)), (1, .int v1), (2, .int (x2 + 1)), (3, .int (x3 + 1))]) [2, 3, 1, 0] rfl ?_)
        exact ih hp (x2 + 1) (x3 + 1) h
      · replace h := (if_neg c4).symm.trans h
        refine R_aload_n X 0 d_Br_goneAheadOf_27 rfl ?_
        refine R_getR (ci := 0) X rfl iBr_ok (B_all _ hq0).1.1 (B_all _ hq0).1.2 0 rfl rfl tw_198 d_Br_goneAheadOf_28 ?_
        refine R_iload_n X 3 d_Br_goneAheadOf_31 rfl ?_
        refine R_iald (n := 8) X (B_all _ hq0).2.1.1 (B_all _ hq0).2.1.2 i2 d_Br_goneAheadOf_32 ?_
        refine R_aload_n X 0 d_Br_goneAheadOf_33 rfl ?_
        refine V_pc (pc' := 34) rfl ?_
        refine R_getR (ci := 0) X rfl iBr_ok (B_all _ hq0).1.1 (B_all _ hq0).1.2 0 rfl rfl tw_198 d_Br_goneAheadOf_34 ?_
        refine R_iload_n X 1 d_Br_goneAheadOf_37 rfl ?_
        refine R_iald (n := 8) X (B_all _ hq0).2.1.1 (B_all _ hq0).2.1.2 i3 d_Br_goneAheadOf_38 ?_
        refine R_icmp_ne (tgt := 50) X d_Br_goneAheadOf_39 rfl (fun c5 => ?_) (fun c5 => ?_)
        · replace h := (if_neg c5).symm.trans h
          refine R_iinc (v := (x3 + 1)) (L' := [(3, .int (x3 + 1)), (0, .ref (gA (zG Z) q0)), (1, .int v1), (2, .int x2)]) X 3 d_Br_goneAheadOf_50 rfl rfl (by decide) rfl ?_
          refine R_goto (tgt := 4) X d_Br_goneAheadOf_53 rfl ?_
          refine V_pc (pc' := 4) rfl (R_loc (L' := [(0, .ref (gA (zG Z) q0)), (1, .int v1), (2, .int x2), (3, .int (x3 + 1))]) [1, 2, 3, 0] rfl ?_)
          exact ih hp x2 (x3 + 1) h
        · replace h := (if_pos c5).symm.trans h
          refine R_iload_n X 3 d_Br_goneAheadOf_42 rfl ?_
          refine R_iload_n X 1 d_Br_goneAheadOf_43 rfl ?_
          refine R_icmp_ge (tgt := 50) X d_Br_goneAheadOf_44 rfl (fun c6 => ?_) (fun c6 => ?_)
          · replace h := (if_pos c6).symm.trans h
            refine R_iinc (v := (x3 + 1)) (L' := [(3, .int (x3 + 1)), (0, .ref (gA (zG Z) q0)), (1, .int v1), (2, .int x2)]) X 3 d_Br_goneAheadOf_50 rfl rfl (by decide) rfl ?_
            refine R_goto (tgt := 4) X d_Br_goneAheadOf_53 rfl ?_
            refine V_pc (pc' := 4) rfl (R_loc (L' := [(0, .ref (gA (zG Z) q0)), (1, .int v1), (2, .int x2), (3, .int (x3 + 1))]) [1, 2, 3, 0] rfl ?_)
            exact ih hp x2 (x3 + 1) h
          · replace h := (if_neg c6).symm.trans h
            refine R_iinc (v := (x2 + 1)) (L' := [(2, .int (x2 + 1)), (0, .ref (gA (zG Z) q0)), (1, .int v1), (3, .int x3)]) X 2 d_Br_goneAheadOf_47 rfl rfl (by decide) rfl ?_
            refine R_iinc (v := (x3 + 1)) (L' := [(3, .int (x3 + 1)), (2, .int (x2 + 1)), (0, .ref (gA (zG Z) q0)), (1, .int v1)]) X 3 d_Br_goneAheadOf_50 rfl rfl (by decide) rfl ?_
            refine R_goto (tgt := 4) X d_Br_goneAheadOf_53 rfl ?_
            refine V_pc (pc' := 4) rfl (R_loc (L' := [(0, .ref (gA (zG Z) q0)), (1, .int v1), (2, .int (x2 + 1)), (3, .int (x3 + 1))]) [2, 3, 1, 0] rfl ?_)
            exact ih hp (x2 + 1) (x3 + 1) h
set_option maxRecDepth 20000 in
set_option maxHeartbeats 2000000 in
theorem T_Br_goneAheadOf {Z : ZT} (X : CX Z Y_Br_goneAheadOf) {hp : HP} {q0 : Nat} {a1 : Int32} (hq0 : isB q0 = true) {p : Int32 × HP} (h : f_Br_goneAheadOf hp q0 a1 = some p) (hR : RetI Z Y_Br_goneAheadOf .int p.1 p.2) : V Z Y_Br_goneAheadOf hp 0 [(0, .ref (gA (zG Z) q0)), (1, .int a1)] [] := by
  unfold f_Br_goneAheadOf at h
  refine R_iconst (v := (0 : Int32)) X d_Br_goneAheadOf_0 rfl ?_
  refine R_istore_n (L' := [(2, .int (0 : Int32)), (0, .ref (gA (zG Z) q0)), (1, .int a1)]) X d_Br_goneAheadOf_1 (by decide) rfl ?_
  refine R_iconst (v := (0 : Int32)) X d_Br_goneAheadOf_2 rfl ?_
  refine R_istore_n (L' := [(3, .int (0 : Int32)), (2, .int (0 : Int32)), (0, .ref (gA (zG Z) q0)), (1, .int a1)]) X d_Br_goneAheadOf_3 (by decide) rfl ?_
  refine V_pc (pc' := 4) rfl (R_loc (L' := [(0, .ref (gA (zG Z) q0)), (1, .int a1), (2, .int (0 : Int32)), (3, .int (0 : Int32))]) [2, 3, 1, 0] rfl ?_)
  refine T_Br_goneAheadOf_L4 X hq0 hR (fun hp8 w7 h => ?_) _ hp (0 : Int32) (0 : Int32) h
  refine R_iload_n X 0 d_Br_goneAheadOf_56 rfl ?_
  exact R_ret hR h d_Br_goneAheadOf_57
theorem M_Br_goneAheadOf {G : GT} {hp : HP} {q0 : Nat} {a1 : Int32} (hq0 : isB q0 = true) {p : Int32 × HP} (h : f_Br_goneAheadOf hp q0 a1 = some p) : MI G y_Br_goneAheadOf Y_Br_goneAheadOf .int [.ref (gA G q0), .int a1] hp p.1 p.2 := MI_of rfl (fun Z hz X hR => by subst hz; exact T_Br_goneAheadOf X hq0 h hR)
theorem d_BA_order_0 : decode prog_1_method_23_code 0 = .ok (.iconst 0, 1) := by decide +kernel
theorem d_BA_order_1 : decode prog_1_method_23_code 1 = .ok (.istore_n 2, 1) := by decide +kernel
theorem d_BA_order_2 : decode prog_1_method_23_code 2 = .ok (.iload_n 2, 1) := by decide +kernel
theorem d_BA_order_3 : decode prog_1_method_23_code 3 = .ok (.aload_n 0, 1) := by decide +kernel
theorem d_BA_order_4 : decode prog_1_method_23_code 4 = .ok (.getfield 59, 3) := by decide +kernel
theorem d_BA_order_7 : decode prog_1_method_23_code 7 = .ok (.getfield 102, 3) := by decide +kernel
theorem d_BA_order_10 : decode prog_1_method_23_code 10 = .ok (.if_icmp .ge (23), 3) := by decide +kernel
theorem d_BA_order_13 : decode prog_1_method_23_code 13 = .ok (.aload_n 0, 1) := by decide +kernel
theorem d_BA_order_14 : decode prog_1_method_23_code 14 = .ok (.getfield 59, 3) := by decide +kernel
theorem d_BA_order_17 : decode prog_1_method_23_code 17 = .ok (.iload_n 2, 1) := by decide +kernel
theorem d_BA_order_18 : decode prog_1_method_23_code 18 = .ok (.invokevirtual 235, 3) := by decide +kernel
theorem d_BA_order_21 : decode prog_1_method_23_code 21 = .ok (.iload_n 1, 1) := by decide +kernel
theorem d_BA_order_22 : decode prog_1_method_23_code 22 = .ok (.if_icmp .ne (5), 3) := by decide +kernel
theorem d_BA_order_25 : decode prog_1_method_23_code 25 = .ok (.iload_n 2, 1) := by decide +kernel
theorem d_BA_order_26 : decode prog_1_method_23_code 26 = .ok (.ireturn, 1) := by decide +kernel
theorem d_BA_order_27 : decode prog_1_method_23_code 27 = .ok (.iinc 2 (1), 3) := by decide +kernel
theorem d_BA_order_30 : decode prog_1_method_23_code 30 = .ok (.goto (-28), 3) := by decide +kernel
theorem d_BA_order_33 : decode prog_1_method_23_code 33 = .ok (.iconst (-1), 1) := by decide +kernel
theorem d_BA_order_34 : decode prog_1_method_23_code 34 = .ok (.ireturn, 1) := by decide +kernel
set_option maxRecDepth 20000 in
set_option maxHeartbeats 2000000 in
theorem T_BA_order_L2 {Z : ZT} (X : CX Z Y_BA_order) {v1 : Int32} {p : Int32 × HP} (hR : RetI Z Y_BA_order .int p.1 p.2) {K : HP → Option (Int32 × HP)} (hK : ∀ (hp : HP), K hp = some p → V Z Y_BA_order hp 33 [] []) : ∀ (n : Nat) (hp : HP) (x2 : Int32), f_BA_order_L2 v1 K n hp x2 = some p → V Z Y_BA_order hp 2 [(0, .ref (gA (zG Z) 0)), (1, .int v1), (2, .int x2)] [] := by
  intro n
  induction n with
  | zero =>
    intro hp x2 h
    cases h
  | succ n ih =>
    intro hp x2 h
    replace h : f_BA_order_L2 v1 K (n + 1) hp x2 = some p := h
    unfold f_BA_order_L2 at h
    refine R_iload_n X 2 d_BA_order_2 rfl ?_
    refine R_aload_n X 0 d_BA_order_3 rfl ?_
    refine R_getD (ci := 6) X rfl iBA_ok (of_decide_eq_true rfl) rfl 8 rfl rfl tw_242 d_BA_order_4 ?_
    obtain ⟨b1, h⟩ := ck h
    refine R_getI (ci := 0) X rfl iBr_ok (B_all _ b1).1.1 (B_all _ b1).1.2 5 rfl rfl tw_209 d_BA_order_7 ?_
    refine R_icmp_ge (tgt := 33) X d_BA_order_10 rfl (fun c2 => ?_) (fun c2 => ?_)
    · replace h := (if_pos c2).symm.trans h
      refine V_pc (pc' := 33) rfl (R_loc (L' := []) [] rfl ?_)
      exact hK hp h
    · replace h := (if_neg c2).symm.trans h
      refine R_aload_n X 0 d_BA_order_13 rfl ?_
      refine R_getD (ci := 6) X rfl iBA_ok (of_decide_eq_true rfl) rfl 8 rfl rfl tw_242 d_BA_order_14 ?_
      refine R_iload_n X 2 d_BA_order_17 rfl ?_
      obtain ⟨p4, e3, h⟩ := ob h
      refine R_vcall (ci := 0) (k := (hp 0 8).toNatClampNeg) (As := [.int x2]) (st := []) X (M_Br_goneAheadOf b1 e3) tw_597 cf_Br_goneAheadOf (B_all _ b1).1.1 (B_all _ b1).1.2 rfl rfl rfl rfl d_BA_order_18 ?_
      refine R_iload_n X 1 d_BA_order_21 rfl ?_
      refine V_pc (pc' := 22) rfl ?_
      refine R_icmp_ne (tgt := 27) X d_BA_order_22 rfl (fun c5 => ?_) (fun c5 => ?_)
      · replace h := (if_neg c5).symm.trans h
        refine R_iinc (v := (x2 + 1)) (L' := [(2, .int (x2 + 1)), (0, .ref (gA (zG Z) 0)), (1, .int v1)]) X 2 d_BA_order_27 rfl rfl (by decide) rfl ?_
        refine R_goto (tgt := 2) X d_BA_order_30 rfl ?_
        refine V_pc (pc' := 2) rfl (R_loc (L' := [(0, .ref (gA (zG Z) 0)), (1, .int v1), (2, .int (x2 + 1))]) [1, 2, 0] rfl ?_)
        exact ih p4.2 (x2 + 1) h
      · replace h := (if_pos c5).symm.trans h
        refine R_iload_n X 2 d_BA_order_25 rfl ?_
        exact R_ret hR h d_BA_order_26
set_option maxRecDepth 20000 in
set_option maxHeartbeats 2000000 in
theorem T_BA_order {Z : ZT} (X : CX Z Y_BA_order) {hp : HP} {a1 : Int32} {p : Int32 × HP} (h : f_BA_order hp a1 = some p) (hR : RetI Z Y_BA_order .int p.1 p.2) : V Z Y_BA_order hp 0 [(0, .ref (gA (zG Z) 0)), (1, .int a1)] [] := by
  unfold f_BA_order at h
  refine R_iconst (v := (0 : Int32)) X d_BA_order_0 rfl ?_
  refine R_istore_n (L' := [(2, .int (0 : Int32)), (0, .ref (gA (zG Z) 0)), (1, .int a1)]) X d_BA_order_1 (by decide) rfl ?_
  refine V_pc (pc' := 2) rfl (R_loc (L' := [(0, .ref (gA (zG Z) 0)), (1, .int a1), (2, .int (0 : Int32))]) [1, 2, 0] rfl ?_)
  refine T_BA_order_L2 X hR (fun hp6 h => ?_) _ hp (0 : Int32) h
  refine R_iconst (v := (-1 : Int32)) X d_BA_order_33 rfl ?_
  exact R_ret hR h d_BA_order_34
theorem M_BA_order {G : GT} {hp : HP} {a1 : Int32} {p : Int32 × HP} (h : f_BA_order hp a1 = some p) : MI G y_BA_order Y_BA_order .int [.ref (gA G 0), .int a1] hp p.1 p.2 := MI_of rfl (fun Z hz X hR => by subst hz; exact T_BA_order X h hR)
theorem d_BA_wage_0 : decode prog_1_method_24_code 0 = .ok (.iload_n 1, 1) := by decide +kernel
theorem d_BA_wage_1 : decode prog_1_method_24_code 1 = .ok (.iconst 0, 1) := by decide +kernel
theorem d_BA_wage_2 : decode prog_1_method_24_code 2 = .ok (.bipush (60), 2) := by decide +kernel
theorem d_BA_wage_4 : decode prog_1_method_24_code 4 = .ok (.invokestatic 73, 3) := by decide +kernel
theorem d_BA_wage_7 : decode prog_1_method_24_code 7 = .ok (.ifCond .eq (13), 3) := by decide +kernel
theorem d_BA_wage_10 : decode prog_1_method_24_code 10 = .ok (.iload_n 2, 1) := by decide +kernel
theorem d_BA_wage_11 : decode prog_1_method_24_code 11 = .ok (.iconst 0, 1) := by decide +kernel
theorem d_BA_wage_12 : decode prog_1_method_24_code 12 = .ok (.bipush (100), 2) := by decide +kernel
theorem d_BA_wage_14 : decode prog_1_method_24_code 14 = .ok (.invokestatic 73, 3) := by decide +kernel
theorem d_BA_wage_17 : decode prog_1_method_24_code 17 = .ok (.ifCond .ne (6), 3) := by decide +kernel
theorem d_BA_wage_20 : decode prog_1_method_24_code 20 = .ok (.ldc 77, 2) := by decide +kernel
theorem d_BA_wage_22 : decode prog_1_method_24_code 22 = .ok (.ireturn, 1) := by decide +kernel
theorem d_BA_wage_23 : decode prog_1_method_24_code 23 = .ok (.ldc2_w 238, 3) := by decide +kernel
theorem d_BA_wage_26 : decode prog_1_method_24_code 26 = .ok (.lstore_n 3, 1) := by decide +kernel
theorem d_BA_wage_27 : decode prog_1_method_24_code 27 = .ok (.iconst 0, 1) := by decide +kernel
theorem d_BA_wage_28 : decode prog_1_method_24_code 28 = .ok (.istore 5, 2) := by decide +kernel
theorem d_BA_wage_30 : decode prog_1_method_24_code 30 = .ok (.iload 5, 2) := by decide +kernel
theorem d_BA_wage_32 : decode prog_1_method_24_code 32 = .ok (.iload_n 1, 1) := by decide +kernel
theorem d_BA_wage_33 : decode prog_1_method_24_code 33 = .ok (.if_icmp .ge (21), 3) := by decide +kernel
theorem d_BA_wage_36 : decode prog_1_method_24_code 36 = .ok (.lload_n 3, 1) := by decide +kernel
theorem d_BA_wage_37 : decode prog_1_method_24_code 37 = .ok (.bipush (100), 2) := by decide +kernel
theorem d_BA_wage_39 : decode prog_1_method_24_code 39 = .ok (.iload_n 2, 1) := by decide +kernel
theorem d_BA_wage_40 : decode prog_1_method_24_code 40 = .ok (.isub, 1) := by decide +kernel
theorem d_BA_wage_41 : decode prog_1_method_24_code 41 = .ok (.i2l, 1) := by decide +kernel
theorem d_BA_wage_42 : decode prog_1_method_24_code 42 = .ok (.lmul, 1) := by decide +kernel
theorem d_BA_wage_43 : decode prog_1_method_24_code 43 = .ok (.ldc2_w 240, 3) := by decide +kernel
theorem d_BA_wage_46 : decode prog_1_method_24_code 46 = .ok (.ldiv, 1) := by decide +kernel
theorem d_BA_wage_47 : decode prog_1_method_24_code 47 = .ok (.lstore_n 3, 1) := by decide +kernel
theorem d_BA_wage_48 : decode prog_1_method_24_code 48 = .ok (.iinc 5 (1), 3) := by decide +kernel
theorem d_BA_wage_51 : decode prog_1_method_24_code 51 = .ok (.goto (-21), 3) := by decide +kernel
theorem d_BA_wage_54 : decode prog_1_method_24_code 54 = .ok (.lload_n 3, 1) := by decide +kernel
theorem d_BA_wage_55 : decode prog_1_method_24_code 55 = .ok (.l2i, 1) := by decide +kernel
theorem d_BA_wage_56 : decode prog_1_method_24_code 56 = .ok (.ireturn, 1) := by decide +kernel
set_option maxRecDepth 20000 in
set_option maxHeartbeats 2000000 in
theorem T_BA_wage_L30 {Z : ZT} (X : CX Z Y_BA_wage) {v1 : Int32} {v2 : Int32} {p : Int32 × HP} (hR : RetI Z Y_BA_wage .int p.1 p.2) {K : HP → Int64 → Option (Int32 × HP)} (hK : ∀ (hp : HP) (x3 : Int64), K hp x3 = some p → V Z Y_BA_wage hp 54 [(3, .long x3)] []) : ∀ (n : Nat) (hp : HP) (x3 : Int64) (x5 : Int32), f_BA_wage_L30 v1 v2 K n hp x3 x5 = some p → V Z Y_BA_wage hp 30 [(1, .int v1), (2, .int v2), (3, .long x3), (5, .int x5)] [] := by
  intro n
  induction n with
  | zero =>
    intro hp x3 x5 h
    cases h
  | succ n ih =>
    intro hp x3 x5 h
    replace h : f_BA_wage_L30 v1 v2 K (n + 1) hp x3 x5 = some p := h
    unfold f_BA_wage_L30 at h
    refine R_iload X 3 d_BA_wage_30 rfl ?_
    refine R_iload_n X 0 d_BA_wage_32 rfl ?_
    refine R_icmp_ge (tgt := 54) X d_BA_wage_33 rfl (fun c7 => ?_) (fun c7 => ?_)
    · replace h := (if_pos c7).symm.trans h
      refine V_pc (pc' := 54) rfl (R_loc (L' := [(3, .long x3)]) [2] rfl ?_)
      exact hK hp x3 h
    · replace h := (if_neg c7).symm.trans h
      refine R_lload_n X 2 d_BA_wage_36 rfl ?_
      refine R_bipush (v := (100 : Int32)) X d_BA_wage_37 rfl ?_
      refine R_iload_n X 1 d_BA_wage_39 rfl ?_
      refine R_isub X d_BA_wage_40 ?_
      refine R_i2l X d_BA_wage_41 ?_
      refine V_pc (pc' := 42) rfl ?_
      refine R_lmul X d_BA_wage_42 ?_
      refine R_ldc2 (v := (100 : Int64)) X tw_606 d_BA_wage_43 ?_
      refine R_ldiv X d_BA_wage_46 (by decide) ?_
      refine R_lstore_n (L' := [(3, .long ((x3 * (((100 : Int32) - v2)).toInt64) / (100 : Int64))), (1, .int v1), (2, .int v2), (5, .int x5)]) X d_BA_wage_47 (by decide) rfl ?_
      refine R_iinc (v := (x5 + 1)) (L' := [(5, .int (x5 + 1)), (3, .long ((x3 * (((100 : Int32) - v2)).toInt64) / (100 : Int64))), (1, .int v1), (2, .int v2)]) X 3 d_BA_wage_48 rfl rfl (by decide) rfl ?_
      refine R_goto (tgt := 30) X d_BA_wage_51 rfl ?_
      refine V_pc (pc' := 30) rfl (R_loc (L' := [(1, .int v1), (2, .int v2), (3, .long ((x3 * (((100 : Int32) - v2)).toInt64) / (100 : Int64))), (5, .int (x5 + 1))]) [2, 3, 1, 0] rfl ?_)
      exact ih hp ((x3 * (((100 : Int32) - v2)).toInt64) / (100 : Int64)) (x5 + 1) h
set_option maxRecDepth 20000 in
set_option maxHeartbeats 2000000 in
theorem T_BA_wage {Z : ZT} (X : CX Z Y_BA_wage) {hp : HP} {a1 : Int32} {a2 : Int32} {p : Int32 × HP} (h : f_BA_wage hp a1 a2 = some p) (hR : RetI Z Y_BA_wage .int p.1 p.2) : V Z Y_BA_wage hp 0 [(0, .ref (gA (zG Z) 0)), (1, .int a1), (2, .int a2)] [] := by
  unfold f_BA_wage at h
  refine R_iload_n X 1 d_BA_wage_0 rfl ?_
  refine R_iconst (v := (0 : Int32)) X d_BA_wage_1 rfl ?_
  refine R_bipush (v := (60 : Int32)) X d_BA_wage_2 rfl ?_
  obtain ⟨p2, e1, h⟩ := ob h
  refine R_scall (As := [.int a1, .int (0 : Int32), .int (60 : Int32)]) (st := []) X (M_BA_within e1) tw_275 cf_BA_within rfl rfl rfl d_BA_wage_4 ?_
  refine R_ifeq (tgt := 20) X d_BA_wage_7 rfl (fun c3 => ?_) (fun c3 => ?_)
  · replace h := (if_pos c3).symm.trans h
    refine R_ldc (v := (-1000000002 : Int32)) X tw_278 d_BA_wage_20 ?_
    exact R_ret hR h d_BA_wage_22
  · replace h := (if_neg c3).symm.trans h
    refine R_iload_n X 2 d_BA_wage_10 rfl ?_
    refine R_iconst (v := (0 : Int32)) X d_BA_wage_11 rfl ?_
    refine R_bipush (v := (100 : Int32)) X d_BA_wage_12 rfl ?_
    obtain ⟨p5, e4, h⟩ := ob h
    refine R_scall (As := [.int a2, .int (0 : Int32), .int (100 : Int32)]) (st := []) X (M_BA_within e4) tw_275 cf_BA_within rfl rfl rfl d_BA_wage_14 ?_
    refine R_ifne (tgt := 23) X d_BA_wage_17 rfl (fun c6 => ?_) (fun c6 => ?_)
    · replace h := (if_neg c6).symm.trans h
      refine R_ldc2 (v := (1000000000 : Int64)) X tw_605 d_BA_wage_23 ?_
      refine R_lstore_n (L' := [(3, .long (1000000000 : Int64)), (0, .ref (gA (zG Z) 0)), (1, .int a1), (2, .int a2)]) X d_BA_wage_26 (by decide) rfl ?_
      refine R_iconst (v := (0 : Int32)) X d_BA_wage_27 rfl ?_
      refine R_istore (L' := [(5, .int (0 : Int32)), (3, .long (1000000000 : Int64)), (0, .ref (gA (zG Z) 0)), (1, .int a1), (2, .int a2)]) X d_BA_wage_28 (by decide) rfl ?_
      refine V_pc (pc' := 30) rfl (R_loc (L' := [(1, .int a1), (2, .int a2), (3, .long (1000000000 : Int64)), (5, .int (0 : Int32))]) [3, 4, 1, 0] rfl ?_)
      refine T_BA_wage_L30 X hR (fun hp9 w8 h => ?_) _ p5.2 (1000000000 : Int64) (0 : Int32) h
      refine R_lload_n X 0 d_BA_wage_54 rfl ?_
      refine R_l2i X d_BA_wage_55 ?_
      exact R_ret hR h d_BA_wage_56
    · replace h := (if_pos c6).symm.trans h
      refine R_ldc (v := (-1000000002 : Int32)) X tw_278 d_BA_wage_20 ?_
      exact R_ret hR h d_BA_wage_22
theorem M_BA_wage {G : GT} {hp : HP} {a1 : Int32} {a2 : Int32} {p : Int32 × HP} (h : f_BA_wage hp a1 a2 = some p) : MI G y_BA_wage Y_BA_wage .int [.ref (gA G 0), .int a1, .int a2] hp p.1 p.2 := MI_of rfl (fun Z hz X hR => by subst hz; exact T_BA_wage X h hR)
theorem d_Sl_addSeen_0 : decode prog_6_method_6_code 0 = .ok (.aload_n 0, 1) := by decide +kernel
theorem d_Sl_addSeen_1 : decode prog_6_method_6_code 1 = .ok (.getfield 41, 3) := by decide +kernel
theorem d_Sl_addSeen_4 : decode prog_6_method_6_code 4 = .ok (.bipush (8), 2) := by decide +kernel
theorem d_Sl_addSeen_6 : decode prog_6_method_6_code 6 = .ok (.if_icmp .ge (33), 3) := by decide +kernel
theorem d_Sl_addSeen_9 : decode prog_6_method_6_code 9 = .ok (.aload_n 0, 1) := by decide +kernel
theorem d_Sl_addSeen_10 : decode prog_6_method_6_code 10 = .ok (.getfield 21, 3) := by decide +kernel
theorem d_Sl_addSeen_13 : decode prog_6_method_6_code 13 = .ok (.aload_n 0, 1) := by decide +kernel
theorem d_Sl_addSeen_14 : decode prog_6_method_6_code 14 = .ok (.getfield 41, 3) := by decide +kernel
theorem d_Sl_addSeen_17 : decode prog_6_method_6_code 17 = .ok (.iload_n 1, 1) := by decide +kernel
theorem d_Sl_addSeen_18 : decode prog_6_method_6_code 18 = .ok (.iastore, 1) := by decide +kernel
theorem d_Sl_addSeen_19 : decode prog_6_method_6_code 19 = .ok (.aload_n 0, 1) := by decide +kernel
theorem d_Sl_addSeen_20 : decode prog_6_method_6_code 20 = .ok (.getfield 24, 3) := by decide +kernel
theorem d_Sl_addSeen_23 : decode prog_6_method_6_code 23 = .ok (.aload_n 0, 1) := by decide +kernel
theorem d_Sl_addSeen_24 : decode prog_6_method_6_code 24 = .ok (.getfield 41, 3) := by decide +kernel
theorem d_Sl_addSeen_27 : decode prog_6_method_6_code 27 = .ok (.iload_n 2, 1) := by decide +kernel
theorem d_Sl_addSeen_28 : decode prog_6_method_6_code 28 = .ok (.bastore, 1) := by decide +kernel
theorem d_Sl_addSeen_29 : decode prog_6_method_6_code 29 = .ok (.aload_n 0, 1) := by decide +kernel
theorem d_Sl_addSeen_30 : decode prog_6_method_6_code 30 = .ok (.dup, 1) := by decide +kernel
theorem d_Sl_addSeen_31 : decode prog_6_method_6_code 31 = .ok (.getfield 41, 3) := by decide +kernel
theorem d_Sl_addSeen_34 : decode prog_6_method_6_code 34 = .ok (.iconst 1, 1) := by decide +kernel
theorem d_Sl_addSeen_35 : decode prog_6_method_6_code 35 = .ok (.iadd, 1) := by decide +kernel
theorem d_Sl_addSeen_36 : decode prog_6_method_6_code 36 = .ok (.putfield 41, 3) := by decide +kernel
theorem d_Sl_addSeen_39 : decode prog_6_method_6_code 39 = .ok (.return_, 1) := by decide +kernel
set_option maxRecDepth 20000 in
set_option maxHeartbeats 2000000 in
theorem T_Sl_addSeen {Z : ZT} (X : CX Z Y_Sl_addSeen) {hp : HP} {a1 : Int32} {a2 : Int32} {p : Int32 × HP} (h : f_Sl_addSeen hp a1 a2 = some p) (hR : RetV Z Y_Sl_addSeen p.2) : V Z Y_Sl_addSeen hp 0 [(0, .ref (gA (zG Z) 68)), (1, .int a1), (2, .int a2)] [] := by
  unfold f_Sl_addSeen at h
  refine R_aload_n X 0 d_Sl_addSeen_0 rfl ?_
  refine R_getI (ci := 4) X rfl iSl_ok (of_decide_eq_true rfl) rfl 9 rfl rfl tw_153 d_Sl_addSeen_1 ?_
  refine R_bipush (v := (8 : Int32)) X d_Sl_addSeen_4 rfl ?_
  refine R_icmp_ge (tgt := 39) X d_Sl_addSeen_6 rfl (fun c1 => ?_) (fun c1 => ?_)
  · replace h := (if_pos c1).symm.trans h
    exact R_retv hR h d_Sl_addSeen_39
  · replace h := (if_neg c1).symm.trans h
    refine R_aload_n X 0 d_Sl_addSeen_9 rfl ?_
    refine R_getR (ci := 4) X rfl iSl_ok (of_decide_eq_true rfl) rfl 3 rfl rfl tw_141 d_Sl_addSeen_10 ?_
    refine R_aload_n X 0 d_Sl_addSeen_13 rfl ?_
    refine R_getI (ci := 4) X rfl iSl_ok (of_decide_eq_true rfl) rfl 9 rfl rfl tw_153 d_Sl_addSeen_14 ?_
    refine R_iload_n X 1 d_Sl_addSeen_17 rfl ?_
    refine V_pc (pc' := 18) rfl ?_
    obtain ⟨i2, h⟩ := ck h
    refine R_iast (n := 8) X (of_decide_eq_true rfl) rfl i2 d_Sl_addSeen_18 ?_
    refine R_aload_n X 0 d_Sl_addSeen_19 rfl ?_
    refine R_getR (ci := 4) X rfl iSl_ok (of_decide_eq_true rfl) rfl 4 rfl rfl tw_142 d_Sl_addSeen_20 ?_
    refine R_aload_n X 0 d_Sl_addSeen_23 rfl ?_
    refine R_getI (ci := 4) X rfl iSl_ok (of_decide_eq_true rfl) rfl 9 rfl rfl tw_153 d_Sl_addSeen_24 ?_
    refine R_iload_n X 2 d_Sl_addSeen_27 rfl ?_
    refine V_pc (pc' := 28) rfl ?_
    obtain ⟨i3, h⟩ := ck h
    refine R_zast (n := 8) X (of_decide_eq_true rfl) rfl i3 d_Sl_addSeen_28 ?_
    refine R_aload_n X 0 d_Sl_addSeen_29 rfl ?_
    refine R_dup X d_Sl_addSeen_30 rfl ?_
    refine R_getI (ci := 4) X rfl iSl_ok (of_decide_eq_true rfl) rfl 9 rfl rfl tw_153 d_Sl_addSeen_31 ?_
    refine R_iconst (v := (1 : Int32)) X d_Sl_addSeen_34 rfl ?_
    refine R_iadd X d_Sl_addSeen_35 ?_
    refine V_pc (pc' := 36) rfl ?_
    refine R_putI (ci := 4) X rfl iSl_ok ySl_ok nSl_ok (of_decide_eq_true rfl) rfl 9 rfl rfl rfl rfl tw_153 d_Sl_addSeen_36 ?_
    exact R_retv hR h d_Sl_addSeen_39
theorem M_Sl_addSeen {G : GT} {hp : HP} {a1 : Int32} {a2 : Int32} {p : Int32 × HP} (h : f_Sl_addSeen hp a1 a2 = some p) : MV G y_Sl_addSeen Y_Sl_addSeen [.ref (gA G 68), .int a1, .int a2] hp p.2 := MV_of rfl (fun Z hz X hR => by subst hz; exact T_Sl_addSeen X h hR)
theorem d_BA_see_0 : decode prog_1_method_25_code 0 = .ok (.aload_n 0, 1) := by decide +kernel
theorem d_BA_see_1 : decode prog_1_method_25_code 1 = .ok (.getfield 59, 3) := by decide +kernel
theorem d_BA_see_4 : decode prog_1_method_25_code 4 = .ok (.iload_n 1, 1) := by decide +kernel
theorem d_BA_see_5 : decode prog_1_method_25_code 5 = .ok (.invokevirtual 137, 3) := by decide +kernel
theorem d_BA_see_8 : decode prog_1_method_25_code 8 = .ok (.ifCond .ne (6), 3) := by decide +kernel
theorem d_BA_see_11 : decode prog_1_method_25_code 11 = .ok (.ldc 144, 2) := by decide +kernel
theorem d_BA_see_13 : decode prog_1_method_25_code 13 = .ok (.ireturn, 1) := by decide +kernel
theorem d_BA_see_14 : decode prog_1_method_25_code 14 = .ok (.aload_n 0, 1) := by decide +kernel
theorem d_BA_see_15 : decode prog_1_method_25_code 15 = .ok (.getfield 33, 3) := by decide +kernel
theorem d_BA_see_18 : decode prog_1_method_25_code 18 = .ok (.getfield 128, 3) := by decide +kernel
theorem d_BA_see_21 : decode prog_1_method_25_code 21 = .ok (.bipush (8), 2) := by decide +kernel
theorem d_BA_see_23 : decode prog_1_method_25_code 23 = .ok (.if_icmp .lt (6), 3) := by decide +kernel
theorem d_BA_see_26 : decode prog_1_method_25_code 26 = .ok (.ldc 81, 2) := by decide +kernel
theorem d_BA_see_28 : decode prog_1_method_25_code 28 = .ok (.ireturn, 1) := by decide +kernel
theorem d_BA_see_29 : decode prog_1_method_25_code 29 = .ok (.aload_n 0, 1) := by decide +kernel
theorem d_BA_see_30 : decode prog_1_method_25_code 30 = .ok (.getfield 33, 3) := by decide +kernel
theorem d_BA_see_33 : decode prog_1_method_25_code 33 = .ok (.iload_n 1, 1) := by decide +kernel
theorem d_BA_see_34 : decode prog_1_method_25_code 34 = .ok (.iload_n 2, 1) := by decide +kernel
theorem d_BA_see_35 : decode prog_1_method_25_code 35 = .ok (.invokevirtual 242, 3) := by decide +kernel
theorem d_BA_see_38 : decode prog_1_method_25_code 38 = .ok (.aload_n 0, 1) := by decide +kernel
theorem d_BA_see_39 : decode prog_1_method_25_code 39 = .ok (.getfield 33, 3) := by decide +kernel
theorem d_BA_see_42 : decode prog_1_method_25_code 42 = .ok (.getfield 128, 3) := by decide +kernel
theorem d_BA_see_45 : decode prog_1_method_25_code 45 = .ok (.ireturn, 1) := by decide +kernel
set_option maxRecDepth 20000 in
set_option maxHeartbeats 2000000 in
theorem T_BA_see {Z : ZT} (X : CX Z Y_BA_see) {hp : HP} {a1 : Int32} {a2 : Int32} {p : Int32 × HP} (h : f_BA_see hp a1 a2 = some p) (hR : RetI Z Y_BA_see .int p.1 p.2) : V Z Y_BA_see hp 0 [(0, .ref (gA (zG Z) 0)), (1, .int a1), (2, .int a2)] [] := by
  unfold f_BA_see at h
  refine R_aload_n X 0 d_BA_see_0 rfl ?_
  refine R_getD (ci := 6) X rfl iBA_ok (of_decide_eq_true rfl) rfl 8 rfl rfl tw_242 d_BA_see_1 ?_
  obtain ⟨b1, h⟩ := ck h
  refine R_iload_n X 1 d_BA_see_4 rfl ?_
  obtain ⟨p3, e2, h⟩ := ob h
  refine R_vcall (ci := 0) (k := (hp 0 8).toNatClampNeg) (As := [.int a1]) (st := []) X (M_Br_hasPart b1 e2) tw_409 cf_Br_hasPart (B_all _ b1).1.1 (B_all _ b1).1.2 rfl rfl rfl rfl d_BA_see_5 ?_
  refine R_ifne (tgt := 14) X d_BA_see_8 rfl (fun c4 => ?_) (fun c4 => ?_)
  · replace h := (if_neg c4).symm.trans h
    refine R_aload_n X 0 d_BA_see_14 rfl ?_
    refine R_getR (ci := 6) X rfl iBA_ok (of_decide_eq_true rfl) rfl 3 rfl rfl tw_237 d_BA_see_15 ?_
    refine R_getI (ci := 4) X rfl iSl_ok (of_decide_eq_true rfl) rfl 9 rfl rfl tw_154 d_BA_see_18 ?_
    refine R_bipush (v := (8 : Int32)) X d_BA_see_21 rfl ?_
    refine R_icmp_lt (tgt := 29) X d_BA_see_23 rfl (fun c5 => ?_) (fun c5 => ?_)
    · replace h := (if_pos c5).symm.trans h
      refine R_aload_n X 0 d_BA_see_29 rfl ?_
      refine R_getR (ci := 6) X rfl iBA_ok (of_decide_eq_true rfl) rfl 3 rfl rfl tw_237 d_BA_see_30 ?_
      refine R_iload_n X 1 d_BA_see_33 rfl ?_
      refine R_iload_n X 2 d_BA_see_34 rfl ?_
      obtain ⟨p7, e6, h⟩ := ob h
      refine R_vcallv (ci := 4) (k := 68) (As := [.int a1, .int a2]) (st := []) X (M_Sl_addSeen e6) tw_611 cf_Sl_addSeen (of_decide_eq_true rfl) rfl rfl rfl rfl rfl d_BA_see_35 ?_
      refine V_pc (pc' := 38) rfl ?_
      refine R_aload_n X 0 d_BA_see_38 rfl ?_
      refine R_getR (ci := 6) X rfl iBA_ok (of_decide_eq_true rfl) rfl 3 rfl rfl tw_237 d_BA_see_39 ?_
      refine R_getI (ci := 4) X rfl iSl_ok (of_decide_eq_true rfl) rfl 9 rfl rfl tw_154 d_BA_see_42 ?_
      exact R_ret hR h d_BA_see_45
    · replace h := (if_neg c5).symm.trans h
      refine R_ldc (v := (-1000000004 : Int32)) X tw_279 d_BA_see_26 ?_
      exact R_ret hR h d_BA_see_28
  · replace h := (if_pos c4).symm.trans h
    refine R_ldc (v := (-1000000001 : Int32)) X tw_414 d_BA_see_11 ?_
    exact R_ret hR h d_BA_see_13
theorem M_BA_see {G : GT} {hp : HP} {a1 : Int32} {a2 : Int32} {p : Int32 × HP} (h : f_BA_see hp a1 a2 = some p) : MI G y_BA_see Y_BA_see .int [.ref (gA G 0), .int a1, .int a2] hp p.1 p.2 := MI_of rfl (fun Z hz X hR => by subst hz; exact T_BA_see X h hR)
theorem d_Sl_leastSeen_0 : decode prog_6_method_9_code 0 = .ok (.sipush (-500), 3) := by decide +kernel
theorem d_Sl_leastSeen_3 : decode prog_6_method_9_code 3 = .ok (.istore_n 2, 1) := by decide +kernel
theorem d_Sl_leastSeen_4 : decode prog_6_method_9_code 4 = .ok (.iconst 0, 1) := by decide +kernel
theorem d_Sl_leastSeen_5 : decode prog_6_method_9_code 5 = .ok (.istore_n 3, 1) := by decide +kernel
theorem d_Sl_leastSeen_6 : decode prog_6_method_9_code 6 = .ok (.iload_n 3, 1) := by decide +kernel
theorem d_Sl_leastSeen_7 : decode prog_6_method_9_code 7 = .ok (.aload_n 0, 1) := by decide +kernel
theorem d_Sl_leastSeen_8 : decode prog_6_method_9_code 8 = .ok (.getfield 41, 3) := by decide +kernel
theorem d_Sl_leastSeen_11 : decode prog_6_method_9_code 11 = .ok (.if_icmp .ge (34), 3) := by decide +kernel
theorem d_Sl_leastSeen_14 : decode prog_6_method_9_code 14 = .ok (.aload_n 0, 1) := by decide +kernel
theorem d_Sl_leastSeen_15 : decode prog_6_method_9_code 15 = .ok (.getfield 24, 3) := by decide +kernel
theorem d_Sl_leastSeen_18 : decode prog_6_method_9_code 18 = .ok (.iload_n 3, 1) := by decide +kernel
theorem d_Sl_leastSeen_19 : decode prog_6_method_9_code 19 = .ok (.baload, 1) := by decide +kernel
theorem d_Sl_leastSeen_20 : decode prog_6_method_9_code 20 = .ok (.ifCond .eq (19), 3) := by decide +kernel
theorem d_Sl_leastSeen_23 : decode prog_6_method_9_code 23 = .ok (.iload_n 2, 1) := by decide +kernel
theorem d_Sl_leastSeen_24 : decode prog_6_method_9_code 24 = .ok (.aload_n 1, 1) := by decide +kernel
theorem d_Sl_leastSeen_25 : decode prog_6_method_9_code 25 = .ok (.getfield 53, 3) := by decide +kernel
theorem d_Sl_leastSeen_28 : decode prog_6_method_9_code 28 = .ok (.aload_n 0, 1) := by decide +kernel
theorem d_Sl_leastSeen_29 : decode prog_6_method_9_code 29 = .ok (.getfield 21, 3) := by decide +kernel
theorem d_Sl_leastSeen_32 : decode prog_6_method_9_code 32 = .ok (.iload_n 3, 1) := by decide +kernel
theorem d_Sl_leastSeen_33 : decode prog_6_method_9_code 33 = .ok (.iaload, 1) := by decide +kernel
theorem d_Sl_leastSeen_34 : decode prog_6_method_9_code 34 = .ok (.iaload, 1) := by decide +kernel
theorem d_Sl_leastSeen_35 : decode prog_6_method_9_code 35 = .ok (.invokestatic 47, 3) := by decide +kernel
theorem d_Sl_leastSeen_38 : decode prog_6_method_9_code 38 = .ok (.istore_n 2, 1) := by decide +kernel
theorem d_Sl_leastSeen_39 : decode prog_6_method_9_code 39 = .ok (.iinc 3 (1), 3) := by decide +kernel
theorem d_Sl_leastSeen_42 : decode prog_6_method_9_code 42 = .ok (.goto (-36), 3) := by decide +kernel
theorem d_Sl_leastSeen_45 : decode prog_6_method_9_code 45 = .ok (.iload_n 2, 1) := by decide +kernel
theorem d_Sl_leastSeen_46 : decode prog_6_method_9_code 46 = .ok (.ireturn, 1) := by decide +kernel
set_option maxRecDepth 20000 in
set_option maxHeartbeats 2000000 in
theorem T_Sl_leastSeen_L6 {Z : ZT} (X : CX Z Y_Sl_leastSeen) {q1 : Nat} (hq1 : isB q1 = true) {p : Int32 × HP} (hR : RetI Z Y_Sl_leastSeen .int p.1 p.2) {K : HP → Int32 → Option (Int32 × HP)} (hK : ∀ (hp : HP) (x2 : Int32), K hp x2 = some p → V Z Y_Sl_leastSeen hp 45 [(2, .int x2)] []) : ∀ (n : Nat) (hp : HP) (x2 : Int32) (x3 : Int32), f_Sl_leastSeen_L6 q1 K n hp x2 x3 = some p → V Z Y_Sl_leastSeen hp 6 [(0, .ref (gA (zG Z) 68)), (1, .ref (gA (zG Z) q1)), (2, .int x2), (3, .int x3)] [] := by
  intro n
  induction n with
  | zero =>
    intro hp x2 x3 h
    cases h
  | succ n ih =>
    intro hp x2 x3 h
    replace h : f_Sl_leastSeen_L6 q1 K (n + 1) hp x2 x3 = some p := h
    unfold f_Sl_leastSeen_L6 at h
    refine R_iload_n X 3 d_Sl_leastSeen_6 rfl ?_
    refine R_aload_n X 0 d_Sl_leastSeen_7 rfl ?_
    refine R_getI (ci := 4) X rfl iSl_ok (of_decide_eq_true rfl) rfl 9 rfl rfl tw_153 d_Sl_leastSeen_8 ?_
    refine R_icmp_ge (tgt := 45) X d_Sl_leastSeen_11 rfl (fun c1 => ?_) (fun c1 => ?_)
    · replace h := (if_pos c1).symm.trans h
      refine V_pc (pc' := 45) rfl (R_loc (L' := [(2, .int x2)]) [2] rfl ?_)
      exact hK hp x2 h
    · replace h := (if_neg c1).symm.trans h
      refine R_aload_n X 0 d_Sl_leastSeen_14 rfl ?_
      refine R_getR (ci := 4) X rfl iSl_ok (of_decide_eq_true rfl) rfl 4 rfl rfl tw_142 d_Sl_leastSeen_15 ?_
      refine R_iload_n X 3 d_Sl_leastSeen_18 rfl ?_
      obtain ⟨i2, h⟩ := ck h
      refine R_zald (n := 8) X (of_decide_eq_true rfl) rfl i2 d_Sl_leastSeen_19 ?_
      refine R_ifeq (tgt := 39) X d_Sl_leastSeen_20 rfl (fun c3 => ?_) (fun c3 => ?_)
      · replace h := (if_pos c3).symm.trans h
        refine R_iinc (v := (x3 + 1)) (L' := [(3, .int (x3 + 1)), (0, .ref (gA (zG Z) 68)), (1, .ref (gA (zG Z) q1)), (2, .int x2)]) X 3 d_Sl_leastSeen_39 rfl rfl (by decide) rfl ?_
        refine R_goto (tgt := 6) X d_Sl_leastSeen_42 rfl ?_
        refine V_pc (pc' := 6) rfl (R_loc (L' := [(0, .ref (gA (zG Z) 68)), (1, .ref (gA (zG Z) q1)), (2, .int x2), (3, .int (x3 + 1))]) [1, 2, 3, 0] rfl ?_)
        exact ih hp x2 (x3 + 1) h
      · replace h := (if_neg c3).symm.trans h
        refine R_iload_n X 2 d_Sl_leastSeen_23 rfl ?_
        refine R_aload_n X 1 d_Sl_leastSeen_24 rfl ?_
        refine R_getR (ci := 0) X rfl iBr_ok (B_all _ hq1).1.1 (B_all _ hq1).1.2 0 rfl rfl tw_200 d_Sl_leastSeen_25 ?_
        refine R_aload_n X 0 d_Sl_leastSeen_28 rfl ?_
        refine R_getR (ci := 4) X rfl iSl_ok (of_decide_eq_true rfl) rfl 3 rfl rfl tw_141 d_Sl_leastSeen_29 ?_
        refine V_pc (pc' := 32) rfl ?_
        refine R_iload_n X 3 d_Sl_leastSeen_32 rfl ?_
        refine R_iald (n := 8) X (of_decide_eq_true rfl) rfl i2 d_Sl_leastSeen_33 ?_
        obtain ⟨i4, h⟩ := ck h
        refine R_iald (n := 8) X (B_all _ hq1).2.1.1 (B_all _ hq1).2.1.2 i4 d_Sl_leastSeen_34 ?_
        refine R_mmax X tw_557 tw_398 tw_56 tw_399 rfl d_Sl_leastSeen_35 ?_
        refine R_istore_n (L' := [(2, .int (mx x2 (hp (q1 + 1) ((hp 72 (x3).toNatClampNeg)).toNatClampNeg))), (0, .ref (gA (zG Z) 68)), (1, .ref (gA (zG Z) q1)), (3, .int x3)]) X d_Sl_leastSeen_38 (by decide) rfl ?_
        refine R_iinc (v := (x3 + 1)) (L' := [(3, .int (x3 + 1)), (2, .int (mx x2 (hp (q1 + 1) ((hp 72 (x3).toNatClampNeg)).toNatClampNeg))), (0, .ref (gA (zG Z) 68)), (1, .ref (gA (zG Z) q1))]) X 3 d_Sl_leastSeen_39 rfl rfl (by decide) rfl ?_
        refine V_pc (pc' := 42) rfl ?_
        refine R_goto (tgt := 6) X d_Sl_leastSeen_42 rfl ?_
        refine V_pc (pc' := 6) rfl (R_loc (L' := [(0, .ref (gA (zG Z) 68)), (1, .ref (gA (zG Z) q1)), (2, .int (mx x2 (hp (q1 + 1) ((hp 72 (x3).toNatClampNeg)).toNatClampNeg))), (3, .int (x3 + 1))]) [2, 3, 1, 0] rfl ?_)
        exact ih hp (mx x2 (hp (q1 + 1) ((hp 72 (x3).toNatClampNeg)).toNatClampNeg)) (x3 + 1) h
set_option maxRecDepth 20000 in
set_option maxHeartbeats 2000000 in
theorem T_Sl_leastSeen {Z : ZT} (X : CX Z Y_Sl_leastSeen) {hp : HP} {q1 : Nat} (hq1 : isB q1 = true) {p : Int32 × HP} (h : f_Sl_leastSeen hp q1 = some p) (hR : RetI Z Y_Sl_leastSeen .int p.1 p.2) : V Z Y_Sl_leastSeen hp 0 [(0, .ref (gA (zG Z) 68)), (1, .ref (gA (zG Z) q1))] [] := by
  unfold f_Sl_leastSeen at h
  refine R_sipush (v := (-500 : Int32)) X d_Sl_leastSeen_0 rfl ?_
  refine R_istore_n (L' := [(2, .int (-500 : Int32)), (0, .ref (gA (zG Z) 68)), (1, .ref (gA (zG Z) q1))]) X d_Sl_leastSeen_3 (by decide) rfl ?_
  refine R_iconst (v := (0 : Int32)) X d_Sl_leastSeen_4 rfl ?_
  refine R_istore_n (L' := [(3, .int (0 : Int32)), (2, .int (-500 : Int32)), (0, .ref (gA (zG Z) 68)), (1, .ref (gA (zG Z) q1))]) X d_Sl_leastSeen_5 (by decide) rfl ?_
  refine V_pc (pc' := 6) rfl (R_loc (L' := [(0, .ref (gA (zG Z) 68)), (1, .ref (gA (zG Z) q1)), (2, .int (-500 : Int32)), (3, .int (0 : Int32))]) [2, 3, 1, 0] rfl ?_)
  refine T_Sl_leastSeen_L6 X hq1 hR (fun hp6 w5 h => ?_) _ hp (-500 : Int32) (0 : Int32) h
  refine R_iload_n X 0 d_Sl_leastSeen_45 rfl ?_
  exact R_ret hR h d_Sl_leastSeen_46
theorem M_Sl_leastSeen {G : GT} {hp : HP} {q1 : Nat} (hq1 : isB q1 = true) {p : Int32 × HP} (h : f_Sl_leastSeen hp q1 = some p) : MI G y_Sl_leastSeen Y_Sl_leastSeen .int [.ref (gA G 68), .ref (gA G q1)] hp p.1 p.2 := MI_of rfl (fun Z hz X hR => by subst hz; exact T_Sl_leastSeen X hq1 h hR)
theorem d_Sl_greatestSeen_0 : decode prog_6_method_10_code 0 = .ok (.sipush (499), 3) := by decide +kernel
theorem d_Sl_greatestSeen_3 : decode prog_6_method_10_code 3 = .ok (.istore_n 2, 1) := by decide +kernel
theorem d_Sl_greatestSeen_4 : decode prog_6_method_10_code 4 = .ok (.iconst 0, 1) := by decide +kernel
theorem d_Sl_greatestSeen_5 : decode prog_6_method_10_code 5 = .ok (.istore_n 3, 1) := by decide +kernel
theorem d_Sl_greatestSeen_6 : decode prog_6_method_10_code 6 = .ok (.iload_n 3, 1) := by decide +kernel
theorem d_Sl_greatestSeen_7 : decode prog_6_method_10_code 7 = .ok (.aload_n 0, 1) := by decide +kernel
theorem d_Sl_greatestSeen_8 : decode prog_6_method_10_code 8 = .ok (.getfield 41, 3) := by decide +kernel
theorem d_Sl_greatestSeen_11 : decode prog_6_method_10_code 11 = .ok (.if_icmp .ge (36), 3) := by decide +kernel
theorem d_Sl_greatestSeen_14 : decode prog_6_method_10_code 14 = .ok (.aload_n 0, 1) := by decide +kernel
theorem d_Sl_greatestSeen_15 : decode prog_6_method_10_code 15 = .ok (.getfield 24, 3) := by decide +kernel
theorem d_Sl_greatestSeen_18 : decode prog_6_method_10_code 18 = .ok (.iload_n 3, 1) := by decide +kernel
theorem d_Sl_greatestSeen_19 : decode prog_6_method_10_code 19 = .ok (.baload, 1) := by decide +kernel
theorem d_Sl_greatestSeen_20 : decode prog_6_method_10_code 20 = .ok (.ifCond .ne (21), 3) := by decide +kernel
theorem d_Sl_greatestSeen_23 : decode prog_6_method_10_code 23 = .ok (.iload_n 2, 1) := by decide +kernel
theorem d_Sl_greatestSeen_24 : decode prog_6_method_10_code 24 = .ok (.aload_n 1, 1) := by decide +kernel
theorem d_Sl_greatestSeen_25 : decode prog_6_method_10_code 25 = .ok (.getfield 53, 3) := by decide +kernel
theorem d_Sl_greatestSeen_28 : decode prog_6_method_10_code 28 = .ok (.aload_n 0, 1) := by decide +kernel
theorem d_Sl_greatestSeen_29 : decode prog_6_method_10_code 29 = .ok (.getfield 21, 3) := by decide +kernel
theorem d_Sl_greatestSeen_32 : decode prog_6_method_10_code 32 = .ok (.iload_n 3, 1) := by decide +kernel
theorem d_Sl_greatestSeen_33 : decode prog_6_method_10_code 33 = .ok (.iaload, 1) := by decide +kernel
theorem d_Sl_greatestSeen_34 : decode prog_6_method_10_code 34 = .ok (.iaload, 1) := by decide +kernel
theorem d_Sl_greatestSeen_35 : decode prog_6_method_10_code 35 = .ok (.iconst 1, 1) := by decide +kernel
theorem d_Sl_greatestSeen_36 : decode prog_6_method_10_code 36 = .ok (.isub, 1) := by decide +kernel
theorem d_Sl_greatestSeen_37 : decode prog_6_method_10_code 37 = .ok (.invokestatic 58, 3) := by decide +kernel
theorem d_Sl_greatestSeen_40 : decode prog_6_method_10_code 40 = .ok (.istore_n 2, 1) := by decide +kernel
theorem d_Sl_greatestSeen_41 : decode prog_6_method_10_code 41 = .ok (.iinc 3 (1), 3) := by decide +kernel
theorem d_Sl_greatestSeen_44 : decode prog_6_method_10_code 44 = .ok (.goto (-38), 3) := by decide +kernel
theorem d_Sl_greatestSeen_47 : decode prog_6_method_10_code 47 = .ok (.iload_n 2, 1) := by decide +kernel
theorem d_Sl_greatestSeen_48 : decode prog_6_method_10_code 48 = .ok (.ireturn, 1) := by decide +kernel
set_option maxRecDepth 20000 in
set_option maxHeartbeats 2000000 in
theorem T_Sl_greatestSeen_L6 {Z : ZT} (X : CX Z Y_Sl_greatestSeen) {q1 : Nat} (hq1 : isB q1 = true) {p : Int32 × HP} (hR : RetI Z Y_Sl_greatestSeen .int p.1 p.2) {K : HP → Int32 → Option (Int32 × HP)} (hK : ∀ (hp : HP) (x2 : Int32), K hp x2 = some p → V Z Y_Sl_greatestSeen hp 47 [(2, .int x2)] []) : ∀ (n : Nat) (hp : HP) (x2 : Int32) (x3 : Int32), f_Sl_greatestSeen_L6 q1 K n hp x2 x3 = some p → V Z Y_Sl_greatestSeen hp 6 [(0, .ref (gA (zG Z) 68)), (1, .ref (gA (zG Z) q1)), (2, .int x2), (3, .int x3)] [] := by
  intro n
  induction n with
  | zero =>
    intro hp x2 x3 h
    cases h
  | succ n ih =>
    intro hp x2 x3 h
    replace h : f_Sl_greatestSeen_L6 q1 K (n + 1) hp x2 x3 = some p := h
    unfold f_Sl_greatestSeen_L6 at h
    refine R_iload_n X 3 d_Sl_greatestSeen_6 rfl ?_
    refine R_aload_n X 0 d_Sl_greatestSeen_7 rfl ?_
    refine R_getI (ci := 4) X rfl iSl_ok (of_decide_eq_true rfl) rfl 9 rfl rfl tw_153 d_Sl_greatestSeen_8 ?_
    refine R_icmp_ge (tgt := 47) X d_Sl_greatestSeen_11 rfl (fun c1 => ?_) (fun c1 => ?_)
    · replace h := (if_pos c1).symm.trans h
      refine V_pc (pc' := 47) rfl (R_loc (L' := [(2, .int x2)]) [2] rfl ?_)
      exact hK hp x2 h
    · replace h := (if_neg c1).symm.trans h
      refine R_aload_n X 0 d_Sl_greatestSeen_14 rfl ?_
      refine R_getR (ci := 4) X rfl iSl_ok (of_decide_eq_true rfl) rfl 4 rfl rfl tw_142 d_Sl_greatestSeen_15 ?_
      refine R_iload_n X 3 d_Sl_greatestSeen_18 rfl ?_
      obtain ⟨i2, h⟩ := ck h
      refine R_zald (n := 8) X (of_decide_eq_true rfl) rfl i2 d_Sl_greatestSeen_19 ?_
      refine R_ifne (tgt := 41) X d_Sl_greatestSeen_20 rfl (fun c3 => ?_) (fun c3 => ?_)
      · replace h := (if_neg c3).symm.trans h
        refine R_iinc (v := (x3 + 1)) (L' := [(3, .int (x3 + 1)), (0, .ref (gA (zG Z) 68)), (1, .ref (gA (zG Z) q1)), (2, .int x2)]) X 3 d_Sl_greatestSeen_41 rfl rfl (by decide) rfl ?_
        refine R_goto (tgt := 6) X d_Sl_greatestSeen_44 rfl ?_
        refine V_pc (pc' := 6) rfl (R_loc (L' := [(0, .ref (gA (zG Z) 68)), (1, .ref (gA (zG Z) q1)), (2, .int x2), (3, .int (x3 + 1))]) [1, 2, 3, 0] rfl ?_)
        exact ih hp x2 (x3 + 1) h
      · replace h := (if_pos c3).symm.trans h
        refine R_iload_n X 2 d_Sl_greatestSeen_23 rfl ?_
        refine R_aload_n X 1 d_Sl_greatestSeen_24 rfl ?_
        refine R_getR (ci := 0) X rfl iBr_ok (B_all _ hq1).1.1 (B_all _ hq1).1.2 0 rfl rfl tw_200 d_Sl_greatestSeen_25 ?_
        refine R_aload_n X 0 d_Sl_greatestSeen_28 rfl ?_
        refine R_getR (ci := 4) X rfl iSl_ok (of_decide_eq_true rfl) rfl 3 rfl rfl tw_141 d_Sl_greatestSeen_29 ?_
        refine V_pc (pc' := 32) rfl ?_
        refine R_iload_n X 3 d_Sl_greatestSeen_32 rfl ?_
        refine R_iald (n := 8) X (of_decide_eq_true rfl) rfl i2 d_Sl_greatestSeen_33 ?_
        obtain ⟨i4, h⟩ := ck h
        refine R_iald (n := 8) X (B_all _ hq1).2.1.1 (B_all _ hq1).2.1.2 i4 d_Sl_greatestSeen_34 ?_
        refine R_iconst (v := (1 : Int32)) X d_Sl_greatestSeen_35 rfl ?_
        refine R_isub X d_Sl_greatestSeen_36 ?_
        refine R_mmin X tw_627 tw_395 tw_56 tw_396 rfl d_Sl_greatestSeen_37 ?_
        refine V_pc (pc' := 40) rfl ?_
        refine R_istore_n (L' := [(2, .int (mn x2 ((hp (q1 + 1) ((hp 72 (x3).toNatClampNeg)).toNatClampNeg) - (1 : Int32)))), (0, .ref (gA (zG Z) 68)), (1, .ref (gA (zG Z) q1)), (3, .int x3)]) X d_Sl_greatestSeen_40 (by decide) rfl ?_
        refine R_iinc (v := (x3 + 1)) (L' := [(3, .int (x3 + 1)), (2, .int (mn x2 ((hp (q1 + 1) ((hp 72 (x3).toNatClampNeg)).toNatClampNeg) - (1 : Int32)))), (0, .ref (gA (zG Z) 68)), (1, .ref (gA (zG Z) q1))]) X 3 d_Sl_greatestSeen_41 rfl rfl (by decide) rfl ?_
        refine R_goto (tgt := 6) X d_Sl_greatestSeen_44 rfl ?_
        refine V_pc (pc' := 6) rfl (R_loc (L' := [(0, .ref (gA (zG Z) 68)), (1, .ref (gA (zG Z) q1)), (2, .int (mn x2 ((hp (q1 + 1) ((hp 72 (x3).toNatClampNeg)).toNatClampNeg) - (1 : Int32)))), (3, .int (x3 + 1))]) [2, 3, 1, 0] rfl ?_)
        exact ih hp (mn x2 ((hp (q1 + 1) ((hp 72 (x3).toNatClampNeg)).toNatClampNeg) - (1 : Int32))) (x3 + 1) h
set_option maxRecDepth 20000 in
set_option maxHeartbeats 2000000 in
theorem T_Sl_greatestSeen {Z : ZT} (X : CX Z Y_Sl_greatestSeen) {hp : HP} {q1 : Nat} (hq1 : isB q1 = true) {p : Int32 × HP} (h : f_Sl_greatestSeen hp q1 = some p) (hR : RetI Z Y_Sl_greatestSeen .int p.1 p.2) : V Z Y_Sl_greatestSeen hp 0 [(0, .ref (gA (zG Z) 68)), (1, .ref (gA (zG Z) q1))] [] := by
  unfold f_Sl_greatestSeen at h
  refine R_sipush (v := (499 : Int32)) X d_Sl_greatestSeen_0 rfl ?_
  refine R_istore_n (L' := [(2, .int (499 : Int32)), (0, .ref (gA (zG Z) 68)), (1, .ref (gA (zG Z) q1))]) X d_Sl_greatestSeen_3 (by decide) rfl ?_
  refine R_iconst (v := (0 : Int32)) X d_Sl_greatestSeen_4 rfl ?_
  refine R_istore_n (L' := [(3, .int (0 : Int32)), (2, .int (499 : Int32)), (0, .ref (gA (zG Z) 68)), (1, .ref (gA (zG Z) q1))]) X d_Sl_greatestSeen_5 (by decide) rfl ?_
  refine V_pc (pc' := 6) rfl (R_loc (L' := [(0, .ref (gA (zG Z) 68)), (1, .ref (gA (zG Z) q1)), (2, .int (499 : Int32)), (3, .int (0 : Int32))]) [2, 3, 1, 0] rfl ?_)
  refine T_Sl_greatestSeen_L6 X hq1 hR (fun hp6 w5 h => ?_) _ hp (499 : Int32) (0 : Int32) h
  refine R_iload_n X 0 d_Sl_greatestSeen_47 rfl ?_
  exact R_ret hR h d_Sl_greatestSeen_48
theorem M_Sl_greatestSeen {G : GT} {hp : HP} {q1 : Nat} (hq1 : isB q1 = true) {p : Int32 × HP} (h : f_Sl_greatestSeen hp q1 = some p) : MI G y_Sl_greatestSeen Y_Sl_greatestSeen .int [.ref (gA G 68), .ref (gA G q1)] hp p.1 p.2 := MI_of rfl (fun Z hz X hR => by subst hz; exact T_Sl_greatestSeen X hq1 h hR)
theorem d_BA_has_0 : decode prog_1_method_26_code 0 = .ok (.iload_n 1, 1) := by decide +kernel
theorem d_BA_has_1 : decode prog_1_method_26_code 1 = .ok (.iconst 0, 1) := by decide +kernel
theorem d_BA_has_2 : decode prog_1_method_26_code 2 = .ok (.iconst 2, 1) := by decide +kernel
theorem d_BA_has_3 : decode prog_1_method_26_code 3 = .ok (.invokestatic 73, 3) := by decide +kernel
theorem d_BA_has_6 : decode prog_1_method_26_code 6 = .ok (.ifCond .ne (6), 3) := by decide +kernel
theorem d_BA_has_9 : decode prog_1_method_26_code 9 = .ok (.ldc 77, 2) := by decide +kernel
theorem d_BA_has_11 : decode prog_1_method_26_code 11 = .ok (.ireturn, 1) := by decide +kernel
theorem d_BA_has_12 : decode prog_1_method_26_code 12 = .ok (.aload_n 0, 1) := by decide +kernel
theorem d_BA_has_13 : decode prog_1_method_26_code 13 = .ok (.getfield 33, 3) := by decide +kernel
theorem d_BA_has_16 : decode prog_1_method_26_code 16 = .ok (.aload_n 0, 1) := by decide +kernel
theorem d_BA_has_17 : decode prog_1_method_26_code 17 = .ok (.getfield 59, 3) := by decide +kernel
theorem d_BA_has_20 : decode prog_1_method_26_code 20 = .ok (.invokevirtual 246, 3) := by decide +kernel
theorem d_BA_has_23 : decode prog_1_method_26_code 23 = .ok (.istore_n 2, 1) := by decide +kernel
theorem d_BA_has_24 : decode prog_1_method_26_code 24 = .ok (.aload_n 0, 1) := by decide +kernel
theorem d_BA_has_25 : decode prog_1_method_26_code 25 = .ok (.getfield 33, 3) := by decide +kernel
theorem d_BA_has_28 : decode prog_1_method_26_code 28 = .ok (.aload_n 0, 1) := by decide +kernel
theorem d_BA_has_29 : decode prog_1_method_26_code 29 = .ok (.getfield 59, 3) := by decide +kernel
theorem d_BA_has_32 : decode prog_1_method_26_code 32 = .ok (.invokevirtual 249, 3) := by decide +kernel
theorem d_BA_has_35 : decode prog_1_method_26_code 35 = .ok (.istore_n 3, 1) := by decide +kernel
theorem d_BA_has_36 : decode prog_1_method_26_code 36 = .ok (.iconst 0, 1) := by decide +kernel
theorem d_BA_has_37 : decode prog_1_method_26_code 37 = .ok (.iload_n 3, 1) := by decide +kernel
theorem d_BA_has_38 : decode prog_1_method_26_code 38 = .ok (.iload_n 2, 1) := by decide +kernel
theorem d_BA_has_39 : decode prog_1_method_26_code 39 = .ok (.isub, 1) := by decide +kernel
theorem d_BA_has_40 : decode prog_1_method_26_code 40 = .ok (.iconst 1, 1) := by decide +kernel
theorem d_BA_has_41 : decode prog_1_method_26_code 41 = .ok (.iadd, 1) := by decide +kernel
theorem d_BA_has_42 : decode prog_1_method_26_code 42 = .ok (.invokestatic 252, 3) := by decide +kernel
theorem d_BA_has_45 : decode prog_1_method_26_code 45 = .ok (.istore 4, 2) := by decide +kernel
theorem d_BA_has_47 : decode prog_1_method_26_code 47 = .ok (.iload_n 1, 1) := by decide +kernel
theorem d_BA_has_48 : decode prog_1_method_26_code 48 = .ok (.ifCond .ne (6), 3) := by decide +kernel
theorem d_BA_has_51 : decode prog_1_method_26_code 51 = .ok (.iload 4, 2) := by decide +kernel
theorem d_BA_has_53 : decode prog_1_method_26_code 53 = .ok (.ireturn, 1) := by decide +kernel
theorem d_BA_has_54 : decode prog_1_method_26_code 54 = .ok (.iload 4, 2) := by decide +kernel
theorem d_BA_has_56 : decode prog_1_method_26_code 56 = .ok (.ifCond .ne (5), 3) := by decide +kernel
theorem d_BA_has_59 : decode prog_1_method_26_code 59 = .ok (.iconst (-1), 1) := by decide +kernel
theorem d_BA_has_60 : decode prog_1_method_26_code 60 = .ok (.ireturn, 1) := by decide +kernel
theorem d_BA_has_61 : decode prog_1_method_26_code 61 = .ok (.iload_n 1, 1) := by decide +kernel
theorem d_BA_has_62 : decode prog_1_method_26_code 62 = .ok (.iconst 1, 1) := by decide +kernel
theorem d_BA_has_63 : decode prog_1_method_26_code 63 = .ok (.if_icmp .ne (7), 3) := by decide +kernel
theorem d_BA_has_66 : decode prog_1_method_26_code 66 = .ok (.iload_n 2, 1) := by decide +kernel
theorem d_BA_has_67 : decode prog_1_method_26_code 67 = .ok (.goto (4), 3) := by decide +kernel
theorem d_BA_has_70 : decode prog_1_method_26_code 70 = .ok (.iload_n 3, 1) := by decide +kernel
theorem d_BA_has_71 : decode prog_1_method_26_code 71 = .ok (.sipush (10000), 3) := by decide +kernel
theorem d_BA_has_74 : decode prog_1_method_26_code 74 = .ok (.iadd, 1) := by decide +kernel
theorem d_BA_has_75 : decode prog_1_method_26_code 75 = .ok (.ireturn, 1) := by decide +kernel
set_option maxRecDepth 20000 in
set_option maxHeartbeats 2000000 in
theorem T_BA_has {Z : ZT} (X : CX Z Y_BA_has) {hp : HP} {a1 : Int32} {p : Int32 × HP} (h : f_BA_has hp a1 = some p) (hR : RetI Z Y_BA_has .int p.1 p.2) : V Z Y_BA_has hp 0 [(0, .ref (gA (zG Z) 0)), (1, .int a1)] [] := by
  unfold f_BA_has at h
  refine R_iload_n X 1 d_BA_has_0 rfl ?_
  refine R_iconst (v := (0 : Int32)) X d_BA_has_1 rfl ?_
  refine R_iconst (v := (2 : Int32)) X d_BA_has_2 rfl ?_
  obtain ⟨p2, e1, h⟩ := ob h
  refine R_scall (As := [.int a1, .int (0 : Int32), .int (2 : Int32)]) (st := []) X (M_BA_within e1) tw_275 cf_BA_within rfl rfl rfl d_BA_has_3 ?_
  refine R_ifne (tgt := 12) X d_BA_has_6 rfl (fun c3 => ?_) (fun c3 => ?_)
  · replace h := (if_neg c3).symm.trans h
    refine R_aload_n X 0 d_BA_has_12 rfl ?_
    refine R_getR (ci := 6) X rfl iBA_ok (of_decide_eq_true rfl) rfl 3 rfl rfl tw_237 d_BA_has_13 ?_
    refine R_aload_n X 0 d_BA_has_16 rfl ?_
    refine R_getD (ci := 6) X rfl iBA_ok (of_decide_eq_true rfl) rfl 8 rfl rfl tw_242 d_BA_has_17 ?_
    obtain ⟨b4, h⟩ := ck h
    obtain ⟨p6, e5, h⟩ := ob h
    refine R_vcall (ci := 4) (k := 68) (As := [.ref (gA (zG Z) (p2.2 0 8).toNatClampNeg)]) (st := []) X (M_Sl_leastSeen b4 e5) tw_619 cf_Sl_leastSeen (of_decide_eq_true rfl) rfl rfl rfl rfl rfl d_BA_has_20 ?_
    refine V_pc (pc' := 23) rfl ?_
    refine R_istore_n (L' := [(2, .int p6.1), (0, .ref (gA (zG Z) 0)), (1, .int a1)]) X d_BA_has_23 (by decide) rfl ?_
    refine R_aload_n X 1 d_BA_has_24 rfl ?_
    refine R_getR (ci := 6) X rfl iBA_ok (of_decide_eq_true rfl) rfl 3 rfl rfl tw_237 d_BA_has_25 ?_
    refine R_aload_n X 1 d_BA_has_28 rfl ?_
    refine R_getD (ci := 6) X rfl iBA_ok (of_decide_eq_true rfl) rfl 8 rfl rfl tw_242 d_BA_has_29 ?_
    obtain ⟨b7, h⟩ := ck h
    obtain ⟨p9, e8, h⟩ := ob h
    refine R_vcall (ci := 4) (k := 68) (As := [.ref (gA (zG Z) (p6.2 0 8).toNatClampNeg)]) (st := []) X (M_Sl_greatestSeen b7 e8) tw_623 cf_Sl_greatestSeen (of_decide_eq_true rfl) rfl rfl rfl rfl rfl d_BA_has_32 ?_
    refine V_pc (pc' := 35) rfl ?_
    refine R_istore_n (L' := [(3, .int p9.1), (2, .int p6.1), (0, .ref (gA (zG Z) 0)), (1, .int a1)]) X d_BA_has_35 (by decide) rfl ?_
    refine R_iconst (v := (0 : Int32)) X d_BA_has_36 rfl ?_
    refine R_iload_n X 0 d_BA_has_37 rfl ?_
    refine R_iload_n X 1 d_BA_has_38 rfl ?_
    refine R_isub X d_BA_has_39 ?_
    refine R_iconst (v := (1 : Int32)) X d_BA_has_40 rfl ?_
    refine V_pc (pc' := 41) rfl ?_
    refine R_iadd X d_BA_has_41 ?_
    refine R_mmax X tw_397 tw_398 tw_56 tw_399 rfl d_BA_has_42 ?_
    refine R_istore (L' := [(4, .int (mx (0 : Int32) ((p9.1 - p6.1) + (1 : Int32)))), (3, .int p9.1), (2, .int p6.1), (0, .ref (gA (zG Z) 0)), (1, .int a1)]) X d_BA_has_45 (by decide) rfl ?_
    refine R_iload_n X 4 d_BA_has_47 rfl ?_
    refine R_ifne (tgt := 54) X d_BA_has_48 rfl (fun c10 => ?_) (fun c10 => ?_)
    · replace h := (if_neg c10).symm.trans h
      refine R_iload X 0 d_BA_has_54 rfl ?_
      refine R_ifne (tgt := 61) X d_BA_has_56 rfl (fun c11 => ?_) (fun c11 => ?_)
      · replace h := (if_neg c11).symm.trans h
        refine R_iload_n X 4 d_BA_has_61 rfl ?_
        refine R_iconst (v := (1 : Int32)) X d_BA_has_62 rfl ?_
        refine R_icmp_ne (tgt := 70) X d_BA_has_63 rfl (fun c12 => ?_) (fun c12 => ?_)
        · replace h := (if_neg c12).symm.trans h
          refine R_iload_n X 1 d_BA_has_70 rfl ?_
          refine R_sipush (v := (10000 : Int32)) X d_BA_has_71 rfl ?_
          refine R_iadd X d_BA_has_74 ?_
          exact R_ret hR h d_BA_has_75
        · replace h := (if_pos c12).symm.trans h
          refine R_iload_n X 2 d_BA_has_66 rfl ?_
          refine R_goto (tgt := 71) X d_BA_has_67 rfl ?_
          refine R_sipush (v := (10000 : Int32)) X d_BA_has_71 rfl ?_
          refine R_iadd X d_BA_has_74 ?_
          exact R_ret hR h d_BA_has_75
      · replace h := (if_pos c11).symm.trans h
        refine R_iconst (v := (-1 : Int32)) X d_BA_has_59 rfl ?_
        exact R_ret hR h d_BA_has_60
    · replace h := (if_pos c10).symm.trans h
      refine R_iload X 0 d_BA_has_51 rfl ?_
      exact R_ret hR h d_BA_has_53
  · replace h := (if_pos c3).symm.trans h
    refine R_ldc (v := (-1000000002 : Int32)) X tw_278 d_BA_has_9 ?_
    exact R_ret hR h d_BA_has_11
theorem M_BA_has {G : GT} {hp : HP} {a1 : Int32} {p : Int32 × HP} (h : f_BA_has hp a1 = some p) : MI G y_BA_has Y_BA_has .int [.ref (gA G 0), .int a1] hp p.1 p.2 := MI_of rfl (fun Z hz X hR => by subst hz; exact T_BA_has X h hR)
theorem d_BA_look_0 : decode prog_1_method_27_code 0 = .ok (.aload_n 0, 1) := by decide +kernel
theorem d_BA_look_1 : decode prog_1_method_27_code 1 = .ok (.getfield 33, 3) := by decide +kernel
theorem d_BA_look_4 : decode prog_1_method_27_code 4 = .ok (.aload_n 0, 1) := by decide +kernel
theorem d_BA_look_5 : decode prog_1_method_27_code 5 = .ok (.getfield 59, 3) := by decide +kernel
theorem d_BA_look_8 : decode prog_1_method_27_code 8 = .ok (.invokevirtual 246, 3) := by decide +kernel
theorem d_BA_look_11 : decode prog_1_method_27_code 11 = .ok (.istore_n 1, 1) := by decide +kernel
theorem d_BA_look_12 : decode prog_1_method_27_code 12 = .ok (.aload_n 0, 1) := by decide +kernel
theorem d_BA_look_13 : decode prog_1_method_27_code 13 = .ok (.getfield 33, 3) := by decide +kernel
theorem d_BA_look_16 : decode prog_1_method_27_code 16 = .ok (.aload_n 0, 1) := by decide +kernel
theorem d_BA_look_17 : decode prog_1_method_27_code 17 = .ok (.getfield 59, 3) := by decide +kernel
theorem d_BA_look_20 : decode prog_1_method_27_code 20 = .ok (.invokevirtual 249, 3) := by decide +kernel
theorem d_BA_look_23 : decode prog_1_method_27_code 23 = .ok (.istore_n 2, 1) := by decide +kernel
theorem d_BA_look_24 : decode prog_1_method_27_code 24 = .ok (.iconst (-1), 1) := by decide +kernel
theorem d_BA_look_25 : decode prog_1_method_27_code 25 = .ok (.istore_n 3, 1) := by decide +kernel
theorem d_BA_look_26 : decode prog_1_method_27_code 26 = .ok (.iload_n 2, 1) := by decide +kernel
theorem d_BA_look_27 : decode prog_1_method_27_code 27 = .ok (.iload_n 1, 1) := by decide +kernel
theorem d_BA_look_28 : decode prog_1_method_27_code 28 = .ok (.isub, 1) := by decide +kernel
theorem d_BA_look_29 : decode prog_1_method_27_code 29 = .ok (.iconst 1, 1) := by decide +kernel
theorem d_BA_look_30 : decode prog_1_method_27_code 30 = .ok (.iadd, 1) := by decide +kernel
theorem d_BA_look_31 : decode prog_1_method_27_code 31 = .ok (.istore 4, 2) := by decide +kernel
theorem d_BA_look_33 : decode prog_1_method_27_code 33 = .ok (.iconst 0, 1) := by decide +kernel
theorem d_BA_look_34 : decode prog_1_method_27_code 34 = .ok (.istore 5, 2) := by decide +kernel
theorem d_BA_look_36 : decode prog_1_method_27_code 36 = .ok (.iload 5, 2) := by decide +kernel
theorem d_BA_look_38 : decode prog_1_method_27_code 38 = .ok (.aload_n 0, 1) := by decide +kernel
theorem d_BA_look_39 : decode prog_1_method_27_code 39 = .ok (.getfield 59, 3) := by decide +kernel
theorem d_BA_look_42 : decode prog_1_method_27_code 42 = .ok (.getfield 102, 3) := by decide +kernel
theorem d_BA_look_45 : decode prog_1_method_27_code 45 = .ok (.if_icmp .ge (72), 3) := by decide +kernel
theorem d_BA_look_48 : decode prog_1_method_27_code 48 = .ok (.aload_n 0, 1) := by decide +kernel
theorem d_BA_look_49 : decode prog_1_method_27_code 49 = .ok (.getfield 59, 3) := by decide +kernel
theorem d_BA_look_52 : decode prog_1_method_27_code 52 = .ok (.getfield 141, 3) := by decide +kernel
theorem d_BA_look_55 : decode prog_1_method_27_code 55 = .ok (.iload 5, 2) := by decide +kernel
theorem d_BA_look_57 : decode prog_1_method_27_code 57 = .ok (.iaload, 1) := by decide +kernel
theorem d_BA_look_58 : decode prog_1_method_27_code 58 = .ok (.iload_n 1, 1) := by decide +kernel
theorem d_BA_look_59 : decode prog_1_method_27_code 59 = .ok (.isub, 1) := by decide +kernel
theorem d_BA_look_60 : decode prog_1_method_27_code 60 = .ok (.istore 6, 2) := by decide +kernel
theorem d_BA_look_62 : decode prog_1_method_27_code 62 = .ok (.iload_n 2, 1) := by decide +kernel
theorem d_BA_look_63 : decode prog_1_method_27_code 63 = .ok (.aload_n 0, 1) := by decide +kernel
theorem d_BA_look_64 : decode prog_1_method_27_code 64 = .ok (.getfield 59, 3) := by decide +kernel
theorem d_BA_look_67 : decode prog_1_method_27_code 67 = .ok (.getfield 141, 3) := by decide +kernel
theorem d_BA_look_70 : decode prog_1_method_27_code 70 = .ok (.iload 5, 2) := by decide +kernel
theorem d_BA_look_72 : decode prog_1_method_27_code 72 = .ok (.iaload, 1) := by decide +kernel
theorem d_BA_look_73 : decode prog_1_method_27_code 73 = .ok (.isub, 1) := by decide +kernel
theorem d_BA_look_74 : decode prog_1_method_27_code 74 = .ok (.iconst 1, 1) := by decide +kernel
theorem d_BA_look_75 : decode prog_1_method_27_code 75 = .ok (.iadd, 1) := by decide +kernel
theorem d_BA_look_76 : decode prog_1_method_27_code 76 = .ok (.istore 7, 2) := by decide +kernel
theorem d_BA_look_78 : decode prog_1_method_27_code 78 = .ok (.iload 6, 2) := by decide +kernel
theorem d_BA_look_80 : decode prog_1_method_27_code 80 = .ok (.iload 7, 2) := by decide +kernel
theorem d_BA_look_82 : decode prog_1_method_27_code 82 = .ok (.invokestatic 252, 3) := by decide +kernel
theorem d_BA_look_85 : decode prog_1_method_27_code 85 = .ok (.istore 8, 2) := by decide +kernel
theorem d_BA_look_87 : decode prog_1_method_27_code 87 = .ok (.iload 6, 2) := by decide +kernel
theorem d_BA_look_89 : decode prog_1_method_27_code 89 = .ok (.ifCond .le (22), 3) := by decide +kernel
theorem d_BA_look_92 : decode prog_1_method_27_code 92 = .ok (.iload 7, 2) := by decide +kernel
theorem d_BA_look_94 : decode prog_1_method_27_code 94 = .ok (.ifCond .le (17), 3) := by decide +kernel
theorem d_BA_look_97 : decode prog_1_method_27_code 97 = .ok (.iload 8, 2) := by decide +kernel
theorem d_BA_look_99 : decode prog_1_method_27_code 99 = .ok (.iload 4, 2) := by decide +kernel
theorem d_BA_look_101 : decode prog_1_method_27_code 101 = .ok (.if_icmp .ge (10), 3) := by decide +kernel
theorem d_BA_look_104 : decode prog_1_method_27_code 104 = .ok (.iload 5, 2) := by decide +kernel
theorem d_BA_look_106 : decode prog_1_method_27_code 106 = .ok (.istore_n 3, 1) := by decide +kernel
theorem d_BA_look_107 : decode prog_1_method_27_code 107 = .ok (.iload 8, 2) := by decide +kernel
theorem d_BA_look_109 : decode prog_1_method_27_code 109 = .ok (.istore 4, 2) := by decide +kernel
theorem d_BA_look_111 : decode prog_1_method_27_code 111 = .ok (.iinc 5 (1), 3) := by decide +kernel
theorem d_BA_look_114 : decode prog_1_method_27_code 114 = .ok (.goto (-78), 3) := by decide +kernel
theorem d_BA_look_117 : decode prog_1_method_27_code 117 = .ok (.iload_n 3, 1) := by decide +kernel
theorem d_BA_look_118 : decode prog_1_method_27_code 118 = .ok (.ireturn, 1) := by decide +kernel
set_option maxRecDepth 20000 in
set_option maxHeartbeats 2000000 in
theorem T_BA_look_L36 {Z : ZT} (X : CX Z Y_BA_look) {v1 : Int32} {v2 : Int32} {p : Int32 × HP} (hR : RetI Z Y_BA_look .int p.1 p.2) {K : HP → Int32 → Option (Int32 × HP)} (hK : ∀ (hp : HP) (x3 : Int32), K hp x3 = some p → V Z Y_BA_look hp 117 [(3, .int x3)] []) : ∀ (n : Nat) (hp : HP) (x3 : Int32) (x4 : Int32) (x5 : Int32), f_BA_look_L36 v1 v2 K n hp x3 x4 x5 = some p → V Z Y_BA_look hp 36 [(0, .ref (gA (zG Z) 0)), (1, .int v1), (2, .int v2), (3, .int x3), (4, .int x4), (5, .int x5)] [] := by
  intro n
  induction n with
  | zero =>
    intro hp x3 x4 x5 h
    cases h
  | succ n ih =>
    intro hp x3 x4 x5 h
    replace h : f_BA_look_L36 v1 v2 K (n + 1) hp x3 x4 x5 = some p := h
    unfold f_BA_look_L36 at h
    refine R_iload X 5 d_BA_look_36 rfl ?_
    refine R_aload_n X 0 d_BA_look_38 rfl ?_
    refine R_getD (ci := 6) X rfl iBA_ok (of_decide_eq_true rfl) rfl 8 rfl rfl tw_242 d_BA_look_39 ?_
    obtain ⟨b7, h⟩ := ck h
    refine R_getI (ci := 0) X rfl iBr_ok (B_all _ b7).1.1 (B_all _ b7).1.2 5 rfl rfl tw_209 d_BA_look_42 ?_
    refine R_icmp_ge (tgt := 117) X d_BA_look_45 rfl (fun c8 => ?_) (fun c8 => ?_)
    · replace h := (if_pos c8).symm.trans h
      refine V_pc (pc' := 117) rfl (R_loc (L' := [(3, .int x3)]) [3] rfl ?_)
      exact hK hp x3 h
    · replace h := (if_neg c8).symm.trans h
      refine R_aload_n X 0 d_BA_look_48 rfl ?_
      refine R_getD (ci := 6) X rfl iBA_ok (of_decide_eq_true rfl) rfl 8 rfl rfl tw_242 d_BA_look_49 ?_
      refine R_getR (ci := 0) X rfl iBr_ok (B_all _ b7).1.1 (B_all _ b7).1.2 0 rfl rfl tw_199 d_BA_look_52 ?_
      refine R_iload X 5 d_BA_look_55 rfl ?_
      obtain ⟨i9, h⟩ := ck h
      refine R_iald (n := 8) X (B_all _ b7).2.1.1 (B_all _ b7).2.1.2 i9 d_BA_look_57 ?_
      refine V_pc (pc' := 58) rfl ?_
      refine R_iload_n X 1 d_BA_look_58 rfl ?_
      refine R_isub X d_BA_look_59 ?_
      refine R_istore (L' := [(6, .int ((hp ((hp 0 8).toNatClampNeg + 1) (x5).toNatClampNeg) - v1)), (0, .ref (gA (zG Z) 0)), (1, .int v1), (2, .int v2), (3, .int x3), (4, .int x4), (5, .int x5)]) X d_BA_look_60 (by decide) rfl ?_
      refine R_iload_n X 3 d_BA_look_62 rfl ?_
      refine R_aload_n X 1 d_BA_look_63 rfl ?_
      refine R_getD (ci := 6) X rfl iBA_ok (of_decide_eq_true rfl) rfl 8 rfl rfl tw_242 d_BA_look_64 ?_
      refine V_pc (pc' := 67) rfl ?_
      refine R_getR (ci := 0) X rfl iBr_ok (B_all _ b7).1.1 (B_all _ b7).1.2 0 rfl rfl tw_199 d_BA_look_67 ?_
      refine R_iload X 6 d_BA_look_70 rfl ?_
      refine R_iald (n := 8) X (B_all _ b7).2.1.1 (B_all _ b7).2.1.2 i9 d_BA_look_72 ?_
      refine R_isub X d_BA_look_73 ?_
      refine R_iconst (v := (1 : Int32)) X d_BA_look_74 rfl ?_
      refine R_iadd X d_BA_look_75 ?_
      refine V_pc (pc' := 76) rfl ?_
      refine R_istore (L' := [(7, .int ((v2 - (hp ((hp 0 8).toNatClampNeg + 1) (x5).toNatClampNeg)) + (1 : Int32))), (6, .int ((hp ((hp 0 8).toNatClampNeg + 1) (x5).toNatClampNeg) - v1)), (0, .ref (gA (zG Z) 0)), (1, .int v1), (2, .int v2), (3, .int x3), (4, .int x4), (5, .int x5)]) X d_BA_look_76 (by decide) rfl ?_
      refine R_iload X 1 d_BA_look_78 rfl ?_
      refine R_iload X 0 d_BA_look_80 rfl ?_
      refine R_mmax X tw_397 tw_398 tw_56 tw_399 rfl d_BA_look_82 ?_
      refine R_istore (L' := [(8, .int (mx ((hp ((hp 0 8).toNatClampNeg + 1) (x5).toNatClampNeg) - v1) ((v2 - (hp ((hp 0 8).toNatClampNeg + 1) (x5).toNatClampNeg)) + (1 : Int32)))), (7, .int ((v2 - (hp ((hp 0 8).toNatClampNeg + 1) (x5).toNatClampNeg)) + (1 : Int32))), (6, .int ((hp ((hp 0 8).toNatClampNeg + 1) (x5).toNatClampNeg) - v1)), (0, .ref (gA (zG Z) 0)), (1, .int v1), (2, .int v2), (3, .int x3), (4, .int x4), (5, .int x5)]) X d_BA_look_85 (by decide) rfl ?_
      refine R_iload X 2 d_BA_look_87 rfl ?_
      refine V_pc (pc' := 89) rfl ?_
      refine R_ifle (tgt := 111) X d_BA_look_89 rfl (fun c10 => ?_) (fun c10 => ?_)
      · replace h := (if_pos c10).symm.trans h
        refine R_iinc (v := (x5 + 1)) (L' := [(5, .int (x5 + 1)), (8, .int (mx ((hp ((hp 0 8).toNatClampNeg + 1) (x5).toNatClampNeg) - v1) ((v2 - (hp ((hp 0 8).toNatClampNeg + 1) (x5).toNatClampNeg)) + (1 : Int32)))), (7, .int ((v2 - (hp ((hp 0 8).toNatClampNeg + 1) (x5).toNatClampNeg)) + (1 : Int32))), (6, .int ((hp ((hp 0 8).toNatClampNeg + 1) (x5).toNatClampNeg) - v1)), (0, .ref (gA (zG Z) 0)), (1, .int v1), (2, .int v2), (3, .int x3), (4, .int x4)]) X 8 d_BA_look_111 rfl rfl (by decide) rfl ?_
        refine R_goto (tgt := 36) X d_BA_look_114 rfl ?_
        refine V_pc (pc' := 36) rfl (R_loc (L' := [(0, .ref (gA (zG Z) 0)), (1, .int v1), (2, .int v2), (3, .int x3), (4, .int x4), (5, .int (x5 + 1))]) [4, 5, 6, 7, 8, 0] rfl ?_)
        exact ih hp x3 x4 (x5 + 1) h
      · replace h := (if_neg c10).symm.trans h
        refine R_iload X 1 d_BA_look_92 rfl ?_
        refine R_ifle (tgt := 111) X d_BA_look_94 rfl (fun c11 => ?_) (fun c11 => ?_)
        · replace h := (if_pos c11).symm.trans h
          refine R_iinc (v := (x5 + 1)) (L' := [(5, .int (x5 + 1)), (8, .int (mx ((hp ((hp 0 8).toNatClampNeg + 1) (x5).toNatClampNeg) - v1) ((v2 - (hp ((hp 0 8).toNatClampNeg + 1) (x5).toNatClampNeg)) + (1 : Int32)))), (7, .int ((v2 - (hp ((hp 0 8).toNatClampNeg + 1) (x5).toNatClampNeg)) + (1 : Int32))), (6, .int ((hp ((hp 0 8).toNatClampNeg + 1) (x5).toNatClampNeg) - v1)), (0, .ref (gA (zG Z) 0)), (1, .int v1), (2, .int v2), (3, .int x3), (4, .int x4)]) X 8 d_BA_look_111 rfl rfl (by decide) rfl ?_
          refine R_goto (tgt := 36) X d_BA_look_114 rfl ?_
          refine V_pc (pc' := 36) rfl (R_loc (L' := [(0, .ref (gA (zG Z) 0)), (1, .int v1), (2, .int v2), (3, .int x3), (4, .int x4), (5, .int (x5 + 1))]) [4, 5, 6, 7, 8, 0] rfl ?_)
          exact ih hp x3 x4 (x5 + 1) h
        · replace h := (if_neg c11).symm.trans h
          refine R_iload X 0 d_BA_look_97 rfl ?_
          refine R_iload X 7 d_BA_look_99 rfl ?_
          refine R_icmp_ge (tgt := 111) X d_BA_look_101 rfl (fun c12 => ?_) (fun c12 => ?_)
          · replace h := (if_pos c12).symm.trans h
            refine R_iinc (v := (x5 + 1)) (L' := [(5, .int (x5 + 1)), (8, .int (mx ((hp ((hp 0 8).toNatClampNeg + 1) (x5).toNatClampNeg) - v1) ((v2 - (hp ((hp 0 8).toNatClampNeg + 1) (x5).toNatClampNeg)) + (1 : Int32)))), (7, .int ((v2 - (hp ((hp 0 8).toNatClampNeg + 1) (x5).toNatClampNeg)) + (1 : Int32))), (6, .int ((hp ((hp 0 8).toNatClampNeg + 1) (x5).toNatClampNeg) - v1)), (0, .ref (gA (zG Z) 0)), (1, .int v1), (2, .int v2), (3, .int x3), (4, .int x4)]) X 8 d_BA_look_111 rfl rfl (by decide) rfl ?_
            refine R_goto (tgt := 36) X d_BA_look_114 rfl ?_
            refine V_pc (pc' := 36) rfl (R_loc (L' := [(0, .ref (gA (zG Z) 0)), (1, .int v1), (2, .int v2), (3, .int x3), (4, .int x4), (5, .int (x5 + 1))]) [4, 5, 6, 7, 8, 0] rfl ?_)
            exact ih hp x3 x4 (x5 + 1) h
          · replace h := (if_neg c12).symm.trans h
            refine R_iload X 8 d_BA_look_104 rfl ?_
            refine R_istore_n (L' := [(3, .int x5), (8, .int (mx ((hp ((hp 0 8).toNatClampNeg + 1) (x5).toNatClampNeg) - v1) ((v2 - (hp ((hp 0 8).toNatClampNeg + 1) (x5).toNatClampNeg)) + (1 : Int32)))), (7, .int ((v2 - (hp ((hp 0 8).toNatClampNeg + 1) (x5).toNatClampNeg)) + (1 : Int32))), (6, .int ((hp ((hp 0 8).toNatClampNeg + 1) (x5).toNatClampNeg) - v1)), (0, .ref (gA (zG Z) 0)), (1, .int v1), (2, .int v2), (4, .int x4), (5, .int x5)]) X d_BA_look_106 (by decide) rfl ?_
            refine R_iload X 1 d_BA_look_107 rfl ?_
            refine R_istore (L' := [(4, .int (mx ((hp ((hp 0 8).toNatClampNeg + 1) (x5).toNatClampNeg) - v1) ((v2 - (hp ((hp 0 8).toNatClampNeg + 1) (x5).toNatClampNeg)) + (1 : Int32)))), (3, .int x5), (8, .int (mx ((hp ((hp 0 8).toNatClampNeg + 1) (x5).toNatClampNeg) - v1) ((v2 - (hp ((hp 0 8).toNatClampNeg + 1) (x5).toNatClampNeg)) + (1 : Int32)))), (7, .int ((v2 - (hp ((hp 0 8).toNatClampNeg + 1) (x5).toNatClampNeg)) + (1 : Int32))), (6, .int ((hp ((hp 0 8).toNatClampNeg + 1) (x5).toNatClampNeg) - v1)), (0, .ref (gA (zG Z) 0)), (1, .int v1), (2, .int v2), (5, .int x5)]) X d_BA_look_109 (by decide) rfl ?_
            refine R_iinc (v := (x5 + 1)) (L' := [(5, .int (x5 + 1)), (4, .int (mx ((hp ((hp 0 8).toNatClampNeg + 1) (x5).toNatClampNeg) - v1) ((v2 - (hp ((hp 0 8).toNatClampNeg + 1) (x5).toNatClampNeg)) + (1 : Int32)))), (3, .int x5), (8, .int (mx ((hp ((hp 0 8).toNatClampNeg + 1) (x5).toNatClampNeg) - v1) ((v2 - (hp ((hp 0 8).toNatClampNeg + 1) (x5).toNatClampNeg)) + (1 : Int32)))), (7, .int ((v2 - (hp ((hp 0 8).toNatClampNeg + 1) (x5).toNatClampNeg)) + (1 : Int32))), (6, .int ((hp ((hp 0 8).toNatClampNeg + 1) (x5).toNatClampNeg) - v1)), (0, .ref (gA (zG Z) 0)), (1, .int v1), (2, .int v2)]) X 8 d_BA_look_111 rfl rfl (by decide) rfl ?_
            refine V_pc (pc' := 114) rfl ?_
            refine R_goto (tgt := 36) X d_BA_look_114 rfl ?_
            refine V_pc (pc' := 36) rfl (R_loc (L' := [(0, .ref (gA (zG Z) 0)), (1, .int v1), (2, .int v2), (3, .int x5), (4, .int (mx ((hp ((hp 0 8).toNatClampNeg + 1) (x5).toNatClampNeg) - v1) ((v2 - (hp ((hp 0 8).toNatClampNeg + 1) (x5).toNatClampNeg)) + (1 : Int32)))), (5, .int (x5 + 1))]) [6, 7, 8, 2, 1, 0] rfl ?_)
            exact ih hp x5 (mx ((hp ((hp 0 8).toNatClampNeg + 1) (x5).toNatClampNeg) - v1) ((v2 - (hp ((hp 0 8).toNatClampNeg + 1) (x5).toNatClampNeg)) + (1 : Int32))) (x5 + 1) h
set_option maxRecDepth 20000 in
set_option maxHeartbeats 2000000 in
theorem T_BA_look {Z : ZT} (X : CX Z Y_BA_look) {hp : HP} {p : Int32 × HP} (h : f_BA_look hp = some p) (hR : RetI Z Y_BA_look .int p.1 p.2) : V Z Y_BA_look hp 0 [(0, .ref (gA (zG Z) 0))] [] := by
  unfold f_BA_look at h
  refine R_aload_n X 0 d_BA_look_0 rfl ?_
  refine R_getR (ci := 6) X rfl iBA_ok (of_decide_eq_true rfl) rfl 3 rfl rfl tw_237 d_BA_look_1 ?_
  refine R_aload_n X 0 d_BA_look_4 rfl ?_
  refine R_getD (ci := 6) X rfl iBA_ok (of_decide_eq_true rfl) rfl 8 rfl rfl tw_242 d_BA_look_5 ?_
  obtain ⟨b1, h⟩ := ck h
  obtain ⟨p3, e2, h⟩ := ob h
  refine R_vcall (ci := 4) (k := 68) (As := [.ref (gA (zG Z) (hp 0 8).toNatClampNeg)]) (st := []) X (M_Sl_leastSeen b1 e2) tw_619 cf_Sl_leastSeen (of_decide_eq_true rfl) rfl rfl rfl rfl rfl d_BA_look_8 ?_
  refine V_pc (pc' := 11) rfl ?_
  refine R_istore_n (L' := [(1, .int p3.1), (0, .ref (gA (zG Z) 0))]) X d_BA_look_11 (by decide) rfl ?_
  refine R_aload_n X 1 d_BA_look_12 rfl ?_
  refine R_getR (ci := 6) X rfl iBA_ok (of_decide_eq_true rfl) rfl 3 rfl rfl tw_237 d_BA_look_13 ?_
  refine R_aload_n X 1 d_BA_look_16 rfl ?_
  refine R_getD (ci := 6) X rfl iBA_ok (of_decide_eq_true rfl) rfl 8 rfl rfl tw_242 d_BA_look_17 ?_
  obtain ⟨b4, h⟩ := ck h
  obtain ⟨p6, e5, h⟩ := ob h
  refine R_vcall (ci := 4) (k := 68) (As := [.ref (gA (zG Z) (p3.2 0 8).toNatClampNeg)]) (st := []) X (M_Sl_greatestSeen b4 e5) tw_623 cf_Sl_greatestSeen (of_decide_eq_true rfl) rfl rfl rfl rfl rfl d_BA_look_20 ?_
  refine V_pc (pc' := 23) rfl ?_
  refine R_istore_n (L' := [(2, .int p6.1), (1, .int p3.1), (0, .ref (gA (zG Z) 0))]) X d_BA_look_23 (by decide) rfl ?_
  refine R_iconst (v := (-1 : Int32)) X d_BA_look_24 rfl ?_
  refine R_istore_n (L' := [(3, .int (-1 : Int32)), (2, .int p6.1), (1, .int p3.1), (0, .ref (gA (zG Z) 0))]) X d_BA_look_25 (by decide) rfl ?_
  refine R_iload_n X 1 d_BA_look_26 rfl ?_
  refine R_iload_n X 2 d_BA_look_27 rfl ?_
  refine R_isub X d_BA_look_28 ?_
  refine V_pc (pc' := 29) rfl ?_
  refine R_iconst (v := (1 : Int32)) X d_BA_look_29 rfl ?_
  refine R_iadd X d_BA_look_30 ?_
  refine R_istore (L' := [(4, .int ((p6.1 - p3.1) + (1 : Int32))), (3, .int (-1 : Int32)), (2, .int p6.1), (1, .int p3.1), (0, .ref (gA (zG Z) 0))]) X d_BA_look_31 (by decide) rfl ?_
  refine R_iconst (v := (0 : Int32)) X d_BA_look_33 rfl ?_
  refine R_istore (L' := [(5, .int (0 : Int32)), (4, .int ((p6.1 - p3.1) + (1 : Int32))), (3, .int (-1 : Int32)), (2, .int p6.1), (1, .int p3.1), (0, .ref (gA (zG Z) 0))]) X d_BA_look_34 (by decide) rfl ?_
  refine V_pc (pc' := 36) rfl (R_loc (L' := [(0, .ref (gA (zG Z) 0)), (1, .int p3.1), (2, .int p6.1), (3, .int (-1 : Int32)), (4, .int ((p6.1 - p3.1) + (1 : Int32))), (5, .int (0 : Int32))]) [5, 4, 3, 2, 1, 0] rfl ?_)
  refine T_BA_look_L36 X hR (fun hp14 w13 h => ?_) _ p6.2 (-1 : Int32) ((p6.1 - p3.1) + (1 : Int32)) (0 : Int32) h
  refine R_iload_n X 0 d_BA_look_117 rfl ?_
  exact R_ret hR h d_BA_look_118
theorem M_BA_look {G : GT} {hp : HP} {p : Int32 × HP} (h : f_BA_look hp = some p) : MI G y_BA_look Y_BA_look .int [.ref (gA G 0)] hp p.1 p.2 := MI_of rfl (fun Z hz X hR => by subst hz; exact T_BA_look X h hR)
theorem d_Sl_addEntry_0 : decode prog_6_method_7_code 0 = .ok (.aload_n 0, 1) := by decide +kernel
theorem d_Sl_addEntry_1 : decode prog_6_method_7_code 1 = .ok (.getfield 44, 3) := by decide +kernel
theorem d_Sl_addEntry_4 : decode prog_6_method_7_code 4 = .ok (.bipush (15), 2) := by decide +kernel
theorem d_Sl_addEntry_6 : decode prog_6_method_7_code 6 = .ok (.if_icmp .ge (33), 3) := by decide +kernel
theorem d_Sl_addEntry_9 : decode prog_6_method_7_code 9 = .ok (.aload_n 0, 1) := by decide +kernel
theorem d_Sl_addEntry_10 : decode prog_6_method_7_code 10 = .ok (.getfield 28, 3) := by decide +kernel
theorem d_Sl_addEntry_13 : decode prog_6_method_7_code 13 = .ok (.aload_n 0, 1) := by decide +kernel
theorem d_Sl_addEntry_14 : decode prog_6_method_7_code 14 = .ok (.getfield 44, 3) := by decide +kernel
theorem d_Sl_addEntry_17 : decode prog_6_method_7_code 17 = .ok (.iload_n 1, 1) := by decide +kernel
theorem d_Sl_addEntry_18 : decode prog_6_method_7_code 18 = .ok (.iastore, 1) := by decide +kernel
theorem d_Sl_addEntry_19 : decode prog_6_method_7_code 19 = .ok (.aload_n 0, 1) := by decide +kernel
theorem d_Sl_addEntry_20 : decode prog_6_method_7_code 20 = .ok (.getfield 31, 3) := by decide +kernel
theorem d_Sl_addEntry_23 : decode prog_6_method_7_code 23 = .ok (.aload_n 0, 1) := by decide +kernel
theorem d_Sl_addEntry_24 : decode prog_6_method_7_code 24 = .ok (.getfield 44, 3) := by decide +kernel
theorem d_Sl_addEntry_27 : decode prog_6_method_7_code 27 = .ok (.iload_n 2, 1) := by decide +kernel
theorem d_Sl_addEntry_28 : decode prog_6_method_7_code 28 = .ok (.iastore, 1) := by decide +kernel
theorem d_Sl_addEntry_29 : decode prog_6_method_7_code 29 = .ok (.aload_n 0, 1) := by decide +kernel
theorem d_Sl_addEntry_30 : decode prog_6_method_7_code 30 = .ok (.dup, 1) := by decide +kernel
theorem d_Sl_addEntry_31 : decode prog_6_method_7_code 31 = .ok (.getfield 44, 3) := by decide +kernel
theorem d_Sl_addEntry_34 : decode prog_6_method_7_code 34 = .ok (.iconst 1, 1) := by decide +kernel
theorem d_Sl_addEntry_35 : decode prog_6_method_7_code 35 = .ok (.iadd, 1) := by decide +kernel
theorem d_Sl_addEntry_36 : decode prog_6_method_7_code 36 = .ok (.putfield 44, 3) := by decide +kernel
theorem d_Sl_addEntry_39 : decode prog_6_method_7_code 39 = .ok (.return_, 1) := by decide +kernel
set_option maxRecDepth 20000 in
set_option maxHeartbeats 2000000 in
theorem T_Sl_addEntry {Z : ZT} (X : CX Z Y_Sl_addEntry) {hp : HP} {a1 : Int32} {a2 : Int32} {p : Int32 × HP} (h : f_Sl_addEntry hp a1 a2 = some p) (hR : RetV Z Y_Sl_addEntry p.2) : V Z Y_Sl_addEntry hp 0 [(0, .ref (gA (zG Z) 68)), (1, .int a1), (2, .int a2)] [] := by
  unfold f_Sl_addEntry at h
  refine R_aload_n X 0 d_Sl_addEntry_0 rfl ?_
  refine R_getI (ci := 4) X rfl iSl_ok (of_decide_eq_true rfl) rfl 10 rfl rfl tw_155 d_Sl_addEntry_1 ?_
  refine R_bipush (v := (15 : Int32)) X d_Sl_addEntry_4 rfl ?_
  refine R_icmp_ge (tgt := 39) X d_Sl_addEntry_6 rfl (fun c1 => ?_) (fun c1 => ?_)
  · replace h := (if_pos c1).symm.trans h
    exact R_retv hR h d_Sl_addEntry_39
  · replace h := (if_neg c1).symm.trans h
    refine R_aload_n X 0 d_Sl_addEntry_9 rfl ?_
    refine R_getR (ci := 4) X rfl iSl_ok (of_decide_eq_true rfl) rfl 5 rfl rfl tw_143 d_Sl_addEntry_10 ?_
    refine R_aload_n X 0 d_Sl_addEntry_13 rfl ?_
    refine R_getI (ci := 4) X rfl iSl_ok (of_decide_eq_true rfl) rfl 10 rfl rfl tw_155 d_Sl_addEntry_14 ?_
    refine R_iload_n X 1 d_Sl_addEntry_17 rfl ?_
    refine V_pc (pc' := 18) rfl ?_
    obtain ⟨i2, h⟩ := ck h
    refine R_iast (n := 15) X (of_decide_eq_true rfl) rfl i2 d_Sl_addEntry_18 ?_
    refine R_aload_n X 0 d_Sl_addEntry_19 rfl ?_
    refine R_getR (ci := 4) X rfl iSl_ok (of_decide_eq_true rfl) rfl 6 rfl rfl tw_145 d_Sl_addEntry_20 ?_
    refine R_aload_n X 0 d_Sl_addEntry_23 rfl ?_
    refine R_getI (ci := 4) X rfl iSl_ok (of_decide_eq_true rfl) rfl 10 rfl rfl tw_155 d_Sl_addEntry_24 ?_
    refine R_iload_n X 2 d_Sl_addEntry_27 rfl ?_
    refine V_pc (pc' := 28) rfl ?_
    obtain ⟨i3, h⟩ := ck h
    refine R_iast (n := 15) X (of_decide_eq_true rfl) rfl i3 d_Sl_addEntry_28 ?_
    refine R_aload_n X 0 d_Sl_addEntry_29 rfl ?_
    refine R_dup X d_Sl_addEntry_30 rfl ?_
    refine R_getI (ci := 4) X rfl iSl_ok (of_decide_eq_true rfl) rfl 10 rfl rfl tw_155 d_Sl_addEntry_31 ?_
    refine R_iconst (v := (1 : Int32)) X d_Sl_addEntry_34 rfl ?_
    refine R_iadd X d_Sl_addEntry_35 ?_
    refine V_pc (pc' := 36) rfl ?_
    refine R_putI (ci := 4) X rfl iSl_ok ySl_ok nSl_ok (of_decide_eq_true rfl) rfl 10 rfl rfl rfl rfl tw_155 d_Sl_addEntry_36 ?_
    exact R_retv hR h d_Sl_addEntry_39
theorem M_Sl_addEntry {G : GT} {hp : HP} {a1 : Int32} {a2 : Int32} {p : Int32 × HP} (h : f_Sl_addEntry hp a1 a2 = some p) : MV G y_Sl_addEntry Y_Sl_addEntry [.ref (gA G 68), .int a1, .int a2] hp p.2 := MV_of rfl (fun Z hz X hR => by subst hz; exact T_Sl_addEntry X h hR)
theorem d_BA_write_0 : decode prog_1_method_28_code 0 = .ok (.aload_n 0, 1) := by decide +kernel
theorem d_BA_write_1 : decode prog_1_method_28_code 1 = .ok (.getfield 59, 3) := by decide +kernel
theorem d_BA_write_4 : decode prog_1_method_28_code 4 = .ok (.iload_n 1, 1) := by decide +kernel
theorem d_BA_write_5 : decode prog_1_method_28_code 5 = .ok (.invokevirtual 145, 3) := by decide +kernel
theorem d_BA_write_8 : decode prog_1_method_28_code 8 = .ok (.ifCond .ne (6), 3) := by decide +kernel
theorem d_BA_write_11 : decode prog_1_method_28_code 11 = .ok (.ldc 144, 2) := by decide +kernel
theorem d_BA_write_13 : decode prog_1_method_28_code 13 = .ok (.ireturn, 1) := by decide +kernel
theorem d_BA_write_14 : decode prog_1_method_28_code 14 = .ok (.iload_n 2, 1) := by decide +kernel
theorem d_BA_write_15 : decode prog_1_method_28_code 15 = .ok (.iconst 0, 1) := by decide +kernel
theorem d_BA_write_16 : decode prog_1_method_28_code 16 = .ok (.sipush (20000), 3) := by decide +kernel
theorem d_BA_write_19 : decode prog_1_method_28_code 19 = .ok (.invokestatic 73, 3) := by decide +kernel
theorem d_BA_write_22 : decode prog_1_method_28_code 22 = .ok (.ifCond .ne (6), 3) := by decide +kernel
theorem d_BA_write_25 : decode prog_1_method_28_code 25 = .ok (.ldc 77, 2) := by decide +kernel
theorem d_BA_write_27 : decode prog_1_method_28_code 27 = .ok (.ireturn, 1) := by decide +kernel
theorem d_BA_write_28 : decode prog_1_method_28_code 28 = .ok (.aload_n 0, 1) := by decide +kernel
theorem d_BA_write_29 : decode prog_1_method_28_code 29 = .ok (.getfield 33, 3) := by decide +kernel
theorem d_BA_write_32 : decode prog_1_method_28_code 32 = .ok (.getfield 131, 3) := by decide +kernel
theorem d_BA_write_35 : decode prog_1_method_28_code 35 = .ok (.bipush (15), 2) := by decide +kernel
theorem d_BA_write_37 : decode prog_1_method_28_code 37 = .ok (.if_icmp .lt (6), 3) := by decide +kernel
theorem d_BA_write_40 : decode prog_1_method_28_code 40 = .ok (.ldc 81, 2) := by decide +kernel
theorem d_BA_write_42 : decode prog_1_method_28_code 42 = .ok (.ireturn, 1) := by decide +kernel
theorem d_BA_write_43 : decode prog_1_method_28_code 43 = .ok (.aload_n 0, 1) := by decide +kernel
theorem d_BA_write_44 : decode prog_1_method_28_code 44 = .ok (.getfield 33, 3) := by decide +kernel
theorem d_BA_write_47 : decode prog_1_method_28_code 47 = .ok (.iload_n 1, 1) := by decide +kernel
theorem d_BA_write_48 : decode prog_1_method_28_code 48 = .ok (.iload_n 2, 1) := by decide +kernel
theorem d_BA_write_49 : decode prog_1_method_28_code 49 = .ok (.sipush (10000), 3) := by decide +kernel
theorem d_BA_write_52 : decode prog_1_method_28_code 52 = .ok (.isub, 1) := by decide +kernel
theorem d_BA_write_53 : decode prog_1_method_28_code 53 = .ok (.invokevirtual 255, 3) := by decide +kernel
theorem d_BA_write_56 : decode prog_1_method_28_code 56 = .ok (.aload_n 0, 1) := by decide +kernel
theorem d_BA_write_57 : decode prog_1_method_28_code 57 = .ok (.getfield 33, 3) := by decide +kernel
theorem d_BA_write_60 : decode prog_1_method_28_code 60 = .ok (.getfield 131, 3) := by decide +kernel
theorem d_BA_write_63 : decode prog_1_method_28_code 63 = .ok (.ireturn, 1) := by decide +kernel
set_option maxRecDepth 20000 in
set_option maxHeartbeats 2000000 in
theorem T_BA_write {Z : ZT} (X : CX Z Y_BA_write) {hp : HP} {a1 : Int32} {a2 : Int32} {p : Int32 × HP} (h : f_BA_write hp a1 a2 = some p) (hR : RetI Z Y_BA_write .int p.1 p.2) : V Z Y_BA_write hp 0 [(0, .ref (gA (zG Z) 0)), (1, .int a1), (2, .int a2)] [] := by
  unfold f_BA_write at h
  refine R_aload_n X 0 d_BA_write_0 rfl ?_
  refine R_getD (ci := 6) X rfl iBA_ok (of_decide_eq_true rfl) rfl 8 rfl rfl tw_242 d_BA_write_1 ?_
  obtain ⟨b1, h⟩ := ck h
  refine R_iload_n X 1 d_BA_write_4 rfl ?_
  obtain ⟨p3, e2, h⟩ := ob h
  refine R_vcall (ci := 0) (k := (hp 0 8).toNatClampNeg) (As := [.int a1]) (st := []) X (M_Br_hasCustomer b1 e2) tw_419 cf_Br_hasCustomer (B_all _ b1).1.1 (B_all _ b1).1.2 rfl rfl rfl rfl d_BA_write_5 ?_
  refine R_ifne (tgt := 14) X d_BA_write_8 rfl (fun c4 => ?_) (fun c4 => ?_)
  · replace h := (if_neg c4).symm.trans h
    refine R_iload_n X 2 d_BA_write_14 rfl ?_
    refine R_iconst (v := (0 : Int32)) X d_BA_write_15 rfl ?_
    refine R_sipush (v := (20000 : Int32)) X d_BA_write_16 rfl ?_
    obtain ⟨p6, e5, h⟩ := ob h
    refine R_scall (As := [.int a2, .int (0 : Int32), .int (20000 : Int32)]) (st := []) X (M_BA_within e5) tw_275 cf_BA_within rfl rfl rfl d_BA_write_19 ?_
    refine R_ifne (tgt := 28) X d_BA_write_22 rfl (fun c7 => ?_) (fun c7 => ?_)
    · replace h := (if_neg c7).symm.trans h
      refine R_aload_n X 0 d_BA_write_28 rfl ?_
      refine R_getR (ci := 6) X rfl iBA_ok (of_decide_eq_true rfl) rfl 3 rfl rfl tw_237 d_BA_write_29 ?_
      refine R_getI (ci := 4) X rfl iSl_ok (of_decide_eq_true rfl) rfl 10 rfl rfl tw_156 d_BA_write_32 ?_
      refine R_bipush (v := (15 : Int32)) X d_BA_write_35 rfl ?_
      refine R_icmp_lt (tgt := 43) X d_BA_write_37 rfl (fun c8 => ?_) (fun c8 => ?_)
      · replace h := (if_pos c8).symm.trans h
        refine R_aload_n X 0 d_BA_write_43 rfl ?_
        refine R_getR (ci := 6) X rfl iBA_ok (of_decide_eq_true rfl) rfl 3 rfl rfl tw_237 d_BA_write_44 ?_
        refine R_iload_n X 1 d_BA_write_47 rfl ?_
        refine R_iload_n X 2 d_BA_write_48 rfl ?_
        refine R_sipush (v := (10000 : Int32)) X d_BA_write_49 rfl ?_
        refine V_pc (pc' := 52) rfl ?_
        refine R_isub X d_BA_write_52 ?_
        obtain ⟨p10, e9, h⟩ := ob h
        refine R_vcallv (ci := 4) (k := 68) (As := [.int a1, .int (a2 - (10000 : Int32))]) (st := []) X (M_Sl_addEntry e9) tw_636 cf_Sl_addEntry (of_decide_eq_true rfl) rfl rfl rfl rfl rfl d_BA_write_53 ?_
        refine R_aload_n X 0 d_BA_write_56 rfl ?_
        refine R_getR (ci := 6) X rfl iBA_ok (of_decide_eq_true rfl) rfl 3 rfl rfl tw_237 d_BA_write_57 ?_
        refine R_getI (ci := 4) X rfl iSl_ok (of_decide_eq_true rfl) rfl 10 rfl rfl tw_156 d_BA_write_60 ?_
        exact R_ret hR h d_BA_write_63
      · replace h := (if_neg c8).symm.trans h
        refine R_ldc (v := (-1000000004 : Int32)) X tw_279 d_BA_write_40 ?_
        exact R_ret hR h d_BA_write_42
    · replace h := (if_pos c7).symm.trans h
      refine R_ldc (v := (-1000000002 : Int32)) X tw_278 d_BA_write_25 ?_
      exact R_ret hR h d_BA_write_27
  · replace h := (if_pos c4).symm.trans h
    refine R_ldc (v := (-1000000001 : Int32)) X tw_414 d_BA_write_11 ?_
    exact R_ret hR h d_BA_write_13
theorem M_BA_write {G : GT} {hp : HP} {a1 : Int32} {a2 : Int32} {p : Int32 × HP} (h : f_BA_write hp a1 a2 = some p) : MI G y_BA_write Y_BA_write .int [.ref (gA G 0), .int a1, .int a2] hp p.1 p.2 := MI_of rfl (fun Z hz X hR => by subst hz; exact T_BA_write X h hR)
theorem d_Sl_countAll_0 : decode prog_6_method_3_code 0 = .ok (.aload_n 0, 1) := by decide +kernel
theorem d_Sl_countAll_1 : decode prog_6_method_3_code 1 = .ok (.getfield 34, 3) := by decide +kernel
theorem d_Sl_countAll_4 : decode prog_6_method_3_code 4 = .ok (.aload_n 0, 1) := by decide +kernel
theorem d_Sl_countAll_5 : decode prog_6_method_3_code 5 = .ok (.getfield 38, 3) := by decide +kernel
theorem d_Sl_countAll_8 : decode prog_6_method_3_code 8 = .ok (.iadd, 1) := by decide +kernel
theorem d_Sl_countAll_9 : decode prog_6_method_3_code 9 = .ok (.aload_n 0, 1) := by decide +kernel
theorem d_Sl_countAll_10 : decode prog_6_method_3_code 10 = .ok (.getfield 41, 3) := by decide +kernel
theorem d_Sl_countAll_13 : decode prog_6_method_3_code 13 = .ok (.iadd, 1) := by decide +kernel
theorem d_Sl_countAll_14 : decode prog_6_method_3_code 14 = .ok (.aload_n 0, 1) := by decide +kernel
theorem d_Sl_countAll_15 : decode prog_6_method_3_code 15 = .ok (.getfield 44, 3) := by decide +kernel
theorem d_Sl_countAll_18 : decode prog_6_method_3_code 18 = .ok (.iadd, 1) := by decide +kernel
theorem d_Sl_countAll_19 : decode prog_6_method_3_code 19 = .ok (.ireturn, 1) := by decide +kernel
set_option maxRecDepth 20000 in
set_option maxHeartbeats 2000000 in
theorem T_Sl_countAll {Z : ZT} (X : CX Z Y_Sl_countAll) {hp : HP} {p : Int32 × HP} (h : f_Sl_countAll hp = some p) (hR : RetI Z Y_Sl_countAll .int p.1 p.2) : V Z Y_Sl_countAll hp 0 [(0, .ref (gA (zG Z) 68))] [] := by
  unfold f_Sl_countAll at h
  refine R_aload_n X 0 d_Sl_countAll_0 rfl ?_
  refine R_getI (ci := 4) X rfl iSl_ok (of_decide_eq_true rfl) rfl 7 rfl rfl tw_147 d_Sl_countAll_1 ?_
  refine R_aload_n X 0 d_Sl_countAll_4 rfl ?_
  refine R_getI (ci := 4) X rfl iSl_ok (of_decide_eq_true rfl) rfl 8 rfl rfl tw_150 d_Sl_countAll_5 ?_
  refine R_iadd X d_Sl_countAll_8 ?_
  refine V_pc (pc' := 9) rfl ?_
  refine R_aload_n X 0 d_Sl_countAll_9 rfl ?_
  refine R_getI (ci := 4) X rfl iSl_ok (of_decide_eq_true rfl) rfl 9 rfl rfl tw_153 d_Sl_countAll_10 ?_
  refine R_iadd X d_Sl_countAll_13 ?_
  refine R_aload_n X 0 d_Sl_countAll_14 rfl ?_
  refine R_getI (ci := 4) X rfl iSl_ok (of_decide_eq_true rfl) rfl 10 rfl rfl tw_155 d_Sl_countAll_15 ?_
  refine R_iadd X d_Sl_countAll_18 ?_
  refine V_pc (pc' := 19) rfl ?_
  exact R_ret hR h d_Sl_countAll_19
theorem M_Sl_countAll {G : GT} {hp : HP} {p : Int32 × HP} (h : f_Sl_countAll hp = some p) : MI G y_Sl_countAll Y_Sl_countAll .int [.ref (gA G 68)] hp p.1 p.2 := MI_of rfl (fun Z hz X hR => by subst hz; exact T_Sl_countAll X h hR)
theorem d_BA_tear_0 : decode prog_1_method_29_code 0 = .ok (.aload_n 0, 1) := by decide +kernel
theorem d_BA_tear_1 : decode prog_1_method_29_code 1 = .ok (.getfield 33, 3) := by decide +kernel
theorem d_BA_tear_4 : decode prog_1_method_29_code 4 = .ok (.invokevirtual 258, 3) := by decide +kernel
theorem d_BA_tear_7 : decode prog_1_method_29_code 7 = .ok (.istore_n 1, 1) := by decide +kernel
theorem d_BA_tear_8 : decode prog_1_method_29_code 8 = .ok (.aload_n 0, 1) := by decide +kernel
theorem d_BA_tear_9 : decode prog_1_method_29_code 9 = .ok (.getfield 33, 3) := by decide +kernel
theorem d_BA_tear_12 : decode prog_1_method_29_code 12 = .ok (.invokevirtual 98, 3) := by decide +kernel
theorem d_BA_tear_15 : decode prog_1_method_29_code 15 = .ok (.iload_n 1, 1) := by decide +kernel
theorem d_BA_tear_16 : decode prog_1_method_29_code 16 = .ok (.ireturn, 1) := by decide +kernel
set_option maxRecDepth 20000 in
set_option maxHeartbeats 2000000 in
theorem T_BA_tear {Z : ZT} (X : CX Z Y_BA_tear) {hp : HP} {p : Int32 × HP} (h : f_BA_tear hp = some p) (hR : RetI Z Y_BA_tear .int p.1 p.2) : V Z Y_BA_tear hp 0 [(0, .ref (gA (zG Z) 0))] [] := by
  unfold f_BA_tear at h
  refine R_aload_n X 0 d_BA_tear_0 rfl ?_
  refine R_getR (ci := 6) X rfl iBA_ok (of_decide_eq_true rfl) rfl 3 rfl rfl tw_237 d_BA_tear_1 ?_
  obtain ⟨p2, e1, h⟩ := ob h
  refine R_vcall (ci := 4) (k := 68) (As := []) (st := []) X (M_Sl_countAll e1) tw_644 cf_Sl_countAll (of_decide_eq_true rfl) rfl rfl rfl rfl rfl d_BA_tear_4 ?_
  refine R_istore_n (L' := [(1, .int p2.1), (0, .ref (gA (zG Z) 0))]) X d_BA_tear_7 (by decide) rfl ?_
  refine R_aload_n X 1 d_BA_tear_8 rfl ?_
  refine V_pc (pc' := 9) rfl ?_
  refine R_getR (ci := 6) X rfl iBA_ok (of_decide_eq_true rfl) rfl 3 rfl rfl tw_237 d_BA_tear_9 ?_
  obtain ⟨p4, e3, h⟩ := ob h
  refine R_vcallv (ci := 4) (k := 68) (As := []) (st := []) X (M_Sl_clear e3) tw_359 cf_Sl_clear (of_decide_eq_true rfl) rfl rfl rfl rfl rfl d_BA_tear_12 ?_
  refine R_iload_n X 0 d_BA_tear_15 rfl ?_
  exact R_ret hR h d_BA_tear_16
theorem M_BA_tear {G : GT} {hp : HP} {p : Int32 × HP} (h : f_BA_tear hp = some p) : MI G y_BA_tear Y_BA_tear .int [.ref (gA G 0)] hp p.1 p.2 := MI_of rfl (fun Z hz X hR => by subst hz; exact T_BA_tear X h hR)
theorem d_BA_judge_0 : decode prog_1_method_30_code 0 = .ok (.iconst 0, 1) := by decide +kernel
theorem d_BA_judge_1 : decode prog_1_method_30_code 1 = .ok (.istore_n 1, 1) := by decide +kernel
theorem d_BA_judge_2 : decode prog_1_method_30_code 2 = .ok (.iload_n 1, 1) := by decide +kernel
theorem d_BA_judge_3 : decode prog_1_method_30_code 3 = .ok (.aload_n 0, 1) := by decide +kernel
theorem d_BA_judge_4 : decode prog_1_method_30_code 4 = .ok (.getfield 33, 3) := by decide +kernel
theorem d_BA_judge_7 : decode prog_1_method_30_code 7 = .ok (.getfield 131, 3) := by decide +kernel
theorem d_BA_judge_10 : decode prog_1_method_30_code 10 = .ok (.if_icmp .ge (53), 3) := by decide +kernel
theorem d_BA_judge_13 : decode prog_1_method_30_code 13 = .ok (.aload_n 0, 1) := by decide +kernel
theorem d_BA_judge_14 : decode prog_1_method_30_code 14 = .ok (.getfield 33, 3) := by decide +kernel
theorem d_BA_judge_17 : decode prog_1_method_30_code 17 = .ok (.getfield 261, 3) := by decide +kernel
theorem d_BA_judge_20 : decode prog_1_method_30_code 20 = .ok (.iload_n 1, 1) := by decide +kernel
theorem d_BA_judge_21 : decode prog_1_method_30_code 21 = .ok (.iaload, 1) := by decide +kernel
theorem d_BA_judge_22 : decode prog_1_method_30_code 22 = .ok (.istore_n 2, 1) := by decide +kernel
theorem d_BA_judge_23 : decode prog_1_method_30_code 23 = .ok (.aload_n 0, 1) := by decide +kernel
theorem d_BA_judge_24 : decode prog_1_method_30_code 24 = .ok (.getfield 59, 3) := by decide +kernel
theorem d_BA_judge_27 : decode prog_1_method_30_code 27 = .ok (.iload_n 2, 1) := by decide +kernel
theorem d_BA_judge_28 : decode prog_1_method_30_code 28 = .ok (.invokevirtual 145, 3) := by decide +kernel
theorem d_BA_judge_31 : decode prog_1_method_30_code 31 = .ok (.ifCond .eq (26), 3) := by decide +kernel
theorem d_BA_judge_34 : decode prog_1_method_30_code 34 = .ok (.aload_n 0, 1) := by decide +kernel
theorem d_BA_judge_35 : decode prog_1_method_30_code 35 = .ok (.getfield 19, 3) := by decide +kernel
theorem d_BA_judge_38 : decode prog_1_method_30_code 38 = .ok (.getfield 148, 3) := by decide +kernel
theorem d_BA_judge_41 : decode prog_1_method_30_code 41 = .ok (.iload_n 2, 1) := by decide +kernel
theorem d_BA_judge_42 : decode prog_1_method_30_code 42 = .ok (.iaload, 1) := by decide +kernel
theorem d_BA_judge_43 : decode prog_1_method_30_code 43 = .ok (.aload_n 0, 1) := by decide +kernel
theorem d_BA_judge_44 : decode prog_1_method_30_code 44 = .ok (.getfield 33, 3) := by decide +kernel
theorem d_BA_judge_47 : decode prog_1_method_30_code 47 = .ok (.getfield 264, 3) := by decide +kernel
theorem d_BA_judge_50 : decode prog_1_method_30_code 50 = .ok (.iload_n 1, 1) := by decide +kernel
theorem d_BA_judge_51 : decode prog_1_method_30_code 51 = .ok (.iaload, 1) := by decide +kernel
theorem d_BA_judge_52 : decode prog_1_method_30_code 52 = .ok (.if_icmp .eq (5), 3) := by decide +kernel
theorem d_BA_judge_55 : decode prog_1_method_30_code 55 = .ok (.iload_n 1, 1) := by decide +kernel
theorem d_BA_judge_56 : decode prog_1_method_30_code 56 = .ok (.ireturn, 1) := by decide +kernel
theorem d_BA_judge_57 : decode prog_1_method_30_code 57 = .ok (.iinc 1 (1), 3) := by decide +kernel
theorem d_BA_judge_60 : decode prog_1_method_30_code 60 = .ok (.goto (-58), 3) := by decide +kernel
theorem d_BA_judge_63 : decode prog_1_method_30_code 63 = .ok (.iconst (-1), 1) := by decide +kernel
theorem d_BA_judge_64 : decode prog_1_method_30_code 64 = .ok (.ireturn, 1) := by decide +kernel
set_option maxRecDepth 20000 in
set_option maxHeartbeats 2000000 in
theorem T_BA_judge_L2 {Z : ZT} (X : CX Z Y_BA_judge) {p : Int32 × HP} (hR : RetI Z Y_BA_judge .int p.1 p.2) {K : HP → Option (Int32 × HP)} (hK : ∀ (hp : HP), K hp = some p → V Z Y_BA_judge hp 63 [] []) : ∀ (n : Nat) (hp : HP) (x1 : Int32), f_BA_judge_L2 K n hp x1 = some p → V Z Y_BA_judge hp 2 [(0, .ref (gA (zG Z) 0)), (1, .int x1)] [] := by
  intro n
  induction n with
  | zero =>
    intro hp x1 h
    cases h
  | succ n ih =>
    intro hp x1 h
    replace h : f_BA_judge_L2 K (n + 1) hp x1 = some p := h
    unfold f_BA_judge_L2 at h
    refine R_iload_n X 1 d_BA_judge_2 rfl ?_
    refine R_aload_n X 0 d_BA_judge_3 rfl ?_
    refine R_getR (ci := 6) X rfl iBA_ok (of_decide_eq_true rfl) rfl 3 rfl rfl tw_237 d_BA_judge_4 ?_
    refine R_getI (ci := 4) X rfl iSl_ok (of_decide_eq_true rfl) rfl 10 rfl rfl tw_156 d_BA_judge_7 ?_
    refine R_icmp_ge (tgt := 63) X d_BA_judge_10 rfl (fun c1 => ?_) (fun c1 => ?_)
    · replace h := (if_pos c1).symm.trans h
      refine V_pc (pc' := 63) rfl (R_loc (L' := []) [] rfl ?_)
      exact hK hp h
    · replace h := (if_neg c1).symm.trans h
      refine R_aload_n X 0 d_BA_judge_13 rfl ?_
      refine R_getR (ci := 6) X rfl iBA_ok (of_decide_eq_true rfl) rfl 3 rfl rfl tw_237 d_BA_judge_14 ?_
      refine R_getR (ci := 4) X rfl iSl_ok (of_decide_eq_true rfl) rfl 5 rfl rfl tw_144 d_BA_judge_17 ?_
      refine R_iload_n X 1 d_BA_judge_20 rfl ?_
      obtain ⟨i2, h⟩ := ck h
      refine R_iald (n := 15) X (of_decide_eq_true rfl) rfl i2 d_BA_judge_21 ?_
      refine V_pc (pc' := 22) rfl ?_
      refine R_istore_n (L' := [(2, .int (hp 74 (x1).toNatClampNeg)), (0, .ref (gA (zG Z) 0)), (1, .int x1)]) X d_BA_judge_22 (by decide) rfl ?_
      refine R_aload_n X 1 d_BA_judge_23 rfl ?_
      refine R_getD (ci := 6) X rfl iBA_ok (of_decide_eq_true rfl) rfl 8 rfl rfl tw_242 d_BA_judge_24 ?_
      obtain ⟨b3, h⟩ := ck h
      refine R_iload_n X 0 d_BA_judge_27 rfl ?_
      obtain ⟨p5, e4, h⟩ := ob h
      refine R_vcall (ci := 0) (k := (hp 0 8).toNatClampNeg) (As := [.int (hp 74 (x1).toNatClampNeg)]) (st := []) X (M_Br_hasCustomer b3 e4) tw_419 cf_Br_hasCustomer (B_all _ b3).1.1 (B_all _ b3).1.2 rfl rfl rfl rfl d_BA_judge_28 ?_
      refine R_ifeq (tgt := 57) X d_BA_judge_31 rfl (fun c6 => ?_) (fun c6 => ?_)
      · replace h := (if_pos c6).symm.trans h
        refine R_iinc (v := (x1 + 1)) (L' := [(1, .int (x1 + 1)), (2, .int (hp 74 (x1).toNatClampNeg)), (0, .ref (gA (zG Z) 0))]) X 2 d_BA_judge_57 rfl rfl (by decide) rfl ?_
        refine R_goto (tgt := 2) X d_BA_judge_60 rfl ?_
        refine V_pc (pc' := 2) rfl (R_loc (L' := [(0, .ref (gA (zG Z) 0)), (1, .int (x1 + 1))]) [2, 0] rfl ?_)
        exact ih p5.2 (x1 + 1) h
      · replace h := (if_neg c6).symm.trans h
        refine R_aload_n X 1 d_BA_judge_34 rfl ?_
        refine R_getR (ci := 6) X rfl iBA_ok (of_decide_eq_true rfl) rfl 1 rfl rfl tw_235 d_BA_judge_35 ?_
        refine R_getR (ci := 5) X rfl iSt_ok (of_decide_eq_true rfl) rfl 0 rfl rfl tw_98 d_BA_judge_38 ?_
        refine R_iload_n X 0 d_BA_judge_41 rfl ?_
        obtain ⟨i7, h⟩ := ck h
        refine R_iald (n := 5) X (of_decide_eq_true rfl) rfl i7 d_BA_judge_42 ?_
        refine V_pc (pc' := 43) rfl ?_
        refine R_aload_n X 1 d_BA_judge_43 rfl ?_
        refine R_getR (ci := 6) X rfl iBA_ok (of_decide_eq_true rfl) rfl 3 rfl rfl tw_237 d_BA_judge_44 ?_
        refine R_getR (ci := 4) X rfl iSl_ok (of_decide_eq_true rfl) rfl 6 rfl rfl tw_146 d_BA_judge_47 ?_
        refine R_iload_n X 2 d_BA_judge_50 rfl ?_
        refine R_iald (n := 15) X (of_decide_eq_true rfl) rfl i2 d_BA_judge_51 ?_
        refine R_icmp_eq (tgt := 57) X d_BA_judge_52 rfl (fun c8 => ?_) (fun c8 => ?_)
        · replace h := (if_pos c8).symm.trans h
          refine R_iinc (v := (x1 + 1)) (L' := [(1, .int (x1 + 1)), (2, .int (hp 74 (x1).toNatClampNeg)), (0, .ref (gA (zG Z) 0))]) X 2 d_BA_judge_57 rfl rfl (by decide) rfl ?_
          refine R_goto (tgt := 2) X d_BA_judge_60 rfl ?_
          refine V_pc (pc' := 2) rfl (R_loc (L' := [(0, .ref (gA (zG Z) 0)), (1, .int (x1 + 1))]) [2, 0] rfl ?_)
          exact ih p5.2 (x1 + 1) h
        · replace h := (if_neg c8).symm.trans h
          refine R_iload_n X 2 d_BA_judge_55 rfl ?_
          exact R_ret hR h d_BA_judge_56
set_option maxRecDepth 20000 in
set_option maxHeartbeats 2000000 in
theorem T_BA_judge {Z : ZT} (X : CX Z Y_BA_judge) {hp : HP} {p : Int32 × HP} (h : f_BA_judge hp = some p) (hR : RetI Z Y_BA_judge .int p.1 p.2) : V Z Y_BA_judge hp 0 [(0, .ref (gA (zG Z) 0))] [] := by
  unfold f_BA_judge at h
  refine R_iconst (v := (0 : Int32)) X d_BA_judge_0 rfl ?_
  refine R_istore_n (L' := [(1, .int (0 : Int32)), (0, .ref (gA (zG Z) 0))]) X d_BA_judge_1 (by decide) rfl ?_
  refine V_pc (pc' := 2) rfl (R_loc (L' := [(0, .ref (gA (zG Z) 0)), (1, .int (0 : Int32))]) [1, 0] rfl ?_)
  refine T_BA_judge_L2 X hR (fun hp9 h => ?_) _ hp (0 : Int32) h
  refine R_iconst (v := (-1 : Int32)) X d_BA_judge_63 rfl ?_
  exact R_ret hR h d_BA_judge_64
theorem M_BA_judge {G : GT} {hp : HP} {p : Int32 × HP} (h : f_BA_judge hp = some p) : MI G y_BA_judge Y_BA_judge .int [.ref (gA G 0)] hp p.1 p.2 := MI_of rfl (fun Z hz X hR => by subst hz; exact T_BA_judge X h hR)
theorem d_BA_seed_0 : decode prog_1_method_31_code 0 = .ok (.iload_n 1, 1) := by decide +kernel
theorem d_BA_seed_1 : decode prog_1_method_31_code 1 = .ok (.ifCond .ge (6), 3) := by decide +kernel
theorem d_BA_seed_4 : decode prog_1_method_31_code 4 = .ok (.ldc 77, 2) := by decide +kernel
theorem d_BA_seed_6 : decode prog_1_method_31_code 6 = .ok (.ireturn, 1) := by decide +kernel
theorem d_BA_seed_7 : decode prog_1_method_31_code 7 = .ok (.aload_n 0, 1) := by decide +kernel
theorem d_BA_seed_8 : decode prog_1_method_31_code 8 = .ok (.getfield 70, 3) := by decide +kernel
theorem d_BA_seed_11 : decode prog_1_method_31_code 11 = .ok (.istore_n 2, 1) := by decide +kernel
theorem d_BA_seed_12 : decode prog_1_method_31_code 12 = .ok (.aload_n 0, 1) := by decide +kernel
theorem d_BA_seed_13 : decode prog_1_method_31_code 13 = .ok (.iload_n 1, 1) := by decide +kernel
theorem d_BA_seed_14 : decode prog_1_method_31_code 14 = .ok (.putfield 70, 3) := by decide +kernel
theorem d_BA_seed_17 : decode prog_1_method_31_code 17 = .ok (.iload_n 2, 1) := by decide +kernel
theorem d_BA_seed_18 : decode prog_1_method_31_code 18 = .ok (.ireturn, 1) := by decide +kernel
set_option maxRecDepth 20000 in
set_option maxHeartbeats 2000000 in
theorem T_BA_seed {Z : ZT} (X : CX Z Y_BA_seed) {hp : HP} {a1 : Int32} {p : Int32 × HP} (h : f_BA_seed hp a1 = some p) (hR : RetI Z Y_BA_seed .int p.1 p.2) : V Z Y_BA_seed hp 0 [(0, .ref (gA (zG Z) 0)), (1, .int a1)] [] := by
  unfold f_BA_seed at h
  refine R_iload_n X 1 d_BA_seed_0 rfl ?_
  refine R_ifge (tgt := 7) X d_BA_seed_1 rfl (fun c1 => ?_) (fun c1 => ?_)
  · replace h := (if_pos c1).symm.trans h
    refine R_aload_n X 0 d_BA_seed_7 rfl ?_
    refine R_getI (ci := 6) X rfl iBA_ok (of_decide_eq_true rfl) rfl 11 rfl rfl tw_245 d_BA_seed_8 ?_
    refine R_istore_n (L' := [(2, .int (hp 0 11)), (0, .ref (gA (zG Z) 0)), (1, .int a1)]) X d_BA_seed_11 (by decide) rfl ?_
    refine R_aload_n X 1 d_BA_seed_12 rfl ?_
    refine R_iload_n X 2 d_BA_seed_13 rfl ?_
    refine V_pc (pc' := 14) rfl ?_
    refine R_putI (ci := 6) X rfl iBA_ok yBA_ok nBA_ok (of_decide_eq_true rfl) rfl 11 rfl rfl rfl rfl tw_245 d_BA_seed_14 ?_
    refine R_iload_n X 0 d_BA_seed_17 rfl ?_
    exact R_ret hR h d_BA_seed_18
  · replace h := (if_neg c1).symm.trans h
    refine R_ldc (v := (-1000000002 : Int32)) X tw_278 d_BA_seed_4 ?_
    exact R_ret hR h d_BA_seed_6
theorem M_BA_seed {G : GT} {hp : HP} {a1 : Int32} {p : Int32 × HP} (h : f_BA_seed hp a1 = some p) : MI G y_BA_seed Y_BA_seed .int [.ref (gA G 0), .int a1] hp p.1 p.2 := MI_of rfl (fun Z hz X hR => by subst hz; exact T_BA_seed X h hR)
theorem d_BA_keep_0 : decode prog_1_method_32_code 0 = .ok (.iload_n 1, 1) := by decide +kernel
theorem d_BA_keep_1 : decode prog_1_method_32_code 1 = .ok (.iconst 0, 1) := by decide +kernel
theorem d_BA_keep_2 : decode prog_1_method_32_code 2 = .ok (.iconst 1, 1) := by decide +kernel
theorem d_BA_keep_3 : decode prog_1_method_32_code 3 = .ok (.invokestatic 73, 3) := by decide +kernel
theorem d_BA_keep_6 : decode prog_1_method_32_code 6 = .ok (.ifCond .ne (6), 3) := by decide +kernel
theorem d_BA_keep_9 : decode prog_1_method_32_code 9 = .ok (.ldc 144, 2) := by decide +kernel
theorem d_BA_keep_11 : decode prog_1_method_32_code 11 = .ok (.ireturn, 1) := by decide +kernel
theorem d_BA_keep_12 : decode prog_1_method_32_code 12 = .ok (.aload_n 0, 1) := by decide +kernel
theorem d_BA_keep_13 : decode prog_1_method_32_code 13 = .ok (.getfield 44, 3) := by decide +kernel
theorem d_BA_keep_16 : decode prog_1_method_32_code 16 = .ok (.iload_n 1, 1) := by decide +kernel
theorem d_BA_keep_17 : decode prog_1_method_32_code 17 = .ok (.aaload, 1) := by decide +kernel
theorem d_BA_keep_18 : decode prog_1_method_32_code 18 = .ok (.aload_n 0, 1) := by decide +kernel
theorem d_BA_keep_19 : decode prog_1_method_32_code 19 = .ok (.getfield 19, 3) := by decide +kernel
theorem d_BA_keep_22 : decode prog_1_method_32_code 22 = .ok (.invokevirtual 267, 3) := by decide +kernel
theorem d_BA_keep_25 : decode prog_1_method_32_code 25 = .ok (.aload_n 0, 1) := by decide +kernel
theorem d_BA_keep_26 : decode prog_1_method_32_code 26 = .ok (.getfield 48, 3) := by decide +kernel
theorem d_BA_keep_29 : decode prog_1_method_32_code 29 = .ok (.iload_n 1, 1) := by decide +kernel
theorem d_BA_keep_30 : decode prog_1_method_32_code 30 = .ok (.aload_n 0, 1) := by decide +kernel
theorem d_BA_keep_31 : decode prog_1_method_32_code 31 = .ok (.getfield 70, 3) := by decide +kernel
theorem d_BA_keep_34 : decode prog_1_method_32_code 34 = .ok (.iastore, 1) := by decide +kernel
theorem d_BA_keep_35 : decode prog_1_method_32_code 35 = .ok (.aload_n 0, 1) := by decide +kernel
theorem d_BA_keep_36 : decode prog_1_method_32_code 36 = .ok (.getfield 52, 3) := by decide +kernel
theorem d_BA_keep_39 : decode prog_1_method_32_code 39 = .ok (.iload_n 1, 1) := by decide +kernel
theorem d_BA_keep_40 : decode prog_1_method_32_code 40 = .ok (.iconst 1, 1) := by decide +kernel
theorem d_BA_keep_41 : decode prog_1_method_32_code 41 = .ok (.bastore, 1) := by decide +kernel
theorem d_BA_keep_42 : decode prog_1_method_32_code 42 = .ok (.aload_n 0, 1) := by decide +kernel
theorem d_BA_keep_43 : decode prog_1_method_32_code 43 = .ok (.getfield 26, 3) := by decide +kernel
theorem d_BA_keep_46 : decode prog_1_method_32_code 46 = .ok (.invokevirtual 95, 3) := by decide +kernel
theorem d_BA_keep_49 : decode prog_1_method_32_code 49 = .ok (.iconst 1, 1) := by decide +kernel
theorem d_BA_keep_50 : decode prog_1_method_32_code 50 = .ok (.ireturn, 1) := by decide +kernel
set_option maxRecDepth 20000 in
set_option maxHeartbeats 2000000 in
theorem T_BA_keep {Z : ZT} (X : CX Z Y_BA_keep) {hp : HP} {a1 : Int32} {p : Int32 × HP} (h : f_BA_keep hp a1 = some p) (hR : RetI Z Y_BA_keep .int p.1 p.2) : V Z Y_BA_keep hp 0 [(0, .ref (gA (zG Z) 0)), (1, .int a1)] [] := by
  unfold f_BA_keep at h
  refine R_iload_n X 1 d_BA_keep_0 rfl ?_
  refine R_iconst (v := (0 : Int32)) X d_BA_keep_1 rfl ?_
  refine R_iconst (v := (1 : Int32)) X d_BA_keep_2 rfl ?_
  obtain ⟨p2, e1, h⟩ := ob h
  refine R_scall (As := [.int a1, .int (0 : Int32), .int (1 : Int32)]) (st := []) X (M_BA_within e1) tw_275 cf_BA_within rfl rfl rfl d_BA_keep_3 ?_
  refine R_ifne (tgt := 12) X d_BA_keep_6 rfl (fun c3 => ?_) (fun c3 => ?_)
  · replace h := (if_neg c3).symm.trans h
    refine R_aload_n X 0 d_BA_keep_12 rfl ?_
    refine R_getR (ci := 6) X rfl iBA_ok (of_decide_eq_true rfl) rfl 5 rfl rfl tw_239 d_BA_keep_13 ?_
    refine R_iload_n X 1 d_BA_keep_16 rfl ?_
    obtain ⟨i4, h⟩ := ck h
    refine R_aald (n := 2) X (of_decide_eq_true rfl) rfl i4 d_BA_keep_17 ?_
    obtain ⟨b5, h⟩ := ck h
    refine R_aload_n X 0 d_BA_keep_18 rfl ?_
    refine V_pc (pc' := 19) rfl ?_
    refine R_getR (ci := 6) X rfl iBA_ok (of_decide_eq_true rfl) rfl 1 rfl rfl tw_235 d_BA_keep_19 ?_
    obtain ⟨p7, e6, h⟩ := ob h
    refine R_vcallv (ci := 5) (k := (78 + 1 + 3 * (a1).toNatClampNeg)) (As := [.ref (gA (zG Z) 3)]) (st := []) X (M_St_copyFrom b5 rfl e6) tw_660 cf_St_copyFrom (S_all _ b5).1.1 (S_all _ b5).1.2 rfl rfl rfl rfl d_BA_keep_22 ?_
    refine R_aload_n X 0 d_BA_keep_25 rfl ?_
    refine R_getR (ci := 6) X rfl iBA_ok (of_decide_eq_true rfl) rfl 6 rfl rfl tw_240 d_BA_keep_26 ?_
    refine R_iload_n X 1 d_BA_keep_29 rfl ?_
    refine R_aload_n X 0 d_BA_keep_30 rfl ?_
    refine V_pc (pc' := 31) rfl ?_
    refine R_getI (ci := 6) X rfl iBA_ok (of_decide_eq_true rfl) rfl 11 rfl rfl tw_245 d_BA_keep_31 ?_
    refine R_iast (n := 2) X (of_decide_eq_true rfl) rfl i4 d_BA_keep_34 ?_
    refine R_aload_n X 0 d_BA_keep_35 rfl ?_
    refine R_getR (ci := 6) X rfl iBA_ok (of_decide_eq_true rfl) rfl 7 rfl rfl tw_241 d_BA_keep_36 ?_
    refine R_iload_n X 1 d_BA_keep_39 rfl ?_
    refine R_iconst (v := (1 : Int32)) X d_BA_keep_40 rfl ?_
    refine V_pc (pc' := 41) rfl ?_
    refine R_zast (n := 2) X (of_decide_eq_true rfl) rfl i4 d_BA_keep_41 ?_
    refine R_aload_n X 0 d_BA_keep_42 rfl ?_
    refine R_getR (ci := 6) X rfl iBA_ok (of_decide_eq_true rfl) rfl 2 rfl rfl tw_236 d_BA_keep_43 ?_
    obtain ⟨p9, e8, h⟩ := ob h
    refine R_vcallv (ci := 1) (k := 6) (As := []) (st := []) X (M_Pa_clear e8) tw_355 cf_Pa_clear (of_decide_eq_true rfl) rfl rfl rfl rfl rfl d_BA_keep_46 ?_
    refine R_iconst (v := (1 : Int32)) X d_BA_keep_49 rfl ?_
    exact R_ret hR h d_BA_keep_50
  · replace h := (if_pos c3).symm.trans h
    refine R_ldc (v := (-1000000001 : Int32)) X tw_414 d_BA_keep_9 ?_
    exact R_ret hR h d_BA_keep_11
theorem M_BA_keep {G : GT} {hp : HP} {a1 : Int32} {p : Int32 × HP} (h : f_BA_keep hp a1 = some p) : MI G y_BA_keep Y_BA_keep .int [.ref (gA G 0), .int a1] hp p.1 p.2 := MI_of rfl (fun Z hz X hR => by subst hz; exact T_BA_keep X h hR)
theorem d_BA_goBack_0 : decode prog_1_method_33_code 0 = .ok (.iload_n 1, 1) := by decide +kernel
theorem d_BA_goBack_1 : decode prog_1_method_33_code 1 = .ok (.iconst 0, 1) := by decide +kernel
theorem d_BA_goBack_2 : decode prog_1_method_33_code 2 = .ok (.iconst 1, 1) := by decide +kernel
theorem d_BA_goBack_3 : decode prog_1_method_33_code 3 = .ok (.invokestatic 73, 3) := by decide +kernel
theorem d_BA_goBack_6 : decode prog_1_method_33_code 6 = .ok (.ifCond .ne (6), 3) := by decide +kernel
theorem d_BA_goBack_9 : decode prog_1_method_33_code 9 = .ok (.ldc 144, 2) := by decide +kernel
theorem d_BA_goBack_11 : decode prog_1_method_33_code 11 = .ok (.ireturn, 1) := by decide +kernel
theorem d_BA_goBack_12 : decode prog_1_method_33_code 12 = .ok (.aload_n 0, 1) := by decide +kernel
theorem d_BA_goBack_13 : decode prog_1_method_33_code 13 = .ok (.getfield 52, 3) := by decide +kernel
theorem d_BA_goBack_16 : decode prog_1_method_33_code 16 = .ok (.iload_n 1, 1) := by decide +kernel
theorem d_BA_goBack_17 : decode prog_1_method_33_code 17 = .ok (.baload, 1) := by decide +kernel
theorem d_BA_goBack_18 : decode prog_1_method_33_code 18 = .ok (.ifCond .ne (6), 3) := by decide +kernel
theorem d_BA_goBack_21 : decode prog_1_method_33_code 21 = .ok (.ldc 183, 2) := by decide +kernel
theorem d_BA_goBack_23 : decode prog_1_method_33_code 23 = .ok (.ireturn, 1) := by decide +kernel
theorem d_BA_goBack_24 : decode prog_1_method_33_code 24 = .ok (.aload_n 0, 1) := by decide +kernel
theorem d_BA_goBack_25 : decode prog_1_method_33_code 25 = .ok (.getfield 19, 3) := by decide +kernel
theorem d_BA_goBack_28 : decode prog_1_method_33_code 28 = .ok (.aload_n 0, 1) := by decide +kernel
theorem d_BA_goBack_29 : decode prog_1_method_33_code 29 = .ok (.getfield 44, 3) := by decide +kernel
theorem d_BA_goBack_32 : decode prog_1_method_33_code 32 = .ok (.iload_n 1, 1) := by decide +kernel
theorem d_BA_goBack_33 : decode prog_1_method_33_code 33 = .ok (.aaload, 1) := by decide +kernel
theorem d_BA_goBack_34 : decode prog_1_method_33_code 34 = .ok (.invokevirtual 267, 3) := by decide +kernel
theorem d_BA_goBack_37 : decode prog_1_method_33_code 37 = .ok (.aload_n 0, 1) := by decide +kernel
theorem d_BA_goBack_38 : decode prog_1_method_33_code 38 = .ok (.aload_n 0, 1) := by decide +kernel
theorem d_BA_goBack_39 : decode prog_1_method_33_code 39 = .ok (.getfield 48, 3) := by decide +kernel
theorem d_BA_goBack_42 : decode prog_1_method_33_code 42 = .ok (.iload_n 1, 1) := by decide +kernel
theorem d_BA_goBack_43 : decode prog_1_method_33_code 43 = .ok (.iaload, 1) := by decide +kernel
theorem d_BA_goBack_44 : decode prog_1_method_33_code 44 = .ok (.putfield 70, 3) := by decide +kernel
theorem d_BA_goBack_47 : decode prog_1_method_33_code 47 = .ok (.aload_n 0, 1) := by decide +kernel
theorem d_BA_goBack_48 : decode prog_1_method_33_code 48 = .ok (.getfield 26, 3) := by decide +kernel
theorem d_BA_goBack_51 : decode prog_1_method_33_code 51 = .ok (.invokevirtual 95, 3) := by decide +kernel
theorem d_BA_goBack_54 : decode prog_1_method_33_code 54 = .ok (.iconst 1, 1) := by decide +kernel
theorem d_BA_goBack_55 : decode prog_1_method_33_code 55 = .ok (.ireturn, 1) := by decide +kernel
set_option maxRecDepth 20000 in
set_option maxHeartbeats 2000000 in
theorem T_BA_goBack {Z : ZT} (X : CX Z Y_BA_goBack) {hp : HP} {a1 : Int32} {p : Int32 × HP} (h : f_BA_goBack hp a1 = some p) (hR : RetI Z Y_BA_goBack .int p.1 p.2) : V Z Y_BA_goBack hp 0 [(0, .ref (gA (zG Z) 0)), (1, .int a1)] [] := by
  unfold f_BA_goBack at h
  refine R_iload_n X 1 d_BA_goBack_0 rfl ?_
  refine R_iconst (v := (0 : Int32)) X d_BA_goBack_1 rfl ?_
  refine R_iconst (v := (1 : Int32)) X d_BA_goBack_2 rfl ?_
  obtain ⟨p2, e1, h⟩ := ob h
  refine R_scall (As := [.int a1, .int (0 : Int32), .int (1 : Int32)]) (st := []) X (M_BA_within e1) tw_275 cf_BA_within rfl rfl rfl d_BA_goBack_3 ?_
  refine R_ifne (tgt := 12) X d_BA_goBack_6 rfl (fun c3 => ?_) (fun c3 => ?_)
  · replace h := (if_neg c3).symm.trans h
    refine R_aload_n X 0 d_BA_goBack_12 rfl ?_
    refine R_getR (ci := 6) X rfl iBA_ok (of_decide_eq_true rfl) rfl 7 rfl rfl tw_241 d_BA_goBack_13 ?_
    refine R_iload_n X 1 d_BA_goBack_16 rfl ?_
    obtain ⟨i4, h⟩ := ck h
    refine R_zald (n := 2) X (of_decide_eq_true rfl) rfl i4 d_BA_goBack_17 ?_
    refine R_ifne (tgt := 24) X d_BA_goBack_18 rfl (fun c5 => ?_) (fun c5 => ?_)
    · replace h := (if_neg c5).symm.trans h
      refine R_aload_n X 0 d_BA_goBack_24 rfl ?_
      refine R_getR (ci := 6) X rfl iBA_ok (of_decide_eq_true rfl) rfl 1 rfl rfl tw_235 d_BA_goBack_25 ?_
      refine R_aload_n X 0 d_BA_goBack_28 rfl ?_
      refine R_getR (ci := 6) X rfl iBA_ok (of_decide_eq_true rfl) rfl 5 rfl rfl tw_239 d_BA_goBack_29 ?_
      refine R_iload_n X 1 d_BA_goBack_32 rfl ?_
      refine V_pc (pc' := 33) rfl ?_
      refine R_aald (n := 2) X (of_decide_eq_true rfl) rfl i4 d_BA_goBack_33 ?_
      obtain ⟨b6, h⟩ := ck h
      obtain ⟨p8, e7, h⟩ := ob h
      refine R_vcallv (ci := 5) (k := 3) (As := [.ref (gA (zG Z) (78 + 1 + 3 * (a1).toNatClampNeg))]) (st := []) X (M_St_copyFrom rfl b6 e7) tw_660 cf_St_copyFrom (of_decide_eq_true rfl) rfl rfl rfl rfl rfl d_BA_goBack_34 ?_
      refine R_aload_n X 0 d_BA_goBack_37 rfl ?_
      refine R_aload_n X 0 d_BA_goBack_38 rfl ?_
      refine R_getR (ci := 6) X rfl iBA_ok (of_decide_eq_true rfl) rfl 6 rfl rfl tw_240 d_BA_goBack_39 ?_
      refine R_iload_n X 1 d_BA_goBack_42 rfl ?_
      refine V_pc (pc' := 43) rfl ?_
      refine R_iald (n := 2) X (of_decide_eq_true rfl) rfl i4 d_BA_goBack_43 ?_
      refine R_putI (ci := 6) X rfl iBA_ok yBA_ok nBA_ok (of_decide_eq_true rfl) rfl 11 rfl rfl rfl rfl tw_245 d_BA_goBack_44 ?_
      refine R_aload_n X 0 d_BA_goBack_47 rfl ?_
      refine R_getR (ci := 6) X rfl iBA_ok (of_decide_eq_true rfl) rfl 2 rfl rfl tw_236 d_BA_goBack_48 ?_
      obtain ⟨p10, e9, h⟩ := ob h
      refine R_vcallv (ci := 1) (k := 6) (As := []) (st := []) X (M_Pa_clear e9) tw_355 cf_Pa_clear (of_decide_eq_true rfl) rfl rfl rfl rfl rfl d_BA_goBack_51 ?_
      refine R_iconst (v := (1 : Int32)) X d_BA_goBack_54 rfl ?_
      refine V_pc (pc' := 55) rfl ?_
      exact R_ret hR h d_BA_goBack_55
    · replace h := (if_pos c5).symm.trans h
      refine R_ldc (v := (-1000000003 : Int32)) X tw_456 d_BA_goBack_21 ?_
      exact R_ret hR h d_BA_goBack_23
  · replace h := (if_pos c3).symm.trans h
    refine R_ldc (v := (-1000000001 : Int32)) X tw_414 d_BA_goBack_9 ?_
    exact R_ret hR h d_BA_goBack_11
theorem M_BA_goBack {G : GT} {hp : HP} {a1 : Int32} {p : Int32 × HP} (h : f_BA_goBack hp a1 = some p) : MI G y_BA_goBack Y_BA_goBack .int [.ref (gA G 0), .int a1] hp p.1 p.2 := MI_of rfl (fun Z hz X hR => by subst hz; exact T_BA_goBack X h hR)
theorem d_Mo_in_0 : decode prog_9_method_3_code 0 = .ok (.lload_n 0, 1) := by decide +kernel
theorem d_Mo_in_1 : decode prog_9_method_3_code 1 = .ok (.lload_n 2, 1) := by decide +kernel
theorem d_Mo_in_2 : decode prog_9_method_3_code 2 = .ok (.lcmp, 1) := by decide +kernel
theorem d_Mo_in_3 : decode prog_9_method_3_code 3 = .ok (.ifCond .lt (14), 3) := by decide +kernel
theorem d_Mo_in_6 : decode prog_9_method_3_code 6 = .ok (.lload_n 0, 1) := by decide +kernel
theorem d_Mo_in_7 : decode prog_9_method_3_code 7 = .ok (.lload 4, 2) := by decide +kernel
theorem d_Mo_in_9 : decode prog_9_method_3_code 9 = .ok (.lcmp, 1) := by decide +kernel
theorem d_Mo_in_10 : decode prog_9_method_3_code 10 = .ok (.ifCond .gt (7), 3) := by decide +kernel
theorem d_Mo_in_13 : decode prog_9_method_3_code 13 = .ok (.iconst 1, 1) := by decide +kernel
theorem d_Mo_in_14 : decode prog_9_method_3_code 14 = .ok (.goto (4), 3) := by decide +kernel
theorem d_Mo_in_17 : decode prog_9_method_3_code 17 = .ok (.iconst 0, 1) := by decide +kernel
theorem d_Mo_in_18 : decode prog_9_method_3_code 18 = .ok (.ireturn, 1) := by decide +kernel
set_option maxRecDepth 20000 in
set_option maxHeartbeats 2000000 in
theorem T_Mo_in {Z : ZT} (X : CX Z Y_Mo_in) {hp : HP} {a0 : Int64} {a1 : Int64} {a2 : Int64} {p : Int32 × HP} (h : f_Mo_in hp a0 a1 a2 = some p) (hR : RetI Z Y_Mo_in .boolean p.1 p.2) : V Z Y_Mo_in hp 0 [(0, .long a0), (2, .long a1), (4, .long a2)] [] := by
  unfold f_Mo_in at h
  refine R_lload_n X 0 d_Mo_in_0 rfl ?_
  refine R_lload_n X 1 d_Mo_in_1 rfl ?_
  refine R_lcmp X d_Mo_in_2 ?_
  refine R_iflt (tgt := 17) X d_Mo_in_3 rfl (fun c1 => ?_) (fun c1 => ?_)
  · replace h := (if_pos c1).symm.trans h
    refine R_iconst (v := (0 : Int32)) X d_Mo_in_17 rfl ?_
    exact R_retc hR (by decide) h d_Mo_in_18
  · replace h := (if_neg c1).symm.trans h
    refine R_lload_n X 0 d_Mo_in_6 rfl ?_
    refine R_lload X 2 d_Mo_in_7 rfl ?_
    refine R_lcmp X d_Mo_in_9 ?_
    refine R_ifgt (tgt := 17) X d_Mo_in_10 rfl (fun c2 => ?_) (fun c2 => ?_)
    · replace h := (if_pos c2).symm.trans h
      refine R_iconst (v := (0 : Int32)) X d_Mo_in_17 rfl ?_
      exact R_retc hR (by decide) h d_Mo_in_18
    · replace h := (if_neg c2).symm.trans h
      refine R_iconst (v := (1 : Int32)) X d_Mo_in_13 rfl ?_
      refine R_goto (tgt := 18) X d_Mo_in_14 rfl ?_
      exact R_retc hR (by decide) h d_Mo_in_18
theorem M_Mo_in {G : GT} {hp : HP} {a0 : Int64} {a1 : Int64} {a2 : Int64} {p : Int32 × HP} (h : f_Mo_in hp a0 a1 a2 = some p) : MI G y_Mo_in Y_Mo_in .boolean [.long a0, .long a1, .long a2] hp p.1 p.2 := MI_of rfl (fun Z hz X hR => by subst hz; exact T_Mo_in X h hR)
theorem d_Mo_isIn_0 : decode prog_9_method_4_code 0 = .ok (.iload_n 0, 1) := by decide +kernel
theorem d_Mo_isIn_1 : decode prog_9_method_4_code 1 = .ok (.iload_n 1, 1) := by decide +kernel
theorem d_Mo_isIn_2 : decode prog_9_method_4_code 2 = .ok (.ishr, 1) := by decide +kernel
theorem d_Mo_isIn_3 : decode prog_9_method_4_code 3 = .ok (.iconst 1, 1) := by decide +kernel
theorem d_Mo_isIn_4 : decode prog_9_method_4_code 4 = .ok (.iand, 1) := by decide +kernel
theorem d_Mo_isIn_5 : decode prog_9_method_4_code 5 = .ok (.iconst 1, 1) := by decide +kernel
theorem d_Mo_isIn_6 : decode prog_9_method_4_code 6 = .ok (.if_icmp .ne (7), 3) := by decide +kernel
theorem d_Mo_isIn_9 : decode prog_9_method_4_code 9 = .ok (.iconst 1, 1) := by decide +kernel
theorem d_Mo_isIn_10 : decode prog_9_method_4_code 10 = .ok (.goto (4), 3) := by decide +kernel
theorem d_Mo_isIn_13 : decode prog_9_method_4_code 13 = .ok (.iconst 0, 1) := by decide +kernel
theorem d_Mo_isIn_14 : decode prog_9_method_4_code 14 = .ok (.ireturn, 1) := by decide +kernel
set_option maxRecDepth 20000 in
set_option maxHeartbeats 2000000 in
theorem T_Mo_isIn {Z : ZT} (X : CX Z Y_Mo_isIn) {hp : HP} {a0 : Int32} {a1 : Int32} {p : Int32 × HP} (h : f_Mo_isIn hp a0 a1 = some p) (hR : RetI Z Y_Mo_isIn .boolean p.1 p.2) : V Z Y_Mo_isIn hp 0 [(0, .int a0), (1, .int a1)] [] := by
  unfold f_Mo_isIn at h
  refine R_iload_n X 0 d_Mo_isIn_0 rfl ?_
  refine R_iload_n X 1 d_Mo_isIn_1 rfl ?_
  refine R_ishr X d_Mo_isIn_2 ?_
  refine R_iconst (v := (1 : Int32)) X d_Mo_isIn_3 rfl ?_
  refine R_iand X d_Mo_isIn_4 ?_
  refine V_pc (pc' := 5) rfl ?_
  refine R_iconst (v := (1 : Int32)) X d_Mo_isIn_5 rfl ?_
  refine R_icmp_ne (tgt := 13) X d_Mo_isIn_6 rfl (fun c1 => ?_) (fun c1 => ?_)
  · replace h := (if_neg c1).symm.trans h
    refine R_iconst (v := (0 : Int32)) X d_Mo_isIn_13 rfl ?_
    exact R_retc hR (by decide) h d_Mo_isIn_14
  · replace h := (if_pos c1).symm.trans h
    refine R_iconst (v := (1 : Int32)) X d_Mo_isIn_9 rfl ?_
    refine R_goto (tgt := 14) X d_Mo_isIn_10 rfl ?_
    exact R_retc hR (by decide) h d_Mo_isIn_14
theorem M_Mo_isIn {G : GT} {hp : HP} {a0 : Int32} {a1 : Int32} {p : Int32 × HP} (h : f_Mo_isIn hp a0 a1 = some p) : MI G y_Mo_isIn Y_Mo_isIn .boolean [.int a0, .int a1] hp p.1 p.2 := MI_of rfl (fun Z hz X hR => by subst hz; exact T_Mo_isIn X h hR)
theorem d_Mo_copy_0 : decode prog_9_method_5_code 0 = .ok (.iconst 0, 1) := by decide +kernel
theorem d_Mo_copy_1 : decode prog_9_method_5_code 1 = .ok (.istore_n 3, 1) := by decide +kernel
theorem d_Mo_copy_2 : decode prog_9_method_5_code 2 = .ok (.iload_n 3, 1) := by decide +kernel
theorem d_Mo_copy_3 : decode prog_9_method_5_code 3 = .ok (.bipush (32), 2) := by decide +kernel
theorem d_Mo_copy_5 : decode prog_9_method_5_code 5 = .ok (.if_icmp .ge (25), 3) := by decide +kernel
theorem d_Mo_copy_8 : decode prog_9_method_5_code 8 = .ok (.aload_n 0, 1) := by decide +kernel
theorem d_Mo_copy_9 : decode prog_9_method_5_code 9 = .ok (.getfield 7, 3) := by decide +kernel
theorem d_Mo_copy_12 : decode prog_9_method_5_code 12 = .ok (.iload_n 2, 1) := by decide +kernel
theorem d_Mo_copy_13 : decode prog_9_method_5_code 13 = .ok (.iload_n 3, 1) := by decide +kernel
theorem d_Mo_copy_14 : decode prog_9_method_5_code 14 = .ok (.iadd, 1) := by decide +kernel
theorem d_Mo_copy_15 : decode prog_9_method_5_code 15 = .ok (.aload_n 0, 1) := by decide +kernel
theorem d_Mo_copy_16 : decode prog_9_method_5_code 16 = .ok (.getfield 7, 3) := by decide +kernel
theorem d_Mo_copy_19 : decode prog_9_method_5_code 19 = .ok (.iload_n 1, 1) := by decide +kernel
theorem d_Mo_copy_20 : decode prog_9_method_5_code 20 = .ok (.iload_n 3, 1) := by decide +kernel
theorem d_Mo_copy_21 : decode prog_9_method_5_code 21 = .ok (.iadd, 1) := by decide +kernel
theorem d_Mo_copy_22 : decode prog_9_method_5_code 22 = .ok (.iaload, 1) := by decide +kernel
theorem d_Mo_copy_23 : decode prog_9_method_5_code 23 = .ok (.iastore, 1) := by decide +kernel
theorem d_Mo_copy_24 : decode prog_9_method_5_code 24 = .ok (.iinc 3 (1), 3) := by decide +kernel
theorem d_Mo_copy_27 : decode prog_9_method_5_code 27 = .ok (.goto (-25), 3) := by decide +kernel
theorem d_Mo_copy_30 : decode prog_9_method_5_code 30 = .ok (.return_, 1) := by decide +kernel
set_option maxRecDepth 20000 in
set_option maxHeartbeats 2000000 in
theorem T_Mo_copy_L2 {Z : ZT} (X : CX Z Y_Mo_copy) {v1 : Int32} {v2 : Int32} {p : Int32 × HP} (hR : RetV Z Y_Mo_copy p.2) {K : HP → Option (Int32 × HP)} (hK : ∀ (hp : HP), K hp = some p → V Z Y_Mo_copy hp 30 [] []) : ∀ (n : Nat) (hp : HP) (x3 : Int32), f_Mo_copy_L2 v1 v2 K n hp x3 = some p → V Z Y_Mo_copy hp 2 [(0, .ref (gA (zG Z) 99)), (1, .int v1), (2, .int v2), (3, .int x3)] [] := by
  intro n
  induction n with
  | zero =>
    intro hp x3 h
    cases h
  | succ n ih =>
    intro hp x3 h
    replace h : f_Mo_copy_L2 v1 v2 K (n + 1) hp x3 = some p := h
    unfold f_Mo_copy_L2 at h
    refine R_iload_n X 3 d_Mo_copy_2 rfl ?_
    refine R_bipush (v := (32 : Int32)) X d_Mo_copy_3 rfl ?_
    refine R_icmp_ge (tgt := 30) X d_Mo_copy_5 rfl (fun c1 => ?_) (fun c1 => ?_)
    · replace h := (if_pos c1).symm.trans h
      refine V_pc (pc' := 30) rfl (R_loc (L' := []) [] rfl ?_)
      exact hK hp h
    · replace h := (if_neg c1).symm.trans h
      refine R_aload_n X 0 d_Mo_copy_8 rfl ?_
      refine R_getR (ci := 7) X rfl iMo_ok (of_decide_eq_true rfl) rfl 0 rfl rfl tw_671 d_Mo_copy_9 ?_
      refine R_iload_n X 2 d_Mo_copy_12 rfl ?_
      refine R_iload_n X 3 d_Mo_copy_13 rfl ?_
      refine R_iadd X d_Mo_copy_14 ?_
      refine V_pc (pc' := 15) rfl ?_
      refine R_aload_n X 0 d_Mo_copy_15 rfl ?_
      refine R_getR (ci := 7) X rfl iMo_ok (of_decide_eq_true rfl) rfl 0 rfl rfl tw_671 d_Mo_copy_16 ?_
      refine R_iload_n X 1 d_Mo_copy_19 rfl ?_
      refine R_iload_n X 3 d_Mo_copy_20 rfl ?_
      refine R_iadd X d_Mo_copy_21 ?_
      obtain ⟨i2, h⟩ := ck h
      refine R_iald (n := 736) X (of_decide_eq_true rfl) rfl i2 d_Mo_copy_22 ?_
      refine V_pc (pc' := 23) rfl ?_
      obtain ⟨i3, h⟩ := ck h
      refine R_iast (n := 736) X (of_decide_eq_true rfl) rfl i3 d_Mo_copy_23 ?_
      refine R_iinc (v := (x3 + 1)) (L' := [(3, .int (x3 + 1)), (0, .ref (gA (zG Z) 99)), (1, .int v1), (2, .int v2)]) X 3 d_Mo_copy_24 rfl rfl (by decide) rfl ?_
      refine R_goto (tgt := 2) X d_Mo_copy_27 rfl ?_
      refine V_pc (pc' := 2) rfl (R_loc (L' := [(0, .ref (gA (zG Z) 99)), (1, .int v1), (2, .int v2), (3, .int (x3 + 1))]) [1, 2, 3, 0] rfl ?_)
      exact ih (up hp 100 ((v2 + x3)).toNatClampNeg (hp 100 ((v1 + x3)).toNatClampNeg)) (x3 + 1) h
set_option maxRecDepth 20000 in
set_option maxHeartbeats 2000000 in
theorem T_Mo_copy {Z : ZT} (X : CX Z Y_Mo_copy) {hp : HP} {a1 : Int32} {a2 : Int32} {p : Int32 × HP} (h : f_Mo_copy hp a1 a2 = some p) (hR : RetV Z Y_Mo_copy p.2) : V Z Y_Mo_copy hp 0 [(0, .ref (gA (zG Z) 99)), (1, .int a1), (2, .int a2)] [] := by
  unfold f_Mo_copy at h
  refine R_iconst (v := (0 : Int32)) X d_Mo_copy_0 rfl ?_
  refine R_istore_n (L' := [(3, .int (0 : Int32)), (0, .ref (gA (zG Z) 99)), (1, .int a1), (2, .int a2)]) X d_Mo_copy_1 (by decide) rfl ?_
  refine V_pc (pc' := 2) rfl (R_loc (L' := [(0, .ref (gA (zG Z) 99)), (1, .int a1), (2, .int a2), (3, .int (0 : Int32))]) [1, 2, 3, 0] rfl ?_)
  refine T_Mo_copy_L2 X hR (fun hp4 h => ?_) _ hp (0 : Int32) h
  exact R_retv hR h d_Mo_copy_30
theorem M_Mo_copy {G : GT} {hp : HP} {a1 : Int32} {a2 : Int32} {p : Int32 × HP} (h : f_Mo_copy hp a1 a2 = some p) : MV G y_Mo_copy Y_Mo_copy [.ref (gA G 99), .int a1, .int a2] hp p.2 := MV_of rfl (fun Z hz X hR => by subst hz; exact T_Mo_copy X h hR)
theorem d_Mo_isPart_0 : decode prog_9_method_6_code 0 = .ok (.iload_n 1, 1) := by decide +kernel
theorem d_Mo_isPart_1 : decode prog_9_method_6_code 1 = .ok (.i2l, 1) := by decide +kernel
theorem d_Mo_isPart_2 : decode prog_9_method_6_code 2 = .ok (.lconst 0, 1) := by decide +kernel
theorem d_Mo_isPart_3 : decode prog_9_method_6_code 3 = .ok (.aload_n 0, 1) := by decide +kernel
theorem d_Mo_isPart_4 : decode prog_9_method_6_code 4 = .ok (.getfield 69, 3) := by decide +kernel
theorem d_Mo_isPart_7 : decode prog_9_method_6_code 7 = .ok (.iconst 1, 1) := by decide +kernel
theorem d_Mo_isPart_8 : decode prog_9_method_6_code 8 = .ok (.isub, 1) := by decide +kernel
theorem d_Mo_isPart_9 : decode prog_9_method_6_code 9 = .ok (.i2l, 1) := by decide +kernel
theorem d_Mo_isPart_10 : decode prog_9_method_6_code 10 = .ok (.invokestatic 72, 3) := by decide +kernel
theorem d_Mo_isPart_13 : decode prog_9_method_6_code 13 = .ok (.ireturn, 1) := by decide +kernel
set_option maxRecDepth 20000 in
set_option maxHeartbeats 2000000 in
theorem T_Mo_isPart {Z : ZT} (X : CX Z Y_Mo_isPart) {hp : HP} {a1 : Int32} {p : Int32 × HP} (h : f_Mo_isPart hp a1 = some p) (hR : RetI Z Y_Mo_isPart .boolean p.1 p.2) : V Z Y_Mo_isPart hp 0 [(0, .ref (gA (zG Z) 99)), (1, .int a1)] [] := by
  unfold f_Mo_isPart at h
  refine R_iload_n X 1 d_Mo_isPart_0 rfl ?_
  refine R_i2l X d_Mo_isPart_1 ?_
  refine R_lconst (v := (0 : Int64)) X d_Mo_isPart_2 rfl ?_
  refine R_aload_n X 0 d_Mo_isPart_3 rfl ?_
  refine R_getI (ci := 7) X rfl iMo_ok (of_decide_eq_true rfl) rfl 3 rfl rfl tw_674 d_Mo_isPart_4 ?_
  refine V_pc (pc' := 7) rfl ?_
  refine R_iconst (v := (1 : Int32)) X d_Mo_isPart_7 rfl ?_
  refine R_isub X d_Mo_isPart_8 ?_
  refine R_i2l X d_Mo_isPart_9 ?_
  obtain ⟨p2, e1, h⟩ := ob h
  refine R_scall (As := [.long (a1).toInt64, .long (0 : Int64), .long (((hp 99 3) - (1 : Int32))).toInt64]) (st := []) X (M_Mo_in e1) tw_782 cf_Mo_in rfl rfl rfl d_Mo_isPart_10 ?_
  exact R_retz hR h d_Mo_isPart_13
theorem M_Mo_isPart {G : GT} {hp : HP} {a1 : Int32} {p : Int32 × HP} (h : f_Mo_isPart hp a1 = some p) : MI G y_Mo_isPart Y_Mo_isPart .boolean [.ref (gA G 99), .int a1] hp p.1 p.2 := MI_of rfl (fun Z hz X hR => by subst hz; exact T_Mo_isPart X h hR)
theorem d_Mo_isCustomer_0 : decode prog_9_method_7_code 0 = .ok (.iload_n 1, 1) := by decide +kernel
theorem d_Mo_isCustomer_1 : decode prog_9_method_7_code 1 = .ok (.i2l, 1) := by decide +kernel
theorem d_Mo_isCustomer_2 : decode prog_9_method_7_code 2 = .ok (.lconst 0, 1) := by decide +kernel
theorem d_Mo_isCustomer_3 : decode prog_9_method_7_code 3 = .ok (.aload_n 0, 1) := by decide +kernel
theorem d_Mo_isCustomer_4 : decode prog_9_method_7_code 4 = .ok (.getfield 76, 3) := by decide +kernel
theorem d_Mo_isCustomer_7 : decode prog_9_method_7_code 7 = .ok (.iconst 1, 1) := by decide +kernel
theorem d_Mo_isCustomer_8 : decode prog_9_method_7_code 8 = .ok (.isub, 1) := by decide +kernel
theorem d_Mo_isCustomer_9 : decode prog_9_method_7_code 9 = .ok (.i2l, 1) := by decide +kernel
theorem d_Mo_isCustomer_10 : decode prog_9_method_7_code 10 = .ok (.invokestatic 72, 3) := by decide +kernel
theorem d_Mo_isCustomer_13 : decode prog_9_method_7_code 13 = .ok (.ireturn, 1) := by decide +kernel
set_option maxRecDepth 20000 in
set_option maxHeartbeats 2000000 in
theorem T_Mo_isCustomer {Z : ZT} (X : CX Z Y_Mo_isCustomer) {hp : HP} {a1 : Int32} {p : Int32 × HP} (h : f_Mo_isCustomer hp a1 = some p) (hR : RetI Z Y_Mo_isCustomer .boolean p.1 p.2) : V Z Y_Mo_isCustomer hp 0 [(0, .ref (gA (zG Z) 99)), (1, .int a1)] [] := by
  unfold f_Mo_isCustomer at h
  refine R_iload_n X 1 d_Mo_isCustomer_0 rfl ?_
  refine R_i2l X d_Mo_isCustomer_1 ?_
  refine R_lconst (v := (0 : Int64)) X d_Mo_isCustomer_2 rfl ?_
  refine R_aload_n X 0 d_Mo_isCustomer_3 rfl ?_
  refine R_getI (ci := 7) X rfl iMo_ok (of_decide_eq_true rfl) rfl 5 rfl rfl tw_676 d_Mo_isCustomer_4 ?_
  refine V_pc (pc' := 7) rfl ?_
  refine R_iconst (v := (1 : Int32)) X d_Mo_isCustomer_7 rfl ?_
  refine R_isub X d_Mo_isCustomer_8 ?_
  refine R_i2l X d_Mo_isCustomer_9 ?_
  obtain ⟨p2, e1, h⟩ := ob h
  refine R_scall (As := [.long (a1).toInt64, .long (0 : Int64), .long (((hp 99 5) - (1 : Int32))).toInt64]) (st := []) X (M_Mo_in e1) tw_782 cf_Mo_in rfl rfl rfl d_Mo_isCustomer_10 ?_
  exact R_retz hR h d_Mo_isCustomer_13
theorem M_Mo_isCustomer {G : GT} {hp : HP} {a1 : Int32} {p : Int32 × HP} (h : f_Mo_isCustomer hp a1 = some p) : MI G y_Mo_isCustomer Y_Mo_isCustomer .boolean [.ref (gA G 99), .int a1] hp p.1 p.2 := MI_of rfl (fun Z hz X hR => by subst hz; exact T_Mo_isCustomer X h hR)
theorem d_Mo_areTwo_0 : decode prog_9_method_8_code 0 = .ok (.aload_n 0, 1) := by decide +kernel
theorem d_Mo_areTwo_1 : decode prog_9_method_8_code 1 = .ok (.iload_n 1, 1) := by decide +kernel
theorem d_Mo_areTwo_2 : decode prog_9_method_8_code 2 = .ok (.invokevirtual 79, 3) := by decide +kernel
theorem d_Mo_areTwo_5 : decode prog_9_method_8_code 5 = .ok (.ifCond .eq (20), 3) := by decide +kernel
theorem d_Mo_areTwo_8 : decode prog_9_method_8_code 8 = .ok (.aload_n 0, 1) := by decide +kernel
theorem d_Mo_areTwo_9 : decode prog_9_method_8_code 9 = .ok (.iload_n 2, 1) := by decide +kernel
theorem d_Mo_areTwo_10 : decode prog_9_method_8_code 10 = .ok (.invokevirtual 79, 3) := by decide +kernel
theorem d_Mo_areTwo_13 : decode prog_9_method_8_code 13 = .ok (.ifCond .eq (12), 3) := by decide +kernel
theorem d_Mo_areTwo_16 : decode prog_9_method_8_code 16 = .ok (.iload_n 1, 1) := by decide +kernel
theorem d_Mo_areTwo_17 : decode prog_9_method_8_code 17 = .ok (.iload_n 2, 1) := by decide +kernel
theorem d_Mo_areTwo_18 : decode prog_9_method_8_code 18 = .ok (.if_icmp .eq (7), 3) := by decide +kernel
theorem d_Mo_areTwo_21 : decode prog_9_method_8_code 21 = .ok (.iconst 1, 1) := by decide +kernel
theorem d_Mo_areTwo_22 : decode prog_9_method_8_code 22 = .ok (.goto (4), 3) := by decide +kernel
theorem d_Mo_areTwo_25 : decode prog_9_method_8_code 25 = .ok (.iconst 0, 1) := by decide +kernel
theorem d_Mo_areTwo_26 : decode prog_9_method_8_code 26 = .ok (.ireturn, 1) := by decide +kernel
set_option maxRecDepth 20000 in
set_option maxHeartbeats 2000000 in
theorem T_Mo_areTwo {Z : ZT} (X : CX Z Y_Mo_areTwo) {hp : HP} {a1 : Int32} {a2 : Int32} {p : Int32 × HP} (h : f_Mo_areTwo hp a1 a2 = some p) (hR : RetI Z Y_Mo_areTwo .boolean p.1 p.2) : V Z Y_Mo_areTwo hp 0 [(0, .ref (gA (zG Z) 99)), (1, .int a1), (2, .int a2)] [] := by
  unfold f_Mo_areTwo at h
  refine R_aload_n X 0 d_Mo_areTwo_0 rfl ?_
  refine R_iload_n X 1 d_Mo_areTwo_1 rfl ?_
  obtain ⟨p2, e1, h⟩ := ob h
  refine R_vcall (ci := 7) (k := 99) (As := [.int a1]) (st := []) X (M_Mo_isCustomer e1) tw_878 cf_Mo_isCustomer (of_decide_eq_true rfl) rfl rfl rfl rfl rfl d_Mo_areTwo_2 ?_
  refine R_ifeq (tgt := 25) X d_Mo_areTwo_5 rfl (fun c3 => ?_) (fun c3 => ?_)
  · replace h := (if_pos c3).symm.trans h
    refine R_iconst (v := (0 : Int32)) X d_Mo_areTwo_25 rfl ?_
    exact R_retc hR (by decide) h d_Mo_areTwo_26
  · replace h := (if_neg c3).symm.trans h
    refine R_aload_n X 0 d_Mo_areTwo_8 rfl ?_
    refine R_iload_n X 2 d_Mo_areTwo_9 rfl ?_
    obtain ⟨p5, e4, h⟩ := ob h
    refine R_vcall (ci := 7) (k := 99) (As := [.int a2]) (st := []) X (M_Mo_isCustomer e4) tw_878 cf_Mo_isCustomer (of_decide_eq_true rfl) rfl rfl rfl rfl rfl d_Mo_areTwo_10 ?_
    refine R_ifeq (tgt := 25) X d_Mo_areTwo_13 rfl (fun c6 => ?_) (fun c6 => ?_)
    · replace h := (if_pos c6).symm.trans h
      refine R_iconst (v := (0 : Int32)) X d_Mo_areTwo_25 rfl ?_
      exact R_retc hR (by decide) h d_Mo_areTwo_26
    · replace h := (if_neg c6).symm.trans h
      refine R_iload_n X 1 d_Mo_areTwo_16 rfl ?_
      refine R_iload_n X 2 d_Mo_areTwo_17 rfl ?_
      refine R_icmp_eq (tgt := 25) X d_Mo_areTwo_18 rfl (fun c7 => ?_) (fun c7 => ?_)
      · replace h := (if_pos c7).symm.trans h
        refine R_iconst (v := (0 : Int32)) X d_Mo_areTwo_25 rfl ?_
        exact R_retc hR (by decide) h d_Mo_areTwo_26
      · replace h := (if_neg c7).symm.trans h
        refine R_iconst (v := (1 : Int32)) X d_Mo_areTwo_21 rfl ?_
        refine R_goto (tgt := 26) X d_Mo_areTwo_22 rfl ?_
        exact R_retc hR (by decide) h d_Mo_areTwo_26
theorem M_Mo_areTwo {G : GT} {hp : HP} {a1 : Int32} {a2 : Int32} {p : Int32 × HP} (h : f_Mo_areTwo hp a1 a2 = some p) : MI G y_Mo_areTwo Y_Mo_areTwo .boolean [.ref (gA G 99), .int a1, .int a2] hp p.1 p.2 := MI_of rfl (fun Z hz X hR => by subst hz; exact T_Mo_areTwo X h hR)
theorem d_Mo_isTask_0 : decode prog_9_method_9_code 0 = .ok (.iload_n 1, 1) := by decide +kernel
theorem d_Mo_isTask_1 : decode prog_9_method_9_code 1 = .ok (.i2l, 1) := by decide +kernel
theorem d_Mo_isTask_2 : decode prog_9_method_9_code 2 = .ok (.lconst 0, 1) := by decide +kernel
theorem d_Mo_isTask_3 : decode prog_9_method_9_code 3 = .ok (.aload_n 0, 1) := by decide +kernel
theorem d_Mo_isTask_4 : decode prog_9_method_9_code 4 = .ok (.getfield 83, 3) := by decide +kernel
theorem d_Mo_isTask_7 : decode prog_9_method_9_code 7 = .ok (.iconst 1, 1) := by decide +kernel
theorem d_Mo_isTask_8 : decode prog_9_method_9_code 8 = .ok (.isub, 1) := by decide +kernel
theorem d_Mo_isTask_9 : decode prog_9_method_9_code 9 = .ok (.i2l, 1) := by decide +kernel
theorem d_Mo_isTask_10 : decode prog_9_method_9_code 10 = .ok (.invokestatic 72, 3) := by decide +kernel
theorem d_Mo_isTask_13 : decode prog_9_method_9_code 13 = .ok (.ireturn, 1) := by decide +kernel
set_option maxRecDepth 20000 in
set_option maxHeartbeats 2000000 in
theorem T_Mo_isTask {Z : ZT} (X : CX Z Y_Mo_isTask) {hp : HP} {a1 : Int32} {p : Int32 × HP} (h : f_Mo_isTask hp a1 = some p) (hR : RetI Z Y_Mo_isTask .boolean p.1 p.2) : V Z Y_Mo_isTask hp 0 [(0, .ref (gA (zG Z) 99)), (1, .int a1)] [] := by
  unfold f_Mo_isTask at h
  refine R_iload_n X 1 d_Mo_isTask_0 rfl ?_
  refine R_i2l X d_Mo_isTask_1 ?_
  refine R_lconst (v := (0 : Int64)) X d_Mo_isTask_2 rfl ?_
  refine R_aload_n X 0 d_Mo_isTask_3 rfl ?_
  refine R_getI (ci := 7) X rfl iMo_ok (of_decide_eq_true rfl) rfl 8 rfl rfl tw_679 d_Mo_isTask_4 ?_
  refine V_pc (pc' := 7) rfl ?_
  refine R_iconst (v := (1 : Int32)) X d_Mo_isTask_7 rfl ?_
  refine R_isub X d_Mo_isTask_8 ?_
  refine R_i2l X d_Mo_isTask_9 ?_
  obtain ⟨p2, e1, h⟩ := ob h
  refine R_scall (As := [.long (a1).toInt64, .long (0 : Int64), .long (((hp 99 8) - (1 : Int32))).toInt64]) (st := []) X (M_Mo_in e1) tw_782 cf_Mo_in rfl rfl rfl d_Mo_isTask_10 ?_
  exact R_retz hR h d_Mo_isTask_13
theorem M_Mo_isTask {G : GT} {hp : HP} {a1 : Int32} {p : Int32 × HP} (h : f_Mo_isTask hp a1 = some p) : MI G y_Mo_isTask Y_Mo_isTask .boolean [.ref (gA G 99), .int a1] hp p.1 p.2 := MI_of rfl (fun Z hz X hR => by subst hz; exact T_Mo_isTask X h hR)
theorem d_Mo_bounded_0 : decode prog_9_method_10_code 0 = .ok (.iload_n 0, 1) := by decide +kernel
theorem d_Mo_bounded_1 : decode prog_9_method_10_code 1 = .ok (.sipush (9999), 3) := by decide +kernel
theorem d_Mo_bounded_4 : decode prog_9_method_10_code 4 = .ok (.if_icmp .le (9), 3) := by decide +kernel
theorem d_Mo_bounded_7 : decode prog_9_method_10_code 7 = .ok (.sipush (9999), 3) := by decide +kernel
theorem d_Mo_bounded_10 : decode prog_9_method_10_code 10 = .ok (.goto (17), 3) := by decide +kernel
theorem d_Mo_bounded_13 : decode prog_9_method_10_code 13 = .ok (.iload_n 0, 1) := by decide +kernel
theorem d_Mo_bounded_14 : decode prog_9_method_10_code 14 = .ok (.sipush (-9999), 3) := by decide +kernel
theorem d_Mo_bounded_17 : decode prog_9_method_10_code 17 = .ok (.if_icmp .ge (9), 3) := by decide +kernel
theorem d_Mo_bounded_20 : decode prog_9_method_10_code 20 = .ok (.sipush (-9999), 3) := by decide +kernel
theorem d_Mo_bounded_23 : decode prog_9_method_10_code 23 = .ok (.goto (4), 3) := by decide +kernel
theorem d_Mo_bounded_26 : decode prog_9_method_10_code 26 = .ok (.iload_n 0, 1) := by decide +kernel
theorem d_Mo_bounded_27 : decode prog_9_method_10_code 27 = .ok (.ireturn, 1) := by decide +kernel
set_option maxRecDepth 20000 in
set_option maxHeartbeats 2000000 in
theorem T_Mo_bounded {Z : ZT} (X : CX Z Y_Mo_bounded) {hp : HP} {a0 : Int32} {p : Int32 × HP} (h : f_Mo_bounded hp a0 = some p) (hR : RetI Z Y_Mo_bounded .int p.1 p.2) : V Z Y_Mo_bounded hp 0 [(0, .int a0)] [] := by
  unfold f_Mo_bounded at h
  refine R_iload_n X 0 d_Mo_bounded_0 rfl ?_
  refine R_sipush (v := (9999 : Int32)) X d_Mo_bounded_1 rfl ?_
  refine R_icmp_le (tgt := 13) X d_Mo_bounded_4 rfl (fun c1 => ?_) (fun c1 => ?_)
  · replace h := (if_pos c1).symm.trans h
    refine R_iload_n X 0 d_Mo_bounded_13 rfl ?_
    refine R_sipush (v := (-9999 : Int32)) X d_Mo_bounded_14 rfl ?_
    refine R_icmp_ge (tgt := 26) X d_Mo_bounded_17 rfl (fun c2 => ?_) (fun c2 => ?_)
    · replace h := (if_pos c2).symm.trans h
      refine R_iload_n X 0 d_Mo_bounded_26 rfl ?_
      exact R_ret hR h d_Mo_bounded_27
    · replace h := (if_neg c2).symm.trans h
      refine R_sipush (v := (-9999 : Int32)) X d_Mo_bounded_20 rfl ?_
      refine R_goto (tgt := 27) X d_Mo_bounded_23 rfl ?_
      exact R_ret hR h d_Mo_bounded_27
  · replace h := (if_neg c1).symm.trans h
    refine R_sipush (v := (9999 : Int32)) X d_Mo_bounded_7 rfl ?_
    refine R_goto (tgt := 27) X d_Mo_bounded_10 rfl ?_
    exact R_ret hR h d_Mo_bounded_27
theorem M_Mo_bounded {G : GT} {hp : HP} {a0 : Int32} {p : Int32 × HP} (h : f_Mo_bounded hp a0 = some p) : MI G y_Mo_bounded Y_Mo_bounded .int [.int a0] hp p.1 p.2 := MI_of rfl (fun Z hz X hR => by subst hz; exact T_Mo_bounded X h hR)
theorem d_Mo_feed_0 : decode prog_9_method_11_code 0 = .ok (.iload_n 1, 1) := by decide +kernel
theorem d_Mo_feed_1 : decode prog_9_method_11_code 1 = .ok (.i2l, 1) := by decide +kernel
theorem d_Mo_feed_2 : decode prog_9_method_11_code 2 = .ok (.lconst 0, 1) := by decide +kernel
theorem d_Mo_feed_3 : decode prog_9_method_11_code 3 = .ok (.ldc2_w 86, 3) := by decide +kernel
theorem d_Mo_feed_6 : decode prog_9_method_11_code 6 = .ok (.invokestatic 72, 3) := by decide +kernel
theorem d_Mo_feed_9 : decode prog_9_method_11_code 9 = .ok (.ifCond .ne (6), 3) := by decide +kernel
theorem d_Mo_feed_12 : decode prog_9_method_11_code 12 = .ok (.ldc 88, 2) := by decide +kernel
theorem d_Mo_feed_14 : decode prog_9_method_11_code 14 = .ok (.ireturn, 1) := by decide +kernel
theorem d_Mo_feed_15 : decode prog_9_method_11_code 15 = .ok (.aload_n 0, 1) := by decide +kernel
theorem d_Mo_feed_16 : decode prog_9_method_11_code 16 = .ok (.getfield 89, 3) := by decide +kernel
theorem d_Mo_feed_19 : decode prog_9_method_11_code 19 = .ok (.sipush (240), 3) := by decide +kernel
theorem d_Mo_feed_22 : decode prog_9_method_11_code 22 = .ok (.if_icmp .ne (6), 3) := by decide +kernel
theorem d_Mo_feed_25 : decode prog_9_method_11_code 25 = .ok (.ldc 92, 2) := by decide +kernel
theorem d_Mo_feed_27 : decode prog_9_method_11_code 27 = .ok (.ireturn, 1) := by decide +kernel
theorem d_Mo_feed_28 : decode prog_9_method_11_code 28 = .ok (.aload_n 0, 1) := by decide +kernel
theorem d_Mo_feed_29 : decode prog_9_method_11_code 29 = .ok (.getfield 29, 3) := by decide +kernel
theorem d_Mo_feed_32 : decode prog_9_method_11_code 32 = .ok (.aload_n 0, 1) := by decide +kernel
theorem d_Mo_feed_33 : decode prog_9_method_11_code 33 = .ok (.getfield 89, 3) := by decide +kernel
theorem d_Mo_feed_36 : decode prog_9_method_11_code 36 = .ok (.iload_n 1, 1) := by decide +kernel
theorem d_Mo_feed_37 : decode prog_9_method_11_code 37 = .ok (.iastore, 1) := by decide +kernel
theorem d_Mo_feed_38 : decode prog_9_method_11_code 38 = .ok (.aload_n 0, 1) := by decide +kernel
theorem d_Mo_feed_39 : decode prog_9_method_11_code 39 = .ok (.dup, 1) := by decide +kernel
theorem d_Mo_feed_40 : decode prog_9_method_11_code 40 = .ok (.getfield 89, 3) := by decide +kernel
theorem d_Mo_feed_43 : decode prog_9_method_11_code 43 = .ok (.iconst 1, 1) := by decide +kernel
theorem d_Mo_feed_44 : decode prog_9_method_11_code 44 = .ok (.iadd, 1) := by decide +kernel
theorem d_Mo_feed_45 : decode prog_9_method_11_code 45 = .ok (.putfield 89, 3) := by decide +kernel
theorem d_Mo_feed_48 : decode prog_9_method_11_code 48 = .ok (.aload_n 0, 1) := by decide +kernel
theorem d_Mo_feed_49 : decode prog_9_method_11_code 49 = .ok (.getfield 89, 3) := by decide +kernel
theorem d_Mo_feed_52 : decode prog_9_method_11_code 52 = .ok (.ireturn, 1) := by decide +kernel
set_option maxRecDepth 20000 in
set_option maxHeartbeats 2000000 in
theorem T_Mo_feed {Z : ZT} (X : CX Z Y_Mo_feed) {hp : HP} {a1 : Int32} {p : Int32 × HP} (h : f_Mo_feed hp a1 = some p) (hR : RetI Z Y_Mo_feed .int p.1 p.2) : V Z Y_Mo_feed hp 0 [(0, .ref (gA (zG Z) 99)), (1, .int a1)] [] := by
  unfold f_Mo_feed at h
  refine R_iload_n X 1 d_Mo_feed_0 rfl ?_
  refine R_i2l X d_Mo_feed_1 ?_
  refine R_lconst (v := (0 : Int64)) X d_Mo_feed_2 rfl ?_
  refine R_ldc2 (v := (255 : Int64)) X tw_781 d_Mo_feed_3 ?_
  obtain ⟨p2, e1, h⟩ := ob h
  refine R_scall (As := [.long (a1).toInt64, .long (0 : Int64), .long (255 : Int64)]) (st := []) X (M_Mo_in e1) tw_782 cf_Mo_in rfl rfl rfl d_Mo_feed_6 ?_
  refine V_pc (pc' := 9) rfl ?_
  refine R_ifne (tgt := 15) X d_Mo_feed_9 rfl (fun c3 => ?_) (fun c3 => ?_)
  · replace h := (if_neg c3).symm.trans h
    refine R_aload_n X 0 d_Mo_feed_15 rfl ?_
    refine R_getI (ci := 7) X rfl iMo_ok (of_decide_eq_true rfl) rfl 11 rfl rfl tw_682 d_Mo_feed_16 ?_
    refine R_sipush (v := (240 : Int32)) X d_Mo_feed_19 rfl ?_
    refine R_icmp_ne (tgt := 28) X d_Mo_feed_22 rfl (fun c4 => ?_) (fun c4 => ?_)
    · replace h := (if_neg c4).symm.trans h
      refine R_aload_n X 0 d_Mo_feed_28 rfl ?_
      refine R_getR (ci := 7) X rfl iMo_ok (of_decide_eq_true rfl) rfl 10 rfl rfl tw_681 d_Mo_feed_29 ?_
      refine R_aload_n X 0 d_Mo_feed_32 rfl ?_
      refine R_getI (ci := 7) X rfl iMo_ok (of_decide_eq_true rfl) rfl 11 rfl rfl tw_682 d_Mo_feed_33 ?_
      refine R_iload_n X 1 d_Mo_feed_36 rfl ?_
      refine V_pc (pc' := 37) rfl ?_
      obtain ⟨i5, h⟩ := ck h
      refine R_iast (n := 240) X (of_decide_eq_true rfl) rfl i5 d_Mo_feed_37 ?_
      refine R_aload_n X 0 d_Mo_feed_38 rfl ?_
      refine R_dup X d_Mo_feed_39 rfl ?_
      refine R_getI (ci := 7) X rfl iMo_ok (of_decide_eq_true rfl) rfl 11 rfl rfl tw_682 d_Mo_feed_40 ?_
      refine R_iconst (v := (1 : Int32)) X d_Mo_feed_43 rfl ?_
      refine R_iadd X d_Mo_feed_44 ?_
      refine V_pc (pc' := 45) rfl ?_
      refine R_putI (ci := 7) X rfl iMo_ok yMo_ok nMo_ok (of_decide_eq_true rfl) rfl 11 rfl rfl rfl rfl tw_682 d_Mo_feed_45 ?_
      refine R_aload_n X 0 d_Mo_feed_48 rfl ?_
      refine R_getI (ci := 7) X rfl iMo_ok (of_decide_eq_true rfl) rfl 11 rfl rfl tw_682 d_Mo_feed_49 ?_
      exact R_ret hR h d_Mo_feed_52
    · replace h := (if_pos c4).symm.trans h
      refine R_ldc (v := (-1000000004 : Int32)) X tw_786 d_Mo_feed_25 ?_
      exact R_ret hR h d_Mo_feed_27
  · replace h := (if_pos c3).symm.trans h
    refine R_ldc (v := (-1000000002 : Int32)) X tw_785 d_Mo_feed_12 ?_
    exact R_ret hR h d_Mo_feed_14
theorem M_Mo_feed {G : GT} {hp : HP} {a1 : Int32} {p : Int32 × HP} (h : f_Mo_feed hp a1 = some p) : MI G y_Mo_feed Y_Mo_feed .int [.ref (gA G 99), .int a1] hp p.1 p.2 := MI_of rfl (fun Z hz X hR => by subst hz; exact T_Mo_feed X h hR)
theorem d_Mo_letterAt_0 : decode prog_9_method_12_code 0 = .ok (.iload_n 1, 1) := by decide +kernel
theorem d_Mo_letterAt_1 : decode prog_9_method_12_code 1 = .ok (.aload_n 0, 1) := by decide +kernel
theorem d_Mo_letterAt_2 : decode prog_9_method_12_code 2 = .ok (.getfield 89, 3) := by decide +kernel
theorem d_Mo_letterAt_5 : decode prog_9_method_12_code 5 = .ok (.if_icmp .ge (12), 3) := by decide +kernel
theorem d_Mo_letterAt_8 : decode prog_9_method_12_code 8 = .ok (.aload_n 0, 1) := by decide +kernel
theorem d_Mo_letterAt_9 : decode prog_9_method_12_code 9 = .ok (.getfield 29, 3) := by decide +kernel
theorem d_Mo_letterAt_12 : decode prog_9_method_12_code 12 = .ok (.iload_n 1, 1) := by decide +kernel
theorem d_Mo_letterAt_13 : decode prog_9_method_12_code 13 = .ok (.iaload, 1) := by decide +kernel
theorem d_Mo_letterAt_14 : decode prog_9_method_12_code 14 = .ok (.goto (4), 3) := by decide +kernel
theorem d_Mo_letterAt_17 : decode prog_9_method_12_code 17 = .ok (.iconst (-1), 1) := by decide +kernel
theorem d_Mo_letterAt_18 : decode prog_9_method_12_code 18 = .ok (.ireturn, 1) := by decide +kernel
set_option maxRecDepth 20000 in
set_option maxHeartbeats 2000000 in
theorem T_Mo_letterAt {Z : ZT} (X : CX Z Y_Mo_letterAt) {hp : HP} {a1 : Int32} {p : Int32 × HP} (h : f_Mo_letterAt hp a1 = some p) (hR : RetI Z Y_Mo_letterAt .int p.1 p.2) : V Z Y_Mo_letterAt hp 0 [(0, .ref (gA (zG Z) 99)), (1, .int a1)] [] := by
  unfold f_Mo_letterAt at h
  refine R_iload_n X 1 d_Mo_letterAt_0 rfl ?_
  refine R_aload_n X 0 d_Mo_letterAt_1 rfl ?_
  refine R_getI (ci := 7) X rfl iMo_ok (of_decide_eq_true rfl) rfl 11 rfl rfl tw_682 d_Mo_letterAt_2 ?_
  refine R_icmp_ge (tgt := 17) X d_Mo_letterAt_5 rfl (fun c1 => ?_) (fun c1 => ?_)
  · replace h := (if_pos c1).symm.trans h
    refine R_iconst (v := (-1 : Int32)) X d_Mo_letterAt_17 rfl ?_
    exact R_ret hR h d_Mo_letterAt_18
  · replace h := (if_neg c1).symm.trans h
    refine R_aload_n X 0 d_Mo_letterAt_8 rfl ?_
    refine R_getR (ci := 7) X rfl iMo_ok (of_decide_eq_true rfl) rfl 10 rfl rfl tw_681 d_Mo_letterAt_9 ?_
    refine R_iload_n X 1 d_Mo_letterAt_12 rfl ?_
    obtain ⟨i2, h⟩ := ck h
    refine R_iald (n := 240) X (of_decide_eq_true rfl) rfl i2 d_Mo_letterAt_13 ?_
    refine R_goto (tgt := 18) X d_Mo_letterAt_14 rfl ?_
    refine V_pc (pc' := 18) rfl ?_
    exact R_ret hR h d_Mo_letterAt_18
theorem M_Mo_letterAt {G : GT} {hp : HP} {a1 : Int32} {p : Int32 × HP} (h : f_Mo_letterAt hp a1 = some p) : MI G y_Mo_letterAt Y_Mo_letterAt .int [.ref (gA G 99), .int a1] hp p.1 p.2 := MI_of rfl (fun Z hz X hR => by subst hz; exact T_Mo_letterAt X h hR)
theorem d_Mo_here_0 : decode prog_9_method_13_code 0 = .ok (.aload_n 0, 1) := by decide +kernel
theorem d_Mo_here_1 : decode prog_9_method_13_code 1 = .ok (.aload_n 0, 1) := by decide +kernel
theorem d_Mo_here_2 : decode prog_9_method_13_code 2 = .ok (.getfield 93, 3) := by decide +kernel
theorem d_Mo_here_5 : decode prog_9_method_13_code 5 = .ok (.invokevirtual 96, 3) := by decide +kernel
theorem d_Mo_here_8 : decode prog_9_method_13_code 8 = .ok (.bipush (32), 2) := by decide +kernel
theorem d_Mo_here_10 : decode prog_9_method_13_code 10 = .ok (.if_icmp .ne (16), 3) := by decide +kernel
theorem d_Mo_here_13 : decode prog_9_method_13_code 13 = .ok (.aload_n 0, 1) := by decide +kernel
theorem d_Mo_here_14 : decode prog_9_method_13_code 14 = .ok (.dup, 1) := by decide +kernel
theorem d_Mo_here_15 : decode prog_9_method_13_code 15 = .ok (.getfield 93, 3) := by decide +kernel
theorem d_Mo_here_18 : decode prog_9_method_13_code 18 = .ok (.iconst 1, 1) := by decide +kernel
theorem d_Mo_here_19 : decode prog_9_method_13_code 19 = .ok (.iadd, 1) := by decide +kernel
theorem d_Mo_here_20 : decode prog_9_method_13_code 20 = .ok (.putfield 93, 3) := by decide +kernel
theorem d_Mo_here_23 : decode prog_9_method_13_code 23 = .ok (.goto (-23), 3) := by decide +kernel
theorem d_Mo_here_26 : decode prog_9_method_13_code 26 = .ok (.aload_n 0, 1) := by decide +kernel
theorem d_Mo_here_27 : decode prog_9_method_13_code 27 = .ok (.aload_n 0, 1) := by decide +kernel
theorem d_Mo_here_28 : decode prog_9_method_13_code 28 = .ok (.getfield 93, 3) := by decide +kernel
theorem d_Mo_here_31 : decode prog_9_method_13_code 31 = .ok (.putfield 100, 3) := by decide +kernel
theorem d_Mo_here_34 : decode prog_9_method_13_code 34 = .ok (.aload_n 0, 1) := by decide +kernel
theorem d_Mo_here_35 : decode prog_9_method_13_code 35 = .ok (.aload_n 0, 1) := by decide +kernel
theorem d_Mo_here_36 : decode prog_9_method_13_code 36 = .ok (.getfield 93, 3) := by decide +kernel
theorem d_Mo_here_39 : decode prog_9_method_13_code 39 = .ok (.invokevirtual 96, 3) := by decide +kernel
theorem d_Mo_here_42 : decode prog_9_method_13_code 42 = .ok (.ireturn, 1) := by decide +kernel
set_option maxRecDepth 20000 in
set_option maxHeartbeats 2000000 in
theorem T_Mo_here_L0 {Z : ZT} (X : CX Z Y_Mo_here) {p : Int32 × HP} (hR : RetI Z Y_Mo_here .int p.1 p.2) {K : HP → Option (Int32 × HP)} (hK : ∀ (hp : HP), K hp = some p → V Z Y_Mo_here hp 26 [(0, .ref (gA (zG Z) 99))] []) : ∀ (n : Nat) (hp : HP), f_Mo_here_L0 K n hp = some p → V Z Y_Mo_here hp 0 [(0, .ref (gA (zG Z) 99))] [] := by
  intro n
  induction n with
  | zero =>
    intro hp h
    cases h
  | succ n ih =>
    intro hp h
    replace h : f_Mo_here_L0 K (n + 1) hp = some p := h
    unfold f_Mo_here_L0 at h
    refine R_aload_n X 0 d_Mo_here_0 rfl ?_
    refine R_aload_n X 0 d_Mo_here_1 rfl ?_
    refine R_getI (ci := 7) X rfl iMo_ok (of_decide_eq_true rfl) rfl 12 rfl rfl tw_683 d_Mo_here_2 ?_
    obtain ⟨p2, e1, h⟩ := ob h
    refine R_vcall (ci := 7) (k := 99) (As := [.int (hp 99 12)]) (st := []) X (M_Mo_letterAt e1) tw_795 cf_Mo_letterAt (of_decide_eq_true rfl) rfl rfl rfl rfl rfl d_Mo_here_5 ?_
    refine R_bipush (v := (32 : Int32)) X d_Mo_here_8 rfl ?_
    refine V_pc (pc' := 10) rfl ?_
    refine R_icmp_ne (tgt := 26) X d_Mo_here_10 rfl (fun c3 => ?_) (fun c3 => ?_)
    · replace h := (if_neg c3).symm.trans h
      refine V_pc (pc' := 26) rfl (R_loc (L' := [(0, .ref (gA (zG Z) 99))]) [0] rfl ?_)
      exact hK p2.2 h
    · replace h := (if_pos c3).symm.trans h
      refine R_aload_n X 0 d_Mo_here_13 rfl ?_
      refine R_dup X d_Mo_here_14 rfl ?_
      refine R_getI (ci := 7) X rfl iMo_ok (of_decide_eq_true rfl) rfl 12 rfl rfl tw_683 d_Mo_here_15 ?_
      refine R_iconst (v := (1 : Int32)) X d_Mo_here_18 rfl ?_
      refine R_iadd X d_Mo_here_19 ?_
      refine V_pc (pc' := 20) rfl ?_
      refine R_putI (ci := 7) X rfl iMo_ok yMo_ok nMo_ok (of_decide_eq_true rfl) rfl 12 rfl rfl rfl rfl tw_683 d_Mo_here_20 ?_
      refine R_goto (tgt := 0) X d_Mo_here_23 rfl ?_
      refine V_pc (pc' := 0) rfl (R_loc (L' := [(0, .ref (gA (zG Z) 99))]) [0] rfl ?_)
      exact ih (up p2.2 99 12 ((p2.2 99 12) + (1 : Int32))) h
set_option maxRecDepth 20000 in
set_option maxHeartbeats 2000000 in
theorem T_Mo_here {Z : ZT} (X : CX Z Y_Mo_here) {hp : HP} {p : Int32 × HP} (h : f_Mo_here hp = some p) (hR : RetI Z Y_Mo_here .int p.1 p.2) : V Z Y_Mo_here hp 0 [(0, .ref (gA (zG Z) 99))] [] := by
  unfold f_Mo_here at h
  refine V_pc (pc' := 0) rfl (R_loc (L' := [(0, .ref (gA (zG Z) 99))]) [0] rfl ?_)
  refine T_Mo_here_L0 X hR (fun hp4 h => ?_) _ hp h
  refine R_aload_n X 0 d_Mo_here_26 rfl ?_
  refine R_aload_n X 0 d_Mo_here_27 rfl ?_
  refine R_getI (ci := 7) X rfl iMo_ok (of_decide_eq_true rfl) rfl 12 rfl rfl tw_683 d_Mo_here_28 ?_
  refine R_putI (ci := 7) X rfl iMo_ok yMo_ok nMo_ok (of_decide_eq_true rfl) rfl 13 rfl rfl rfl rfl tw_684 d_Mo_here_31 ?_
  refine R_aload_n X 0 d_Mo_here_34 rfl ?_
  refine V_pc (pc' := 35) rfl ?_
  refine R_aload_n X 0 d_Mo_here_35 rfl ?_
  refine R_getI (ci := 7) X rfl iMo_ok (of_decide_eq_true rfl) rfl 12 rfl rfl tw_683 d_Mo_here_36 ?_
  obtain ⟨p6, e5, h⟩ := ob h
  refine R_vcall (ci := 7) (k := 99) (As := [.int ((up hp4 99 13 (hp4 99 12)) 99 12)]) (st := []) X (M_Mo_letterAt e5) tw_795 cf_Mo_letterAt (of_decide_eq_true rfl) rfl rfl rfl rfl rfl d_Mo_here_39 ?_
  exact R_ret hR h d_Mo_here_42
theorem M_Mo_here {G : GT} {hp : HP} {p : Int32 × HP} (h : f_Mo_here hp = some p) : MI G y_Mo_here Y_Mo_here .int [.ref (gA G 99)] hp p.1 p.2 := MI_of rfl (fun Z hz X hR => by subst hz; exact T_Mo_here X h hR)
theorem d_Mo_fails_0 : decode prog_9_method_14_code 0 = .ok (.aload_n 0, 1) := by decide +kernel
theorem d_Mo_fails_1 : decode prog_9_method_14_code 1 = .ok (.iload_n 1, 1) := by decide +kernel
theorem d_Mo_fails_2 : decode prog_9_method_14_code 2 = .ok (.putfield 103, 3) := by decide +kernel
theorem d_Mo_fails_5 : decode prog_9_method_14_code 5 = .ok (.aload_n 0, 1) := by decide +kernel
theorem d_Mo_fails_6 : decode prog_9_method_14_code 6 = .ok (.iload_n 2, 1) := by decide +kernel
theorem d_Mo_fails_7 : decode prog_9_method_14_code 7 = .ok (.putfield 32, 3) := by decide +kernel
theorem d_Mo_fails_10 : decode prog_9_method_14_code 10 = .ok (.iconst 0, 1) := by decide +kernel
theorem d_Mo_fails_11 : decode prog_9_method_14_code 11 = .ok (.ireturn, 1) := by decide +kernel
set_option maxRecDepth 20000 in
set_option maxHeartbeats 2000000 in
theorem T_Mo_fails {Z : ZT} (X : CX Z Y_Mo_fails) {hp : HP} {a1 : Int32} {a2 : Int32} {p : Int32 × HP} (h : f_Mo_fails hp a1 a2 = some p) (hR : RetI Z Y_Mo_fails .boolean p.1 p.2) : V Z Y_Mo_fails hp 0 [(0, .ref (gA (zG Z) 99)), (1, .int a1), (2, .int a2)] [] := by
  unfold f_Mo_fails at h
  refine R_aload_n X 0 d_Mo_fails_0 rfl ?_
  refine R_iload_n X 1 d_Mo_fails_1 rfl ?_
  refine R_putI (ci := 7) X rfl iMo_ok yMo_ok nMo_ok (of_decide_eq_true rfl) rfl 15 rfl rfl rfl rfl tw_686 d_Mo_fails_2 ?_
  refine R_aload_n X 0 d_Mo_fails_5 rfl ?_
  refine R_iload_n X 2 d_Mo_fails_6 rfl ?_
  refine V_pc (pc' := 7) rfl ?_
  refine R_putI (ci := 7) X rfl iMo_ok yMo_ok nMo_ok (of_decide_eq_true rfl) rfl 16 rfl rfl rfl rfl tw_687 d_Mo_fails_7 ?_
  refine R_iconst (v := (0 : Int32)) X d_Mo_fails_10 rfl ?_
  exact R_retc hR (by decide) h d_Mo_fails_11
theorem M_Mo_fails {G : GT} {hp : HP} {a1 : Int32} {a2 : Int32} {p : Int32 × HP} (h : f_Mo_fails hp a1 a2 = some p) : MI G y_Mo_fails Y_Mo_fails .boolean [.ref (gA G 99), .int a1, .int a2] hp p.1 p.2 := MI_of rfl (fun Z hz X hR => by subst hz; exact T_Mo_fails X h hR)
theorem d_Mo_takes_0 : decode prog_9_method_15_code 0 = .ok (.aload_n 0, 1) := by decide +kernel
theorem d_Mo_takes_1 : decode prog_9_method_15_code 1 = .ok (.invokevirtual 106, 3) := by decide +kernel
theorem d_Mo_takes_4 : decode prog_9_method_15_code 4 = .ok (.iload_n 1, 1) := by decide +kernel
theorem d_Mo_takes_5 : decode prog_9_method_15_code 5 = .ok (.if_icmp .eq (13), 3) := by decide +kernel
theorem d_Mo_takes_8 : decode prog_9_method_15_code 8 = .ok (.aload_n 0, 1) := by decide +kernel
theorem d_Mo_takes_9 : decode prog_9_method_15_code 9 = .ok (.iconst 1, 1) := by decide +kernel
theorem d_Mo_takes_10 : decode prog_9_method_15_code 10 = .ok (.aload_n 0, 1) := by decide +kernel
theorem d_Mo_takes_11 : decode prog_9_method_15_code 11 = .ok (.getfield 100, 3) := by decide +kernel
theorem d_Mo_takes_14 : decode prog_9_method_15_code 14 = .ok (.invokevirtual 110, 3) := by decide +kernel
theorem d_Mo_takes_17 : decode prog_9_method_15_code 17 = .ok (.ireturn, 1) := by decide +kernel
theorem d_Mo_takes_18 : decode prog_9_method_15_code 18 = .ok (.aload_n 0, 1) := by decide +kernel
theorem d_Mo_takes_19 : decode prog_9_method_15_code 19 = .ok (.dup, 1) := by decide +kernel
theorem d_Mo_takes_20 : decode prog_9_method_15_code 20 = .ok (.getfield 93, 3) := by decide +kernel
theorem d_Mo_takes_23 : decode prog_9_method_15_code 23 = .ok (.iconst 1, 1) := by decide +kernel
theorem d_Mo_takes_24 : decode prog_9_method_15_code 24 = .ok (.iadd, 1) := by decide +kernel
theorem d_Mo_takes_25 : decode prog_9_method_15_code 25 = .ok (.putfield 93, 3) := by decide +kernel
theorem d_Mo_takes_28 : decode prog_9_method_15_code 28 = .ok (.iconst 1, 1) := by decide +kernel
theorem d_Mo_takes_29 : decode prog_9_method_15_code 29 = .ok (.ireturn, 1) := by decide +kernel
set_option maxRecDepth 20000 in
set_option maxHeartbeats 2000000 in
theorem T_Mo_takes {Z : ZT} (X : CX Z Y_Mo_takes) {hp : HP} {a1 : Int32} {p : Int32 × HP} (h : f_Mo_takes hp a1 = some p) (hR : RetI Z Y_Mo_takes .boolean p.1 p.2) : V Z Y_Mo_takes hp 0 [(0, .ref (gA (zG Z) 99)), (1, .int a1)] [] := by
  unfold f_Mo_takes at h
  refine R_aload_n X 0 d_Mo_takes_0 rfl ?_
  obtain ⟨p2, e1, h⟩ := ob h
  refine R_vcall (ci := 7) (k := 99) (As := []) (st := []) X (M_Mo_here e1) tw_791 cf_Mo_here (of_decide_eq_true rfl) rfl rfl rfl rfl rfl d_Mo_takes_1 ?_
  refine R_iload_n X 1 d_Mo_takes_4 rfl ?_
  refine R_icmp_eq (tgt := 18) X d_Mo_takes_5 rfl (fun c3 => ?_) (fun c3 => ?_)
  · replace h := (if_pos c3).symm.trans h
    refine R_aload_n X 0 d_Mo_takes_18 rfl ?_
    refine R_dup X d_Mo_takes_19 rfl ?_
    refine R_getI (ci := 7) X rfl iMo_ok (of_decide_eq_true rfl) rfl 12 rfl rfl tw_683 d_Mo_takes_20 ?_
    refine R_iconst (v := (1 : Int32)) X d_Mo_takes_23 rfl ?_
    refine R_iadd X d_Mo_takes_24 ?_
    refine V_pc (pc' := 25) rfl ?_
    refine R_putI (ci := 7) X rfl iMo_ok yMo_ok nMo_ok (of_decide_eq_true rfl) rfl 12 rfl rfl rfl rfl tw_683 d_Mo_takes_25 ?_
    refine R_iconst (v := (1 : Int32)) X d_Mo_takes_28 rfl ?_
    exact R_retc hR (by decide) h d_Mo_takes_29
  · replace h := (if_neg c3).symm.trans h
    refine R_aload_n X 0 d_Mo_takes_8 rfl ?_
    refine R_iconst (v := (1 : Int32)) X d_Mo_takes_9 rfl ?_
    refine R_aload_n X 0 d_Mo_takes_10 rfl ?_
    refine R_getI (ci := 7) X rfl iMo_ok (of_decide_eq_true rfl) rfl 13 rfl rfl tw_684 d_Mo_takes_11 ?_
    obtain ⟨p5, e4, h⟩ := ob h
    refine R_vcall (ci := 7) (k := 99) (As := [.int (1 : Int32), .int (p2.2 99 13)]) (st := []) X (M_Mo_fails e4) tw_803 cf_Mo_fails (of_decide_eq_true rfl) rfl rfl rfl rfl rfl d_Mo_takes_14 ?_
    refine V_pc (pc' := 17) rfl ?_
    exact R_retz hR h d_Mo_takes_17
theorem M_Mo_takes {G : GT} {hp : HP} {a1 : Int32} {p : Int32 × HP} (h : f_Mo_takes hp a1 = some p) : MI G y_Mo_takes Y_Mo_takes .boolean [.ref (gA G 99), .int a1] hp p.1 p.2 := MI_of rfl (fun Z hz X hR => by subst hz; exact T_Mo_takes X h hR)
theorem d_Mo_takesNumber_0 : decode prog_9_method_16_code 0 = .ok (.aload_n 0, 1) := by decide +kernel
theorem d_Mo_takesNumber_1 : decode prog_9_method_16_code 1 = .ok (.invokevirtual 106, 3) := by decide +kernel
theorem d_Mo_takesNumber_4 : decode prog_9_method_16_code 4 = .ok (.i2l, 1) := by decide +kernel
theorem d_Mo_takesNumber_5 : decode prog_9_method_16_code 5 = .ok (.ldc2_w 114, 3) := by decide +kernel
theorem d_Mo_takesNumber_8 : decode prog_9_method_16_code 8 = .ok (.ldc2_w 116, 3) := by decide +kernel
theorem d_Mo_takesNumber_11 : decode prog_9_method_16_code 11 = .ok (.invokestatic 72, 3) := by decide +kernel
theorem d_Mo_takesNumber_14 : decode prog_9_method_16_code 14 = .ok (.ifCond .ne (13), 3) := by decide +kernel
theorem d_Mo_takesNumber_17 : decode prog_9_method_16_code 17 = .ok (.aload_n 0, 1) := by decide +kernel
theorem d_Mo_takesNumber_18 : decode prog_9_method_16_code 18 = .ok (.iconst 1, 1) := by decide +kernel
theorem d_Mo_takesNumber_19 : decode prog_9_method_16_code 19 = .ok (.aload_n 0, 1) := by decide +kernel
theorem d_Mo_takesNumber_20 : decode prog_9_method_16_code 20 = .ok (.getfield 100, 3) := by decide +kernel
theorem d_Mo_takesNumber_23 : decode prog_9_method_16_code 23 = .ok (.invokevirtual 110, 3) := by decide +kernel
theorem d_Mo_takesNumber_26 : decode prog_9_method_16_code 26 = .ok (.ireturn, 1) := by decide +kernel
theorem d_Mo_takesNumber_27 : decode prog_9_method_16_code 27 = .ok (.aload_n 0, 1) := by decide +kernel
theorem d_Mo_takesNumber_28 : decode prog_9_method_16_code 28 = .ok (.iconst 0, 1) := by decide +kernel
theorem d_Mo_takesNumber_29 : decode prog_9_method_16_code 29 = .ok (.putfield 118, 3) := by decide +kernel
theorem d_Mo_takesNumber_32 : decode prog_9_method_16_code 32 = .ok (.aload_n 0, 1) := by decide +kernel
theorem d_Mo_takesNumber_33 : decode prog_9_method_16_code 33 = .ok (.aload_n 0, 1) := by decide +kernel
theorem d_Mo_takesNumber_34 : decode prog_9_method_16_code 34 = .ok (.getfield 93, 3) := by decide +kernel
theorem d_Mo_takesNumber_37 : decode prog_9_method_16_code 37 = .ok (.invokevirtual 96, 3) := by decide +kernel
theorem d_Mo_takesNumber_40 : decode prog_9_method_16_code 40 = .ok (.i2l, 1) := by decide +kernel
theorem d_Mo_takesNumber_41 : decode prog_9_method_16_code 41 = .ok (.ldc2_w 114, 3) := by decide +kernel
theorem d_Mo_takesNumber_44 : decode prog_9_method_16_code 44 = .ok (.ldc2_w 116, 3) := by decide +kernel
theorem d_Mo_takesNumber_47 : decode prog_9_method_16_code 47 = .ok (.invokestatic 72, 3) := by decide +kernel
theorem d_Mo_takesNumber_50 : decode prog_9_method_16_code 50 = .ok (.ifCond .eq (59), 3) := by decide +kernel
theorem d_Mo_takesNumber_53 : decode prog_9_method_16_code 53 = .ok (.aload_n 0, 1) := by decide +kernel
theorem d_Mo_takesNumber_54 : decode prog_9_method_16_code 54 = .ok (.aload_n 0, 1) := by decide +kernel
theorem d_Mo_takesNumber_55 : decode prog_9_method_16_code 55 = .ok (.getfield 93, 3) := by decide +kernel
theorem d_Mo_takesNumber_58 : decode prog_9_method_16_code 58 = .ok (.aload_n 0, 1) := by decide +kernel
theorem d_Mo_takesNumber_59 : decode prog_9_method_16_code 59 = .ok (.getfield 100, 3) := by decide +kernel
theorem d_Mo_takesNumber_62 : decode prog_9_method_16_code 62 = .ok (.isub, 1) := by decide +kernel
theorem d_Mo_takesNumber_63 : decode prog_9_method_16_code 63 = .ok (.iconst 3, 1) := by decide +kernel
theorem d_Mo_takesNumber_64 : decode prog_9_method_16_code 64 = .ok (.if_icmp .ge (25), 3) := by decide +kernel
theorem d_Mo_takesNumber_67 : decode prog_9_method_16_code 67 = .ok (.bipush (10), 2) := by decide +kernel
theorem d_Mo_takesNumber_69 : decode prog_9_method_16_code 69 = .ok (.aload_n 0, 1) := by decide +kernel
theorem d_Mo_takesNumber_70 : decode prog_9_method_16_code 70 = .ok (.getfield 118, 3) := by decide +kernel
theorem d_Mo_takesNumber_73 : decode prog_9_method_16_code 73 = .ok (.imul, 1) := by decide +kernel
theorem d_Mo_takesNumber_74 : decode prog_9_method_16_code 74 = .ok (.aload_n 0, 1) := by decide +kernel
theorem d_Mo_takesNumber_75 : decode prog_9_method_16_code 75 = .ok (.aload_n 0, 1) := by decide +kernel
theorem d_Mo_takesNumber_76 : decode prog_9_method_16_code 76 = .ok (.getfield 93, 3) := by decide +kernel
theorem d_Mo_takesNumber_79 : decode prog_9_method_16_code 79 = .ok (.invokevirtual 96, 3) := by decide +kernel
theorem d_Mo_takesNumber_82 : decode prog_9_method_16_code 82 = .ok (.iadd, 1) := by decide +kernel
theorem d_Mo_takesNumber_83 : decode prog_9_method_16_code 83 = .ok (.bipush (48), 2) := by decide +kernel
theorem d_Mo_takesNumber_85 : decode prog_9_method_16_code 85 = .ok (.isub, 1) := by decide +kernel
theorem d_Mo_takesNumber_86 : decode prog_9_method_16_code 86 = .ok (.goto (7), 3) := by decide +kernel
theorem d_Mo_takesNumber_89 : decode prog_9_method_16_code 89 = .ok (.aload_n 0, 1) := by decide +kernel
theorem d_Mo_takesNumber_90 : decode prog_9_method_16_code 90 = .ok (.getfield 118, 3) := by decide +kernel
theorem d_Mo_takesNumber_93 : decode prog_9_method_16_code 93 = .ok (.putfield 118, 3) := by decide +kernel
theorem d_Mo_takesNumber_96 : decode prog_9_method_16_code 96 = .ok (.aload_n 0, 1) := by decide +kernel
theorem d_Mo_takesNumber_97 : decode prog_9_method_16_code 97 = .ok (.dup, 1) := by decide +kernel
theorem d_Mo_takesNumber_98 : decode prog_9_method_16_code 98 = .ok (.getfield 93, 3) := by decide +kernel
theorem d_Mo_takesNumber_101 : decode prog_9_method_16_code 101 = .ok (.iconst 1, 1) := by decide +kernel
theorem d_Mo_takesNumber_102 : decode prog_9_method_16_code 102 = .ok (.iadd, 1) := by decide +kernel
theorem d_Mo_takesNumber_103 : decode prog_9_method_16_code 103 = .ok (.putfield 93, 3) := by decide +kernel
theorem d_Mo_takesNumber_106 : decode prog_9_method_16_code 106 = .ok (.goto (-74), 3) := by decide +kernel
theorem d_Mo_takesNumber_109 : decode prog_9_method_16_code 109 = .ok (.aload_n 0, 1) := by decide +kernel
theorem d_Mo_takesNumber_110 : decode prog_9_method_16_code 110 = .ok (.getfield 93, 3) := by decide +kernel
theorem d_Mo_takesNumber_113 : decode prog_9_method_16_code 113 = .ok (.aload_n 0, 1) := by decide +kernel
theorem d_Mo_takesNumber_114 : decode prog_9_method_16_code 114 = .ok (.getfield 100, 3) := by decide +kernel
theorem d_Mo_takesNumber_117 : decode prog_9_method_16_code 117 = .ok (.isub, 1) := by decide +kernel
theorem d_Mo_takesNumber_118 : decode prog_9_method_16_code 118 = .ok (.iconst 4, 1) := by decide +kernel
theorem d_Mo_takesNumber_119 : decode prog_9_method_16_code 119 = .ok (.if_icmp .ge (18), 3) := by decide +kernel
theorem d_Mo_takesNumber_122 : decode prog_9_method_16_code 122 = .ok (.aload_n 0, 1) := by decide +kernel
theorem d_Mo_takesNumber_123 : decode prog_9_method_16_code 123 = .ok (.getfield 118, 3) := by decide +kernel
theorem d_Mo_takesNumber_126 : decode prog_9_method_16_code 126 = .ok (.i2l, 1) := by decide +kernel
theorem d_Mo_takesNumber_127 : decode prog_9_method_16_code 127 = .ok (.iload_n 1, 1) := by decide +kernel
theorem d_Mo_takesNumber_128 : decode prog_9_method_16_code 128 = .ok (.i2l, 1) := by decide +kernel
theorem d_Mo_takesNumber_129 : decode prog_9_method_16_code 129 = .ok (.iload_n 2, 1) := by decide +kernel
theorem d_Mo_takesNumber_130 : decode prog_9_method_16_code 130 = .ok (.i2l, 1) := by decide +kernel
theorem d_Mo_takesNumber_131 : decode prog_9_method_16_code 131 = .ok (.invokestatic 72, 3) := by decide +kernel
theorem d_Mo_takesNumber_134 : decode prog_9_method_16_code 134 = .ok (.ifCond .ne (15), 3) := by decide +kernel
theorem d_Mo_takesNumber_137 : decode prog_9_method_16_code 137 = .ok (.aload_n 0, 1) := by decide +kernel
theorem d_Mo_takesNumber_138 : decode prog_9_method_16_code 138 = .ok (.iconst 2, 1) := by decide +kernel
theorem d_Mo_takesNumber_139 : decode prog_9_method_16_code 139 = .ok (.aload_n 0, 1) := by decide +kernel
theorem d_Mo_takesNumber_140 : decode prog_9_method_16_code 140 = .ok (.getfield 100, 3) := by decide +kernel
theorem d_Mo_takesNumber_143 : decode prog_9_method_16_code 143 = .ok (.invokevirtual 110, 3) := by decide +kernel
theorem d_Mo_takesNumber_146 : decode prog_9_method_16_code 146 = .ok (.ifCond .eq (7), 3) := by decide +kernel
theorem d_Mo_takesNumber_149 : decode prog_9_method_16_code 149 = .ok (.iconst 1, 1) := by decide +kernel
theorem d_Mo_takesNumber_150 : decode prog_9_method_16_code 150 = .ok (.goto (4), 3) := by decide +kernel
theorem d_Mo_takesNumber_153 : decode prog_9_method_16_code 153 = .ok (.iconst 0, 1) := by decide +kernel
theorem d_Mo_takesNumber_154 : decode prog_9_method_16_code 154 = .ok (.ireturn, 1) := by decide +kernel
set_option maxRecDepth 20000 in
set_option maxHeartbeats 2000000 in
theorem T_Mo_takesNumber_L32 {Z : ZT} (X : CX Z Y_Mo_takesNumber) {v1 : Int32} {v2 : Int32} {p : Int32 × HP} (hR : RetI Z Y_Mo_takesNumber .boolean p.1 p.2) {K : HP → Option (Int32 × HP)} (hK : ∀ (hp : HP), K hp = some p → V Z Y_Mo_takesNumber hp 109 [(0, .ref (gA (zG Z) 99)), (1, .int v1), (2, .int v2)] []) : ∀ (n : Nat) (hp : HP), f_Mo_takesNumber_L32 v1 v2 K n hp = some p → V Z Y_Mo_takesNumber hp 32 [(0, .ref (gA (zG Z) 99)), (1, .int v1), (2, .int v2)] [] := by
  intro n
  induction n with
  | zero =>
    intro hp h
    cases h
  | succ n ih =>
    intro hp h
    replace h : f_Mo_takesNumber_L32 v1 v2 K (n + 1) hp = some p := h
    unfold f_Mo_takesNumber_L32 at h
    refine R_aload_n X 0 d_Mo_takesNumber_32 rfl ?_
    refine R_aload_n X 0 d_Mo_takesNumber_33 rfl ?_
    refine R_getI (ci := 7) X rfl iMo_ok (of_decide_eq_true rfl) rfl 12 rfl rfl tw_683 d_Mo_takesNumber_34 ?_
    obtain ⟨p9, e8, h⟩ := ob h
    refine R_vcall (ci := 7) (k := 99) (As := [.int (hp 99 12)]) (st := []) X (M_Mo_letterAt e8) tw_795 cf_Mo_letterAt (of_decide_eq_true rfl) rfl rfl rfl rfl rfl d_Mo_takesNumber_37 ?_
    refine R_i2l X d_Mo_takesNumber_40 ?_
    refine V_pc (pc' := 41) rfl ?_
    refine R_ldc2 (v := (48 : Int64)) X tw_815 d_Mo_takesNumber_41 ?_
    refine R_ldc2 (v := (57 : Int64)) X tw_816 d_Mo_takesNumber_44 ?_
    obtain ⟨p11, e10, h⟩ := ob h
    refine R_scall (As := [.long (p9.1).toInt64, .long (48 : Int64), .long (57 : Int64)]) (st := []) X (M_Mo_in e10) tw_782 cf_Mo_in rfl rfl rfl d_Mo_takesNumber_47 ?_
    refine R_ifeq (tgt := 109) X d_Mo_takesNumber_50 rfl (fun c12 => ?_) (fun c12 => ?_)
    · replace h := (if_pos c12).symm.trans h
      refine V_pc (pc' := 109) rfl (R_loc (L' := [(0, .ref (gA (zG Z) 99)), (1, .int v1), (2, .int v2)]) [0, 1, 2] rfl ?_)
      exact hK p11.2 h
    · replace h := (if_neg c12).symm.trans h
      refine R_aload_n X 0 d_Mo_takesNumber_53 rfl ?_
      refine R_aload_n X 0 d_Mo_takesNumber_54 rfl ?_
      refine R_getI (ci := 7) X rfl iMo_ok (of_decide_eq_true rfl) rfl 12 rfl rfl tw_683 d_Mo_takesNumber_55 ?_
      refine R_aload_n X 0 d_Mo_takesNumber_58 rfl ?_
      refine R_getI (ci := 7) X rfl iMo_ok (of_decide_eq_true rfl) rfl 13 rfl rfl tw_684 d_Mo_takesNumber_59 ?_
      refine V_pc (pc' := 62) rfl ?_
      refine R_isub X d_Mo_takesNumber_62 ?_
      refine R_iconst (v := (3 : Int32)) X d_Mo_takesNumber_63 rfl ?_
      refine R_icmp_ge (tgt := 89) X d_Mo_takesNumber_64 rfl (fun c13 => ?_) (fun c13 => ?_)
      · replace h := (if_pos c13).symm.trans h
        refine R_aload_n X 0 d_Mo_takesNumber_89 rfl ?_
        refine R_getI (ci := 7) X rfl iMo_ok (of_decide_eq_true rfl) rfl 14 rfl rfl tw_685 d_Mo_takesNumber_90 ?_
        refine R_putI (ci := 7) X rfl iMo_ok yMo_ok nMo_ok (of_decide_eq_true rfl) rfl 14 rfl rfl rfl rfl tw_685 d_Mo_takesNumber_93 ?_
        refine R_aload_n X 0 d_Mo_takesNumber_96 rfl ?_
        refine R_dup X d_Mo_takesNumber_97 rfl ?_
        refine V_pc (pc' := 98) rfl ?_
        refine R_getI (ci := 7) X rfl iMo_ok (of_decide_eq_true rfl) rfl 12 rfl rfl tw_683 d_Mo_takesNumber_98 ?_
        refine R_iconst (v := (1 : Int32)) X d_Mo_takesNumber_101 rfl ?_
        refine R_iadd X d_Mo_takesNumber_102 ?_
        refine R_putI (ci := 7) X rfl iMo_ok yMo_ok nMo_ok (of_decide_eq_true rfl) rfl 12 rfl rfl rfl rfl tw_683 d_Mo_takesNumber_103 ?_
        refine R_goto (tgt := 32) X d_Mo_takesNumber_106 rfl ?_
        refine V_pc (pc' := 32) rfl (R_loc (L' := [(0, .ref (gA (zG Z) 99)), (1, .int v1), (2, .int v2)]) [0, 1, 2] rfl ?_)
        exact ih (up (up p11.2 99 14 (p11.2 99 14)) 99 12 (((up p11.2 99 14 (p11.2 99 14)) 99 12) + (1 : Int32))) h
      · replace h := (if_neg c13).symm.trans h
        refine R_bipush (v := (10 : Int32)) X d_Mo_takesNumber_67 rfl ?_
        refine R_aload_n X 0 d_Mo_takesNumber_69 rfl ?_
        refine R_getI (ci := 7) X rfl iMo_ok (of_decide_eq_true rfl) rfl 14 rfl rfl tw_685 d_Mo_takesNumber_70 ?_
        refine R_imul X d_Mo_takesNumber_73 ?_
        refine R_aload_n X 0 d_Mo_takesNumber_74 rfl ?_
        refine V_pc (pc' := 75) rfl ?_
        refine R_aload_n X 0 d_Mo_takesNumber_75 rfl ?_
        refine R_getI (ci := 7) X rfl iMo_ok (of_decide_eq_true rfl) rfl 12 rfl rfl tw_683 d_Mo_takesNumber_76 ?_
        obtain ⟨p15, e14, h⟩ := ob h
        refine R_vcall (ci := 7) (k := 99) (As := [.int (p11.2 99 12)]) (st := [.int ((10 : Int32) * (p11.2 99 14)), .ref (gA (zG Z) 99)]) X (M_Mo_letterAt e14) tw_795 cf_Mo_letterAt (of_decide_eq_true rfl) rfl rfl rfl rfl rfl d_Mo_takesNumber_79 ?_
        refine R_iadd X d_Mo_takesNumber_82 ?_
        refine R_bipush (v := (48 : Int32)) X d_Mo_takesNumber_83 rfl ?_
        refine R_isub X d_Mo_takesNumber_85 ?_
        refine V_pc (pc' := 86) rfl ?_
        refine R_goto (tgt := 93) X d_Mo_takesNumber_86 rfl ?_
        refine R_putI (ci := 7) X rfl iMo_ok yMo_ok nMo_ok (of_decide_eq_true rfl) rfl 14 rfl rfl rfl rfl tw_685 d_Mo_takesNumber_93 ?_
        refine R_aload_n X 0 d_Mo_takesNumber_96 rfl ?_
        refine R_dup X d_Mo_takesNumber_97 rfl ?_
        refine R_getI (ci := 7) X rfl iMo_ok (of_decide_eq_true rfl) rfl 12 rfl rfl tw_683 d_Mo_takesNumber_98 ?_
        refine R_iconst (v := (1 : Int32)) X d_Mo_takesNumber_101 rfl ?_
        refine V_pc (pc' := 102) rfl ?_
        refine R_iadd X d_Mo_takesNumber_102 ?_
        refine R_putI (ci := 7) X rfl iMo_ok yMo_ok nMo_ok (of_decide_eq_true rfl) rfl 12 rfl rfl rfl rfl tw_683 d_Mo_takesNumber_103 ?_
        refine R_goto (tgt := 32) X d_Mo_takesNumber_106 rfl ?_
        refine V_pc (pc' := 32) rfl (R_loc (L' := [(0, .ref (gA (zG Z) 99)), (1, .int v1), (2, .int v2)]) [0, 1, 2] rfl ?_)
        exact ih (up (up p15.2 99 14 ((((10 : Int32) * (p11.2 99 14)) + p15.1) - (48 : Int32))) 99 12 (((up p15.2 99 14 ((((10 : Int32) * (p11.2 99 14)) + p15.1) - (48 : Int32))) 99 12) + (1 : Int32))) h
set_option maxRecDepth 20000 in
set_option maxHeartbeats 2000000 in
theorem T_Mo_takesNumber {Z : ZT} (X : CX Z Y_Mo_takesNumber) {hp : HP} {a1 : Int32} {a2 : Int32} {p : Int32 × HP} (h : f_Mo_takesNumber hp a1 a2 = some p) (hR : RetI Z Y_Mo_takesNumber .boolean p.1 p.2) : V Z Y_Mo_takesNumber hp 0 [(0, .ref (gA (zG Z) 99)), (1, .int a1), (2, .int a2)] [] := by
  unfold f_Mo_takesNumber at h
  refine R_aload_n X 0 d_Mo_takesNumber_0 rfl ?_
  obtain ⟨p2, e1, h⟩ := ob h
  refine R_vcall (ci := 7) (k := 99) (As := []) (st := []) X (M_Mo_here e1) tw_791 cf_Mo_here (of_decide_eq_true rfl) rfl rfl rfl rfl rfl d_Mo_takesNumber_1 ?_
  refine R_i2l X d_Mo_takesNumber_4 ?_
  refine R_ldc2 (v := (48 : Int64)) X tw_815 d_Mo_takesNumber_5 ?_
  refine R_ldc2 (v := (57 : Int64)) X tw_816 d_Mo_takesNumber_8 ?_
  refine V_pc (pc' := 11) rfl ?_
  obtain ⟨p4, e3, h⟩ := ob h
  refine R_scall (As := [.long (p2.1).toInt64, .long (48 : Int64), .long (57 : Int64)]) (st := []) X (M_Mo_in e3) tw_782 cf_Mo_in rfl rfl rfl d_Mo_takesNumber_11 ?_
  refine R_ifne (tgt := 27) X d_Mo_takesNumber_14 rfl (fun c5 => ?_) (fun c5 => ?_)
  · replace h := (if_neg c5).symm.trans h
    refine R_aload_n X 0 d_Mo_takesNumber_27 rfl ?_
    refine R_iconst (v := (0 : Int32)) X d_Mo_takesNumber_28 rfl ?_
    refine R_putI (ci := 7) X rfl iMo_ok yMo_ok nMo_ok (of_decide_eq_true rfl) rfl 14 rfl rfl rfl rfl tw_685 d_Mo_takesNumber_29 ?_
    refine V_pc (pc' := 32) rfl (R_loc (L' := [(0, .ref (gA (zG Z) 99)), (1, .int a1), (2, .int a2)]) [0, 1, 2] rfl ?_)
    refine T_Mo_takesNumber_L32 X hR (fun hp16 h => ?_) _ (up p4.2 99 14 (0 : Int32)) h
    refine R_aload_n X 0 d_Mo_takesNumber_109 rfl ?_
    refine R_getI (ci := 7) X rfl iMo_ok (of_decide_eq_true rfl) rfl 12 rfl rfl tw_683 d_Mo_takesNumber_110 ?_
    refine R_aload_n X 0 d_Mo_takesNumber_113 rfl ?_
    refine R_getI (ci := 7) X rfl iMo_ok (of_decide_eq_true rfl) rfl 13 rfl rfl tw_684 d_Mo_takesNumber_114 ?_
    refine R_isub X d_Mo_takesNumber_117 ?_
    refine V_pc (pc' := 118) rfl ?_
    refine R_iconst (v := (4 : Int32)) X d_Mo_takesNumber_118 rfl ?_
    refine R_icmp_ge (tgt := 137) X d_Mo_takesNumber_119 rfl (fun c17 => ?_) (fun c17 => ?_)
    · replace h := (if_pos c17).symm.trans h
      refine R_aload_n X 0 d_Mo_takesNumber_137 rfl ?_
      refine R_iconst (v := (2 : Int32)) X d_Mo_takesNumber_138 rfl ?_
      refine R_aload_n X 0 d_Mo_takesNumber_139 rfl ?_
      refine R_getI (ci := 7) X rfl iMo_ok (of_decide_eq_true rfl) rfl 13 rfl rfl tw_684 d_Mo_takesNumber_140 ?_
      obtain ⟨p19, e18, h⟩ := ob h
      refine R_vcall (ci := 7) (k := 99) (As := [.int (2 : Int32), .int (hp16 99 13)]) (st := []) X (M_Mo_fails e18) tw_803 cf_Mo_fails (of_decide_eq_true rfl) rfl rfl rfl rfl rfl d_Mo_takesNumber_143 ?_
      refine V_pc (pc' := 146) rfl ?_
      refine R_ifeq (tgt := 153) X d_Mo_takesNumber_146 rfl (fun c20 => ?_) (fun c20 => ?_)
      · replace h := (if_pos c20).symm.trans h
        refine R_iconst (v := (0 : Int32)) X d_Mo_takesNumber_153 rfl ?_
        exact R_retc hR (by decide) h d_Mo_takesNumber_154
      · replace h := (if_neg c20).symm.trans h
        refine R_iconst (v := (1 : Int32)) X d_Mo_takesNumber_149 rfl ?_
        refine R_goto (tgt := 154) X d_Mo_takesNumber_150 rfl ?_
        exact R_retc hR (by decide) h d_Mo_takesNumber_154
    · replace h := (if_neg c17).symm.trans h
      refine R_aload_n X 0 d_Mo_takesNumber_122 rfl ?_
      refine R_getI (ci := 7) X rfl iMo_ok (of_decide_eq_true rfl) rfl 14 rfl rfl tw_685 d_Mo_takesNumber_123 ?_
      refine R_i2l X d_Mo_takesNumber_126 ?_
      refine R_iload_n X 1 d_Mo_takesNumber_127 rfl ?_
      refine R_i2l X d_Mo_takesNumber_128 ?_
      refine V_pc (pc' := 129) rfl ?_
      refine R_iload_n X 2 d_Mo_takesNumber_129 rfl ?_
      refine R_i2l X d_Mo_takesNumber_130 ?_
      obtain ⟨p22, e21, h⟩ := ob h
      refine R_scall (As := [.long ((hp16 99 14)).toInt64, .long (a1).toInt64, .long (a2).toInt64]) (st := []) X (M_Mo_in e21) tw_782 cf_Mo_in rfl rfl rfl d_Mo_takesNumber_131 ?_
      refine R_ifne (tgt := 149) X d_Mo_takesNumber_134 rfl (fun c23 => ?_) (fun c23 => ?_)
      · replace h := (if_neg c23).symm.trans h
        refine R_iconst (v := (1 : Int32)) X d_Mo_takesNumber_149 rfl ?_
        refine R_goto (tgt := 154) X d_Mo_takesNumber_150 rfl ?_
        exact R_retc hR (by decide) h d_Mo_takesNumber_154
      · replace h := (if_pos c23).symm.trans h
        refine R_aload_n X 0 d_Mo_takesNumber_137 rfl ?_
        refine R_iconst (v := (2 : Int32)) X d_Mo_takesNumber_138 rfl ?_
        refine R_aload_n X 0 d_Mo_takesNumber_139 rfl ?_
        refine R_getI (ci := 7) X rfl iMo_ok (of_decide_eq_true rfl) rfl 13 rfl rfl tw_684 d_Mo_takesNumber_140 ?_
        obtain ⟨p25, e24, h⟩ := ob h
        refine R_vcall (ci := 7) (k := 99) (As := [.int (2 : Int32), .int (p22.2 99 13)]) (st := []) X (M_Mo_fails e24) tw_803 cf_Mo_fails (of_decide_eq_true rfl) rfl rfl rfl rfl rfl d_Mo_takesNumber_143 ?_
        refine V_pc (pc' := 146) rfl ?_
        refine R_ifeq (tgt := 153) X d_Mo_takesNumber_146 rfl (fun c26 => ?_) (fun c26 => ?_)
        · replace h := (if_pos c26).symm.trans h
          refine R_iconst (v := (0 : Int32)) X d_Mo_takesNumber_153 rfl ?_
          exact R_retc hR (by decide) h d_Mo_takesNumber_154
        · replace h := (if_neg c26).symm.trans h
          refine R_iconst (v := (1 : Int32)) X d_Mo_takesNumber_149 rfl ?_
          refine R_goto (tgt := 154) X d_Mo_takesNumber_150 rfl ?_
          exact R_retc hR (by decide) h d_Mo_takesNumber_154
  · replace h := (if_pos c5).symm.trans h
    refine R_aload_n X 0 d_Mo_takesNumber_17 rfl ?_
    refine R_iconst (v := (1 : Int32)) X d_Mo_takesNumber_18 rfl ?_
    refine R_aload_n X 0 d_Mo_takesNumber_19 rfl ?_
    refine R_getI (ci := 7) X rfl iMo_ok (of_decide_eq_true rfl) rfl 13 rfl rfl tw_684 d_Mo_takesNumber_20 ?_
    obtain ⟨p7, e6, h⟩ := ob h
    refine R_vcall (ci := 7) (k := 99) (As := [.int (1 : Int32), .int (p4.2 99 13)]) (st := []) X (M_Mo_fails e6) tw_803 cf_Mo_fails (of_decide_eq_true rfl) rfl rfl rfl rfl rfl d_Mo_takesNumber_23 ?_
    refine V_pc (pc' := 26) rfl ?_
    exact R_retz hR h d_Mo_takesNumber_26
theorem M_Mo_takesNumber {G : GT} {hp : HP} {a1 : Int32} {a2 : Int32} {p : Int32 × HP} (h : f_Mo_takesNumber hp a1 a2 = some p) : MI G y_Mo_takesNumber Y_Mo_takesNumber .boolean [.ref (gA G 99), .int a1, .int a2] hp p.1 p.2 := MI_of rfl (fun Z hz X hR => by subst hz; exact T_Mo_takesNumber X h hR)
theorem d_Mo_takesBranch_0 : decode prog_9_method_17_code 0 = .ok (.iconst 1, 1) := by decide +kernel
theorem d_Mo_takesBranch_1 : decode prog_9_method_17_code 1 = .ok (.istore_n 1, 1) := by decide +kernel
theorem d_Mo_takesBranch_2 : decode prog_9_method_17_code 2 = .ok (.iload_n 1, 1) := by decide +kernel
theorem d_Mo_takesBranch_3 : decode prog_9_method_17_code 3 = .ok (.ifCond .eq (98), 3) := by decide +kernel
theorem d_Mo_takesBranch_6 : decode prog_9_method_17_code 6 = .ok (.aload_n 0, 1) := by decide +kernel
theorem d_Mo_takesBranch_7 : decode prog_9_method_17_code 7 = .ok (.iconst 0, 1) := by decide +kernel
theorem d_Mo_takesBranch_8 : decode prog_9_method_17_code 8 = .ok (.sipush (999), 3) := by decide +kernel
theorem d_Mo_takesBranch_11 : decode prog_9_method_17_code 11 = .ok (.invokevirtual 121, 3) := by decide +kernel
theorem d_Mo_takesBranch_14 : decode prog_9_method_17_code 14 = .ok (.ifCond .ne (5), 3) := by decide +kernel
theorem d_Mo_takesBranch_17 : decode prog_9_method_17_code 17 = .ok (.iconst 0, 1) := by decide +kernel
theorem d_Mo_takesBranch_18 : decode prog_9_method_17_code 18 = .ok (.ireturn, 1) := by decide +kernel
theorem d_Mo_takesBranch_19 : decode prog_9_method_17_code 19 = .ok (.aload_n 0, 1) := by decide +kernel
theorem d_Mo_takesBranch_20 : decode prog_9_method_17_code 20 = .ok (.getfield 36, 3) := by decide +kernel
theorem d_Mo_takesBranch_23 : decode prog_9_method_17_code 23 = .ok (.aload_n 0, 1) := by decide +kernel
theorem d_Mo_takesBranch_24 : decode prog_9_method_17_code 24 = .ok (.getfield 124, 3) := by decide +kernel
theorem d_Mo_takesBranch_27 : decode prog_9_method_17_code 27 = .ok (.aload_n 0, 1) := by decide +kernel
theorem d_Mo_takesBranch_28 : decode prog_9_method_17_code 28 = .ok (.getfield 118, 3) := by decide +kernel
theorem d_Mo_takesBranch_31 : decode prog_9_method_17_code 31 = .ok (.iastore, 1) := by decide +kernel
theorem d_Mo_takesBranch_32 : decode prog_9_method_17_code 32 = .ok (.aload_n 0, 1) := by decide +kernel
theorem d_Mo_takesBranch_33 : decode prog_9_method_17_code 33 = .ok (.dup, 1) := by decide +kernel
theorem d_Mo_takesBranch_34 : decode prog_9_method_17_code 34 = .ok (.getfield 124, 3) := by decide +kernel
theorem d_Mo_takesBranch_37 : decode prog_9_method_17_code 37 = .ok (.iconst 1, 1) := by decide +kernel
theorem d_Mo_takesBranch_38 : decode prog_9_method_17_code 38 = .ok (.iadd, 1) := by decide +kernel
theorem d_Mo_takesBranch_39 : decode prog_9_method_17_code 39 = .ok (.putfield 124, 3) := by decide +kernel
theorem d_Mo_takesBranch_42 : decode prog_9_method_17_code 42 = .ok (.aload_n 0, 1) := by decide +kernel
theorem d_Mo_takesBranch_43 : decode prog_9_method_17_code 43 = .ok (.invokevirtual 106, 3) := by decide +kernel
theorem d_Mo_takesBranch_46 : decode prog_9_method_17_code 46 = .ok (.bipush (44), 2) := by decide +kernel
theorem d_Mo_takesBranch_48 : decode prog_9_method_17_code 48 = .ok (.if_icmp .ne (7), 3) := by decide +kernel
theorem d_Mo_takesBranch_51 : decode prog_9_method_17_code 51 = .ok (.iconst 1, 1) := by decide +kernel
theorem d_Mo_takesBranch_52 : decode prog_9_method_17_code 52 = .ok (.goto (4), 3) := by decide +kernel
theorem d_Mo_takesBranch_55 : decode prog_9_method_17_code 55 = .ok (.iconst 0, 1) := by decide +kernel
theorem d_Mo_takesBranch_56 : decode prog_9_method_17_code 56 = .ok (.istore_n 1, 1) := by decide +kernel
theorem d_Mo_takesBranch_57 : decode prog_9_method_17_code 57 = .ok (.iload_n 1, 1) := by decide +kernel
theorem d_Mo_takesBranch_58 : decode prog_9_method_17_code 58 = .ok (.ifCond .eq (22), 3) := by decide +kernel
theorem d_Mo_takesBranch_61 : decode prog_9_method_17_code 61 = .ok (.aload_n 0, 1) := by decide +kernel
theorem d_Mo_takesBranch_62 : decode prog_9_method_17_code 62 = .ok (.getfield 124, 3) := by decide +kernel
theorem d_Mo_takesBranch_65 : decode prog_9_method_17_code 65 = .ok (.bipush (8), 2) := by decide +kernel
theorem d_Mo_takesBranch_67 : decode prog_9_method_17_code 67 = .ok (.if_icmp .ne (13), 3) := by decide +kernel
theorem d_Mo_takesBranch_70 : decode prog_9_method_17_code 70 = .ok (.aload_n 0, 1) := by decide +kernel
theorem d_Mo_takesBranch_71 : decode prog_9_method_17_code 71 = .ok (.iconst 1, 1) := by decide +kernel
theorem d_Mo_takesBranch_72 : decode prog_9_method_17_code 72 = .ok (.aload_n 0, 1) := by decide +kernel
theorem d_Mo_takesBranch_73 : decode prog_9_method_17_code 73 = .ok (.getfield 100, 3) := by decide +kernel
theorem d_Mo_takesBranch_76 : decode prog_9_method_17_code 76 = .ok (.invokevirtual 110, 3) := by decide +kernel
theorem d_Mo_takesBranch_79 : decode prog_9_method_17_code 79 = .ok (.ireturn, 1) := by decide +kernel
theorem d_Mo_takesBranch_80 : decode prog_9_method_17_code 80 = .ok (.aload_n 0, 1) := by decide +kernel
theorem d_Mo_takesBranch_81 : decode prog_9_method_17_code 81 = .ok (.dup, 1) := by decide +kernel
theorem d_Mo_takesBranch_82 : decode prog_9_method_17_code 82 = .ok (.getfield 93, 3) := by decide +kernel
theorem d_Mo_takesBranch_85 : decode prog_9_method_17_code 85 = .ok (.iload_n 1, 1) := by decide +kernel
theorem d_Mo_takesBranch_86 : decode prog_9_method_17_code 86 = .ok (.ifCond .eq (7), 3) := by decide +kernel
theorem d_Mo_takesBranch_89 : decode prog_9_method_17_code 89 = .ok (.iconst 1, 1) := by decide +kernel
theorem d_Mo_takesBranch_90 : decode prog_9_method_17_code 90 = .ok (.goto (4), 3) := by decide +kernel
theorem d_Mo_takesBranch_93 : decode prog_9_method_17_code 93 = .ok (.iconst 0, 1) := by decide +kernel
theorem d_Mo_takesBranch_94 : decode prog_9_method_17_code 94 = .ok (.iadd, 1) := by decide +kernel
theorem d_Mo_takesBranch_95 : decode prog_9_method_17_code 95 = .ok (.putfield 93, 3) := by decide +kernel
theorem d_Mo_takesBranch_98 : decode prog_9_method_17_code 98 = .ok (.goto (-96), 3) := by decide +kernel
theorem d_Mo_takesBranch_101 : decode prog_9_method_17_code 101 = .ok (.iconst 1, 1) := by decide +kernel
theorem d_Mo_takesBranch_102 : decode prog_9_method_17_code 102 = .ok (.ireturn, 1) := by decide +kernel
set_option maxRecDepth 20000 in
set_option maxHeartbeats 2000000 in
theorem T_Mo_takesBranch_L2 {Z : ZT} (X : CX Z Y_Mo_takesBranch) {p : Int32 × HP} (hR : RetI Z Y_Mo_takesBranch .boolean p.1 p.2) {K : HP → Option (Int32 × HP)} (hK : ∀ (hp : HP), K hp = some p → V Z Y_Mo_takesBranch hp 101 [] []) : ∀ (n : Nat) (hp : HP) (x1 : Int32), f_Mo_takesBranch_L2 K n hp x1 = some p → V Z Y_Mo_takesBranch hp 2 [(0, .ref (gA (zG Z) 99)), (1, .int x1)] [] := by
  intro n
  induction n with
  | zero =>
    intro hp x1 h
    cases h
  | succ n ih =>
    intro hp x1 h
    replace h : f_Mo_takesBranch_L2 K (n + 1) hp x1 = some p := h
    unfold f_Mo_takesBranch_L2 at h
    refine R_iload_n X 1 d_Mo_takesBranch_2 rfl ?_
    refine R_ifeq (tgt := 101) X d_Mo_takesBranch_3 rfl (fun c1 => ?_) (fun c1 => ?_)
    · replace h := (if_pos c1).symm.trans h
      refine V_pc (pc' := 101) rfl (R_loc (L' := []) [] rfl ?_)
      exact hK hp h
    · replace h := (if_neg c1).symm.trans h
      refine R_aload_n X 0 d_Mo_takesBranch_6 rfl ?_
      refine R_iconst (v := (0 : Int32)) X d_Mo_takesBranch_7 rfl ?_
      refine R_sipush (v := (999 : Int32)) X d_Mo_takesBranch_8 rfl ?_
      obtain ⟨p3, e2, h⟩ := ob h
      refine R_vcall (ci := 7) (k := 99) (As := [.int (0 : Int32), .int (999 : Int32)]) (st := []) X (M_Mo_takesNumber e2) tw_811 cf_Mo_takesNumber (of_decide_eq_true rfl) rfl rfl rfl rfl rfl d_Mo_takesBranch_11 ?_
      refine R_ifne (tgt := 19) X d_Mo_takesBranch_14 rfl (fun c4 => ?_) (fun c4 => ?_)
      · replace h := (if_neg c4).symm.trans h
        refine R_aload_n X 0 d_Mo_takesBranch_19 rfl ?_
        refine R_getR (ci := 7) X rfl iMo_ok (of_decide_eq_true rfl) rfl 18 rfl rfl tw_689 d_Mo_takesBranch_20 ?_
        refine R_aload_n X 0 d_Mo_takesBranch_23 rfl ?_
        refine R_getI (ci := 7) X rfl iMo_ok (of_decide_eq_true rfl) rfl 17 rfl rfl tw_688 d_Mo_takesBranch_24 ?_
        refine R_aload_n X 0 d_Mo_takesBranch_27 rfl ?_
        refine V_pc (pc' := 28) rfl ?_
        refine R_getI (ci := 7) X rfl iMo_ok (of_decide_eq_true rfl) rfl 14 rfl rfl tw_685 d_Mo_takesBranch_28 ?_
        obtain ⟨i5, h⟩ := ck h
        refine R_iast (n := 8) X (of_decide_eq_true rfl) rfl i5 d_Mo_takesBranch_31 ?_
        refine R_aload_n X 0 d_Mo_takesBranch_32 rfl ?_
        refine R_dup X d_Mo_takesBranch_33 rfl ?_
        refine R_getI (ci := 7) X rfl iMo_ok (of_decide_eq_true rfl) rfl 17 rfl rfl tw_688 d_Mo_takesBranch_34 ?_
        refine R_iconst (v := (1 : Int32)) X d_Mo_takesBranch_37 rfl ?_
        refine V_pc (pc' := 38) rfl ?_
        refine R_iadd X d_Mo_takesBranch_38 ?_
        refine R_putI (ci := 7) X rfl iMo_ok yMo_ok nMo_ok (of_decide_eq_true rfl) rfl 17 rfl rfl rfl rfl tw_688 d_Mo_takesBranch_39 ?_
        refine R_aload_n X 0 d_Mo_takesBranch_42 rfl ?_
        obtain ⟨p7, e6, h⟩ := ob h
        refine R_vcall (ci := 7) (k := 99) (As := []) (st := []) X (M_Mo_here e6) tw_791 cf_Mo_here (of_decide_eq_true rfl) rfl rfl rfl rfl rfl d_Mo_takesBranch_43 ?_
        refine R_bipush (v := (44 : Int32)) X d_Mo_takesBranch_46 rfl ?_
        refine R_icmp_ne (tgt := 55) X d_Mo_takesBranch_48 rfl (fun c8 => ?_) (fun c8 => ?_)
        · replace h := (if_neg c8).symm.trans h
          refine R_iconst (v := (0 : Int32)) X d_Mo_takesBranch_55 rfl ?_
          refine R_istore_n (L' := [(1, .int (0 : Int32)), (0, .ref (gA (zG Z) 99))]) X d_Mo_takesBranch_56 (by decide) rfl ?_
          refine R_iload_n X 0 d_Mo_takesBranch_57 rfl ?_
          refine R_ifeq (tgt := 80) X d_Mo_takesBranch_58 rfl (fun c14 => ?_) (fun c14 => absurd (by decide) c14)
          refine R_aload_n X 1 d_Mo_takesBranch_80 rfl ?_
          refine V_pc (pc' := 81) rfl ?_
          refine R_dup X d_Mo_takesBranch_81 rfl ?_
          refine R_getI (ci := 7) X rfl iMo_ok (of_decide_eq_true rfl) rfl 12 rfl rfl tw_683 d_Mo_takesBranch_82 ?_
          refine R_iload_n X 0 d_Mo_takesBranch_85 rfl ?_
          refine R_ifeq (tgt := 93) X d_Mo_takesBranch_86 rfl (fun c15 => ?_) (fun c15 => absurd (by decide) c15)
          refine R_iconst (v := (0 : Int32)) X d_Mo_takesBranch_93 rfl ?_
          refine R_iadd X d_Mo_takesBranch_94 ?_
          refine V_pc (pc' := 95) rfl ?_
          refine R_putI (ci := 7) X rfl iMo_ok yMo_ok nMo_ok (of_decide_eq_true rfl) rfl 12 rfl rfl rfl rfl tw_683 d_Mo_takesBranch_95 ?_
          refine R_goto (tgt := 2) X d_Mo_takesBranch_98 rfl ?_
          refine V_pc (pc' := 2) rfl (R_loc (L' := [(0, .ref (gA (zG Z) 99)), (1, .int (0 : Int32))]) [1, 0] rfl ?_)
          exact ih (up p7.2 99 12 ((p7.2 99 12) + (0 : Int32))) (0 : Int32) h
        · replace h := (if_pos c8).symm.trans h
          refine R_iconst (v := (1 : Int32)) X d_Mo_takesBranch_51 rfl ?_
          refine R_goto (tgt := 56) X d_Mo_takesBranch_52 rfl ?_
          refine R_istore_n (L' := [(1, .int (1 : Int32)), (0, .ref (gA (zG Z) 99))]) X d_Mo_takesBranch_56 (by decide) rfl ?_
          refine R_iload_n X 0 d_Mo_takesBranch_57 rfl ?_
          refine R_ifeq (tgt := 80) X d_Mo_takesBranch_58 rfl (fun c9 => absurd c9 (by decide)) (fun c9 => ?_)
          refine V_pc (pc' := 61) rfl ?_
          refine R_aload_n X 1 d_Mo_takesBranch_61 rfl ?_
          refine R_getI (ci := 7) X rfl iMo_ok (of_decide_eq_true rfl) rfl 17 rfl rfl tw_688 d_Mo_takesBranch_62 ?_
          refine R_bipush (v := (8 : Int32)) X d_Mo_takesBranch_65 rfl ?_
          refine R_icmp_ne (tgt := 80) X d_Mo_takesBranch_67 rfl (fun c10 => ?_) (fun c10 => ?_)
          · replace h := (if_neg c10).symm.trans h
            refine R_aload_n X 1 d_Mo_takesBranch_80 rfl ?_
            refine R_dup X d_Mo_takesBranch_81 rfl ?_
            refine R_getI (ci := 7) X rfl iMo_ok (of_decide_eq_true rfl) rfl 12 rfl rfl tw_683 d_Mo_takesBranch_82 ?_
            refine R_iload_n X 0 d_Mo_takesBranch_85 rfl ?_
            refine R_ifeq (tgt := 93) X d_Mo_takesBranch_86 rfl (fun c13 => absurd c13 (by decide)) (fun c13 => ?_)
            refine V_pc (pc' := 89) rfl ?_
            refine R_iconst (v := (1 : Int32)) X d_Mo_takesBranch_89 rfl ?_
            refine R_goto (tgt := 94) X d_Mo_takesBranch_90 rfl ?_
            refine R_iadd X d_Mo_takesBranch_94 ?_
            refine R_putI (ci := 7) X rfl iMo_ok yMo_ok nMo_ok (of_decide_eq_true rfl) rfl 12 rfl rfl rfl rfl tw_683 d_Mo_takesBranch_95 ?_
            refine R_goto (tgt := 2) X d_Mo_takesBranch_98 rfl ?_
            refine V_pc (pc' := 2) rfl (R_loc (L' := [(0, .ref (gA (zG Z) 99)), (1, .int (1 : Int32))]) [1, 0] rfl ?_)
            exact ih (up p7.2 99 12 ((p7.2 99 12) + (1 : Int32))) (1 : Int32) h
          · replace h := (if_pos c10).symm.trans h
            refine R_aload_n X 1 d_Mo_takesBranch_70 rfl ?_
            refine R_iconst (v := (1 : Int32)) X d_Mo_takesBranch_71 rfl ?_
            refine R_aload_n X 1 d_Mo_takesBranch_72 rfl ?_
            refine R_getI (ci := 7) X rfl iMo_ok (of_decide_eq_true rfl) rfl 13 rfl rfl tw_684 d_Mo_takesBranch_73 ?_
            obtain ⟨p12, e11, h⟩ := ob h
            refine R_vcall (ci := 7) (k := 99) (As := [.int (1 : Int32), .int (p7.2 99 13)]) (st := []) X (M_Mo_fails e11) tw_803 cf_Mo_fails (of_decide_eq_true rfl) rfl rfl rfl rfl rfl d_Mo_takesBranch_76 ?_
            refine V_pc (pc' := 79) rfl ?_
            exact R_retz hR h d_Mo_takesBranch_79
      · replace h := (if_pos c4).symm.trans h
        refine R_iconst (v := (0 : Int32)) X d_Mo_takesBranch_17 rfl ?_
        exact R_retc hR (by decide) h d_Mo_takesBranch_18
set_option maxRecDepth 20000 in
set_option maxHeartbeats 2000000 in
theorem T_Mo_takesBranch {Z : ZT} (X : CX Z Y_Mo_takesBranch) {hp : HP} {p : Int32 × HP} (h : f_Mo_takesBranch hp = some p) (hR : RetI Z Y_Mo_takesBranch .boolean p.1 p.2) : V Z Y_Mo_takesBranch hp 0 [(0, .ref (gA (zG Z) 99))] [] := by
  unfold f_Mo_takesBranch at h
  refine R_iconst (v := (1 : Int32)) X d_Mo_takesBranch_0 rfl ?_
  refine R_istore_n (L' := [(1, .int (1 : Int32)), (0, .ref (gA (zG Z) 99))]) X d_Mo_takesBranch_1 (by decide) rfl ?_
  refine V_pc (pc' := 2) rfl (R_loc (L' := [(0, .ref (gA (zG Z) 99)), (1, .int (1 : Int32))]) [1, 0] rfl ?_)
  refine T_Mo_takesBranch_L2 X hR (fun hp16 h => ?_) _ hp (1 : Int32) h
  refine R_iconst (v := (1 : Int32)) X d_Mo_takesBranch_101 rfl ?_
  exact R_retc hR (by decide) h d_Mo_takesBranch_102
theorem M_Mo_takesBranch {G : GT} {hp : HP} {p : Int32 × HP} (h : f_Mo_takesBranch hp = some p) : MI G y_Mo_takesBranch Y_Mo_takesBranch .boolean [.ref (gA G 99)] hp p.1 p.2 := MI_of rfl (fun Z hz X hR => by subst hz; exact T_Mo_takesBranch X h hR)
theorem d_Mo_takesCustomer_0 : decode prog_9_method_18_code 0 = .ok (.iconst 0, 1) := by decide +kernel
theorem d_Mo_takesCustomer_1 : decode prog_9_method_18_code 1 = .ok (.istore_n 1, 1) := by decide +kernel
theorem d_Mo_takesCustomer_2 : decode prog_9_method_18_code 2 = .ok (.iload_n 1, 1) := by decide +kernel
theorem d_Mo_takesCustomer_3 : decode prog_9_method_18_code 3 = .ok (.iconst 3, 1) := by decide +kernel
theorem d_Mo_takesCustomer_4 : decode prog_9_method_18_code 4 = .ok (.if_icmp .ge (48), 3) := by decide +kernel
theorem d_Mo_takesCustomer_7 : decode prog_9_method_18_code 7 = .ok (.aload_n 0, 1) := by decide +kernel
theorem d_Mo_takesCustomer_8 : decode prog_9_method_18_code 8 = .ok (.iconst 0, 1) := by decide +kernel
theorem d_Mo_takesCustomer_9 : decode prog_9_method_18_code 9 = .ok (.iload_n 1, 1) := by decide +kernel
theorem d_Mo_takesCustomer_10 : decode prog_9_method_18_code 10 = .ok (.ifCond .ne (9), 3) := by decide +kernel
theorem d_Mo_takesCustomer_13 : decode prog_9_method_18_code 13 = .ok (.sipush (999), 3) := by decide +kernel
theorem d_Mo_takesCustomer_16 : decode prog_9_method_18_code 16 = .ok (.goto (5), 3) := by decide +kernel
theorem d_Mo_takesCustomer_19 : decode prog_9_method_18_code 19 = .ok (.bipush (99), 2) := by decide +kernel
theorem d_Mo_takesCustomer_21 : decode prog_9_method_18_code 21 = .ok (.invokevirtual 121, 3) := by decide +kernel
theorem d_Mo_takesCustomer_24 : decode prog_9_method_18_code 24 = .ok (.ifCond .ne (5), 3) := by decide +kernel
theorem d_Mo_takesCustomer_27 : decode prog_9_method_18_code 27 = .ok (.iconst 0, 1) := by decide +kernel
theorem d_Mo_takesCustomer_28 : decode prog_9_method_18_code 28 = .ok (.ireturn, 1) := by decide +kernel
theorem d_Mo_takesCustomer_29 : decode prog_9_method_18_code 29 = .ok (.aload_n 0, 1) := by decide +kernel
theorem d_Mo_takesCustomer_30 : decode prog_9_method_18_code 30 = .ok (.getfield 39, 3) := by decide +kernel
theorem d_Mo_takesCustomer_33 : decode prog_9_method_18_code 33 = .ok (.iconst 3, 1) := by decide +kernel
theorem d_Mo_takesCustomer_34 : decode prog_9_method_18_code 34 = .ok (.aload_n 0, 1) := by decide +kernel
theorem d_Mo_takesCustomer_35 : decode prog_9_method_18_code 35 = .ok (.getfield 127, 3) := by decide +kernel
theorem d_Mo_takesCustomer_38 : decode prog_9_method_18_code 38 = .ok (.imul, 1) := by decide +kernel
theorem d_Mo_takesCustomer_39 : decode prog_9_method_18_code 39 = .ok (.iload_n 1, 1) := by decide +kernel
theorem d_Mo_takesCustomer_40 : decode prog_9_method_18_code 40 = .ok (.iadd, 1) := by decide +kernel
theorem d_Mo_takesCustomer_41 : decode prog_9_method_18_code 41 = .ok (.aload_n 0, 1) := by decide +kernel
theorem d_Mo_takesCustomer_42 : decode prog_9_method_18_code 42 = .ok (.getfield 118, 3) := by decide +kernel
theorem d_Mo_takesCustomer_45 : decode prog_9_method_18_code 45 = .ok (.iastore, 1) := by decide +kernel
theorem d_Mo_takesCustomer_46 : decode prog_9_method_18_code 46 = .ok (.iinc 1 (1), 3) := by decide +kernel
theorem d_Mo_takesCustomer_49 : decode prog_9_method_18_code 49 = .ok (.goto (-47), 3) := by decide +kernel
theorem d_Mo_takesCustomer_52 : decode prog_9_method_18_code 52 = .ok (.aload_n 0, 1) := by decide +kernel
theorem d_Mo_takesCustomer_53 : decode prog_9_method_18_code 53 = .ok (.dup, 1) := by decide +kernel
theorem d_Mo_takesCustomer_54 : decode prog_9_method_18_code 54 = .ok (.getfield 127, 3) := by decide +kernel
theorem d_Mo_takesCustomer_57 : decode prog_9_method_18_code 57 = .ok (.iconst 1, 1) := by decide +kernel
theorem d_Mo_takesCustomer_58 : decode prog_9_method_18_code 58 = .ok (.iadd, 1) := by decide +kernel
theorem d_Mo_takesCustomer_59 : decode prog_9_method_18_code 59 = .ok (.putfield 127, 3) := by decide +kernel
theorem d_Mo_takesCustomer_62 : decode prog_9_method_18_code 62 = .ok (.iconst 1, 1) := by decide +kernel
theorem d_Mo_takesCustomer_63 : decode prog_9_method_18_code 63 = .ok (.ireturn, 1) := by decide +kernel
set_option maxRecDepth 20000 in
set_option maxHeartbeats 2000000 in
theorem T_Mo_takesCustomer_L2 {Z : ZT} (X : CX Z Y_Mo_takesCustomer) {p : Int32 × HP} (hR : RetI Z Y_Mo_takesCustomer .boolean p.1 p.2) {K : HP → Option (Int32 × HP)} (hK : ∀ (hp : HP), K hp = some p → V Z Y_Mo_takesCustomer hp 52 [(0, .ref (gA (zG Z) 99))] []) : ∀ (n : Nat) (hp : HP) (x1 : Int32), f_Mo_takesCustomer_L2 K n hp x1 = some p → V Z Y_Mo_takesCustomer hp 2 [(0, .ref (gA (zG Z) 99)), (1, .int x1)] [] := by
  intro n
  induction n with
  | zero =>
    intro hp x1 h
    cases h
  | succ n ih =>
    intro hp x1 h
    replace h : f_Mo_takesCustomer_L2 K (n + 1) hp x1 = some p := h
    unfold f_Mo_takesCustomer_L2 at h
    refine R_iload_n X 1 d_Mo_takesCustomer_2 rfl ?_
    refine R_iconst (v := (3 : Int32)) X d_Mo_takesCustomer_3 rfl ?_
    refine R_icmp_ge (tgt := 52) X d_Mo_takesCustomer_4 rfl (fun c1 => ?_) (fun c1 => ?_)
    · replace h := (if_pos c1).symm.trans h
      refine V_pc (pc' := 52) rfl (R_loc (L' := [(0, .ref (gA (zG Z) 99))]) [0] rfl ?_)
      exact hK hp h
    · replace h := (if_neg c1).symm.trans h
      refine R_aload_n X 0 d_Mo_takesCustomer_7 rfl ?_
      refine R_iconst (v := (0 : Int32)) X d_Mo_takesCustomer_8 rfl ?_
      refine R_iload_n X 1 d_Mo_takesCustomer_9 rfl ?_
      refine R_ifne (tgt := 19) X d_Mo_takesCustomer_10 rfl (fun c2 => ?_) (fun c2 => ?_)
      · replace h := (if_neg c2).symm.trans h
        refine R_bipush (v := (99 : Int32)) X d_Mo_takesCustomer_19 rfl ?_
        obtain ⟨p8, e7, h⟩ := ob h
        refine R_vcall (ci := 7) (k := 99) (As := [.int (0 : Int32), .int (99 : Int32)]) (st := []) X (M_Mo_takesNumber e7) tw_811 cf_Mo_takesNumber (of_decide_eq_true rfl) rfl rfl rfl rfl rfl d_Mo_takesCustomer_21 ?_
        refine R_ifne (tgt := 29) X d_Mo_takesCustomer_24 rfl (fun c9 => ?_) (fun c9 => ?_)
        · replace h := (if_neg c9).symm.trans h
          refine R_aload_n X 0 d_Mo_takesCustomer_29 rfl ?_
          refine R_getR (ci := 7) X rfl iMo_ok (of_decide_eq_true rfl) rfl 20 rfl rfl tw_691 d_Mo_takesCustomer_30 ?_
          refine R_iconst (v := (3 : Int32)) X d_Mo_takesCustomer_33 rfl ?_
          refine R_aload_n X 0 d_Mo_takesCustomer_34 rfl ?_
          refine R_getI (ci := 7) X rfl iMo_ok (of_decide_eq_true rfl) rfl 19 rfl rfl tw_690 d_Mo_takesCustomer_35 ?_
          refine V_pc (pc' := 38) rfl ?_
          refine R_imul X d_Mo_takesCustomer_38 ?_
          refine R_iload_n X 1 d_Mo_takesCustomer_39 rfl ?_
          refine R_iadd X d_Mo_takesCustomer_40 ?_
          refine R_aload_n X 0 d_Mo_takesCustomer_41 rfl ?_
          refine R_getI (ci := 7) X rfl iMo_ok (of_decide_eq_true rfl) rfl 14 rfl rfl tw_685 d_Mo_takesCustomer_42 ?_
          obtain ⟨i10, h⟩ := ck h
          refine R_iast (n := 15) X (of_decide_eq_true rfl) rfl i10 d_Mo_takesCustomer_45 ?_
          refine V_pc (pc' := 46) rfl ?_
          refine R_iinc (v := (x1 + 1)) (L' := [(1, .int (x1 + 1)), (0, .ref (gA (zG Z) 99))]) X 1 d_Mo_takesCustomer_46 rfl rfl (by decide) rfl ?_
          refine R_goto (tgt := 2) X d_Mo_takesCustomer_49 rfl ?_
          refine V_pc (pc' := 2) rfl (R_loc (L' := [(0, .ref (gA (zG Z) 99)), (1, .int (x1 + 1))]) [1, 0] rfl ?_)
          exact ih (up p8.2 108 ((((3 : Int32) * (p8.2 99 19)) + x1)).toNatClampNeg (p8.2 99 14)) (x1 + 1) h
        · replace h := (if_pos c9).symm.trans h
          refine R_iconst (v := (0 : Int32)) X d_Mo_takesCustomer_27 rfl ?_
          exact R_retc hR (by decide) h d_Mo_takesCustomer_28
      · replace h := (if_pos c2).symm.trans h
        refine R_sipush (v := (999 : Int32)) X d_Mo_takesCustomer_13 rfl ?_
        refine R_goto (tgt := 21) X d_Mo_takesCustomer_16 rfl ?_
        obtain ⟨p4, e3, h⟩ := ob h
        refine R_vcall (ci := 7) (k := 99) (As := [.int (0 : Int32), .int (999 : Int32)]) (st := []) X (M_Mo_takesNumber e3) tw_811 cf_Mo_takesNumber (of_decide_eq_true rfl) rfl rfl rfl rfl rfl d_Mo_takesCustomer_21 ?_
        refine R_ifne (tgt := 29) X d_Mo_takesCustomer_24 rfl (fun c5 => ?_) (fun c5 => ?_)
        · replace h := (if_neg c5).symm.trans h
          refine R_aload_n X 0 d_Mo_takesCustomer_29 rfl ?_
          refine R_getR (ci := 7) X rfl iMo_ok (of_decide_eq_true rfl) rfl 20 rfl rfl tw_691 d_Mo_takesCustomer_30 ?_
          refine R_iconst (v := (3 : Int32)) X d_Mo_takesCustomer_33 rfl ?_
          refine R_aload_n X 0 d_Mo_takesCustomer_34 rfl ?_
          refine R_getI (ci := 7) X rfl iMo_ok (of_decide_eq_true rfl) rfl 19 rfl rfl tw_690 d_Mo_takesCustomer_35 ?_
          refine V_pc (pc' := 38) rfl ?_
          refine R_imul X d_Mo_takesCustomer_38 ?_
          refine R_iload_n X 1 d_Mo_takesCustomer_39 rfl ?_
          refine R_iadd X d_Mo_takesCustomer_40 ?_
          refine R_aload_n X 0 d_Mo_takesCustomer_41 rfl ?_
          refine R_getI (ci := 7) X rfl iMo_ok (of_decide_eq_true rfl) rfl 14 rfl rfl tw_685 d_Mo_takesCustomer_42 ?_
          obtain ⟨i6, h⟩ := ck h
          refine R_iast (n := 15) X (of_decide_eq_true rfl) rfl i6 d_Mo_takesCustomer_45 ?_
          refine V_pc (pc' := 46) rfl ?_
          refine R_iinc (v := (x1 + 1)) (L' := [(1, .int (x1 + 1)), (0, .ref (gA (zG Z) 99))]) X 1 d_Mo_takesCustomer_46 rfl rfl (by decide) rfl ?_
          refine R_goto (tgt := 2) X d_Mo_takesCustomer_49 rfl ?_
          refine V_pc (pc' := 2) rfl (R_loc (L' := [(0, .ref (gA (zG Z) 99)), (1, .int (x1 + 1))]) [1, 0] rfl ?_)
          exact ih (up p4.2 108 ((((3 : Int32) * (p4.2 99 19)) + x1)).toNatClampNeg (p4.2 99 14)) (x1 + 1) h
        · replace h := (if_pos c5).symm.trans h
          refine R_iconst (v := (0 : Int32)) X d_Mo_takesCustomer_27 rfl ?_
          exact R_retc hR (by decide) h d_Mo_takesCustomer_28
set_option maxRecDepth 20000 in
set_option maxHeartbeats 2000000 in
theorem T_Mo_takesCustomer {Z : ZT} (X : CX Z Y_Mo_takesCustomer) {hp : HP} {p : Int32 × HP} (h : f_Mo_takesCustomer hp = some p) (hR : RetI Z Y_Mo_takesCustomer .boolean p.1 p.2) : V Z Y_Mo_takesCustomer hp 0 [(0, .ref (gA (zG Z) 99))] [] := by
  unfold f_Mo_takesCustomer at h
  refine R_iconst (v := (0 : Int32)) X d_Mo_takesCustomer_0 rfl ?_
  refine R_istore_n (L' := [(1, .int (0 : Int32)), (0, .ref (gA (zG Z) 99))]) X d_Mo_takesCustomer_1 (by decide) rfl ?_
  refine V_pc (pc' := 2) rfl (R_loc (L' := [(0, .ref (gA (zG Z) 99)), (1, .int (0 : Int32))]) [1, 0] rfl ?_)
  refine T_Mo_takesCustomer_L2 X hR (fun hp11 h => ?_) _ hp (0 : Int32) h
  refine R_aload_n X 0 d_Mo_takesCustomer_52 rfl ?_
  refine R_dup X d_Mo_takesCustomer_53 rfl ?_
  refine R_getI (ci := 7) X rfl iMo_ok (of_decide_eq_true rfl) rfl 19 rfl rfl tw_690 d_Mo_takesCustomer_54 ?_
  refine R_iconst (v := (1 : Int32)) X d_Mo_takesCustomer_57 rfl ?_
  refine R_iadd X d_Mo_takesCustomer_58 ?_
  refine V_pc (pc' := 59) rfl ?_
  refine R_putI (ci := 7) X rfl iMo_ok yMo_ok nMo_ok (of_decide_eq_true rfl) rfl 19 rfl rfl rfl rfl tw_690 d_Mo_takesCustomer_59 ?_
  refine R_iconst (v := (1 : Int32)) X d_Mo_takesCustomer_62 rfl ?_
  exact R_retc hR (by decide) h d_Mo_takesCustomer_63
theorem M_Mo_takesCustomer {G : GT} {hp : HP} {p : Int32 × HP} (h : f_Mo_takesCustomer hp = some p) : MI G y_Mo_takesCustomer Y_Mo_takesCustomer .boolean [.ref (gA G 99)] hp p.1 p.2 := MI_of rfl (fun Z hz X hR => by subst hz; exact T_Mo_takesCustomer X h hR)
theorem d_Mo_takesTask_0 : decode prog_9_method_19_code 0 = .ok (.aload_n 0, 1) := by decide +kernel
theorem d_Mo_takesTask_1 : decode prog_9_method_19_code 1 = .ok (.iconst 0, 1) := by decide +kernel
theorem d_Mo_takesTask_2 : decode prog_9_method_19_code 2 = .ok (.iconst 1, 1) := by decide +kernel
theorem d_Mo_takesTask_3 : decode prog_9_method_19_code 3 = .ok (.aload_n 0, 1) := by decide +kernel
theorem d_Mo_takesTask_4 : decode prog_9_method_19_code 4 = .ok (.getfield 124, 3) := by decide +kernel
theorem d_Mo_takesTask_7 : decode prog_9_method_19_code 7 = .ok (.ishl, 1) := by decide +kernel
theorem d_Mo_takesTask_8 : decode prog_9_method_19_code 8 = .ok (.iconst 1, 1) := by decide +kernel
theorem d_Mo_takesTask_9 : decode prog_9_method_19_code 9 = .ok (.isub, 1) := by decide +kernel
theorem d_Mo_takesTask_10 : decode prog_9_method_19_code 10 = .ok (.invokevirtual 121, 3) := by decide +kernel
theorem d_Mo_takesTask_13 : decode prog_9_method_19_code 13 = .ok (.ifCond .ne (5), 3) := by decide +kernel
theorem d_Mo_takesTask_16 : decode prog_9_method_19_code 16 = .ok (.iconst 0, 1) := by decide +kernel
theorem d_Mo_takesTask_17 : decode prog_9_method_19_code 17 = .ok (.ireturn, 1) := by decide +kernel
theorem d_Mo_takesTask_18 : decode prog_9_method_19_code 18 = .ok (.aload_n 0, 1) := by decide +kernel
theorem d_Mo_takesTask_19 : decode prog_9_method_19_code 19 = .ok (.getfield 42, 3) := by decide +kernel
theorem d_Mo_takesTask_22 : decode prog_9_method_19_code 22 = .ok (.aload_n 0, 1) := by decide +kernel
theorem d_Mo_takesTask_23 : decode prog_9_method_19_code 23 = .ok (.getfield 130, 3) := by decide +kernel
theorem d_Mo_takesTask_26 : decode prog_9_method_19_code 26 = .ok (.aload_n 0, 1) := by decide +kernel
theorem d_Mo_takesTask_27 : decode prog_9_method_19_code 27 = .ok (.getfield 118, 3) := by decide +kernel
theorem d_Mo_takesTask_30 : decode prog_9_method_19_code 30 = .ok (.iastore, 1) := by decide +kernel
theorem d_Mo_takesTask_31 : decode prog_9_method_19_code 31 = .ok (.aload_n 0, 1) := by decide +kernel
theorem d_Mo_takesTask_32 : decode prog_9_method_19_code 32 = .ok (.dup, 1) := by decide +kernel
theorem d_Mo_takesTask_33 : decode prog_9_method_19_code 33 = .ok (.getfield 130, 3) := by decide +kernel
theorem d_Mo_takesTask_36 : decode prog_9_method_19_code 36 = .ok (.iconst 1, 1) := by decide +kernel
theorem d_Mo_takesTask_37 : decode prog_9_method_19_code 37 = .ok (.iadd, 1) := by decide +kernel
theorem d_Mo_takesTask_38 : decode prog_9_method_19_code 38 = .ok (.putfield 130, 3) := by decide +kernel
theorem d_Mo_takesTask_41 : decode prog_9_method_19_code 41 = .ok (.iconst 1, 1) := by decide +kernel
theorem d_Mo_takesTask_42 : decode prog_9_method_19_code 42 = .ok (.ireturn, 1) := by decide +kernel
set_option maxRecDepth 20000 in
set_option maxHeartbeats 2000000 in
theorem T_Mo_takesTask {Z : ZT} (X : CX Z Y_Mo_takesTask) {hp : HP} {p : Int32 × HP} (h : f_Mo_takesTask hp = some p) (hR : RetI Z Y_Mo_takesTask .boolean p.1 p.2) : V Z Y_Mo_takesTask hp 0 [(0, .ref (gA (zG Z) 99))] [] := by
  unfold f_Mo_takesTask at h
  refine R_aload_n X 0 d_Mo_takesTask_0 rfl ?_
  refine R_iconst (v := (0 : Int32)) X d_Mo_takesTask_1 rfl ?_
  refine R_iconst (v := (1 : Int32)) X d_Mo_takesTask_2 rfl ?_
  refine R_aload_n X 0 d_Mo_takesTask_3 rfl ?_
  refine R_getI (ci := 7) X rfl iMo_ok (of_decide_eq_true rfl) rfl 17 rfl rfl tw_688 d_Mo_takesTask_4 ?_
  refine V_pc (pc' := 7) rfl ?_
  refine R_ishl X d_Mo_takesTask_7 ?_
  refine R_iconst (v := (1 : Int32)) X d_Mo_takesTask_8 rfl ?_
  refine R_isub X d_Mo_takesTask_9 ?_
  obtain ⟨p2, e1, h⟩ := ob h
  refine R_vcall (ci := 7) (k := 99) (As := [.int (0 : Int32), .int (((1 : Int32) <<< ((hp 99 17) &&& 31)) - (1 : Int32))]) (st := []) X (M_Mo_takesNumber e1) tw_811 cf_Mo_takesNumber (of_decide_eq_true rfl) rfl rfl rfl rfl rfl d_Mo_takesTask_10 ?_
  refine R_ifne (tgt := 18) X d_Mo_takesTask_13 rfl (fun c3 => ?_) (fun c3 => ?_)
  · replace h := (if_neg c3).symm.trans h
    refine R_aload_n X 0 d_Mo_takesTask_18 rfl ?_
    refine R_getR (ci := 7) X rfl iMo_ok (of_decide_eq_true rfl) rfl 22 rfl rfl tw_693 d_Mo_takesTask_19 ?_
    refine R_aload_n X 0 d_Mo_takesTask_22 rfl ?_
    refine R_getI (ci := 7) X rfl iMo_ok (of_decide_eq_true rfl) rfl 21 rfl rfl tw_692 d_Mo_takesTask_23 ?_
    refine R_aload_n X 0 d_Mo_takesTask_26 rfl ?_
    refine V_pc (pc' := 27) rfl ?_
    refine R_getI (ci := 7) X rfl iMo_ok (of_decide_eq_true rfl) rfl 14 rfl rfl tw_685 d_Mo_takesTask_27 ?_
    obtain ⟨i4, h⟩ := ck h
    refine R_iast (n := 6) X (of_decide_eq_true rfl) rfl i4 d_Mo_takesTask_30 ?_
    refine R_aload_n X 0 d_Mo_takesTask_31 rfl ?_
    refine R_dup X d_Mo_takesTask_32 rfl ?_
    refine R_getI (ci := 7) X rfl iMo_ok (of_decide_eq_true rfl) rfl 21 rfl rfl tw_692 d_Mo_takesTask_33 ?_
    refine R_iconst (v := (1 : Int32)) X d_Mo_takesTask_36 rfl ?_
    refine V_pc (pc' := 37) rfl ?_
    refine R_iadd X d_Mo_takesTask_37 ?_
    refine R_putI (ci := 7) X rfl iMo_ok yMo_ok nMo_ok (of_decide_eq_true rfl) rfl 21 rfl rfl rfl rfl tw_692 d_Mo_takesTask_38 ?_
    refine R_iconst (v := (1 : Int32)) X d_Mo_takesTask_41 rfl ?_
    exact R_retc hR (by decide) h d_Mo_takesTask_42
  · replace h := (if_pos c3).symm.trans h
    refine R_iconst (v := (0 : Int32)) X d_Mo_takesTask_16 rfl ?_
    exact R_retc hR (by decide) h d_Mo_takesTask_17
theorem M_Mo_takesTask {G : GT} {hp : HP} {p : Int32 × HP} (h : f_Mo_takesTask hp = some p) : MI G y_Mo_takesTask Y_Mo_takesTask .boolean [.ref (gA G 99)] hp p.1 p.2 := MI_of rfl (fun Z hz X hR => by subst hz; exact T_Mo_takesTask X h hR)
