/-! Printed by wip/whole/walk.py. -/
theorem d_Mo_draw_0 : decode prog_9_method_45_code 0 = .ok (.aload_n 0, 1) := by decide +kernel
theorem d_Mo_draw_1 : decode prog_9_method_45_code 1 = .ok (.getfield 7, 3) := by decide +kernel
theorem d_Mo_draw_4 : decode prog_9_method_45_code 4 = .ok (.bipush (31), 2) := by decide +kernel
theorem d_Mo_draw_6 : decode prog_9_method_45_code 6 = .ok (.aload_n 0, 1) := by decide +kernel
theorem d_Mo_draw_7 : decode prog_9_method_45_code 7 = .ok (.getfield 7, 3) := by decide +kernel
theorem d_Mo_draw_10 : decode prog_9_method_45_code 10 = .ok (.bipush (31), 2) := by decide +kernel
theorem d_Mo_draw_12 : decode prog_9_method_45_code 12 = .ok (.iaload, 1) := by decide +kernel
theorem d_Mo_draw_13 : decode prog_9_method_45_code 13 = .ok (.i2l, 1) := by decide +kernel
theorem d_Mo_draw_14 : decode prog_9_method_45_code 14 = .ok (.ldc2_w 226, 3) := by decide +kernel
theorem d_Mo_draw_17 : decode prog_9_method_45_code 17 = .ok (.lmul, 1) := by decide +kernel
theorem d_Mo_draw_18 : decode prog_9_method_45_code 18 = .ok (.ldc2_w 228, 3) := by decide +kernel
theorem d_Mo_draw_21 : decode prog_9_method_45_code 21 = .ok (.ladd, 1) := by decide +kernel
theorem d_Mo_draw_22 : decode prog_9_method_45_code 22 = .ok (.ldc2_w 230, 3) := by decide +kernel
theorem d_Mo_draw_25 : decode prog_9_method_45_code 25 = .ok (.lrem, 1) := by decide +kernel
theorem d_Mo_draw_26 : decode prog_9_method_45_code 26 = .ok (.l2i, 1) := by decide +kernel
theorem d_Mo_draw_27 : decode prog_9_method_45_code 27 = .ok (.iastore, 1) := by decide +kernel
theorem d_Mo_draw_28 : decode prog_9_method_45_code 28 = .ok (.aload_n 0, 1) := by decide +kernel
theorem d_Mo_draw_29 : decode prog_9_method_45_code 29 = .ok (.getfield 7, 3) := by decide +kernel
theorem d_Mo_draw_32 : decode prog_9_method_45_code 32 = .ok (.bipush (31), 2) := by decide +kernel
theorem d_Mo_draw_34 : decode prog_9_method_45_code 34 = .ok (.iaload, 1) := by decide +kernel
theorem d_Mo_draw_35 : decode prog_9_method_45_code 35 = .ok (.ldc 232, 2) := by decide +kernel
theorem d_Mo_draw_37 : decode prog_9_method_45_code 37 = .ok (.idiv, 1) := by decide +kernel
theorem d_Mo_draw_38 : decode prog_9_method_45_code 38 = .ok (.iload_n 1, 1) := by decide +kernel
theorem d_Mo_draw_39 : decode prog_9_method_45_code 39 = .ok (.irem, 1) := by decide +kernel
theorem d_Mo_draw_40 : decode prog_9_method_45_code 40 = .ok (.ireturn, 1) := by decide +kernel
set_option maxRecDepth 20000 in
set_option maxHeartbeats 2000000 in
theorem T_Mo_draw {Z : ZT} (X : CX Z Y_Mo_draw) {hp : HP} {a1 : Int32} {p : Int32 × HP} (h : f_Mo_draw hp a1 = some p) (hR : RetI Z Y_Mo_draw .int p.1 p.2) : V Z Y_Mo_draw hp 0 [(0, .ref (gA (zG Z) 99)), (1, .int a1)] [] := by
  unfold f_Mo_draw at h
  refine R_aload_n X 0 d_Mo_draw_0 rfl ?_
  refine R_getR (ci := 7) X rfl iMo_ok (of_decide_eq_true rfl) rfl 0 rfl rfl tw_671 d_Mo_draw_1 ?_
  refine R_bipush (v := (31 : Int32)) X d_Mo_draw_4 rfl ?_
  refine R_aload_n X 0 d_Mo_draw_6 rfl ?_
  refine R_getR (ci := 7) X rfl iMo_ok (of_decide_eq_true rfl) rfl 0 rfl rfl tw_671 d_Mo_draw_7 ?_
  refine V_pc (pc' := 10) rfl ?_
  refine R_bipush (v := (31 : Int32)) X d_Mo_draw_10 rfl ?_
  refine R_iald (n := 736) X (of_decide_eq_true rfl) rfl rfl d_Mo_draw_12 ?_
  refine R_i2l X d_Mo_draw_13 ?_
  refine R_ldc2 (v := (1103515245 : Int64)) X tw_957 d_Mo_draw_14 ?_
  refine R_lmul X d_Mo_draw_17 ?_
  refine R_ldc2 (v := (12345 : Int64)) X tw_958 d_Mo_draw_18 ?_
  refine V_pc (pc' := 21) rfl ?_
  refine R_ladd X d_Mo_draw_21 ?_
  refine R_ldc2 (v := (2147483648 : Int64)) X tw_959 d_Mo_draw_22 ?_
  refine R_lrem X d_Mo_draw_25 (by decide) ?_
  refine R_l2i X d_Mo_draw_26 ?_
  refine R_iast (n := 736) X (of_decide_eq_true rfl) rfl rfl d_Mo_draw_27 ?_
  refine R_aload_n X 0 d_Mo_draw_28 rfl ?_
  refine V_pc (pc' := 29) rfl ?_
  refine R_getR (ci := 7) X rfl iMo_ok (of_decide_eq_true rfl) rfl 0 rfl rfl tw_671 d_Mo_draw_29 ?_
  refine R_bipush (v := (31 : Int32)) X d_Mo_draw_32 rfl ?_
  refine R_iald (n := 736) X (of_decide_eq_true rfl) rfl rfl d_Mo_draw_34 ?_
  refine R_ldc (v := (65536 : Int32)) X tw_960 d_Mo_draw_35 ?_
  refine R_idiv X d_Mo_draw_37 (by decide) ?_
  refine R_iload_n X 1 d_Mo_draw_38 rfl ?_
  refine V_pc (pc' := 39) rfl ?_
  obtain ⟨z1, h⟩ := cz h
  refine R_irem X d_Mo_draw_39 z1 ?_
  exact R_ret hR h d_Mo_draw_40
theorem M_Mo_draw {G : GT} {hp : HP} {a1 : Int32} {p : Int32 × HP} (h : f_Mo_draw hp a1 = some p) : MI G y_Mo_draw Y_Mo_draw .int [.ref (gA G 99), .int a1] hp p.1 p.2 := MI_of rfl (fun Z hz X hR => by subst hz; exact T_Mo_draw X h hR)
theorem d_Mo_drift_0 : decode prog_9_method_46_code 0 = .ok (.iload_n 1, 1) := by decide +kernel
theorem d_Mo_drift_1 : decode prog_9_method_46_code 1 = .ok (.i2l, 1) := by decide +kernel
theorem d_Mo_drift_2 : decode prog_9_method_46_code 2 = .ok (.lconst 1, 1) := by decide +kernel
theorem d_Mo_drift_3 : decode prog_9_method_46_code 3 = .ok (.ldc2_w 208, 3) := by decide +kernel
theorem d_Mo_drift_6 : decode prog_9_method_46_code 6 = .ok (.invokestatic 72, 3) := by decide +kernel
theorem d_Mo_drift_9 : decode prog_9_method_46_code 9 = .ok (.ifCond .ne (6), 3) := by decide +kernel
theorem d_Mo_drift_12 : decode prog_9_method_46_code 12 = .ok (.ldc 88, 2) := by decide +kernel
theorem d_Mo_drift_14 : decode prog_9_method_46_code 14 = .ok (.ireturn, 1) := by decide +kernel
theorem d_Mo_drift_15 : decode prog_9_method_46_code 15 = .ok (.aload_n 0, 1) := by decide +kernel
theorem d_Mo_drift_16 : decode prog_9_method_46_code 16 = .ok (.getfield 69, 3) := by decide +kernel
theorem d_Mo_drift_19 : decode prog_9_method_46_code 19 = .ok (.ifCond .ne (6), 3) := by decide +kernel
theorem d_Mo_drift_22 : decode prog_9_method_46_code 22 = .ok (.ldc 204, 2) := by decide +kernel
theorem d_Mo_drift_24 : decode prog_9_method_46_code 24 = .ok (.ireturn, 1) := by decide +kernel
theorem d_Mo_drift_25 : decode prog_9_method_46_code 25 = .ok (.aload_n 0, 1) := by decide +kernel
theorem d_Mo_drift_26 : decode prog_9_method_46_code 26 = .ok (.invokevirtual 210, 3) := by decide +kernel
theorem d_Mo_drift_29 : decode prog_9_method_46_code 29 = .ok (.iconst 0, 1) := by decide +kernel
theorem d_Mo_drift_30 : decode prog_9_method_46_code 30 = .ok (.istore_n 2, 1) := by decide +kernel
theorem d_Mo_drift_31 : decode prog_9_method_46_code 31 = .ok (.iload_n 2, 1) := by decide +kernel
theorem d_Mo_drift_32 : decode prog_9_method_46_code 32 = .ok (.iload_n 1, 1) := by decide +kernel
theorem d_Mo_drift_33 : decode prog_9_method_46_code 33 = .ok (.if_icmp .ge (54), 3) := by decide +kernel
theorem d_Mo_drift_36 : decode prog_9_method_46_code 36 = .ok (.aload_n 0, 1) := by decide +kernel
theorem d_Mo_drift_37 : decode prog_9_method_46_code 37 = .ok (.getfield 76, 3) := by decide +kernel
theorem d_Mo_drift_40 : decode prog_9_method_46_code 40 = .ok (.ifCond .le (47), 3) := by decide +kernel
theorem d_Mo_drift_43 : decode prog_9_method_46_code 43 = .ok (.aload_n 0, 1) := by decide +kernel
theorem d_Mo_drift_44 : decode prog_9_method_46_code 44 = .ok (.aload_n 0, 1) := by decide +kernel
theorem d_Mo_drift_45 : decode prog_9_method_46_code 45 = .ok (.getfield 76, 3) := by decide +kernel
theorem d_Mo_drift_48 : decode prog_9_method_46_code 48 = .ok (.invokevirtual 233, 3) := by decide +kernel
theorem d_Mo_drift_51 : decode prog_9_method_46_code 51 = .ok (.istore_n 3, 1) := by decide +kernel
theorem d_Mo_drift_52 : decode prog_9_method_46_code 52 = .ok (.aload_n 0, 1) := by decide +kernel
theorem d_Mo_drift_53 : decode prog_9_method_46_code 53 = .ok (.bipush (100), 2) := by decide +kernel
theorem d_Mo_drift_55 : decode prog_9_method_46_code 55 = .ok (.invokevirtual 233, 3) := by decide +kernel
theorem d_Mo_drift_58 : decode prog_9_method_46_code 58 = .ok (.istore 4, 2) := by decide +kernel
theorem d_Mo_drift_60 : decode prog_9_method_46_code 60 = .ok (.aload_n 0, 1) := by decide +kernel
theorem d_Mo_drift_61 : decode prog_9_method_46_code 61 = .ok (.iload_n 3, 1) := by decide +kernel
theorem d_Mo_drift_62 : decode prog_9_method_46_code 62 = .ok (.aload_n 0, 1) := by decide +kernel
theorem d_Mo_drift_63 : decode prog_9_method_46_code 63 = .ok (.iconst 2, 1) := by decide +kernel
theorem d_Mo_drift_64 : decode prog_9_method_46_code 64 = .ok (.invokevirtual 233, 3) := by decide +kernel
theorem d_Mo_drift_67 : decode prog_9_method_46_code 67 = .ok (.ifCond .ne (9), 3) := by decide +kernel
theorem d_Mo_drift_70 : decode prog_9_method_46_code 70 = .ok (.iload 4, 2) := by decide +kernel
theorem d_Mo_drift_72 : decode prog_9_method_46_code 72 = .ok (.ineg, 1) := by decide +kernel
theorem d_Mo_drift_73 : decode prog_9_method_46_code 73 = .ok (.goto (5), 3) := by decide +kernel
theorem d_Mo_drift_76 : decode prog_9_method_46_code 76 = .ok (.iload 4, 2) := by decide +kernel
theorem d_Mo_drift_78 : decode prog_9_method_46_code 78 = .ok (.invokevirtual 219, 3) := by decide +kernel
theorem d_Mo_drift_81 : decode prog_9_method_46_code 81 = .ok (.iinc 2 (1), 3) := by decide +kernel
theorem d_Mo_drift_84 : decode prog_9_method_46_code 84 = .ok (.goto (-53), 3) := by decide +kernel
theorem d_Mo_drift_87 : decode prog_9_method_46_code 87 = .ok (.aload_n 0, 1) := by decide +kernel
theorem d_Mo_drift_88 : decode prog_9_method_46_code 88 = .ok (.invokevirtual 176, 3) := by decide +kernel
theorem d_Mo_drift_91 : decode prog_9_method_46_code 91 = .ok (.ireturn, 1) := by decide +kernel
set_option maxRecDepth 20000 in
set_option maxHeartbeats 2000000 in
theorem T_Mo_drift_L31 {Z : ZT} (X : CX Z Y_Mo_drift) {v1 : Int32} {p : Int32 × HP} (hR : RetI Z Y_Mo_drift .int p.1 p.2) {K : HP → Option (Int32 × HP)} (hK : ∀ (hp : HP), K hp = some p → V Z Y_Mo_drift hp 87 [(0, .ref (gA (zG Z) 99))] []) : ∀ (n : Nat) (hp : HP) (x2 : Int32), f_Mo_drift_L31 v1 K n hp x2 = some p → V Z Y_Mo_drift hp 31 [(0, .ref (gA (zG Z) 99)), (1, .int v1), (2, .int x2)] [] := by
  intro n
  induction n with
  | zero =>
    intro hp x2 h
    cases h
  | succ n ih =>
    intro hp x2 h
    replace h : f_Mo_drift_L31 v1 K (n + 1) hp x2 = some p := h
    unfold f_Mo_drift_L31 at h
    refine R_iload_n X 2 d_Mo_drift_31 rfl ?_
    refine R_iload_n X 1 d_Mo_drift_32 rfl ?_
    refine R_icmp_ge (tgt := 87) X d_Mo_drift_33 rfl (fun c7 => ?_) (fun c7 => ?_)
    · replace h := (if_pos c7).symm.trans h
      refine V_pc (pc' := 87) rfl (R_loc (L' := [(0, .ref (gA (zG Z) 99))]) [0] rfl ?_)
      exact hK hp h
    · replace h := (if_neg c7).symm.trans h
      refine R_aload_n X 0 d_Mo_drift_36 rfl ?_
      refine R_getI (ci := 7) X rfl iMo_ok (of_decide_eq_true rfl) rfl 5 rfl rfl tw_676 d_Mo_drift_37 ?_
      refine R_ifle (tgt := 87) X d_Mo_drift_40 rfl (fun c8 => ?_) (fun c8 => ?_)
      · replace h := (if_pos c8).symm.trans h
        refine V_pc (pc' := 87) rfl (R_loc (L' := [(0, .ref (gA (zG Z) 99))]) [0] rfl ?_)
        exact hK hp h
      · replace h := (if_neg c8).symm.trans h
        refine R_aload_n X 0 d_Mo_drift_43 rfl ?_
        refine R_aload_n X 0 d_Mo_drift_44 rfl ?_
        refine R_getI (ci := 7) X rfl iMo_ok (of_decide_eq_true rfl) rfl 5 rfl rfl tw_676 d_Mo_drift_45 ?_
        obtain ⟨p10, e9, h⟩ := ob h
        refine R_vcall (ci := 7) (k := 99) (As := [.int (hp 99 5)]) (st := []) X (M_Mo_draw e9) tw_953 cf_Mo_draw (of_decide_eq_true rfl) rfl rfl rfl rfl rfl d_Mo_drift_48 ?_
        refine R_istore_n (L' := [(3, .int p10.1), (0, .ref (gA (zG Z) 99)), (1, .int v1), (2, .int x2)]) X d_Mo_drift_51 (by decide) rfl ?_
        refine V_pc (pc' := 52) rfl ?_
        refine R_aload_n X 1 d_Mo_drift_52 rfl ?_
        refine R_bipush (v := (100 : Int32)) X d_Mo_drift_53 rfl ?_
        obtain ⟨p12, e11, h⟩ := ob h
        refine R_vcall (ci := 7) (k := 99) (As := [.int (100 : Int32)]) (st := []) X (M_Mo_draw e11) tw_953 cf_Mo_draw (of_decide_eq_true rfl) rfl rfl rfl rfl rfl d_Mo_drift_55 ?_
        refine R_istore (L' := [(4, .int p12.1), (3, .int p10.1), (0, .ref (gA (zG Z) 99)), (1, .int v1), (2, .int x2)]) X d_Mo_drift_58 (by decide) rfl ?_
        refine R_aload_n X 2 d_Mo_drift_60 rfl ?_
        refine R_iload_n X 1 d_Mo_drift_61 rfl ?_
        refine V_pc (pc' := 62) rfl ?_
        refine R_aload_n X 2 d_Mo_drift_62 rfl ?_
        refine R_iconst (v := (2 : Int32)) X d_Mo_drift_63 rfl ?_
        obtain ⟨p14, e13, h⟩ := ob h
        refine R_vcall (ci := 7) (k := 99) (As := [.int (2 : Int32)]) (st := [.int p10.1, .ref (gA (zG Z) 99)]) X (M_Mo_draw e13) tw_953 cf_Mo_draw (of_decide_eq_true rfl) rfl rfl rfl rfl rfl d_Mo_drift_64 ?_
        refine R_ifne (tgt := 76) X d_Mo_drift_67 rfl (fun c15 => ?_) (fun c15 => ?_)
        · replace h := (if_neg c15).symm.trans h
          refine R_iload X 0 d_Mo_drift_76 rfl ?_
          obtain ⟨p19, e18, h⟩ := ob h
          refine R_vcallv (ci := 7) (k := 99) (As := [.int p10.1, .int p12.1]) (st := []) X (M_Mo_changes e18) tw_933 cf_Mo_changes (of_decide_eq_true rfl) rfl rfl rfl rfl rfl d_Mo_drift_78 ?_
          refine R_iinc (v := (x2 + 1)) (L' := [(2, .int (x2 + 1)), (4, .int p12.1), (3, .int p10.1), (0, .ref (gA (zG Z) 99)), (1, .int v1)]) X 4 d_Mo_drift_81 rfl rfl (by decide) rfl ?_
          refine R_goto (tgt := 31) X d_Mo_drift_84 rfl ?_
          refine V_pc (pc' := 31) rfl (R_loc (L' := [(0, .ref (gA (zG Z) 99)), (1, .int v1), (2, .int (x2 + 1))]) [3, 4, 0] rfl ?_)
          exact ih p19.2 (x2 + 1) h
        · replace h := (if_pos c15).symm.trans h
          refine R_iload X 0 d_Mo_drift_70 rfl ?_
          refine R_ineg X d_Mo_drift_72 ?_
          refine R_goto (tgt := 78) X d_Mo_drift_73 rfl ?_
          obtain ⟨p17, e16, h⟩ := ob h
          refine R_vcallv (ci := 7) (k := 99) (As := [.int p10.1, .int (-p12.1)]) (st := []) X (M_Mo_changes e16) tw_933 cf_Mo_changes (of_decide_eq_true rfl) rfl rfl rfl rfl rfl d_Mo_drift_78 ?_
          refine R_iinc (v := (x2 + 1)) (L' := [(2, .int (x2 + 1)), (4, .int p12.1), (3, .int p10.1), (0, .ref (gA (zG Z) 99)), (1, .int v1)]) X 4 d_Mo_drift_81 rfl rfl (by decide) rfl ?_
          refine V_pc (pc' := 84) rfl ?_
          refine R_goto (tgt := 31) X d_Mo_drift_84 rfl ?_
          refine V_pc (pc' := 31) rfl (R_loc (L' := [(0, .ref (gA (zG Z) 99)), (1, .int v1), (2, .int (x2 + 1))]) [3, 4, 0] rfl ?_)
          exact ih p17.2 (x2 + 1) h
set_option maxRecDepth 20000 in
set_option maxHeartbeats 2000000 in
theorem T_Mo_drift {Z : ZT} (X : CX Z Y_Mo_drift) {hp : HP} {a1 : Int32} {p : Int32 × HP} (h : f_Mo_drift hp a1 = some p) (hR : RetI Z Y_Mo_drift .int p.1 p.2) : V Z Y_Mo_drift hp 0 [(0, .ref (gA (zG Z) 99)), (1, .int a1)] [] := by
  unfold f_Mo_drift at h
  refine R_iload_n X 1 d_Mo_drift_0 rfl ?_
  refine R_i2l X d_Mo_drift_1 ?_
  refine R_lconst (v := (1 : Int64)) X d_Mo_drift_2 rfl ?_
  refine R_ldc2 (v := (60 : Int64)) X tw_916 d_Mo_drift_3 ?_
  obtain ⟨p2, e1, h⟩ := ob h
  refine R_scall (As := [.long (a1).toInt64, .long (1 : Int64), .long (60 : Int64)]) (st := []) X (M_Mo_in e1) tw_782 cf_Mo_in rfl rfl rfl d_Mo_drift_6 ?_
  refine V_pc (pc' := 9) rfl ?_
  refine R_ifne (tgt := 15) X d_Mo_drift_9 rfl (fun c3 => ?_) (fun c3 => ?_)
  · replace h := (if_neg c3).symm.trans h
    refine R_aload_n X 0 d_Mo_drift_15 rfl ?_
    refine R_getI (ci := 7) X rfl iMo_ok (of_decide_eq_true rfl) rfl 3 rfl rfl tw_674 d_Mo_drift_16 ?_
    refine R_ifne (tgt := 25) X d_Mo_drift_19 rfl (fun c4 => ?_) (fun c4 => ?_)
    · replace h := (if_neg c4).symm.trans h
      refine R_aload_n X 0 d_Mo_drift_25 rfl ?_
      obtain ⟨p6, e5, h⟩ := ob h
      refine R_vcallv (ci := 7) (k := 99) (As := []) (st := []) X (M_Mo_minds e5) tw_917 cf_Mo_minds (of_decide_eq_true rfl) rfl rfl rfl rfl rfl d_Mo_drift_26 ?_
      refine R_iconst (v := (0 : Int32)) X d_Mo_drift_29 rfl ?_
      refine R_istore_n (L' := [(2, .int (0 : Int32)), (0, .ref (gA (zG Z) 99)), (1, .int a1)]) X d_Mo_drift_30 (by decide) rfl ?_
      refine V_pc (pc' := 31) rfl (R_loc (L' := [(0, .ref (gA (zG Z) 99)), (1, .int a1), (2, .int (0 : Int32))]) [1, 2, 0] rfl ?_)
      refine T_Mo_drift_L31 X hR (fun hp20 h => ?_) _ p6.2 (0 : Int32) h
      refine R_aload_n X 0 d_Mo_drift_87 rfl ?_
      obtain ⟨p22, e21, h⟩ := ob h
      refine R_vcall (ci := 7) (k := 99) (As := []) (st := []) X (M_Mo_hats e21) tw_837 cf_Mo_hats (of_decide_eq_true rfl) rfl rfl rfl rfl rfl d_Mo_drift_88 ?_
      exact R_ret hR h d_Mo_drift_91
    · replace h := (if_pos c4).symm.trans h
      refine R_ldc (v := (-1000000003 : Int32)) X tw_907 d_Mo_drift_22 ?_
      exact R_ret hR h d_Mo_drift_24
  · replace h := (if_pos c3).symm.trans h
    refine R_ldc (v := (-1000000002 : Int32)) X tw_785 d_Mo_drift_12 ?_
    exact R_ret hR h d_Mo_drift_14
theorem M_Mo_drift {G : GT} {hp : HP} {a1 : Int32} {p : Int32 × HP} (h : f_Mo_drift hp a1 = some p) : MI G y_Mo_drift Y_Mo_drift .int [.ref (gA G 99), .int a1] hp p.1 p.2 := MI_of rfl (fun Z hz X hR => by subst hz; exact T_Mo_drift X h hR)
theorem d_Mo_hat_0 : decode prog_9_method_47_code 0 = .ok (.aload_n 0, 1) := by decide +kernel
theorem d_Mo_hat_1 : decode prog_9_method_47_code 1 = .ok (.iload_n 1, 1) := by decide +kernel
theorem d_Mo_hat_2 : decode prog_9_method_47_code 2 = .ok (.invokevirtual 79, 3) := by decide +kernel
theorem d_Mo_hat_5 : decode prog_9_method_47_code 5 = .ok (.ifCond .ne (6), 3) := by decide +kernel
theorem d_Mo_hat_8 : decode prog_9_method_47_code 8 = .ok (.ldc 189, 2) := by decide +kernel
theorem d_Mo_hat_10 : decode prog_9_method_47_code 10 = .ok (.ireturn, 1) := by decide +kernel
theorem d_Mo_hat_11 : decode prog_9_method_47_code 11 = .ok (.aload_n 0, 1) := by decide +kernel
theorem d_Mo_hat_12 : decode prog_9_method_47_code 12 = .ok (.getfield 7, 3) := by decide +kernel
theorem d_Mo_hat_15 : decode prog_9_method_47_code 15 = .ok (.iconst 1, 1) := by decide +kernel
theorem d_Mo_hat_16 : decode prog_9_method_47_code 16 = .ok (.iload_n 1, 1) := by decide +kernel
theorem d_Mo_hat_17 : decode prog_9_method_47_code 17 = .ok (.iadd, 1) := by decide +kernel
theorem d_Mo_hat_18 : decode prog_9_method_47_code 18 = .ok (.iaload, 1) := by decide +kernel
theorem d_Mo_hat_19 : decode prog_9_method_47_code 19 = .ok (.istore_n 2, 1) := by decide +kernel
theorem d_Mo_hat_20 : decode prog_9_method_47_code 20 = .ok (.iconst 0, 1) := by decide +kernel
theorem d_Mo_hat_21 : decode prog_9_method_47_code 21 = .ok (.istore_n 3, 1) := by decide +kernel
theorem d_Mo_hat_22 : decode prog_9_method_47_code 22 = .ok (.iload_n 3, 1) := by decide +kernel
theorem d_Mo_hat_23 : decode prog_9_method_47_code 23 = .ok (.sipush (200), 3) := by decide +kernel
theorem d_Mo_hat_26 : decode prog_9_method_47_code 26 = .ok (.if_icmp .gt (26), 3) := by decide +kernel
theorem d_Mo_hat_29 : decode prog_9_method_47_code 29 = .ok (.aload_n 0, 1) := by decide +kernel
theorem d_Mo_hat_30 : decode prog_9_method_47_code 30 = .ok (.iload_n 2, 1) := by decide +kernel
theorem d_Mo_hat_31 : decode prog_9_method_47_code 31 = .ok (.invokevirtual 164, 3) := by decide +kernel
theorem d_Mo_hat_34 : decode prog_9_method_47_code 34 = .ok (.ifCond .ne (5), 3) := by decide +kernel
theorem d_Mo_hat_37 : decode prog_9_method_47_code 37 = .ok (.iload_n 3, 1) := by decide +kernel
theorem d_Mo_hat_38 : decode prog_9_method_47_code 38 = .ok (.ireturn, 1) := by decide +kernel
theorem d_Mo_hat_39 : decode prog_9_method_47_code 39 = .ok (.aload_n 0, 1) := by decide +kernel
theorem d_Mo_hat_40 : decode prog_9_method_47_code 40 = .ok (.iload_n 1, 1) := by decide +kernel
theorem d_Mo_hat_41 : decode prog_9_method_47_code 41 = .ok (.iload_n 2, 1) := by decide +kernel
theorem d_Mo_hat_42 : decode prog_9_method_47_code 42 = .ok (.invokevirtual 213, 3) := by decide +kernel
theorem d_Mo_hat_45 : decode prog_9_method_47_code 45 = .ok (.istore_n 2, 1) := by decide +kernel
theorem d_Mo_hat_46 : decode prog_9_method_47_code 46 = .ok (.iinc 3 (1), 3) := by decide +kernel
theorem d_Mo_hat_49 : decode prog_9_method_47_code 49 = .ok (.goto (-27), 3) := by decide +kernel
theorem d_Mo_hat_52 : decode prog_9_method_47_code 52 = .ok (.iconst (-1), 1) := by decide +kernel
theorem d_Mo_hat_53 : decode prog_9_method_47_code 53 = .ok (.ireturn, 1) := by decide +kernel
set_option maxRecDepth 20000 in
set_option maxHeartbeats 2000000 in
theorem T_Mo_hat_L22 {Z : ZT} (X : CX Z Y_Mo_hat) {v1 : Int32} {p : Int32 × HP} (hR : RetI Z Y_Mo_hat .int p.1 p.2) {K : HP → Option (Int32 × HP)} (hK : ∀ (hp : HP), K hp = some p → V Z Y_Mo_hat hp 52 [] []) : ∀ (n : Nat) (hp : HP) (x2 : Int32) (x3 : Int32), f_Mo_hat_L22 v1 K n hp x2 x3 = some p → V Z Y_Mo_hat hp 22 [(0, .ref (gA (zG Z) 99)), (1, .int v1), (2, .int x2), (3, .int x3)] [] := by
  intro n
  induction n with
  | zero =>
    intro hp x2 x3 h
    cases h
  | succ n ih =>
    intro hp x2 x3 h
    replace h : f_Mo_hat_L22 v1 K (n + 1) hp x2 x3 = some p := h
    unfold f_Mo_hat_L22 at h
    refine R_iload_n X 3 d_Mo_hat_22 rfl ?_
    refine R_sipush (v := (200 : Int32)) X d_Mo_hat_23 rfl ?_
    refine R_icmp_gt (tgt := 52) X d_Mo_hat_26 rfl (fun c5 => ?_) (fun c5 => ?_)
    · replace h := (if_pos c5).symm.trans h
      refine V_pc (pc' := 52) rfl (R_loc (L' := []) [] rfl ?_)
      exact hK hp h
    · replace h := (if_neg c5).symm.trans h
      refine R_aload_n X 0 d_Mo_hat_29 rfl ?_
      refine R_iload_n X 2 d_Mo_hat_30 rfl ?_
      obtain ⟨p7, e6, h⟩ := ob h
      refine R_vcall (ci := 7) (k := 99) (As := [.int x2]) (st := []) X (M_Mo_thereBy e6) tw_845 cf_Mo_thereBy (of_decide_eq_true rfl) rfl rfl rfl rfl rfl d_Mo_hat_31 ?_
      refine R_ifne (tgt := 39) X d_Mo_hat_34 rfl (fun c8 => ?_) (fun c8 => ?_)
      · replace h := (if_neg c8).symm.trans h
        refine R_aload_n X 0 d_Mo_hat_39 rfl ?_
        refine R_iload_n X 1 d_Mo_hat_40 rfl ?_
        refine R_iload_n X 2 d_Mo_hat_41 rfl ?_
        obtain ⟨p10, e9, h⟩ := ob h
        refine R_vcall (ci := 7) (k := 99) (As := [.int v1, .int x2]) (st := []) X (M_Mo_behindMonth e9) tw_921 cf_Mo_behindMonth (of_decide_eq_true rfl) rfl rfl rfl rfl rfl d_Mo_hat_42 ?_
        refine R_istore_n (L' := [(2, .int p10.1), (0, .ref (gA (zG Z) 99)), (1, .int v1), (3, .int x3)]) X d_Mo_hat_45 (by decide) rfl ?_
        refine V_pc (pc' := 46) rfl ?_
        refine R_iinc (v := (x3 + 1)) (L' := [(3, .int (x3 + 1)), (2, .int p10.1), (0, .ref (gA (zG Z) 99)), (1, .int v1)]) X 3 d_Mo_hat_46 rfl rfl (by decide) rfl ?_
        refine R_goto (tgt := 22) X d_Mo_hat_49 rfl ?_
        refine V_pc (pc' := 22) rfl (R_loc (L' := [(0, .ref (gA (zG Z) 99)), (1, .int v1), (2, .int p10.1), (3, .int (x3 + 1))]) [2, 3, 1, 0] rfl ?_)
        exact ih p10.2 p10.1 (x3 + 1) h
      · replace h := (if_pos c8).symm.trans h
        refine R_iload_n X 3 d_Mo_hat_37 rfl ?_
        exact R_ret hR h d_Mo_hat_38
set_option maxRecDepth 20000 in
set_option maxHeartbeats 2000000 in
theorem T_Mo_hat {Z : ZT} (X : CX Z Y_Mo_hat) {hp : HP} {a1 : Int32} {p : Int32 × HP} (h : f_Mo_hat hp a1 = some p) (hR : RetI Z Y_Mo_hat .int p.1 p.2) : V Z Y_Mo_hat hp 0 [(0, .ref (gA (zG Z) 99)), (1, .int a1)] [] := by
  unfold f_Mo_hat at h
  refine R_aload_n X 0 d_Mo_hat_0 rfl ?_
  refine R_iload_n X 1 d_Mo_hat_1 rfl ?_
  obtain ⟨p2, e1, h⟩ := ob h
  refine R_vcall (ci := 7) (k := 99) (As := [.int a1]) (st := []) X (M_Mo_isCustomer e1) tw_878 cf_Mo_isCustomer (of_decide_eq_true rfl) rfl rfl rfl rfl rfl d_Mo_hat_2 ?_
  refine R_ifne (tgt := 11) X d_Mo_hat_5 rfl (fun c3 => ?_) (fun c3 => ?_)
  · replace h := (if_neg c3).symm.trans h
    refine R_aload_n X 0 d_Mo_hat_11 rfl ?_
    refine R_getR (ci := 7) X rfl iMo_ok (of_decide_eq_true rfl) rfl 0 rfl rfl tw_671 d_Mo_hat_12 ?_
    refine R_iconst (v := (1 : Int32)) X d_Mo_hat_15 rfl ?_
    refine R_iload_n X 1 d_Mo_hat_16 rfl ?_
    refine R_iadd X d_Mo_hat_17 ?_
    refine V_pc (pc' := 18) rfl ?_
    obtain ⟨i4, h⟩ := ck h
    refine R_iald (n := 736) X (of_decide_eq_true rfl) rfl i4 d_Mo_hat_18 ?_
    refine R_istore_n (L' := [(2, .int (p2.2 100 (((1 : Int32) + a1)).toNatClampNeg)), (0, .ref (gA (zG Z) 99)), (1, .int a1)]) X d_Mo_hat_19 (by decide) rfl ?_
    refine R_iconst (v := (0 : Int32)) X d_Mo_hat_20 rfl ?_
    refine R_istore_n (L' := [(3, .int (0 : Int32)), (2, .int (p2.2 100 (((1 : Int32) + a1)).toNatClampNeg)), (0, .ref (gA (zG Z) 99)), (1, .int a1)]) X d_Mo_hat_21 (by decide) rfl ?_
    refine V_pc (pc' := 22) rfl (R_loc (L' := [(0, .ref (gA (zG Z) 99)), (1, .int a1), (2, .int (p2.2 100 (((1 : Int32) + a1)).toNatClampNeg)), (3, .int (0 : Int32))]) [2, 3, 1, 0] rfl ?_)
    refine T_Mo_hat_L22 X hR (fun hp11 h => ?_) _ p2.2 (p2.2 100 (((1 : Int32) + a1)).toNatClampNeg) (0 : Int32) h
    refine R_iconst (v := (-1 : Int32)) X d_Mo_hat_52 rfl ?_
    exact R_ret hR h d_Mo_hat_53
  · replace h := (if_pos c3).symm.trans h
    refine R_ldc (v := (-1000000001 : Int32)) X tw_873 d_Mo_hat_8 ?_
    exact R_ret hR h d_Mo_hat_10
theorem M_Mo_hat {G : GT} {hp : HP} {a1 : Int32} {p : Int32 × HP} (h : f_Mo_hat hp a1 = some p) : MI G y_Mo_hat Y_Mo_hat .int [.ref (gA G 99), .int a1] hp p.1 p.2 := MI_of rfl (fun Z hz X hR => by subst hz; exact T_Mo_hat X h hR)
theorem d_Mo_able_0 : decode prog_9_method_48_code 0 = .ok (.aload_n 0, 1) := by decide +kernel
theorem d_Mo_able_1 : decode prog_9_method_48_code 1 = .ok (.iload_n 1, 1) := by decide +kernel
theorem d_Mo_able_2 : decode prog_9_method_48_code 2 = .ok (.invokevirtual 79, 3) := by decide +kernel
theorem d_Mo_able_5 : decode prog_9_method_48_code 5 = .ok (.ifCond .eq (11), 3) := by decide +kernel
theorem d_Mo_able_8 : decode prog_9_method_48_code 8 = .ok (.aload_n 0, 1) := by decide +kernel
theorem d_Mo_able_9 : decode prog_9_method_48_code 9 = .ok (.iload_n 2, 1) := by decide +kernel
theorem d_Mo_able_10 : decode prog_9_method_48_code 10 = .ok (.invokevirtual 194, 3) := by decide +kernel
theorem d_Mo_able_13 : decode prog_9_method_48_code 13 = .ok (.ifCond .ne (6), 3) := by decide +kernel
theorem d_Mo_able_16 : decode prog_9_method_48_code 16 = .ok (.ldc 189, 2) := by decide +kernel
theorem d_Mo_able_18 : decode prog_9_method_48_code 18 = .ok (.ireturn, 1) := by decide +kernel
theorem d_Mo_able_19 : decode prog_9_method_48_code 19 = .ok (.iload_n 3, 1) := by decide +kernel
theorem d_Mo_able_20 : decode prog_9_method_48_code 20 = .ok (.i2l, 1) := by decide +kernel
theorem d_Mo_able_21 : decode prog_9_method_48_code 21 = .ok (.lconst 1, 1) := by decide +kernel
theorem d_Mo_able_22 : decode prog_9_method_48_code 22 = .ok (.ldc2_w 208, 3) := by decide +kernel
theorem d_Mo_able_25 : decode prog_9_method_48_code 25 = .ok (.invokestatic 72, 3) := by decide +kernel
theorem d_Mo_able_28 : decode prog_9_method_48_code 28 = .ok (.ifCond .ne (6), 3) := by decide +kernel
theorem d_Mo_able_31 : decode prog_9_method_48_code 31 = .ok (.ldc 88, 2) := by decide +kernel
theorem d_Mo_able_33 : decode prog_9_method_48_code 33 = .ok (.ireturn, 1) := by decide +kernel
theorem d_Mo_able_34 : decode prog_9_method_48_code 34 = .ok (.aload_n 0, 1) := by decide +kernel
theorem d_Mo_able_35 : decode prog_9_method_48_code 35 = .ok (.getfield 7, 3) := by decide +kernel
theorem d_Mo_able_38 : decode prog_9_method_48_code 38 = .ok (.iconst 1, 1) := by decide +kernel
theorem d_Mo_able_39 : decode prog_9_method_48_code 39 = .ok (.iload_n 1, 1) := by decide +kernel
theorem d_Mo_able_40 : decode prog_9_method_48_code 40 = .ok (.iadd, 1) := by decide +kernel
theorem d_Mo_able_41 : decode prog_9_method_48_code 41 = .ok (.iaload, 1) := by decide +kernel
theorem d_Mo_able_42 : decode prog_9_method_48_code 42 = .ok (.istore 4, 2) := by decide +kernel
theorem d_Mo_able_44 : decode prog_9_method_48_code 44 = .ok (.iconst 0, 1) := by decide +kernel
theorem d_Mo_able_45 : decode prog_9_method_48_code 45 = .ok (.istore 5, 2) := by decide +kernel
theorem d_Mo_able_47 : decode prog_9_method_48_code 47 = .ok (.iconst 0, 1) := by decide +kernel
theorem d_Mo_able_48 : decode prog_9_method_48_code 48 = .ok (.istore 6, 2) := by decide +kernel
theorem d_Mo_able_50 : decode prog_9_method_48_code 50 = .ok (.iload 6, 2) := by decide +kernel
theorem d_Mo_able_52 : decode prog_9_method_48_code 52 = .ok (.iload_n 3, 1) := by decide +kernel
theorem d_Mo_able_53 : decode prog_9_method_48_code 53 = .ok (.if_icmp .ge (38), 3) := by decide +kernel
theorem d_Mo_able_56 : decode prog_9_method_48_code 56 = .ok (.iload 5, 2) := by decide +kernel
theorem d_Mo_able_58 : decode prog_9_method_48_code 58 = .ok (.aload_n 0, 1) := by decide +kernel
theorem d_Mo_able_59 : decode prog_9_method_48_code 59 = .ok (.iload 4, 2) := by decide +kernel
theorem d_Mo_able_61 : decode prog_9_method_48_code 61 = .ok (.iload_n 2, 1) := by decide +kernel
theorem d_Mo_able_62 : decode prog_9_method_48_code 62 = .ok (.invokevirtual 197, 3) := by decide +kernel
theorem d_Mo_able_65 : decode prog_9_method_48_code 65 = .ok (.ifCond .eq (7), 3) := by decide +kernel
theorem d_Mo_able_68 : decode prog_9_method_48_code 68 = .ok (.iconst 1, 1) := by decide +kernel
theorem d_Mo_able_69 : decode prog_9_method_48_code 69 = .ok (.goto (4), 3) := by decide +kernel
theorem d_Mo_able_72 : decode prog_9_method_48_code 72 = .ok (.iconst 0, 1) := by decide +kernel
theorem d_Mo_able_73 : decode prog_9_method_48_code 73 = .ok (.iadd, 1) := by decide +kernel
theorem d_Mo_able_74 : decode prog_9_method_48_code 74 = .ok (.istore 5, 2) := by decide +kernel
theorem d_Mo_able_76 : decode prog_9_method_48_code 76 = .ok (.aload_n 0, 1) := by decide +kernel
theorem d_Mo_able_77 : decode prog_9_method_48_code 77 = .ok (.iload_n 1, 1) := by decide +kernel
theorem d_Mo_able_78 : decode prog_9_method_48_code 78 = .ok (.iload 4, 2) := by decide +kernel
theorem d_Mo_able_80 : decode prog_9_method_48_code 80 = .ok (.invokevirtual 213, 3) := by decide +kernel
theorem d_Mo_able_83 : decode prog_9_method_48_code 83 = .ok (.istore 4, 2) := by decide +kernel
theorem d_Mo_able_85 : decode prog_9_method_48_code 85 = .ok (.iinc 6 (1), 3) := by decide +kernel
theorem d_Mo_able_88 : decode prog_9_method_48_code 88 = .ok (.goto (-38), 3) := by decide +kernel
theorem d_Mo_able_91 : decode prog_9_method_48_code 91 = .ok (.iload 5, 2) := by decide +kernel
theorem d_Mo_able_93 : decode prog_9_method_48_code 93 = .ok (.ireturn, 1) := by decide +kernel
set_option maxRecDepth 20000 in
set_option maxHeartbeats 2000000 in
theorem T_Mo_able_L50 {Z : ZT} (X : CX Z Y_Mo_able) {v1 : Int32} {v2 : Int32} {v3 : Int32} {p : Int32 × HP} (hR : RetI Z Y_Mo_able .int p.1 p.2) {K : HP → Int32 → Option (Int32 × HP)} (hK : ∀ (hp : HP) (x5 : Int32), K hp x5 = some p → V Z Y_Mo_able hp 91 [(5, .int x5)] []) : ∀ (n : Nat) (hp : HP) (x4 : Int32) (x5 : Int32) (x6 : Int32), f_Mo_able_L50 v1 v2 v3 K n hp x4 x5 x6 = some p → V Z Y_Mo_able hp 50 [(0, .ref (gA (zG Z) 99)), (1, .int v1), (2, .int v2), (3, .int v3), (4, .int x4), (5, .int x5), (6, .int x6)] [] := by
  intro n
  induction n with
  | zero =>
    intro hp x4 x5 x6 h
    cases h
  | succ n ih =>
    intro hp x4 x5 x6 h
    replace h : f_Mo_able_L50 v1 v2 v3 K (n + 1) hp x4 x5 x6 = some p := h
    unfold f_Mo_able_L50 at h
    refine R_iload X 6 d_Mo_able_50 rfl ?_
    refine R_iload_n X 3 d_Mo_able_52 rfl ?_
    refine R_icmp_ge (tgt := 91) X d_Mo_able_53 rfl (fun c11 => ?_) (fun c11 => ?_)
    · replace h := (if_pos c11).symm.trans h
      refine V_pc (pc' := 91) rfl (R_loc (L' := [(5, .int x5)]) [5] rfl ?_)
      exact hK hp x5 h
    · replace h := (if_neg c11).symm.trans h
      refine R_iload X 5 d_Mo_able_56 rfl ?_
      refine R_aload_n X 0 d_Mo_able_58 rfl ?_
      refine R_iload X 4 d_Mo_able_59 rfl ?_
      refine R_iload_n X 2 d_Mo_able_61 rfl ?_
      obtain ⟨p13, e12, h⟩ := ob h
      refine R_vcall (ci := 7) (k := 99) (As := [.int x4, .int v2]) (st := [.int x5]) X (M_Mo_canBy e12) tw_899 cf_Mo_canBy (of_decide_eq_true rfl) rfl rfl rfl rfl rfl d_Mo_able_62 ?_
      refine V_pc (pc' := 65) rfl ?_
      refine R_ifeq (tgt := 72) X d_Mo_able_65 rfl (fun c14 => ?_) (fun c14 => ?_)
      · replace h := (if_pos c14).symm.trans h
        refine R_iconst (v := (0 : Int32)) X d_Mo_able_72 rfl ?_
        refine R_iadd X d_Mo_able_73 ?_
        refine R_istore (L' := [(5, .int (x5 + (0 : Int32))), (0, .ref (gA (zG Z) 99)), (1, .int v1), (2, .int v2), (3, .int v3), (4, .int x4), (6, .int x6)]) X d_Mo_able_74 (by decide) rfl ?_
        refine R_aload_n X 1 d_Mo_able_76 rfl ?_
        refine R_iload_n X 2 d_Mo_able_77 rfl ?_
        refine V_pc (pc' := 78) rfl ?_
        refine R_iload X 5 d_Mo_able_78 rfl ?_
        obtain ⟨p16, e15, h⟩ := ob h
        refine R_vcall (ci := 7) (k := 99) (As := [.int v1, .int x4]) (st := []) X (M_Mo_behindMonth e15) tw_921 cf_Mo_behindMonth (of_decide_eq_true rfl) rfl rfl rfl rfl rfl d_Mo_able_80 ?_
        refine R_istore (L' := [(4, .int p16.1), (5, .int (x5 + (0 : Int32))), (0, .ref (gA (zG Z) 99)), (1, .int v1), (2, .int v2), (3, .int v3), (6, .int x6)]) X d_Mo_able_83 (by decide) rfl ?_
        refine R_iinc (v := (x6 + 1)) (L' := [(6, .int (x6 + 1)), (4, .int p16.1), (5, .int (x5 + (0 : Int32))), (0, .ref (gA (zG Z) 99)), (1, .int v1), (2, .int v2), (3, .int v3)]) X 6 d_Mo_able_85 rfl rfl (by decide) rfl ?_
        refine R_goto (tgt := 50) X d_Mo_able_88 rfl ?_
        refine V_pc (pc' := 50) rfl (R_loc (L' := [(0, .ref (gA (zG Z) 99)), (1, .int v1), (2, .int v2), (3, .int v3), (4, .int p16.1), (5, .int (x5 + (0 : Int32))), (6, .int (x6 + 1))]) [3, 4, 5, 6, 1, 2, 0] rfl ?_)
        exact ih p16.2 p16.1 (x5 + (0 : Int32)) (x6 + 1) h
      · replace h := (if_neg c14).symm.trans h
        refine R_iconst (v := (1 : Int32)) X d_Mo_able_68 rfl ?_
        refine R_goto (tgt := 73) X d_Mo_able_69 rfl ?_
        refine R_iadd X d_Mo_able_73 ?_
        refine R_istore (L' := [(5, .int (x5 + (1 : Int32))), (0, .ref (gA (zG Z) 99)), (1, .int v1), (2, .int v2), (3, .int v3), (4, .int x4), (6, .int x6)]) X d_Mo_able_74 (by decide) rfl ?_
        refine R_aload_n X 1 d_Mo_able_76 rfl ?_
        refine V_pc (pc' := 77) rfl ?_
        refine R_iload_n X 2 d_Mo_able_77 rfl ?_
        refine R_iload X 5 d_Mo_able_78 rfl ?_
        obtain ⟨p18, e17, h⟩ := ob h
        refine R_vcall (ci := 7) (k := 99) (As := [.int v1, .int x4]) (st := []) X (M_Mo_behindMonth e17) tw_921 cf_Mo_behindMonth (of_decide_eq_true rfl) rfl rfl rfl rfl rfl d_Mo_able_80 ?_
        refine R_istore (L' := [(4, .int p18.1), (5, .int (x5 + (1 : Int32))), (0, .ref (gA (zG Z) 99)), (1, .int v1), (2, .int v2), (3, .int v3), (6, .int x6)]) X d_Mo_able_83 (by decide) rfl ?_
        refine R_iinc (v := (x6 + 1)) (L' := [(6, .int (x6 + 1)), (4, .int p18.1), (5, .int (x5 + (1 : Int32))), (0, .ref (gA (zG Z) 99)), (1, .int v1), (2, .int v2), (3, .int v3)]) X 6 d_Mo_able_85 rfl rfl (by decide) rfl ?_
        refine R_goto (tgt := 50) X d_Mo_able_88 rfl ?_
        refine V_pc (pc' := 50) rfl (R_loc (L' := [(0, .ref (gA (zG Z) 99)), (1, .int v1), (2, .int v2), (3, .int v3), (4, .int p18.1), (5, .int (x5 + (1 : Int32))), (6, .int (x6 + 1))]) [3, 4, 5, 6, 1, 2, 0] rfl ?_)
        exact ih p18.2 p18.1 (x5 + (1 : Int32)) (x6 + 1) h
set_option maxRecDepth 20000 in
set_option maxHeartbeats 2000000 in
theorem T_Mo_able {Z : ZT} (X : CX Z Y_Mo_able) {hp : HP} {a1 : Int32} {a2 : Int32} {a3 : Int32} {p : Int32 × HP} (h : f_Mo_able hp a1 a2 a3 = some p) (hR : RetI Z Y_Mo_able .int p.1 p.2) : V Z Y_Mo_able hp 0 [(0, .ref (gA (zG Z) 99)), (1, .int a1), (2, .int a2), (3, .int a3)] [] := by
  unfold f_Mo_able at h
  refine R_aload_n X 0 d_Mo_able_0 rfl ?_
  refine R_iload_n X 1 d_Mo_able_1 rfl ?_
  obtain ⟨p2, e1, h⟩ := ob h
  refine R_vcall (ci := 7) (k := 99) (As := [.int a1]) (st := []) X (M_Mo_isCustomer e1) tw_878 cf_Mo_isCustomer (of_decide_eq_true rfl) rfl rfl rfl rfl rfl d_Mo_able_2 ?_
  refine R_ifeq (tgt := 16) X d_Mo_able_5 rfl (fun c3 => ?_) (fun c3 => ?_)
  · replace h := (if_pos c3).symm.trans h
    refine R_ldc (v := (-1000000001 : Int32)) X tw_873 d_Mo_able_16 ?_
    exact R_ret hR h d_Mo_able_18
  · replace h := (if_neg c3).symm.trans h
    refine R_aload_n X 0 d_Mo_able_8 rfl ?_
    refine R_iload_n X 2 d_Mo_able_9 rfl ?_
    obtain ⟨p5, e4, h⟩ := ob h
    refine R_vcall (ci := 7) (k := 99) (As := [.int a2]) (st := []) X (M_Mo_isTask e4) tw_895 cf_Mo_isTask (of_decide_eq_true rfl) rfl rfl rfl rfl rfl d_Mo_able_10 ?_
    refine R_ifne (tgt := 19) X d_Mo_able_13 rfl (fun c6 => ?_) (fun c6 => ?_)
    · replace h := (if_neg c6).symm.trans h
      refine R_iload_n X 3 d_Mo_able_19 rfl ?_
      refine R_i2l X d_Mo_able_20 ?_
      refine R_lconst (v := (1 : Int64)) X d_Mo_able_21 rfl ?_
      refine R_ldc2 (v := (60 : Int64)) X tw_916 d_Mo_able_22 ?_
      obtain ⟨p8, e7, h⟩ := ob h
      refine R_scall (As := [.long (a3).toInt64, .long (1 : Int64), .long (60 : Int64)]) (st := []) X (M_Mo_in e7) tw_782 cf_Mo_in rfl rfl rfl d_Mo_able_25 ?_
      refine V_pc (pc' := 28) rfl ?_
      refine R_ifne (tgt := 34) X d_Mo_able_28 rfl (fun c9 => ?_) (fun c9 => ?_)
      · replace h := (if_neg c9).symm.trans h
        refine R_aload_n X 0 d_Mo_able_34 rfl ?_
        refine R_getR (ci := 7) X rfl iMo_ok (of_decide_eq_true rfl) rfl 0 rfl rfl tw_671 d_Mo_able_35 ?_
        refine R_iconst (v := (1 : Int32)) X d_Mo_able_38 rfl ?_
        refine R_iload_n X 1 d_Mo_able_39 rfl ?_
        refine R_iadd X d_Mo_able_40 ?_
        refine V_pc (pc' := 41) rfl ?_
        obtain ⟨i10, h⟩ := ck h
        refine R_iald (n := 736) X (of_decide_eq_true rfl) rfl i10 d_Mo_able_41 ?_
        refine R_istore (L' := [(4, .int (p8.2 100 (((1 : Int32) + a1)).toNatClampNeg)), (0, .ref (gA (zG Z) 99)), (1, .int a1), (2, .int a2), (3, .int a3)]) X d_Mo_able_42 (by decide) rfl ?_
        refine R_iconst (v := (0 : Int32)) X d_Mo_able_44 rfl ?_
        refine R_istore (L' := [(5, .int (0 : Int32)), (4, .int (p8.2 100 (((1 : Int32) + a1)).toNatClampNeg)), (0, .ref (gA (zG Z) 99)), (1, .int a1), (2, .int a2), (3, .int a3)]) X d_Mo_able_45 (by decide) rfl ?_
        refine R_iconst (v := (0 : Int32)) X d_Mo_able_47 rfl ?_
        refine R_istore (L' := [(6, .int (0 : Int32)), (5, .int (0 : Int32)), (4, .int (p8.2 100 (((1 : Int32) + a1)).toNatClampNeg)), (0, .ref (gA (zG Z) 99)), (1, .int a1), (2, .int a2), (3, .int a3)]) X d_Mo_able_48 (by decide) rfl ?_
        refine V_pc (pc' := 50) rfl (R_loc (L' := [(0, .ref (gA (zG Z) 99)), (1, .int a1), (2, .int a2), (3, .int a3), (4, .int (p8.2 100 (((1 : Int32) + a1)).toNatClampNeg)), (5, .int (0 : Int32)), (6, .int (0 : Int32))]) [3, 4, 5, 6, 2, 1, 0] rfl ?_)
        refine T_Mo_able_L50 X hR (fun hp20 w19 h => ?_) _ p8.2 (p8.2 100 (((1 : Int32) + a1)).toNatClampNeg) (0 : Int32) (0 : Int32) h
        refine R_iload X 0 d_Mo_able_91 rfl ?_
        exact R_ret hR h d_Mo_able_93
      · replace h := (if_pos c9).symm.trans h
        refine R_ldc (v := (-1000000002 : Int32)) X tw_785 d_Mo_able_31 ?_
        exact R_ret hR h d_Mo_able_33
    · replace h := (if_pos c6).symm.trans h
      refine R_ldc (v := (-1000000001 : Int32)) X tw_873 d_Mo_able_16 ?_
      exact R_ret hR h d_Mo_able_18
theorem M_Mo_able {G : GT} {hp : HP} {a1 : Int32} {a2 : Int32} {a3 : Int32} {p : Int32 × HP} (h : f_Mo_able hp a1 a2 a3 = some p) : MI G y_Mo_able Y_Mo_able .int [.ref (gA G 99), .int a1, .int a2, .int a3] hp p.1 p.2 := MI_of rfl (fun Z hz X hR => by subst hz; exact T_Mo_able X h hR)
theorem d_Mo_spending_0 : decode prog_9_method_49_code 0 = .ok (.iload_n 1, 1) := by decide +kernel
theorem d_Mo_spending_1 : decode prog_9_method_49_code 1 = .ok (.i2l, 1) := by decide +kernel
theorem d_Mo_spending_2 : decode prog_9_method_49_code 2 = .ok (.lconst 1, 1) := by decide +kernel
theorem d_Mo_spending_3 : decode prog_9_method_49_code 3 = .ok (.ldc2_w 217, 3) := by decide +kernel
theorem d_Mo_spending_6 : decode prog_9_method_49_code 6 = .ok (.invokestatic 72, 3) := by decide +kernel
theorem d_Mo_spending_9 : decode prog_9_method_49_code 9 = .ok (.ifCond .ne (6), 3) := by decide +kernel
theorem d_Mo_spending_12 : decode prog_9_method_49_code 12 = .ok (.ldc 88, 2) := by decide +kernel
theorem d_Mo_spending_14 : decode prog_9_method_49_code 14 = .ok (.ireturn, 1) := by decide +kernel
theorem d_Mo_spending_15 : decode prog_9_method_49_code 15 = .ok (.aload_n 0, 1) := by decide +kernel
theorem d_Mo_spending_16 : decode prog_9_method_49_code 16 = .ok (.getfield 149, 3) := by decide +kernel
theorem d_Mo_spending_19 : decode prog_9_method_49_code 19 = .ok (.iconst 5, 1) := by decide +kernel
theorem d_Mo_spending_20 : decode prog_9_method_49_code 20 = .ok (.if_icmp .ne (6), 3) := by decide +kernel
theorem d_Mo_spending_23 : decode prog_9_method_49_code 23 = .ok (.ldc 92, 2) := by decide +kernel
theorem d_Mo_spending_25 : decode prog_9_method_49_code 25 = .ok (.ireturn, 1) := by decide +kernel
theorem d_Mo_spending_26 : decode prog_9_method_49_code 26 = .ok (.aload_n 0, 1) := by decide +kernel
theorem d_Mo_spending_27 : decode prog_9_method_49_code 27 = .ok (.getfield 45, 3) := by decide +kernel
theorem d_Mo_spending_30 : decode prog_9_method_49_code 30 = .ok (.aload_n 0, 1) := by decide +kernel
theorem d_Mo_spending_31 : decode prog_9_method_49_code 31 = .ok (.getfield 149, 3) := by decide +kernel
theorem d_Mo_spending_34 : decode prog_9_method_49_code 34 = .ok (.iload_n 1, 1) := by decide +kernel
theorem d_Mo_spending_35 : decode prog_9_method_49_code 35 = .ok (.iastore, 1) := by decide +kernel
theorem d_Mo_spending_36 : decode prog_9_method_49_code 36 = .ok (.aload_n 0, 1) := by decide +kernel
theorem d_Mo_spending_37 : decode prog_9_method_49_code 37 = .ok (.dup, 1) := by decide +kernel
theorem d_Mo_spending_38 : decode prog_9_method_49_code 38 = .ok (.getfield 149, 3) := by decide +kernel
theorem d_Mo_spending_41 : decode prog_9_method_49_code 41 = .ok (.iconst 1, 1) := by decide +kernel
theorem d_Mo_spending_42 : decode prog_9_method_49_code 42 = .ok (.iadd, 1) := by decide +kernel
theorem d_Mo_spending_43 : decode prog_9_method_49_code 43 = .ok (.putfield 149, 3) := by decide +kernel
theorem d_Mo_spending_46 : decode prog_9_method_49_code 46 = .ok (.aload_n 0, 1) := by decide +kernel
theorem d_Mo_spending_47 : decode prog_9_method_49_code 47 = .ok (.getfield 149, 3) := by decide +kernel
theorem d_Mo_spending_50 : decode prog_9_method_49_code 50 = .ok (.ireturn, 1) := by decide +kernel
set_option maxRecDepth 20000 in
set_option maxHeartbeats 2000000 in
theorem T_Mo_spending {Z : ZT} (X : CX Z Y_Mo_spending) {hp : HP} {a1 : Int32} {p : Int32 × HP} (h : f_Mo_spending hp a1 = some p) (hR : RetI Z Y_Mo_spending .int p.1 p.2) : V Z Y_Mo_spending hp 0 [(0, .ref (gA (zG Z) 99)), (1, .int a1)] [] := by
  unfold f_Mo_spending at h
  refine R_iload_n X 1 d_Mo_spending_0 rfl ?_
  refine R_i2l X d_Mo_spending_1 ?_
  refine R_lconst (v := (1 : Int64)) X d_Mo_spending_2 rfl ?_
  refine R_ldc2 (v := (999 : Int64)) X tw_932 d_Mo_spending_3 ?_
  obtain ⟨p2, e1, h⟩ := ob h
  refine R_scall (As := [.long (a1).toInt64, .long (1 : Int64), .long (999 : Int64)]) (st := []) X (M_Mo_in e1) tw_782 cf_Mo_in rfl rfl rfl d_Mo_spending_6 ?_
  refine V_pc (pc' := 9) rfl ?_
  refine R_ifne (tgt := 15) X d_Mo_spending_9 rfl (fun c3 => ?_) (fun c3 => ?_)
  · replace h := (if_neg c3).symm.trans h
    refine R_aload_n X 0 d_Mo_spending_15 rfl ?_
    refine R_getI (ci := 7) X rfl iMo_ok (of_decide_eq_true rfl) rfl 23 rfl rfl tw_694 d_Mo_spending_16 ?_
    refine R_iconst (v := (5 : Int32)) X d_Mo_spending_19 rfl ?_
    refine R_icmp_ne (tgt := 26) X d_Mo_spending_20 rfl (fun c4 => ?_) (fun c4 => ?_)
    · replace h := (if_neg c4).symm.trans h
      refine R_aload_n X 0 d_Mo_spending_26 rfl ?_
      refine R_getR (ci := 7) X rfl iMo_ok (of_decide_eq_true rfl) rfl 24 rfl rfl tw_695 d_Mo_spending_27 ?_
      refine R_aload_n X 0 d_Mo_spending_30 rfl ?_
      refine R_getI (ci := 7) X rfl iMo_ok (of_decide_eq_true rfl) rfl 23 rfl rfl tw_694 d_Mo_spending_31 ?_
      refine R_iload_n X 1 d_Mo_spending_34 rfl ?_
      refine V_pc (pc' := 35) rfl ?_
      obtain ⟨i5, h⟩ := ck h
      refine R_iast (n := 5) X (of_decide_eq_true rfl) rfl i5 d_Mo_spending_35 ?_
      refine R_aload_n X 0 d_Mo_spending_36 rfl ?_
      refine R_dup X d_Mo_spending_37 rfl ?_
      refine R_getI (ci := 7) X rfl iMo_ok (of_decide_eq_true rfl) rfl 23 rfl rfl tw_694 d_Mo_spending_38 ?_
      refine R_iconst (v := (1 : Int32)) X d_Mo_spending_41 rfl ?_
      refine R_iadd X d_Mo_spending_42 ?_
      refine V_pc (pc' := 43) rfl ?_
      refine R_putI (ci := 7) X rfl iMo_ok yMo_ok nMo_ok (of_decide_eq_true rfl) rfl 23 rfl rfl rfl rfl tw_694 d_Mo_spending_43 ?_
      refine R_aload_n X 0 d_Mo_spending_46 rfl ?_
      refine R_getI (ci := 7) X rfl iMo_ok (of_decide_eq_true rfl) rfl 23 rfl rfl tw_694 d_Mo_spending_47 ?_
      exact R_ret hR h d_Mo_spending_50
    · replace h := (if_pos c4).symm.trans h
      refine R_ldc (v := (-1000000004 : Int32)) X tw_786 d_Mo_spending_23 ?_
      exact R_ret hR h d_Mo_spending_25
  · replace h := (if_pos c3).symm.trans h
    refine R_ldc (v := (-1000000002 : Int32)) X tw_785 d_Mo_spending_12 ?_
    exact R_ret hR h d_Mo_spending_14
theorem M_Mo_spending {G : GT} {hp : HP} {a1 : Int32} {p : Int32 × HP} (h : f_Mo_spending hp a1 = some p) : MI G y_Mo_spending Y_Mo_spending .int [.ref (gA G 99), .int a1] hp p.1 p.2 := MI_of rfl (fun Z hz X hR => by subst hz; exact T_Mo_spending X h hR)
theorem d_Mo_must_0 : decode prog_9_method_50_code 0 = .ok (.aload_n 0, 1) := by decide +kernel
theorem d_Mo_must_1 : decode prog_9_method_50_code 1 = .ok (.iload_n 1, 1) := by decide +kernel
theorem d_Mo_must_2 : decode prog_9_method_50_code 2 = .ok (.invokevirtual 194, 3) := by decide +kernel
theorem d_Mo_must_5 : decode prog_9_method_50_code 5 = .ok (.ifCond .ne (6), 3) := by decide +kernel
theorem d_Mo_must_8 : decode prog_9_method_50_code 8 = .ok (.ldc 189, 2) := by decide +kernel
theorem d_Mo_must_10 : decode prog_9_method_50_code 10 = .ok (.ireturn, 1) := by decide +kernel
theorem d_Mo_must_11 : decode prog_9_method_50_code 11 = .ok (.iload_n 2, 1) := by decide +kernel
theorem d_Mo_must_12 : decode prog_9_method_50_code 12 = .ok (.i2l, 1) := by decide +kernel
theorem d_Mo_must_13 : decode prog_9_method_50_code 13 = .ok (.lconst 0, 1) := by decide +kernel
theorem d_Mo_must_14 : decode prog_9_method_50_code 14 = .ok (.ldc2_w 236, 3) := by decide +kernel
theorem d_Mo_must_17 : decode prog_9_method_50_code 17 = .ok (.invokestatic 72, 3) := by decide +kernel
theorem d_Mo_must_20 : decode prog_9_method_50_code 20 = .ok (.ifCond .ne (6), 3) := by decide +kernel
theorem d_Mo_must_23 : decode prog_9_method_50_code 23 = .ok (.ldc 88, 2) := by decide +kernel
theorem d_Mo_must_25 : decode prog_9_method_50_code 25 = .ok (.ireturn, 1) := by decide +kernel
theorem d_Mo_must_26 : decode prog_9_method_50_code 26 = .ok (.aload_n 0, 1) := by decide +kernel
theorem d_Mo_must_27 : decode prog_9_method_50_code 27 = .ok (.getfield 152, 3) := by decide +kernel
theorem d_Mo_must_30 : decode prog_9_method_50_code 30 = .ok (.iconst 4, 1) := by decide +kernel
theorem d_Mo_must_31 : decode prog_9_method_50_code 31 = .ok (.if_icmp .ne (6), 3) := by decide +kernel
theorem d_Mo_must_34 : decode prog_9_method_50_code 34 = .ok (.ldc 92, 2) := by decide +kernel
theorem d_Mo_must_36 : decode prog_9_method_50_code 36 = .ok (.ireturn, 1) := by decide +kernel
theorem d_Mo_must_37 : decode prog_9_method_50_code 37 = .ok (.aload_n 0, 1) := by decide +kernel
theorem d_Mo_must_38 : decode prog_9_method_50_code 38 = .ok (.getfield 48, 3) := by decide +kernel
theorem d_Mo_must_41 : decode prog_9_method_50_code 41 = .ok (.aload_n 0, 1) := by decide +kernel
theorem d_Mo_must_42 : decode prog_9_method_50_code 42 = .ok (.getfield 152, 3) := by decide +kernel
theorem d_Mo_must_45 : decode prog_9_method_50_code 45 = .ok (.iload_n 1, 1) := by decide +kernel
theorem d_Mo_must_46 : decode prog_9_method_50_code 46 = .ok (.iastore, 1) := by decide +kernel
theorem d_Mo_must_47 : decode prog_9_method_50_code 47 = .ok (.aload_n 0, 1) := by decide +kernel
theorem d_Mo_must_48 : decode prog_9_method_50_code 48 = .ok (.getfield 51, 3) := by decide +kernel
theorem d_Mo_must_51 : decode prog_9_method_50_code 51 = .ok (.aload_n 0, 1) := by decide +kernel
theorem d_Mo_must_52 : decode prog_9_method_50_code 52 = .ok (.getfield 152, 3) := by decide +kernel
theorem d_Mo_must_55 : decode prog_9_method_50_code 55 = .ok (.iload_n 2, 1) := by decide +kernel
theorem d_Mo_must_56 : decode prog_9_method_50_code 56 = .ok (.iastore, 1) := by decide +kernel
theorem d_Mo_must_57 : decode prog_9_method_50_code 57 = .ok (.aload_n 0, 1) := by decide +kernel
theorem d_Mo_must_58 : decode prog_9_method_50_code 58 = .ok (.dup, 1) := by decide +kernel
theorem d_Mo_must_59 : decode prog_9_method_50_code 59 = .ok (.getfield 152, 3) := by decide +kernel
theorem d_Mo_must_62 : decode prog_9_method_50_code 62 = .ok (.iconst 1, 1) := by decide +kernel
theorem d_Mo_must_63 : decode prog_9_method_50_code 63 = .ok (.iadd, 1) := by decide +kernel
theorem d_Mo_must_64 : decode prog_9_method_50_code 64 = .ok (.putfield 152, 3) := by decide +kernel
theorem d_Mo_must_67 : decode prog_9_method_50_code 67 = .ok (.aload_n 0, 1) := by decide +kernel
theorem d_Mo_must_68 : decode prog_9_method_50_code 68 = .ok (.getfield 152, 3) := by decide +kernel
theorem d_Mo_must_71 : decode prog_9_method_50_code 71 = .ok (.ireturn, 1) := by decide +kernel
set_option maxRecDepth 20000 in
set_option maxHeartbeats 2000000 in
theorem T_Mo_must {Z : ZT} (X : CX Z Y_Mo_must) {hp : HP} {a1 : Int32} {a2 : Int32} {p : Int32 × HP} (h : f_Mo_must hp a1 a2 = some p) (hR : RetI Z Y_Mo_must .int p.1 p.2) : V Z Y_Mo_must hp 0 [(0, .ref (gA (zG Z) 99)), (1, .int a1), (2, .int a2)] [] := by
  unfold f_Mo_must at h
  refine R_aload_n X 0 d_Mo_must_0 rfl ?_
  refine R_iload_n X 1 d_Mo_must_1 rfl ?_
  obtain ⟨p2, e1, h⟩ := ob h
  refine R_vcall (ci := 7) (k := 99) (As := [.int a1]) (st := []) X (M_Mo_isTask e1) tw_895 cf_Mo_isTask (of_decide_eq_true rfl) rfl rfl rfl rfl rfl d_Mo_must_2 ?_
  refine R_ifne (tgt := 11) X d_Mo_must_5 rfl (fun c3 => ?_) (fun c3 => ?_)
  · replace h := (if_neg c3).symm.trans h
    refine R_iload_n X 2 d_Mo_must_11 rfl ?_
    refine R_i2l X d_Mo_must_12 ?_
    refine R_lconst (v := (0 : Int64)) X d_Mo_must_13 rfl ?_
    refine R_ldc2 (v := (3 : Int64)) X tw_977 d_Mo_must_14 ?_
    obtain ⟨p5, e4, h⟩ := ob h
    refine R_scall (As := [.long (a2).toInt64, .long (0 : Int64), .long (3 : Int64)]) (st := []) X (M_Mo_in e4) tw_782 cf_Mo_in rfl rfl rfl d_Mo_must_17 ?_
    refine V_pc (pc' := 20) rfl ?_
    refine R_ifne (tgt := 26) X d_Mo_must_20 rfl (fun c6 => ?_) (fun c6 => ?_)
    · replace h := (if_neg c6).symm.trans h
      refine R_aload_n X 0 d_Mo_must_26 rfl ?_
      refine R_getI (ci := 7) X rfl iMo_ok (of_decide_eq_true rfl) rfl 25 rfl rfl tw_696 d_Mo_must_27 ?_
      refine R_iconst (v := (4 : Int32)) X d_Mo_must_30 rfl ?_
      refine R_icmp_ne (tgt := 37) X d_Mo_must_31 rfl (fun c7 => ?_) (fun c7 => ?_)
      · replace h := (if_neg c7).symm.trans h
        refine R_aload_n X 0 d_Mo_must_37 rfl ?_
        refine R_getR (ci := 7) X rfl iMo_ok (of_decide_eq_true rfl) rfl 26 rfl rfl tw_697 d_Mo_must_38 ?_
        refine R_aload_n X 0 d_Mo_must_41 rfl ?_
        refine R_getI (ci := 7) X rfl iMo_ok (of_decide_eq_true rfl) rfl 25 rfl rfl tw_696 d_Mo_must_42 ?_
        refine R_iload_n X 1 d_Mo_must_45 rfl ?_
        refine V_pc (pc' := 46) rfl ?_
        obtain ⟨i8, h⟩ := ck h
        refine R_iast (n := 4) X (of_decide_eq_true rfl) rfl i8 d_Mo_must_46 ?_
        refine R_aload_n X 0 d_Mo_must_47 rfl ?_
        refine R_getR (ci := 7) X rfl iMo_ok (of_decide_eq_true rfl) rfl 27 rfl rfl tw_698 d_Mo_must_48 ?_
        refine R_aload_n X 0 d_Mo_must_51 rfl ?_
        refine R_getI (ci := 7) X rfl iMo_ok (of_decide_eq_true rfl) rfl 25 rfl rfl tw_696 d_Mo_must_52 ?_
        refine R_iload_n X 2 d_Mo_must_55 rfl ?_
        refine V_pc (pc' := 56) rfl ?_
        obtain ⟨i9, h⟩ := ck h
        refine R_iast (n := 4) X (of_decide_eq_true rfl) rfl i9 d_Mo_must_56 ?_
        refine R_aload_n X 0 d_Mo_must_57 rfl ?_
        refine R_dup X d_Mo_must_58 rfl ?_
        refine R_getI (ci := 7) X rfl iMo_ok (of_decide_eq_true rfl) rfl 25 rfl rfl tw_696 d_Mo_must_59 ?_
        refine R_iconst (v := (1 : Int32)) X d_Mo_must_62 rfl ?_
        refine R_iadd X d_Mo_must_63 ?_
        refine V_pc (pc' := 64) rfl ?_
        refine R_putI (ci := 7) X rfl iMo_ok yMo_ok nMo_ok (of_decide_eq_true rfl) rfl 25 rfl rfl rfl rfl tw_696 d_Mo_must_64 ?_
        refine R_aload_n X 0 d_Mo_must_67 rfl ?_
        refine R_getI (ci := 7) X rfl iMo_ok (of_decide_eq_true rfl) rfl 25 rfl rfl tw_696 d_Mo_must_68 ?_
        exact R_ret hR h d_Mo_must_71
      · replace h := (if_pos c7).symm.trans h
        refine R_ldc (v := (-1000000004 : Int32)) X tw_786 d_Mo_must_34 ?_
        exact R_ret hR h d_Mo_must_36
    · replace h := (if_pos c6).symm.trans h
      refine R_ldc (v := (-1000000002 : Int32)) X tw_785 d_Mo_must_23 ?_
      exact R_ret hR h d_Mo_must_25
  · replace h := (if_pos c3).symm.trans h
    refine R_ldc (v := (-1000000001 : Int32)) X tw_873 d_Mo_must_8 ?_
    exact R_ret hR h d_Mo_must_10
theorem M_Mo_must {G : GT} {hp : HP} {a1 : Int32} {a2 : Int32} {p : Int32 × HP} (h : f_Mo_must hp a1 a2 = some p) : MI G y_Mo_must Y_Mo_must .int [.ref (gA G 99), .int a1, .int a2] hp p.1 p.2 := MI_of rfl (fun Z hz X hR => by subst hz; exact T_Mo_must X h hR)
theorem d_Mo_isPlan_0 : decode prog_9_method_51_code 0 = .ok (.aload_n 0, 1) := by decide +kernel
theorem d_Mo_isPlan_1 : decode prog_9_method_51_code 1 = .ok (.getfield 7, 3) := by decide +kernel
theorem d_Mo_isPlan_4 : decode prog_9_method_51_code 4 = .ok (.iconst 1, 1) := by decide +kernel
theorem d_Mo_isPlan_5 : decode prog_9_method_51_code 5 = .ok (.iload_n 1, 1) := by decide +kernel
theorem d_Mo_isPlan_6 : decode prog_9_method_51_code 6 = .ok (.iadd, 1) := by decide +kernel
theorem d_Mo_isPlan_7 : decode prog_9_method_51_code 7 = .ok (.iaload, 1) := by decide +kernel
theorem d_Mo_isPlan_8 : decode prog_9_method_51_code 8 = .ok (.istore_n 3, 1) := by decide +kernel
theorem d_Mo_isPlan_9 : decode prog_9_method_51_code 9 = .ok (.iconst 0, 1) := by decide +kernel
theorem d_Mo_isPlan_10 : decode prog_9_method_51_code 10 = .ok (.istore 4, 2) := by decide +kernel
theorem d_Mo_isPlan_12 : decode prog_9_method_51_code 12 = .ok (.iload 4, 2) := by decide +kernel
theorem d_Mo_isPlan_14 : decode prog_9_method_51_code 14 = .ok (.iload_n 2, 1) := by decide +kernel
theorem d_Mo_isPlan_15 : decode prog_9_method_51_code 15 = .ok (.if_icmp .ge (110), 3) := by decide +kernel
theorem d_Mo_isPlan_18 : decode prog_9_method_51_code 18 = .ok (.iconst 0, 1) := by decide +kernel
theorem d_Mo_isPlan_19 : decode prog_9_method_51_code 19 = .ok (.istore 5, 2) := by decide +kernel
theorem d_Mo_isPlan_21 : decode prog_9_method_51_code 21 = .ok (.iload 5, 2) := by decide +kernel
theorem d_Mo_isPlan_23 : decode prog_9_method_51_code 23 = .ok (.aload_n 0, 1) := by decide +kernel
theorem d_Mo_isPlan_24 : decode prog_9_method_51_code 24 = .ok (.getfield 149, 3) := by decide +kernel
theorem d_Mo_isPlan_27 : decode prog_9_method_51_code 27 = .ok (.if_icmp .ge (38), 3) := by decide +kernel
theorem d_Mo_isPlan_30 : decode prog_9_method_51_code 30 = .ok (.aload_n 0, 1) := by decide +kernel
theorem d_Mo_isPlan_31 : decode prog_9_method_51_code 31 = .ok (.getfield 54, 3) := by decide +kernel
theorem d_Mo_isPlan_34 : decode prog_9_method_51_code 34 = .ok (.iload 5, 2) := by decide +kernel
theorem d_Mo_isPlan_36 : decode prog_9_method_51_code 36 = .ok (.iaload, 1) := by decide +kernel
theorem d_Mo_isPlan_37 : decode prog_9_method_51_code 37 = .ok (.iload 4, 2) := by decide +kernel
theorem d_Mo_isPlan_39 : decode prog_9_method_51_code 39 = .ok (.if_icmp .ne (18), 3) := by decide +kernel
theorem d_Mo_isPlan_42 : decode prog_9_method_51_code 42 = .ok (.iload_n 3, 1) := by decide +kernel
theorem d_Mo_isPlan_43 : decode prog_9_method_51_code 43 = .ok (.aload_n 0, 1) := by decide +kernel
theorem d_Mo_isPlan_44 : decode prog_9_method_51_code 44 = .ok (.getfield 45, 3) := by decide +kernel
theorem d_Mo_isPlan_47 : decode prog_9_method_51_code 47 = .ok (.iload 5, 2) := by decide +kernel
theorem d_Mo_isPlan_49 : decode prog_9_method_51_code 49 = .ok (.iaload, 1) := by decide +kernel
theorem d_Mo_isPlan_50 : decode prog_9_method_51_code 50 = .ok (.isub, 1) := by decide +kernel
theorem d_Mo_isPlan_51 : decode prog_9_method_51_code 51 = .ok (.invokestatic 205, 3) := by decide +kernel
theorem d_Mo_isPlan_54 : decode prog_9_method_51_code 54 = .ok (.goto (4), 3) := by decide +kernel
theorem d_Mo_isPlan_57 : decode prog_9_method_51_code 57 = .ok (.iload_n 3, 1) := by decide +kernel
theorem d_Mo_isPlan_58 : decode prog_9_method_51_code 58 = .ok (.istore_n 3, 1) := by decide +kernel
theorem d_Mo_isPlan_59 : decode prog_9_method_51_code 59 = .ok (.iinc 5 (1), 3) := by decide +kernel
theorem d_Mo_isPlan_62 : decode prog_9_method_51_code 62 = .ok (.goto (-41), 3) := by decide +kernel
theorem d_Mo_isPlan_65 : decode prog_9_method_51_code 65 = .ok (.iconst 0, 1) := by decide +kernel
theorem d_Mo_isPlan_66 : decode prog_9_method_51_code 66 = .ok (.istore 5, 2) := by decide +kernel
theorem d_Mo_isPlan_68 : decode prog_9_method_51_code 68 = .ok (.iload 5, 2) := by decide +kernel
theorem d_Mo_isPlan_70 : decode prog_9_method_51_code 70 = .ok (.aload_n 0, 1) := by decide +kernel
theorem d_Mo_isPlan_71 : decode prog_9_method_51_code 71 = .ok (.getfield 152, 3) := by decide +kernel
theorem d_Mo_isPlan_74 : decode prog_9_method_51_code 74 = .ok (.if_icmp .ge (38), 3) := by decide +kernel
theorem d_Mo_isPlan_77 : decode prog_9_method_51_code 77 = .ok (.aload_n 0, 1) := by decide +kernel
theorem d_Mo_isPlan_78 : decode prog_9_method_51_code 78 = .ok (.getfield 51, 3) := by decide +kernel
theorem d_Mo_isPlan_81 : decode prog_9_method_51_code 81 = .ok (.iload 5, 2) := by decide +kernel
theorem d_Mo_isPlan_83 : decode prog_9_method_51_code 83 = .ok (.iaload, 1) := by decide +kernel
theorem d_Mo_isPlan_84 : decode prog_9_method_51_code 84 = .ok (.iload 4, 2) := by decide +kernel
theorem d_Mo_isPlan_86 : decode prog_9_method_51_code 86 = .ok (.if_icmp .ne (20), 3) := by decide +kernel
theorem d_Mo_isPlan_89 : decode prog_9_method_51_code 89 = .ok (.aload_n 0, 1) := by decide +kernel
theorem d_Mo_isPlan_90 : decode prog_9_method_51_code 90 = .ok (.iload_n 3, 1) := by decide +kernel
theorem d_Mo_isPlan_91 : decode prog_9_method_51_code 91 = .ok (.aload_n 0, 1) := by decide +kernel
theorem d_Mo_isPlan_92 : decode prog_9_method_51_code 92 = .ok (.getfield 48, 3) := by decide +kernel
theorem d_Mo_isPlan_95 : decode prog_9_method_51_code 95 = .ok (.iload 5, 2) := by decide +kernel
theorem d_Mo_isPlan_97 : decode prog_9_method_51_code 97 = .ok (.iaload, 1) := by decide +kernel
theorem d_Mo_isPlan_98 : decode prog_9_method_51_code 98 = .ok (.invokevirtual 197, 3) := by decide +kernel
theorem d_Mo_isPlan_101 : decode prog_9_method_51_code 101 = .ok (.ifCond .ne (5), 3) := by decide +kernel
theorem d_Mo_isPlan_104 : decode prog_9_method_51_code 104 = .ok (.iconst 0, 1) := by decide +kernel
theorem d_Mo_isPlan_105 : decode prog_9_method_51_code 105 = .ok (.ireturn, 1) := by decide +kernel
theorem d_Mo_isPlan_106 : decode prog_9_method_51_code 106 = .ok (.iinc 5 (1), 3) := by decide +kernel
theorem d_Mo_isPlan_109 : decode prog_9_method_51_code 109 = .ok (.goto (-41), 3) := by decide +kernel
theorem d_Mo_isPlan_112 : decode prog_9_method_51_code 112 = .ok (.aload_n 0, 1) := by decide +kernel
theorem d_Mo_isPlan_113 : decode prog_9_method_51_code 113 = .ok (.iload_n 1, 1) := by decide +kernel
theorem d_Mo_isPlan_114 : decode prog_9_method_51_code 114 = .ok (.iload_n 3, 1) := by decide +kernel
theorem d_Mo_isPlan_115 : decode prog_9_method_51_code 115 = .ok (.invokevirtual 213, 3) := by decide +kernel
theorem d_Mo_isPlan_118 : decode prog_9_method_51_code 118 = .ok (.istore_n 3, 1) := by decide +kernel
theorem d_Mo_isPlan_119 : decode prog_9_method_51_code 119 = .ok (.iinc 4 (1), 3) := by decide +kernel
theorem d_Mo_isPlan_122 : decode prog_9_method_51_code 122 = .ok (.goto (-110), 3) := by decide +kernel
theorem d_Mo_isPlan_125 : decode prog_9_method_51_code 125 = .ok (.iconst 1, 1) := by decide +kernel
theorem d_Mo_isPlan_126 : decode prog_9_method_51_code 126 = .ok (.ireturn, 1) := by decide +kernel
set_option maxRecDepth 20000 in
set_option maxHeartbeats 2000000 in
theorem T_Mo_isPlan_L21 {Z : ZT} (X : CX Z Y_Mo_isPlan) {v1 : Int32} {v2 : Int32} {v4 : Int32} {p : Int32 × HP} (hR : RetI Z Y_Mo_isPlan .boolean p.1 p.2) {K : HP → Int32 → Option (Int32 × HP)} (hK : ∀ (hp : HP) (x3 : Int32), K hp x3 = some p → V Z Y_Mo_isPlan hp 65 [(0, .ref (gA (zG Z) 99)), (1, .int v1), (2, .int v2), (3, .int x3), (4, .int v4)] []) : ∀ (n : Nat) (hp : HP) (x3 : Int32) (x5 : Int32), f_Mo_isPlan_L21 v1 v2 v4 K n hp x3 x5 = some p → V Z Y_Mo_isPlan hp 21 [(0, .ref (gA (zG Z) 99)), (1, .int v1), (2, .int v2), (3, .int x3), (4, .int v4), (5, .int x5)] [] := by
  intro n
  induction n with
  | zero =>
    intro hp x3 x5 h
    cases h
  | succ n ih =>
    intro hp x3 x5 h
    replace h : f_Mo_isPlan_L21 v1 v2 v4 K (n + 1) hp x3 x5 = some p := h
    unfold f_Mo_isPlan_L21 at h
    refine R_iload X 5 d_Mo_isPlan_21 rfl ?_
    refine R_aload_n X 0 d_Mo_isPlan_23 rfl ?_
    refine R_getI (ci := 7) X rfl iMo_ok (of_decide_eq_true rfl) rfl 23 rfl rfl tw_694 d_Mo_isPlan_24 ?_
    refine R_icmp_ge (tgt := 65) X d_Mo_isPlan_27 rfl (fun c3 => ?_) (fun c3 => ?_)
    · replace h := (if_pos c3).symm.trans h
      refine V_pc (pc' := 65) rfl (R_loc (L' := [(0, .ref (gA (zG Z) 99)), (1, .int v1), (2, .int v2), (3, .int x3), (4, .int v4)]) [0, 1, 2, 3, 4] rfl ?_)
      exact hK hp x3 h
    · replace h := (if_neg c3).symm.trans h
      refine R_aload_n X 0 d_Mo_isPlan_30 rfl ?_
      refine R_getR (ci := 7) X rfl iMo_ok (of_decide_eq_true rfl) rfl 28 rfl rfl tw_699 d_Mo_isPlan_31 ?_
      refine R_iload X 5 d_Mo_isPlan_34 rfl ?_
      obtain ⟨i4, h⟩ := ck h
      refine R_iald (n := 5) X (of_decide_eq_true rfl) rfl i4 d_Mo_isPlan_36 ?_
      refine R_iload X 4 d_Mo_isPlan_37 rfl ?_
      refine V_pc (pc' := 39) rfl ?_
      refine R_icmp_ne (tgt := 57) X d_Mo_isPlan_39 rfl (fun c5 => ?_) (fun c5 => ?_)
      · replace h := (if_neg c5).symm.trans h
        refine R_iload_n X 3 d_Mo_isPlan_57 rfl ?_
        refine R_istore_n (L' := [(3, .int x3), (0, .ref (gA (zG Z) 99)), (1, .int v1), (2, .int v2), (4, .int v4), (5, .int x5)]) X d_Mo_isPlan_58 (by decide) rfl ?_
        refine R_iinc (v := (x5 + 1)) (L' := [(5, .int (x5 + 1)), (3, .int x3), (0, .ref (gA (zG Z) 99)), (1, .int v1), (2, .int v2), (4, .int v4)]) X 5 d_Mo_isPlan_59 rfl rfl (by decide) rfl ?_
        refine R_goto (tgt := 21) X d_Mo_isPlan_62 rfl ?_
        refine V_pc (pc' := 21) rfl (R_loc (L' := [(0, .ref (gA (zG Z) 99)), (1, .int v1), (2, .int v2), (3, .int x3), (4, .int v4), (5, .int (x5 + 1))]) [2, 3, 4, 1, 5, 0] rfl ?_)
        exact ih hp x3 (x5 + 1) h
      · replace h := (if_pos c5).symm.trans h
        refine R_iload_n X 3 d_Mo_isPlan_42 rfl ?_
        refine R_aload_n X 0 d_Mo_isPlan_43 rfl ?_
        refine R_getR (ci := 7) X rfl iMo_ok (of_decide_eq_true rfl) rfl 24 rfl rfl tw_695 d_Mo_isPlan_44 ?_
        refine R_iload X 5 d_Mo_isPlan_47 rfl ?_
        refine R_iald (n := 5) X (of_decide_eq_true rfl) rfl i4 d_Mo_isPlan_49 ?_
        refine V_pc (pc' := 50) rfl ?_
        refine R_isub X d_Mo_isPlan_50 ?_
        obtain ⟨p7, e6, h⟩ := ob h
        refine R_scall (As := [.int (x3 - (hp 110 (x5).toNatClampNeg))]) (st := []) X (M_Mo_bounded e6) tw_925 cf_Mo_bounded rfl rfl rfl d_Mo_isPlan_51 ?_
        refine R_goto (tgt := 58) X d_Mo_isPlan_54 rfl ?_
        refine R_istore_n (L' := [(3, .int p7.1), (0, .ref (gA (zG Z) 99)), (1, .int v1), (2, .int v2), (4, .int v4), (5, .int x5)]) X d_Mo_isPlan_58 (by decide) rfl ?_
        refine R_iinc (v := (x5 + 1)) (L' := [(5, .int (x5 + 1)), (3, .int p7.1), (0, .ref (gA (zG Z) 99)), (1, .int v1), (2, .int v2), (4, .int v4)]) X 5 d_Mo_isPlan_59 rfl rfl (by decide) rfl ?_
        refine R_goto (tgt := 21) X d_Mo_isPlan_62 rfl ?_
        refine V_pc (pc' := 21) rfl (R_loc (L' := [(0, .ref (gA (zG Z) 99)), (1, .int v1), (2, .int v2), (3, .int p7.1), (4, .int v4), (5, .int (x5 + 1))]) [2, 3, 4, 1, 5, 0] rfl ?_)
        exact ih p7.2 p7.1 (x5 + 1) h
set_option maxRecDepth 20000 in
set_option maxHeartbeats 2000000 in
theorem T_Mo_isPlan_L68 {Z : ZT} (X : CX Z Y_Mo_isPlan) {v1 : Int32} {v2 : Int32} {v3 : Int32} {v4 : Int32} {p : Int32 × HP} (hR : RetI Z Y_Mo_isPlan .boolean p.1 p.2) {K : HP → Option (Int32 × HP)} (hK : ∀ (hp : HP), K hp = some p → V Z Y_Mo_isPlan hp 112 [(0, .ref (gA (zG Z) 99)), (1, .int v1), (2, .int v2), (3, .int v3), (4, .int v4)] []) : ∀ (n : Nat) (hp : HP) (x5 : Int32), f_Mo_isPlan_L68 v1 v2 v3 v4 K n hp x5 = some p → V Z Y_Mo_isPlan hp 68 [(0, .ref (gA (zG Z) 99)), (1, .int v1), (2, .int v2), (3, .int v3), (4, .int v4), (5, .int x5)] [] := by
  intro n
  induction n with
  | zero =>
    intro hp x5 h
    cases h
  | succ n ih =>
    intro hp x5 h
    replace h : f_Mo_isPlan_L68 v1 v2 v3 v4 K (n + 1) hp x5 = some p := h
    unfold f_Mo_isPlan_L68 at h
    refine R_iload X 5 d_Mo_isPlan_68 rfl ?_
    refine R_aload_n X 0 d_Mo_isPlan_70 rfl ?_
    refine R_getI (ci := 7) X rfl iMo_ok (of_decide_eq_true rfl) rfl 25 rfl rfl tw_696 d_Mo_isPlan_71 ?_
    refine R_icmp_ge (tgt := 112) X d_Mo_isPlan_74 rfl (fun c10 => ?_) (fun c10 => ?_)
    · replace h := (if_pos c10).symm.trans h
      refine V_pc (pc' := 112) rfl (R_loc (L' := [(0, .ref (gA (zG Z) 99)), (1, .int v1), (2, .int v2), (3, .int v3), (4, .int v4)]) [0, 1, 2, 3, 4] rfl ?_)
      exact hK hp h
    · replace h := (if_neg c10).symm.trans h
      refine R_aload_n X 0 d_Mo_isPlan_77 rfl ?_
      refine R_getR (ci := 7) X rfl iMo_ok (of_decide_eq_true rfl) rfl 27 rfl rfl tw_698 d_Mo_isPlan_78 ?_
      refine R_iload X 5 d_Mo_isPlan_81 rfl ?_
      obtain ⟨i11, h⟩ := ck h
      refine R_iald (n := 4) X (of_decide_eq_true rfl) rfl i11 d_Mo_isPlan_83 ?_
      refine R_iload X 4 d_Mo_isPlan_84 rfl ?_
      refine V_pc (pc' := 86) rfl ?_
      refine R_icmp_ne (tgt := 106) X d_Mo_isPlan_86 rfl (fun c12 => ?_) (fun c12 => ?_)
      · replace h := (if_neg c12).symm.trans h
        refine R_iinc (v := (x5 + 1)) (L' := [(5, .int (x5 + 1)), (0, .ref (gA (zG Z) 99)), (1, .int v1), (2, .int v2), (3, .int v3), (4, .int v4)]) X 5 d_Mo_isPlan_106 rfl rfl (by decide) rfl ?_
        refine R_goto (tgt := 68) X d_Mo_isPlan_109 rfl ?_
        refine V_pc (pc' := 68) rfl (R_loc (L' := [(0, .ref (gA (zG Z) 99)), (1, .int v1), (2, .int v2), (3, .int v3), (4, .int v4), (5, .int (x5 + 1))]) [1, 2, 3, 4, 5, 0] rfl ?_)
        exact ih hp (x5 + 1) h
      · replace h := (if_pos c12).symm.trans h
        refine R_aload_n X 0 d_Mo_isPlan_89 rfl ?_
        refine R_iload_n X 3 d_Mo_isPlan_90 rfl ?_
        refine R_aload_n X 0 d_Mo_isPlan_91 rfl ?_
        refine R_getR (ci := 7) X rfl iMo_ok (of_decide_eq_true rfl) rfl 26 rfl rfl tw_697 d_Mo_isPlan_92 ?_
        refine R_iload X 5 d_Mo_isPlan_95 rfl ?_
        refine V_pc (pc' := 97) rfl ?_
        refine R_iald (n := 4) X (of_decide_eq_true rfl) rfl i11 d_Mo_isPlan_97 ?_
        obtain ⟨p14, e13, h⟩ := ob h
        refine R_vcall (ci := 7) (k := 99) (As := [.int v3, .int (hp 111 (x5).toNatClampNeg)]) (st := []) X (M_Mo_canBy e13) tw_899 cf_Mo_canBy (of_decide_eq_true rfl) rfl rfl rfl rfl rfl d_Mo_isPlan_98 ?_
        refine R_ifne (tgt := 106) X d_Mo_isPlan_101 rfl (fun c15 => ?_) (fun c15 => ?_)
        · replace h := (if_neg c15).symm.trans h
          refine R_iinc (v := (x5 + 1)) (L' := [(5, .int (x5 + 1)), (0, .ref (gA (zG Z) 99)), (1, .int v1), (2, .int v2), (3, .int v3), (4, .int v4)]) X 5 d_Mo_isPlan_106 rfl rfl (by decide) rfl ?_
          refine R_goto (tgt := 68) X d_Mo_isPlan_109 rfl ?_
          refine V_pc (pc' := 68) rfl (R_loc (L' := [(0, .ref (gA (zG Z) 99)), (1, .int v1), (2, .int v2), (3, .int v3), (4, .int v4), (5, .int (x5 + 1))]) [1, 2, 3, 4, 5, 0] rfl ?_)
          exact ih p14.2 (x5 + 1) h
        · replace h := (if_pos c15).symm.trans h
          refine R_iconst (v := (0 : Int32)) X d_Mo_isPlan_104 rfl ?_
          exact R_retc hR (by decide) h d_Mo_isPlan_105
set_option maxRecDepth 20000 in
set_option maxHeartbeats 2000000 in
theorem T_Mo_isPlan_L12 {Z : ZT} (X : CX Z Y_Mo_isPlan) {v1 : Int32} {v2 : Int32} {p : Int32 × HP} (hR : RetI Z Y_Mo_isPlan .boolean p.1 p.2) {K : HP → Option (Int32 × HP)} (hK : ∀ (hp : HP), K hp = some p → V Z Y_Mo_isPlan hp 125 [] []) : ∀ (n : Nat) (hp : HP) (x3 : Int32) (x4 : Int32), f_Mo_isPlan_L12 v1 v2 K n hp x3 x4 = some p → V Z Y_Mo_isPlan hp 12 [(0, .ref (gA (zG Z) 99)), (1, .int v1), (2, .int v2), (3, .int x3), (4, .int x4)] [] := by
  intro n
  induction n with
  | zero =>
    intro hp x3 x4 h
    cases h
  | succ n ih =>
    intro hp x3 x4 h
    replace h : f_Mo_isPlan_L12 v1 v2 K (n + 1) hp x3 x4 = some p := h
    unfold f_Mo_isPlan_L12 at h
    refine R_iload X 4 d_Mo_isPlan_12 rfl ?_
    refine R_iload_n X 2 d_Mo_isPlan_14 rfl ?_
    refine R_icmp_ge (tgt := 125) X d_Mo_isPlan_15 rfl (fun c2 => ?_) (fun c2 => ?_)
    · replace h := (if_pos c2).symm.trans h
      refine V_pc (pc' := 125) rfl (R_loc (L' := []) [] rfl ?_)
      exact hK hp h
    · replace h := (if_neg c2).symm.trans h
      refine R_iconst (v := (0 : Int32)) X d_Mo_isPlan_18 rfl ?_
      refine R_istore (L' := [(5, .int (0 : Int32)), (0, .ref (gA (zG Z) 99)), (1, .int v1), (2, .int v2), (3, .int x3), (4, .int x4)]) X d_Mo_isPlan_19 (by decide) rfl ?_
      refine V_pc (pc' := 21) rfl (R_loc (L' := [(0, .ref (gA (zG Z) 99)), (1, .int v1), (2, .int v2), (3, .int x3), (4, .int x4), (5, .int (0 : Int32))]) [1, 2, 3, 4, 5, 0] rfl ?_)
      refine T_Mo_isPlan_L21 X hR (fun hp9 w8 h => ?_) _ hp x3 (0 : Int32) h
      refine R_iconst (v := (0 : Int32)) X d_Mo_isPlan_65 rfl ?_
      refine R_istore (L' := [(5, .int (0 : Int32)), (0, .ref (gA (zG Z) 99)), (1, .int v1), (2, .int v2), (3, .int w8), (4, .int x4)]) X d_Mo_isPlan_66 (by decide) rfl ?_
      refine V_pc (pc' := 68) rfl (R_loc (L' := [(0, .ref (gA (zG Z) 99)), (1, .int v1), (2, .int v2), (3, .int w8), (4, .int x4), (5, .int (0 : Int32))]) [1, 2, 3, 4, 5, 0] rfl ?_)
      refine T_Mo_isPlan_L68 X hR (fun hp16 h => ?_) _ hp9 (0 : Int32) h
      refine R_aload_n X 0 d_Mo_isPlan_112 rfl ?_
      refine R_iload_n X 1 d_Mo_isPlan_113 rfl ?_
      refine R_iload_n X 3 d_Mo_isPlan_114 rfl ?_
      obtain ⟨p18, e17, h⟩ := ob h
      refine R_vcall (ci := 7) (k := 99) (As := [.int v1, .int w8]) (st := []) X (M_Mo_behindMonth e17) tw_921 cf_Mo_behindMonth (of_decide_eq_true rfl) rfl rfl rfl rfl rfl d_Mo_isPlan_115 ?_
      refine R_istore_n (L' := [(3, .int p18.1), (0, .ref (gA (zG Z) 99)), (1, .int v1), (2, .int v2), (4, .int x4)]) X d_Mo_isPlan_118 (by decide) rfl ?_
      refine V_pc (pc' := 119) rfl ?_
      refine R_iinc (v := (x4 + 1)) (L' := [(4, .int (x4 + 1)), (3, .int p18.1), (0, .ref (gA (zG Z) 99)), (1, .int v1), (2, .int v2)]) X 4 d_Mo_isPlan_119 rfl rfl (by decide) rfl ?_
      refine R_goto (tgt := 12) X d_Mo_isPlan_122 rfl ?_
      refine V_pc (pc' := 12) rfl (R_loc (L' := [(0, .ref (gA (zG Z) 99)), (1, .int v1), (2, .int v2), (3, .int p18.1), (4, .int (x4 + 1))]) [2, 3, 4, 1, 0] rfl ?_)
      exact ih p18.2 p18.1 (x4 + 1) h
set_option maxRecDepth 20000 in
set_option maxHeartbeats 2000000 in
theorem T_Mo_isPlan {Z : ZT} (X : CX Z Y_Mo_isPlan) {hp : HP} {a1 : Int32} {a2 : Int32} {p : Int32 × HP} (h : f_Mo_isPlan hp a1 a2 = some p) (hR : RetI Z Y_Mo_isPlan .boolean p.1 p.2) : V Z Y_Mo_isPlan hp 0 [(0, .ref (gA (zG Z) 99)), (1, .int a1), (2, .int a2)] [] := by
  unfold f_Mo_isPlan at h
  refine R_aload_n X 0 d_Mo_isPlan_0 rfl ?_
  refine R_getR (ci := 7) X rfl iMo_ok (of_decide_eq_true rfl) rfl 0 rfl rfl tw_671 d_Mo_isPlan_1 ?_
  refine R_iconst (v := (1 : Int32)) X d_Mo_isPlan_4 rfl ?_
  refine R_iload_n X 1 d_Mo_isPlan_5 rfl ?_
  refine R_iadd X d_Mo_isPlan_6 ?_
  refine V_pc (pc' := 7) rfl ?_
  obtain ⟨i1, h⟩ := ck h
  refine R_iald (n := 736) X (of_decide_eq_true rfl) rfl i1 d_Mo_isPlan_7 ?_
  refine R_istore_n (L' := [(3, .int (hp 100 (((1 : Int32) + a1)).toNatClampNeg)), (0, .ref (gA (zG Z) 99)), (1, .int a1), (2, .int a2)]) X d_Mo_isPlan_8 (by decide) rfl ?_
  refine R_iconst (v := (0 : Int32)) X d_Mo_isPlan_9 rfl ?_
  refine R_istore (L' := [(4, .int (0 : Int32)), (3, .int (hp 100 (((1 : Int32) + a1)).toNatClampNeg)), (0, .ref (gA (zG Z) 99)), (1, .int a1), (2, .int a2)]) X d_Mo_isPlan_10 (by decide) rfl ?_
  refine V_pc (pc' := 12) rfl (R_loc (L' := [(0, .ref (gA (zG Z) 99)), (1, .int a1), (2, .int a2), (3, .int (hp 100 (((1 : Int32) + a1)).toNatClampNeg)), (4, .int (0 : Int32))]) [2, 3, 4, 1, 0] rfl ?_)
  refine T_Mo_isPlan_L12 X hR (fun hp19 h => ?_) _ hp (hp 100 (((1 : Int32) + a1)).toNatClampNeg) (0 : Int32) h
  refine R_iconst (v := (1 : Int32)) X d_Mo_isPlan_125 rfl ?_
  exact R_retc hR (by decide) h d_Mo_isPlan_126
theorem M_Mo_isPlan {G : GT} {hp : HP} {a1 : Int32} {a2 : Int32} {p : Int32 × HP} (h : f_Mo_isPlan hp a1 a2 = some p) : MI G y_Mo_isPlan Y_Mo_isPlan .boolean [.ref (gA G 99), .int a1, .int a2] hp p.1 p.2 := MI_of rfl (fun Z hz X hR => by subst hz; exact T_Mo_isPlan X h hR)
theorem d_Mo_plan_0 : decode prog_9_method_52_code 0 = .ok (.aload_n 0, 1) := by decide +kernel
theorem d_Mo_plan_1 : decode prog_9_method_52_code 1 = .ok (.iload_n 1, 1) := by decide +kernel
theorem d_Mo_plan_2 : decode prog_9_method_52_code 2 = .ok (.invokevirtual 79, 3) := by decide +kernel
theorem d_Mo_plan_5 : decode prog_9_method_52_code 5 = .ok (.ifCond .ne (6), 3) := by decide +kernel
theorem d_Mo_plan_8 : decode prog_9_method_52_code 8 = .ok (.ldc 189, 2) := by decide +kernel
theorem d_Mo_plan_10 : decode prog_9_method_52_code 10 = .ok (.ireturn, 1) := by decide +kernel
theorem d_Mo_plan_11 : decode prog_9_method_52_code 11 = .ok (.iconst 0, 1) := by decide +kernel
theorem d_Mo_plan_12 : decode prog_9_method_52_code 12 = .ok (.istore 4, 2) := by decide +kernel
theorem d_Mo_plan_14 : decode prog_9_method_52_code 14 = .ok (.iconst 0, 1) := by decide +kernel
theorem d_Mo_plan_15 : decode prog_9_method_52_code 15 = .ok (.istore 5, 2) := by decide +kernel
theorem d_Mo_plan_17 : decode prog_9_method_52_code 17 = .ok (.iload 5, 2) := by decide +kernel
theorem d_Mo_plan_19 : decode prog_9_method_52_code 19 = .ok (.aload_n 0, 1) := by decide +kernel
theorem d_Mo_plan_20 : decode prog_9_method_52_code 20 = .ok (.getfield 152, 3) := by decide +kernel
theorem d_Mo_plan_23 : decode prog_9_method_52_code 23 = .ok (.if_icmp .ge (32), 3) := by decide +kernel
theorem d_Mo_plan_26 : decode prog_9_method_52_code 26 = .ok (.iload 4, 2) := by decide +kernel
theorem d_Mo_plan_28 : decode prog_9_method_52_code 28 = .ok (.ifCond .ne (14), 3) := by decide +kernel
theorem d_Mo_plan_31 : decode prog_9_method_52_code 31 = .ok (.aload_n 0, 1) := by decide +kernel
theorem d_Mo_plan_32 : decode prog_9_method_52_code 32 = .ok (.getfield 51, 3) := by decide +kernel
theorem d_Mo_plan_35 : decode prog_9_method_52_code 35 = .ok (.iload 5, 2) := by decide +kernel
theorem d_Mo_plan_37 : decode prog_9_method_52_code 37 = .ok (.iaload, 1) := by decide +kernel
theorem d_Mo_plan_38 : decode prog_9_method_52_code 38 = .ok (.iload_n 2, 1) := by decide +kernel
theorem d_Mo_plan_39 : decode prog_9_method_52_code 39 = .ok (.if_icmp .lt (7), 3) := by decide +kernel
theorem d_Mo_plan_42 : decode prog_9_method_52_code 42 = .ok (.iconst 1, 1) := by decide +kernel
theorem d_Mo_plan_43 : decode prog_9_method_52_code 43 = .ok (.goto (4), 3) := by decide +kernel
theorem d_Mo_plan_46 : decode prog_9_method_52_code 46 = .ok (.iconst 0, 1) := by decide +kernel
theorem d_Mo_plan_47 : decode prog_9_method_52_code 47 = .ok (.istore 4, 2) := by decide +kernel
theorem d_Mo_plan_49 : decode prog_9_method_52_code 49 = .ok (.iinc 5 (1), 3) := by decide +kernel
theorem d_Mo_plan_52 : decode prog_9_method_52_code 52 = .ok (.goto (-35), 3) := by decide +kernel
theorem d_Mo_plan_55 : decode prog_9_method_52_code 55 = .ok (.iload_n 2, 1) := by decide +kernel
theorem d_Mo_plan_56 : decode prog_9_method_52_code 56 = .ok (.i2l, 1) := by decide +kernel
theorem d_Mo_plan_57 : decode prog_9_method_52_code 57 = .ok (.lconst 1, 1) := by decide +kernel
theorem d_Mo_plan_58 : decode prog_9_method_52_code 58 = .ok (.ldc2_w 238, 3) := by decide +kernel
theorem d_Mo_plan_61 : decode prog_9_method_52_code 61 = .ok (.invokestatic 72, 3) := by decide +kernel
theorem d_Mo_plan_64 : decode prog_9_method_52_code 64 = .ok (.ifCond .eq (8), 3) := by decide +kernel
theorem d_Mo_plan_67 : decode prog_9_method_52_code 67 = .ok (.iload 4, 2) := by decide +kernel
theorem d_Mo_plan_69 : decode prog_9_method_52_code 69 = .ok (.ifCond .eq (6), 3) := by decide +kernel
theorem d_Mo_plan_72 : decode prog_9_method_52_code 72 = .ok (.ldc 88, 2) := by decide +kernel
theorem d_Mo_plan_74 : decode prog_9_method_52_code 74 = .ok (.ireturn, 1) := by decide +kernel
theorem d_Mo_plan_75 : decode prog_9_method_52_code 75 = .ok (.iconst 1, 1) := by decide +kernel
theorem d_Mo_plan_76 : decode prog_9_method_52_code 76 = .ok (.istore 5, 2) := by decide +kernel
theorem d_Mo_plan_78 : decode prog_9_method_52_code 78 = .ok (.iconst 0, 1) := by decide +kernel
theorem d_Mo_plan_79 : decode prog_9_method_52_code 79 = .ok (.istore 6, 2) := by decide +kernel
theorem d_Mo_plan_81 : decode prog_9_method_52_code 81 = .ok (.iload 6, 2) := by decide +kernel
theorem d_Mo_plan_83 : decode prog_9_method_52_code 83 = .ok (.aload_n 0, 1) := by decide +kernel
theorem d_Mo_plan_84 : decode prog_9_method_52_code 84 = .ok (.getfield 149, 3) := by decide +kernel
theorem d_Mo_plan_87 : decode prog_9_method_52_code 87 = .ok (.if_icmp .ge (15), 3) := by decide +kernel
theorem d_Mo_plan_90 : decode prog_9_method_52_code 90 = .ok (.iload 5, 2) := by decide +kernel
theorem d_Mo_plan_92 : decode prog_9_method_52_code 92 = .ok (.iload_n 2, 1) := by decide +kernel
theorem d_Mo_plan_93 : decode prog_9_method_52_code 93 = .ok (.imul, 1) := by decide +kernel
theorem d_Mo_plan_94 : decode prog_9_method_52_code 94 = .ok (.istore 5, 2) := by decide +kernel
theorem d_Mo_plan_96 : decode prog_9_method_52_code 96 = .ok (.iinc 6 (1), 3) := by decide +kernel
theorem d_Mo_plan_99 : decode prog_9_method_52_code 99 = .ok (.goto (-18), 3) := by decide +kernel
theorem d_Mo_plan_102 : decode prog_9_method_52_code 102 = .ok (.iconst 0, 1) := by decide +kernel
theorem d_Mo_plan_103 : decode prog_9_method_52_code 103 = .ok (.istore 6, 2) := by decide +kernel
theorem d_Mo_plan_105 : decode prog_9_method_52_code 105 = .ok (.iload 6, 2) := by decide +kernel
theorem d_Mo_plan_107 : decode prog_9_method_52_code 107 = .ok (.iload 5, 2) := by decide +kernel
theorem d_Mo_plan_109 : decode prog_9_method_52_code 109 = .ok (.if_icmp .ge (94), 3) := by decide +kernel
theorem d_Mo_plan_112 : decode prog_9_method_52_code 112 = .ok (.iload 6, 2) := by decide +kernel
theorem d_Mo_plan_114 : decode prog_9_method_52_code 114 = .ok (.istore 7, 2) := by decide +kernel
theorem d_Mo_plan_116 : decode prog_9_method_52_code 116 = .ok (.aload_n 0, 1) := by decide +kernel
theorem d_Mo_plan_117 : decode prog_9_method_52_code 117 = .ok (.getfield 149, 3) := by decide +kernel
theorem d_Mo_plan_120 : decode prog_9_method_52_code 120 = .ok (.iconst 1, 1) := by decide +kernel
theorem d_Mo_plan_121 : decode prog_9_method_52_code 121 = .ok (.isub, 1) := by decide +kernel
theorem d_Mo_plan_122 : decode prog_9_method_52_code 122 = .ok (.istore 8, 2) := by decide +kernel
theorem d_Mo_plan_124 : decode prog_9_method_52_code 124 = .ok (.iload 8, 2) := by decide +kernel
theorem d_Mo_plan_126 : decode prog_9_method_52_code 126 = .ok (.ifCond .lt (26), 3) := by decide +kernel
theorem d_Mo_plan_129 : decode prog_9_method_52_code 129 = .ok (.aload_n 0, 1) := by decide +kernel
theorem d_Mo_plan_130 : decode prog_9_method_52_code 130 = .ok (.getfield 54, 3) := by decide +kernel
theorem d_Mo_plan_133 : decode prog_9_method_52_code 133 = .ok (.iload 8, 2) := by decide +kernel
theorem d_Mo_plan_135 : decode prog_9_method_52_code 135 = .ok (.iload 7, 2) := by decide +kernel
theorem d_Mo_plan_137 : decode prog_9_method_52_code 137 = .ok (.iload_n 2, 1) := by decide +kernel
theorem d_Mo_plan_138 : decode prog_9_method_52_code 138 = .ok (.irem, 1) := by decide +kernel
theorem d_Mo_plan_139 : decode prog_9_method_52_code 139 = .ok (.iastore, 1) := by decide +kernel
theorem d_Mo_plan_140 : decode prog_9_method_52_code 140 = .ok (.iload 7, 2) := by decide +kernel
theorem d_Mo_plan_142 : decode prog_9_method_52_code 142 = .ok (.iload_n 2, 1) := by decide +kernel
theorem d_Mo_plan_143 : decode prog_9_method_52_code 143 = .ok (.idiv, 1) := by decide +kernel
theorem d_Mo_plan_144 : decode prog_9_method_52_code 144 = .ok (.istore 7, 2) := by decide +kernel
theorem d_Mo_plan_146 : decode prog_9_method_52_code 146 = .ok (.iinc 8 (-1), 3) := by decide +kernel
theorem d_Mo_plan_149 : decode prog_9_method_52_code 149 = .ok (.goto (-25), 3) := by decide +kernel
theorem d_Mo_plan_152 : decode prog_9_method_52_code 152 = .ok (.aload_n 0, 1) := by decide +kernel
theorem d_Mo_plan_153 : decode prog_9_method_52_code 153 = .ok (.iload_n 1, 1) := by decide +kernel
theorem d_Mo_plan_154 : decode prog_9_method_52_code 154 = .ok (.iload_n 2, 1) := by decide +kernel
theorem d_Mo_plan_155 : decode prog_9_method_52_code 155 = .ok (.invokevirtual 240, 3) := by decide +kernel
theorem d_Mo_plan_158 : decode prog_9_method_52_code 158 = .ok (.ifCond .eq (39), 3) := by decide +kernel
theorem d_Mo_plan_161 : decode prog_9_method_52_code 161 = .ok (.iload_n 3, 1) := by decide +kernel
theorem d_Mo_plan_162 : decode prog_9_method_52_code 162 = .ok (.iconst (-1), 1) := by decide +kernel
theorem d_Mo_plan_163 : decode prog_9_method_52_code 163 = .ok (.if_icmp .ne (7), 3) := by decide +kernel
theorem d_Mo_plan_166 : decode prog_9_method_52_code 166 = .ok (.iconst 1, 1) := by decide +kernel
theorem d_Mo_plan_167 : decode prog_9_method_52_code 167 = .ok (.goto (29), 3) := by decide +kernel
theorem d_Mo_plan_170 : decode prog_9_method_52_code 170 = .ok (.iload_n 3, 1) := by decide +kernel
theorem d_Mo_plan_171 : decode prog_9_method_52_code 171 = .ok (.i2l, 1) := by decide +kernel
theorem d_Mo_plan_172 : decode prog_9_method_52_code 172 = .ok (.lconst 0, 1) := by decide +kernel
theorem d_Mo_plan_173 : decode prog_9_method_52_code 173 = .ok (.aload_n 0, 1) := by decide +kernel
theorem d_Mo_plan_174 : decode prog_9_method_52_code 174 = .ok (.getfield 149, 3) := by decide +kernel
theorem d_Mo_plan_177 : decode prog_9_method_52_code 177 = .ok (.iconst 1, 1) := by decide +kernel
theorem d_Mo_plan_178 : decode prog_9_method_52_code 178 = .ok (.isub, 1) := by decide +kernel
theorem d_Mo_plan_179 : decode prog_9_method_52_code 179 = .ok (.i2l, 1) := by decide +kernel
theorem d_Mo_plan_180 : decode prog_9_method_52_code 180 = .ok (.invokestatic 72, 3) := by decide +kernel
theorem d_Mo_plan_183 : decode prog_9_method_52_code 183 = .ok (.ifCond .eq (12), 3) := by decide +kernel
theorem d_Mo_plan_186 : decode prog_9_method_52_code 186 = .ok (.aload_n 0, 1) := by decide +kernel
theorem d_Mo_plan_187 : decode prog_9_method_52_code 187 = .ok (.getfield 54, 3) := by decide +kernel
theorem d_Mo_plan_190 : decode prog_9_method_52_code 190 = .ok (.iload_n 3, 1) := by decide +kernel
theorem d_Mo_plan_191 : decode prog_9_method_52_code 191 = .ok (.iaload, 1) := by decide +kernel
theorem d_Mo_plan_192 : decode prog_9_method_52_code 192 = .ok (.goto (4), 3) := by decide +kernel
theorem d_Mo_plan_195 : decode prog_9_method_52_code 195 = .ok (.iconst (-1), 1) := by decide +kernel
theorem d_Mo_plan_196 : decode prog_9_method_52_code 196 = .ok (.ireturn, 1) := by decide +kernel
theorem d_Mo_plan_197 : decode prog_9_method_52_code 197 = .ok (.iinc 6 (1), 3) := by decide +kernel
theorem d_Mo_plan_200 : decode prog_9_method_52_code 200 = .ok (.goto (-95), 3) := by decide +kernel
theorem d_Mo_plan_203 : decode prog_9_method_52_code 203 = .ok (.iload_n 3, 1) := by decide +kernel
theorem d_Mo_plan_204 : decode prog_9_method_52_code 204 = .ok (.iconst (-1), 1) := by decide +kernel
theorem d_Mo_plan_205 : decode prog_9_method_52_code 205 = .ok (.if_icmp .ne (7), 3) := by decide +kernel
theorem d_Mo_plan_208 : decode prog_9_method_52_code 208 = .ok (.iconst 0, 1) := by decide +kernel
theorem d_Mo_plan_209 : decode prog_9_method_52_code 209 = .ok (.goto (4), 3) := by decide +kernel
theorem d_Mo_plan_212 : decode prog_9_method_52_code 212 = .ok (.iconst (-1), 1) := by decide +kernel
theorem d_Mo_plan_213 : decode prog_9_method_52_code 213 = .ok (.ireturn, 1) := by decide +kernel
set_option maxRecDepth 20000 in
set_option maxHeartbeats 2000000 in
theorem T_Mo_plan_L17 {Z : ZT} (X : CX Z Y_Mo_plan) {v1 : Int32} {v2 : Int32} {v3 : Int32} {p : Int32 × HP} (hR : RetI Z Y_Mo_plan .int p.1 p.2) {K : HP → Int32 → Option (Int32 × HP)} (hK : ∀ (hp : HP) (x4 : Int32), K hp x4 = some p → V Z Y_Mo_plan hp 55 [(0, .ref (gA (zG Z) 99)), (1, .int v1), (2, .int v2), (3, .int v3), (4, .int x4)] []) : ∀ (n : Nat) (hp : HP) (x4 : Int32) (x5 : Int32), f_Mo_plan_L17 v1 v2 v3 K n hp x4 x5 = some p → V Z Y_Mo_plan hp 17 [(0, .ref (gA (zG Z) 99)), (1, .int v1), (2, .int v2), (3, .int v3), (4, .int x4), (5, .int x5)] [] := by
  intro n
  induction n with
  | zero =>
    intro hp x4 x5 h
    cases h
  | succ n ih =>
    intro hp x4 x5 h
    replace h : f_Mo_plan_L17 v1 v2 v3 K (n + 1) hp x4 x5 = some p := h
    unfold f_Mo_plan_L17 at h
    refine R_iload X 5 d_Mo_plan_17 rfl ?_
    refine R_aload_n X 0 d_Mo_plan_19 rfl ?_
    refine R_getI (ci := 7) X rfl iMo_ok (of_decide_eq_true rfl) rfl 25 rfl rfl tw_696 d_Mo_plan_20 ?_
    refine R_icmp_ge (tgt := 55) X d_Mo_plan_23 rfl (fun c4 => ?_) (fun c4 => ?_)
    · replace h := (if_pos c4).symm.trans h
      refine V_pc (pc' := 55) rfl (R_loc (L' := [(0, .ref (gA (zG Z) 99)), (1, .int v1), (2, .int v2), (3, .int v3), (4, .int x4)]) [0, 1, 2, 3, 4] rfl ?_)
      exact hK hp x4 h
    · replace h := (if_neg c4).symm.trans h
      refine R_iload X 4 d_Mo_plan_26 rfl ?_
      refine R_ifne (tgt := 42) X d_Mo_plan_28 rfl (fun c5 => ?_) (fun c5 => ?_)
      · replace h := (if_neg c5).symm.trans h
        refine R_iconst (v := (1 : Int32)) X d_Mo_plan_42 rfl ?_
        refine R_goto (tgt := 47) X d_Mo_plan_43 rfl ?_
        refine R_istore (L' := [(4, .int (1 : Int32)), (0, .ref (gA (zG Z) 99)), (1, .int v1), (2, .int v2), (3, .int v3), (5, .int x5)]) X d_Mo_plan_47 (by decide) rfl ?_
        refine R_iinc (v := (x5 + 1)) (L' := [(5, .int (x5 + 1)), (4, .int (1 : Int32)), (0, .ref (gA (zG Z) 99)), (1, .int v1), (2, .int v2), (3, .int v3)]) X 5 d_Mo_plan_49 rfl rfl (by decide) rfl ?_
        refine R_goto (tgt := 17) X d_Mo_plan_52 rfl ?_
        refine V_pc (pc' := 17) rfl (R_loc (L' := [(0, .ref (gA (zG Z) 99)), (1, .int v1), (2, .int v2), (3, .int v3), (4, .int (1 : Int32)), (5, .int (x5 + 1))]) [2, 3, 4, 5, 1, 0] rfl ?_)
        exact ih hp (1 : Int32) (x5 + 1) h
      · replace h := (if_pos c5).symm.trans h
        refine R_aload_n X 0 d_Mo_plan_31 rfl ?_
        refine R_getR (ci := 7) X rfl iMo_ok (of_decide_eq_true rfl) rfl 27 rfl rfl tw_698 d_Mo_plan_32 ?_
        refine R_iload X 5 d_Mo_plan_35 rfl ?_
        obtain ⟨i6, h⟩ := ck h
        refine R_iald (n := 4) X (of_decide_eq_true rfl) rfl i6 d_Mo_plan_37 ?_
        refine R_iload_n X 2 d_Mo_plan_38 rfl ?_
        refine V_pc (pc' := 39) rfl ?_
        refine R_icmp_lt (tgt := 46) X d_Mo_plan_39 rfl (fun c7 => ?_) (fun c7 => ?_)
        · replace h := (if_pos c7).symm.trans h
          refine R_iconst (v := (0 : Int32)) X d_Mo_plan_46 rfl ?_
          refine R_istore (L' := [(4, .int (0 : Int32)), (0, .ref (gA (zG Z) 99)), (1, .int v1), (2, .int v2), (3, .int v3), (5, .int x5)]) X d_Mo_plan_47 (by decide) rfl ?_
          refine R_iinc (v := (x5 + 1)) (L' := [(5, .int (x5 + 1)), (4, .int (0 : Int32)), (0, .ref (gA (zG Z) 99)), (1, .int v1), (2, .int v2), (3, .int v3)]) X 5 d_Mo_plan_49 rfl rfl (by decide) rfl ?_
          refine R_goto (tgt := 17) X d_Mo_plan_52 rfl ?_
          refine V_pc (pc' := 17) rfl (R_loc (L' := [(0, .ref (gA (zG Z) 99)), (1, .int v1), (2, .int v2), (3, .int v3), (4, .int (0 : Int32)), (5, .int (x5 + 1))]) [2, 3, 4, 5, 1, 0] rfl ?_)
          exact ih hp (0 : Int32) (x5 + 1) h
        · replace h := (if_neg c7).symm.trans h
          refine R_iconst (v := (1 : Int32)) X d_Mo_plan_42 rfl ?_
          refine R_goto (tgt := 47) X d_Mo_plan_43 rfl ?_
          refine R_istore (L' := [(4, .int (1 : Int32)), (0, .ref (gA (zG Z) 99)), (1, .int v1), (2, .int v2), (3, .int v3), (5, .int x5)]) X d_Mo_plan_47 (by decide) rfl ?_
          refine R_iinc (v := (x5 + 1)) (L' := [(5, .int (x5 + 1)), (4, .int (1 : Int32)), (0, .ref (gA (zG Z) 99)), (1, .int v1), (2, .int v2), (3, .int v3)]) X 5 d_Mo_plan_49 rfl rfl (by decide) rfl ?_
          refine R_goto (tgt := 17) X d_Mo_plan_52 rfl ?_
          refine V_pc (pc' := 17) rfl (R_loc (L' := [(0, .ref (gA (zG Z) 99)), (1, .int v1), (2, .int v2), (3, .int v3), (4, .int (1 : Int32)), (5, .int (x5 + 1))]) [2, 3, 4, 5, 1, 0] rfl ?_)
          exact ih hp (1 : Int32) (x5 + 1) h
set_option maxRecDepth 20000 in
set_option maxHeartbeats 2000000 in
theorem T_Mo_plan_L81 {Z : ZT} (X : CX Z Y_Mo_plan) {v1 : Int32} {v2 : Int32} {v3 : Int32} {p : Int32 × HP} (hR : RetI Z Y_Mo_plan .int p.1 p.2) {K : HP → Int32 → Option (Int32 × HP)} (hK : ∀ (hp : HP) (x5 : Int32), K hp x5 = some p → V Z Y_Mo_plan hp 102 [(0, .ref (gA (zG Z) 99)), (1, .int v1), (2, .int v2), (3, .int v3), (5, .int x5)] []) : ∀ (n : Nat) (hp : HP) (x5 : Int32) (x6 : Int32), f_Mo_plan_L81 v1 v2 v3 K n hp x5 x6 = some p → V Z Y_Mo_plan hp 81 [(0, .ref (gA (zG Z) 99)), (1, .int v1), (2, .int v2), (3, .int v3), (5, .int x5), (6, .int x6)] [] := by
  intro n
  induction n with
  | zero =>
    intro hp x5 x6 h
    cases h
  | succ n ih =>
    intro hp x5 x6 h
    replace h : f_Mo_plan_L81 v1 v2 v3 K (n + 1) hp x5 x6 = some p := h
    unfold f_Mo_plan_L81 at h
    refine R_iload X 5 d_Mo_plan_81 rfl ?_
    refine R_aload_n X 0 d_Mo_plan_83 rfl ?_
    refine R_getI (ci := 7) X rfl iMo_ok (of_decide_eq_true rfl) rfl 23 rfl rfl tw_694 d_Mo_plan_84 ?_
    refine R_icmp_ge (tgt := 102) X d_Mo_plan_87 rfl (fun c14 => ?_) (fun c14 => ?_)
    · replace h := (if_pos c14).symm.trans h
      refine V_pc (pc' := 102) rfl (R_loc (L' := [(0, .ref (gA (zG Z) 99)), (1, .int v1), (2, .int v2), (3, .int v3), (5, .int x5)]) [0, 1, 2, 3, 4] rfl ?_)
      exact hK hp x5 h
    · replace h := (if_neg c14).symm.trans h
      refine R_iload X 4 d_Mo_plan_90 rfl ?_
      refine R_iload_n X 2 d_Mo_plan_92 rfl ?_
      refine R_imul X d_Mo_plan_93 ?_
      refine R_istore (L' := [(5, .int (x5 * v2)), (0, .ref (gA (zG Z) 99)), (1, .int v1), (2, .int v2), (3, .int v3), (6, .int x6)]) X d_Mo_plan_94 (by decide) rfl ?_
      refine R_iinc (v := (x6 + 1)) (L' := [(6, .int (x6 + 1)), (5, .int (x5 * v2)), (0, .ref (gA (zG Z) 99)), (1, .int v1), (2, .int v2), (3, .int v3)]) X 5 d_Mo_plan_96 rfl rfl (by decide) rfl ?_
      refine V_pc (pc' := 99) rfl ?_
      refine R_goto (tgt := 81) X d_Mo_plan_99 rfl ?_
      refine V_pc (pc' := 81) rfl (R_loc (L' := [(0, .ref (gA (zG Z) 99)), (1, .int v1), (2, .int v2), (3, .int v3), (5, .int (x5 * v2)), (6, .int (x6 + 1))]) [2, 3, 4, 5, 1, 0] rfl ?_)
      exact ih hp (x5 * v2) (x6 + 1) h
set_option maxRecDepth 20000 in
set_option maxHeartbeats 2000000 in
theorem T_Mo_plan_L124 {Z : ZT} (X : CX Z Y_Mo_plan) {v1 : Int32} {v2 : Int32} {v3 : Int32} {v5 : Int32} {v6 : Int32} {p : Int32 × HP} (hR : RetI Z Y_Mo_plan .int p.1 p.2) {K : HP → Option (Int32 × HP)} (hK : ∀ (hp : HP), K hp = some p → V Z Y_Mo_plan hp 152 [(0, .ref (gA (zG Z) 99)), (1, .int v1), (2, .int v2), (3, .int v3), (5, .int v5), (6, .int v6)] []) : ∀ (n : Nat) (hp : HP) (x7 : Int32) (x8 : Int32), f_Mo_plan_L124 v1 v2 v3 v5 v6 K n hp x7 x8 = some p → V Z Y_Mo_plan hp 124 [(0, .ref (gA (zG Z) 99)), (1, .int v1), (2, .int v2), (3, .int v3), (5, .int v5), (6, .int v6), (7, .int x7), (8, .int x8)] [] := by
  intro n
  induction n with
  | zero =>
    intro hp x7 x8 h
    cases h
  | succ n ih =>
    intro hp x7 x8 h
    replace h : f_Mo_plan_L124 v1 v2 v3 v5 v6 K (n + 1) hp x7 x8 = some p := h
    unfold f_Mo_plan_L124 at h
    refine R_iload X 7 d_Mo_plan_124 rfl ?_
    refine R_iflt (tgt := 152) X d_Mo_plan_126 rfl (fun c18 => ?_) (fun c18 => ?_)
    · replace h := (if_pos c18).symm.trans h
      refine V_pc (pc' := 152) rfl (R_loc (L' := [(0, .ref (gA (zG Z) 99)), (1, .int v1), (2, .int v2), (3, .int v3), (5, .int v5), (6, .int v6)]) [0, 1, 2, 3, 4, 5] rfl ?_)
      exact hK hp h
    · replace h := (if_neg c18).symm.trans h
      refine R_aload_n X 0 d_Mo_plan_129 rfl ?_
      refine R_getR (ci := 7) X rfl iMo_ok (of_decide_eq_true rfl) rfl 28 rfl rfl tw_699 d_Mo_plan_130 ?_
      refine R_iload X 7 d_Mo_plan_133 rfl ?_
      refine R_iload X 6 d_Mo_plan_135 rfl ?_
      refine R_iload_n X 2 d_Mo_plan_137 rfl ?_
      refine V_pc (pc' := 138) rfl ?_
      obtain ⟨z19, h⟩ := cz h
      refine R_irem X d_Mo_plan_138 z19 ?_
      obtain ⟨i20, h⟩ := ck h
      refine R_iast (n := 5) X (of_decide_eq_true rfl) rfl i20 d_Mo_plan_139 ?_
      refine R_iload X 6 d_Mo_plan_140 rfl ?_
      refine R_iload_n X 2 d_Mo_plan_142 rfl ?_
      refine R_idiv X d_Mo_plan_143 z19 ?_
      refine R_istore (L' := [(7, .int (x7 / v2)), (0, .ref (gA (zG Z) 99)), (1, .int v1), (2, .int v2), (3, .int v3), (5, .int v5), (6, .int v6), (8, .int x8)]) X d_Mo_plan_144 (by decide) rfl ?_
      refine V_pc (pc' := 146) rfl ?_
      refine R_iinc (v := (x8 + (-1))) (L' := [(8, .int (x8 + (-1))), (7, .int (x7 / v2)), (0, .ref (gA (zG Z) 99)), (1, .int v1), (2, .int v2), (3, .int v3), (5, .int v5), (6, .int v6)]) X 7 d_Mo_plan_146 rfl rfl (by decide) rfl ?_
      refine R_goto (tgt := 124) X d_Mo_plan_149 rfl ?_
      refine V_pc (pc' := 124) rfl (R_loc (L' := [(0, .ref (gA (zG Z) 99)), (1, .int v1), (2, .int v2), (3, .int v3), (5, .int v5), (6, .int v6), (7, .int (x7 / v2)), (8, .int (x8 + (-1)))]) [2, 3, 4, 5, 6, 7, 1, 0] rfl ?_)
      exact ih (up hp 113 (x8).toNatClampNeg (x7 - x7 / v2 * v2)) (x7 / v2) (x8 + (-1)) h
set_option maxRecDepth 20000 in
set_option maxHeartbeats 2000000 in
theorem T_Mo_plan_L105 {Z : ZT} (X : CX Z Y_Mo_plan) {v1 : Int32} {v2 : Int32} {v3 : Int32} {v5 : Int32} {p : Int32 × HP} (hR : RetI Z Y_Mo_plan .int p.1 p.2) {K : HP → Option (Int32 × HP)} (hK : ∀ (hp : HP), K hp = some p → V Z Y_Mo_plan hp 203 [(3, .int v3)] []) : ∀ (n : Nat) (hp : HP) (x6 : Int32), f_Mo_plan_L105 v1 v2 v3 v5 K n hp x6 = some p → V Z Y_Mo_plan hp 105 [(0, .ref (gA (zG Z) 99)), (1, .int v1), (2, .int v2), (3, .int v3), (5, .int v5), (6, .int x6)] [] := by
  intro n
  induction n with
  | zero =>
    intro hp x6 h
    cases h
  | succ n ih =>
    intro hp x6 h
    replace h : f_Mo_plan_L105 v1 v2 v3 v5 K (n + 1) hp x6 = some p := h
    unfold f_Mo_plan_L105 at h
    refine R_iload X 5 d_Mo_plan_105 rfl ?_
    refine R_iload X 4 d_Mo_plan_107 rfl ?_
    refine R_icmp_ge (tgt := 203) X d_Mo_plan_109 rfl (fun c17 => ?_) (fun c17 => ?_)
    · replace h := (if_pos c17).symm.trans h
      refine V_pc (pc' := 203) rfl (R_loc (L' := [(3, .int v3)]) [3] rfl ?_)
      exact hK hp h
    · replace h := (if_neg c17).symm.trans h
      refine R_iload X 5 d_Mo_plan_112 rfl ?_
      refine R_istore (L' := [(7, .int x6), (0, .ref (gA (zG Z) 99)), (1, .int v1), (2, .int v2), (3, .int v3), (5, .int v5), (6, .int x6)]) X d_Mo_plan_114 (by decide) rfl ?_
      refine R_aload_n X 1 d_Mo_plan_116 rfl ?_
      refine R_getI (ci := 7) X rfl iMo_ok (of_decide_eq_true rfl) rfl 23 rfl rfl tw_694 d_Mo_plan_117 ?_
      refine R_iconst (v := (1 : Int32)) X d_Mo_plan_120 rfl ?_
      refine V_pc (pc' := 121) rfl ?_
      refine R_isub X d_Mo_plan_121 ?_
      refine R_istore (L' := [(8, .int ((hp 99 23) - (1 : Int32))), (7, .int x6), (0, .ref (gA (zG Z) 99)), (1, .int v1), (2, .int v2), (3, .int v3), (5, .int v5), (6, .int x6)]) X d_Mo_plan_122 (by decide) rfl ?_
      refine V_pc (pc' := 124) rfl (R_loc (L' := [(0, .ref (gA (zG Z) 99)), (1, .int v1), (2, .int v2), (3, .int v3), (5, .int v5), (6, .int x6), (7, .int x6), (8, .int ((hp 99 23) - (1 : Int32)))]) [2, 3, 4, 5, 6, 7, 1, 0] rfl ?_)
      refine T_Mo_plan_L124 X hR (fun hp21 h => ?_) _ hp x6 ((hp 99 23) - (1 : Int32)) h
      refine R_aload_n X 0 d_Mo_plan_152 rfl ?_
      refine R_iload_n X 1 d_Mo_plan_153 rfl ?_
      refine R_iload_n X 2 d_Mo_plan_154 rfl ?_
      obtain ⟨p23, e22, h⟩ := ob h
      refine R_vcall (ci := 7) (k := 99) (As := [.int v1, .int v2]) (st := []) X (M_Mo_isPlan e22) tw_983 cf_Mo_isPlan (of_decide_eq_true rfl) rfl rfl rfl rfl rfl d_Mo_plan_155 ?_
      refine R_ifeq (tgt := 197) X d_Mo_plan_158 rfl (fun c24 => ?_) (fun c24 => ?_)
      · replace h := (if_pos c24).symm.trans h
        refine R_iinc (v := (x6 + 1)) (L' := [(6, .int (x6 + 1)), (0, .ref (gA (zG Z) 99)), (1, .int v1), (2, .int v2), (3, .int v3), (5, .int v5)]) X 5 d_Mo_plan_197 rfl rfl (by decide) rfl ?_
        refine R_goto (tgt := 105) X d_Mo_plan_200 rfl ?_
        refine V_pc (pc' := 105) rfl (R_loc (L' := [(0, .ref (gA (zG Z) 99)), (1, .int v1), (2, .int v2), (3, .int v3), (5, .int v5), (6, .int (x6 + 1))]) [1, 2, 3, 4, 5, 0] rfl ?_)
        exact ih p23.2 (x6 + 1) h
      · replace h := (if_neg c24).symm.trans h
        refine R_iload_n X 3 d_Mo_plan_161 rfl ?_
        refine R_iconst (v := (-1 : Int32)) X d_Mo_plan_162 rfl ?_
        refine R_icmp_ne (tgt := 170) X d_Mo_plan_163 rfl (fun c25 => ?_) (fun c25 => ?_)
        · replace h := (if_neg c25).symm.trans h
          refine R_iload_n X 3 d_Mo_plan_170 rfl ?_
          refine R_i2l X d_Mo_plan_171 ?_
          refine R_lconst (v := (0 : Int64)) X d_Mo_plan_172 rfl ?_
          refine R_aload_n X 0 d_Mo_plan_173 rfl ?_
          refine R_getI (ci := 7) X rfl iMo_ok (of_decide_eq_true rfl) rfl 23 rfl rfl tw_694 d_Mo_plan_174 ?_
          refine V_pc (pc' := 177) rfl ?_
          refine R_iconst (v := (1 : Int32)) X d_Mo_plan_177 rfl ?_
          refine R_isub X d_Mo_plan_178 ?_
          refine R_i2l X d_Mo_plan_179 ?_
          obtain ⟨p27, e26, h⟩ := ob h
          refine R_scall (As := [.long (v3).toInt64, .long (0 : Int64), .long (((p23.2 99 23) - (1 : Int32))).toInt64]) (st := []) X (M_Mo_in e26) tw_782 cf_Mo_in rfl rfl rfl d_Mo_plan_180 ?_
          refine R_ifeq (tgt := 195) X d_Mo_plan_183 rfl (fun c28 => ?_) (fun c28 => ?_)
          · replace h := (if_pos c28).symm.trans h
            refine R_iconst (v := (-1 : Int32)) X d_Mo_plan_195 rfl ?_
            exact R_ret hR h d_Mo_plan_196
          · replace h := (if_neg c28).symm.trans h
            refine R_aload_n X 0 d_Mo_plan_186 rfl ?_
            refine R_getR (ci := 7) X rfl iMo_ok (of_decide_eq_true rfl) rfl 28 rfl rfl tw_699 d_Mo_plan_187 ?_
            refine R_iload_n X 3 d_Mo_plan_190 rfl ?_
            obtain ⟨i29, h⟩ := ck h
            refine R_iald (n := 5) X (of_decide_eq_true rfl) rfl i29 d_Mo_plan_191 ?_
            refine R_goto (tgt := 196) X d_Mo_plan_192 rfl ?_
            refine V_pc (pc' := 196) rfl ?_
            exact R_ret hR h d_Mo_plan_196
        · replace h := (if_pos c25).symm.trans h
          refine R_iconst (v := (1 : Int32)) X d_Mo_plan_166 rfl ?_
          refine R_goto (tgt := 196) X d_Mo_plan_167 rfl ?_
          exact R_ret hR h d_Mo_plan_196
set_option maxRecDepth 20000 in
set_option maxHeartbeats 2000000 in
theorem T_Mo_plan {Z : ZT} (X : CX Z Y_Mo_plan) {hp : HP} {a1 : Int32} {a2 : Int32} {a3 : Int32} {p : Int32 × HP} (h : f_Mo_plan hp a1 a2 a3 = some p) (hR : RetI Z Y_Mo_plan .int p.1 p.2) : V Z Y_Mo_plan hp 0 [(0, .ref (gA (zG Z) 99)), (1, .int a1), (2, .int a2), (3, .int a3)] [] := by
  unfold f_Mo_plan at h
  refine R_aload_n X 0 d_Mo_plan_0 rfl ?_
  refine R_iload_n X 1 d_Mo_plan_1 rfl ?_
  obtain ⟨p2, e1, h⟩ := ob h
  refine R_vcall (ci := 7) (k := 99) (As := [.int a1]) (st := []) X (M_Mo_isCustomer e1) tw_878 cf_Mo_isCustomer (of_decide_eq_true rfl) rfl rfl rfl rfl rfl d_Mo_plan_2 ?_
  refine R_ifne (tgt := 11) X d_Mo_plan_5 rfl (fun c3 => ?_) (fun c3 => ?_)
  · replace h := (if_neg c3).symm.trans h
    refine R_iconst (v := (0 : Int32)) X d_Mo_plan_11 rfl ?_
    refine R_istore (L' := [(4, .int (0 : Int32)), (0, .ref (gA (zG Z) 99)), (1, .int a1), (2, .int a2), (3, .int a3)]) X d_Mo_plan_12 (by decide) rfl ?_
    refine R_iconst (v := (0 : Int32)) X d_Mo_plan_14 rfl ?_
    refine R_istore (L' := [(5, .int (0 : Int32)), (4, .int (0 : Int32)), (0, .ref (gA (zG Z) 99)), (1, .int a1), (2, .int a2), (3, .int a3)]) X d_Mo_plan_15 (by decide) rfl ?_
    refine V_pc (pc' := 17) rfl (R_loc (L' := [(0, .ref (gA (zG Z) 99)), (1, .int a1), (2, .int a2), (3, .int a3), (4, .int (0 : Int32)), (5, .int (0 : Int32))]) [2, 3, 4, 5, 1, 0] rfl ?_)
    refine T_Mo_plan_L17 X hR (fun hp9 w8 h => ?_) _ p2.2 (0 : Int32) (0 : Int32) h
    refine R_iload_n X 2 d_Mo_plan_55 rfl ?_
    refine R_i2l X d_Mo_plan_56 ?_
    refine R_lconst (v := (1 : Int64)) X d_Mo_plan_57 rfl ?_
    refine R_ldc2 (v := (4 : Int64)) X tw_982 d_Mo_plan_58 ?_
    obtain ⟨p11, e10, h⟩ := ob h
    refine R_scall (As := [.long (a2).toInt64, .long (1 : Int64), .long (4 : Int64)]) (st := []) X (M_Mo_in e10) tw_782 cf_Mo_in rfl rfl rfl d_Mo_plan_61 ?_
    refine V_pc (pc' := 64) rfl ?_
    refine R_ifeq (tgt := 72) X d_Mo_plan_64 rfl (fun c12 => ?_) (fun c12 => ?_)
    · replace h := (if_pos c12).symm.trans h
      refine R_ldc (v := (-1000000002 : Int32)) X tw_785 d_Mo_plan_72 ?_
      exact R_ret hR h d_Mo_plan_74
    · replace h := (if_neg c12).symm.trans h
      refine R_iload X 4 d_Mo_plan_67 rfl ?_
      refine R_ifeq (tgt := 75) X d_Mo_plan_69 rfl (fun c13 => ?_) (fun c13 => ?_)
      · replace h := (if_pos c13).symm.trans h
        refine R_iconst (v := (1 : Int32)) X d_Mo_plan_75 rfl ?_
        refine R_istore (L' := [(5, .int (1 : Int32)), (0, .ref (gA (zG Z) 99)), (1, .int a1), (2, .int a2), (3, .int a3), (4, .int w8)]) X d_Mo_plan_76 (by decide) rfl ?_
        refine R_iconst (v := (0 : Int32)) X d_Mo_plan_78 rfl ?_
        refine R_istore (L' := [(6, .int (0 : Int32)), (5, .int (1 : Int32)), (0, .ref (gA (zG Z) 99)), (1, .int a1), (2, .int a2), (3, .int a3), (4, .int w8)]) X d_Mo_plan_79 (by decide) rfl ?_
        refine V_pc (pc' := 81) rfl (R_loc (L' := [(0, .ref (gA (zG Z) 99)), (1, .int a1), (2, .int a2), (3, .int a3), (5, .int (1 : Int32)), (6, .int (0 : Int32))]) [2, 3, 4, 5, 1, 0] rfl ?_)
        refine T_Mo_plan_L81 X hR (fun hp16 w15 h => ?_) _ p11.2 (1 : Int32) (0 : Int32) h
        refine R_iconst (v := (0 : Int32)) X d_Mo_plan_102 rfl ?_
        refine R_istore (L' := [(6, .int (0 : Int32)), (0, .ref (gA (zG Z) 99)), (1, .int a1), (2, .int a2), (3, .int a3), (5, .int w15)]) X d_Mo_plan_103 (by decide) rfl ?_
        refine V_pc (pc' := 105) rfl (R_loc (L' := [(0, .ref (gA (zG Z) 99)), (1, .int a1), (2, .int a2), (3, .int a3), (5, .int w15), (6, .int (0 : Int32))]) [1, 2, 3, 4, 5, 0] rfl ?_)
        refine T_Mo_plan_L105 X hR (fun hp30 h => ?_) _ hp16 (0 : Int32) h
        refine R_iload_n X 0 d_Mo_plan_203 rfl ?_
        refine R_iconst (v := (-1 : Int32)) X d_Mo_plan_204 rfl ?_
        refine R_icmp_ne (tgt := 212) X d_Mo_plan_205 rfl (fun c31 => ?_) (fun c31 => ?_)
        · replace h := (if_neg c31).symm.trans h
          refine R_iconst (v := (-1 : Int32)) X d_Mo_plan_212 rfl ?_
          exact R_ret hR h d_Mo_plan_213
        · replace h := (if_pos c31).symm.trans h
          refine R_iconst (v := (0 : Int32)) X d_Mo_plan_208 rfl ?_
          refine R_goto (tgt := 213) X d_Mo_plan_209 rfl ?_
          exact R_ret hR h d_Mo_plan_213
      · replace h := (if_neg c13).symm.trans h
        refine R_ldc (v := (-1000000002 : Int32)) X tw_785 d_Mo_plan_72 ?_
        exact R_ret hR h d_Mo_plan_74
  · replace h := (if_pos c3).symm.trans h
    refine R_ldc (v := (-1000000001 : Int32)) X tw_873 d_Mo_plan_8 ?_
    exact R_ret hR h d_Mo_plan_10
theorem M_Mo_plan {G : GT} {hp : HP} {a1 : Int32} {a2 : Int32} {a3 : Int32} {p : Int32 × HP} (h : f_Mo_plan hp a1 a2 a3 = some p) : MI G y_Mo_plan Y_Mo_plan .int [.ref (gA G 99), .int a1, .int a2, .int a3] hp p.1 p.2 := MI_of rfl (fun Z hz X hR => by subst hz; exact T_Mo_plan X h hR)
theorem d_Mo_asOne_0 : decode prog_9_method_53_code 0 = .ok (.aload_n 0, 1) := by decide +kernel
theorem d_Mo_asOne_1 : decode prog_9_method_53_code 1 = .ok (.iload_n 1, 1) := by decide +kernel
theorem d_Mo_asOne_2 : decode prog_9_method_53_code 2 = .ok (.invokevirtual 194, 3) := by decide +kernel
theorem d_Mo_asOne_5 : decode prog_9_method_53_code 5 = .ok (.ifCond .ne (6), 3) := by decide +kernel
theorem d_Mo_asOne_8 : decode prog_9_method_53_code 8 = .ok (.ldc 189, 2) := by decide +kernel
theorem d_Mo_asOne_10 : decode prog_9_method_53_code 10 = .ok (.ireturn, 1) := by decide +kernel
theorem d_Mo_asOne_11 : decode prog_9_method_53_code 11 = .ok (.iconst 0, 1) := by decide +kernel
theorem d_Mo_asOne_12 : decode prog_9_method_53_code 12 = .ok (.istore_n 3, 1) := by decide +kernel
theorem d_Mo_asOne_13 : decode prog_9_method_53_code 13 = .ok (.iconst 0, 1) := by decide +kernel
theorem d_Mo_asOne_14 : decode prog_9_method_53_code 14 = .ok (.istore 4, 2) := by decide +kernel
theorem d_Mo_asOne_16 : decode prog_9_method_53_code 16 = .ok (.iload 4, 2) := by decide +kernel
theorem d_Mo_asOne_18 : decode prog_9_method_53_code 18 = .ok (.aload_n 0, 1) := by decide +kernel
theorem d_Mo_asOne_19 : decode prog_9_method_53_code 19 = .ok (.getfield 76, 3) := by decide +kernel
theorem d_Mo_asOne_22 : decode prog_9_method_53_code 22 = .ok (.if_icmp .ge (120), 3) := by decide +kernel
theorem d_Mo_asOne_25 : decode prog_9_method_53_code 25 = .ok (.iload 4, 2) := by decide +kernel
theorem d_Mo_asOne_27 : decode prog_9_method_53_code 27 = .ok (.iconst 1, 1) := by decide +kernel
theorem d_Mo_asOne_28 : decode prog_9_method_53_code 28 = .ok (.iadd, 1) := by decide +kernel
theorem d_Mo_asOne_29 : decode prog_9_method_53_code 29 = .ok (.istore 5, 2) := by decide +kernel
theorem d_Mo_asOne_31 : decode prog_9_method_53_code 31 = .ok (.iload 5, 2) := by decide +kernel
theorem d_Mo_asOne_33 : decode prog_9_method_53_code 33 = .ok (.aload_n 0, 1) := by decide +kernel
theorem d_Mo_asOne_34 : decode prog_9_method_53_code 34 = .ok (.getfield 76, 3) := by decide +kernel
theorem d_Mo_asOne_37 : decode prog_9_method_53_code 37 = .ok (.if_icmp .ge (99), 3) := by decide +kernel
theorem d_Mo_asOne_40 : decode prog_9_method_53_code 40 = .ok (.aload_n 0, 1) := by decide +kernel
theorem d_Mo_asOne_41 : decode prog_9_method_53_code 41 = .ok (.aload_n 0, 1) := by decide +kernel
theorem d_Mo_asOne_42 : decode prog_9_method_53_code 42 = .ok (.getfield 7, 3) := by decide +kernel
theorem d_Mo_asOne_45 : decode prog_9_method_53_code 45 = .ok (.iconst 1, 1) := by decide +kernel
theorem d_Mo_asOne_46 : decode prog_9_method_53_code 46 = .ok (.iload 4, 2) := by decide +kernel
theorem d_Mo_asOne_48 : decode prog_9_method_53_code 48 = .ok (.iadd, 1) := by decide +kernel
theorem d_Mo_asOne_49 : decode prog_9_method_53_code 49 = .ok (.iaload, 1) := by decide +kernel
theorem d_Mo_asOne_50 : decode prog_9_method_53_code 50 = .ok (.iload_n 1, 1) := by decide +kernel
theorem d_Mo_asOne_51 : decode prog_9_method_53_code 51 = .ok (.invokevirtual 197, 3) := by decide +kernel
theorem d_Mo_asOne_54 : decode prog_9_method_53_code 54 = .ok (.ifCond .ne (20), 3) := by decide +kernel
theorem d_Mo_asOne_57 : decode prog_9_method_53_code 57 = .ok (.aload_n 0, 1) := by decide +kernel
theorem d_Mo_asOne_58 : decode prog_9_method_53_code 58 = .ok (.aload_n 0, 1) := by decide +kernel
theorem d_Mo_asOne_59 : decode prog_9_method_53_code 59 = .ok (.getfield 7, 3) := by decide +kernel
theorem d_Mo_asOne_62 : decode prog_9_method_53_code 62 = .ok (.iconst 1, 1) := by decide +kernel
theorem d_Mo_asOne_63 : decode prog_9_method_53_code 63 = .ok (.iload 5, 2) := by decide +kernel
theorem d_Mo_asOne_65 : decode prog_9_method_53_code 65 = .ok (.iadd, 1) := by decide +kernel
theorem d_Mo_asOne_66 : decode prog_9_method_53_code 66 = .ok (.iaload, 1) := by decide +kernel
theorem d_Mo_asOne_67 : decode prog_9_method_53_code 67 = .ok (.iload_n 1, 1) := by decide +kernel
theorem d_Mo_asOne_68 : decode prog_9_method_53_code 68 = .ok (.invokevirtual 197, 3) := by decide +kernel
theorem d_Mo_asOne_71 : decode prog_9_method_53_code 71 = .ok (.ifCond .eq (7), 3) := by decide +kernel
theorem d_Mo_asOne_74 : decode prog_9_method_53_code 74 = .ok (.iconst 1, 1) := by decide +kernel
theorem d_Mo_asOne_75 : decode prog_9_method_53_code 75 = .ok (.goto (4), 3) := by decide +kernel
theorem d_Mo_asOne_78 : decode prog_9_method_53_code 78 = .ok (.iconst 0, 1) := by decide +kernel
theorem d_Mo_asOne_79 : decode prog_9_method_53_code 79 = .ok (.istore 6, 2) := by decide +kernel
theorem d_Mo_asOne_81 : decode prog_9_method_53_code 81 = .ok (.iload 6, 2) := by decide +kernel
theorem d_Mo_asOne_83 : decode prog_9_method_53_code 83 = .ok (.ifCond .ne (47), 3) := by decide +kernel
theorem d_Mo_asOne_86 : decode prog_9_method_53_code 86 = .ok (.aload_n 0, 1) := by decide +kernel
theorem d_Mo_asOne_87 : decode prog_9_method_53_code 87 = .ok (.aload_n 0, 1) := by decide +kernel
theorem d_Mo_asOne_88 : decode prog_9_method_53_code 88 = .ok (.getfield 7, 3) := by decide +kernel
theorem d_Mo_asOne_91 : decode prog_9_method_53_code 91 = .ok (.iconst 1, 1) := by decide +kernel
theorem d_Mo_asOne_92 : decode prog_9_method_53_code 92 = .ok (.iload 4, 2) := by decide +kernel
theorem d_Mo_asOne_94 : decode prog_9_method_53_code 94 = .ok (.iadd, 1) := by decide +kernel
theorem d_Mo_asOne_95 : decode prog_9_method_53_code 95 = .ok (.iaload, 1) := by decide +kernel
theorem d_Mo_asOne_96 : decode prog_9_method_53_code 96 = .ok (.aload_n 0, 1) := by decide +kernel
theorem d_Mo_asOne_97 : decode prog_9_method_53_code 97 = .ok (.getfield 7, 3) := by decide +kernel
theorem d_Mo_asOne_100 : decode prog_9_method_53_code 100 = .ok (.iconst 1, 1) := by decide +kernel
theorem d_Mo_asOne_101 : decode prog_9_method_53_code 101 = .ok (.iload 5, 2) := by decide +kernel
theorem d_Mo_asOne_103 : decode prog_9_method_53_code 103 = .ok (.iadd, 1) := by decide +kernel
theorem d_Mo_asOne_104 : decode prog_9_method_53_code 104 = .ok (.iaload, 1) := by decide +kernel
theorem d_Mo_asOne_105 : decode prog_9_method_53_code 105 = .ok (.iadd, 1) := by decide +kernel
theorem d_Mo_asOne_106 : decode prog_9_method_53_code 106 = .ok (.iload_n 1, 1) := by decide +kernel
theorem d_Mo_asOne_107 : decode prog_9_method_53_code 107 = .ok (.invokevirtual 197, 3) := by decide +kernel
theorem d_Mo_asOne_110 : decode prog_9_method_53_code 110 = .ok (.ifCond .eq (20), 3) := by decide +kernel
theorem d_Mo_asOne_113 : decode prog_9_method_53_code 113 = .ok (.iload_n 3, 1) := by decide +kernel
theorem d_Mo_asOne_114 : decode prog_9_method_53_code 114 = .ok (.iload_n 2, 1) := by decide +kernel
theorem d_Mo_asOne_115 : decode prog_9_method_53_code 115 = .ok (.if_icmp .ne (12), 3) := by decide +kernel
theorem d_Mo_asOne_118 : decode prog_9_method_53_code 118 = .ok (.bipush (10), 2) := by decide +kernel
theorem d_Mo_asOne_120 : decode prog_9_method_53_code 120 = .ok (.iload 4, 2) := by decide +kernel
theorem d_Mo_asOne_122 : decode prog_9_method_53_code 122 = .ok (.imul, 1) := by decide +kernel
theorem d_Mo_asOne_123 : decode prog_9_method_53_code 123 = .ok (.iload 5, 2) := by decide +kernel
theorem d_Mo_asOne_125 : decode prog_9_method_53_code 125 = .ok (.iadd, 1) := by decide +kernel
theorem d_Mo_asOne_126 : decode prog_9_method_53_code 126 = .ok (.ireturn, 1) := by decide +kernel
theorem d_Mo_asOne_127 : decode prog_9_method_53_code 127 = .ok (.iinc 3 (1), 3) := by decide +kernel
theorem d_Mo_asOne_130 : decode prog_9_method_53_code 130 = .ok (.iinc 5 (1), 3) := by decide +kernel
theorem d_Mo_asOne_133 : decode prog_9_method_53_code 133 = .ok (.goto (-102), 3) := by decide +kernel
theorem d_Mo_asOne_136 : decode prog_9_method_53_code 136 = .ok (.iinc 4 (1), 3) := by decide +kernel
theorem d_Mo_asOne_139 : decode prog_9_method_53_code 139 = .ok (.goto (-123), 3) := by decide +kernel
theorem d_Mo_asOne_142 : decode prog_9_method_53_code 142 = .ok (.iload_n 2, 1) := by decide +kernel
theorem d_Mo_asOne_143 : decode prog_9_method_53_code 143 = .ok (.iconst (-1), 1) := by decide +kernel
theorem d_Mo_asOne_144 : decode prog_9_method_53_code 144 = .ok (.if_icmp .ne (7), 3) := by decide +kernel
theorem d_Mo_asOne_147 : decode prog_9_method_53_code 147 = .ok (.iload_n 3, 1) := by decide +kernel
theorem d_Mo_asOne_148 : decode prog_9_method_53_code 148 = .ok (.goto (4), 3) := by decide +kernel
theorem d_Mo_asOne_151 : decode prog_9_method_53_code 151 = .ok (.iconst (-1), 1) := by decide +kernel
theorem d_Mo_asOne_152 : decode prog_9_method_53_code 152 = .ok (.ireturn, 1) := by decide +kernel
set_option maxRecDepth 20000 in
set_option maxHeartbeats 2000000 in
theorem T_Mo_asOne_L31 {Z : ZT} (X : CX Z Y_Mo_asOne) {v1 : Int32} {v2 : Int32} {v4 : Int32} {p : Int32 × HP} (hR : RetI Z Y_Mo_asOne .int p.1 p.2) {K : HP → Int32 → Option (Int32 × HP)} (hK : ∀ (hp : HP) (x3 : Int32), K hp x3 = some p → V Z Y_Mo_asOne hp 136 [(0, .ref (gA (zG Z) 99)), (1, .int v1), (2, .int v2), (3, .int x3), (4, .int v4)] []) : ∀ (n : Nat) (hp : HP) (x3 : Int32) (x5 : Int32), f_Mo_asOne_L31 v1 v2 v4 K n hp x3 x5 = some p → V Z Y_Mo_asOne hp 31 [(0, .ref (gA (zG Z) 99)), (1, .int v1), (2, .int v2), (3, .int x3), (4, .int v4), (5, .int x5)] [] := by
  intro n
  induction n with
  | zero =>
    intro hp x3 x5 h
    cases h
  | succ n ih =>
    intro hp x3 x5 h
    replace h : f_Mo_asOne_L31 v1 v2 v4 K (n + 1) hp x3 x5 = some p := h
    unfold f_Mo_asOne_L31 at h
    refine R_iload X 5 d_Mo_asOne_31 rfl ?_
    refine R_aload_n X 0 d_Mo_asOne_33 rfl ?_
    refine R_getI (ci := 7) X rfl iMo_ok (of_decide_eq_true rfl) rfl 5 rfl rfl tw_676 d_Mo_asOne_34 ?_
    refine R_icmp_ge (tgt := 136) X d_Mo_asOne_37 rfl (fun c5 => ?_) (fun c5 => ?_)
    · replace h := (if_pos c5).symm.trans h
      refine V_pc (pc' := 136) rfl (R_loc (L' := [(0, .ref (gA (zG Z) 99)), (1, .int v1), (2, .int v2), (3, .int x3), (4, .int v4)]) [0, 1, 2, 3, 4] rfl ?_)
      exact hK hp x3 h
    · replace h := (if_neg c5).symm.trans h
      refine R_aload_n X 0 d_Mo_asOne_40 rfl ?_
      refine R_aload_n X 0 d_Mo_asOne_41 rfl ?_
      refine R_getR (ci := 7) X rfl iMo_ok (of_decide_eq_true rfl) rfl 0 rfl rfl tw_671 d_Mo_asOne_42 ?_
      refine R_iconst (v := (1 : Int32)) X d_Mo_asOne_45 rfl ?_
      refine R_iload X 4 d_Mo_asOne_46 rfl ?_
      refine V_pc (pc' := 48) rfl ?_
      refine R_iadd X d_Mo_asOne_48 ?_
      obtain ⟨i6, h⟩ := ck h
      refine R_iald (n := 736) X (of_decide_eq_true rfl) rfl i6 d_Mo_asOne_49 ?_
      refine R_iload_n X 1 d_Mo_asOne_50 rfl ?_
      obtain ⟨p8, e7, h⟩ := ob h
      refine R_vcall (ci := 7) (k := 99) (As := [.int (hp 100 (((1 : Int32) + v4)).toNatClampNeg), .int v1]) (st := []) X (M_Mo_canBy e7) tw_899 cf_Mo_canBy (of_decide_eq_true rfl) rfl rfl rfl rfl rfl d_Mo_asOne_51 ?_
      refine R_ifne (tgt := 74) X d_Mo_asOne_54 rfl (fun c9 => ?_) (fun c9 => ?_)
      · replace h := (if_neg c9).symm.trans h
        refine R_iconst (v := (1 : Int32)) X d_Mo_asOne_74 rfl ?_
        refine R_goto (tgt := 79) X d_Mo_asOne_75 rfl ?_
        refine R_istore (L' := [(6, .int (1 : Int32)), (0, .ref (gA (zG Z) 99)), (1, .int v1), (2, .int v2), (3, .int x3), (4, .int v4), (5, .int x5)]) X d_Mo_asOne_79 (by decide) rfl ?_
        refine R_iload X 0 d_Mo_asOne_81 rfl ?_
        refine R_ifne (tgt := 130) X d_Mo_asOne_83 rfl (fun c20 => ?_) (fun c20 => absurd c20 (by decide))
        refine V_pc (pc' := 130) rfl ?_
        refine R_iinc (v := (x5 + 1)) (L' := [(5, .int (x5 + 1)), (6, .int (1 : Int32)), (0, .ref (gA (zG Z) 99)), (1, .int v1), (2, .int v2), (3, .int x3), (4, .int v4)]) X 6 d_Mo_asOne_130 rfl rfl (by decide) rfl ?_
        refine R_goto (tgt := 31) X d_Mo_asOne_133 rfl ?_
        refine V_pc (pc' := 31) rfl (R_loc (L' := [(0, .ref (gA (zG Z) 99)), (1, .int v1), (2, .int v2), (3, .int x3), (4, .int v4), (5, .int (x5 + 1))]) [2, 3, 4, 5, 6, 0] rfl ?_)
        exact ih p8.2 x3 (x5 + 1) h
      · replace h := (if_pos c9).symm.trans h
        refine R_aload_n X 0 d_Mo_asOne_57 rfl ?_
        refine R_aload_n X 0 d_Mo_asOne_58 rfl ?_
        refine R_getR (ci := 7) X rfl iMo_ok (of_decide_eq_true rfl) rfl 0 rfl rfl tw_671 d_Mo_asOne_59 ?_
        refine R_iconst (v := (1 : Int32)) X d_Mo_asOne_62 rfl ?_
        refine R_iload X 5 d_Mo_asOne_63 rfl ?_
        refine V_pc (pc' := 65) rfl ?_
        refine R_iadd X d_Mo_asOne_65 ?_
        obtain ⟨i10, h⟩ := ck h
        refine R_iald (n := 736) X (of_decide_eq_true rfl) rfl i10 d_Mo_asOne_66 ?_
        refine R_iload_n X 1 d_Mo_asOne_67 rfl ?_
        obtain ⟨p12, e11, h⟩ := ob h
        refine R_vcall (ci := 7) (k := 99) (As := [.int (p8.2 100 (((1 : Int32) + x5)).toNatClampNeg), .int v1]) (st := []) X (M_Mo_canBy e11) tw_899 cf_Mo_canBy (of_decide_eq_true rfl) rfl rfl rfl rfl rfl d_Mo_asOne_68 ?_
        refine R_ifeq (tgt := 78) X d_Mo_asOne_71 rfl (fun c13 => ?_) (fun c13 => ?_)
        · replace h := (if_pos c13).symm.trans h
          refine R_iconst (v := (0 : Int32)) X d_Mo_asOne_78 rfl ?_
          refine R_istore (L' := [(6, .int (0 : Int32)), (0, .ref (gA (zG Z) 99)), (1, .int v1), (2, .int v2), (3, .int x3), (4, .int v4), (5, .int x5)]) X d_Mo_asOne_79 (by decide) rfl ?_
          refine R_iload X 0 d_Mo_asOne_81 rfl ?_
          refine R_ifne (tgt := 130) X d_Mo_asOne_83 rfl (fun c14 => absurd (by decide) c14) (fun c14 => ?_)
          refine R_aload_n X 1 d_Mo_asOne_86 rfl ?_
          refine V_pc (pc' := 87) rfl ?_
          refine R_aload_n X 1 d_Mo_asOne_87 rfl ?_
          refine R_getR (ci := 7) X rfl iMo_ok (of_decide_eq_true rfl) rfl 0 rfl rfl tw_671 d_Mo_asOne_88 ?_
          refine R_iconst (v := (1 : Int32)) X d_Mo_asOne_91 rfl ?_
          refine R_iload X 5 d_Mo_asOne_92 rfl ?_
          refine R_iadd X d_Mo_asOne_94 ?_
          refine R_iald (n := 736) X (of_decide_eq_true rfl) rfl i6 d_Mo_asOne_95 ?_
          refine V_pc (pc' := 96) rfl ?_
          refine R_aload_n X 1 d_Mo_asOne_96 rfl ?_
          refine R_getR (ci := 7) X rfl iMo_ok (of_decide_eq_true rfl) rfl 0 rfl rfl tw_671 d_Mo_asOne_97 ?_
          refine R_iconst (v := (1 : Int32)) X d_Mo_asOne_100 rfl ?_
          refine R_iload X 6 d_Mo_asOne_101 rfl ?_
          refine R_iadd X d_Mo_asOne_103 ?_
          refine R_iald (n := 736) X (of_decide_eq_true rfl) rfl i10 d_Mo_asOne_104 ?_
          refine V_pc (pc' := 105) rfl ?_
          refine R_iadd X d_Mo_asOne_105 ?_
          refine R_iload_n X 2 d_Mo_asOne_106 rfl ?_
          obtain ⟨p16, e15, h⟩ := ob h
          refine R_vcall (ci := 7) (k := 99) (As := [.int ((p12.2 100 (((1 : Int32) + v4)).toNatClampNeg) + (p12.2 100 (((1 : Int32) + x5)).toNatClampNeg)), .int v1]) (st := []) X (M_Mo_canBy e15) tw_899 cf_Mo_canBy (of_decide_eq_true rfl) rfl rfl rfl rfl rfl d_Mo_asOne_107 ?_
          refine R_ifeq (tgt := 130) X d_Mo_asOne_110 rfl (fun c17 => ?_) (fun c17 => ?_)
          · replace h := (if_pos c17).symm.trans h
            refine R_iinc (v := (x5 + 1)) (L' := [(5, .int (x5 + 1)), (6, .int (0 : Int32)), (0, .ref (gA (zG Z) 99)), (1, .int v1), (2, .int v2), (3, .int x3), (4, .int v4)]) X 6 d_Mo_asOne_130 rfl rfl (by decide) rfl ?_
            refine R_goto (tgt := 31) X d_Mo_asOne_133 rfl ?_
            refine V_pc (pc' := 31) rfl (R_loc (L' := [(0, .ref (gA (zG Z) 99)), (1, .int v1), (2, .int v2), (3, .int x3), (4, .int v4), (5, .int (x5 + 1))]) [2, 3, 4, 5, 6, 0] rfl ?_)
            exact ih p16.2 x3 (x5 + 1) h
          · replace h := (if_neg c17).symm.trans h
            refine R_iload_n X 4 d_Mo_asOne_113 rfl ?_
            refine R_iload_n X 3 d_Mo_asOne_114 rfl ?_
            refine R_icmp_ne (tgt := 127) X d_Mo_asOne_115 rfl (fun c18 => ?_) (fun c18 => ?_)
            · replace h := (if_neg c18).symm.trans h
              refine R_iinc (v := (x3 + 1)) (L' := [(3, .int (x3 + 1)), (6, .int (0 : Int32)), (0, .ref (gA (zG Z) 99)), (1, .int v1), (2, .int v2), (4, .int v4), (5, .int x5)]) X 4 d_Mo_asOne_127 rfl rfl (by decide) rfl ?_
              refine R_iinc (v := (x5 + 1)) (L' := [(5, .int (x5 + 1)), (3, .int (x3 + 1)), (6, .int (0 : Int32)), (0, .ref (gA (zG Z) 99)), (1, .int v1), (2, .int v2), (4, .int v4)]) X 6 d_Mo_asOne_130 rfl rfl (by decide) rfl ?_
              refine R_goto (tgt := 31) X d_Mo_asOne_133 rfl ?_
              refine V_pc (pc' := 31) rfl (R_loc (L' := [(0, .ref (gA (zG Z) 99)), (1, .int v1), (2, .int v2), (3, .int (x3 + 1)), (4, .int v4), (5, .int (x5 + 1))]) [3, 4, 5, 1, 6, 0] rfl ?_)
              exact ih p16.2 (x3 + 1) (x5 + 1) h
            · replace h := (if_pos c18).symm.trans h
              refine R_bipush (v := (10 : Int32)) X d_Mo_asOne_118 rfl ?_
              refine R_iload X 5 d_Mo_asOne_120 rfl ?_
              refine R_imul X d_Mo_asOne_122 ?_
              refine R_iload X 6 d_Mo_asOne_123 rfl ?_
              refine R_iadd X d_Mo_asOne_125 ?_
              refine V_pc (pc' := 126) rfl ?_
              exact R_ret hR h d_Mo_asOne_126
        · replace h := (if_neg c13).symm.trans h
          refine R_iconst (v := (1 : Int32)) X d_Mo_asOne_74 rfl ?_
          refine R_goto (tgt := 79) X d_Mo_asOne_75 rfl ?_
          refine R_istore (L' := [(6, .int (1 : Int32)), (0, .ref (gA (zG Z) 99)), (1, .int v1), (2, .int v2), (3, .int x3), (4, .int v4), (5, .int x5)]) X d_Mo_asOne_79 (by decide) rfl ?_
          refine R_iload X 0 d_Mo_asOne_81 rfl ?_
          refine R_ifne (tgt := 130) X d_Mo_asOne_83 rfl (fun c19 => ?_) (fun c19 => absurd c19 (by decide))
          refine V_pc (pc' := 130) rfl ?_
          refine R_iinc (v := (x5 + 1)) (L' := [(5, .int (x5 + 1)), (6, .int (1 : Int32)), (0, .ref (gA (zG Z) 99)), (1, .int v1), (2, .int v2), (3, .int x3), (4, .int v4)]) X 6 d_Mo_asOne_130 rfl rfl (by decide) rfl ?_
          refine R_goto (tgt := 31) X d_Mo_asOne_133 rfl ?_
          refine V_pc (pc' := 31) rfl (R_loc (L' := [(0, .ref (gA (zG Z) 99)), (1, .int v1), (2, .int v2), (3, .int x3), (4, .int v4), (5, .int (x5 + 1))]) [2, 3, 4, 5, 6, 0] rfl ?_)
          exact ih p12.2 x3 (x5 + 1) h
set_option maxRecDepth 20000 in
set_option maxHeartbeats 2000000 in
theorem T_Mo_asOne_L16 {Z : ZT} (X : CX Z Y_Mo_asOne) {v1 : Int32} {v2 : Int32} {p : Int32 × HP} (hR : RetI Z Y_Mo_asOne .int p.1 p.2) {K : HP → Int32 → Option (Int32 × HP)} (hK : ∀ (hp : HP) (x3 : Int32), K hp x3 = some p → V Z Y_Mo_asOne hp 142 [(2, .int v2), (3, .int x3)] []) : ∀ (n : Nat) (hp : HP) (x3 : Int32) (x4 : Int32), f_Mo_asOne_L16 v1 v2 K n hp x3 x4 = some p → V Z Y_Mo_asOne hp 16 [(0, .ref (gA (zG Z) 99)), (1, .int v1), (2, .int v2), (3, .int x3), (4, .int x4)] [] := by
  intro n
  induction n with
  | zero =>
    intro hp x3 x4 h
    cases h
  | succ n ih =>
    intro hp x3 x4 h
    replace h : f_Mo_asOne_L16 v1 v2 K (n + 1) hp x3 x4 = some p := h
    unfold f_Mo_asOne_L16 at h
    refine R_iload X 4 d_Mo_asOne_16 rfl ?_
    refine R_aload_n X 0 d_Mo_asOne_18 rfl ?_
    refine R_getI (ci := 7) X rfl iMo_ok (of_decide_eq_true rfl) rfl 5 rfl rfl tw_676 d_Mo_asOne_19 ?_
    refine R_icmp_ge (tgt := 142) X d_Mo_asOne_22 rfl (fun c4 => ?_) (fun c4 => ?_)
    · replace h := (if_pos c4).symm.trans h
      refine V_pc (pc' := 142) rfl (R_loc (L' := [(2, .int v2), (3, .int x3)]) [2, 3] rfl ?_)
      exact hK hp x3 h
    · replace h := (if_neg c4).symm.trans h
      refine R_iload X 4 d_Mo_asOne_25 rfl ?_
      refine R_iconst (v := (1 : Int32)) X d_Mo_asOne_27 rfl ?_
      refine R_iadd X d_Mo_asOne_28 ?_
      refine R_istore (L' := [(5, .int (x4 + (1 : Int32))), (0, .ref (gA (zG Z) 99)), (1, .int v1), (2, .int v2), (3, .int x3), (4, .int x4)]) X d_Mo_asOne_29 (by decide) rfl ?_
      refine V_pc (pc' := 31) rfl (R_loc (L' := [(0, .ref (gA (zG Z) 99)), (1, .int v1), (2, .int v2), (3, .int x3), (4, .int x4), (5, .int (x4 + (1 : Int32)))]) [1, 2, 3, 4, 5, 0] rfl ?_)
      refine T_Mo_asOne_L31 X hR (fun hp22 w21 h => ?_) _ hp x3 (x4 + (1 : Int32)) h
      refine R_iinc (v := (x4 + 1)) (L' := [(4, .int (x4 + 1)), (0, .ref (gA (zG Z) 99)), (1, .int v1), (2, .int v2), (3, .int w21)]) X 4 d_Mo_asOne_136 rfl rfl (by decide) rfl ?_
      refine R_goto (tgt := 16) X d_Mo_asOne_139 rfl ?_
      refine V_pc (pc' := 16) rfl (R_loc (L' := [(0, .ref (gA (zG Z) 99)), (1, .int v1), (2, .int v2), (3, .int w21), (4, .int (x4 + 1))]) [1, 2, 3, 4, 0] rfl ?_)
      exact ih hp22 w21 (x4 + 1) h
set_option maxRecDepth 20000 in
set_option maxHeartbeats 2000000 in
theorem T_Mo_asOne {Z : ZT} (X : CX Z Y_Mo_asOne) {hp : HP} {a1 : Int32} {a2 : Int32} {p : Int32 × HP} (h : f_Mo_asOne hp a1 a2 = some p) (hR : RetI Z Y_Mo_asOne .int p.1 p.2) : V Z Y_Mo_asOne hp 0 [(0, .ref (gA (zG Z) 99)), (1, .int a1), (2, .int a2)] [] := by
  unfold f_Mo_asOne at h
  refine R_aload_n X 0 d_Mo_asOne_0 rfl ?_
  refine R_iload_n X 1 d_Mo_asOne_1 rfl ?_
  obtain ⟨p2, e1, h⟩ := ob h
  refine R_vcall (ci := 7) (k := 99) (As := [.int a1]) (st := []) X (M_Mo_isTask e1) tw_895 cf_Mo_isTask (of_decide_eq_true rfl) rfl rfl rfl rfl rfl d_Mo_asOne_2 ?_
  refine R_ifne (tgt := 11) X d_Mo_asOne_5 rfl (fun c3 => ?_) (fun c3 => ?_)
  · replace h := (if_neg c3).symm.trans h
    refine R_iconst (v := (0 : Int32)) X d_Mo_asOne_11 rfl ?_
    refine R_istore_n (L' := [(3, .int (0 : Int32)), (0, .ref (gA (zG Z) 99)), (1, .int a1), (2, .int a2)]) X d_Mo_asOne_12 (by decide) rfl ?_
    refine R_iconst (v := (0 : Int32)) X d_Mo_asOne_13 rfl ?_
    refine R_istore (L' := [(4, .int (0 : Int32)), (3, .int (0 : Int32)), (0, .ref (gA (zG Z) 99)), (1, .int a1), (2, .int a2)]) X d_Mo_asOne_14 (by decide) rfl ?_
    refine V_pc (pc' := 16) rfl (R_loc (L' := [(0, .ref (gA (zG Z) 99)), (1, .int a1), (2, .int a2), (3, .int (0 : Int32)), (4, .int (0 : Int32))]) [2, 3, 4, 1, 0] rfl ?_)
    refine T_Mo_asOne_L16 X hR (fun hp24 w23 h => ?_) _ p2.2 (0 : Int32) (0 : Int32) h
    refine R_iload_n X 0 d_Mo_asOne_142 rfl ?_
    refine R_iconst (v := (-1 : Int32)) X d_Mo_asOne_143 rfl ?_
    refine R_icmp_ne (tgt := 151) X d_Mo_asOne_144 rfl (fun c25 => ?_) (fun c25 => ?_)
    · replace h := (if_neg c25).symm.trans h
      refine R_iconst (v := (-1 : Int32)) X d_Mo_asOne_151 rfl ?_
      exact R_ret hR h d_Mo_asOne_152
    · replace h := (if_pos c25).symm.trans h
      refine R_iload_n X 1 d_Mo_asOne_147 rfl ?_
      refine R_goto (tgt := 152) X d_Mo_asOne_148 rfl ?_
      exact R_ret hR h d_Mo_asOne_152
  · replace h := (if_pos c3).symm.trans h
    refine R_ldc (v := (-1000000001 : Int32)) X tw_873 d_Mo_asOne_8 ?_
    exact R_ret hR h d_Mo_asOne_10
theorem M_Mo_asOne {G : GT} {hp : HP} {a1 : Int32} {a2 : Int32} {p : Int32 × HP} (h : f_Mo_asOne hp a1 a2 = some p) : MI G y_Mo_asOne Y_Mo_asOne .int [.ref (gA G 99), .int a1, .int a2] hp p.1 p.2 := MI_of rfl (fun Z hz X hR => by subst hz; exact T_Mo_asOne X h hR)
theorem d_Mo_loan_0 : decode prog_9_method_54_code 0 = .ok (.aload_n 0, 1) := by decide +kernel
theorem d_Mo_loan_1 : decode prog_9_method_54_code 1 = .ok (.iload_n 1, 1) := by decide +kernel
theorem d_Mo_loan_2 : decode prog_9_method_54_code 2 = .ok (.invokevirtual 79, 3) := by decide +kernel
theorem d_Mo_loan_5 : decode prog_9_method_54_code 5 = .ok (.ifCond .eq (11), 3) := by decide +kernel
theorem d_Mo_loan_8 : decode prog_9_method_54_code 8 = .ok (.aload_n 0, 1) := by decide +kernel
theorem d_Mo_loan_9 : decode prog_9_method_54_code 9 = .ok (.iload_n 2, 1) := by decide +kernel
theorem d_Mo_loan_10 : decode prog_9_method_54_code 10 = .ok (.invokevirtual 194, 3) := by decide +kernel
theorem d_Mo_loan_13 : decode prog_9_method_54_code 13 = .ok (.ifCond .ne (6), 3) := by decide +kernel
theorem d_Mo_loan_16 : decode prog_9_method_54_code 16 = .ok (.ldc 189, 2) := by decide +kernel
theorem d_Mo_loan_18 : decode prog_9_method_54_code 18 = .ok (.ireturn, 1) := by decide +kernel
theorem d_Mo_loan_19 : decode prog_9_method_54_code 19 = .ok (.iload_n 3, 1) := by decide +kernel
theorem d_Mo_loan_20 : decode prog_9_method_54_code 20 = .ok (.i2l, 1) := by decide +kernel
theorem d_Mo_loan_21 : decode prog_9_method_54_code 21 = .ok (.lconst 0, 1) := by decide +kernel
theorem d_Mo_loan_22 : decode prog_9_method_54_code 22 = .ok (.lconst 1, 1) := by decide +kernel
theorem d_Mo_loan_23 : decode prog_9_method_54_code 23 = .ok (.invokestatic 72, 3) := by decide +kernel
theorem d_Mo_loan_26 : decode prog_9_method_54_code 26 = .ok (.ifCond .ne (6), 3) := by decide +kernel
theorem d_Mo_loan_29 : decode prog_9_method_54_code 29 = .ok (.ldc 88, 2) := by decide +kernel
theorem d_Mo_loan_31 : decode prog_9_method_54_code 31 = .ok (.ireturn, 1) := by decide +kernel
theorem d_Mo_loan_32 : decode prog_9_method_54_code 32 = .ok (.ldc 243, 2) := by decide +kernel
theorem d_Mo_loan_34 : decode prog_9_method_54_code 34 = .ok (.istore 4, 2) := by decide +kernel
theorem d_Mo_loan_36 : decode prog_9_method_54_code 36 = .ok (.iconst 0, 1) := by decide +kernel
theorem d_Mo_loan_37 : decode prog_9_method_54_code 37 = .ok (.istore 5, 2) := by decide +kernel
theorem d_Mo_loan_39 : decode prog_9_method_54_code 39 = .ok (.iload 5, 2) := by decide +kernel
theorem d_Mo_loan_41 : decode prog_9_method_54_code 41 = .ok (.aload_n 0, 1) := by decide +kernel
theorem d_Mo_loan_42 : decode prog_9_method_54_code 42 = .ok (.getfield 69, 3) := by decide +kernel
theorem d_Mo_loan_45 : decode prog_9_method_54_code 45 = .ok (.if_icmp .ge (57), 3) := by decide +kernel
theorem d_Mo_loan_48 : decode prog_9_method_54_code 48 = .ok (.aload_n 0, 1) := by decide +kernel
theorem d_Mo_loan_49 : decode prog_9_method_54_code 49 = .ok (.getfield 26, 3) := by decide +kernel
theorem d_Mo_loan_52 : decode prog_9_method_54_code 52 = .ok (.iload_n 2, 1) := by decide +kernel
theorem d_Mo_loan_53 : decode prog_9_method_54_code 53 = .ok (.iaload, 1) := by decide +kernel
theorem d_Mo_loan_54 : decode prog_9_method_54_code 54 = .ok (.iload 5, 2) := by decide +kernel
theorem d_Mo_loan_56 : decode prog_9_method_54_code 56 = .ok (.invokestatic 244, 3) := by decide +kernel
theorem d_Mo_loan_59 : decode prog_9_method_54_code 59 = .ok (.ifCond .eq (33), 3) := by decide +kernel
theorem d_Mo_loan_62 : decode prog_9_method_54_code 62 = .ok (.aload_n 0, 1) := by decide +kernel
theorem d_Mo_loan_63 : decode prog_9_method_54_code 63 = .ok (.getfield 17, 3) := by decide +kernel
theorem d_Mo_loan_66 : decode prog_9_method_54_code 66 = .ok (.iload 5, 2) := by decide +kernel
theorem d_Mo_loan_68 : decode prog_9_method_54_code 68 = .ok (.iaload, 1) := by decide +kernel
theorem d_Mo_loan_69 : decode prog_9_method_54_code 69 = .ok (.sipush (500), 3) := by decide +kernel
theorem d_Mo_loan_72 : decode prog_9_method_54_code 72 = .ok (.isub, 1) := by decide +kernel
theorem d_Mo_loan_73 : decode prog_9_method_54_code 73 = .ok (.iload 4, 2) := by decide +kernel
theorem d_Mo_loan_75 : decode prog_9_method_54_code 75 = .ok (.if_icmp .le (17), 3) := by decide +kernel
theorem d_Mo_loan_78 : decode prog_9_method_54_code 78 = .ok (.aload_n 0, 1) := by decide +kernel
theorem d_Mo_loan_79 : decode prog_9_method_54_code 79 = .ok (.getfield 17, 3) := by decide +kernel
theorem d_Mo_loan_82 : decode prog_9_method_54_code 82 = .ok (.iload 5, 2) := by decide +kernel
theorem d_Mo_loan_84 : decode prog_9_method_54_code 84 = .ok (.iaload, 1) := by decide +kernel
theorem d_Mo_loan_85 : decode prog_9_method_54_code 85 = .ok (.sipush (500), 3) := by decide +kernel
theorem d_Mo_loan_88 : decode prog_9_method_54_code 88 = .ok (.isub, 1) := by decide +kernel
theorem d_Mo_loan_89 : decode prog_9_method_54_code 89 = .ok (.goto (5), 3) := by decide +kernel
theorem d_Mo_loan_92 : decode prog_9_method_54_code 92 = .ok (.iload 4, 2) := by decide +kernel
theorem d_Mo_loan_94 : decode prog_9_method_54_code 94 = .ok (.istore 4, 2) := by decide +kernel
theorem d_Mo_loan_96 : decode prog_9_method_54_code 96 = .ok (.iinc 5 (1), 3) := by decide +kernel
theorem d_Mo_loan_99 : decode prog_9_method_54_code 99 = .ok (.goto (-60), 3) := by decide +kernel
theorem d_Mo_loan_102 : decode prog_9_method_54_code 102 = .ok (.aload_n 0, 1) := by decide +kernel
theorem d_Mo_loan_103 : decode prog_9_method_54_code 103 = .ok (.getfield 7, 3) := by decide +kernel
theorem d_Mo_loan_106 : decode prog_9_method_54_code 106 = .ok (.iconst 1, 1) := by decide +kernel
theorem d_Mo_loan_107 : decode prog_9_method_54_code 107 = .ok (.iload_n 1, 1) := by decide +kernel
theorem d_Mo_loan_108 : decode prog_9_method_54_code 108 = .ok (.iadd, 1) := by decide +kernel
theorem d_Mo_loan_109 : decode prog_9_method_54_code 109 = .ok (.iaload, 1) := by decide +kernel
theorem d_Mo_loan_110 : decode prog_9_method_54_code 110 = .ok (.iload 4, 2) := by decide +kernel
theorem d_Mo_loan_112 : decode prog_9_method_54_code 112 = .ok (.isub, 1) := by decide +kernel
theorem d_Mo_loan_113 : decode prog_9_method_54_code 113 = .ok (.istore 5, 2) := by decide +kernel
theorem d_Mo_loan_115 : decode prog_9_method_54_code 115 = .ok (.iload_n 3, 1) := by decide +kernel
theorem d_Mo_loan_116 : decode prog_9_method_54_code 116 = .ok (.ifCond .ne (29), 3) := by decide +kernel
theorem d_Mo_loan_119 : decode prog_9_method_54_code 119 = .ok (.iload 5, 2) := by decide +kernel
theorem d_Mo_loan_121 : decode prog_9_method_54_code 121 = .ok (.ifCond .lt (7), 3) := by decide +kernel
theorem d_Mo_loan_124 : decode prog_9_method_54_code 124 = .ok (.iconst 0, 1) := by decide +kernel
theorem d_Mo_loan_125 : decode prog_9_method_54_code 125 = .ok (.goto (19), 3) := by decide +kernel
theorem d_Mo_loan_128 : decode prog_9_method_54_code 128 = .ok (.iload 5, 2) := by decide +kernel
theorem d_Mo_loan_130 : decode prog_9_method_54_code 130 = .ok (.ineg, 1) := by decide +kernel
theorem d_Mo_loan_131 : decode prog_9_method_54_code 131 = .ok (.sipush (9999), 3) := by decide +kernel
theorem d_Mo_loan_134 : decode prog_9_method_54_code 134 = .ok (.if_icmp .le (7), 3) := by decide +kernel
theorem d_Mo_loan_137 : decode prog_9_method_54_code 137 = .ok (.iconst (-1), 1) := by decide +kernel
theorem d_Mo_loan_138 : decode prog_9_method_54_code 138 = .ok (.goto (6), 3) := by decide +kernel
theorem d_Mo_loan_141 : decode prog_9_method_54_code 141 = .ok (.iload 5, 2) := by decide +kernel
theorem d_Mo_loan_143 : decode prog_9_method_54_code 143 = .ok (.ineg, 1) := by decide +kernel
theorem d_Mo_loan_144 : decode prog_9_method_54_code 144 = .ok (.ireturn, 1) := by decide +kernel
theorem d_Mo_loan_145 : decode prog_9_method_54_code 145 = .ok (.iload 5, 2) := by decide +kernel
theorem d_Mo_loan_147 : decode prog_9_method_54_code 147 = .ok (.ifCond .ge (7), 3) := by decide +kernel
theorem d_Mo_loan_150 : decode prog_9_method_54_code 150 = .ok (.iconst (-1), 1) := by decide +kernel
theorem d_Mo_loan_151 : decode prog_9_method_54_code 151 = .ok (.goto (19), 3) := by decide +kernel
theorem d_Mo_loan_154 : decode prog_9_method_54_code 154 = .ok (.iload 5, 2) := by decide +kernel
theorem d_Mo_loan_156 : decode prog_9_method_54_code 156 = .ok (.sipush (9999), 3) := by decide +kernel
theorem d_Mo_loan_159 : decode prog_9_method_54_code 159 = .ok (.if_icmp .le (9), 3) := by decide +kernel
theorem d_Mo_loan_162 : decode prog_9_method_54_code 162 = .ok (.sipush (9999), 3) := by decide +kernel
theorem d_Mo_loan_165 : decode prog_9_method_54_code 165 = .ok (.goto (5), 3) := by decide +kernel
theorem d_Mo_loan_168 : decode prog_9_method_54_code 168 = .ok (.iload 5, 2) := by decide +kernel
theorem d_Mo_loan_170 : decode prog_9_method_54_code 170 = .ok (.ireturn, 1) := by decide +kernel
set_option maxRecDepth 20000 in
set_option maxHeartbeats 2000000 in
theorem T_Mo_loan_L39 {Z : ZT} (X : CX Z Y_Mo_loan) {v1 : Int32} {v2 : Int32} {v3 : Int32} {p : Int32 × HP} (hR : RetI Z Y_Mo_loan .int p.1 p.2) {K : HP → Int32 → Option (Int32 × HP)} (hK : ∀ (hp : HP) (x4 : Int32), K hp x4 = some p → V Z Y_Mo_loan hp 102 [(0, .ref (gA (zG Z) 99)), (1, .int v1), (3, .int v3), (4, .int x4)] []) : ∀ (n : Nat) (hp : HP) (x4 : Int32) (x5 : Int32), f_Mo_loan_L39 v1 v2 v3 K n hp x4 x5 = some p → V Z Y_Mo_loan hp 39 [(0, .ref (gA (zG Z) 99)), (1, .int v1), (2, .int v2), (3, .int v3), (4, .int x4), (5, .int x5)] [] := by
  intro n
  induction n with
  | zero =>
    intro hp x4 x5 h
    cases h
  | succ n ih =>
    intro hp x4 x5 h
    replace h : f_Mo_loan_L39 v1 v2 v3 K (n + 1) hp x4 x5 = some p := h
    unfold f_Mo_loan_L39 at h
    refine R_iload X 5 d_Mo_loan_39 rfl ?_
    refine R_aload_n X 0 d_Mo_loan_41 rfl ?_
    refine R_getI (ci := 7) X rfl iMo_ok (of_decide_eq_true rfl) rfl 3 rfl rfl tw_674 d_Mo_loan_42 ?_
    refine R_icmp_ge (tgt := 102) X d_Mo_loan_45 rfl (fun c10 => ?_) (fun c10 => ?_)
    · replace h := (if_pos c10).symm.trans h
      refine V_pc (pc' := 102) rfl (R_loc (L' := [(0, .ref (gA (zG Z) 99)), (1, .int v1), (3, .int v3), (4, .int x4)]) [0, 1, 3, 4] rfl ?_)
      exact hK hp x4 h
    · replace h := (if_neg c10).symm.trans h
      refine R_aload_n X 0 d_Mo_loan_48 rfl ?_
      refine R_getR (ci := 7) X rfl iMo_ok (of_decide_eq_true rfl) rfl 9 rfl rfl tw_680 d_Mo_loan_49 ?_
      refine R_iload_n X 2 d_Mo_loan_52 rfl ?_
      obtain ⟨i11, h⟩ := ck h
      refine R_iald (n := 6) X (of_decide_eq_true rfl) rfl i11 d_Mo_loan_53 ?_
      refine R_iload X 5 d_Mo_loan_54 rfl ?_
      refine V_pc (pc' := 56) rfl ?_
      obtain ⟨p13, e12, h⟩ := ob h
      refine R_scall (As := [.int (hp 105 (v2).toNatClampNeg), .int x5]) (st := []) X (M_Mo_isIn e12) tw_996 cf_Mo_isIn rfl rfl rfl d_Mo_loan_56 ?_
      refine R_ifeq (tgt := 92) X d_Mo_loan_59 rfl (fun c14 => ?_) (fun c14 => ?_)
      · replace h := (if_pos c14).symm.trans h
        refine R_iload X 4 d_Mo_loan_92 rfl ?_
        refine R_istore (L' := [(4, .int x4), (0, .ref (gA (zG Z) 99)), (1, .int v1), (2, .int v2), (3, .int v3), (5, .int x5)]) X d_Mo_loan_94 (by decide) rfl ?_
        refine R_iinc (v := (x5 + 1)) (L' := [(5, .int (x5 + 1)), (4, .int x4), (0, .ref (gA (zG Z) 99)), (1, .int v1), (2, .int v2), (3, .int v3)]) X 5 d_Mo_loan_96 rfl rfl (by decide) rfl ?_
        refine R_goto (tgt := 39) X d_Mo_loan_99 rfl ?_
        refine V_pc (pc' := 39) rfl (R_loc (L' := [(0, .ref (gA (zG Z) 99)), (1, .int v1), (2, .int v2), (3, .int v3), (4, .int x4), (5, .int (x5 + 1))]) [2, 3, 4, 5, 1, 0] rfl ?_)
        exact ih p13.2 x4 (x5 + 1) h
      · replace h := (if_neg c14).symm.trans h
        refine R_aload_n X 0 d_Mo_loan_62 rfl ?_
        refine R_getR (ci := 7) X rfl iMo_ok (of_decide_eq_true rfl) rfl 4 rfl rfl tw_675 d_Mo_loan_63 ?_
        refine R_iload X 5 d_Mo_loan_66 rfl ?_
        obtain ⟨i15, h⟩ := ck h
        refine R_iald (n := 8) X (of_decide_eq_true rfl) rfl i15 d_Mo_loan_68 ?_
        refine R_sipush (v := (500 : Int32)) X d_Mo_loan_69 rfl ?_
        refine V_pc (pc' := 72) rfl ?_
        refine R_isub X d_Mo_loan_72 ?_
        refine R_iload X 4 d_Mo_loan_73 rfl ?_
        refine R_icmp_le (tgt := 92) X d_Mo_loan_75 rfl (fun c16 => ?_) (fun c16 => ?_)
        · replace h := (if_pos c16).symm.trans h
          refine R_iload X 4 d_Mo_loan_92 rfl ?_
          refine R_istore (L' := [(4, .int x4), (0, .ref (gA (zG Z) 99)), (1, .int v1), (2, .int v2), (3, .int v3), (5, .int x5)]) X d_Mo_loan_94 (by decide) rfl ?_
          refine R_iinc (v := (x5 + 1)) (L' := [(5, .int (x5 + 1)), (4, .int x4), (0, .ref (gA (zG Z) 99)), (1, .int v1), (2, .int v2), (3, .int v3)]) X 5 d_Mo_loan_96 rfl rfl (by decide) rfl ?_
          refine R_goto (tgt := 39) X d_Mo_loan_99 rfl ?_
          refine V_pc (pc' := 39) rfl (R_loc (L' := [(0, .ref (gA (zG Z) 99)), (1, .int v1), (2, .int v2), (3, .int v3), (4, .int x4), (5, .int (x5 + 1))]) [2, 3, 4, 5, 1, 0] rfl ?_)
          exact ih p13.2 x4 (x5 + 1) h
        · replace h := (if_neg c16).symm.trans h
          refine R_aload_n X 0 d_Mo_loan_78 rfl ?_
          refine R_getR (ci := 7) X rfl iMo_ok (of_decide_eq_true rfl) rfl 4 rfl rfl tw_675 d_Mo_loan_79 ?_
          refine R_iload X 5 d_Mo_loan_82 rfl ?_
          refine R_iald (n := 8) X (of_decide_eq_true rfl) rfl i15 d_Mo_loan_84 ?_
          refine R_sipush (v := (500 : Int32)) X d_Mo_loan_85 rfl ?_
          refine V_pc (pc' := 88) rfl ?_
          refine R_isub X d_Mo_loan_88 ?_
          refine R_goto (tgt := 94) X d_Mo_loan_89 rfl ?_
          refine R_istore (L' := [(4, .int ((p13.2 102 (x5).toNatClampNeg) - (500 : Int32))), (0, .ref (gA (zG Z) 99)), (1, .int v1), (2, .int v2), (3, .int v3), (5, .int x5)]) X d_Mo_loan_94 (by decide) rfl ?_
          refine R_iinc (v := (x5 + 1)) (L' := [(5, .int (x5 + 1)), (4, .int ((p13.2 102 (x5).toNatClampNeg) - (500 : Int32))), (0, .ref (gA (zG Z) 99)), (1, .int v1), (2, .int v2), (3, .int v3)]) X 5 d_Mo_loan_96 rfl rfl (by decide) rfl ?_
          refine R_goto (tgt := 39) X d_Mo_loan_99 rfl ?_
          refine V_pc (pc' := 39) rfl (R_loc (L' := [(0, .ref (gA (zG Z) 99)), (1, .int v1), (2, .int v2), (3, .int v3), (4, .int ((p13.2 102 (x5).toNatClampNeg) - (500 : Int32))), (5, .int (x5 + 1))]) [2, 3, 4, 5, 1, 0] rfl ?_)
          exact ih p13.2 ((p13.2 102 (x5).toNatClampNeg) - (500 : Int32)) (x5 + 1) h
set_option maxRecDepth 20000 in
set_option maxHeartbeats 2000000 in
theorem T_Mo_loan {Z : ZT} (X : CX Z Y_Mo_loan) {hp : HP} {a1 : Int32} {a2 : Int32} {a3 : Int32} {p : Int32 × HP} (h : f_Mo_loan hp a1 a2 a3 = some p) (hR : RetI Z Y_Mo_loan .int p.1 p.2) : V Z Y_Mo_loan hp 0 [(0, .ref (gA (zG Z) 99)), (1, .int a1), (2, .int a2), (3, .int a3)] [] := by
  unfold f_Mo_loan at h
  refine R_aload_n X 0 d_Mo_loan_0 rfl ?_
  refine R_iload_n X 1 d_Mo_loan_1 rfl ?_
  obtain ⟨p2, e1, h⟩ := ob h
  refine R_vcall (ci := 7) (k := 99) (As := [.int a1]) (st := []) X (M_Mo_isCustomer e1) tw_878 cf_Mo_isCustomer (of_decide_eq_true rfl) rfl rfl rfl rfl rfl d_Mo_loan_2 ?_
  refine R_ifeq (tgt := 16) X d_Mo_loan_5 rfl (fun c3 => ?_) (fun c3 => ?_)
  · replace h := (if_pos c3).symm.trans h
    refine R_ldc (v := (-1000000001 : Int32)) X tw_873 d_Mo_loan_16 ?_
    exact R_ret hR h d_Mo_loan_18
  · replace h := (if_neg c3).symm.trans h
    refine R_aload_n X 0 d_Mo_loan_8 rfl ?_
    refine R_iload_n X 2 d_Mo_loan_9 rfl ?_
    obtain ⟨p5, e4, h⟩ := ob h
    refine R_vcall (ci := 7) (k := 99) (As := [.int a2]) (st := []) X (M_Mo_isTask e4) tw_895 cf_Mo_isTask (of_decide_eq_true rfl) rfl rfl rfl rfl rfl d_Mo_loan_10 ?_
    refine R_ifne (tgt := 19) X d_Mo_loan_13 rfl (fun c6 => ?_) (fun c6 => ?_)
    · replace h := (if_neg c6).symm.trans h
      refine R_iload_n X 3 d_Mo_loan_19 rfl ?_
      refine R_i2l X d_Mo_loan_20 ?_
      refine R_lconst (v := (0 : Int64)) X d_Mo_loan_21 rfl ?_
      refine R_lconst (v := (1 : Int64)) X d_Mo_loan_22 rfl ?_
      obtain ⟨p8, e7, h⟩ := ob h
      refine R_scall (As := [.long (a3).toInt64, .long (0 : Int64), .long (1 : Int64)]) (st := []) X (M_Mo_in e7) tw_782 cf_Mo_in rfl rfl rfl d_Mo_loan_23 ?_
      refine V_pc (pc' := 26) rfl ?_
      refine R_ifne (tgt := 32) X d_Mo_loan_26 rfl (fun c9 => ?_) (fun c9 => ?_)
      · replace h := (if_neg c9).symm.trans h
        refine R_ldc (v := (-1000000 : Int32)) X tw_995 d_Mo_loan_32 ?_
        refine R_istore (L' := [(4, .int (-1000000 : Int32)), (0, .ref (gA (zG Z) 99)), (1, .int a1), (2, .int a2), (3, .int a3)]) X d_Mo_loan_34 (by decide) rfl ?_
        refine R_iconst (v := (0 : Int32)) X d_Mo_loan_36 rfl ?_
        refine R_istore (L' := [(5, .int (0 : Int32)), (4, .int (-1000000 : Int32)), (0, .ref (gA (zG Z) 99)), (1, .int a1), (2, .int a2), (3, .int a3)]) X d_Mo_loan_37 (by decide) rfl ?_
        refine V_pc (pc' := 39) rfl (R_loc (L' := [(0, .ref (gA (zG Z) 99)), (1, .int a1), (2, .int a2), (3, .int a3), (4, .int (-1000000 : Int32)), (5, .int (0 : Int32))]) [2, 3, 4, 5, 1, 0] rfl ?_)
        refine T_Mo_loan_L39 X hR (fun hp18 w17 h => ?_) _ p8.2 (-1000000 : Int32) (0 : Int32) h
        refine R_aload_n X 0 d_Mo_loan_102 rfl ?_
        refine R_getR (ci := 7) X rfl iMo_ok (of_decide_eq_true rfl) rfl 0 rfl rfl tw_671 d_Mo_loan_103 ?_
        refine R_iconst (v := (1 : Int32)) X d_Mo_loan_106 rfl ?_
        refine R_iload_n X 1 d_Mo_loan_107 rfl ?_
        refine R_iadd X d_Mo_loan_108 ?_
        refine V_pc (pc' := 109) rfl ?_
        obtain ⟨i19, h⟩ := ck h
        refine R_iald (n := 736) X (of_decide_eq_true rfl) rfl i19 d_Mo_loan_109 ?_
        refine R_iload X 3 d_Mo_loan_110 rfl ?_
        refine R_isub X d_Mo_loan_112 ?_
        refine R_istore (L' := [(5, .int ((hp18 100 (((1 : Int32) + a1)).toNatClampNeg) - w17)), (0, .ref (gA (zG Z) 99)), (1, .int a1), (3, .int a3), (4, .int w17)]) X d_Mo_loan_113 (by decide) rfl ?_
        refine R_iload_n X 3 d_Mo_loan_115 rfl ?_
        refine R_ifne (tgt := 145) X d_Mo_loan_116 rfl (fun c20 => ?_) (fun c20 => ?_)
        · replace h := (if_neg c20).symm.trans h
          refine R_iload X 0 d_Mo_loan_145 rfl ?_
          refine R_ifge (tgt := 154) X d_Mo_loan_147 rfl (fun c23 => ?_) (fun c23 => ?_)
          · replace h := (if_pos c23).symm.trans h
            refine R_iload X 0 d_Mo_loan_154 rfl ?_
            refine R_sipush (v := (9999 : Int32)) X d_Mo_loan_156 rfl ?_
            refine R_icmp_le (tgt := 168) X d_Mo_loan_159 rfl (fun c24 => ?_) (fun c24 => ?_)
            · replace h := (if_pos c24).symm.trans h
              refine R_iload X 0 d_Mo_loan_168 rfl ?_
              exact R_ret hR h d_Mo_loan_170
            · replace h := (if_neg c24).symm.trans h
              refine R_sipush (v := (9999 : Int32)) X d_Mo_loan_162 rfl ?_
              refine R_goto (tgt := 170) X d_Mo_loan_165 rfl ?_
              exact R_ret hR h d_Mo_loan_170
          · replace h := (if_neg c23).symm.trans h
            refine R_iconst (v := (-1 : Int32)) X d_Mo_loan_150 rfl ?_
            refine R_goto (tgt := 170) X d_Mo_loan_151 rfl ?_
            exact R_ret hR h d_Mo_loan_170
        · replace h := (if_pos c20).symm.trans h
          refine R_iload X 0 d_Mo_loan_119 rfl ?_
          refine R_iflt (tgt := 128) X d_Mo_loan_121 rfl (fun c21 => ?_) (fun c21 => ?_)
          · replace h := (if_pos c21).symm.trans h
            refine R_iload X 0 d_Mo_loan_128 rfl ?_
            refine R_ineg X d_Mo_loan_130 ?_
            refine R_sipush (v := (9999 : Int32)) X d_Mo_loan_131 rfl ?_
            refine R_icmp_le (tgt := 141) X d_Mo_loan_134 rfl (fun c22 => ?_) (fun c22 => ?_)
            · replace h := (if_pos c22).symm.trans h
              refine R_iload X 0 d_Mo_loan_141 rfl ?_
              refine R_ineg X d_Mo_loan_143 ?_
              exact R_ret hR h d_Mo_loan_144
            · replace h := (if_neg c22).symm.trans h
              refine R_iconst (v := (-1 : Int32)) X d_Mo_loan_137 rfl ?_
              refine R_goto (tgt := 144) X d_Mo_loan_138 rfl ?_
              exact R_ret hR h d_Mo_loan_144
          · replace h := (if_neg c21).symm.trans h
            refine R_iconst (v := (0 : Int32)) X d_Mo_loan_124 rfl ?_
            refine R_goto (tgt := 144) X d_Mo_loan_125 rfl ?_
            exact R_ret hR h d_Mo_loan_144
      · replace h := (if_pos c9).symm.trans h
        refine R_ldc (v := (-1000000002 : Int32)) X tw_785 d_Mo_loan_29 ?_
        exact R_ret hR h d_Mo_loan_31
    · replace h := (if_pos c6).symm.trans h
      refine R_ldc (v := (-1000000001 : Int32)) X tw_873 d_Mo_loan_16 ?_
      exact R_ret hR h d_Mo_loan_18
theorem M_Mo_loan {G : GT} {hp : HP} {a1 : Int32} {a2 : Int32} {a3 : Int32} {p : Int32 × HP} (h : f_Mo_loan hp a1 a2 a3 = some p) : MI G y_Mo_loan Y_Mo_loan .int [.ref (gA G 99), .int a1, .int a2, .int a3] hp p.1 p.2 := MI_of rfl (fun Z hz X hR => by subst hz; exact T_Mo_loan X h hR)
theorem d_Mo_order_0 : decode prog_9_method_55_code 0 = .ok (.iconst 0, 1) := by decide +kernel
theorem d_Mo_order_1 : decode prog_9_method_55_code 1 = .ok (.istore_n 2, 1) := by decide +kernel
theorem d_Mo_order_2 : decode prog_9_method_55_code 2 = .ok (.iconst (-1), 1) := by decide +kernel
theorem d_Mo_order_3 : decode prog_9_method_55_code 3 = .ok (.istore_n 3, 1) := by decide +kernel
theorem d_Mo_order_4 : decode prog_9_method_55_code 4 = .ok (.iconst 0, 1) := by decide +kernel
theorem d_Mo_order_5 : decode prog_9_method_55_code 5 = .ok (.istore 4, 2) := by decide +kernel
theorem d_Mo_order_7 : decode prog_9_method_55_code 7 = .ok (.iload 4, 2) := by decide +kernel
theorem d_Mo_order_9 : decode prog_9_method_55_code 9 = .ok (.iload_n 1, 1) := by decide +kernel
theorem d_Mo_order_10 : decode prog_9_method_55_code 10 = .ok (.if_icmp .gt (81), 3) := by decide +kernel
theorem d_Mo_order_13 : decode prog_9_method_55_code 13 = .ok (.iload 4, 2) := by decide +kernel
theorem d_Mo_order_15 : decode prog_9_method_55_code 15 = .ok (.aload_n 0, 1) := by decide +kernel
theorem d_Mo_order_16 : decode prog_9_method_55_code 16 = .ok (.getfield 69, 3) := by decide +kernel
theorem d_Mo_order_19 : decode prog_9_method_55_code 19 = .ok (.if_icmp .ge (72), 3) := by decide +kernel
theorem d_Mo_order_22 : decode prog_9_method_55_code 22 = .ok (.iconst (-1), 1) := by decide +kernel
theorem d_Mo_order_23 : decode prog_9_method_55_code 23 = .ok (.istore_n 3, 1) := by decide +kernel
theorem d_Mo_order_24 : decode prog_9_method_55_code 24 = .ok (.iconst 0, 1) := by decide +kernel
theorem d_Mo_order_25 : decode prog_9_method_55_code 25 = .ok (.istore 5, 2) := by decide +kernel
theorem d_Mo_order_27 : decode prog_9_method_55_code 27 = .ok (.iload 5, 2) := by decide +kernel
theorem d_Mo_order_29 : decode prog_9_method_55_code 29 = .ok (.aload_n 0, 1) := by decide +kernel
theorem d_Mo_order_30 : decode prog_9_method_55_code 30 = .ok (.getfield 69, 3) := by decide +kernel
theorem d_Mo_order_33 : decode prog_9_method_55_code 33 = .ok (.if_icmp .ge (46), 3) := by decide +kernel
theorem d_Mo_order_36 : decode prog_9_method_55_code 36 = .ok (.iload_n 2, 1) := by decide +kernel
theorem d_Mo_order_37 : decode prog_9_method_55_code 37 = .ok (.iload 5, 2) := by decide +kernel
theorem d_Mo_order_39 : decode prog_9_method_55_code 39 = .ok (.invokestatic 244, 3) := by decide +kernel
theorem d_Mo_order_42 : decode prog_9_method_55_code 42 = .ok (.ifCond .ne (29), 3) := by decide +kernel
theorem d_Mo_order_45 : decode prog_9_method_55_code 45 = .ok (.iload_n 3, 1) := by decide +kernel
theorem d_Mo_order_46 : decode prog_9_method_55_code 46 = .ok (.iconst (-1), 1) := by decide +kernel
theorem d_Mo_order_47 : decode prog_9_method_55_code 47 = .ok (.if_icmp .eq (19), 3) := by decide +kernel
theorem d_Mo_order_50 : decode prog_9_method_55_code 50 = .ok (.aload_n 0, 1) := by decide +kernel
theorem d_Mo_order_51 : decode prog_9_method_55_code 51 = .ok (.getfield 17, 3) := by decide +kernel
theorem d_Mo_order_54 : decode prog_9_method_55_code 54 = .ok (.iload 5, 2) := by decide +kernel
theorem d_Mo_order_56 : decode prog_9_method_55_code 56 = .ok (.iaload, 1) := by decide +kernel
theorem d_Mo_order_57 : decode prog_9_method_55_code 57 = .ok (.aload_n 0, 1) := by decide +kernel
theorem d_Mo_order_58 : decode prog_9_method_55_code 58 = .ok (.getfield 17, 3) := by decide +kernel
theorem d_Mo_order_61 : decode prog_9_method_55_code 61 = .ok (.iload_n 3, 1) := by decide +kernel
theorem d_Mo_order_62 : decode prog_9_method_55_code 62 = .ok (.iaload, 1) := by decide +kernel
theorem d_Mo_order_63 : decode prog_9_method_55_code 63 = .ok (.if_icmp .le (8), 3) := by decide +kernel
theorem d_Mo_order_66 : decode prog_9_method_55_code 66 = .ok (.iload 5, 2) := by decide +kernel
theorem d_Mo_order_68 : decode prog_9_method_55_code 68 = .ok (.goto (4), 3) := by decide +kernel
theorem d_Mo_order_71 : decode prog_9_method_55_code 71 = .ok (.iload_n 3, 1) := by decide +kernel
theorem d_Mo_order_72 : decode prog_9_method_55_code 72 = .ok (.istore_n 3, 1) := by decide +kernel
theorem d_Mo_order_73 : decode prog_9_method_55_code 73 = .ok (.iinc 5 (1), 3) := by decide +kernel
theorem d_Mo_order_76 : decode prog_9_method_55_code 76 = .ok (.goto (-49), 3) := by decide +kernel
theorem d_Mo_order_79 : decode prog_9_method_55_code 79 = .ok (.iload_n 2, 1) := by decide +kernel
theorem d_Mo_order_80 : decode prog_9_method_55_code 80 = .ok (.iconst 1, 1) := by decide +kernel
theorem d_Mo_order_81 : decode prog_9_method_55_code 81 = .ok (.iload_n 3, 1) := by decide +kernel
theorem d_Mo_order_82 : decode prog_9_method_55_code 82 = .ok (.ishl, 1) := by decide +kernel
theorem d_Mo_order_83 : decode prog_9_method_55_code 83 = .ok (.ior, 1) := by decide +kernel
theorem d_Mo_order_84 : decode prog_9_method_55_code 84 = .ok (.istore_n 2, 1) := by decide +kernel
theorem d_Mo_order_85 : decode prog_9_method_55_code 85 = .ok (.iinc 4 (1), 3) := by decide +kernel
theorem d_Mo_order_88 : decode prog_9_method_55_code 88 = .ok (.goto (-81), 3) := by decide +kernel
theorem d_Mo_order_91 : decode prog_9_method_55_code 91 = .ok (.iload_n 1, 1) := by decide +kernel
theorem d_Mo_order_92 : decode prog_9_method_55_code 92 = .ok (.i2l, 1) := by decide +kernel
theorem d_Mo_order_93 : decode prog_9_method_55_code 93 = .ok (.lconst 0, 1) := by decide +kernel
theorem d_Mo_order_94 : decode prog_9_method_55_code 94 = .ok (.aload_n 0, 1) := by decide +kernel
theorem d_Mo_order_95 : decode prog_9_method_55_code 95 = .ok (.getfield 69, 3) := by decide +kernel
theorem d_Mo_order_98 : decode prog_9_method_55_code 98 = .ok (.iconst 1, 1) := by decide +kernel
theorem d_Mo_order_99 : decode prog_9_method_55_code 99 = .ok (.isub, 1) := by decide +kernel
theorem d_Mo_order_100 : decode prog_9_method_55_code 100 = .ok (.i2l, 1) := by decide +kernel
theorem d_Mo_order_101 : decode prog_9_method_55_code 101 = .ok (.invokestatic 72, 3) := by decide +kernel
theorem d_Mo_order_104 : decode prog_9_method_55_code 104 = .ok (.ifCond .eq (7), 3) := by decide +kernel
theorem d_Mo_order_107 : decode prog_9_method_55_code 107 = .ok (.iload_n 3, 1) := by decide +kernel
theorem d_Mo_order_108 : decode prog_9_method_55_code 108 = .ok (.goto (4), 3) := by decide +kernel
theorem d_Mo_order_111 : decode prog_9_method_55_code 111 = .ok (.iconst (-1), 1) := by decide +kernel
theorem d_Mo_order_112 : decode prog_9_method_55_code 112 = .ok (.ireturn, 1) := by decide +kernel
set_option maxRecDepth 20000 in
set_option maxHeartbeats 2000000 in
theorem T_Mo_order_L27 {Z : ZT} (X : CX Z Y_Mo_order) {v1 : Int32} {v2 : Int32} {v4 : Int32} {p : Int32 × HP} (hR : RetI Z Y_Mo_order .int p.1 p.2) {K : HP → Int32 → Option (Int32 × HP)} (hK : ∀ (hp : HP) (x3 : Int32), K hp x3 = some p → V Z Y_Mo_order hp 79 [(0, .ref (gA (zG Z) 99)), (1, .int v1), (2, .int v2), (3, .int x3), (4, .int v4)] []) : ∀ (n : Nat) (hp : HP) (x3 : Int32) (x5 : Int32), f_Mo_order_L27 v1 v2 v4 K n hp x3 x5 = some p → V Z Y_Mo_order hp 27 [(0, .ref (gA (zG Z) 99)), (1, .int v1), (2, .int v2), (3, .int x3), (4, .int v4), (5, .int x5)] [] := by
  intro n
  induction n with
  | zero =>
    intro hp x3 x5 h
    cases h
  | succ n ih =>
    intro hp x3 x5 h
    replace h : f_Mo_order_L27 v1 v2 v4 K (n + 1) hp x3 x5 = some p := h
    unfold f_Mo_order_L27 at h
    refine R_iload X 5 d_Mo_order_27 rfl ?_
    refine R_aload_n X 0 d_Mo_order_29 rfl ?_
    refine R_getI (ci := 7) X rfl iMo_ok (of_decide_eq_true rfl) rfl 3 rfl rfl tw_674 d_Mo_order_30 ?_
    refine R_icmp_ge (tgt := 79) X d_Mo_order_33 rfl (fun c3 => ?_) (fun c3 => ?_)
    · replace h := (if_pos c3).symm.trans h
      refine V_pc (pc' := 79) rfl (R_loc (L' := [(0, .ref (gA (zG Z) 99)), (1, .int v1), (2, .int v2), (3, .int x3), (4, .int v4)]) [0, 1, 2, 3, 4] rfl ?_)
      exact hK hp x3 h
    · replace h := (if_neg c3).symm.trans h
      refine R_iload_n X 2 d_Mo_order_36 rfl ?_
      refine R_iload X 5 d_Mo_order_37 rfl ?_
      obtain ⟨p5, e4, h⟩ := ob h
      refine R_scall (As := [.int v2, .int x5]) (st := []) X (M_Mo_isIn e4) tw_996 cf_Mo_isIn rfl rfl rfl d_Mo_order_39 ?_
      refine R_ifne (tgt := 71) X d_Mo_order_42 rfl (fun c6 => ?_) (fun c6 => ?_)
      · replace h := (if_neg c6).symm.trans h
        refine R_iload_n X 3 d_Mo_order_71 rfl ?_
        refine R_istore_n (L' := [(3, .int x3), (0, .ref (gA (zG Z) 99)), (1, .int v1), (2, .int v2), (4, .int v4), (5, .int x5)]) X d_Mo_order_72 (by decide) rfl ?_
        refine R_iinc (v := (x5 + 1)) (L' := [(5, .int (x5 + 1)), (3, .int x3), (0, .ref (gA (zG Z) 99)), (1, .int v1), (2, .int v2), (4, .int v4)]) X 5 d_Mo_order_73 rfl rfl (by decide) rfl ?_
        refine R_goto (tgt := 27) X d_Mo_order_76 rfl ?_
        refine V_pc (pc' := 27) rfl (R_loc (L' := [(0, .ref (gA (zG Z) 99)), (1, .int v1), (2, .int v2), (3, .int x3), (4, .int v4), (5, .int (x5 + 1))]) [2, 3, 4, 1, 5, 0] rfl ?_)
        exact ih p5.2 x3 (x5 + 1) h
      · replace h := (if_pos c6).symm.trans h
        refine R_iload_n X 3 d_Mo_order_45 rfl ?_
        refine R_iconst (v := (-1 : Int32)) X d_Mo_order_46 rfl ?_
        refine R_icmp_eq (tgt := 66) X d_Mo_order_47 rfl (fun c7 => ?_) (fun c7 => ?_)
        · replace h := (if_pos c7).symm.trans h
          refine R_iload X 5 d_Mo_order_66 rfl ?_
          refine R_goto (tgt := 72) X d_Mo_order_68 rfl ?_
          refine R_istore_n (L' := [(3, .int x5), (0, .ref (gA (zG Z) 99)), (1, .int v1), (2, .int v2), (4, .int v4), (5, .int x5)]) X d_Mo_order_72 (by decide) rfl ?_
          refine R_iinc (v := (x5 + 1)) (L' := [(5, .int (x5 + 1)), (3, .int x5), (0, .ref (gA (zG Z) 99)), (1, .int v1), (2, .int v2), (4, .int v4)]) X 5 d_Mo_order_73 rfl rfl (by decide) rfl ?_
          refine R_goto (tgt := 27) X d_Mo_order_76 rfl ?_
          refine V_pc (pc' := 27) rfl (R_loc (L' := [(0, .ref (gA (zG Z) 99)), (1, .int v1), (2, .int v2), (3, .int x5), (4, .int v4), (5, .int (x5 + 1))]) [2, 3, 4, 1, 5, 0] rfl ?_)
          exact ih p5.2 x5 (x5 + 1) h
        · replace h := (if_neg c7).symm.trans h
          refine R_aload_n X 0 d_Mo_order_50 rfl ?_
          refine R_getR (ci := 7) X rfl iMo_ok (of_decide_eq_true rfl) rfl 4 rfl rfl tw_675 d_Mo_order_51 ?_
          refine R_iload X 5 d_Mo_order_54 rfl ?_
          obtain ⟨i8, h⟩ := ck h
          refine R_iald (n := 8) X (of_decide_eq_true rfl) rfl i8 d_Mo_order_56 ?_
          refine R_aload_n X 0 d_Mo_order_57 rfl ?_
          refine V_pc (pc' := 58) rfl ?_
          refine R_getR (ci := 7) X rfl iMo_ok (of_decide_eq_true rfl) rfl 4 rfl rfl tw_675 d_Mo_order_58 ?_
          refine R_iload_n X 3 d_Mo_order_61 rfl ?_
          obtain ⟨i9, h⟩ := ck h
          refine R_iald (n := 8) X (of_decide_eq_true rfl) rfl i9 d_Mo_order_62 ?_
          refine R_icmp_le (tgt := 71) X d_Mo_order_63 rfl (fun c10 => ?_) (fun c10 => ?_)
          · replace h := (if_pos c10).symm.trans h
            refine R_iload_n X 3 d_Mo_order_71 rfl ?_
            refine R_istore_n (L' := [(3, .int x3), (0, .ref (gA (zG Z) 99)), (1, .int v1), (2, .int v2), (4, .int v4), (5, .int x5)]) X d_Mo_order_72 (by decide) rfl ?_
            refine R_iinc (v := (x5 + 1)) (L' := [(5, .int (x5 + 1)), (3, .int x3), (0, .ref (gA (zG Z) 99)), (1, .int v1), (2, .int v2), (4, .int v4)]) X 5 d_Mo_order_73 rfl rfl (by decide) rfl ?_
            refine R_goto (tgt := 27) X d_Mo_order_76 rfl ?_
            refine V_pc (pc' := 27) rfl (R_loc (L' := [(0, .ref (gA (zG Z) 99)), (1, .int v1), (2, .int v2), (3, .int x3), (4, .int v4), (5, .int (x5 + 1))]) [2, 3, 4, 1, 5, 0] rfl ?_)
            exact ih p5.2 x3 (x5 + 1) h
          · replace h := (if_neg c10).symm.trans h
            refine R_iload X 5 d_Mo_order_66 rfl ?_
            refine R_goto (tgt := 72) X d_Mo_order_68 rfl ?_
            refine R_istore_n (L' := [(3, .int x5), (0, .ref (gA (zG Z) 99)), (1, .int v1), (2, .int v2), (4, .int v4), (5, .int x5)]) X d_Mo_order_72 (by decide) rfl ?_
            refine R_iinc (v := (x5 + 1)) (L' := [(5, .int (x5 + 1)), (3, .int x5), (0, .ref (gA (zG Z) 99)), (1, .int v1), (2, .int v2), (4, .int v4)]) X 5 d_Mo_order_73 rfl rfl (by decide) rfl ?_
            refine R_goto (tgt := 27) X d_Mo_order_76 rfl ?_
            refine V_pc (pc' := 27) rfl (R_loc (L' := [(0, .ref (gA (zG Z) 99)), (1, .int v1), (2, .int v2), (3, .int x5), (4, .int v4), (5, .int (x5 + 1))]) [2, 3, 4, 1, 5, 0] rfl ?_)
            exact ih p5.2 x5 (x5 + 1) h
set_option maxRecDepth 20000 in
set_option maxHeartbeats 2000000 in
theorem T_Mo_order_L7 {Z : ZT} (X : CX Z Y_Mo_order) {v1 : Int32} {p : Int32 × HP} (hR : RetI Z Y_Mo_order .int p.1 p.2) {K : HP → Int32 → Option (Int32 × HP)} (hK : ∀ (hp : HP) (x3 : Int32), K hp x3 = some p → V Z Y_Mo_order hp 91 [(0, .ref (gA (zG Z) 99)), (1, .int v1), (3, .int x3)] []) : ∀ (n : Nat) (hp : HP) (x2 : Int32) (x3 : Int32) (x4 : Int32), f_Mo_order_L7 v1 K n hp x2 x3 x4 = some p → V Z Y_Mo_order hp 7 [(0, .ref (gA (zG Z) 99)), (1, .int v1), (2, .int x2), (3, .int x3), (4, .int x4)] [] := by
  intro n
  induction n with
  | zero =>
    intro hp x2 x3 x4 h
    cases h
  | succ n ih =>
    intro hp x2 x3 x4 h
    replace h : f_Mo_order_L7 v1 K (n + 1) hp x2 x3 x4 = some p := h
    unfold f_Mo_order_L7 at h
    refine R_iload X 4 d_Mo_order_7 rfl ?_
    refine R_iload_n X 1 d_Mo_order_9 rfl ?_
    refine R_icmp_gt (tgt := 91) X d_Mo_order_10 rfl (fun c1 => ?_) (fun c1 => ?_)
    · replace h := (if_pos c1).symm.trans h
      refine V_pc (pc' := 91) rfl (R_loc (L' := [(0, .ref (gA (zG Z) 99)), (1, .int v1), (3, .int x3)]) [0, 1, 3] rfl ?_)
      exact hK hp x3 h
    · replace h := (if_neg c1).symm.trans h
      refine R_iload X 4 d_Mo_order_13 rfl ?_
      refine R_aload_n X 0 d_Mo_order_15 rfl ?_
      refine R_getI (ci := 7) X rfl iMo_ok (of_decide_eq_true rfl) rfl 3 rfl rfl tw_674 d_Mo_order_16 ?_
      refine R_icmp_ge (tgt := 91) X d_Mo_order_19 rfl (fun c2 => ?_) (fun c2 => ?_)
      · replace h := (if_pos c2).symm.trans h
        refine V_pc (pc' := 91) rfl (R_loc (L' := [(0, .ref (gA (zG Z) 99)), (1, .int v1), (3, .int x3)]) [0, 1, 3] rfl ?_)
        exact hK hp x3 h
      · replace h := (if_neg c2).symm.trans h
        refine R_iconst (v := (-1 : Int32)) X d_Mo_order_22 rfl ?_
        refine R_istore_n (L' := [(3, .int (-1 : Int32)), (0, .ref (gA (zG Z) 99)), (1, .int v1), (2, .int x2), (4, .int x4)]) X d_Mo_order_23 (by decide) rfl ?_
        refine R_iconst (v := (0 : Int32)) X d_Mo_order_24 rfl ?_
        refine R_istore (L' := [(5, .int (0 : Int32)), (3, .int (-1 : Int32)), (0, .ref (gA (zG Z) 99)), (1, .int v1), (2, .int x2), (4, .int x4)]) X d_Mo_order_25 (by decide) rfl ?_
        refine V_pc (pc' := 27) rfl (R_loc (L' := [(0, .ref (gA (zG Z) 99)), (1, .int v1), (2, .int x2), (3, .int (-1 : Int32)), (4, .int x4), (5, .int (0 : Int32))]) [2, 3, 4, 1, 5, 0] rfl ?_)
        refine T_Mo_order_L27 X hR (fun hp12 w11 h => ?_) _ hp (-1 : Int32) (0 : Int32) h
        refine R_iload_n X 2 d_Mo_order_79 rfl ?_
        refine R_iconst (v := (1 : Int32)) X d_Mo_order_80 rfl ?_
        refine R_iload_n X 3 d_Mo_order_81 rfl ?_
        refine R_ishl X d_Mo_order_82 ?_
        refine R_ior X d_Mo_order_83 ?_
        refine V_pc (pc' := 84) rfl ?_
        refine R_istore_n (L' := [(2, .int (x2 ||| ((1 : Int32) <<< (w11 &&& 31)))), (0, .ref (gA (zG Z) 99)), (1, .int v1), (3, .int w11), (4, .int x4)]) X d_Mo_order_84 (by decide) rfl ?_
        refine R_iinc (v := (x4 + 1)) (L' := [(4, .int (x4 + 1)), (2, .int (x2 ||| ((1 : Int32) <<< (w11 &&& 31)))), (0, .ref (gA (zG Z) 99)), (1, .int v1), (3, .int w11)]) X 4 d_Mo_order_85 rfl rfl (by decide) rfl ?_
        refine R_goto (tgt := 7) X d_Mo_order_88 rfl ?_
        refine V_pc (pc' := 7) rfl (R_loc (L' := [(0, .ref (gA (zG Z) 99)), (1, .int v1), (2, .int (x2 ||| ((1 : Int32) <<< (w11 &&& 31)))), (3, .int w11), (4, .int (x4 + 1))]) [2, 3, 1, 4, 0] rfl ?_)
        exact ih hp12 (x2 ||| ((1 : Int32) <<< (w11 &&& 31))) w11 (x4 + 1) h
set_option maxRecDepth 20000 in
set_option maxHeartbeats 2000000 in
theorem T_Mo_order {Z : ZT} (X : CX Z Y_Mo_order) {hp : HP} {a1 : Int32} {p : Int32 × HP} (h : f_Mo_order hp a1 = some p) (hR : RetI Z Y_Mo_order .int p.1 p.2) : V Z Y_Mo_order hp 0 [(0, .ref (gA (zG Z) 99)), (1, .int a1)] [] := by
  unfold f_Mo_order at h
  refine R_iconst (v := (0 : Int32)) X d_Mo_order_0 rfl ?_
  refine R_istore_n (L' := [(2, .int (0 : Int32)), (0, .ref (gA (zG Z) 99)), (1, .int a1)]) X d_Mo_order_1 (by decide) rfl ?_
  refine R_iconst (v := (-1 : Int32)) X d_Mo_order_2 rfl ?_
  refine R_istore_n (L' := [(3, .int (-1 : Int32)), (2, .int (0 : Int32)), (0, .ref (gA (zG Z) 99)), (1, .int a1)]) X d_Mo_order_3 (by decide) rfl ?_
  refine R_iconst (v := (0 : Int32)) X d_Mo_order_4 rfl ?_
  refine V_pc (pc' := 5) rfl ?_
  refine R_istore (L' := [(4, .int (0 : Int32)), (3, .int (-1 : Int32)), (2, .int (0 : Int32)), (0, .ref (gA (zG Z) 99)), (1, .int a1)]) X d_Mo_order_5 (by decide) rfl ?_
  refine V_pc (pc' := 7) rfl (R_loc (L' := [(0, .ref (gA (zG Z) 99)), (1, .int a1), (2, .int (0 : Int32)), (3, .int (-1 : Int32)), (4, .int (0 : Int32))]) [3, 4, 2, 1, 0] rfl ?_)
  refine T_Mo_order_L7 X hR (fun hp14 w13 h => ?_) _ hp (0 : Int32) (-1 : Int32) (0 : Int32) h
  refine R_iload_n X 1 d_Mo_order_91 rfl ?_
  refine R_i2l X d_Mo_order_92 ?_
  refine R_lconst (v := (0 : Int64)) X d_Mo_order_93 rfl ?_
  refine R_aload_n X 0 d_Mo_order_94 rfl ?_
  refine R_getI (ci := 7) X rfl iMo_ok (of_decide_eq_true rfl) rfl 3 rfl rfl tw_674 d_Mo_order_95 ?_
  refine V_pc (pc' := 98) rfl ?_
  refine R_iconst (v := (1 : Int32)) X d_Mo_order_98 rfl ?_
  refine R_isub X d_Mo_order_99 ?_
  refine R_i2l X d_Mo_order_100 ?_
  obtain ⟨p16, e15, h⟩ := ob h
  refine R_scall (As := [.long (a1).toInt64, .long (0 : Int64), .long (((hp14 99 3) - (1 : Int32))).toInt64]) (st := []) X (M_Mo_in e15) tw_782 cf_Mo_in rfl rfl rfl d_Mo_order_101 ?_
  refine R_ifeq (tgt := 111) X d_Mo_order_104 rfl (fun c17 => ?_) (fun c17 => ?_)
  · replace h := (if_pos c17).symm.trans h
    refine R_iconst (v := (-1 : Int32)) X d_Mo_order_111 rfl ?_
    exact R_ret hR h d_Mo_order_112
  · replace h := (if_neg c17).symm.trans h
    refine R_iload_n X 2 d_Mo_order_107 rfl ?_
    refine R_goto (tgt := 112) X d_Mo_order_108 rfl ?_
    exact R_ret hR h d_Mo_order_112
theorem M_Mo_order {G : GT} {hp : HP} {a1 : Int32} {p : Int32 × HP} (h : f_Mo_order hp a1 = some p) : MI G y_Mo_order Y_Mo_order .int [.ref (gA G 99), .int a1] hp p.1 p.2 := MI_of rfl (fun Z hz X hR => by subst hz; exact T_Mo_order X h hR)
theorem d_Mo_wage_0 : decode prog_9_method_56_code 0 = .ok (.iload_n 1, 1) := by decide +kernel
theorem d_Mo_wage_1 : decode prog_9_method_56_code 1 = .ok (.i2l, 1) := by decide +kernel
theorem d_Mo_wage_2 : decode prog_9_method_56_code 2 = .ok (.lconst 0, 1) := by decide +kernel
theorem d_Mo_wage_3 : decode prog_9_method_56_code 3 = .ok (.ldc2_w 208, 3) := by decide +kernel
theorem d_Mo_wage_6 : decode prog_9_method_56_code 6 = .ok (.invokestatic 72, 3) := by decide +kernel
theorem d_Mo_wage_9 : decode prog_9_method_56_code 9 = .ok (.ifCond .eq (15), 3) := by decide +kernel
theorem d_Mo_wage_12 : decode prog_9_method_56_code 12 = .ok (.iload_n 2, 1) := by decide +kernel
theorem d_Mo_wage_13 : decode prog_9_method_56_code 13 = .ok (.i2l, 1) := by decide +kernel
theorem d_Mo_wage_14 : decode prog_9_method_56_code 14 = .ok (.lconst 0, 1) := by decide +kernel
theorem d_Mo_wage_15 : decode prog_9_method_56_code 15 = .ok (.ldc2_w 247, 3) := by decide +kernel
theorem d_Mo_wage_18 : decode prog_9_method_56_code 18 = .ok (.invokestatic 72, 3) := by decide +kernel
theorem d_Mo_wage_21 : decode prog_9_method_56_code 21 = .ok (.ifCond .ne (6), 3) := by decide +kernel
theorem d_Mo_wage_24 : decode prog_9_method_56_code 24 = .ok (.ldc 88, 2) := by decide +kernel
theorem d_Mo_wage_26 : decode prog_9_method_56_code 26 = .ok (.ireturn, 1) := by decide +kernel
theorem d_Mo_wage_27 : decode prog_9_method_56_code 27 = .ok (.ldc2_w 249, 3) := by decide +kernel
theorem d_Mo_wage_30 : decode prog_9_method_56_code 30 = .ok (.lstore_n 3, 1) := by decide +kernel
theorem d_Mo_wage_31 : decode prog_9_method_56_code 31 = .ok (.iconst 0, 1) := by decide +kernel
theorem d_Mo_wage_32 : decode prog_9_method_56_code 32 = .ok (.istore 5, 2) := by decide +kernel
theorem d_Mo_wage_34 : decode prog_9_method_56_code 34 = .ok (.iload 5, 2) := by decide +kernel
theorem d_Mo_wage_36 : decode prog_9_method_56_code 36 = .ok (.iload_n 1, 1) := by decide +kernel
theorem d_Mo_wage_37 : decode prog_9_method_56_code 37 = .ok (.if_icmp .ge (21), 3) := by decide +kernel
theorem d_Mo_wage_40 : decode prog_9_method_56_code 40 = .ok (.lload_n 3, 1) := by decide +kernel
theorem d_Mo_wage_41 : decode prog_9_method_56_code 41 = .ok (.bipush (100), 2) := by decide +kernel
theorem d_Mo_wage_43 : decode prog_9_method_56_code 43 = .ok (.iload_n 2, 1) := by decide +kernel
theorem d_Mo_wage_44 : decode prog_9_method_56_code 44 = .ok (.isub, 1) := by decide +kernel
theorem d_Mo_wage_45 : decode prog_9_method_56_code 45 = .ok (.i2l, 1) := by decide +kernel
theorem d_Mo_wage_46 : decode prog_9_method_56_code 46 = .ok (.lmul, 1) := by decide +kernel
theorem d_Mo_wage_47 : decode prog_9_method_56_code 47 = .ok (.ldc2_w 247, 3) := by decide +kernel
theorem d_Mo_wage_50 : decode prog_9_method_56_code 50 = .ok (.ldiv, 1) := by decide +kernel
theorem d_Mo_wage_51 : decode prog_9_method_56_code 51 = .ok (.lstore_n 3, 1) := by decide +kernel
theorem d_Mo_wage_52 : decode prog_9_method_56_code 52 = .ok (.iinc 5 (1), 3) := by decide +kernel
theorem d_Mo_wage_55 : decode prog_9_method_56_code 55 = .ok (.goto (-21), 3) := by decide +kernel
theorem d_Mo_wage_58 : decode prog_9_method_56_code 58 = .ok (.lload_n 3, 1) := by decide +kernel
theorem d_Mo_wage_59 : decode prog_9_method_56_code 59 = .ok (.l2i, 1) := by decide +kernel
theorem d_Mo_wage_60 : decode prog_9_method_56_code 60 = .ok (.ireturn, 1) := by decide +kernel
set_option maxRecDepth 20000 in
set_option maxHeartbeats 2000000 in
theorem T_Mo_wage_L34 {Z : ZT} (X : CX Z Y_Mo_wage) {v1 : Int32} {v2 : Int32} {p : Int32 × HP} (hR : RetI Z Y_Mo_wage .int p.1 p.2) {K : HP → Int64 → Option (Int32 × HP)} (hK : ∀ (hp : HP) (x3 : Int64), K hp x3 = some p → V Z Y_Mo_wage hp 58 [(3, .long x3)] []) : ∀ (n : Nat) (hp : HP) (x3 : Int64) (x5 : Int32), f_Mo_wage_L34 v1 v2 K n hp x3 x5 = some p → V Z Y_Mo_wage hp 34 [(1, .int v1), (2, .int v2), (3, .long x3), (5, .int x5)] [] := by
  intro n
  induction n with
  | zero =>
    intro hp x3 x5 h
    cases h
  | succ n ih =>
    intro hp x3 x5 h
    replace h : f_Mo_wage_L34 v1 v2 K (n + 1) hp x3 x5 = some p := h
    unfold f_Mo_wage_L34 at h
    refine R_iload X 3 d_Mo_wage_34 rfl ?_
    refine R_iload_n X 0 d_Mo_wage_36 rfl ?_
    refine R_icmp_ge (tgt := 58) X d_Mo_wage_37 rfl (fun c7 => ?_) (fun c7 => ?_)
    · replace h := (if_pos c7).symm.trans h
      refine V_pc (pc' := 58) rfl (R_loc (L' := [(3, .long x3)]) [2] rfl ?_)
      exact hK hp x3 h
    · replace h := (if_neg c7).symm.trans h
      refine R_lload_n X 2 d_Mo_wage_40 rfl ?_
      refine R_bipush (v := (100 : Int32)) X d_Mo_wage_41 rfl ?_
      refine R_iload_n X 1 d_Mo_wage_43 rfl ?_
      refine R_isub X d_Mo_wage_44 ?_
      refine R_i2l X d_Mo_wage_45 ?_
      refine V_pc (pc' := 46) rfl ?_
      refine R_lmul X d_Mo_wage_46 ?_
      refine R_ldc2 (v := (100 : Int64)) X tw_1007 d_Mo_wage_47 ?_
      refine R_ldiv X d_Mo_wage_50 (by decide) ?_
      refine R_lstore_n (L' := [(3, .long ((x3 * (((100 : Int32) - v2)).toInt64) / (100 : Int64))), (1, .int v1), (2, .int v2), (5, .int x5)]) X d_Mo_wage_51 (by decide) rfl ?_
      refine R_iinc (v := (x5 + 1)) (L' := [(5, .int (x5 + 1)), (3, .long ((x3 * (((100 : Int32) - v2)).toInt64) / (100 : Int64))), (1, .int v1), (2, .int v2)]) X 3 d_Mo_wage_52 rfl rfl (by decide) rfl ?_
      refine R_goto (tgt := 34) X d_Mo_wage_55 rfl ?_
      refine V_pc (pc' := 34) rfl (R_loc (L' := [(1, .int v1), (2, .int v2), (3, .long ((x3 * (((100 : Int32) - v2)).toInt64) / (100 : Int64))), (5, .int (x5 + 1))]) [2, 3, 1, 0] rfl ?_)
      exact ih hp ((x3 * (((100 : Int32) - v2)).toInt64) / (100 : Int64)) (x5 + 1) h
set_option maxRecDepth 20000 in
set_option maxHeartbeats 2000000 in
theorem T_Mo_wage {Z : ZT} (X : CX Z Y_Mo_wage) {hp : HP} {a1 : Int32} {a2 : Int32} {p : Int32 × HP} (h : f_Mo_wage hp a1 a2 = some p) (hR : RetI Z Y_Mo_wage .int p.1 p.2) : V Z Y_Mo_wage hp 0 [(0, .ref (gA (zG Z) 99)), (1, .int a1), (2, .int a2)] [] := by
  unfold f_Mo_wage at h
  refine R_iload_n X 1 d_Mo_wage_0 rfl ?_
  refine R_i2l X d_Mo_wage_1 ?_
  refine R_lconst (v := (0 : Int64)) X d_Mo_wage_2 rfl ?_
  refine R_ldc2 (v := (60 : Int64)) X tw_916 d_Mo_wage_3 ?_
  obtain ⟨p2, e1, h⟩ := ob h
  refine R_scall (As := [.long (a1).toInt64, .long (0 : Int64), .long (60 : Int64)]) (st := []) X (M_Mo_in e1) tw_782 cf_Mo_in rfl rfl rfl d_Mo_wage_6 ?_
  refine V_pc (pc' := 9) rfl ?_
  refine R_ifeq (tgt := 24) X d_Mo_wage_9 rfl (fun c3 => ?_) (fun c3 => ?_)
  · replace h := (if_pos c3).symm.trans h
    refine R_ldc (v := (-1000000002 : Int32)) X tw_785 d_Mo_wage_24 ?_
    exact R_ret hR h d_Mo_wage_26
  · replace h := (if_neg c3).symm.trans h
    refine R_iload_n X 2 d_Mo_wage_12 rfl ?_
    refine R_i2l X d_Mo_wage_13 ?_
    refine R_lconst (v := (0 : Int64)) X d_Mo_wage_14 rfl ?_
    refine R_ldc2 (v := (100 : Int64)) X tw_1007 d_Mo_wage_15 ?_
    obtain ⟨p5, e4, h⟩ := ob h
    refine R_scall (As := [.long (a2).toInt64, .long (0 : Int64), .long (100 : Int64)]) (st := []) X (M_Mo_in e4) tw_782 cf_Mo_in rfl rfl rfl d_Mo_wage_18 ?_
    refine V_pc (pc' := 21) rfl ?_
    refine R_ifne (tgt := 27) X d_Mo_wage_21 rfl (fun c6 => ?_) (fun c6 => ?_)
    · replace h := (if_neg c6).symm.trans h
      refine R_ldc2 (v := (1000000000 : Int64)) X tw_1008 d_Mo_wage_27 ?_
      refine R_lstore_n (L' := [(3, .long (1000000000 : Int64)), (0, .ref (gA (zG Z) 99)), (1, .int a1), (2, .int a2)]) X d_Mo_wage_30 (by decide) rfl ?_
      refine R_iconst (v := (0 : Int32)) X d_Mo_wage_31 rfl ?_
      refine R_istore (L' := [(5, .int (0 : Int32)), (3, .long (1000000000 : Int64)), (0, .ref (gA (zG Z) 99)), (1, .int a1), (2, .int a2)]) X d_Mo_wage_32 (by decide) rfl ?_
      refine V_pc (pc' := 34) rfl (R_loc (L' := [(1, .int a1), (2, .int a2), (3, .long (1000000000 : Int64)), (5, .int (0 : Int32))]) [3, 4, 1, 0] rfl ?_)
      refine T_Mo_wage_L34 X hR (fun hp9 w8 h => ?_) _ p5.2 (1000000000 : Int64) (0 : Int32) h
      refine R_lload_n X 0 d_Mo_wage_58 rfl ?_
      refine R_l2i X d_Mo_wage_59 ?_
      exact R_ret hR h d_Mo_wage_60
    · replace h := (if_pos c6).symm.trans h
      refine R_ldc (v := (-1000000002 : Int32)) X tw_785 d_Mo_wage_24 ?_
      exact R_ret hR h d_Mo_wage_26
theorem M_Mo_wage {G : GT} {hp : HP} {a1 : Int32} {a2 : Int32} {p : Int32 × HP} (h : f_Mo_wage hp a1 a2 = some p) : MI G y_Mo_wage Y_Mo_wage .int [.ref (gA G 99), .int a1, .int a2] hp p.1 p.2 := MI_of rfl (fun Z hz X hR => by subst hz; exact T_Mo_wage X h hR)
theorem d_Mo_see_0 : decode prog_9_method_57_code 0 = .ok (.aload_n 0, 1) := by decide +kernel
theorem d_Mo_see_1 : decode prog_9_method_57_code 1 = .ok (.iload_n 1, 1) := by decide +kernel
theorem d_Mo_see_2 : decode prog_9_method_57_code 2 = .ok (.invokevirtual 186, 3) := by decide +kernel
theorem d_Mo_see_5 : decode prog_9_method_57_code 5 = .ok (.ifCond .ne (6), 3) := by decide +kernel
theorem d_Mo_see_8 : decode prog_9_method_57_code 8 = .ok (.ldc 189, 2) := by decide +kernel
theorem d_Mo_see_10 : decode prog_9_method_57_code 10 = .ok (.ireturn, 1) := by decide +kernel
theorem d_Mo_see_11 : decode prog_9_method_57_code 11 = .ok (.aload_n 0, 1) := by decide +kernel
theorem d_Mo_see_12 : decode prog_9_method_57_code 12 = .ok (.getfield 155, 3) := by decide +kernel
theorem d_Mo_see_15 : decode prog_9_method_57_code 15 = .ok (.bipush (8), 2) := by decide +kernel
theorem d_Mo_see_17 : decode prog_9_method_57_code 17 = .ok (.if_icmp .ne (6), 3) := by decide +kernel
theorem d_Mo_see_20 : decode prog_9_method_57_code 20 = .ok (.ldc 92, 2) := by decide +kernel
theorem d_Mo_see_22 : decode prog_9_method_57_code 22 = .ok (.ireturn, 1) := by decide +kernel
theorem d_Mo_see_23 : decode prog_9_method_57_code 23 = .ok (.aload_n 0, 1) := by decide +kernel
theorem d_Mo_see_24 : decode prog_9_method_57_code 24 = .ok (.getfield 57, 3) := by decide +kernel
theorem d_Mo_see_27 : decode prog_9_method_57_code 27 = .ok (.aload_n 0, 1) := by decide +kernel
theorem d_Mo_see_28 : decode prog_9_method_57_code 28 = .ok (.getfield 155, 3) := by decide +kernel
theorem d_Mo_see_31 : decode prog_9_method_57_code 31 = .ok (.iload_n 1, 1) := by decide +kernel
theorem d_Mo_see_32 : decode prog_9_method_57_code 32 = .ok (.iastore, 1) := by decide +kernel
theorem d_Mo_see_33 : decode prog_9_method_57_code 33 = .ok (.aload_n 0, 1) := by decide +kernel
theorem d_Mo_see_34 : decode prog_9_method_57_code 34 = .ok (.getfield 60, 3) := by decide +kernel
theorem d_Mo_see_37 : decode prog_9_method_57_code 37 = .ok (.aload_n 0, 1) := by decide +kernel
theorem d_Mo_see_38 : decode prog_9_method_57_code 38 = .ok (.getfield 155, 3) := by decide +kernel
theorem d_Mo_see_41 : decode prog_9_method_57_code 41 = .ok (.iload_n 2, 1) := by decide +kernel
theorem d_Mo_see_42 : decode prog_9_method_57_code 42 = .ok (.bastore, 1) := by decide +kernel
theorem d_Mo_see_43 : decode prog_9_method_57_code 43 = .ok (.aload_n 0, 1) := by decide +kernel
theorem d_Mo_see_44 : decode prog_9_method_57_code 44 = .ok (.dup, 1) := by decide +kernel
theorem d_Mo_see_45 : decode prog_9_method_57_code 45 = .ok (.getfield 155, 3) := by decide +kernel
theorem d_Mo_see_48 : decode prog_9_method_57_code 48 = .ok (.iconst 1, 1) := by decide +kernel
theorem d_Mo_see_49 : decode prog_9_method_57_code 49 = .ok (.iadd, 1) := by decide +kernel
theorem d_Mo_see_50 : decode prog_9_method_57_code 50 = .ok (.putfield 155, 3) := by decide +kernel
theorem d_Mo_see_53 : decode prog_9_method_57_code 53 = .ok (.aload_n 0, 1) := by decide +kernel
theorem d_Mo_see_54 : decode prog_9_method_57_code 54 = .ok (.getfield 155, 3) := by decide +kernel
theorem d_Mo_see_57 : decode prog_9_method_57_code 57 = .ok (.ireturn, 1) := by decide +kernel
set_option maxRecDepth 20000 in
set_option maxHeartbeats 2000000 in
theorem T_Mo_see {Z : ZT} (X : CX Z Y_Mo_see) {hp : HP} {a1 : Int32} {a2 : Int32} {p : Int32 × HP} (h : f_Mo_see hp a1 a2 = some p) (hR : RetI Z Y_Mo_see .int p.1 p.2) : V Z Y_Mo_see hp 0 [(0, .ref (gA (zG Z) 99)), (1, .int a1), (2, .int a2)] [] := by
  unfold f_Mo_see at h
  refine R_aload_n X 0 d_Mo_see_0 rfl ?_
  refine R_iload_n X 1 d_Mo_see_1 rfl ?_
  obtain ⟨p2, e1, h⟩ := ob h
  refine R_vcall (ci := 7) (k := 99) (As := [.int a1]) (st := []) X (M_Mo_isPart e1) tw_869 cf_Mo_isPart (of_decide_eq_true rfl) rfl rfl rfl rfl rfl d_Mo_see_2 ?_
  refine R_ifne (tgt := 11) X d_Mo_see_5 rfl (fun c3 => ?_) (fun c3 => ?_)
  · replace h := (if_neg c3).symm.trans h
    refine R_aload_n X 0 d_Mo_see_11 rfl ?_
    refine R_getI (ci := 7) X rfl iMo_ok (of_decide_eq_true rfl) rfl 29 rfl rfl tw_700 d_Mo_see_12 ?_
    refine R_bipush (v := (8 : Int32)) X d_Mo_see_15 rfl ?_
    refine R_icmp_ne (tgt := 23) X d_Mo_see_17 rfl (fun c4 => ?_) (fun c4 => ?_)
    · replace h := (if_neg c4).symm.trans h
      refine R_aload_n X 0 d_Mo_see_23 rfl ?_
      refine R_getR (ci := 7) X rfl iMo_ok (of_decide_eq_true rfl) rfl 30 rfl rfl tw_701 d_Mo_see_24 ?_
      refine R_aload_n X 0 d_Mo_see_27 rfl ?_
      refine R_getI (ci := 7) X rfl iMo_ok (of_decide_eq_true rfl) rfl 29 rfl rfl tw_700 d_Mo_see_28 ?_
      refine R_iload_n X 1 d_Mo_see_31 rfl ?_
      refine V_pc (pc' := 32) rfl ?_
      obtain ⟨i5, h⟩ := ck h
      refine R_iast (n := 8) X (of_decide_eq_true rfl) rfl i5 d_Mo_see_32 ?_
      refine R_aload_n X 0 d_Mo_see_33 rfl ?_
      refine R_getR (ci := 7) X rfl iMo_ok (of_decide_eq_true rfl) rfl 31 rfl rfl tw_702 d_Mo_see_34 ?_
      refine R_aload_n X 0 d_Mo_see_37 rfl ?_
      refine R_getI (ci := 7) X rfl iMo_ok (of_decide_eq_true rfl) rfl 29 rfl rfl tw_700 d_Mo_see_38 ?_
      refine R_iload_n X 2 d_Mo_see_41 rfl ?_
      refine V_pc (pc' := 42) rfl ?_
      obtain ⟨i6, h⟩ := ck h
      refine R_zast (n := 8) X (of_decide_eq_true rfl) rfl i6 d_Mo_see_42 ?_
      refine R_aload_n X 0 d_Mo_see_43 rfl ?_
      refine R_dup X d_Mo_see_44 rfl ?_
      refine R_getI (ci := 7) X rfl iMo_ok (of_decide_eq_true rfl) rfl 29 rfl rfl tw_700 d_Mo_see_45 ?_
      refine R_iconst (v := (1 : Int32)) X d_Mo_see_48 rfl ?_
      refine R_iadd X d_Mo_see_49 ?_
      refine V_pc (pc' := 50) rfl ?_
      refine R_putI (ci := 7) X rfl iMo_ok yMo_ok nMo_ok (of_decide_eq_true rfl) rfl 29 rfl rfl rfl rfl tw_700 d_Mo_see_50 ?_
      refine R_aload_n X 0 d_Mo_see_53 rfl ?_
      refine R_getI (ci := 7) X rfl iMo_ok (of_decide_eq_true rfl) rfl 29 rfl rfl tw_700 d_Mo_see_54 ?_
      exact R_ret hR h d_Mo_see_57
    · replace h := (if_pos c4).symm.trans h
      refine R_ldc (v := (-1000000004 : Int32)) X tw_786 d_Mo_see_20 ?_
      exact R_ret hR h d_Mo_see_22
  · replace h := (if_pos c3).symm.trans h
    refine R_ldc (v := (-1000000001 : Int32)) X tw_873 d_Mo_see_8 ?_
    exact R_ret hR h d_Mo_see_10
theorem M_Mo_see {G : GT} {hp : HP} {a1 : Int32} {a2 : Int32} {p : Int32 × HP} (h : f_Mo_see hp a1 a2 = some p) : MI G y_Mo_see Y_Mo_see .int [.ref (gA G 99), .int a1, .int a2] hp p.1 p.2 := MI_of rfl (fun Z hz X hR => by subst hz; exact T_Mo_see X h hR)
theorem d_Mo_isSeen_0 : decode prog_9_method_58_code 0 = .ok (.iconst 1, 1) := by decide +kernel
theorem d_Mo_isSeen_1 : decode prog_9_method_58_code 1 = .ok (.istore_n 2, 1) := by decide +kernel
theorem d_Mo_isSeen_2 : decode prog_9_method_58_code 2 = .ok (.iconst 0, 1) := by decide +kernel
theorem d_Mo_isSeen_3 : decode prog_9_method_58_code 3 = .ok (.istore_n 3, 1) := by decide +kernel
theorem d_Mo_isSeen_4 : decode prog_9_method_58_code 4 = .ok (.iload_n 3, 1) := by decide +kernel
theorem d_Mo_isSeen_5 : decode prog_9_method_58_code 5 = .ok (.aload_n 0, 1) := by decide +kernel
theorem d_Mo_isSeen_6 : decode prog_9_method_58_code 6 = .ok (.getfield 155, 3) := by decide +kernel
theorem d_Mo_isSeen_9 : decode prog_9_method_58_code 9 = .ok (.if_icmp .ge (52), 3) := by decide +kernel
theorem d_Mo_isSeen_12 : decode prog_9_method_58_code 12 = .ok (.iload_n 2, 1) := by decide +kernel
theorem d_Mo_isSeen_13 : decode prog_9_method_58_code 13 = .ok (.ifCond .eq (40), 3) := by decide +kernel
theorem d_Mo_isSeen_16 : decode prog_9_method_58_code 16 = .ok (.aload_n 0, 1) := by decide +kernel
theorem d_Mo_isSeen_17 : decode prog_9_method_58_code 17 = .ok (.getfield 17, 3) := by decide +kernel
theorem d_Mo_isSeen_20 : decode prog_9_method_58_code 20 = .ok (.aload_n 0, 1) := by decide +kernel
theorem d_Mo_isSeen_21 : decode prog_9_method_58_code 21 = .ok (.getfield 57, 3) := by decide +kernel
theorem d_Mo_isSeen_24 : decode prog_9_method_58_code 24 = .ok (.iload_n 3, 1) := by decide +kernel
theorem d_Mo_isSeen_25 : decode prog_9_method_58_code 25 = .ok (.iaload, 1) := by decide +kernel
theorem d_Mo_isSeen_26 : decode prog_9_method_58_code 26 = .ok (.iaload, 1) := by decide +kernel
theorem d_Mo_isSeen_27 : decode prog_9_method_58_code 27 = .ok (.sipush (500), 3) := by decide +kernel
theorem d_Mo_isSeen_30 : decode prog_9_method_58_code 30 = .ok (.isub, 1) := by decide +kernel
theorem d_Mo_isSeen_31 : decode prog_9_method_58_code 31 = .ok (.iload_n 1, 1) := by decide +kernel
theorem d_Mo_isSeen_32 : decode prog_9_method_58_code 32 = .ok (.if_icmp .gt (7), 3) := by decide +kernel
theorem d_Mo_isSeen_35 : decode prog_9_method_58_code 35 = .ok (.iconst 1, 1) := by decide +kernel
theorem d_Mo_isSeen_36 : decode prog_9_method_58_code 36 = .ok (.goto (4), 3) := by decide +kernel
theorem d_Mo_isSeen_39 : decode prog_9_method_58_code 39 = .ok (.iconst 0, 1) := by decide +kernel
theorem d_Mo_isSeen_40 : decode prog_9_method_58_code 40 = .ok (.aload_n 0, 1) := by decide +kernel
theorem d_Mo_isSeen_41 : decode prog_9_method_58_code 41 = .ok (.getfield 60, 3) := by decide +kernel
theorem d_Mo_isSeen_44 : decode prog_9_method_58_code 44 = .ok (.iload_n 3, 1) := by decide +kernel
theorem d_Mo_isSeen_45 : decode prog_9_method_58_code 45 = .ok (.baload, 1) := by decide +kernel
theorem d_Mo_isSeen_46 : decode prog_9_method_58_code 46 = .ok (.if_icmp .ne (7), 3) := by decide +kernel
theorem d_Mo_isSeen_49 : decode prog_9_method_58_code 49 = .ok (.iconst 1, 1) := by decide +kernel
theorem d_Mo_isSeen_50 : decode prog_9_method_58_code 50 = .ok (.goto (4), 3) := by decide +kernel
theorem d_Mo_isSeen_53 : decode prog_9_method_58_code 53 = .ok (.iconst 0, 1) := by decide +kernel
theorem d_Mo_isSeen_54 : decode prog_9_method_58_code 54 = .ok (.istore_n 2, 1) := by decide +kernel
theorem d_Mo_isSeen_55 : decode prog_9_method_58_code 55 = .ok (.iinc 3 (1), 3) := by decide +kernel
theorem d_Mo_isSeen_58 : decode prog_9_method_58_code 58 = .ok (.goto (-54), 3) := by decide +kernel
theorem d_Mo_isSeen_61 : decode prog_9_method_58_code 61 = .ok (.iload_n 2, 1) := by decide +kernel
theorem d_Mo_isSeen_62 : decode prog_9_method_58_code 62 = .ok (.ireturn, 1) := by decide +kernel
set_option maxRecDepth 20000 in
set_option maxHeartbeats 2000000 in
theorem T_Mo_isSeen_L4 {Z : ZT} (X : CX Z Y_Mo_isSeen) {v1 : Int32} {p : Int32 × HP} (hR : RetI Z Y_Mo_isSeen .boolean p.1 p.2) {K : HP → Int32 → Option (Int32 × HP)} (hK : ∀ (hp : HP) (x2 : Int32), K hp x2 = some p → V Z Y_Mo_isSeen hp 61 [(2, .int x2)] []) : ∀ (n : Nat) (hp : HP) (x2 : Int32) (x3 : Int32), f_Mo_isSeen_L4 v1 K n hp x2 x3 = some p → V Z Y_Mo_isSeen hp 4 [(0, .ref (gA (zG Z) 99)), (1, .int v1), (2, .int x2), (3, .int x3)] [] := by
  intro n
  induction n with
  | zero =>
    intro hp x2 x3 h
    cases h
  | succ n ih =>
    intro hp x2 x3 h
    replace h : f_Mo_isSeen_L4 v1 K (n + 1) hp x2 x3 = some p := h
    unfold f_Mo_isSeen_L4 at h
    refine R_iload_n X 3 d_Mo_isSeen_4 rfl ?_
    refine R_aload_n X 0 d_Mo_isSeen_5 rfl ?_
    refine R_getI (ci := 7) X rfl iMo_ok (of_decide_eq_true rfl) rfl 29 rfl rfl tw_700 d_Mo_isSeen_6 ?_
    refine R_icmp_ge (tgt := 61) X d_Mo_isSeen_9 rfl (fun c1 => ?_) (fun c1 => ?_)
    · replace h := (if_pos c1).symm.trans h
      refine V_pc (pc' := 61) rfl (R_loc (L' := [(2, .int x2)]) [2] rfl ?_)
      exact hK hp x2 h
    · replace h := (if_neg c1).symm.trans h
      refine R_iload_n X 2 d_Mo_isSeen_12 rfl ?_
      refine R_ifeq (tgt := 53) X d_Mo_isSeen_13 rfl (fun c2 => ?_) (fun c2 => ?_)
      · replace h := (if_pos c2).symm.trans h
        refine R_iconst (v := (0 : Int32)) X d_Mo_isSeen_53 rfl ?_
        refine R_istore_n (L' := [(2, .int (0 : Int32)), (0, .ref (gA (zG Z) 99)), (1, .int v1), (3, .int x3)]) X d_Mo_isSeen_54 (by decide) rfl ?_
        refine R_iinc (v := (x3 + 1)) (L' := [(3, .int (x3 + 1)), (2, .int (0 : Int32)), (0, .ref (gA (zG Z) 99)), (1, .int v1)]) X 3 d_Mo_isSeen_55 rfl rfl (by decide) rfl ?_
        refine R_goto (tgt := 4) X d_Mo_isSeen_58 rfl ?_
        refine V_pc (pc' := 4) rfl (R_loc (L' := [(0, .ref (gA (zG Z) 99)), (1, .int v1), (2, .int (0 : Int32)), (3, .int (x3 + 1))]) [2, 3, 1, 0] rfl ?_)
        exact ih hp (0 : Int32) (x3 + 1) h
      · replace h := (if_neg c2).symm.trans h
        refine R_aload_n X 0 d_Mo_isSeen_16 rfl ?_
        refine R_getR (ci := 7) X rfl iMo_ok (of_decide_eq_true rfl) rfl 4 rfl rfl tw_675 d_Mo_isSeen_17 ?_
        refine R_aload_n X 0 d_Mo_isSeen_20 rfl ?_
        refine R_getR (ci := 7) X rfl iMo_ok (of_decide_eq_true rfl) rfl 30 rfl rfl tw_701 d_Mo_isSeen_21 ?_
        refine R_iload_n X 3 d_Mo_isSeen_24 rfl ?_
        refine V_pc (pc' := 25) rfl ?_
        obtain ⟨i3, h⟩ := ck h
        refine R_iald (n := 8) X (of_decide_eq_true rfl) rfl i3 d_Mo_isSeen_25 ?_
        obtain ⟨i4, h⟩ := ck h
        refine R_iald (n := 8) X (of_decide_eq_true rfl) rfl i4 d_Mo_isSeen_26 ?_
        refine R_sipush (v := (500 : Int32)) X d_Mo_isSeen_27 rfl ?_
        refine R_isub X d_Mo_isSeen_30 ?_
        refine R_iload_n X 1 d_Mo_isSeen_31 rfl ?_
        refine R_icmp_gt (tgt := 39) X d_Mo_isSeen_32 rfl (fun c5 => ?_) (fun c5 => ?_)
        · replace h := (if_pos c5).symm.trans h
          refine R_iconst (v := (0 : Int32)) X d_Mo_isSeen_39 rfl ?_
          refine R_aload_n X 0 d_Mo_isSeen_40 rfl ?_
          refine R_getR (ci := 7) X rfl iMo_ok (of_decide_eq_true rfl) rfl 31 rfl rfl tw_702 d_Mo_isSeen_41 ?_
          refine R_iload_n X 3 d_Mo_isSeen_44 rfl ?_
          refine R_zald (n := 8) X (of_decide_eq_true rfl) rfl i3 d_Mo_isSeen_45 ?_
          refine V_pc (pc' := 46) rfl ?_
          refine R_icmp_ne (tgt := 53) X d_Mo_isSeen_46 rfl (fun c6 => ?_) (fun c6 => ?_)
          · replace h := (if_neg c6).symm.trans h
            refine R_iconst (v := (0 : Int32)) X d_Mo_isSeen_53 rfl ?_
            refine R_istore_n (L' := [(2, .int (0 : Int32)), (0, .ref (gA (zG Z) 99)), (1, .int v1), (3, .int x3)]) X d_Mo_isSeen_54 (by decide) rfl ?_
            refine R_iinc (v := (x3 + 1)) (L' := [(3, .int (x3 + 1)), (2, .int (0 : Int32)), (0, .ref (gA (zG Z) 99)), (1, .int v1)]) X 3 d_Mo_isSeen_55 rfl rfl (by decide) rfl ?_
            refine R_goto (tgt := 4) X d_Mo_isSeen_58 rfl ?_
            refine V_pc (pc' := 4) rfl (R_loc (L' := [(0, .ref (gA (zG Z) 99)), (1, .int v1), (2, .int (0 : Int32)), (3, .int (x3 + 1))]) [2, 3, 1, 0] rfl ?_)
            exact ih hp (0 : Int32) (x3 + 1) h
          · replace h := (if_pos c6).symm.trans h
            refine R_iconst (v := (1 : Int32)) X d_Mo_isSeen_49 rfl ?_
            refine R_goto (tgt := 54) X d_Mo_isSeen_50 rfl ?_
            refine R_istore_n (L' := [(2, .int (1 : Int32)), (0, .ref (gA (zG Z) 99)), (1, .int v1), (3, .int x3)]) X d_Mo_isSeen_54 (by decide) rfl ?_
            refine R_iinc (v := (x3 + 1)) (L' := [(3, .int (x3 + 1)), (2, .int (1 : Int32)), (0, .ref (gA (zG Z) 99)), (1, .int v1)]) X 3 d_Mo_isSeen_55 rfl rfl (by decide) rfl ?_
            refine R_goto (tgt := 4) X d_Mo_isSeen_58 rfl ?_
            refine V_pc (pc' := 4) rfl (R_loc (L' := [(0, .ref (gA (zG Z) 99)), (1, .int v1), (2, .int (1 : Int32)), (3, .int (x3 + 1))]) [2, 3, 1, 0] rfl ?_)
            exact ih hp (1 : Int32) (x3 + 1) h
        · replace h := (if_neg c5).symm.trans h
          refine R_iconst (v := (1 : Int32)) X d_Mo_isSeen_35 rfl ?_
          refine R_goto (tgt := 40) X d_Mo_isSeen_36 rfl ?_
          refine R_aload_n X 0 d_Mo_isSeen_40 rfl ?_
          refine R_getR (ci := 7) X rfl iMo_ok (of_decide_eq_true rfl) rfl 31 rfl rfl tw_702 d_Mo_isSeen_41 ?_
          refine R_iload_n X 3 d_Mo_isSeen_44 rfl ?_
          refine V_pc (pc' := 45) rfl ?_
          refine R_zald (n := 8) X (of_decide_eq_true rfl) rfl i3 d_Mo_isSeen_45 ?_
          refine R_icmp_ne (tgt := 53) X d_Mo_isSeen_46 rfl (fun c7 => ?_) (fun c7 => ?_)
          · replace h := (if_neg c7).symm.trans h
            refine R_iconst (v := (0 : Int32)) X d_Mo_isSeen_53 rfl ?_
            refine R_istore_n (L' := [(2, .int (0 : Int32)), (0, .ref (gA (zG Z) 99)), (1, .int v1), (3, .int x3)]) X d_Mo_isSeen_54 (by decide) rfl ?_
            refine R_iinc (v := (x3 + 1)) (L' := [(3, .int (x3 + 1)), (2, .int (0 : Int32)), (0, .ref (gA (zG Z) 99)), (1, .int v1)]) X 3 d_Mo_isSeen_55 rfl rfl (by decide) rfl ?_
            refine R_goto (tgt := 4) X d_Mo_isSeen_58 rfl ?_
            refine V_pc (pc' := 4) rfl (R_loc (L' := [(0, .ref (gA (zG Z) 99)), (1, .int v1), (2, .int (0 : Int32)), (3, .int (x3 + 1))]) [2, 3, 1, 0] rfl ?_)
            exact ih hp (0 : Int32) (x3 + 1) h
          · replace h := (if_pos c7).symm.trans h
            refine R_iconst (v := (1 : Int32)) X d_Mo_isSeen_49 rfl ?_
            refine R_goto (tgt := 54) X d_Mo_isSeen_50 rfl ?_
            refine R_istore_n (L' := [(2, .int (1 : Int32)), (0, .ref (gA (zG Z) 99)), (1, .int v1), (3, .int x3)]) X d_Mo_isSeen_54 (by decide) rfl ?_
            refine R_iinc (v := (x3 + 1)) (L' := [(3, .int (x3 + 1)), (2, .int (1 : Int32)), (0, .ref (gA (zG Z) 99)), (1, .int v1)]) X 3 d_Mo_isSeen_55 rfl rfl (by decide) rfl ?_
            refine R_goto (tgt := 4) X d_Mo_isSeen_58 rfl ?_
            refine V_pc (pc' := 4) rfl (R_loc (L' := [(0, .ref (gA (zG Z) 99)), (1, .int v1), (2, .int (1 : Int32)), (3, .int (x3 + 1))]) [2, 3, 1, 0] rfl ?_)
            exact ih hp (1 : Int32) (x3 + 1) h
set_option maxRecDepth 20000 in
set_option maxHeartbeats 2000000 in
theorem T_Mo_isSeen {Z : ZT} (X : CX Z Y_Mo_isSeen) {hp : HP} {a1 : Int32} {p : Int32 × HP} (h : f_Mo_isSeen hp a1 = some p) (hR : RetI Z Y_Mo_isSeen .boolean p.1 p.2) : V Z Y_Mo_isSeen hp 0 [(0, .ref (gA (zG Z) 99)), (1, .int a1)] [] := by
  unfold f_Mo_isSeen at h
  refine R_iconst (v := (1 : Int32)) X d_Mo_isSeen_0 rfl ?_
  refine R_istore_n (L' := [(2, .int (1 : Int32)), (0, .ref (gA (zG Z) 99)), (1, .int a1)]) X d_Mo_isSeen_1 (by decide) rfl ?_
  refine R_iconst (v := (0 : Int32)) X d_Mo_isSeen_2 rfl ?_
  refine R_istore_n (L' := [(3, .int (0 : Int32)), (2, .int (1 : Int32)), (0, .ref (gA (zG Z) 99)), (1, .int a1)]) X d_Mo_isSeen_3 (by decide) rfl ?_
  refine V_pc (pc' := 4) rfl (R_loc (L' := [(0, .ref (gA (zG Z) 99)), (1, .int a1), (2, .int (1 : Int32)), (3, .int (0 : Int32))]) [2, 3, 1, 0] rfl ?_)
  refine T_Mo_isSeen_L4 X hR (fun hp9 w8 h => ?_) _ hp (1 : Int32) (0 : Int32) h
  refine R_iload_n X 0 d_Mo_isSeen_61 rfl ?_
  exact R_retz hR h d_Mo_isSeen_62
theorem M_Mo_isSeen {G : GT} {hp : HP} {a1 : Int32} {p : Int32 × HP} (h : f_Mo_isSeen hp a1 = some p) : MI G y_Mo_isSeen Y_Mo_isSeen .boolean [.ref (gA G 99), .int a1] hp p.1 p.2 := MI_of rfl (fun Z hz X hR => by subst hz; exact T_Mo_isSeen X h hR)
theorem d_Mo_has_0 : decode prog_9_method_59_code 0 = .ok (.iload_n 1, 1) := by decide +kernel
theorem d_Mo_has_1 : decode prog_9_method_59_code 1 = .ok (.i2l, 1) := by decide +kernel
theorem d_Mo_has_2 : decode prog_9_method_59_code 2 = .ok (.lconst 0, 1) := by decide +kernel
theorem d_Mo_has_3 : decode prog_9_method_59_code 3 = .ok (.ldc2_w 251, 3) := by decide +kernel
theorem d_Mo_has_6 : decode prog_9_method_59_code 6 = .ok (.invokestatic 72, 3) := by decide +kernel
theorem d_Mo_has_9 : decode prog_9_method_59_code 9 = .ok (.ifCond .ne (6), 3) := by decide +kernel
theorem d_Mo_has_12 : decode prog_9_method_59_code 12 = .ok (.ldc 88, 2) := by decide +kernel
theorem d_Mo_has_14 : decode prog_9_method_59_code 14 = .ok (.ireturn, 1) := by decide +kernel
theorem d_Mo_has_15 : decode prog_9_method_59_code 15 = .ok (.iconst 0, 1) := by decide +kernel
theorem d_Mo_has_16 : decode prog_9_method_59_code 16 = .ok (.istore_n 2, 1) := by decide +kernel
theorem d_Mo_has_17 : decode prog_9_method_59_code 17 = .ok (.iconst (-1), 1) := by decide +kernel
theorem d_Mo_has_18 : decode prog_9_method_59_code 18 = .ok (.istore_n 3, 1) := by decide +kernel
theorem d_Mo_has_19 : decode prog_9_method_59_code 19 = .ok (.iconst (-1), 1) := by decide +kernel
theorem d_Mo_has_20 : decode prog_9_method_59_code 20 = .ok (.istore 4, 2) := by decide +kernel
theorem d_Mo_has_22 : decode prog_9_method_59_code 22 = .ok (.sipush (-500), 3) := by decide +kernel
theorem d_Mo_has_25 : decode prog_9_method_59_code 25 = .ok (.istore 5, 2) := by decide +kernel
theorem d_Mo_has_27 : decode prog_9_method_59_code 27 = .ok (.iload 5, 2) := by decide +kernel
theorem d_Mo_has_29 : decode prog_9_method_59_code 29 = .ok (.sipush (500), 3) := by decide +kernel
theorem d_Mo_has_32 : decode prog_9_method_59_code 32 = .ok (.if_icmp .ge (44), 3) := by decide +kernel
theorem d_Mo_has_35 : decode prog_9_method_59_code 35 = .ok (.aload_n 0, 1) := by decide +kernel
theorem d_Mo_has_36 : decode prog_9_method_59_code 36 = .ok (.iload 5, 2) := by decide +kernel
theorem d_Mo_has_38 : decode prog_9_method_59_code 38 = .ok (.invokevirtual 253, 3) := by decide +kernel
theorem d_Mo_has_41 : decode prog_9_method_59_code 41 = .ok (.ifCond .eq (29), 3) := by decide +kernel
theorem d_Mo_has_44 : decode prog_9_method_59_code 44 = .ok (.iload_n 2, 1) := by decide +kernel
theorem d_Mo_has_45 : decode prog_9_method_59_code 45 = .ok (.ifCond .ne (12), 3) := by decide +kernel
theorem d_Mo_has_48 : decode prog_9_method_59_code 48 = .ok (.iload 5, 2) := by decide +kernel
theorem d_Mo_has_50 : decode prog_9_method_59_code 50 = .ok (.sipush (10000), 3) := by decide +kernel
theorem d_Mo_has_53 : decode prog_9_method_59_code 53 = .ok (.iadd, 1) := by decide +kernel
theorem d_Mo_has_54 : decode prog_9_method_59_code 54 = .ok (.goto (4), 3) := by decide +kernel
theorem d_Mo_has_57 : decode prog_9_method_59_code 57 = .ok (.iload_n 3, 1) := by decide +kernel
theorem d_Mo_has_58 : decode prog_9_method_59_code 58 = .ok (.istore_n 3, 1) := by decide +kernel
theorem d_Mo_has_59 : decode prog_9_method_59_code 59 = .ok (.iload 5, 2) := by decide +kernel
theorem d_Mo_has_61 : decode prog_9_method_59_code 61 = .ok (.sipush (10000), 3) := by decide +kernel
theorem d_Mo_has_64 : decode prog_9_method_59_code 64 = .ok (.iadd, 1) := by decide +kernel
theorem d_Mo_has_65 : decode prog_9_method_59_code 65 = .ok (.istore 4, 2) := by decide +kernel
theorem d_Mo_has_67 : decode prog_9_method_59_code 67 = .ok (.iinc 2 (1), 3) := by decide +kernel
theorem d_Mo_has_70 : decode prog_9_method_59_code 70 = .ok (.iinc 5 (1), 3) := by decide +kernel
theorem d_Mo_has_73 : decode prog_9_method_59_code 73 = .ok (.goto (-46), 3) := by decide +kernel
theorem d_Mo_has_76 : decode prog_9_method_59_code 76 = .ok (.iload_n 1, 1) := by decide +kernel
theorem d_Mo_has_77 : decode prog_9_method_59_code 77 = .ok (.ifCond .ne (7), 3) := by decide +kernel
theorem d_Mo_has_80 : decode prog_9_method_59_code 80 = .ok (.iload_n 2, 1) := by decide +kernel
theorem d_Mo_has_81 : decode prog_9_method_59_code 81 = .ok (.goto (14), 3) := by decide +kernel
theorem d_Mo_has_84 : decode prog_9_method_59_code 84 = .ok (.iload_n 1, 1) := by decide +kernel
theorem d_Mo_has_85 : decode prog_9_method_59_code 85 = .ok (.iconst 1, 1) := by decide +kernel
theorem d_Mo_has_86 : decode prog_9_method_59_code 86 = .ok (.if_icmp .ne (7), 3) := by decide +kernel
theorem d_Mo_has_89 : decode prog_9_method_59_code 89 = .ok (.iload_n 3, 1) := by decide +kernel
theorem d_Mo_has_90 : decode prog_9_method_59_code 90 = .ok (.goto (5), 3) := by decide +kernel
theorem d_Mo_has_93 : decode prog_9_method_59_code 93 = .ok (.iload 4, 2) := by decide +kernel
theorem d_Mo_has_95 : decode prog_9_method_59_code 95 = .ok (.ireturn, 1) := by decide +kernel
set_option maxRecDepth 20000 in
set_option maxHeartbeats 2000000 in
theorem T_Mo_has_L27 {Z : ZT} (X : CX Z Y_Mo_has) {v1 : Int32} {p : Int32 × HP} (hR : RetI Z Y_Mo_has .int p.1 p.2) {K : HP → Int32 → Int32 → Int32 → Option (Int32 × HP)} (hK : ∀ (hp : HP) (x2 : Int32) (x3 : Int32) (x4 : Int32), K hp x2 x3 x4 = some p → V Z Y_Mo_has hp 76 [(1, .int v1), (2, .int x2), (3, .int x3), (4, .int x4)] []) : ∀ (n : Nat) (hp : HP) (x2 : Int32) (x3 : Int32) (x4 : Int32) (x5 : Int32), f_Mo_has_L27 v1 K n hp x2 x3 x4 x5 = some p → V Z Y_Mo_has hp 27 [(0, .ref (gA (zG Z) 99)), (1, .int v1), (2, .int x2), (3, .int x3), (4, .int x4), (5, .int x5)] [] := by
  intro n
  induction n with
  | zero =>
    intro hp x2 x3 x4 x5 h
    cases h
  | succ n ih =>
    intro hp x2 x3 x4 x5 h
    replace h : f_Mo_has_L27 v1 K (n + 1) hp x2 x3 x4 x5 = some p := h
    unfold f_Mo_has_L27 at h
    refine R_iload X 5 d_Mo_has_27 rfl ?_
    refine R_sipush (v := (500 : Int32)) X d_Mo_has_29 rfl ?_
    refine R_icmp_ge (tgt := 76) X d_Mo_has_32 rfl (fun c4 => ?_) (fun c4 => ?_)
    · replace h := (if_pos c4).symm.trans h
      refine V_pc (pc' := 76) rfl (R_loc (L' := [(1, .int v1), (2, .int x2), (3, .int x3), (4, .int x4)]) [1, 2, 3, 4] rfl ?_)
      exact hK hp x2 x3 x4 h
    · replace h := (if_neg c4).symm.trans h
      refine R_aload_n X 0 d_Mo_has_35 rfl ?_
      refine R_iload X 5 d_Mo_has_36 rfl ?_
      obtain ⟨p6, e5, h⟩ := ob h
      refine R_vcall (ci := 7) (k := 99) (As := [.int x5]) (st := []) X (M_Mo_isSeen e5) tw_1018 cf_Mo_isSeen (of_decide_eq_true rfl) rfl rfl rfl rfl rfl d_Mo_has_38 ?_
      refine R_ifeq (tgt := 70) X d_Mo_has_41 rfl (fun c7 => ?_) (fun c7 => ?_)
      · replace h := (if_pos c7).symm.trans h
        refine R_iinc (v := (x5 + 1)) (L' := [(5, .int (x5 + 1)), (0, .ref (gA (zG Z) 99)), (1, .int v1), (2, .int x2), (3, .int x3), (4, .int x4)]) X 5 d_Mo_has_70 rfl rfl (by decide) rfl ?_
        refine R_goto (tgt := 27) X d_Mo_has_73 rfl ?_
        refine V_pc (pc' := 27) rfl (R_loc (L' := [(0, .ref (gA (zG Z) 99)), (1, .int v1), (2, .int x2), (3, .int x3), (4, .int x4), (5, .int (x5 + 1))]) [1, 2, 3, 4, 5, 0] rfl ?_)
        exact ih p6.2 x2 x3 x4 (x5 + 1) h
      · replace h := (if_neg c7).symm.trans h
        refine R_iload_n X 2 d_Mo_has_44 rfl ?_
        refine R_ifne (tgt := 57) X d_Mo_has_45 rfl (fun c8 => ?_) (fun c8 => ?_)
        · replace h := (if_neg c8).symm.trans h
          refine R_iload_n X 3 d_Mo_has_57 rfl ?_
          refine R_istore_n (L' := [(3, .int x3), (0, .ref (gA (zG Z) 99)), (1, .int v1), (2, .int x2), (4, .int x4), (5, .int x5)]) X d_Mo_has_58 (by decide) rfl ?_
          refine R_iload X 5 d_Mo_has_59 rfl ?_
          refine R_sipush (v := (10000 : Int32)) X d_Mo_has_61 rfl ?_
          refine R_iadd X d_Mo_has_64 ?_
          refine V_pc (pc' := 65) rfl ?_
          refine R_istore (L' := [(4, .int (x5 + (10000 : Int32))), (3, .int x3), (0, .ref (gA (zG Z) 99)), (1, .int v1), (2, .int x2), (5, .int x5)]) X d_Mo_has_65 (by decide) rfl ?_
          refine R_iinc (v := (x2 + 1)) (L' := [(2, .int (x2 + 1)), (4, .int (x5 + (10000 : Int32))), (3, .int x3), (0, .ref (gA (zG Z) 99)), (1, .int v1), (5, .int x5)]) X 4 d_Mo_has_67 rfl rfl (by decide) rfl ?_
          refine R_iinc (v := (x5 + 1)) (L' := [(5, .int (x5 + 1)), (2, .int (x2 + 1)), (4, .int (x5 + (10000 : Int32))), (3, .int x3), (0, .ref (gA (zG Z) 99)), (1, .int v1)]) X 5 d_Mo_has_70 rfl rfl (by decide) rfl ?_
          refine R_goto (tgt := 27) X d_Mo_has_73 rfl ?_
          refine V_pc (pc' := 27) rfl (R_loc (L' := [(0, .ref (gA (zG Z) 99)), (1, .int v1), (2, .int (x2 + 1)), (3, .int x3), (4, .int (x5 + (10000 : Int32))), (5, .int (x5 + 1))]) [4, 5, 1, 3, 2, 0] rfl ?_)
          exact ih p6.2 (x2 + 1) x3 (x5 + (10000 : Int32)) (x5 + 1) h
        · replace h := (if_pos c8).symm.trans h
          refine R_iload X 5 d_Mo_has_48 rfl ?_
          refine R_sipush (v := (10000 : Int32)) X d_Mo_has_50 rfl ?_
          refine R_iadd X d_Mo_has_53 ?_
          refine R_goto (tgt := 58) X d_Mo_has_54 rfl ?_
          refine R_istore_n (L' := [(3, .int (x5 + (10000 : Int32))), (0, .ref (gA (zG Z) 99)), (1, .int v1), (2, .int x2), (4, .int x4), (5, .int x5)]) X d_Mo_has_58 (by decide) rfl ?_
          refine V_pc (pc' := 59) rfl ?_
          refine R_iload X 5 d_Mo_has_59 rfl ?_
          refine R_sipush (v := (10000 : Int32)) X d_Mo_has_61 rfl ?_
          refine R_iadd X d_Mo_has_64 ?_
          refine R_istore (L' := [(4, .int (x5 + (10000 : Int32))), (3, .int (x5 + (10000 : Int32))), (0, .ref (gA (zG Z) 99)), (1, .int v1), (2, .int x2), (5, .int x5)]) X d_Mo_has_65 (by decide) rfl ?_
          refine R_iinc (v := (x2 + 1)) (L' := [(2, .int (x2 + 1)), (4, .int (x5 + (10000 : Int32))), (3, .int (x5 + (10000 : Int32))), (0, .ref (gA (zG Z) 99)), (1, .int v1), (5, .int x5)]) X 4 d_Mo_has_67 rfl rfl (by decide) rfl ?_
          refine R_iinc (v := (x5 + 1)) (L' := [(5, .int (x5 + 1)), (2, .int (x2 + 1)), (4, .int (x5 + (10000 : Int32))), (3, .int (x5 + (10000 : Int32))), (0, .ref (gA (zG Z) 99)), (1, .int v1)]) X 5 d_Mo_has_70 rfl rfl (by decide) rfl ?_
          refine V_pc (pc' := 73) rfl ?_
          refine R_goto (tgt := 27) X d_Mo_has_73 rfl ?_
          refine V_pc (pc' := 27) rfl (R_loc (L' := [(0, .ref (gA (zG Z) 99)), (1, .int v1), (2, .int (x2 + 1)), (3, .int (x5 + (10000 : Int32))), (4, .int (x5 + (10000 : Int32))), (5, .int (x5 + 1))]) [4, 5, 1, 3, 2, 0] rfl ?_)
          exact ih p6.2 (x2 + 1) (x5 + (10000 : Int32)) (x5 + (10000 : Int32)) (x5 + 1) h
set_option maxRecDepth 20000 in
set_option maxHeartbeats 2000000 in
theorem T_Mo_has {Z : ZT} (X : CX Z Y_Mo_has) {hp : HP} {a1 : Int32} {p : Int32 × HP} (h : f_Mo_has hp a1 = some p) (hR : RetI Z Y_Mo_has .int p.1 p.2) : V Z Y_Mo_has hp 0 [(0, .ref (gA (zG Z) 99)), (1, .int a1)] [] := by
  unfold f_Mo_has at h
  refine R_iload_n X 1 d_Mo_has_0 rfl ?_
  refine R_i2l X d_Mo_has_1 ?_
  refine R_lconst (v := (0 : Int64)) X d_Mo_has_2 rfl ?_
  refine R_ldc2 (v := (2 : Int64)) X tw_1017 d_Mo_has_3 ?_
  obtain ⟨p2, e1, h⟩ := ob h
  refine R_scall (As := [.long (a1).toInt64, .long (0 : Int64), .long (2 : Int64)]) (st := []) X (M_Mo_in e1) tw_782 cf_Mo_in rfl rfl rfl d_Mo_has_6 ?_
  refine V_pc (pc' := 9) rfl ?_
  refine R_ifne (tgt := 15) X d_Mo_has_9 rfl (fun c3 => ?_) (fun c3 => ?_)
  · replace h := (if_neg c3).symm.trans h
    refine R_iconst (v := (0 : Int32)) X d_Mo_has_15 rfl ?_
    refine R_istore_n (L' := [(2, .int (0 : Int32)), (0, .ref (gA (zG Z) 99)), (1, .int a1)]) X d_Mo_has_16 (by decide) rfl ?_
    refine R_iconst (v := (-1 : Int32)) X d_Mo_has_17 rfl ?_
    refine R_istore_n (L' := [(3, .int (-1 : Int32)), (2, .int (0 : Int32)), (0, .ref (gA (zG Z) 99)), (1, .int a1)]) X d_Mo_has_18 (by decide) rfl ?_
    refine R_iconst (v := (-1 : Int32)) X d_Mo_has_19 rfl ?_
    refine V_pc (pc' := 20) rfl ?_
    refine R_istore (L' := [(4, .int (-1 : Int32)), (3, .int (-1 : Int32)), (2, .int (0 : Int32)), (0, .ref (gA (zG Z) 99)), (1, .int a1)]) X d_Mo_has_20 (by decide) rfl ?_
    refine R_sipush (v := (-500 : Int32)) X d_Mo_has_22 rfl ?_
    refine R_istore (L' := [(5, .int (-500 : Int32)), (4, .int (-1 : Int32)), (3, .int (-1 : Int32)), (2, .int (0 : Int32)), (0, .ref (gA (zG Z) 99)), (1, .int a1)]) X d_Mo_has_25 (by decide) rfl ?_
    refine V_pc (pc' := 27) rfl (R_loc (L' := [(0, .ref (gA (zG Z) 99)), (1, .int a1), (2, .int (0 : Int32)), (3, .int (-1 : Int32)), (4, .int (-1 : Int32)), (5, .int (-500 : Int32))]) [4, 5, 3, 2, 1, 0] rfl ?_)
    refine T_Mo_has_L27 X hR (fun hp12 w9 w10 w11 h => ?_) _ p2.2 (0 : Int32) (-1 : Int32) (-1 : Int32) (-500 : Int32) h
    refine R_iload_n X 0 d_Mo_has_76 rfl ?_
    refine R_ifne (tgt := 84) X d_Mo_has_77 rfl (fun c13 => ?_) (fun c13 => ?_)
    · replace h := (if_neg c13).symm.trans h
      refine R_iload_n X 0 d_Mo_has_84 rfl ?_
      refine R_iconst (v := (1 : Int32)) X d_Mo_has_85 rfl ?_
      refine R_icmp_ne (tgt := 93) X d_Mo_has_86 rfl (fun c14 => ?_) (fun c14 => ?_)
      · replace h := (if_neg c14).symm.trans h
        refine R_iload X 3 d_Mo_has_93 rfl ?_
        exact R_ret hR h d_Mo_has_95
      · replace h := (if_pos c14).symm.trans h
        refine R_iload_n X 2 d_Mo_has_89 rfl ?_
        refine R_goto (tgt := 95) X d_Mo_has_90 rfl ?_
        exact R_ret hR h d_Mo_has_95
    · replace h := (if_pos c13).symm.trans h
      refine R_iload_n X 1 d_Mo_has_80 rfl ?_
      refine R_goto (tgt := 95) X d_Mo_has_81 rfl ?_
      exact R_ret hR h d_Mo_has_95
  · replace h := (if_pos c3).symm.trans h
    refine R_ldc (v := (-1000000002 : Int32)) X tw_785 d_Mo_has_12 ?_
    exact R_ret hR h d_Mo_has_14
theorem M_Mo_has {G : GT} {hp : HP} {a1 : Int32} {p : Int32 × HP} (h : f_Mo_has hp a1 = some p) : MI G y_Mo_has Y_Mo_has .int [.ref (gA G 99), .int a1] hp p.1 p.2 := MI_of rfl (fun Z hz X hR => by subst hz; exact T_Mo_has X h hR)
theorem d_Mo_look_0 : decode prog_9_method_60_code 0 = .ok (.aload_n 0, 1) := by decide +kernel
theorem d_Mo_look_1 : decode prog_9_method_60_code 1 = .ok (.iconst 0, 1) := by decide +kernel
theorem d_Mo_look_2 : decode prog_9_method_60_code 2 = .ok (.invokevirtual 256, 3) := by decide +kernel
theorem d_Mo_look_5 : decode prog_9_method_60_code 5 = .ok (.istore_n 1, 1) := by decide +kernel
theorem d_Mo_look_6 : decode prog_9_method_60_code 6 = .ok (.iconst (-1), 1) := by decide +kernel
theorem d_Mo_look_7 : decode prog_9_method_60_code 7 = .ok (.istore_n 2, 1) := by decide +kernel
theorem d_Mo_look_8 : decode prog_9_method_60_code 8 = .ok (.iload_n 1, 1) := by decide +kernel
theorem d_Mo_look_9 : decode prog_9_method_60_code 9 = .ok (.istore_n 3, 1) := by decide +kernel
theorem d_Mo_look_10 : decode prog_9_method_60_code 10 = .ok (.iconst 0, 1) := by decide +kernel
theorem d_Mo_look_11 : decode prog_9_method_60_code 11 = .ok (.istore 4, 2) := by decide +kernel
theorem d_Mo_look_13 : decode prog_9_method_60_code 13 = .ok (.iload 4, 2) := by decide +kernel
theorem d_Mo_look_15 : decode prog_9_method_60_code 15 = .ok (.aload_n 0, 1) := by decide +kernel
theorem d_Mo_look_16 : decode prog_9_method_60_code 16 = .ok (.getfield 69, 3) := by decide +kernel
theorem d_Mo_look_19 : decode prog_9_method_60_code 19 = .ok (.if_icmp .ge (112), 3) := by decide +kernel
theorem d_Mo_look_22 : decode prog_9_method_60_code 22 = .ok (.iconst 0, 1) := by decide +kernel
theorem d_Mo_look_23 : decode prog_9_method_60_code 23 = .ok (.istore 5, 2) := by decide +kernel
theorem d_Mo_look_25 : decode prog_9_method_60_code 25 = .ok (.sipush (-500), 3) := by decide +kernel
theorem d_Mo_look_28 : decode prog_9_method_60_code 28 = .ok (.istore 6, 2) := by decide +kernel
theorem d_Mo_look_30 : decode prog_9_method_60_code 30 = .ok (.iload 6, 2) := by decide +kernel
theorem d_Mo_look_32 : decode prog_9_method_60_code 32 = .ok (.sipush (500), 3) := by decide +kernel
theorem d_Mo_look_35 : decode prog_9_method_60_code 35 = .ok (.if_icmp .ge (44), 3) := by decide +kernel
theorem d_Mo_look_38 : decode prog_9_method_60_code 38 = .ok (.iload 5, 2) := by decide +kernel
theorem d_Mo_look_40 : decode prog_9_method_60_code 40 = .ok (.aload_n 0, 1) := by decide +kernel
theorem d_Mo_look_41 : decode prog_9_method_60_code 41 = .ok (.iload 6, 2) := by decide +kernel
theorem d_Mo_look_43 : decode prog_9_method_60_code 43 = .ok (.invokevirtual 253, 3) := by decide +kernel
theorem d_Mo_look_46 : decode prog_9_method_60_code 46 = .ok (.ifCond .eq (23), 3) := by decide +kernel
theorem d_Mo_look_49 : decode prog_9_method_60_code 49 = .ok (.aload_n 0, 1) := by decide +kernel
theorem d_Mo_look_50 : decode prog_9_method_60_code 50 = .ok (.getfield 17, 3) := by decide +kernel
theorem d_Mo_look_53 : decode prog_9_method_60_code 53 = .ok (.iload 4, 2) := by decide +kernel
theorem d_Mo_look_55 : decode prog_9_method_60_code 55 = .ok (.iaload, 1) := by decide +kernel
theorem d_Mo_look_56 : decode prog_9_method_60_code 56 = .ok (.sipush (500), 3) := by decide +kernel
theorem d_Mo_look_59 : decode prog_9_method_60_code 59 = .ok (.isub, 1) := by decide +kernel
theorem d_Mo_look_60 : decode prog_9_method_60_code 60 = .ok (.iload 6, 2) := by decide +kernel
theorem d_Mo_look_62 : decode prog_9_method_60_code 62 = .ok (.if_icmp .gt (7), 3) := by decide +kernel
theorem d_Mo_look_65 : decode prog_9_method_60_code 65 = .ok (.iconst 1, 1) := by decide +kernel
theorem d_Mo_look_66 : decode prog_9_method_60_code 66 = .ok (.goto (4), 3) := by decide +kernel
theorem d_Mo_look_69 : decode prog_9_method_60_code 69 = .ok (.iconst 0, 1) := by decide +kernel
theorem d_Mo_look_70 : decode prog_9_method_60_code 70 = .ok (.iadd, 1) := by decide +kernel
theorem d_Mo_look_71 : decode prog_9_method_60_code 71 = .ok (.istore 5, 2) := by decide +kernel
theorem d_Mo_look_73 : decode prog_9_method_60_code 73 = .ok (.iinc 6 (1), 3) := by decide +kernel
theorem d_Mo_look_76 : decode prog_9_method_60_code 76 = .ok (.goto (-46), 3) := by decide +kernel
theorem d_Mo_look_79 : decode prog_9_method_60_code 79 = .ok (.iload 5, 2) := by decide +kernel
theorem d_Mo_look_81 : decode prog_9_method_60_code 81 = .ok (.iload_n 1, 1) := by decide +kernel
theorem d_Mo_look_82 : decode prog_9_method_60_code 82 = .ok (.iload 5, 2) := by decide +kernel
theorem d_Mo_look_84 : decode prog_9_method_60_code 84 = .ok (.isub, 1) := by decide +kernel
theorem d_Mo_look_85 : decode prog_9_method_60_code 85 = .ok (.if_icmp .le (8), 3) := by decide +kernel
theorem d_Mo_look_88 : decode prog_9_method_60_code 88 = .ok (.iload 5, 2) := by decide +kernel
theorem d_Mo_look_90 : decode prog_9_method_60_code 90 = .ok (.goto (7), 3) := by decide +kernel
theorem d_Mo_look_93 : decode prog_9_method_60_code 93 = .ok (.iload_n 1, 1) := by decide +kernel
theorem d_Mo_look_94 : decode prog_9_method_60_code 94 = .ok (.iload 5, 2) := by decide +kernel
theorem d_Mo_look_96 : decode prog_9_method_60_code 96 = .ok (.isub, 1) := by decide +kernel
theorem d_Mo_look_97 : decode prog_9_method_60_code 97 = .ok (.istore 6, 2) := by decide +kernel
theorem d_Mo_look_99 : decode prog_9_method_60_code 99 = .ok (.iload 6, 2) := by decide +kernel
theorem d_Mo_look_101 : decode prog_9_method_60_code 101 = .ok (.iload_n 3, 1) := by decide +kernel
theorem d_Mo_look_102 : decode prog_9_method_60_code 102 = .ok (.if_icmp .ge (8), 3) := by decide +kernel
theorem d_Mo_look_105 : decode prog_9_method_60_code 105 = .ok (.iload 4, 2) := by decide +kernel
theorem d_Mo_look_107 : decode prog_9_method_60_code 107 = .ok (.goto (4), 3) := by decide +kernel
theorem d_Mo_look_110 : decode prog_9_method_60_code 110 = .ok (.iload_n 2, 1) := by decide +kernel
theorem d_Mo_look_111 : decode prog_9_method_60_code 111 = .ok (.istore_n 2, 1) := by decide +kernel
theorem d_Mo_look_112 : decode prog_9_method_60_code 112 = .ok (.iload 6, 2) := by decide +kernel
theorem d_Mo_look_114 : decode prog_9_method_60_code 114 = .ok (.iload_n 3, 1) := by decide +kernel
theorem d_Mo_look_115 : decode prog_9_method_60_code 115 = .ok (.if_icmp .ge (8), 3) := by decide +kernel
theorem d_Mo_look_118 : decode prog_9_method_60_code 118 = .ok (.iload 6, 2) := by decide +kernel
theorem d_Mo_look_120 : decode prog_9_method_60_code 120 = .ok (.goto (4), 3) := by decide +kernel
theorem d_Mo_look_123 : decode prog_9_method_60_code 123 = .ok (.iload_n 3, 1) := by decide +kernel
theorem d_Mo_look_124 : decode prog_9_method_60_code 124 = .ok (.istore_n 3, 1) := by decide +kernel
theorem d_Mo_look_125 : decode prog_9_method_60_code 125 = .ok (.iinc 4 (1), 3) := by decide +kernel
theorem d_Mo_look_128 : decode prog_9_method_60_code 128 = .ok (.goto (-115), 3) := by decide +kernel
theorem d_Mo_look_131 : decode prog_9_method_60_code 131 = .ok (.iload_n 2, 1) := by decide +kernel
theorem d_Mo_look_132 : decode prog_9_method_60_code 132 = .ok (.ireturn, 1) := by decide +kernel
set_option maxRecDepth 20000 in
set_option maxHeartbeats 2000000 in
theorem T_Mo_look_L30 {Z : ZT} (X : CX Z Y_Mo_look) {v1 : Int32} {v2 : Int32} {v3 : Int32} {v4 : Int32} {p : Int32 × HP} (hR : RetI Z Y_Mo_look .int p.1 p.2) {K : HP → Int32 → Option (Int32 × HP)} (hK : ∀ (hp : HP) (x5 : Int32), K hp x5 = some p → V Z Y_Mo_look hp 79 [(0, .ref (gA (zG Z) 99)), (1, .int v1), (2, .int v2), (3, .int v3), (4, .int v4), (5, .int x5)] []) : ∀ (n : Nat) (hp : HP) (x5 : Int32) (x6 : Int32), f_Mo_look_L30 v1 v2 v3 v4 K n hp x5 x6 = some p → V Z Y_Mo_look hp 30 [(0, .ref (gA (zG Z) 99)), (1, .int v1), (2, .int v2), (3, .int v3), (4, .int v4), (5, .int x5), (6, .int x6)] [] := by
  intro n
  induction n with
  | zero =>
    intro hp x5 x6 h
    cases h
  | succ n ih =>
    intro hp x5 x6 h
    replace h : f_Mo_look_L30 v1 v2 v3 v4 K (n + 1) hp x5 x6 = some p := h
    unfold f_Mo_look_L30 at h
    refine R_iload X 6 d_Mo_look_30 rfl ?_
    refine R_sipush (v := (500 : Int32)) X d_Mo_look_32 rfl ?_
    refine R_icmp_ge (tgt := 79) X d_Mo_look_35 rfl (fun c4 => ?_) (fun c4 => ?_)
    · replace h := (if_pos c4).symm.trans h
      refine V_pc (pc' := 79) rfl (R_loc (L' := [(0, .ref (gA (zG Z) 99)), (1, .int v1), (2, .int v2), (3, .int v3), (4, .int v4), (5, .int x5)]) [0, 1, 2, 3, 4, 5] rfl ?_)
      exact hK hp x5 h
    · replace h := (if_neg c4).symm.trans h
      refine R_iload X 5 d_Mo_look_38 rfl ?_
      refine R_aload_n X 0 d_Mo_look_40 rfl ?_
      refine R_iload X 6 d_Mo_look_41 rfl ?_
      obtain ⟨p6, e5, h⟩ := ob h
      refine R_vcall (ci := 7) (k := 99) (As := [.int x6]) (st := [.int x5]) X (M_Mo_isSeen e5) tw_1018 cf_Mo_isSeen (of_decide_eq_true rfl) rfl rfl rfl rfl rfl d_Mo_look_43 ?_
      refine R_ifeq (tgt := 69) X d_Mo_look_46 rfl (fun c7 => ?_) (fun c7 => ?_)
      · replace h := (if_pos c7).symm.trans h
        refine R_iconst (v := (0 : Int32)) X d_Mo_look_69 rfl ?_
        refine R_iadd X d_Mo_look_70 ?_
        refine R_istore (L' := [(5, .int (x5 + (0 : Int32))), (0, .ref (gA (zG Z) 99)), (1, .int v1), (2, .int v2), (3, .int v3), (4, .int v4), (6, .int x6)]) X d_Mo_look_71 (by decide) rfl ?_
        refine R_iinc (v := (x6 + 1)) (L' := [(6, .int (x6 + 1)), (5, .int (x5 + (0 : Int32))), (0, .ref (gA (zG Z) 99)), (1, .int v1), (2, .int v2), (3, .int v3), (4, .int v4)]) X 6 d_Mo_look_73 rfl rfl (by decide) rfl ?_
        refine R_goto (tgt := 30) X d_Mo_look_76 rfl ?_
        refine V_pc (pc' := 30) rfl (R_loc (L' := [(0, .ref (gA (zG Z) 99)), (1, .int v1), (2, .int v2), (3, .int v3), (4, .int v4), (5, .int (x5 + (0 : Int32))), (6, .int (x6 + 1))]) [2, 3, 4, 5, 6, 1, 0] rfl ?_)
        exact ih p6.2 (x5 + (0 : Int32)) (x6 + 1) h
      · replace h := (if_neg c7).symm.trans h
        refine R_aload_n X 0 d_Mo_look_49 rfl ?_
        refine R_getR (ci := 7) X rfl iMo_ok (of_decide_eq_true rfl) rfl 4 rfl rfl tw_675 d_Mo_look_50 ?_
        refine R_iload X 4 d_Mo_look_53 rfl ?_
        obtain ⟨i8, h⟩ := ck h
        refine R_iald (n := 8) X (of_decide_eq_true rfl) rfl i8 d_Mo_look_55 ?_
        refine R_sipush (v := (500 : Int32)) X d_Mo_look_56 rfl ?_
        refine V_pc (pc' := 59) rfl ?_
        refine R_isub X d_Mo_look_59 ?_
        refine R_iload X 6 d_Mo_look_60 rfl ?_
        refine R_icmp_gt (tgt := 69) X d_Mo_look_62 rfl (fun c9 => ?_) (fun c9 => ?_)
        · replace h := (if_pos c9).symm.trans h
          refine R_iconst (v := (0 : Int32)) X d_Mo_look_69 rfl ?_
          refine R_iadd X d_Mo_look_70 ?_
          refine R_istore (L' := [(5, .int (x5 + (0 : Int32))), (0, .ref (gA (zG Z) 99)), (1, .int v1), (2, .int v2), (3, .int v3), (4, .int v4), (6, .int x6)]) X d_Mo_look_71 (by decide) rfl ?_
          refine R_iinc (v := (x6 + 1)) (L' := [(6, .int (x6 + 1)), (5, .int (x5 + (0 : Int32))), (0, .ref (gA (zG Z) 99)), (1, .int v1), (2, .int v2), (3, .int v3), (4, .int v4)]) X 6 d_Mo_look_73 rfl rfl (by decide) rfl ?_
          refine R_goto (tgt := 30) X d_Mo_look_76 rfl ?_
          refine V_pc (pc' := 30) rfl (R_loc (L' := [(0, .ref (gA (zG Z) 99)), (1, .int v1), (2, .int v2), (3, .int v3), (4, .int v4), (5, .int (x5 + (0 : Int32))), (6, .int (x6 + 1))]) [2, 3, 4, 5, 6, 1, 0] rfl ?_)
          exact ih p6.2 (x5 + (0 : Int32)) (x6 + 1) h
        · replace h := (if_neg c9).symm.trans h
          refine R_iconst (v := (1 : Int32)) X d_Mo_look_65 rfl ?_
          refine R_goto (tgt := 70) X d_Mo_look_66 rfl ?_
          refine R_iadd X d_Mo_look_70 ?_
          refine R_istore (L' := [(5, .int (x5 + (1 : Int32))), (0, .ref (gA (zG Z) 99)), (1, .int v1), (2, .int v2), (3, .int v3), (4, .int v4), (6, .int x6)]) X d_Mo_look_71 (by decide) rfl ?_
          refine R_iinc (v := (x6 + 1)) (L' := [(6, .int (x6 + 1)), (5, .int (x5 + (1 : Int32))), (0, .ref (gA (zG Z) 99)), (1, .int v1), (2, .int v2), (3, .int v3), (4, .int v4)]) X 6 d_Mo_look_73 rfl rfl (by decide) rfl ?_
          refine V_pc (pc' := 76) rfl ?_
          refine R_goto (tgt := 30) X d_Mo_look_76 rfl ?_
          refine V_pc (pc' := 30) rfl (R_loc (L' := [(0, .ref (gA (zG Z) 99)), (1, .int v1), (2, .int v2), (3, .int v3), (4, .int v4), (5, .int (x5 + (1 : Int32))), (6, .int (x6 + 1))]) [2, 3, 4, 5, 6, 1, 0] rfl ?_)
          exact ih p6.2 (x5 + (1 : Int32)) (x6 + 1) h
set_option maxRecDepth 20000 in
set_option maxHeartbeats 2000000 in
theorem T_Mo_look_L13 {Z : ZT} (X : CX Z Y_Mo_look) {v1 : Int32} {p : Int32 × HP} (hR : RetI Z Y_Mo_look .int p.1 p.2) {K : HP → Int32 → Option (Int32 × HP)} (hK : ∀ (hp : HP) (x2 : Int32), K hp x2 = some p → V Z Y_Mo_look hp 131 [(2, .int x2)] []) : ∀ (n : Nat) (hp : HP) (x2 : Int32) (x3 : Int32) (x4 : Int32), f_Mo_look_L13 v1 K n hp x2 x3 x4 = some p → V Z Y_Mo_look hp 13 [(0, .ref (gA (zG Z) 99)), (1, .int v1), (2, .int x2), (3, .int x3), (4, .int x4)] [] := by
  intro n
  induction n with
  | zero =>
    intro hp x2 x3 x4 h
    cases h
  | succ n ih =>
    intro hp x2 x3 x4 h
    replace h : f_Mo_look_L13 v1 K (n + 1) hp x2 x3 x4 = some p := h
    unfold f_Mo_look_L13 at h
    refine R_iload X 4 d_Mo_look_13 rfl ?_
    refine R_aload_n X 0 d_Mo_look_15 rfl ?_
    refine R_getI (ci := 7) X rfl iMo_ok (of_decide_eq_true rfl) rfl 3 rfl rfl tw_674 d_Mo_look_16 ?_
    refine R_icmp_ge (tgt := 131) X d_Mo_look_19 rfl (fun c3 => ?_) (fun c3 => ?_)
    · replace h := (if_pos c3).symm.trans h
      refine V_pc (pc' := 131) rfl (R_loc (L' := [(2, .int x2)]) [2] rfl ?_)
      exact hK hp x2 h
    · replace h := (if_neg c3).symm.trans h
      refine R_iconst (v := (0 : Int32)) X d_Mo_look_22 rfl ?_
      refine R_istore (L' := [(5, .int (0 : Int32)), (0, .ref (gA (zG Z) 99)), (1, .int v1), (2, .int x2), (3, .int x3), (4, .int x4)]) X d_Mo_look_23 (by decide) rfl ?_
      refine R_sipush (v := (-500 : Int32)) X d_Mo_look_25 rfl ?_
      refine R_istore (L' := [(6, .int (-500 : Int32)), (5, .int (0 : Int32)), (0, .ref (gA (zG Z) 99)), (1, .int v1), (2, .int x2), (3, .int x3), (4, .int x4)]) X d_Mo_look_28 (by decide) rfl ?_
      refine V_pc (pc' := 30) rfl (R_loc (L' := [(0, .ref (gA (zG Z) 99)), (1, .int v1), (2, .int x2), (3, .int x3), (4, .int x4), (5, .int (0 : Int32)), (6, .int (-500 : Int32))]) [2, 3, 4, 5, 6, 1, 0] rfl ?_)
      refine T_Mo_look_L30 X hR (fun hp11 w10 h => ?_) _ hp (0 : Int32) (-500 : Int32) h
      refine R_iload X 5 d_Mo_look_79 rfl ?_
      refine R_iload_n X 1 d_Mo_look_81 rfl ?_
      refine R_iload X 5 d_Mo_look_82 rfl ?_
      refine R_isub X d_Mo_look_84 ?_
      refine R_icmp_le (tgt := 93) X d_Mo_look_85 rfl (fun c12 => ?_) (fun c12 => ?_)
      · replace h := (if_pos c12).symm.trans h
        refine R_iload_n X 1 d_Mo_look_93 rfl ?_
        refine R_iload X 5 d_Mo_look_94 rfl ?_
        refine R_isub X d_Mo_look_96 ?_
        refine R_istore (L' := [(6, .int (v1 - w10)), (0, .ref (gA (zG Z) 99)), (1, .int v1), (2, .int x2), (3, .int x3), (4, .int x4), (5, .int w10)]) X d_Mo_look_97 (by decide) rfl ?_
        refine R_iload X 0 d_Mo_look_99 rfl ?_
        refine V_pc (pc' := 101) rfl ?_
        refine R_iload_n X 4 d_Mo_look_101 rfl ?_
        refine R_icmp_ge (tgt := 110) X d_Mo_look_102 rfl (fun c13 => ?_) (fun c13 => ?_)
        · replace h := (if_pos c13).symm.trans h
          refine R_iload_n X 3 d_Mo_look_110 rfl ?_
          refine R_istore_n (L' := [(2, .int x2), (6, .int (v1 - w10)), (0, .ref (gA (zG Z) 99)), (1, .int v1), (3, .int x3), (4, .int x4), (5, .int w10)]) X d_Mo_look_111 (by decide) rfl ?_
          refine R_iload X 1 d_Mo_look_112 rfl ?_
          refine R_iload_n X 4 d_Mo_look_114 rfl ?_
          refine R_icmp_ge (tgt := 123) X d_Mo_look_115 rfl (fun c14 => ?_) (fun c14 => absurd c13 c14)
          refine V_pc (pc' := 123) rfl ?_
          refine R_iload_n X 4 d_Mo_look_123 rfl ?_
          refine R_istore_n (L' := [(3, .int x3), (2, .int x2), (6, .int (v1 - w10)), (0, .ref (gA (zG Z) 99)), (1, .int v1), (4, .int x4), (5, .int w10)]) X d_Mo_look_124 (by decide) rfl ?_
          refine R_iinc (v := (x4 + 1)) (L' := [(4, .int (x4 + 1)), (3, .int x3), (2, .int x2), (6, .int (v1 - w10)), (0, .ref (gA (zG Z) 99)), (1, .int v1), (5, .int w10)]) X 5 d_Mo_look_125 rfl rfl (by decide) rfl ?_
          refine R_goto (tgt := 13) X d_Mo_look_128 rfl ?_
          refine V_pc (pc' := 13) rfl (R_loc (L' := [(0, .ref (gA (zG Z) 99)), (1, .int v1), (2, .int x2), (3, .int x3), (4, .int (x4 + 1))]) [4, 5, 2, 1, 0] rfl ?_)
          exact ih hp11 x2 x3 (x4 + 1) h
        · replace h := (if_neg c13).symm.trans h
          refine R_iload X 5 d_Mo_look_105 rfl ?_
          refine R_goto (tgt := 111) X d_Mo_look_107 rfl ?_
          refine R_istore_n (L' := [(2, .int x4), (6, .int (v1 - w10)), (0, .ref (gA (zG Z) 99)), (1, .int v1), (3, .int x3), (4, .int x4), (5, .int w10)]) X d_Mo_look_111 (by decide) rfl ?_
          refine R_iload X 1 d_Mo_look_112 rfl ?_
          refine R_iload_n X 4 d_Mo_look_114 rfl ?_
          refine V_pc (pc' := 115) rfl ?_
          refine R_icmp_ge (tgt := 123) X d_Mo_look_115 rfl (fun c15 => absurd c15 c13) (fun c15 => ?_)
          refine R_iload X 1 d_Mo_look_118 rfl ?_
          refine R_goto (tgt := 124) X d_Mo_look_120 rfl ?_
          refine R_istore_n (L' := [(3, .int (v1 - w10)), (2, .int x4), (6, .int (v1 - w10)), (0, .ref (gA (zG Z) 99)), (1, .int v1), (4, .int x4), (5, .int w10)]) X d_Mo_look_124 (by decide) rfl ?_
          refine R_iinc (v := (x4 + 1)) (L' := [(4, .int (x4 + 1)), (3, .int (v1 - w10)), (2, .int x4), (6, .int (v1 - w10)), (0, .ref (gA (zG Z) 99)), (1, .int v1), (5, .int w10)]) X 5 d_Mo_look_125 rfl rfl (by decide) rfl ?_
          refine R_goto (tgt := 13) X d_Mo_look_128 rfl ?_
          refine V_pc (pc' := 13) rfl (R_loc (L' := [(0, .ref (gA (zG Z) 99)), (1, .int v1), (2, .int x4), (3, .int (v1 - w10)), (4, .int (x4 + 1))]) [4, 5, 2, 1, 0] rfl ?_)
          exact ih hp11 x4 (v1 - w10) (x4 + 1) h
      · replace h := (if_neg c12).symm.trans h
        refine R_iload X 5 d_Mo_look_88 rfl ?_
        refine R_goto (tgt := 97) X d_Mo_look_90 rfl ?_
        refine R_istore (L' := [(6, .int w10), (0, .ref (gA (zG Z) 99)), (1, .int v1), (2, .int x2), (3, .int x3), (4, .int x4), (5, .int w10)]) X d_Mo_look_97 (by decide) rfl ?_
        refine R_iload X 0 d_Mo_look_99 rfl ?_
        refine R_iload_n X 4 d_Mo_look_101 rfl ?_
        refine V_pc (pc' := 102) rfl ?_
        refine R_icmp_ge (tgt := 110) X d_Mo_look_102 rfl (fun c16 => ?_) (fun c16 => ?_)
        · replace h := (if_pos c16).symm.trans h
          refine R_iload_n X 3 d_Mo_look_110 rfl ?_
          refine R_istore_n (L' := [(2, .int x2), (6, .int w10), (0, .ref (gA (zG Z) 99)), (1, .int v1), (3, .int x3), (4, .int x4), (5, .int w10)]) X d_Mo_look_111 (by decide) rfl ?_
          refine R_iload X 1 d_Mo_look_112 rfl ?_
          refine R_iload_n X 4 d_Mo_look_114 rfl ?_
          refine R_icmp_ge (tgt := 123) X d_Mo_look_115 rfl (fun c17 => ?_) (fun c17 => absurd c16 c17)
          refine V_pc (pc' := 123) rfl ?_
          refine R_iload_n X 4 d_Mo_look_123 rfl ?_
          refine R_istore_n (L' := [(3, .int x3), (2, .int x2), (6, .int w10), (0, .ref (gA (zG Z) 99)), (1, .int v1), (4, .int x4), (5, .int w10)]) X d_Mo_look_124 (by decide) rfl ?_
          refine R_iinc (v := (x4 + 1)) (L' := [(4, .int (x4 + 1)), (3, .int x3), (2, .int x2), (6, .int w10), (0, .ref (gA (zG Z) 99)), (1, .int v1), (5, .int w10)]) X 5 d_Mo_look_125 rfl rfl (by decide) rfl ?_
          refine R_goto (tgt := 13) X d_Mo_look_128 rfl ?_
          refine V_pc (pc' := 13) rfl (R_loc (L' := [(0, .ref (gA (zG Z) 99)), (1, .int v1), (2, .int x2), (3, .int x3), (4, .int (x4 + 1))]) [4, 5, 2, 1, 0] rfl ?_)
          exact ih hp11 x2 x3 (x4 + 1) h
        · replace h := (if_neg c16).symm.trans h
          refine R_iload X 5 d_Mo_look_105 rfl ?_
          refine R_goto (tgt := 111) X d_Mo_look_107 rfl ?_
          refine R_istore_n (L' := [(2, .int x4), (6, .int w10), (0, .ref (gA (zG Z) 99)), (1, .int v1), (3, .int x3), (4, .int x4), (5, .int w10)]) X d_Mo_look_111 (by decide) rfl ?_
          refine R_iload X 1 d_Mo_look_112 rfl ?_
          refine R_iload_n X 4 d_Mo_look_114 rfl ?_
          refine V_pc (pc' := 115) rfl ?_
          refine R_icmp_ge (tgt := 123) X d_Mo_look_115 rfl (fun c18 => absurd c18 c16) (fun c18 => ?_)
          refine R_iload X 1 d_Mo_look_118 rfl ?_
          refine R_goto (tgt := 124) X d_Mo_look_120 rfl ?_
          refine R_istore_n (L' := [(3, .int w10), (2, .int x4), (6, .int w10), (0, .ref (gA (zG Z) 99)), (1, .int v1), (4, .int x4), (5, .int w10)]) X d_Mo_look_124 (by decide) rfl ?_
          refine R_iinc (v := (x4 + 1)) (L' := [(4, .int (x4 + 1)), (3, .int w10), (2, .int x4), (6, .int w10), (0, .ref (gA (zG Z) 99)), (1, .int v1), (5, .int w10)]) X 5 d_Mo_look_125 rfl rfl (by decide) rfl ?_
          refine R_goto (tgt := 13) X d_Mo_look_128 rfl ?_
          refine V_pc (pc' := 13) rfl (R_loc (L' := [(0, .ref (gA (zG Z) 99)), (1, .int v1), (2, .int x4), (3, .int w10), (4, .int (x4 + 1))]) [4, 5, 2, 1, 0] rfl ?_)
          exact ih hp11 x4 w10 (x4 + 1) h
set_option maxRecDepth 20000 in
set_option maxHeartbeats 2000000 in
theorem T_Mo_look {Z : ZT} (X : CX Z Y_Mo_look) {hp : HP} {p : Int32 × HP} (h : f_Mo_look hp = some p) (hR : RetI Z Y_Mo_look .int p.1 p.2) : V Z Y_Mo_look hp 0 [(0, .ref (gA (zG Z) 99))] [] := by
  unfold f_Mo_look at h
  refine R_aload_n X 0 d_Mo_look_0 rfl ?_
  refine R_iconst (v := (0 : Int32)) X d_Mo_look_1 rfl ?_
  obtain ⟨p2, e1, h⟩ := ob h
  refine R_vcall (ci := 7) (k := 99) (As := [.int (0 : Int32)]) (st := []) X (M_Mo_has e1) tw_1026 cf_Mo_has (of_decide_eq_true rfl) rfl rfl rfl rfl rfl d_Mo_look_2 ?_
  refine R_istore_n (L' := [(1, .int p2.1), (0, .ref (gA (zG Z) 99))]) X d_Mo_look_5 (by decide) rfl ?_
  refine R_iconst (v := (-1 : Int32)) X d_Mo_look_6 rfl ?_
  refine V_pc (pc' := 7) rfl ?_
  refine R_istore_n (L' := [(2, .int (-1 : Int32)), (1, .int p2.1), (0, .ref (gA (zG Z) 99))]) X d_Mo_look_7 (by decide) rfl ?_
  refine R_iload_n X 1 d_Mo_look_8 rfl ?_
  refine R_istore_n (L' := [(3, .int p2.1), (2, .int (-1 : Int32)), (1, .int p2.1), (0, .ref (gA (zG Z) 99))]) X d_Mo_look_9 (by decide) rfl ?_
  refine R_iconst (v := (0 : Int32)) X d_Mo_look_10 rfl ?_
  refine R_istore (L' := [(4, .int (0 : Int32)), (3, .int p2.1), (2, .int (-1 : Int32)), (1, .int p2.1), (0, .ref (gA (zG Z) 99))]) X d_Mo_look_11 (by decide) rfl ?_
  refine V_pc (pc' := 13) rfl (R_loc (L' := [(0, .ref (gA (zG Z) 99)), (1, .int p2.1), (2, .int (-1 : Int32)), (3, .int p2.1), (4, .int (0 : Int32))]) [4, 3, 2, 1, 0] rfl ?_)
  refine T_Mo_look_L13 X hR (fun hp20 w19 h => ?_) _ p2.2 (-1 : Int32) p2.1 (0 : Int32) h
  refine R_iload_n X 0 d_Mo_look_131 rfl ?_
  exact R_ret hR h d_Mo_look_132
theorem M_Mo_look {G : GT} {hp : HP} {p : Int32 × HP} (h : f_Mo_look hp = some p) : MI G y_Mo_look Y_Mo_look .int [.ref (gA G 99)] hp p.1 p.2 := MI_of rfl (fun Z hz X hR => by subst hz; exact T_Mo_look X h hR)
theorem d_Mo_write_0 : decode prog_9_method_61_code 0 = .ok (.aload_n 0, 1) := by decide +kernel
theorem d_Mo_write_1 : decode prog_9_method_61_code 1 = .ok (.iload_n 1, 1) := by decide +kernel
theorem d_Mo_write_2 : decode prog_9_method_61_code 2 = .ok (.invokevirtual 79, 3) := by decide +kernel
theorem d_Mo_write_5 : decode prog_9_method_61_code 5 = .ok (.ifCond .ne (6), 3) := by decide +kernel
theorem d_Mo_write_8 : decode prog_9_method_61_code 8 = .ok (.ldc 189, 2) := by decide +kernel
theorem d_Mo_write_10 : decode prog_9_method_61_code 10 = .ok (.ireturn, 1) := by decide +kernel
theorem d_Mo_write_11 : decode prog_9_method_61_code 11 = .ok (.iload_n 2, 1) := by decide +kernel
theorem d_Mo_write_12 : decode prog_9_method_61_code 12 = .ok (.i2l, 1) := by decide +kernel
theorem d_Mo_write_13 : decode prog_9_method_61_code 13 = .ok (.lconst 0, 1) := by decide +kernel
theorem d_Mo_write_14 : decode prog_9_method_61_code 14 = .ok (.ldc2_w 259, 3) := by decide +kernel
theorem d_Mo_write_17 : decode prog_9_method_61_code 17 = .ok (.invokestatic 72, 3) := by decide +kernel
theorem d_Mo_write_20 : decode prog_9_method_61_code 20 = .ok (.ifCond .ne (6), 3) := by decide +kernel
theorem d_Mo_write_23 : decode prog_9_method_61_code 23 = .ok (.ldc 88, 2) := by decide +kernel
theorem d_Mo_write_25 : decode prog_9_method_61_code 25 = .ok (.ireturn, 1) := by decide +kernel
theorem d_Mo_write_26 : decode prog_9_method_61_code 26 = .ok (.aload_n 0, 1) := by decide +kernel
theorem d_Mo_write_27 : decode prog_9_method_61_code 27 = .ok (.getfield 158, 3) := by decide +kernel
theorem d_Mo_write_30 : decode prog_9_method_61_code 30 = .ok (.bipush (15), 2) := by decide +kernel
theorem d_Mo_write_32 : decode prog_9_method_61_code 32 = .ok (.if_icmp .ne (6), 3) := by decide +kernel
theorem d_Mo_write_35 : decode prog_9_method_61_code 35 = .ok (.ldc 92, 2) := by decide +kernel
theorem d_Mo_write_37 : decode prog_9_method_61_code 37 = .ok (.ireturn, 1) := by decide +kernel
theorem d_Mo_write_38 : decode prog_9_method_61_code 38 = .ok (.aload_n 0, 1) := by decide +kernel
theorem d_Mo_write_39 : decode prog_9_method_61_code 39 = .ok (.getfield 63, 3) := by decide +kernel
theorem d_Mo_write_42 : decode prog_9_method_61_code 42 = .ok (.aload_n 0, 1) := by decide +kernel
theorem d_Mo_write_43 : decode prog_9_method_61_code 43 = .ok (.getfield 158, 3) := by decide +kernel
theorem d_Mo_write_46 : decode prog_9_method_61_code 46 = .ok (.iload_n 1, 1) := by decide +kernel
theorem d_Mo_write_47 : decode prog_9_method_61_code 47 = .ok (.iastore, 1) := by decide +kernel
theorem d_Mo_write_48 : decode prog_9_method_61_code 48 = .ok (.aload_n 0, 1) := by decide +kernel
theorem d_Mo_write_49 : decode prog_9_method_61_code 49 = .ok (.getfield 66, 3) := by decide +kernel
theorem d_Mo_write_52 : decode prog_9_method_61_code 52 = .ok (.aload_n 0, 1) := by decide +kernel
theorem d_Mo_write_53 : decode prog_9_method_61_code 53 = .ok (.getfield 158, 3) := by decide +kernel
theorem d_Mo_write_56 : decode prog_9_method_61_code 56 = .ok (.iload_n 2, 1) := by decide +kernel
theorem d_Mo_write_57 : decode prog_9_method_61_code 57 = .ok (.iastore, 1) := by decide +kernel
theorem d_Mo_write_58 : decode prog_9_method_61_code 58 = .ok (.aload_n 0, 1) := by decide +kernel
theorem d_Mo_write_59 : decode prog_9_method_61_code 59 = .ok (.dup, 1) := by decide +kernel
theorem d_Mo_write_60 : decode prog_9_method_61_code 60 = .ok (.getfield 158, 3) := by decide +kernel
theorem d_Mo_write_63 : decode prog_9_method_61_code 63 = .ok (.iconst 1, 1) := by decide +kernel
theorem d_Mo_write_64 : decode prog_9_method_61_code 64 = .ok (.iadd, 1) := by decide +kernel
theorem d_Mo_write_65 : decode prog_9_method_61_code 65 = .ok (.putfield 158, 3) := by decide +kernel
theorem d_Mo_write_68 : decode prog_9_method_61_code 68 = .ok (.aload_n 0, 1) := by decide +kernel
theorem d_Mo_write_69 : decode prog_9_method_61_code 69 = .ok (.getfield 158, 3) := by decide +kernel
theorem d_Mo_write_72 : decode prog_9_method_61_code 72 = .ok (.ireturn, 1) := by decide +kernel
set_option maxRecDepth 20000 in
set_option maxHeartbeats 2000000 in
theorem T_Mo_write {Z : ZT} (X : CX Z Y_Mo_write) {hp : HP} {a1 : Int32} {a2 : Int32} {p : Int32 × HP} (h : f_Mo_write hp a1 a2 = some p) (hR : RetI Z Y_Mo_write .int p.1 p.2) : V Z Y_Mo_write hp 0 [(0, .ref (gA (zG Z) 99)), (1, .int a1), (2, .int a2)] [] := by
  unfold f_Mo_write at h
  refine R_aload_n X 0 d_Mo_write_0 rfl ?_
  refine R_iload_n X 1 d_Mo_write_1 rfl ?_
  obtain ⟨p2, e1, h⟩ := ob h
  refine R_vcall (ci := 7) (k := 99) (As := [.int a1]) (st := []) X (M_Mo_isCustomer e1) tw_878 cf_Mo_isCustomer (of_decide_eq_true rfl) rfl rfl rfl rfl rfl d_Mo_write_2 ?_
  refine R_ifne (tgt := 11) X d_Mo_write_5 rfl (fun c3 => ?_) (fun c3 => ?_)
  · replace h := (if_neg c3).symm.trans h
    refine R_iload_n X 2 d_Mo_write_11 rfl ?_
    refine R_i2l X d_Mo_write_12 ?_
    refine R_lconst (v := (0 : Int64)) X d_Mo_write_13 rfl ?_
    refine R_ldc2 (v := (20000 : Int64)) X tw_1031 d_Mo_write_14 ?_
    obtain ⟨p5, e4, h⟩ := ob h
    refine R_scall (As := [.long (a2).toInt64, .long (0 : Int64), .long (20000 : Int64)]) (st := []) X (M_Mo_in e4) tw_782 cf_Mo_in rfl rfl rfl d_Mo_write_17 ?_
    refine V_pc (pc' := 20) rfl ?_
    refine R_ifne (tgt := 26) X d_Mo_write_20 rfl (fun c6 => ?_) (fun c6 => ?_)
    · replace h := (if_neg c6).symm.trans h
      refine R_aload_n X 0 d_Mo_write_26 rfl ?_
      refine R_getI (ci := 7) X rfl iMo_ok (of_decide_eq_true rfl) rfl 32 rfl rfl tw_703 d_Mo_write_27 ?_
      refine R_bipush (v := (15 : Int32)) X d_Mo_write_30 rfl ?_
      refine R_icmp_ne (tgt := 38) X d_Mo_write_32 rfl (fun c7 => ?_) (fun c7 => ?_)
      · replace h := (if_neg c7).symm.trans h
        refine R_aload_n X 0 d_Mo_write_38 rfl ?_
        refine R_getR (ci := 7) X rfl iMo_ok (of_decide_eq_true rfl) rfl 33 rfl rfl tw_704 d_Mo_write_39 ?_
        refine R_aload_n X 0 d_Mo_write_42 rfl ?_
        refine R_getI (ci := 7) X rfl iMo_ok (of_decide_eq_true rfl) rfl 32 rfl rfl tw_703 d_Mo_write_43 ?_
        refine R_iload_n X 1 d_Mo_write_46 rfl ?_
        refine V_pc (pc' := 47) rfl ?_
        obtain ⟨i8, h⟩ := ck h
        refine R_iast (n := 15) X (of_decide_eq_true rfl) rfl i8 d_Mo_write_47 ?_
        refine R_aload_n X 0 d_Mo_write_48 rfl ?_
        refine R_getR (ci := 7) X rfl iMo_ok (of_decide_eq_true rfl) rfl 34 rfl rfl tw_705 d_Mo_write_49 ?_
        refine R_aload_n X 0 d_Mo_write_52 rfl ?_
        refine R_getI (ci := 7) X rfl iMo_ok (of_decide_eq_true rfl) rfl 32 rfl rfl tw_703 d_Mo_write_53 ?_
        refine R_iload_n X 2 d_Mo_write_56 rfl ?_
        refine V_pc (pc' := 57) rfl ?_
        obtain ⟨i9, h⟩ := ck h
        refine R_iast (n := 15) X (of_decide_eq_true rfl) rfl i9 d_Mo_write_57 ?_
        refine R_aload_n X 0 d_Mo_write_58 rfl ?_
        refine R_dup X d_Mo_write_59 rfl ?_
        refine R_getI (ci := 7) X rfl iMo_ok (of_decide_eq_true rfl) rfl 32 rfl rfl tw_703 d_Mo_write_60 ?_
        refine R_iconst (v := (1 : Int32)) X d_Mo_write_63 rfl ?_
        refine R_iadd X d_Mo_write_64 ?_
        refine V_pc (pc' := 65) rfl ?_
        refine R_putI (ci := 7) X rfl iMo_ok yMo_ok nMo_ok (of_decide_eq_true rfl) rfl 32 rfl rfl rfl rfl tw_703 d_Mo_write_65 ?_
        refine R_aload_n X 0 d_Mo_write_68 rfl ?_
        refine R_getI (ci := 7) X rfl iMo_ok (of_decide_eq_true rfl) rfl 32 rfl rfl tw_703 d_Mo_write_69 ?_
        exact R_ret hR h d_Mo_write_72
      · replace h := (if_pos c7).symm.trans h
        refine R_ldc (v := (-1000000004 : Int32)) X tw_786 d_Mo_write_35 ?_
        exact R_ret hR h d_Mo_write_37
    · replace h := (if_pos c6).symm.trans h
      refine R_ldc (v := (-1000000002 : Int32)) X tw_785 d_Mo_write_23 ?_
      exact R_ret hR h d_Mo_write_25
  · replace h := (if_pos c3).symm.trans h
    refine R_ldc (v := (-1000000001 : Int32)) X tw_873 d_Mo_write_8 ?_
    exact R_ret hR h d_Mo_write_10
theorem M_Mo_write {G : GT} {hp : HP} {a1 : Int32} {a2 : Int32} {p : Int32 × HP} (h : f_Mo_write hp a1 a2 = some p) : MI G y_Mo_write Y_Mo_write .int [.ref (gA G 99), .int a1, .int a2] hp p.1 p.2 := MI_of rfl (fun Z hz X hR => by subst hz; exact T_Mo_write X h hR)
