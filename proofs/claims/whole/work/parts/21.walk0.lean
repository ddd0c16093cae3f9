/-! Printed by wip/whole/walk.py. -/
theorem d_BA_within_0 : decode prog_1_method_34_code 0 = .ok (.iload_n 0, 1) := by decide +kernel
theorem d_BA_within_1 : decode prog_1_method_34_code 1 = .ok (.iload_n 1, 1) := by decide +kernel
theorem d_BA_within_2 : decode prog_1_method_34_code 2 = .ok (.if_icmp .lt (12), 3) := by decide +kernel
theorem d_BA_within_5 : decode prog_1_method_34_code 5 = .ok (.iload_n 0, 1) := by decide +kernel
theorem d_BA_within_6 : decode prog_1_method_34_code 6 = .ok (.iload_n 2, 1) := by decide +kernel
theorem d_BA_within_7 : decode prog_1_method_34_code 7 = .ok (.if_icmp .gt (7), 3) := by decide +kernel
theorem d_BA_within_10 : decode prog_1_method_34_code 10 = .ok (.iconst 1, 1) := by decide +kernel
theorem d_BA_within_11 : decode prog_1_method_34_code 11 = .ok (.goto (4), 3) := by decide +kernel
theorem d_BA_within_14 : decode prog_1_method_34_code 14 = .ok (.iconst 0, 1) := by decide +kernel
theorem d_BA_within_15 : decode prog_1_method_34_code 15 = .ok (.ireturn, 1) := by decide +kernel
set_option maxRecDepth 20000 in
set_option maxHeartbeats 2000000 in
theorem T_BA_within {Z : ZT} (X : CX Z Y_BA_within) {hp : HP} {a0 : Int32} {a1 : Int32} {a2 : Int32} {p : Int32 × HP} (h : f_BA_within hp a0 a1 a2 = some p) (hR : RetI Z Y_BA_within .boolean p.1 p.2) : V Z Y_BA_within hp 0 [(0, .int a0), (1, .int a1), (2, .int a2)] [] := by
  unfold f_BA_within at h
  refine R_iload_n X 0 d_BA_within_0 rfl ?_
  refine R_iload_n X 1 d_BA_within_1 rfl ?_
  refine R_icmp_lt (tgt := 14) X d_BA_within_2 rfl (fun c1 => ?_) (fun c1 => ?_)
  · replace h := (if_pos c1).symm.trans h
    refine R_iconst (v := (0 : Int32)) X d_BA_within_14 rfl ?_
    exact R_retc hR (by decide) h d_BA_within_15
  · replace h := (if_neg c1).symm.trans h
    refine R_iload_n X 0 d_BA_within_5 rfl ?_
    refine R_iload_n X 2 d_BA_within_6 rfl ?_
    refine R_icmp_gt (tgt := 14) X d_BA_within_7 rfl (fun c2 => ?_) (fun c2 => ?_)
    · replace h := (if_pos c2).symm.trans h
      refine R_iconst (v := (0 : Int32)) X d_BA_within_14 rfl ?_
      exact R_retc hR (by decide) h d_BA_within_15
    · replace h := (if_neg c2).symm.trans h
      refine R_iconst (v := (1 : Int32)) X d_BA_within_10 rfl ?_
      refine R_goto (tgt := 15) X d_BA_within_11 rfl ?_
      exact R_retc hR (by decide) h d_BA_within_15
theorem M_BA_within {G : GT} {hp : HP} {a0 : Int32} {a1 : Int32} {a2 : Int32} {p : Int32 × HP} (h : f_BA_within hp a0 a1 a2 = some p) : MI G y_BA_within Y_BA_within .boolean [.int a0, .int a1, .int a2] hp p.1 p.2 := MI_of rfl (fun Z hz X hR => by subst hz; exact T_BA_within X h hR)
theorem d_Re_append_0 : decode prog_5_method_2_code 0 = .ok (.aload_n 0, 1) := by decide +kernel
theorem d_Re_append_1 : decode prog_5_method_2_code 1 = .ok (.getfield 19, 3) := by decide +kernel
theorem d_Re_append_4 : decode prog_5_method_2_code 4 = .ok (.sipush (240), 3) := by decide +kernel
theorem d_Re_append_7 : decode prog_5_method_2_code 7 = .ok (.if_icmp .ge (23), 3) := by decide +kernel
theorem d_Re_append_10 : decode prog_5_method_2_code 10 = .ok (.aload_n 0, 1) := by decide +kernel
theorem d_Re_append_11 : decode prog_5_method_2_code 11 = .ok (.getfield 9, 3) := by decide +kernel
theorem d_Re_append_14 : decode prog_5_method_2_code 14 = .ok (.aload_n 0, 1) := by decide +kernel
theorem d_Re_append_15 : decode prog_5_method_2_code 15 = .ok (.getfield 19, 3) := by decide +kernel
theorem d_Re_append_18 : decode prog_5_method_2_code 18 = .ok (.iload_n 1, 1) := by decide +kernel
theorem d_Re_append_19 : decode prog_5_method_2_code 19 = .ok (.iastore, 1) := by decide +kernel
theorem d_Re_append_20 : decode prog_5_method_2_code 20 = .ok (.aload_n 0, 1) := by decide +kernel
theorem d_Re_append_21 : decode prog_5_method_2_code 21 = .ok (.dup, 1) := by decide +kernel
theorem d_Re_append_22 : decode prog_5_method_2_code 22 = .ok (.getfield 19, 3) := by decide +kernel
theorem d_Re_append_25 : decode prog_5_method_2_code 25 = .ok (.iconst 1, 1) := by decide +kernel
theorem d_Re_append_26 : decode prog_5_method_2_code 26 = .ok (.iadd, 1) := by decide +kernel
theorem d_Re_append_27 : decode prog_5_method_2_code 27 = .ok (.putfield 19, 3) := by decide +kernel
theorem d_Re_append_30 : decode prog_5_method_2_code 30 = .ok (.return_, 1) := by decide +kernel
set_option maxRecDepth 20000 in
set_option maxHeartbeats 2000000 in
theorem T_Re_append {Z : ZT} (X : CX Z Y_Re_append) {hp : HP} {a1 : Int32} {p : Int32 × HP} (h : f_Re_append hp a1 = some p) (hR : RetV Z Y_Re_append p.2) : V Z Y_Re_append hp 0 [(0, .ref (gA (zG Z) 1)), (1, .int a1)] [] := by
  unfold f_Re_append at h
  refine R_aload_n X 0 d_Re_append_0 rfl ?_
  refine R_getI (ci := 3) X rfl iRe_ok (of_decide_eq_true rfl) rfl 1 rfl rfl tw_73 d_Re_append_1 ?_
  refine R_sipush (v := (240 : Int32)) X d_Re_append_4 rfl ?_
  refine R_icmp_ge (tgt := 30) X d_Re_append_7 rfl (fun c1 => ?_) (fun c1 => ?_)
  · replace h := (if_pos c1).symm.trans h
    exact R_retv hR h d_Re_append_30
  · replace h := (if_neg c1).symm.trans h
    refine R_aload_n X 0 d_Re_append_10 rfl ?_
    refine R_getR (ci := 3) X rfl iRe_ok (of_decide_eq_true rfl) rfl 0 rfl rfl tw_72 d_Re_append_11 ?_
    refine R_aload_n X 0 d_Re_append_14 rfl ?_
    refine R_getI (ci := 3) X rfl iRe_ok (of_decide_eq_true rfl) rfl 1 rfl rfl tw_73 d_Re_append_15 ?_
    refine R_iload_n X 1 d_Re_append_18 rfl ?_
    refine V_pc (pc' := 19) rfl ?_
    obtain ⟨i2, h⟩ := ck h
    refine R_iast (n := 240) X (of_decide_eq_true rfl) rfl i2 d_Re_append_19 ?_
    refine R_aload_n X 0 d_Re_append_20 rfl ?_
    refine R_dup X d_Re_append_21 rfl ?_
    refine R_getI (ci := 3) X rfl iRe_ok (of_decide_eq_true rfl) rfl 1 rfl rfl tw_73 d_Re_append_22 ?_
    refine R_iconst (v := (1 : Int32)) X d_Re_append_25 rfl ?_
    refine R_iadd X d_Re_append_26 ?_
    refine V_pc (pc' := 27) rfl ?_
    refine R_putI (ci := 3) X rfl iRe_ok yRe_ok nRe_ok (of_decide_eq_true rfl) rfl 1 rfl rfl rfl rfl tw_73 d_Re_append_27 ?_
    exact R_retv hR h d_Re_append_30
theorem M_Re_append {G : GT} {hp : HP} {a1 : Int32} {p : Int32 × HP} (h : f_Re_append hp a1 = some p) : MV G y_Re_append Y_Re_append [.ref (gA G 1), .int a1] hp p.2 := MV_of rfl (fun Z hz X hR => by subst hz; exact T_Re_append X h hR)
theorem d_BA_feed_0 : decode prog_1_method_2_code 0 = .ok (.iload_n 1, 1) := by decide +kernel
theorem d_BA_feed_1 : decode prog_1_method_2_code 1 = .ok (.iconst 0, 1) := by decide +kernel
theorem d_BA_feed_2 : decode prog_1_method_2_code 2 = .ok (.sipush (255), 3) := by decide +kernel
theorem d_BA_feed_5 : decode prog_1_method_2_code 5 = .ok (.invokestatic 73, 3) := by decide +kernel
theorem d_BA_feed_8 : decode prog_1_method_2_code 8 = .ok (.ifCond .ne (6), 3) := by decide +kernel
theorem d_BA_feed_11 : decode prog_1_method_2_code 11 = .ok (.ldc 77, 2) := by decide +kernel
theorem d_BA_feed_13 : decode prog_1_method_2_code 13 = .ok (.ireturn, 1) := by decide +kernel
theorem d_BA_feed_14 : decode prog_1_method_2_code 14 = .ok (.aload_n 0, 1) := by decide +kernel
theorem d_BA_feed_15 : decode prog_1_method_2_code 15 = .ok (.getfield 10, 3) := by decide +kernel
theorem d_BA_feed_18 : decode prog_1_method_2_code 18 = .ok (.getfield 78, 3) := by decide +kernel
theorem d_BA_feed_21 : decode prog_1_method_2_code 21 = .ok (.sipush (240), 3) := by decide +kernel
theorem d_BA_feed_24 : decode prog_1_method_2_code 24 = .ok (.if_icmp .lt (6), 3) := by decide +kernel
theorem d_BA_feed_27 : decode prog_1_method_2_code 27 = .ok (.ldc 81, 2) := by decide +kernel
theorem d_BA_feed_29 : decode prog_1_method_2_code 29 = .ok (.ireturn, 1) := by decide +kernel
theorem d_BA_feed_30 : decode prog_1_method_2_code 30 = .ok (.aload_n 0, 1) := by decide +kernel
theorem d_BA_feed_31 : decode prog_1_method_2_code 31 = .ok (.getfield 10, 3) := by decide +kernel
theorem d_BA_feed_34 : decode prog_1_method_2_code 34 = .ok (.iload_n 1, 1) := by decide +kernel
theorem d_BA_feed_35 : decode prog_1_method_2_code 35 = .ok (.invokevirtual 82, 3) := by decide +kernel
theorem d_BA_feed_38 : decode prog_1_method_2_code 38 = .ok (.aload_n 0, 1) := by decide +kernel
theorem d_BA_feed_39 : decode prog_1_method_2_code 39 = .ok (.getfield 10, 3) := by decide +kernel
theorem d_BA_feed_42 : decode prog_1_method_2_code 42 = .ok (.getfield 78, 3) := by decide +kernel
theorem d_BA_feed_45 : decode prog_1_method_2_code 45 = .ok (.ireturn, 1) := by decide +kernel
set_option maxRecDepth 20000 in
set_option maxHeartbeats 2000000 in
theorem T_BA_feed {Z : ZT} (X : CX Z Y_BA_feed) {hp : HP} {a1 : Int32} {p : Int32 × HP} (h : f_BA_feed hp a1 = some p) (hR : RetI Z Y_BA_feed .int p.1 p.2) : V Z Y_BA_feed hp 0 [(0, .ref (gA (zG Z) 0)), (1, .int a1)] [] := by
  unfold f_BA_feed at h
  refine R_iload_n X 1 d_BA_feed_0 rfl ?_
  refine R_iconst (v := (0 : Int32)) X d_BA_feed_1 rfl ?_
  refine R_sipush (v := (255 : Int32)) X d_BA_feed_2 rfl ?_
  obtain ⟨p2, e1, h⟩ := ob h
  refine R_scall (As := [.int a1, .int (0 : Int32), .int (255 : Int32)]) (st := []) X (M_BA_within e1) tw_275 cf_BA_within rfl rfl rfl d_BA_feed_5 ?_
  refine R_ifne (tgt := 14) X d_BA_feed_8 rfl (fun c3 => ?_) (fun c3 => ?_)
  · replace h := (if_neg c3).symm.trans h
    refine R_aload_n X 0 d_BA_feed_14 rfl ?_
    refine R_getR (ci := 6) X rfl iBA_ok (of_decide_eq_true rfl) rfl 0 rfl rfl tw_234 d_BA_feed_15 ?_
    refine R_getI (ci := 3) X rfl iRe_ok (of_decide_eq_true rfl) rfl 1 rfl rfl tw_74 d_BA_feed_18 ?_
    refine R_sipush (v := (240 : Int32)) X d_BA_feed_21 rfl ?_
    refine R_icmp_lt (tgt := 30) X d_BA_feed_24 rfl (fun c4 => ?_) (fun c4 => ?_)
    · replace h := (if_pos c4).symm.trans h
      refine R_aload_n X 0 d_BA_feed_30 rfl ?_
      refine R_getR (ci := 6) X rfl iBA_ok (of_decide_eq_true rfl) rfl 0 rfl rfl tw_234 d_BA_feed_31 ?_
      refine R_iload_n X 1 d_BA_feed_34 rfl ?_
      obtain ⟨p6, e5, h⟩ := ob h
      refine R_vcallv (ci := 3) (k := 1) (As := [.int a1]) (st := []) X (M_Re_append e5) tw_280 cf_Re_append (of_decide_eq_true rfl) rfl rfl rfl rfl rfl d_BA_feed_35 ?_
      refine R_aload_n X 0 d_BA_feed_38 rfl ?_
      refine V_pc (pc' := 39) rfl ?_
      refine R_getR (ci := 6) X rfl iBA_ok (of_decide_eq_true rfl) rfl 0 rfl rfl tw_234 d_BA_feed_39 ?_
      refine R_getI (ci := 3) X rfl iRe_ok (of_decide_eq_true rfl) rfl 1 rfl rfl tw_74 d_BA_feed_42 ?_
      exact R_ret hR h d_BA_feed_45
    · replace h := (if_neg c4).symm.trans h
      refine R_ldc (v := (-1000000004 : Int32)) X tw_279 d_BA_feed_27 ?_
      exact R_ret hR h d_BA_feed_29
  · replace h := (if_pos c3).symm.trans h
    refine R_ldc (v := (-1000000002 : Int32)) X tw_278 d_BA_feed_11 ?_
    exact R_ret hR h d_BA_feed_13
theorem M_BA_feed {G : GT} {hp : HP} {a1 : Int32} {p : Int32 × HP} (h : f_BA_feed hp a1 = some p) : MI G y_BA_feed Y_BA_feed .int [.ref (gA G 0), .int a1] hp p.1 p.2 := MI_of rfl (fun Z hz X hR => by subst hz; exact T_BA_feed X h hR)
theorem d_Br_clear_0 : decode prog_2_method_2_code 0 = .ok (.aload_n 0, 1) := by decide +kernel
theorem d_Br_clear_1 : decode prog_2_method_2_code 1 = .ok (.iconst 0, 1) := by decide +kernel
theorem d_Br_clear_2 : decode prog_2_method_2_code 2 = .ok (.putfield 27, 3) := by decide +kernel
theorem d_Br_clear_5 : decode prog_2_method_2_code 5 = .ok (.aload_n 0, 1) := by decide +kernel
theorem d_Br_clear_6 : decode prog_2_method_2_code 6 = .ok (.iconst 0, 1) := by decide +kernel
theorem d_Br_clear_7 : decode prog_2_method_2_code 7 = .ok (.putfield 31, 3) := by decide +kernel
theorem d_Br_clear_10 : decode prog_2_method_2_code 10 = .ok (.aload_n 0, 1) := by decide +kernel
theorem d_Br_clear_11 : decode prog_2_method_2_code 11 = .ok (.iconst 0, 1) := by decide +kernel
theorem d_Br_clear_12 : decode prog_2_method_2_code 12 = .ok (.putfield 34, 3) := by decide +kernel
theorem d_Br_clear_15 : decode prog_2_method_2_code 15 = .ok (.return_, 1) := by decide +kernel
set_option maxRecDepth 20000 in
set_option maxHeartbeats 2000000 in
theorem T_Br_clear {Z : ZT} (X : CX Z Y_Br_clear) {hp : HP} {q0 : Nat} (hq0 : isB q0 = true) {p : Int32 × HP} (h : f_Br_clear hp q0 = some p) (hR : RetV Z Y_Br_clear p.2) : V Z Y_Br_clear hp 0 [(0, .ref (gA (zG Z) q0))] [] := by
  unfold f_Br_clear at h
  refine R_aload_n X 0 d_Br_clear_0 rfl ?_
  refine R_iconst (v := (0 : Int32)) X d_Br_clear_1 rfl ?_
  refine R_putI (ci := 0) X rfl iBr_ok yBr_ok nBr_ok (B_all _ hq0).1.1 (B_all _ hq0).1.2 5 rfl rfl rfl rfl tw_208 d_Br_clear_2 ?_
  refine R_aload_n X 0 d_Br_clear_5 rfl ?_
  refine R_iconst (v := (0 : Int32)) X d_Br_clear_6 rfl ?_
  refine V_pc (pc' := 7) rfl ?_
  refine R_putI (ci := 0) X rfl iBr_ok yBr_ok nBr_ok (B_all _ hq0).1.1 (B_all _ hq0).1.2 6 rfl rfl rfl rfl tw_210 d_Br_clear_7 ?_
  refine R_aload_n X 0 d_Br_clear_10 rfl ?_
  refine R_iconst (v := (0 : Int32)) X d_Br_clear_11 rfl ?_
  refine R_putI (ci := 0) X rfl iBr_ok yBr_ok nBr_ok (B_all _ hq0).1.1 (B_all _ hq0).1.2 7 rfl rfl rfl rfl tw_214 d_Br_clear_12 ?_
  exact R_retv hR h d_Br_clear_15
theorem M_Br_clear {G : GT} {hp : HP} {q0 : Nat} (hq0 : isB q0 = true) {p : Int32 × HP} (h : f_Br_clear hp q0 = some p) : MV G y_Br_clear Y_Br_clear [.ref (gA G q0)] hp p.2 := MV_of rfl (fun Z hz X hR => by subst hz; exact T_Br_clear X hq0 h hR)
theorem d_Re_letter_0 : decode prog_5_method_10_code 0 = .ok (.aload_n 0, 1) := by decide +kernel
theorem d_Re_letter_1 : decode prog_5_method_10_code 1 = .ok (.getfield 27, 3) := by decide +kernel
theorem d_Re_letter_4 : decode prog_5_method_10_code 4 = .ok (.ifCond .lt (36), 3) := by decide +kernel
theorem d_Re_letter_7 : decode prog_5_method_10_code 7 = .ok (.aload_n 0, 1) := by decide +kernel
theorem d_Re_letter_8 : decode prog_5_method_10_code 8 = .ok (.getfield 27, 3) := by decide +kernel
theorem d_Re_letter_11 : decode prog_5_method_10_code 11 = .ok (.aload_n 0, 1) := by decide +kernel
theorem d_Re_letter_12 : decode prog_5_method_10_code 12 = .ok (.getfield 19, 3) := by decide +kernel
theorem d_Re_letter_15 : decode prog_5_method_10_code 15 = .ok (.if_icmp .ge (25), 3) := by decide +kernel
theorem d_Re_letter_18 : decode prog_5_method_10_code 18 = .ok (.aload_n 0, 1) := by decide +kernel
theorem d_Re_letter_19 : decode prog_5_method_10_code 19 = .ok (.getfield 27, 3) := by decide +kernel
theorem d_Re_letter_22 : decode prog_5_method_10_code 22 = .ok (.sipush (240), 3) := by decide +kernel
theorem d_Re_letter_25 : decode prog_5_method_10_code 25 = .ok (.if_icmp .ge (15), 3) := by decide +kernel
theorem d_Re_letter_28 : decode prog_5_method_10_code 28 = .ok (.aload_n 0, 1) := by decide +kernel
theorem d_Re_letter_29 : decode prog_5_method_10_code 29 = .ok (.getfield 9, 3) := by decide +kernel
theorem d_Re_letter_32 : decode prog_5_method_10_code 32 = .ok (.aload_n 0, 1) := by decide +kernel
theorem d_Re_letter_33 : decode prog_5_method_10_code 33 = .ok (.getfield 27, 3) := by decide +kernel
theorem d_Re_letter_36 : decode prog_5_method_10_code 36 = .ok (.iaload, 1) := by decide +kernel
theorem d_Re_letter_37 : decode prog_5_method_10_code 37 = .ok (.goto (4), 3) := by decide +kernel
theorem d_Re_letter_40 : decode prog_5_method_10_code 40 = .ok (.iconst (-1), 1) := by decide +kernel
theorem d_Re_letter_41 : decode prog_5_method_10_code 41 = .ok (.ireturn, 1) := by decide +kernel
set_option maxRecDepth 20000 in
set_option maxHeartbeats 2000000 in
theorem T_Re_letter {Z : ZT} (X : CX Z Y_Re_letter) {hp : HP} {p : Int32 × HP} (h : f_Re_letter hp = some p) (hR : RetI Z Y_Re_letter .int p.1 p.2) : V Z Y_Re_letter hp 0 [(0, .ref (gA (zG Z) 1))] [] := by
  unfold f_Re_letter at h
  refine R_aload_n X 0 d_Re_letter_0 rfl ?_
  refine R_getI (ci := 3) X rfl iRe_ok (of_decide_eq_true rfl) rfl 4 rfl rfl tw_78 d_Re_letter_1 ?_
  refine R_iflt (tgt := 40) X d_Re_letter_4 rfl (fun c1 => ?_) (fun c1 => ?_)
  · replace h := (if_pos c1).symm.trans h
    refine R_iconst (v := (-1 : Int32)) X d_Re_letter_40 rfl ?_
    exact R_ret hR h d_Re_letter_41
  · replace h := (if_neg c1).symm.trans h
    refine R_aload_n X 0 d_Re_letter_7 rfl ?_
    refine R_getI (ci := 3) X rfl iRe_ok (of_decide_eq_true rfl) rfl 4 rfl rfl tw_78 d_Re_letter_8 ?_
    refine R_aload_n X 0 d_Re_letter_11 rfl ?_
    refine R_getI (ci := 3) X rfl iRe_ok (of_decide_eq_true rfl) rfl 1 rfl rfl tw_73 d_Re_letter_12 ?_
    refine R_icmp_ge (tgt := 40) X d_Re_letter_15 rfl (fun c2 => ?_) (fun c2 => ?_)
    · replace h := (if_pos c2).symm.trans h
      refine R_iconst (v := (-1 : Int32)) X d_Re_letter_40 rfl ?_
      exact R_ret hR h d_Re_letter_41
    · replace h := (if_neg c2).symm.trans h
      refine R_aload_n X 0 d_Re_letter_18 rfl ?_
      refine R_getI (ci := 3) X rfl iRe_ok (of_decide_eq_true rfl) rfl 4 rfl rfl tw_78 d_Re_letter_19 ?_
      refine R_sipush (v := (240 : Int32)) X d_Re_letter_22 rfl ?_
      refine R_icmp_ge (tgt := 40) X d_Re_letter_25 rfl (fun c3 => ?_) (fun c3 => ?_)
      · replace h := (if_pos c3).symm.trans h
        refine R_iconst (v := (-1 : Int32)) X d_Re_letter_40 rfl ?_
        exact R_ret hR h d_Re_letter_41
      · replace h := (if_neg c3).symm.trans h
        refine R_aload_n X 0 d_Re_letter_28 rfl ?_
        refine R_getR (ci := 3) X rfl iRe_ok (of_decide_eq_true rfl) rfl 0 rfl rfl tw_72 d_Re_letter_29 ?_
        refine R_aload_n X 0 d_Re_letter_32 rfl ?_
        refine R_getI (ci := 3) X rfl iRe_ok (of_decide_eq_true rfl) rfl 4 rfl rfl tw_78 d_Re_letter_33 ?_
        obtain ⟨i4, h⟩ := ck h
        refine R_iald (n := 240) X (of_decide_eq_true rfl) rfl i4 d_Re_letter_36 ?_
        refine V_pc (pc' := 37) rfl ?_
        refine R_goto (tgt := 41) X d_Re_letter_37 rfl ?_
        exact R_ret hR h d_Re_letter_41
theorem M_Re_letter {G : GT} {hp : HP} {p : Int32 × HP} (h : f_Re_letter hp = some p) : MI G y_Re_letter Y_Re_letter .int [.ref (gA G 1)] hp p.1 p.2 := MI_of rfl (fun Z hz X hR => by subst hz; exact T_Re_letter X h hR)
theorem d_Re_skipBlanks_0 : decode prog_5_method_9_code 0 = .ok (.aload_n 0, 1) := by decide +kernel
theorem d_Re_skipBlanks_1 : decode prog_5_method_9_code 1 = .ok (.getfield 27, 3) := by decide +kernel
theorem d_Re_skipBlanks_4 : decode prog_5_method_9_code 4 = .ok (.aload_n 0, 1) := by decide +kernel
theorem d_Re_skipBlanks_5 : decode prog_5_method_9_code 5 = .ok (.getfield 19, 3) := by decide +kernel
theorem d_Re_skipBlanks_8 : decode prog_5_method_9_code 8 = .ok (.if_icmp .ge (25), 3) := by decide +kernel
theorem d_Re_skipBlanks_11 : decode prog_5_method_9_code 11 = .ok (.aload_n 0, 1) := by decide +kernel
theorem d_Re_skipBlanks_12 : decode prog_5_method_9_code 12 = .ok (.invokevirtual 40, 3) := by decide +kernel
theorem d_Re_skipBlanks_15 : decode prog_5_method_9_code 15 = .ok (.bipush (32), 2) := by decide +kernel
theorem d_Re_skipBlanks_17 : decode prog_5_method_9_code 17 = .ok (.if_icmp .ne (16), 3) := by decide +kernel
theorem d_Re_skipBlanks_20 : decode prog_5_method_9_code 20 = .ok (.aload_n 0, 1) := by decide +kernel
theorem d_Re_skipBlanks_21 : decode prog_5_method_9_code 21 = .ok (.dup, 1) := by decide +kernel
theorem d_Re_skipBlanks_22 : decode prog_5_method_9_code 22 = .ok (.getfield 27, 3) := by decide +kernel
theorem d_Re_skipBlanks_25 : decode prog_5_method_9_code 25 = .ok (.iconst 1, 1) := by decide +kernel
theorem d_Re_skipBlanks_26 : decode prog_5_method_9_code 26 = .ok (.iadd, 1) := by decide +kernel
theorem d_Re_skipBlanks_27 : decode prog_5_method_9_code 27 = .ok (.putfield 27, 3) := by decide +kernel
theorem d_Re_skipBlanks_30 : decode prog_5_method_9_code 30 = .ok (.goto (-30), 3) := by decide +kernel
theorem d_Re_skipBlanks_33 : decode prog_5_method_9_code 33 = .ok (.return_, 1) := by decide +kernel
set_option maxRecDepth 20000 in
set_option maxHeartbeats 2000000 in
theorem T_Re_skipBlanks_L0 {Z : ZT} (X : CX Z Y_Re_skipBlanks) {p : Int32 × HP} (hR : RetV Z Y_Re_skipBlanks p.2) {K : HP → Option (Int32 × HP)} (hK : ∀ (hp : HP), K hp = some p → V Z Y_Re_skipBlanks hp 33 [] []) : ∀ (n : Nat) (hp : HP), f_Re_skipBlanks_L0 K n hp = some p → V Z Y_Re_skipBlanks hp 0 [(0, .ref (gA (zG Z) 1))] [] := by
  intro n
  induction n with
  | zero =>
    intro hp h
    cases h
  | succ n ih =>
    intro hp h
    replace h : f_Re_skipBlanks_L0 K (n + 1) hp = some p := h
    unfold f_Re_skipBlanks_L0 at h
    refine R_aload_n X 0 d_Re_skipBlanks_0 rfl ?_
    refine R_getI (ci := 3) X rfl iRe_ok (of_decide_eq_true rfl) rfl 4 rfl rfl tw_78 d_Re_skipBlanks_1 ?_
    refine R_aload_n X 0 d_Re_skipBlanks_4 rfl ?_
    refine R_getI (ci := 3) X rfl iRe_ok (of_decide_eq_true rfl) rfl 1 rfl rfl tw_73 d_Re_skipBlanks_5 ?_
    refine R_icmp_ge (tgt := 33) X d_Re_skipBlanks_8 rfl (fun c1 => ?_) (fun c1 => ?_)
    · replace h := (if_pos c1).symm.trans h
      refine V_pc (pc' := 33) rfl (R_loc (L' := []) [] rfl ?_)
      exact hK hp h
    · replace h := (if_neg c1).symm.trans h
      refine R_aload_n X 0 d_Re_skipBlanks_11 rfl ?_
      obtain ⟨p3, e2, h⟩ := ob h
      refine R_vcall (ci := 3) (k := 1) (As := []) (st := []) X (M_Re_letter e2) tw_300 cf_Re_letter (of_decide_eq_true rfl) rfl rfl rfl rfl rfl d_Re_skipBlanks_12 ?_
      refine R_bipush (v := (32 : Int32)) X d_Re_skipBlanks_15 rfl ?_
      refine R_icmp_ne (tgt := 33) X d_Re_skipBlanks_17 rfl (fun c4 => ?_) (fun c4 => ?_)
      · replace h := (if_neg c4).symm.trans h
        refine V_pc (pc' := 33) rfl (R_loc (L' := []) [] rfl ?_)
        exact hK p3.2 h
      · replace h := (if_pos c4).symm.trans h
        refine R_aload_n X 0 d_Re_skipBlanks_20 rfl ?_
        refine R_dup X d_Re_skipBlanks_21 rfl ?_
        refine R_getI (ci := 3) X rfl iRe_ok (of_decide_eq_true rfl) rfl 4 rfl rfl tw_78 d_Re_skipBlanks_22 ?_
        refine R_iconst (v := (1 : Int32)) X d_Re_skipBlanks_25 rfl ?_
        refine R_iadd X d_Re_skipBlanks_26 ?_
        refine V_pc (pc' := 27) rfl ?_
        refine R_putI (ci := 3) X rfl iRe_ok yRe_ok nRe_ok (of_decide_eq_true rfl) rfl 4 rfl rfl rfl rfl tw_78 d_Re_skipBlanks_27 ?_
        refine R_goto (tgt := 0) X d_Re_skipBlanks_30 rfl ?_
        refine V_pc (pc' := 0) rfl (R_loc (L' := [(0, .ref (gA (zG Z) 1))]) [0] rfl ?_)
        exact ih (up p3.2 1 4 ((p3.2 1 4) + (1 : Int32))) h
set_option maxRecDepth 20000 in
set_option maxHeartbeats 2000000 in
theorem T_Re_skipBlanks {Z : ZT} (X : CX Z Y_Re_skipBlanks) {hp : HP} {p : Int32 × HP} (h : f_Re_skipBlanks hp = some p) (hR : RetV Z Y_Re_skipBlanks p.2) : V Z Y_Re_skipBlanks hp 0 [(0, .ref (gA (zG Z) 1))] [] := by
  unfold f_Re_skipBlanks at h
  refine V_pc (pc' := 0) rfl (R_loc (L' := [(0, .ref (gA (zG Z) 1))]) [0] rfl ?_)
  refine T_Re_skipBlanks_L0 X hR (fun hp5 h => ?_) _ hp h
  exact R_retv hR h d_Re_skipBlanks_33
theorem M_Re_skipBlanks {G : GT} {hp : HP} {p : Int32 × HP} (h : f_Re_skipBlanks hp = some p) : MV G y_Re_skipBlanks Y_Re_skipBlanks [.ref (gA G 1)] hp p.2 := MV_of rfl (fun Z hz X hR => by subst hz; exact T_Re_skipBlanks X h hR)
theorem d_Br_isThere_0 : decode prog_2_method_6_code 0 = .ok (.aload_n 0, 1) := by decide +kernel
theorem d_Br_isThere_1 : decode prog_2_method_6_code 1 = .ok (.getfield 27, 3) := by decide +kernel
theorem d_Br_isThere_4 : decode prog_2_method_6_code 4 = .ok (.ifCond .le (7), 3) := by decide +kernel
theorem d_Br_isThere_7 : decode prog_2_method_6_code 7 = .ok (.iconst 1, 1) := by decide +kernel
theorem d_Br_isThere_8 : decode prog_2_method_6_code 8 = .ok (.goto (4), 3) := by decide +kernel
theorem d_Br_isThere_11 : decode prog_2_method_6_code 11 = .ok (.iconst 0, 1) := by decide +kernel
theorem d_Br_isThere_12 : decode prog_2_method_6_code 12 = .ok (.ireturn, 1) := by decide +kernel
set_option maxRecDepth 20000 in
set_option maxHeartbeats 2000000 in
theorem T_Br_isThere {Z : ZT} (X : CX Z Y_Br_isThere) {hp : HP} {q0 : Nat} (hq0 : isB q0 = true) {p : Int32 × HP} (h : f_Br_isThere hp q0 = some p) (hR : RetI Z Y_Br_isThere .boolean p.1 p.2) : V Z Y_Br_isThere hp 0 [(0, .ref (gA (zG Z) q0))] [] := by
  unfold f_Br_isThere at h
  refine R_aload_n X 0 d_Br_isThere_0 rfl ?_
  refine R_getI (ci := 0) X rfl iBr_ok (B_all _ hq0).1.1 (B_all _ hq0).1.2 5 rfl rfl tw_208 d_Br_isThere_1 ?_
  refine R_ifle (tgt := 11) X d_Br_isThere_4 rfl (fun c1 => ?_) (fun c1 => ?_)
  · replace h := (if_pos c1).symm.trans h
    refine R_iconst (v := (0 : Int32)) X d_Br_isThere_11 rfl ?_
    exact R_retc hR (by decide) h d_Br_isThere_12
  · replace h := (if_neg c1).symm.trans h
    refine R_iconst (v := (1 : Int32)) X d_Br_isThere_7 rfl ?_
    refine R_goto (tgt := 12) X d_Br_isThere_8 rfl ?_
    exact R_retc hR (by decide) h d_Br_isThere_12
theorem M_Br_isThere {G : GT} {hp : HP} {q0 : Nat} (hq0 : isB q0 = true) {p : Int32 × HP} (h : f_Br_isThere hp q0 = some p) : MI G y_Br_isThere Y_Br_isThere .boolean [.ref (gA G q0)] hp p.1 p.2 := MI_of rfl (fun Z hz X hR => by subst hz; exact T_Br_isThere X hq0 h hR)
theorem d_Re_isFigure_0 : decode prog_5_method_11_code 0 = .ok (.iload_n 0, 1) := by decide +kernel
theorem d_Re_isFigure_1 : decode prog_5_method_11_code 1 = .ok (.bipush (48), 2) := by decide +kernel
theorem d_Re_isFigure_3 : decode prog_5_method_11_code 3 = .ok (.if_icmp .lt (13), 3) := by decide +kernel
theorem d_Re_isFigure_6 : decode prog_5_method_11_code 6 = .ok (.iload_n 0, 1) := by decide +kernel
theorem d_Re_isFigure_7 : decode prog_5_method_11_code 7 = .ok (.bipush (57), 2) := by decide +kernel
theorem d_Re_isFigure_9 : decode prog_5_method_11_code 9 = .ok (.if_icmp .gt (7), 3) := by decide +kernel
theorem d_Re_isFigure_12 : decode prog_5_method_11_code 12 = .ok (.iconst 1, 1) := by decide +kernel
theorem d_Re_isFigure_13 : decode prog_5_method_11_code 13 = .ok (.goto (4), 3) := by decide +kernel
theorem d_Re_isFigure_16 : decode prog_5_method_11_code 16 = .ok (.iconst 0, 1) := by decide +kernel
theorem d_Re_isFigure_17 : decode prog_5_method_11_code 17 = .ok (.ireturn, 1) := by decide +kernel
set_option maxRecDepth 20000 in
set_option maxHeartbeats 2000000 in
theorem T_Re_isFigure {Z : ZT} (X : CX Z Y_Re_isFigure) {hp : HP} {a0 : Int32} {p : Int32 × HP} (h : f_Re_isFigure hp a0 = some p) (hR : RetI Z Y_Re_isFigure .boolean p.1 p.2) : V Z Y_Re_isFigure hp 0 [(0, .int a0)] [] := by
  unfold f_Re_isFigure at h
  refine R_iload_n X 0 d_Re_isFigure_0 rfl ?_
  refine R_bipush (v := (48 : Int32)) X d_Re_isFigure_1 rfl ?_
  refine R_icmp_lt (tgt := 16) X d_Re_isFigure_3 rfl (fun c1 => ?_) (fun c1 => ?_)
  · replace h := (if_pos c1).symm.trans h
    refine R_iconst (v := (0 : Int32)) X d_Re_isFigure_16 rfl ?_
    exact R_retc hR (by decide) h d_Re_isFigure_17
  · replace h := (if_neg c1).symm.trans h
    refine R_iload_n X 0 d_Re_isFigure_6 rfl ?_
    refine R_bipush (v := (57 : Int32)) X d_Re_isFigure_7 rfl ?_
    refine R_icmp_gt (tgt := 16) X d_Re_isFigure_9 rfl (fun c2 => ?_) (fun c2 => ?_)
    · replace h := (if_pos c2).symm.trans h
      refine R_iconst (v := (0 : Int32)) X d_Re_isFigure_16 rfl ?_
      exact R_retc hR (by decide) h d_Re_isFigure_17
    · replace h := (if_neg c2).symm.trans h
      refine R_iconst (v := (1 : Int32)) X d_Re_isFigure_12 rfl ?_
      refine R_goto (tgt := 17) X d_Re_isFigure_13 rfl ?_
      exact R_retc hR (by decide) h d_Re_isFigure_17
theorem M_Re_isFigure {G : GT} {hp : HP} {a0 : Int32} {p : Int32 × HP} (h : f_Re_isFigure hp a0 = some p) : MI G y_Re_isFigure Y_Re_isFigure .boolean [.int a0] hp p.1 p.2 := MI_of rfl (fun Z hz X hR => by subst hz; exact T_Re_isFigure X h hR)
theorem d_Re_fail_0 : decode prog_5_method_12_code 0 = .ok (.aload_n 0, 1) := by decide +kernel
theorem d_Re_fail_1 : decode prog_5_method_12_code 1 = .ok (.getfield 30, 3) := by decide +kernel
theorem d_Re_fail_4 : decode prog_5_method_12_code 4 = .ok (.ifCond .ne (13), 3) := by decide +kernel
theorem d_Re_fail_7 : decode prog_5_method_12_code 7 = .ok (.aload_n 0, 1) := by decide +kernel
theorem d_Re_fail_8 : decode prog_5_method_12_code 8 = .ok (.iload_n 1, 1) := by decide +kernel
theorem d_Re_fail_9 : decode prog_5_method_12_code 9 = .ok (.putfield 30, 3) := by decide +kernel
theorem d_Re_fail_12 : decode prog_5_method_12_code 12 = .ok (.aload_n 0, 1) := by decide +kernel
theorem d_Re_fail_13 : decode prog_5_method_12_code 13 = .ok (.iload_n 2, 1) := by decide +kernel
theorem d_Re_fail_14 : decode prog_5_method_12_code 14 = .ok (.putfield 15, 3) := by decide +kernel
theorem d_Re_fail_17 : decode prog_5_method_12_code 17 = .ok (.return_, 1) := by decide +kernel
set_option maxRecDepth 20000 in
set_option maxHeartbeats 2000000 in
theorem T_Re_fail {Z : ZT} (X : CX Z Y_Re_fail) {hp : HP} {a1 : Int32} {a2 : Int32} {p : Int32 × HP} (h : f_Re_fail hp a1 a2 = some p) (hR : RetV Z Y_Re_fail p.2) : V Z Y_Re_fail hp 0 [(0, .ref (gA (zG Z) 1)), (1, .int a1), (2, .int a2)] [] := by
  unfold f_Re_fail at h
  refine R_aload_n X 0 d_Re_fail_0 rfl ?_
  refine R_getI (ci := 3) X rfl iRe_ok (of_decide_eq_true rfl) rfl 3 rfl rfl tw_77 d_Re_fail_1 ?_
  refine R_ifne (tgt := 17) X d_Re_fail_4 rfl (fun c1 => ?_) (fun c1 => ?_)
  · replace h := (if_neg c1).symm.trans h
    exact R_retv hR h d_Re_fail_17
  · replace h := (if_pos c1).symm.trans h
    refine R_aload_n X 0 d_Re_fail_7 rfl ?_
    refine R_iload_n X 1 d_Re_fail_8 rfl ?_
    refine R_putI (ci := 3) X rfl iRe_ok yRe_ok nRe_ok (of_decide_eq_true rfl) rfl 3 rfl rfl rfl rfl tw_77 d_Re_fail_9 ?_
    refine R_aload_n X 0 d_Re_fail_12 rfl ?_
    refine R_iload_n X 2 d_Re_fail_13 rfl ?_
    refine V_pc (pc' := 14) rfl ?_
    refine R_putI (ci := 3) X rfl iRe_ok yRe_ok nRe_ok (of_decide_eq_true rfl) rfl 2 rfl rfl rfl rfl tw_75 d_Re_fail_14 ?_
    exact R_retv hR h d_Re_fail_17
theorem M_Re_fail {G : GT} {hp : HP} {a1 : Int32} {a2 : Int32} {p : Int32 × HP} (h : f_Re_fail hp a1 a2 = some p) : MV G y_Re_fail Y_Re_fail [.ref (gA G 1), .int a1, .int a2] hp p.2 := MV_of rfl (fun Z hz X hR => by subst hz; exact T_Re_fail X h hR)
theorem d_Re_readNumber_0 : decode prog_5_method_7_code 0 = .ok (.aload_n 0, 1) := by decide +kernel
theorem d_Re_readNumber_1 : decode prog_5_method_7_code 1 = .ok (.invokevirtual 33, 3) := by decide +kernel
theorem d_Re_readNumber_4 : decode prog_5_method_7_code 4 = .ok (.aload_n 0, 1) := by decide +kernel
theorem d_Re_readNumber_5 : decode prog_5_method_7_code 5 = .ok (.getfield 27, 3) := by decide +kernel
theorem d_Re_readNumber_8 : decode prog_5_method_7_code 8 = .ok (.istore_n 2, 1) := by decide +kernel
theorem d_Re_readNumber_9 : decode prog_5_method_7_code 9 = .ok (.iconst 0, 1) := by decide +kernel
theorem d_Re_readNumber_10 : decode prog_5_method_7_code 10 = .ok (.istore_n 3, 1) := by decide +kernel
theorem d_Re_readNumber_11 : decode prog_5_method_7_code 11 = .ok (.aload_n 0, 1) := by decide +kernel
theorem d_Re_readNumber_12 : decode prog_5_method_7_code 12 = .ok (.getfield 27, 3) := by decide +kernel
theorem d_Re_readNumber_15 : decode prog_5_method_7_code 15 = .ok (.aload_n 0, 1) := by decide +kernel
theorem d_Re_readNumber_16 : decode prog_5_method_7_code 16 = .ok (.getfield 19, 3) := by decide +kernel
theorem d_Re_readNumber_19 : decode prog_5_method_7_code 19 = .ok (.if_icmp .ge (49), 3) := by decide +kernel
theorem d_Re_readNumber_22 : decode prog_5_method_7_code 22 = .ok (.aload_n 0, 1) := by decide +kernel
theorem d_Re_readNumber_23 : decode prog_5_method_7_code 23 = .ok (.invokevirtual 40, 3) := by decide +kernel
theorem d_Re_readNumber_26 : decode prog_5_method_7_code 26 = .ok (.invokestatic 85, 3) := by decide +kernel
theorem d_Re_readNumber_29 : decode prog_5_method_7_code 29 = .ok (.ifCond .eq (39), 3) := by decide +kernel
theorem d_Re_readNumber_32 : decode prog_5_method_7_code 32 = .ok (.aload_n 0, 1) := by decide +kernel
theorem d_Re_readNumber_33 : decode prog_5_method_7_code 33 = .ok (.getfield 27, 3) := by decide +kernel
theorem d_Re_readNumber_36 : decode prog_5_method_7_code 36 = .ok (.iload_n 2, 1) := by decide +kernel
theorem d_Re_readNumber_37 : decode prog_5_method_7_code 37 = .ok (.isub, 1) := by decide +kernel
theorem d_Re_readNumber_38 : decode prog_5_method_7_code 38 = .ok (.iconst 3, 1) := by decide +kernel
theorem d_Re_readNumber_39 : decode prog_5_method_7_code 39 = .ok (.if_icmp .ge (16), 3) := by decide +kernel
theorem d_Re_readNumber_42 : decode prog_5_method_7_code 42 = .ok (.iload_n 3, 1) := by decide +kernel
theorem d_Re_readNumber_43 : decode prog_5_method_7_code 43 = .ok (.bipush (10), 2) := by decide +kernel
theorem d_Re_readNumber_45 : decode prog_5_method_7_code 45 = .ok (.imul, 1) := by decide +kernel
theorem d_Re_readNumber_46 : decode prog_5_method_7_code 46 = .ok (.aload_n 0, 1) := by decide +kernel
theorem d_Re_readNumber_47 : decode prog_5_method_7_code 47 = .ok (.invokevirtual 40, 3) := by decide +kernel
theorem d_Re_readNumber_50 : decode prog_5_method_7_code 50 = .ok (.iadd, 1) := by decide +kernel
theorem d_Re_readNumber_51 : decode prog_5_method_7_code 51 = .ok (.bipush (48), 2) := by decide +kernel
theorem d_Re_readNumber_53 : decode prog_5_method_7_code 53 = .ok (.isub, 1) := by decide +kernel
theorem d_Re_readNumber_54 : decode prog_5_method_7_code 54 = .ok (.istore_n 3, 1) := by decide +kernel
theorem d_Re_readNumber_55 : decode prog_5_method_7_code 55 = .ok (.aload_n 0, 1) := by decide +kernel
theorem d_Re_readNumber_56 : decode prog_5_method_7_code 56 = .ok (.dup, 1) := by decide +kernel
theorem d_Re_readNumber_57 : decode prog_5_method_7_code 57 = .ok (.getfield 27, 3) := by decide +kernel
theorem d_Re_readNumber_60 : decode prog_5_method_7_code 60 = .ok (.iconst 1, 1) := by decide +kernel
theorem d_Re_readNumber_61 : decode prog_5_method_7_code 61 = .ok (.iadd, 1) := by decide +kernel
theorem d_Re_readNumber_62 : decode prog_5_method_7_code 62 = .ok (.putfield 27, 3) := by decide +kernel
theorem d_Re_readNumber_65 : decode prog_5_method_7_code 65 = .ok (.goto (-54), 3) := by decide +kernel
theorem d_Re_readNumber_68 : decode prog_5_method_7_code 68 = .ok (.aload_n 0, 1) := by decide +kernel
theorem d_Re_readNumber_69 : decode prog_5_method_7_code 69 = .ok (.getfield 27, 3) := by decide +kernel
theorem d_Re_readNumber_72 : decode prog_5_method_7_code 72 = .ok (.iload_n 2, 1) := by decide +kernel
theorem d_Re_readNumber_73 : decode prog_5_method_7_code 73 = .ok (.if_icmp .ne (12), 3) := by decide +kernel
theorem d_Re_readNumber_76 : decode prog_5_method_7_code 76 = .ok (.aload_n 0, 1) := by decide +kernel
theorem d_Re_readNumber_77 : decode prog_5_method_7_code 77 = .ok (.iconst 1, 1) := by decide +kernel
theorem d_Re_readNumber_78 : decode prog_5_method_7_code 78 = .ok (.iload_n 2, 1) := by decide +kernel
theorem d_Re_readNumber_79 : decode prog_5_method_7_code 79 = .ok (.invokevirtual 51, 3) := by decide +kernel
theorem d_Re_readNumber_82 : decode prog_5_method_7_code 82 = .ok (.goto (24), 3) := by decide +kernel
theorem d_Re_readNumber_85 : decode prog_5_method_7_code 85 = .ok (.aload_n 0, 1) := by decide +kernel
theorem d_Re_readNumber_86 : decode prog_5_method_7_code 86 = .ok (.getfield 27, 3) := by decide +kernel
theorem d_Re_readNumber_89 : decode prog_5_method_7_code 89 = .ok (.iload_n 2, 1) := by decide +kernel
theorem d_Re_readNumber_90 : decode prog_5_method_7_code 90 = .ok (.isub, 1) := by decide +kernel
theorem d_Re_readNumber_91 : decode prog_5_method_7_code 91 = .ok (.iconst 3, 1) := by decide +kernel
theorem d_Re_readNumber_92 : decode prog_5_method_7_code 92 = .ok (.if_icmp .gt (8), 3) := by decide +kernel
theorem d_Re_readNumber_95 : decode prog_5_method_7_code 95 = .ok (.iload_n 3, 1) := by decide +kernel
theorem d_Re_readNumber_96 : decode prog_5_method_7_code 96 = .ok (.iload_n 1, 1) := by decide +kernel
theorem d_Re_readNumber_97 : decode prog_5_method_7_code 97 = .ok (.if_icmp .le (9), 3) := by decide +kernel
theorem d_Re_readNumber_100 : decode prog_5_method_7_code 100 = .ok (.aload_n 0, 1) := by decide +kernel
theorem d_Re_readNumber_101 : decode prog_5_method_7_code 101 = .ok (.iconst 2, 1) := by decide +kernel
theorem d_Re_readNumber_102 : decode prog_5_method_7_code 102 = .ok (.iload_n 2, 1) := by decide +kernel
theorem d_Re_readNumber_103 : decode prog_5_method_7_code 103 = .ok (.invokevirtual 51, 3) := by decide +kernel
theorem d_Re_readNumber_106 : decode prog_5_method_7_code 106 = .ok (.iload_n 3, 1) := by decide +kernel
theorem d_Re_readNumber_107 : decode prog_5_method_7_code 107 = .ok (.ireturn, 1) := by decide +kernel
set_option maxRecDepth 20000 in
set_option maxHeartbeats 2000000 in
theorem T_Re_readNumber_L11 {Z : ZT} (X : CX Z Y_Re_readNumber) {v1 : Int32} {v2 : Int32} {p : Int32 × HP} (hR : RetI Z Y_Re_readNumber .int p.1 p.2) {K : HP → Int32 → Option (Int32 × HP)} (hK : ∀ (hp : HP) (x3 : Int32), K hp x3 = some p → V Z Y_Re_readNumber hp 68 [(0, .ref (gA (zG Z) 1)), (1, .int v1), (2, .int v2), (3, .int x3)] []) : ∀ (n : Nat) (hp : HP) (x3 : Int32), f_Re_readNumber_L11 v1 v2 K n hp x3 = some p → V Z Y_Re_readNumber hp 11 [(0, .ref (gA (zG Z) 1)), (1, .int v1), (2, .int v2), (3, .int x3)] [] := by
  intro n
  induction n with
  | zero =>
    intro hp x3 h
    cases h
  | succ n ih =>
    intro hp x3 h
    replace h : f_Re_readNumber_L11 v1 v2 K (n + 1) hp x3 = some p := h
    unfold f_Re_readNumber_L11 at h
    refine R_aload_n X 0 d_Re_readNumber_11 rfl ?_
    refine R_getI (ci := 3) X rfl iRe_ok (of_decide_eq_true rfl) rfl 4 rfl rfl tw_78 d_Re_readNumber_12 ?_
    refine R_aload_n X 0 d_Re_readNumber_15 rfl ?_
    refine R_getI (ci := 3) X rfl iRe_ok (of_decide_eq_true rfl) rfl 1 rfl rfl tw_73 d_Re_readNumber_16 ?_
    refine R_icmp_ge (tgt := 68) X d_Re_readNumber_19 rfl (fun c3 => ?_) (fun c3 => ?_)
    · replace h := (if_pos c3).symm.trans h
      refine V_pc (pc' := 68) rfl (R_loc (L' := [(0, .ref (gA (zG Z) 1)), (1, .int v1), (2, .int v2), (3, .int x3)]) [0, 1, 2, 3] rfl ?_)
      exact hK hp x3 h
    · replace h := (if_neg c3).symm.trans h
      refine R_aload_n X 0 d_Re_readNumber_22 rfl ?_
      obtain ⟨p5, e4, h⟩ := ob h
      refine R_vcall (ci := 3) (k := 1) (As := []) (st := []) X (M_Re_letter e4) tw_300 cf_Re_letter (of_decide_eq_true rfl) rfl rfl rfl rfl rfl d_Re_readNumber_23 ?_
      obtain ⟨p7, e6, h⟩ := ob h
      refine R_scall (As := [.int p5.1]) (st := []) X (M_Re_isFigure e6) tw_320 cf_Re_isFigure rfl rfl rfl d_Re_readNumber_26 ?_
      refine R_ifeq (tgt := 68) X d_Re_readNumber_29 rfl (fun c8 => ?_) (fun c8 => ?_)
      · replace h := (if_pos c8).symm.trans h
        refine V_pc (pc' := 68) rfl (R_loc (L' := [(0, .ref (gA (zG Z) 1)), (1, .int v1), (2, .int v2), (3, .int x3)]) [0, 1, 2, 3] rfl ?_)
        exact hK p7.2 x3 h
      · replace h := (if_neg c8).symm.trans h
        refine R_aload_n X 0 d_Re_readNumber_32 rfl ?_
        refine R_getI (ci := 3) X rfl iRe_ok (of_decide_eq_true rfl) rfl 4 rfl rfl tw_78 d_Re_readNumber_33 ?_
        refine R_iload_n X 2 d_Re_readNumber_36 rfl ?_
        refine R_isub X d_Re_readNumber_37 ?_
        refine R_iconst (v := (3 : Int32)) X d_Re_readNumber_38 rfl ?_
        refine V_pc (pc' := 39) rfl ?_
        refine R_icmp_ge (tgt := 55) X d_Re_readNumber_39 rfl (fun c9 => ?_) (fun c9 => ?_)
        · replace h := (if_pos c9).symm.trans h
          refine R_aload_n X 0 d_Re_readNumber_55 rfl ?_
          refine R_dup X d_Re_readNumber_56 rfl ?_
          refine R_getI (ci := 3) X rfl iRe_ok (of_decide_eq_true rfl) rfl 4 rfl rfl tw_78 d_Re_readNumber_57 ?_
          refine R_iconst (v := (1 : Int32)) X d_Re_readNumber_60 rfl ?_
          refine R_iadd X d_Re_readNumber_61 ?_
          refine V_pc (pc' := 62) rfl ?_
          refine R_putI (ci := 3) X rfl iRe_ok yRe_ok nRe_ok (of_decide_eq_true rfl) rfl 4 rfl rfl rfl rfl tw_78 d_Re_readNumber_62 ?_
          refine R_goto (tgt := 11) X d_Re_readNumber_65 rfl ?_
          refine V_pc (pc' := 11) rfl (R_loc (L' := [(0, .ref (gA (zG Z) 1)), (1, .int v1), (2, .int v2), (3, .int x3)]) [0, 1, 2, 3] rfl ?_)
          exact ih (up p7.2 1 4 ((p7.2 1 4) + (1 : Int32))) x3 h
        · replace h := (if_neg c9).symm.trans h
          refine R_iload_n X 3 d_Re_readNumber_42 rfl ?_
          refine R_bipush (v := (10 : Int32)) X d_Re_readNumber_43 rfl ?_
          refine R_imul X d_Re_readNumber_45 ?_
          refine R_aload_n X 0 d_Re_readNumber_46 rfl ?_
          obtain ⟨p11, e10, h⟩ := ob h
          refine R_vcall (ci := 3) (k := 1) (As := []) (st := [.int (x3 * (10 : Int32))]) X (M_Re_letter e10) tw_300 cf_Re_letter (of_decide_eq_true rfl) rfl rfl rfl rfl rfl d_Re_readNumber_47 ?_
          refine V_pc (pc' := 50) rfl ?_
          refine R_iadd X d_Re_readNumber_50 ?_
          refine R_bipush (v := (48 : Int32)) X d_Re_readNumber_51 rfl ?_
          refine R_isub X d_Re_readNumber_53 ?_
          refine R_istore_n (L' := [(3, .int (((x3 * (10 : Int32)) + p11.1) - (48 : Int32))), (0, .ref (gA (zG Z) 1)), (1, .int v1), (2, .int v2)]) X d_Re_readNumber_54 (by decide) rfl ?_
          refine R_aload_n X 1 d_Re_readNumber_55 rfl ?_
          refine R_dup X d_Re_readNumber_56 rfl ?_
          refine V_pc (pc' := 57) rfl ?_
          refine R_getI (ci := 3) X rfl iRe_ok (of_decide_eq_true rfl) rfl 4 rfl rfl tw_78 d_Re_readNumber_57 ?_
          refine R_iconst (v := (1 : Int32)) X d_Re_readNumber_60 rfl ?_
          refine R_iadd X d_Re_readNumber_61 ?_
          refine R_putI (ci := 3) X rfl iRe_ok yRe_ok nRe_ok (of_decide_eq_true rfl) rfl 4 rfl rfl rfl rfl tw_78 d_Re_readNumber_62 ?_
          refine R_goto (tgt := 11) X d_Re_readNumber_65 rfl ?_
          refine V_pc (pc' := 11) rfl (R_loc (L' := [(0, .ref (gA (zG Z) 1)), (1, .int v1), (2, .int v2), (3, .int (((x3 * (10 : Int32)) + p11.1) - (48 : Int32)))]) [1, 2, 3, 0] rfl ?_)
          exact ih (up p11.2 1 4 ((p11.2 1 4) + (1 : Int32))) (((x3 * (10 : Int32)) + p11.1) - (48 : Int32)) h
set_option maxRecDepth 20000 in
set_option maxHeartbeats 2000000 in
theorem T_Re_readNumber {Z : ZT} (X : CX Z Y_Re_readNumber) {hp : HP} {a1 : Int32} {p : Int32 × HP} (h : f_Re_readNumber hp a1 = some p) (hR : RetI Z Y_Re_readNumber .int p.1 p.2) : V Z Y_Re_readNumber hp 0 [(0, .ref (gA (zG Z) 1)), (1, .int a1)] [] := by
  unfold f_Re_readNumber at h
  refine R_aload_n X 0 d_Re_readNumber_0 rfl ?_
  obtain ⟨p2, e1, h⟩ := ob h
  refine R_vcallv (ci := 3) (k := 1) (As := []) (st := []) X (M_Re_skipBlanks e1) tw_296 cf_Re_skipBlanks (of_decide_eq_true rfl) rfl rfl rfl rfl rfl d_Re_readNumber_1 ?_
  refine R_aload_n X 0 d_Re_readNumber_4 rfl ?_
  refine R_getI (ci := 3) X rfl iRe_ok (of_decide_eq_true rfl) rfl 4 rfl rfl tw_78 d_Re_readNumber_5 ?_
  refine R_istore_n (L' := [(2, .int (p2.2 1 4)), (0, .ref (gA (zG Z) 1)), (1, .int a1)]) X d_Re_readNumber_8 (by decide) rfl ?_
  refine V_pc (pc' := 9) rfl ?_
  refine R_iconst (v := (0 : Int32)) X d_Re_readNumber_9 rfl ?_
  refine R_istore_n (L' := [(3, .int (0 : Int32)), (2, .int (p2.2 1 4)), (0, .ref (gA (zG Z) 1)), (1, .int a1)]) X d_Re_readNumber_10 (by decide) rfl ?_
  refine V_pc (pc' := 11) rfl (R_loc (L' := [(0, .ref (gA (zG Z) 1)), (1, .int a1), (2, .int (p2.2 1 4)), (3, .int (0 : Int32))]) [2, 3, 1, 0] rfl ?_)
  refine T_Re_readNumber_L11 X hR (fun hp13 w12 h => ?_) _ p2.2 (0 : Int32) h
  refine R_aload_n X 0 d_Re_readNumber_68 rfl ?_
  refine R_getI (ci := 3) X rfl iRe_ok (of_decide_eq_true rfl) rfl 4 rfl rfl tw_78 d_Re_readNumber_69 ?_
  refine R_iload_n X 2 d_Re_readNumber_72 rfl ?_
  refine R_icmp_ne (tgt := 85) X d_Re_readNumber_73 rfl (fun c14 => ?_) (fun c14 => ?_)
  · replace h := (if_neg c14).symm.trans h
    refine R_aload_n X 0 d_Re_readNumber_85 rfl ?_
    refine R_getI (ci := 3) X rfl iRe_ok (of_decide_eq_true rfl) rfl 4 rfl rfl tw_78 d_Re_readNumber_86 ?_
    refine R_iload_n X 2 d_Re_readNumber_89 rfl ?_
    refine R_isub X d_Re_readNumber_90 ?_
    refine R_iconst (v := (3 : Int32)) X d_Re_readNumber_91 rfl ?_
    refine V_pc (pc' := 92) rfl ?_
    refine R_icmp_gt (tgt := 100) X d_Re_readNumber_92 rfl (fun c17 => ?_) (fun c17 => ?_)
    · replace h := (if_pos c17).symm.trans h
      refine R_aload_n X 0 d_Re_readNumber_100 rfl ?_
      refine R_iconst (v := (2 : Int32)) X d_Re_readNumber_101 rfl ?_
      refine R_iload_n X 2 d_Re_readNumber_102 rfl ?_
      obtain ⟨p19, e18, h⟩ := ob h
      refine R_vcallv (ci := 3) (k := 1) (As := [.int (2 : Int32), .int (p2.2 1 4)]) (st := []) X (M_Re_fail e18) tw_323 cf_Re_fail (of_decide_eq_true rfl) rfl rfl rfl rfl rfl d_Re_readNumber_103 ?_
      refine R_iload_n X 3 d_Re_readNumber_106 rfl ?_
      refine V_pc (pc' := 107) rfl ?_
      exact R_ret hR h d_Re_readNumber_107
    · replace h := (if_neg c17).symm.trans h
      refine R_iload_n X 3 d_Re_readNumber_95 rfl ?_
      refine R_iload_n X 1 d_Re_readNumber_96 rfl ?_
      refine R_icmp_le (tgt := 106) X d_Re_readNumber_97 rfl (fun c20 => ?_) (fun c20 => ?_)
      · replace h := (if_pos c20).symm.trans h
        refine R_iload_n X 3 d_Re_readNumber_106 rfl ?_
        exact R_ret hR h d_Re_readNumber_107
      · replace h := (if_neg c20).symm.trans h
        refine R_aload_n X 0 d_Re_readNumber_100 rfl ?_
        refine R_iconst (v := (2 : Int32)) X d_Re_readNumber_101 rfl ?_
        refine R_iload_n X 2 d_Re_readNumber_102 rfl ?_
        obtain ⟨p22, e21, h⟩ := ob h
        refine R_vcallv (ci := 3) (k := 1) (As := [.int (2 : Int32), .int (p2.2 1 4)]) (st := []) X (M_Re_fail e21) tw_323 cf_Re_fail (of_decide_eq_true rfl) rfl rfl rfl rfl rfl d_Re_readNumber_103 ?_
        refine R_iload_n X 3 d_Re_readNumber_106 rfl ?_
        refine V_pc (pc' := 107) rfl ?_
        exact R_ret hR h d_Re_readNumber_107
  · replace h := (if_pos c14).symm.trans h
    refine R_aload_n X 0 d_Re_readNumber_76 rfl ?_
    refine R_iconst (v := (1 : Int32)) X d_Re_readNumber_77 rfl ?_
    refine R_iload_n X 2 d_Re_readNumber_78 rfl ?_
    obtain ⟨p16, e15, h⟩ := ob h
    refine R_vcallv (ci := 3) (k := 1) (As := [.int (1 : Int32), .int (p2.2 1 4)]) (st := []) X (M_Re_fail e15) tw_323 cf_Re_fail (of_decide_eq_true rfl) rfl rfl rfl rfl rfl d_Re_readNumber_79 ?_
    refine R_goto (tgt := 106) X d_Re_readNumber_82 rfl ?_
    refine V_pc (pc' := 106) rfl ?_
    refine R_iload_n X 3 d_Re_readNumber_106 rfl ?_
    exact R_ret hR h d_Re_readNumber_107
theorem M_Re_readNumber {G : GT} {hp : HP} {a1 : Int32} {p : Int32 × HP} (h : f_Re_readNumber hp a1 = some p) : MI G y_Re_readNumber Y_Re_readNumber .int [.ref (gA G 1), .int a1] hp p.1 p.2 := MI_of rfl (fun Z hz X hR => by subst hz; exact T_Re_readNumber X h hR)
theorem d_Br_addPart_0 : decode prog_2_method_3_code 0 = .ok (.aload_n 0, 1) := by decide +kernel
theorem d_Br_addPart_1 : decode prog_2_method_3_code 1 = .ok (.getfield 27, 3) := by decide +kernel
theorem d_Br_addPart_4 : decode prog_2_method_3_code 4 = .ok (.bipush (8), 2) := by decide +kernel
theorem d_Br_addPart_6 : decode prog_2_method_3_code 6 = .ok (.if_icmp .ge (27), 3) := by decide +kernel
theorem d_Br_addPart_9 : decode prog_2_method_3_code 9 = .ok (.aload_n 0, 1) := by decide +kernel
theorem d_Br_addPart_10 : decode prog_2_method_3_code 10 = .ok (.getfield 9, 3) := by decide +kernel
theorem d_Br_addPart_13 : decode prog_2_method_3_code 13 = .ok (.aload_n 0, 1) := by decide +kernel
theorem d_Br_addPart_14 : decode prog_2_method_3_code 14 = .ok (.getfield 27, 3) := by decide +kernel
theorem d_Br_addPart_17 : decode prog_2_method_3_code 17 = .ok (.iload_n 1, 1) := by decide +kernel
theorem d_Br_addPart_18 : decode prog_2_method_3_code 18 = .ok (.sipush (500), 3) := by decide +kernel
theorem d_Br_addPart_21 : decode prog_2_method_3_code 21 = .ok (.isub, 1) := by decide +kernel
theorem d_Br_addPart_22 : decode prog_2_method_3_code 22 = .ok (.iastore, 1) := by decide +kernel
theorem d_Br_addPart_23 : decode prog_2_method_3_code 23 = .ok (.aload_n 0, 1) := by decide +kernel
theorem d_Br_addPart_24 : decode prog_2_method_3_code 24 = .ok (.dup, 1) := by decide +kernel
theorem d_Br_addPart_25 : decode prog_2_method_3_code 25 = .ok (.getfield 27, 3) := by decide +kernel
theorem d_Br_addPart_28 : decode prog_2_method_3_code 28 = .ok (.iconst 1, 1) := by decide +kernel
theorem d_Br_addPart_29 : decode prog_2_method_3_code 29 = .ok (.iadd, 1) := by decide +kernel
theorem d_Br_addPart_30 : decode prog_2_method_3_code 30 = .ok (.putfield 27, 3) := by decide +kernel
theorem d_Br_addPart_33 : decode prog_2_method_3_code 33 = .ok (.return_, 1) := by decide +kernel
set_option maxRecDepth 20000 in
set_option maxHeartbeats 2000000 in
theorem T_Br_addPart {Z : ZT} (X : CX Z Y_Br_addPart) {hp : HP} {q0 : Nat} {a1 : Int32} (hq0 : isB q0 = true) {p : Int32 × HP} (h : f_Br_addPart hp q0 a1 = some p) (hR : RetV Z Y_Br_addPart p.2) : V Z Y_Br_addPart hp 0 [(0, .ref (gA (zG Z) q0)), (1, .int a1)] [] := by
  unfold f_Br_addPart at h
  refine R_aload_n X 0 d_Br_addPart_0 rfl ?_
  refine R_getI (ci := 0) X rfl iBr_ok (B_all _ hq0).1.1 (B_all _ hq0).1.2 5 rfl rfl tw_208 d_Br_addPart_1 ?_
  refine R_bipush (v := (8 : Int32)) X d_Br_addPart_4 rfl ?_
  refine R_icmp_ge (tgt := 33) X d_Br_addPart_6 rfl (fun c1 => ?_) (fun c1 => ?_)
  · replace h := (if_pos c1).symm.trans h
    exact R_retv hR h d_Br_addPart_33
  · replace h := (if_neg c1).symm.trans h
    refine R_aload_n X 0 d_Br_addPart_9 rfl ?_
    refine R_getR (ci := 0) X rfl iBr_ok (B_all _ hq0).1.1 (B_all _ hq0).1.2 0 rfl rfl tw_198 d_Br_addPart_10 ?_
    refine R_aload_n X 0 d_Br_addPart_13 rfl ?_
    refine R_getI (ci := 0) X rfl iBr_ok (B_all _ hq0).1.1 (B_all _ hq0).1.2 5 rfl rfl tw_208 d_Br_addPart_14 ?_
    refine R_iload_n X 1 d_Br_addPart_17 rfl ?_
    refine V_pc (pc' := 18) rfl ?_
    refine R_sipush (v := (500 : Int32)) X d_Br_addPart_18 rfl ?_
    refine R_isub X d_Br_addPart_21 ?_
    obtain ⟨i2, h⟩ := ck h
    refine R_iast (n := 8) X (B_all _ hq0).2.1.1 (B_all _ hq0).2.1.2 i2 d_Br_addPart_22 ?_
    refine R_aload_n X 0 d_Br_addPart_23 rfl ?_
    refine R_dup X d_Br_addPart_24 rfl ?_
    refine R_getI (ci := 0) X rfl iBr_ok (B_all _ hq0).1.1 (B_all _ hq0).1.2 5 rfl rfl tw_208 d_Br_addPart_25 ?_
    refine V_pc (pc' := 28) rfl ?_
    refine R_iconst (v := (1 : Int32)) X d_Br_addPart_28 rfl ?_
    refine R_iadd X d_Br_addPart_29 ?_
    refine R_putI (ci := 0) X rfl iBr_ok yBr_ok nBr_ok (B_all _ hq0).1.1 (B_all _ hq0).1.2 5 rfl rfl rfl rfl tw_208 d_Br_addPart_30 ?_
    exact R_retv hR h d_Br_addPart_33
theorem M_Br_addPart {G : GT} {hp : HP} {q0 : Nat} {a1 : Int32} (hq0 : isB q0 = true) {p : Int32 × HP} (h : f_Br_addPart hp q0 a1 = some p) : MV G y_Br_addPart Y_Br_addPart [.ref (gA G q0), .int a1] hp p.2 := MV_of rfl (fun Z hz X hR => by subst hz; exact T_Br_addPart X hq0 h hR)
theorem d_Re_readWord_0 : decode prog_5_method_8_code 0 = .ok (.aload_n 0, 1) := by decide +kernel
theorem d_Re_readWord_1 : decode prog_5_method_8_code 1 = .ok (.invokevirtual 33, 3) := by decide +kernel
theorem d_Re_readWord_4 : decode prog_5_method_8_code 4 = .ok (.aload_n 0, 1) := by decide +kernel
theorem d_Re_readWord_5 : decode prog_5_method_8_code 5 = .ok (.invokevirtual 40, 3) := by decide +kernel
theorem d_Re_readWord_8 : decode prog_5_method_8_code 8 = .ok (.iload_n 1, 1) := by decide +kernel
theorem d_Re_readWord_9 : decode prog_5_method_8_code 9 = .ok (.if_icmp .ne (16), 3) := by decide +kernel
theorem d_Re_readWord_12 : decode prog_5_method_8_code 12 = .ok (.aload_n 0, 1) := by decide +kernel
theorem d_Re_readWord_13 : decode prog_5_method_8_code 13 = .ok (.dup, 1) := by decide +kernel
theorem d_Re_readWord_14 : decode prog_5_method_8_code 14 = .ok (.getfield 27, 3) := by decide +kernel
theorem d_Re_readWord_17 : decode prog_5_method_8_code 17 = .ok (.iconst 1, 1) := by decide +kernel
theorem d_Re_readWord_18 : decode prog_5_method_8_code 18 = .ok (.iadd, 1) := by decide +kernel
theorem d_Re_readWord_19 : decode prog_5_method_8_code 19 = .ok (.putfield 27, 3) := by decide +kernel
theorem d_Re_readWord_22 : decode prog_5_method_8_code 22 = .ok (.goto (12), 3) := by decide +kernel
theorem d_Re_readWord_25 : decode prog_5_method_8_code 25 = .ok (.aload_n 0, 1) := by decide +kernel
theorem d_Re_readWord_26 : decode prog_5_method_8_code 26 = .ok (.iconst 1, 1) := by decide +kernel
theorem d_Re_readWord_27 : decode prog_5_method_8_code 27 = .ok (.aload_n 0, 1) := by decide +kernel
theorem d_Re_readWord_28 : decode prog_5_method_8_code 28 = .ok (.getfield 27, 3) := by decide +kernel
theorem d_Re_readWord_31 : decode prog_5_method_8_code 31 = .ok (.invokevirtual 51, 3) := by decide +kernel
theorem d_Re_readWord_34 : decode prog_5_method_8_code 34 = .ok (.return_, 1) := by decide +kernel
set_option maxRecDepth 20000 in
set_option maxHeartbeats 2000000 in
theorem T_Re_readWord {Z : ZT} (X : CX Z Y_Re_readWord) {hp : HP} {a1 : Int32} {p : Int32 × HP} (h : f_Re_readWord hp a1 = some p) (hR : RetV Z Y_Re_readWord p.2) : V Z Y_Re_readWord hp 0 [(0, .ref (gA (zG Z) 1)), (1, .int a1)] [] := by
  unfold f_Re_readWord at h
  refine R_aload_n X 0 d_Re_readWord_0 rfl ?_
  obtain ⟨p2, e1, h⟩ := ob h
  refine R_vcallv (ci := 3) (k := 1) (As := []) (st := []) X (M_Re_skipBlanks e1) tw_296 cf_Re_skipBlanks (of_decide_eq_true rfl) rfl rfl rfl rfl rfl d_Re_readWord_1 ?_
  refine R_aload_n X 0 d_Re_readWord_4 rfl ?_
  obtain ⟨p4, e3, h⟩ := ob h
  refine R_vcall (ci := 3) (k := 1) (As := []) (st := []) X (M_Re_letter e3) tw_300 cf_Re_letter (of_decide_eq_true rfl) rfl rfl rfl rfl rfl d_Re_readWord_5 ?_
  refine R_iload_n X 1 d_Re_readWord_8 rfl ?_
  refine V_pc (pc' := 9) rfl ?_
  refine R_icmp_ne (tgt := 25) X d_Re_readWord_9 rfl (fun c5 => ?_) (fun c5 => ?_)
  · replace h := (if_neg c5).symm.trans h
    refine R_aload_n X 0 d_Re_readWord_25 rfl ?_
    refine R_iconst (v := (1 : Int32)) X d_Re_readWord_26 rfl ?_
    refine R_aload_n X 0 d_Re_readWord_27 rfl ?_
    refine R_getI (ci := 3) X rfl iRe_ok (of_decide_eq_true rfl) rfl 4 rfl rfl tw_78 d_Re_readWord_28 ?_
    obtain ⟨p7, e6, h⟩ := ob h
    refine R_vcallv (ci := 3) (k := 1) (As := [.int (1 : Int32), .int (p4.2 1 4)]) (st := []) X (M_Re_fail e6) tw_323 cf_Re_fail (of_decide_eq_true rfl) rfl rfl rfl rfl rfl d_Re_readWord_31 ?_
    refine V_pc (pc' := 34) rfl ?_
    exact R_retv hR h d_Re_readWord_34
  · replace h := (if_pos c5).symm.trans h
    refine R_aload_n X 0 d_Re_readWord_12 rfl ?_
    refine R_dup X d_Re_readWord_13 rfl ?_
    refine R_getI (ci := 3) X rfl iRe_ok (of_decide_eq_true rfl) rfl 4 rfl rfl tw_78 d_Re_readWord_14 ?_
    refine R_iconst (v := (1 : Int32)) X d_Re_readWord_17 rfl ?_
    refine R_iadd X d_Re_readWord_18 ?_
    refine V_pc (pc' := 19) rfl ?_
    refine R_putI (ci := 3) X rfl iRe_ok yRe_ok nRe_ok (of_decide_eq_true rfl) rfl 4 rfl rfl rfl rfl tw_78 d_Re_readWord_19 ?_
    refine R_goto (tgt := 34) X d_Re_readWord_22 rfl ?_
    exact R_retv hR h d_Re_readWord_34
theorem M_Re_readWord {G : GT} {hp : HP} {a1 : Int32} {p : Int32 × HP} (h : f_Re_readWord hp a1 = some p) : MV G y_Re_readWord Y_Re_readWord [.ref (gA G 1), .int a1] hp p.2 := MV_of rfl (fun Z hz X hR => by subst hz; exact T_Re_readWord X h hR)
theorem d_Re_readParts_0 : decode prog_5_method_5_code 0 = .ok (.aload_n 1, 1) := by decide +kernel
theorem d_Re_readParts_1 : decode prog_5_method_5_code 1 = .ok (.aload_n 0, 1) := by decide +kernel
theorem d_Re_readParts_2 : decode prog_5_method_5_code 2 = .ok (.sipush (999), 3) := by decide +kernel
theorem d_Re_readParts_5 : decode prog_5_method_5_code 5 = .ok (.invokevirtual 67, 3) := by decide +kernel
theorem d_Re_readParts_8 : decode prog_5_method_5_code 8 = .ok (.invokevirtual 78, 3) := by decide +kernel
theorem d_Re_readParts_11 : decode prog_5_method_5_code 11 = .ok (.aload_n 0, 1) := by decide +kernel
theorem d_Re_readParts_12 : decode prog_5_method_5_code 12 = .ok (.invokevirtual 33, 3) := by decide +kernel
theorem d_Re_readParts_15 : decode prog_5_method_5_code 15 = .ok (.iconst 1, 1) := by decide +kernel
theorem d_Re_readParts_16 : decode prog_5_method_5_code 16 = .ok (.istore_n 2, 1) := by decide +kernel
theorem d_Re_readParts_17 : decode prog_5_method_5_code 17 = .ok (.iload_n 2, 1) := by decide +kernel
theorem d_Re_readParts_18 : decode prog_5_method_5_code 18 = .ok (.bipush (8), 2) := by decide +kernel
theorem d_Re_readParts_20 : decode prog_5_method_5_code 20 = .ok (.if_icmp .ge (50), 3) := by decide +kernel
theorem d_Re_readParts_23 : decode prog_5_method_5_code 23 = .ok (.aload_n 0, 1) := by decide +kernel
theorem d_Re_readParts_24 : decode prog_5_method_5_code 24 = .ok (.getfield 30, 3) := by decide +kernel
theorem d_Re_readParts_27 : decode prog_5_method_5_code 27 = .ok (.ifCond .ne (43), 3) := by decide +kernel
theorem d_Re_readParts_30 : decode prog_5_method_5_code 30 = .ok (.aload_n 0, 1) := by decide +kernel
theorem d_Re_readParts_31 : decode prog_5_method_5_code 31 = .ok (.invokevirtual 40, 3) := by decide +kernel
theorem d_Re_readParts_34 : decode prog_5_method_5_code 34 = .ok (.bipush (44), 2) := by decide +kernel
theorem d_Re_readParts_36 : decode prog_5_method_5_code 36 = .ok (.if_icmp .ne (34), 3) := by decide +kernel
theorem d_Re_readParts_39 : decode prog_5_method_5_code 39 = .ok (.aload_n 0, 1) := by decide +kernel
theorem d_Re_readParts_40 : decode prog_5_method_5_code 40 = .ok (.dup, 1) := by decide +kernel
theorem d_Re_readParts_41 : decode prog_5_method_5_code 41 = .ok (.getfield 27, 3) := by decide +kernel
theorem d_Re_readParts_44 : decode prog_5_method_5_code 44 = .ok (.iconst 1, 1) := by decide +kernel
theorem d_Re_readParts_45 : decode prog_5_method_5_code 45 = .ok (.iadd, 1) := by decide +kernel
theorem d_Re_readParts_46 : decode prog_5_method_5_code 46 = .ok (.putfield 27, 3) := by decide +kernel
theorem d_Re_readParts_49 : decode prog_5_method_5_code 49 = .ok (.aload_n 1, 1) := by decide +kernel
theorem d_Re_readParts_50 : decode prog_5_method_5_code 50 = .ok (.aload_n 0, 1) := by decide +kernel
theorem d_Re_readParts_51 : decode prog_5_method_5_code 51 = .ok (.sipush (999), 3) := by decide +kernel
theorem d_Re_readParts_54 : decode prog_5_method_5_code 54 = .ok (.invokevirtual 67, 3) := by decide +kernel
theorem d_Re_readParts_57 : decode prog_5_method_5_code 57 = .ok (.invokevirtual 78, 3) := by decide +kernel
theorem d_Re_readParts_60 : decode prog_5_method_5_code 60 = .ok (.aload_n 0, 1) := by decide +kernel
theorem d_Re_readParts_61 : decode prog_5_method_5_code 61 = .ok (.invokevirtual 33, 3) := by decide +kernel
theorem d_Re_readParts_64 : decode prog_5_method_5_code 64 = .ok (.iinc 2 (1), 3) := by decide +kernel
theorem d_Re_readParts_67 : decode prog_5_method_5_code 67 = .ok (.goto (-50), 3) := by decide +kernel
theorem d_Re_readParts_70 : decode prog_5_method_5_code 70 = .ok (.aload_n 0, 1) := by decide +kernel
theorem d_Re_readParts_71 : decode prog_5_method_5_code 71 = .ok (.bipush (59), 2) := by decide +kernel
theorem d_Re_readParts_73 : decode prog_5_method_5_code 73 = .ok (.invokevirtual 75, 3) := by decide +kernel
theorem d_Re_readParts_76 : decode prog_5_method_5_code 76 = .ok (.return_, 1) := by decide +kernel
set_option maxRecDepth 20000 in
set_option maxHeartbeats 2000000 in
theorem T_Re_readParts_L17 {Z : ZT} (X : CX Z Y_Re_readParts) {q1 : Nat} (hq1 : isB q1 = true) {p : Int32 × HP} (hR : RetV Z Y_Re_readParts p.2) {K : HP → Option (Int32 × HP)} (hK : ∀ (hp : HP), K hp = some p → V Z Y_Re_readParts hp 70 [(0, .ref (gA (zG Z) 1))] []) : ∀ (n : Nat) (hp : HP) (x2 : Int32), f_Re_readParts_L17 q1 K n hp x2 = some p → V Z Y_Re_readParts hp 17 [(0, .ref (gA (zG Z) 1)), (1, .ref (gA (zG Z) q1)), (2, .int x2)] [] := by
  intro n
  induction n with
  | zero =>
    intro hp x2 h
    cases h
  | succ n ih =>
    intro hp x2 h
    replace h : f_Re_readParts_L17 q1 K (n + 1) hp x2 = some p := h
    unfold f_Re_readParts_L17 at h
    refine R_iload_n X 2 d_Re_readParts_17 rfl ?_
    refine R_bipush (v := (8 : Int32)) X d_Re_readParts_18 rfl ?_
    refine R_icmp_ge (tgt := 70) X d_Re_readParts_20 rfl (fun c7 => ?_) (fun c7 => ?_)
    · replace h := (if_pos c7).symm.trans h
      refine V_pc (pc' := 70) rfl (R_loc (L' := [(0, .ref (gA (zG Z) 1))]) [0] rfl ?_)
      exact hK hp h
    · replace h := (if_neg c7).symm.trans h
      refine R_aload_n X 0 d_Re_readParts_23 rfl ?_
      refine R_getI (ci := 3) X rfl iRe_ok (of_decide_eq_true rfl) rfl 3 rfl rfl tw_77 d_Re_readParts_24 ?_
      refine R_ifne (tgt := 70) X d_Re_readParts_27 rfl (fun c8 => ?_) (fun c8 => ?_)
      · replace h := (if_neg c8).symm.trans h
        refine V_pc (pc' := 70) rfl (R_loc (L' := [(0, .ref (gA (zG Z) 1))]) [0] rfl ?_)
        exact hK hp h
      · replace h := (if_pos c8).symm.trans h
        refine R_aload_n X 0 d_Re_readParts_30 rfl ?_
        obtain ⟨p10, e9, h⟩ := ob h
        refine R_vcall (ci := 3) (k := 1) (As := []) (st := []) X (M_Re_letter e9) tw_300 cf_Re_letter (of_decide_eq_true rfl) rfl rfl rfl rfl rfl d_Re_readParts_31 ?_
        refine R_bipush (v := (44 : Int32)) X d_Re_readParts_34 rfl ?_
        refine R_icmp_ne (tgt := 70) X d_Re_readParts_36 rfl (fun c11 => ?_) (fun c11 => ?_)
        · replace h := (if_neg c11).symm.trans h
          refine V_pc (pc' := 70) rfl (R_loc (L' := [(0, .ref (gA (zG Z) 1))]) [0] rfl ?_)
          exact hK p10.2 h
        · replace h := (if_pos c11).symm.trans h
          refine R_aload_n X 0 d_Re_readParts_39 rfl ?_
          refine R_dup X d_Re_readParts_40 rfl ?_
          refine R_getI (ci := 3) X rfl iRe_ok (of_decide_eq_true rfl) rfl 4 rfl rfl tw_78 d_Re_readParts_41 ?_
          refine R_iconst (v := (1 : Int32)) X d_Re_readParts_44 rfl ?_
          refine R_iadd X d_Re_readParts_45 ?_
          refine V_pc (pc' := 46) rfl ?_
          refine R_putI (ci := 3) X rfl iRe_ok yRe_ok nRe_ok (of_decide_eq_true rfl) rfl 4 rfl rfl rfl rfl tw_78 d_Re_readParts_46 ?_
          refine R_aload_n X 1 d_Re_readParts_49 rfl ?_
          refine R_aload_n X 0 d_Re_readParts_50 rfl ?_
          refine R_sipush (v := (999 : Int32)) X d_Re_readParts_51 rfl ?_
          obtain ⟨p13, e12, h⟩ := ob h
          refine R_vcall (ci := 3) (k := 1) (As := [.int (999 : Int32)]) (st := [.ref (gA (zG Z) q1)]) X (M_Re_readNumber e12) tw_316 cf_Re_readNumber (of_decide_eq_true rfl) rfl rfl rfl rfl rfl d_Re_readParts_54 ?_
          obtain ⟨p15, e14, h⟩ := ob h
          refine R_vcallv (ci := 0) (k := q1) (As := [.int p13.1]) (st := []) X (M_Br_addPart hq1 e14) tw_327 cf_Br_addPart (B_all _ hq1).1.1 (B_all _ hq1).1.2 rfl rfl rfl rfl d_Re_readParts_57 ?_
          refine V_pc (pc' := 60) rfl ?_
          refine R_aload_n X 0 d_Re_readParts_60 rfl ?_
          obtain ⟨p17, e16, h⟩ := ob h
          refine R_vcallv (ci := 3) (k := 1) (As := []) (st := []) X (M_Re_skipBlanks e16) tw_296 cf_Re_skipBlanks (of_decide_eq_true rfl) rfl rfl rfl rfl rfl d_Re_readParts_61 ?_
          refine R_iinc (v := (x2 + 1)) (L' := [(2, .int (x2 + 1)), (0, .ref (gA (zG Z) 1)), (1, .ref (gA (zG Z) q1))]) X 2 d_Re_readParts_64 rfl rfl (by decide) rfl ?_
          refine R_goto (tgt := 17) X d_Re_readParts_67 rfl ?_
          refine V_pc (pc' := 17) rfl (R_loc (L' := [(0, .ref (gA (zG Z) 1)), (1, .ref (gA (zG Z) q1)), (2, .int (x2 + 1))]) [1, 2, 0] rfl ?_)
          exact ih p17.2 (x2 + 1) h
set_option maxRecDepth 20000 in
set_option maxHeartbeats 2000000 in
theorem T_Re_readParts {Z : ZT} (X : CX Z Y_Re_readParts) {hp : HP} {q1 : Nat} (hq1 : isB q1 = true) {p : Int32 × HP} (h : f_Re_readParts hp q1 = some p) (hR : RetV Z Y_Re_readParts p.2) : V Z Y_Re_readParts hp 0 [(0, .ref (gA (zG Z) 1)), (1, .ref (gA (zG Z) q1))] [] := by
  unfold f_Re_readParts at h
  refine R_aload_n X 1 d_Re_readParts_0 rfl ?_
  refine R_aload_n X 0 d_Re_readParts_1 rfl ?_
  refine R_sipush (v := (999 : Int32)) X d_Re_readParts_2 rfl ?_
  obtain ⟨p2, e1, h⟩ := ob h
  refine R_vcall (ci := 3) (k := 1) (As := [.int (999 : Int32)]) (st := [.ref (gA (zG Z) q1)]) X (M_Re_readNumber e1) tw_316 cf_Re_readNumber (of_decide_eq_true rfl) rfl rfl rfl rfl rfl d_Re_readParts_5 ?_
  obtain ⟨p4, e3, h⟩ := ob h
  refine R_vcallv (ci := 0) (k := q1) (As := [.int p2.1]) (st := []) X (M_Br_addPart hq1 e3) tw_327 cf_Br_addPart (B_all _ hq1).1.1 (B_all _ hq1).1.2 rfl rfl rfl rfl d_Re_readParts_8 ?_
  refine V_pc (pc' := 11) rfl ?_
  refine R_aload_n X 0 d_Re_readParts_11 rfl ?_
  obtain ⟨p6, e5, h⟩ := ob h
  refine R_vcallv (ci := 3) (k := 1) (As := []) (st := []) X (M_Re_skipBlanks e5) tw_296 cf_Re_skipBlanks (of_decide_eq_true rfl) rfl rfl rfl rfl rfl d_Re_readParts_12 ?_
  refine R_iconst (v := (1 : Int32)) X d_Re_readParts_15 rfl ?_
  refine R_istore_n (L' := [(2, .int (1 : Int32)), (0, .ref (gA (zG Z) 1)), (1, .ref (gA (zG Z) q1))]) X d_Re_readParts_16 (by decide) rfl ?_
  refine V_pc (pc' := 17) rfl (R_loc (L' := [(0, .ref (gA (zG Z) 1)), (1, .ref (gA (zG Z) q1)), (2, .int (1 : Int32))]) [1, 2, 0] rfl ?_)
  refine T_Re_readParts_L17 X hq1 hR (fun hp18 h => ?_) _ p6.2 (1 : Int32) h
  refine R_aload_n X 0 d_Re_readParts_70 rfl ?_
  refine R_bipush (v := (59 : Int32)) X d_Re_readParts_71 rfl ?_
  obtain ⟨p20, e19, h⟩ := ob h
  refine R_vcallv (ci := 3) (k := 1) (As := [.int (59 : Int32)]) (st := []) X (M_Re_readWord e19) tw_331 cf_Re_readWord (of_decide_eq_true rfl) rfl rfl rfl rfl rfl d_Re_readParts_73 ?_
  exact R_retv hR h d_Re_readParts_76
theorem M_Re_readParts {G : GT} {hp : HP} {q1 : Nat} (hq1 : isB q1 = true) {p : Int32 × HP} (h : f_Re_readParts hp q1 = some p) : MV G y_Re_readParts Y_Re_readParts [.ref (gA G 1), .ref (gA G q1)] hp p.2 := MV_of rfl (fun Z hz X hR => by subst hz; exact T_Re_readParts X hq1 h hR)
theorem d_Br_addCustomer_0 : decode prog_2_method_4_code 0 = .ok (.aload_n 0, 1) := by decide +kernel
theorem d_Br_addCustomer_1 : decode prog_2_method_4_code 1 = .ok (.getfield 31, 3) := by decide +kernel
theorem d_Br_addCustomer_4 : decode prog_2_method_4_code 4 = .ok (.iconst 5, 1) := by decide +kernel
theorem d_Br_addCustomer_5 : decode prog_2_method_4_code 5 = .ok (.if_icmp .ge (47), 3) := by decide +kernel
theorem d_Br_addCustomer_8 : decode prog_2_method_4_code 8 = .ok (.aload_n 0, 1) := by decide +kernel
theorem d_Br_addCustomer_9 : decode prog_2_method_4_code 9 = .ok (.getfield 15, 3) := by decide +kernel
theorem d_Br_addCustomer_12 : decode prog_2_method_4_code 12 = .ok (.aload_n 0, 1) := by decide +kernel
theorem d_Br_addCustomer_13 : decode prog_2_method_4_code 13 = .ok (.getfield 31, 3) := by decide +kernel
theorem d_Br_addCustomer_16 : decode prog_2_method_4_code 16 = .ok (.iload_n 1, 1) := by decide +kernel
theorem d_Br_addCustomer_17 : decode prog_2_method_4_code 17 = .ok (.sipush (500), 3) := by decide +kernel
theorem d_Br_addCustomer_20 : decode prog_2_method_4_code 20 = .ok (.isub, 1) := by decide +kernel
theorem d_Br_addCustomer_21 : decode prog_2_method_4_code 21 = .ok (.iastore, 1) := by decide +kernel
theorem d_Br_addCustomer_22 : decode prog_2_method_4_code 22 = .ok (.aload_n 0, 1) := by decide +kernel
theorem d_Br_addCustomer_23 : decode prog_2_method_4_code 23 = .ok (.getfield 18, 3) := by decide +kernel
theorem d_Br_addCustomer_26 : decode prog_2_method_4_code 26 = .ok (.aload_n 0, 1) := by decide +kernel
theorem d_Br_addCustomer_27 : decode prog_2_method_4_code 27 = .ok (.getfield 31, 3) := by decide +kernel
theorem d_Br_addCustomer_30 : decode prog_2_method_4_code 30 = .ok (.iload_n 2, 1) := by decide +kernel
theorem d_Br_addCustomer_31 : decode prog_2_method_4_code 31 = .ok (.iastore, 1) := by decide +kernel
theorem d_Br_addCustomer_32 : decode prog_2_method_4_code 32 = .ok (.aload_n 0, 1) := by decide +kernel
theorem d_Br_addCustomer_33 : decode prog_2_method_4_code 33 = .ok (.getfield 21, 3) := by decide +kernel
theorem d_Br_addCustomer_36 : decode prog_2_method_4_code 36 = .ok (.aload_n 0, 1) := by decide +kernel
theorem d_Br_addCustomer_37 : decode prog_2_method_4_code 37 = .ok (.getfield 31, 3) := by decide +kernel
theorem d_Br_addCustomer_40 : decode prog_2_method_4_code 40 = .ok (.iload_n 3, 1) := by decide +kernel
theorem d_Br_addCustomer_41 : decode prog_2_method_4_code 41 = .ok (.iastore, 1) := by decide +kernel
theorem d_Br_addCustomer_42 : decode prog_2_method_4_code 42 = .ok (.aload_n 0, 1) := by decide +kernel
theorem d_Br_addCustomer_43 : decode prog_2_method_4_code 43 = .ok (.dup, 1) := by decide +kernel
theorem d_Br_addCustomer_44 : decode prog_2_method_4_code 44 = .ok (.getfield 31, 3) := by decide +kernel
theorem d_Br_addCustomer_47 : decode prog_2_method_4_code 47 = .ok (.iconst 1, 1) := by decide +kernel
theorem d_Br_addCustomer_48 : decode prog_2_method_4_code 48 = .ok (.iadd, 1) := by decide +kernel
theorem d_Br_addCustomer_49 : decode prog_2_method_4_code 49 = .ok (.putfield 31, 3) := by decide +kernel
theorem d_Br_addCustomer_52 : decode prog_2_method_4_code 52 = .ok (.return_, 1) := by decide +kernel
set_option maxRecDepth 20000 in
set_option maxHeartbeats 2000000 in
theorem T_Br_addCustomer {Z : ZT} (X : CX Z Y_Br_addCustomer) {hp : HP} {q0 : Nat} {a1 : Int32} {a2 : Int32} {a3 : Int32} (hq0 : isB q0 = true) {p : Int32 × HP} (h : f_Br_addCustomer hp q0 a1 a2 a3 = some p) (hR : RetV Z Y_Br_addCustomer p.2) : V Z Y_Br_addCustomer hp 0 [(0, .ref (gA (zG Z) q0)), (1, .int a1), (2, .int a2), (3, .int a3)] [] := by
  unfold f_Br_addCustomer at h
  refine R_aload_n X 0 d_Br_addCustomer_0 rfl ?_
  refine R_getI (ci := 0) X rfl iBr_ok (B_all _ hq0).1.1 (B_all _ hq0).1.2 6 rfl rfl tw_210 d_Br_addCustomer_1 ?_
  refine R_iconst (v := (5 : Int32)) X d_Br_addCustomer_4 rfl ?_
  refine R_icmp_ge (tgt := 52) X d_Br_addCustomer_5 rfl (fun c1 => ?_) (fun c1 => ?_)
  · replace h := (if_pos c1).symm.trans h
    exact R_retv hR h d_Br_addCustomer_52
  · replace h := (if_neg c1).symm.trans h
    refine R_aload_n X 0 d_Br_addCustomer_8 rfl ?_
    refine R_getR (ci := 0) X rfl iBr_ok (B_all _ hq0).1.1 (B_all _ hq0).1.2 1 rfl rfl tw_201 d_Br_addCustomer_9 ?_
    refine R_aload_n X 0 d_Br_addCustomer_12 rfl ?_
    refine R_getI (ci := 0) X rfl iBr_ok (B_all _ hq0).1.1 (B_all _ hq0).1.2 6 rfl rfl tw_210 d_Br_addCustomer_13 ?_
    refine R_iload_n X 1 d_Br_addCustomer_16 rfl ?_
    refine V_pc (pc' := 17) rfl ?_
    refine R_sipush (v := (500 : Int32)) X d_Br_addCustomer_17 rfl ?_
    refine R_isub X d_Br_addCustomer_20 ?_
    obtain ⟨i2, h⟩ := ck h
    refine R_iast (n := 5) X (B_all _ hq0).2.2.1.1 (B_all _ hq0).2.2.1.2 i2 d_Br_addCustomer_21 ?_
    refine R_aload_n X 0 d_Br_addCustomer_22 rfl ?_
    refine R_getR (ci := 0) X rfl iBr_ok (B_all _ hq0).1.1 (B_all _ hq0).1.2 2 rfl rfl tw_203 d_Br_addCustomer_23 ?_
    refine R_aload_n X 0 d_Br_addCustomer_26 rfl ?_
    refine V_pc (pc' := 27) rfl ?_
    refine R_getI (ci := 0) X rfl iBr_ok (B_all _ hq0).1.1 (B_all _ hq0).1.2 6 rfl rfl tw_210 d_Br_addCustomer_27 ?_
    refine R_iload_n X 2 d_Br_addCustomer_30 rfl ?_
    obtain ⟨i3, h⟩ := ck h
    refine R_iast (n := 5) X (B_all _ hq0).2.2.2.1.1 (B_all _ hq0).2.2.2.1.2 i3 d_Br_addCustomer_31 ?_
    refine R_aload_n X 0 d_Br_addCustomer_32 rfl ?_
    refine R_getR (ci := 0) X rfl iBr_ok (B_all _ hq0).1.1 (B_all _ hq0).1.2 3 rfl rfl tw_205 d_Br_addCustomer_33 ?_
    refine R_aload_n X 0 d_Br_addCustomer_36 rfl ?_
    refine V_pc (pc' := 37) rfl ?_
    refine R_getI (ci := 0) X rfl iBr_ok (B_all _ hq0).1.1 (B_all _ hq0).1.2 6 rfl rfl tw_210 d_Br_addCustomer_37 ?_
    refine R_iload_n X 3 d_Br_addCustomer_40 rfl ?_
    obtain ⟨i4, h⟩ := ck h
    refine R_iast (n := 5) X (B_all _ hq0).2.2.2.2.1.1 (B_all _ hq0).2.2.2.2.1.2 i4 d_Br_addCustomer_41 ?_
    refine R_aload_n X 0 d_Br_addCustomer_42 rfl ?_
    refine R_dup X d_Br_addCustomer_43 rfl ?_
    refine R_getI (ci := 0) X rfl iBr_ok (B_all _ hq0).1.1 (B_all _ hq0).1.2 6 rfl rfl tw_210 d_Br_addCustomer_44 ?_
    refine V_pc (pc' := 47) rfl ?_
    refine R_iconst (v := (1 : Int32)) X d_Br_addCustomer_47 rfl ?_
    refine R_iadd X d_Br_addCustomer_48 ?_
    refine R_putI (ci := 0) X rfl iBr_ok yBr_ok nBr_ok (B_all _ hq0).1.1 (B_all _ hq0).1.2 6 rfl rfl rfl rfl tw_210 d_Br_addCustomer_49 ?_
    exact R_retv hR h d_Br_addCustomer_52
theorem M_Br_addCustomer {G : GT} {hp : HP} {q0 : Nat} {a1 : Int32} {a2 : Int32} {a3 : Int32} (hq0 : isB q0 = true) {p : Int32 × HP} (h : f_Br_addCustomer hp q0 a1 a2 a3 = some p) : MV G y_Br_addCustomer Y_Br_addCustomer [.ref (gA G q0), .int a1, .int a2, .int a3] hp p.2 := MV_of rfl (fun Z hz X hR => by subst hz; exact T_Br_addCustomer X hq0 h hR)
theorem d_Re_readCustomer_0 : decode prog_5_method_6_code 0 = .ok (.aload_n 0, 1) := by decide +kernel
theorem d_Re_readCustomer_1 : decode prog_5_method_6_code 1 = .ok (.sipush (999), 3) := by decide +kernel
theorem d_Re_readCustomer_4 : decode prog_5_method_6_code 4 = .ok (.invokevirtual 67, 3) := by decide +kernel
theorem d_Re_readCustomer_7 : decode prog_5_method_6_code 7 = .ok (.istore_n 2, 1) := by decide +kernel
theorem d_Re_readCustomer_8 : decode prog_5_method_6_code 8 = .ok (.aload_n 0, 1) := by decide +kernel
theorem d_Re_readCustomer_9 : decode prog_5_method_6_code 9 = .ok (.bipush (99), 2) := by decide +kernel
theorem d_Re_readCustomer_11 : decode prog_5_method_6_code 11 = .ok (.invokevirtual 67, 3) := by decide +kernel
theorem d_Re_readCustomer_14 : decode prog_5_method_6_code 14 = .ok (.istore_n 3, 1) := by decide +kernel
theorem d_Re_readCustomer_15 : decode prog_5_method_6_code 15 = .ok (.aload_n 0, 1) := by decide +kernel
theorem d_Re_readCustomer_16 : decode prog_5_method_6_code 16 = .ok (.bipush (99), 2) := by decide +kernel
theorem d_Re_readCustomer_18 : decode prog_5_method_6_code 18 = .ok (.invokevirtual 67, 3) := by decide +kernel
theorem d_Re_readCustomer_21 : decode prog_5_method_6_code 21 = .ok (.istore 4, 2) := by decide +kernel
theorem d_Re_readCustomer_23 : decode prog_5_method_6_code 23 = .ok (.aload_n 1, 1) := by decide +kernel
theorem d_Re_readCustomer_24 : decode prog_5_method_6_code 24 = .ok (.iload_n 2, 1) := by decide +kernel
theorem d_Re_readCustomer_25 : decode prog_5_method_6_code 25 = .ok (.iload_n 3, 1) := by decide +kernel
theorem d_Re_readCustomer_26 : decode prog_5_method_6_code 26 = .ok (.iload 4, 2) := by decide +kernel
theorem d_Re_readCustomer_28 : decode prog_5_method_6_code 28 = .ok (.invokevirtual 81, 3) := by decide +kernel
theorem d_Re_readCustomer_31 : decode prog_5_method_6_code 31 = .ok (.aload_n 0, 1) := by decide +kernel
theorem d_Re_readCustomer_32 : decode prog_5_method_6_code 32 = .ok (.bipush (59), 2) := by decide +kernel
theorem d_Re_readCustomer_34 : decode prog_5_method_6_code 34 = .ok (.invokevirtual 75, 3) := by decide +kernel
theorem d_Re_readCustomer_37 : decode prog_5_method_6_code 37 = .ok (.return_, 1) := by decide +kernel
set_option maxRecDepth 20000 in
set_option maxHeartbeats 2000000 in
theorem T_Re_readCustomer {Z : ZT} (X : CX Z Y_Re_readCustomer) {hp : HP} {q1 : Nat} (hq1 : isB q1 = true) {p : Int32 × HP} (h : f_Re_readCustomer hp q1 = some p) (hR : RetV Z Y_Re_readCustomer p.2) : V Z Y_Re_readCustomer hp 0 [(0, .ref (gA (zG Z) 1)), (1, .ref (gA (zG Z) q1))] [] := by
  unfold f_Re_readCustomer at h
  refine R_aload_n X 0 d_Re_readCustomer_0 rfl ?_
  refine R_sipush (v := (999 : Int32)) X d_Re_readCustomer_1 rfl ?_
  obtain ⟨p2, e1, h⟩ := ob h
  refine R_vcall (ci := 3) (k := 1) (As := [.int (999 : Int32)]) (st := []) X (M_Re_readNumber e1) tw_316 cf_Re_readNumber (of_decide_eq_true rfl) rfl rfl rfl rfl rfl d_Re_readCustomer_4 ?_
  refine R_istore_n (L' := [(2, .int p2.1), (0, .ref (gA (zG Z) 1)), (1, .ref (gA (zG Z) q1))]) X d_Re_readCustomer_7 (by decide) rfl ?_
  refine R_aload_n X 1 d_Re_readCustomer_8 rfl ?_
  refine V_pc (pc' := 9) rfl ?_
  refine R_bipush (v := (99 : Int32)) X d_Re_readCustomer_9 rfl ?_
  obtain ⟨p4, e3, h⟩ := ob h
  refine R_vcall (ci := 3) (k := 1) (As := [.int (99 : Int32)]) (st := []) X (M_Re_readNumber e3) tw_316 cf_Re_readNumber (of_decide_eq_true rfl) rfl rfl rfl rfl rfl d_Re_readCustomer_11 ?_
  refine R_istore_n (L' := [(3, .int p4.1), (2, .int p2.1), (0, .ref (gA (zG Z) 1)), (1, .ref (gA (zG Z) q1))]) X d_Re_readCustomer_14 (by decide) rfl ?_
  refine R_aload_n X 2 d_Re_readCustomer_15 rfl ?_
  refine R_bipush (v := (99 : Int32)) X d_Re_readCustomer_16 rfl ?_
  obtain ⟨p6, e5, h⟩ := ob h
  refine R_vcall (ci := 3) (k := 1) (As := [.int (99 : Int32)]) (st := []) X (M_Re_readNumber e5) tw_316 cf_Re_readNumber (of_decide_eq_true rfl) rfl rfl rfl rfl rfl d_Re_readCustomer_18 ?_
  refine V_pc (pc' := 21) rfl ?_
  refine R_istore (L' := [(4, .int p6.1), (3, .int p4.1), (2, .int p2.1), (0, .ref (gA (zG Z) 1)), (1, .ref (gA (zG Z) q1))]) X d_Re_readCustomer_21 (by decide) rfl ?_
  refine R_aload_n X 4 d_Re_readCustomer_23 rfl ?_
  refine R_iload_n X 2 d_Re_readCustomer_24 rfl ?_
  refine R_iload_n X 1 d_Re_readCustomer_25 rfl ?_
  refine R_iload X 0 d_Re_readCustomer_26 rfl ?_
  obtain ⟨p8, e7, h⟩ := ob h
  refine R_vcallv (ci := 0) (k := q1) (As := [.int p2.1, .int p4.1, .int p6.1]) (st := []) X (M_Br_addCustomer hq1 e7) tw_339 cf_Br_addCustomer (B_all _ hq1).1.1 (B_all _ hq1).1.2 rfl rfl rfl rfl d_Re_readCustomer_28 ?_
  refine V_pc (pc' := 31) rfl ?_
  refine R_aload_n X 3 d_Re_readCustomer_31 rfl ?_
  refine R_bipush (v := (59 : Int32)) X d_Re_readCustomer_32 rfl ?_
  obtain ⟨p10, e9, h⟩ := ob h
  refine R_vcallv (ci := 3) (k := 1) (As := [.int (59 : Int32)]) (st := []) X (M_Re_readWord e9) tw_331 cf_Re_readWord (of_decide_eq_true rfl) rfl rfl rfl rfl rfl d_Re_readCustomer_34 ?_
  exact R_retv hR h d_Re_readCustomer_37
theorem M_Re_readCustomer {G : GT} {hp : HP} {q1 : Nat} (hq1 : isB q1 = true) {p : Int32 × HP} (h : f_Re_readCustomer hp q1 = some p) : MV G y_Re_readCustomer Y_Re_readCustomer [.ref (gA G 1), .ref (gA G q1)] hp p.2 := MV_of rfl (fun Z hz X hR => by subst hz; exact T_Re_readCustomer X hq1 h hR)
theorem d_Br_allParts_0 : decode prog_2_method_10_code 0 = .ok (.iconst 1, 1) := by decide +kernel
theorem d_Br_allParts_1 : decode prog_2_method_10_code 1 = .ok (.aload_n 0, 1) := by decide +kernel
theorem d_Br_allParts_2 : decode prog_2_method_10_code 2 = .ok (.getfield 27, 3) := by decide +kernel
theorem d_Br_allParts_5 : decode prog_2_method_10_code 5 = .ok (.ishl, 1) := by decide +kernel
theorem d_Br_allParts_6 : decode prog_2_method_10_code 6 = .ok (.iconst 1, 1) := by decide +kernel
theorem d_Br_allParts_7 : decode prog_2_method_10_code 7 = .ok (.isub, 1) := by decide +kernel
theorem d_Br_allParts_8 : decode prog_2_method_10_code 8 = .ok (.ireturn, 1) := by decide +kernel
set_option maxRecDepth 20000 in
set_option maxHeartbeats 2000000 in
theorem T_Br_allParts {Z : ZT} (X : CX Z Y_Br_allParts) {hp : HP} {q0 : Nat} (hq0 : isB q0 = true) {p : Int32 × HP} (h : f_Br_allParts hp q0 = some p) (hR : RetI Z Y_Br_allParts .int p.1 p.2) : V Z Y_Br_allParts hp 0 [(0, .ref (gA (zG Z) q0))] [] := by
  unfold f_Br_allParts at h
  refine R_iconst (v := (1 : Int32)) X d_Br_allParts_0 rfl ?_
  refine R_aload_n X 0 d_Br_allParts_1 rfl ?_
  refine R_getI (ci := 0) X rfl iBr_ok (B_all _ hq0).1.1 (B_all _ hq0).1.2 5 rfl rfl tw_208 d_Br_allParts_2 ?_
  refine R_ishl X d_Br_allParts_5 ?_
  refine R_iconst (v := (1 : Int32)) X d_Br_allParts_6 rfl ?_
  refine V_pc (pc' := 7) rfl ?_
  refine R_isub X d_Br_allParts_7 ?_
  exact R_ret hR h d_Br_allParts_8
theorem M_Br_allParts {G : GT} {hp : HP} {q0 : Nat} (hq0 : isB q0 = true) {p : Int32 × HP} (h : f_Br_allParts hp q0 = some p) : MI G y_Br_allParts Y_Br_allParts .int [.ref (gA G q0)] hp p.1 p.2 := MI_of rfl (fun Z hz X hR => by subst hz; exact T_Br_allParts X hq0 h hR)
theorem d_Br_addTask_0 : decode prog_2_method_5_code 0 = .ok (.aload_n 0, 1) := by decide +kernel
theorem d_Br_addTask_1 : decode prog_2_method_5_code 1 = .ok (.getfield 34, 3) := by decide +kernel
theorem d_Br_addTask_4 : decode prog_2_method_5_code 4 = .ok (.bipush (6), 2) := by decide +kernel
theorem d_Br_addTask_6 : decode prog_2_method_5_code 6 = .ok (.if_icmp .ge (23), 3) := by decide +kernel
theorem d_Br_addTask_9 : decode prog_2_method_5_code 9 = .ok (.aload_n 0, 1) := by decide +kernel
theorem d_Br_addTask_10 : decode prog_2_method_5_code 10 = .ok (.getfield 24, 3) := by decide +kernel
theorem d_Br_addTask_13 : decode prog_2_method_5_code 13 = .ok (.aload_n 0, 1) := by decide +kernel
theorem d_Br_addTask_14 : decode prog_2_method_5_code 14 = .ok (.getfield 34, 3) := by decide +kernel
theorem d_Br_addTask_17 : decode prog_2_method_5_code 17 = .ok (.iload_n 1, 1) := by decide +kernel
theorem d_Br_addTask_18 : decode prog_2_method_5_code 18 = .ok (.iastore, 1) := by decide +kernel
theorem d_Br_addTask_19 : decode prog_2_method_5_code 19 = .ok (.aload_n 0, 1) := by decide +kernel
theorem d_Br_addTask_20 : decode prog_2_method_5_code 20 = .ok (.dup, 1) := by decide +kernel
theorem d_Br_addTask_21 : decode prog_2_method_5_code 21 = .ok (.getfield 34, 3) := by decide +kernel
theorem d_Br_addTask_24 : decode prog_2_method_5_code 24 = .ok (.iconst 1, 1) := by decide +kernel
theorem d_Br_addTask_25 : decode prog_2_method_5_code 25 = .ok (.iadd, 1) := by decide +kernel
theorem d_Br_addTask_26 : decode prog_2_method_5_code 26 = .ok (.putfield 34, 3) := by decide +kernel
theorem d_Br_addTask_29 : decode prog_2_method_5_code 29 = .ok (.return_, 1) := by decide +kernel
set_option maxRecDepth 20000 in
set_option maxHeartbeats 2000000 in
theorem T_Br_addTask {Z : ZT} (X : CX Z Y_Br_addTask) {hp : HP} {q0 : Nat} {a1 : Int32} (hq0 : isB q0 = true) {p : Int32 × HP} (h : f_Br_addTask hp q0 a1 = some p) (hR : RetV Z Y_Br_addTask p.2) : V Z Y_Br_addTask hp 0 [(0, .ref (gA (zG Z) q0)), (1, .int a1)] [] := by
  unfold f_Br_addTask at h
  refine R_aload_n X 0 d_Br_addTask_0 rfl ?_
  refine R_getI (ci := 0) X rfl iBr_ok (B_all _ hq0).1.1 (B_all _ hq0).1.2 7 rfl rfl tw_214 d_Br_addTask_1 ?_
  refine R_bipush (v := (6 : Int32)) X d_Br_addTask_4 rfl ?_
  refine R_icmp_ge (tgt := 29) X d_Br_addTask_6 rfl (fun c1 => ?_) (fun c1 => ?_)
  · replace h := (if_pos c1).symm.trans h
    exact R_retv hR h d_Br_addTask_29
  · replace h := (if_neg c1).symm.trans h
    refine R_aload_n X 0 d_Br_addTask_9 rfl ?_
    refine R_getR (ci := 0) X rfl iBr_ok (B_all _ hq0).1.1 (B_all _ hq0).1.2 4 rfl rfl tw_207 d_Br_addTask_10 ?_
    refine R_aload_n X 0 d_Br_addTask_13 rfl ?_
    refine R_getI (ci := 0) X rfl iBr_ok (B_all _ hq0).1.1 (B_all _ hq0).1.2 7 rfl rfl tw_214 d_Br_addTask_14 ?_
    refine R_iload_n X 1 d_Br_addTask_17 rfl ?_
    refine V_pc (pc' := 18) rfl ?_
    obtain ⟨i2, h⟩ := ck h
    refine R_iast (n := 6) X (B_all _ hq0).2.2.2.2.2.1 (B_all _ hq0).2.2.2.2.2.2 i2 d_Br_addTask_18 ?_
    refine R_aload_n X 0 d_Br_addTask_19 rfl ?_
    refine R_dup X d_Br_addTask_20 rfl ?_
    refine R_getI (ci := 0) X rfl iBr_ok (B_all _ hq0).1.1 (B_all _ hq0).1.2 7 rfl rfl tw_214 d_Br_addTask_21 ?_
    refine R_iconst (v := (1 : Int32)) X d_Br_addTask_24 rfl ?_
    refine R_iadd X d_Br_addTask_25 ?_
    refine V_pc (pc' := 26) rfl ?_
    refine R_putI (ci := 0) X rfl iBr_ok yBr_ok nBr_ok (B_all _ hq0).1.1 (B_all _ hq0).1.2 7 rfl rfl rfl rfl tw_214 d_Br_addTask_26 ?_
    exact R_retv hR h d_Br_addTask_29
theorem M_Br_addTask {G : GT} {hp : HP} {q0 : Nat} {a1 : Int32} (hq0 : isB q0 = true) {p : Int32 × HP} (h : f_Br_addTask hp q0 a1 = some p) : MV G y_Br_addTask Y_Br_addTask [.ref (gA G q0), .int a1] hp p.2 := MV_of rfl (fun Z hz X hR => by subst hz; exact T_Br_addTask X hq0 h hR)
theorem d_Re_readClause_0 : decode prog_5_method_4_code 0 = .ok (.aload_n 0, 1) := by decide +kernel
theorem d_Re_readClause_1 : decode prog_5_method_4_code 1 = .ok (.invokevirtual 40, 3) := by decide +kernel
theorem d_Re_readClause_4 : decode prog_5_method_4_code 4 = .ok (.istore_n 2, 1) := by decide +kernel
theorem d_Re_readClause_5 : decode prog_5_method_4_code 5 = .ok (.iload_n 2, 1) := by decide +kernel
theorem d_Re_readClause_6 : decode prog_5_method_4_code 6 = .ok (.bipush (98), 2) := by decide +kernel
theorem d_Re_readClause_8 : decode prog_5_method_4_code 8 = .ok (.if_icmp .ne (28), 3) := by decide +kernel
theorem d_Re_readClause_11 : decode prog_5_method_4_code 11 = .ok (.aload_n 1, 1) := by decide +kernel
theorem d_Re_readClause_12 : decode prog_5_method_4_code 12 = .ok (.invokevirtual 44, 3) := by decide +kernel
theorem d_Re_readClause_15 : decode prog_5_method_4_code 15 = .ok (.ifCond .ne (21), 3) := by decide +kernel
theorem d_Re_readClause_18 : decode prog_5_method_4_code 18 = .ok (.aload_n 0, 1) := by decide +kernel
theorem d_Re_readClause_19 : decode prog_5_method_4_code 19 = .ok (.dup, 1) := by decide +kernel
theorem d_Re_readClause_20 : decode prog_5_method_4_code 20 = .ok (.getfield 27, 3) := by decide +kernel
theorem d_Re_readClause_23 : decode prog_5_method_4_code 23 = .ok (.iconst 1, 1) := by decide +kernel
theorem d_Re_readClause_24 : decode prog_5_method_4_code 24 = .ok (.iadd, 1) := by decide +kernel
theorem d_Re_readClause_25 : decode prog_5_method_4_code 25 = .ok (.putfield 27, 3) := by decide +kernel
theorem d_Re_readClause_28 : decode prog_5_method_4_code 28 = .ok (.aload_n 0, 1) := by decide +kernel
theorem d_Re_readClause_29 : decode prog_5_method_4_code 29 = .ok (.aload_n 1, 1) := by decide +kernel
theorem d_Re_readClause_30 : decode prog_5_method_4_code 30 = .ok (.invokevirtual 48, 3) := by decide +kernel
theorem d_Re_readClause_33 : decode prog_5_method_4_code 33 = .ok (.goto (127), 3) := by decide +kernel
theorem d_Re_readClause_36 : decode prog_5_method_4_code 36 = .ok (.aload_n 1, 1) := by decide +kernel
theorem d_Re_readClause_37 : decode prog_5_method_4_code 37 = .ok (.invokevirtual 44, 3) := by decide +kernel
theorem d_Re_readClause_40 : decode prog_5_method_4_code 40 = .ok (.ifCond .eq (21), 3) := by decide +kernel
theorem d_Re_readClause_43 : decode prog_5_method_4_code 43 = .ok (.iload_n 2, 1) := by decide +kernel
theorem d_Re_readClause_44 : decode prog_5_method_4_code 44 = .ok (.bipush (98), 2) := by decide +kernel
theorem d_Re_readClause_46 : decode prog_5_method_4_code 46 = .ok (.if_icmp .eq (27), 3) := by decide +kernel
theorem d_Re_readClause_49 : decode prog_5_method_4_code 49 = .ok (.iload_n 2, 1) := by decide +kernel
theorem d_Re_readClause_50 : decode prog_5_method_4_code 50 = .ok (.bipush (99), 2) := by decide +kernel
theorem d_Re_readClause_52 : decode prog_5_method_4_code 52 = .ok (.if_icmp .eq (21), 3) := by decide +kernel
theorem d_Re_readClause_55 : decode prog_5_method_4_code 55 = .ok (.iload_n 2, 1) := by decide +kernel
theorem d_Re_readClause_56 : decode prog_5_method_4_code 56 = .ok (.bipush (116), 2) := by decide +kernel
theorem d_Re_readClause_58 : decode prog_5_method_4_code 58 = .ok (.if_icmp .eq (15), 3) := by decide +kernel
theorem d_Re_readClause_61 : decode prog_5_method_4_code 61 = .ok (.aload_n 0, 1) := by decide +kernel
theorem d_Re_readClause_62 : decode prog_5_method_4_code 62 = .ok (.iconst 1, 1) := by decide +kernel
theorem d_Re_readClause_63 : decode prog_5_method_4_code 63 = .ok (.aload_n 0, 1) := by decide +kernel
theorem d_Re_readClause_64 : decode prog_5_method_4_code 64 = .ok (.getfield 27, 3) := by decide +kernel
theorem d_Re_readClause_67 : decode prog_5_method_4_code 67 = .ok (.invokevirtual 51, 3) := by decide +kernel
theorem d_Re_readClause_70 : decode prog_5_method_4_code 70 = .ok (.goto (90), 3) := by decide +kernel
theorem d_Re_readClause_73 : decode prog_5_method_4_code 73 = .ok (.iload_n 2, 1) := by decide +kernel
theorem d_Re_readClause_74 : decode prog_5_method_4_code 74 = .ok (.bipush (99), 2) := by decide +kernel
theorem d_Re_readClause_76 : decode prog_5_method_4_code 76 = .ok (.if_icmp .ne (29), 3) := by decide +kernel
theorem d_Re_readClause_79 : decode prog_5_method_4_code 79 = .ok (.aload_n 1, 1) := by decide +kernel
theorem d_Re_readClause_80 : decode prog_5_method_4_code 80 = .ok (.getfield 55, 3) := by decide +kernel
theorem d_Re_readClause_83 : decode prog_5_method_4_code 83 = .ok (.iconst 5, 1) := by decide +kernel
theorem d_Re_readClause_84 : decode prog_5_method_4_code 84 = .ok (.if_icmp .ge (21), 3) := by decide +kernel
theorem d_Re_readClause_87 : decode prog_5_method_4_code 87 = .ok (.aload_n 0, 1) := by decide +kernel
theorem d_Re_readClause_88 : decode prog_5_method_4_code 88 = .ok (.dup, 1) := by decide +kernel
theorem d_Re_readClause_89 : decode prog_5_method_4_code 89 = .ok (.getfield 27, 3) := by decide +kernel
theorem d_Re_readClause_92 : decode prog_5_method_4_code 92 = .ok (.iconst 1, 1) := by decide +kernel
theorem d_Re_readClause_93 : decode prog_5_method_4_code 93 = .ok (.iadd, 1) := by decide +kernel
theorem d_Re_readClause_94 : decode prog_5_method_4_code 94 = .ok (.putfield 27, 3) := by decide +kernel
theorem d_Re_readClause_97 : decode prog_5_method_4_code 97 = .ok (.aload_n 0, 1) := by decide +kernel
theorem d_Re_readClause_98 : decode prog_5_method_4_code 98 = .ok (.aload_n 1, 1) := by decide +kernel
theorem d_Re_readClause_99 : decode prog_5_method_4_code 99 = .ok (.invokevirtual 58, 3) := by decide +kernel
theorem d_Re_readClause_102 : decode prog_5_method_4_code 102 = .ok (.goto (58), 3) := by decide +kernel
theorem d_Re_readClause_105 : decode prog_5_method_4_code 105 = .ok (.iload_n 2, 1) := by decide +kernel
theorem d_Re_readClause_106 : decode prog_5_method_4_code 106 = .ok (.bipush (116), 2) := by decide +kernel
theorem d_Re_readClause_108 : decode prog_5_method_4_code 108 = .ok (.if_icmp .ne (43), 3) := by decide +kernel
theorem d_Re_readClause_111 : decode prog_5_method_4_code 111 = .ok (.aload_n 1, 1) := by decide +kernel
theorem d_Re_readClause_112 : decode prog_5_method_4_code 112 = .ok (.getfield 61, 3) := by decide +kernel
theorem d_Re_readClause_115 : decode prog_5_method_4_code 115 = .ok (.bipush (6), 2) := by decide +kernel
theorem d_Re_readClause_117 : decode prog_5_method_4_code 117 = .ok (.if_icmp .ge (34), 3) := by decide +kernel
theorem d_Re_readClause_120 : decode prog_5_method_4_code 120 = .ok (.aload_n 0, 1) := by decide +kernel
theorem d_Re_readClause_121 : decode prog_5_method_4_code 121 = .ok (.dup, 1) := by decide +kernel
theorem d_Re_readClause_122 : decode prog_5_method_4_code 122 = .ok (.getfield 27, 3) := by decide +kernel
theorem d_Re_readClause_125 : decode prog_5_method_4_code 125 = .ok (.iconst 1, 1) := by decide +kernel
theorem d_Re_readClause_126 : decode prog_5_method_4_code 126 = .ok (.iadd, 1) := by decide +kernel
theorem d_Re_readClause_127 : decode prog_5_method_4_code 127 = .ok (.putfield 27, 3) := by decide +kernel
theorem d_Re_readClause_130 : decode prog_5_method_4_code 130 = .ok (.aload_n 1, 1) := by decide +kernel
theorem d_Re_readClause_131 : decode prog_5_method_4_code 131 = .ok (.aload_n 0, 1) := by decide +kernel
theorem d_Re_readClause_132 : decode prog_5_method_4_code 132 = .ok (.aload_n 1, 1) := by decide +kernel
theorem d_Re_readClause_133 : decode prog_5_method_4_code 133 = .ok (.invokevirtual 64, 3) := by decide +kernel
theorem d_Re_readClause_136 : decode prog_5_method_4_code 136 = .ok (.invokevirtual 67, 3) := by decide +kernel
theorem d_Re_readClause_139 : decode prog_5_method_4_code 139 = .ok (.invokevirtual 71, 3) := by decide +kernel
theorem d_Re_readClause_142 : decode prog_5_method_4_code 142 = .ok (.aload_n 0, 1) := by decide +kernel
theorem d_Re_readClause_143 : decode prog_5_method_4_code 143 = .ok (.bipush (59), 2) := by decide +kernel
theorem d_Re_readClause_145 : decode prog_5_method_4_code 145 = .ok (.invokevirtual 75, 3) := by decide +kernel
theorem d_Re_readClause_148 : decode prog_5_method_4_code 148 = .ok (.goto (12), 3) := by decide +kernel
theorem d_Re_readClause_151 : decode prog_5_method_4_code 151 = .ok (.aload_n 0, 1) := by decide +kernel
theorem d_Re_readClause_152 : decode prog_5_method_4_code 152 = .ok (.iconst 3, 1) := by decide +kernel
theorem d_Re_readClause_153 : decode prog_5_method_4_code 153 = .ok (.aload_n 0, 1) := by decide +kernel
theorem d_Re_readClause_154 : decode prog_5_method_4_code 154 = .ok (.getfield 27, 3) := by decide +kernel
theorem d_Re_readClause_157 : decode prog_5_method_4_code 157 = .ok (.invokevirtual 51, 3) := by decide +kernel
theorem d_Re_readClause_160 : decode prog_5_method_4_code 160 = .ok (.return_, 1) := by decide +kernel
set_option maxRecDepth 20000 in
set_option maxHeartbeats 2000000 in
theorem T_Re_readClause {Z : ZT} (X : CX Z Y_Re_readClause) {hp : HP} {q1 : Nat} (hq1 : isB q1 = true) {p : Int32 × HP} (h : f_Re_readClause hp q1 = some p) (hR : RetV Z Y_Re_readClause p.2) : V Z Y_Re_readClause hp 0 [(0, .ref (gA (zG Z) 1)), (1, .ref (gA (zG Z) q1))] [] := by
  unfold f_Re_readClause at h
  refine R_aload_n X 0 d_Re_readClause_0 rfl ?_
  obtain ⟨p2, e1, h⟩ := ob h
  refine R_vcall (ci := 3) (k := 1) (As := []) (st := []) X (M_Re_letter e1) tw_300 cf_Re_letter (of_decide_eq_true rfl) rfl rfl rfl rfl rfl d_Re_readClause_1 ?_
  refine R_istore_n (L' := [(2, .int p2.1), (0, .ref (gA (zG Z) 1)), (1, .ref (gA (zG Z) q1))]) X d_Re_readClause_4 (by decide) rfl ?_
  refine R_iload_n X 0 d_Re_readClause_5 rfl ?_
  refine R_bipush (v := (98 : Int32)) X d_Re_readClause_6 rfl ?_
  refine V_pc (pc' := 8) rfl ?_
  refine R_icmp_ne (tgt := 36) X d_Re_readClause_8 rfl (fun c3 => ?_) (fun c3 => ?_)
  · replace h := (if_neg c3).symm.trans h
    refine R_aload_n X 2 d_Re_readClause_36 rfl ?_
    obtain ⟨p48, e47, h⟩ := ob h
    refine R_vcall (ci := 0) (k := q1) (As := []) (st := []) X (M_Br_isThere hq1 e47) tw_308 cf_Br_isThere (B_all _ hq1).1.1 (B_all _ hq1).1.2 rfl rfl rfl rfl d_Re_readClause_37 ?_
    refine R_ifeq (tgt := 61) X d_Re_readClause_40 rfl (fun c49 => ?_) (fun c49 => ?_)
    · replace h := (if_pos c49).symm.trans h
      refine R_aload_n X 1 d_Re_readClause_61 rfl ?_
      refine R_iconst (v := (1 : Int32)) X d_Re_readClause_62 rfl ?_
      refine R_aload_n X 1 d_Re_readClause_63 rfl ?_
      refine R_getI (ci := 3) X rfl iRe_ok (of_decide_eq_true rfl) rfl 4 rfl rfl tw_78 d_Re_readClause_64 ?_
      obtain ⟨p51, e50, h⟩ := ob h
      refine R_vcallv (ci := 3) (k := 1) (As := [.int (1 : Int32), .int (p48.2 1 4)]) (st := []) X (M_Re_fail e50) tw_323 cf_Re_fail (of_decide_eq_true rfl) rfl rfl rfl rfl rfl d_Re_readClause_67 ?_
      refine V_pc (pc' := 70) rfl ?_
      refine R_goto (tgt := 160) X d_Re_readClause_70 rfl ?_
      exact R_retv hR h d_Re_readClause_160
    · replace h := (if_neg c49).symm.trans h
      refine R_iload_n X 0 d_Re_readClause_43 rfl ?_
      refine R_bipush (v := (98 : Int32)) X d_Re_readClause_44 rfl ?_
      refine R_icmp_eq (tgt := 73) X d_Re_readClause_46 rfl (fun c52 => absurd c52 c3) (fun c52 => ?_)
      refine R_iload_n X 0 d_Re_readClause_49 rfl ?_
      refine R_bipush (v := (99 : Int32)) X d_Re_readClause_50 rfl ?_
      refine V_pc (pc' := 52) rfl ?_
      refine R_icmp_eq (tgt := 73) X d_Re_readClause_52 rfl (fun c53 => ?_) (fun c53 => ?_)
      · replace h := (if_pos c53).symm.trans h
        refine R_iload_n X 0 d_Re_readClause_73 rfl ?_
        refine R_bipush (v := (99 : Int32)) X d_Re_readClause_74 rfl ?_
        refine R_icmp_ne (tgt := 105) X d_Re_readClause_76 rfl (fun c54 => absurd c53 c54) (fun c54 => ?_)
        refine R_aload_n X 2 d_Re_readClause_79 rfl ?_
        refine R_getI (ci := 0) X rfl iBr_ok (B_all _ hq1).1.1 (B_all _ hq1).1.2 6 rfl rfl tw_213 d_Re_readClause_80 ?_
        refine V_pc (pc' := 83) rfl ?_
        refine R_iconst (v := (5 : Int32)) X d_Re_readClause_83 rfl ?_
        refine R_icmp_ge (tgt := 105) X d_Re_readClause_84 rfl (fun c55 => ?_) (fun c55 => ?_)
        · replace h := (if_pos c55).symm.trans h
          refine R_iload_n X 0 d_Re_readClause_105 rfl ?_
          refine R_bipush (v := (116 : Int32)) X d_Re_readClause_106 rfl ?_
          refine R_icmp_ne (tgt := 151) X d_Re_readClause_108 rfl (fun c56 => ?_) (fun c56 => ?_)
          · replace h := (if_neg c56).symm.trans h
            refine R_aload_n X 1 d_Re_readClause_151 rfl ?_
            refine R_iconst (v := (3 : Int32)) X d_Re_readClause_152 rfl ?_
            refine R_aload_n X 1 d_Re_readClause_153 rfl ?_
            refine R_getI (ci := 3) X rfl iRe_ok (of_decide_eq_true rfl) rfl 4 rfl rfl tw_78 d_Re_readClause_154 ?_
            obtain ⟨p69, e68, h⟩ := ob h
            refine R_vcallv (ci := 3) (k := 1) (As := [.int (3 : Int32), .int (p48.2 1 4)]) (st := []) X (M_Re_fail e68) tw_323 cf_Re_fail (of_decide_eq_true rfl) rfl rfl rfl rfl rfl d_Re_readClause_157 ?_
            refine V_pc (pc' := 160) rfl ?_
            exact R_retv hR h d_Re_readClause_160
          · replace h := (if_pos c56).symm.trans h
            refine R_aload_n X 2 d_Re_readClause_111 rfl ?_
            refine R_getI (ci := 0) X rfl iBr_ok (B_all _ hq1).1.1 (B_all _ hq1).1.2 7 rfl rfl tw_215 d_Re_readClause_112 ?_
            refine R_bipush (v := (6 : Int32)) X d_Re_readClause_115 rfl ?_
            refine R_icmp_ge (tgt := 151) X d_Re_readClause_117 rfl (fun c57 => ?_) (fun c57 => ?_)
            · replace h := (if_pos c57).symm.trans h
              refine R_aload_n X 1 d_Re_readClause_151 rfl ?_
              refine R_iconst (v := (3 : Int32)) X d_Re_readClause_152 rfl ?_
              refine R_aload_n X 1 d_Re_readClause_153 rfl ?_
              refine R_getI (ci := 3) X rfl iRe_ok (of_decide_eq_true rfl) rfl 4 rfl rfl tw_78 d_Re_readClause_154 ?_
              obtain ⟨p59, e58, h⟩ := ob h
              refine R_vcallv (ci := 3) (k := 1) (As := [.int (3 : Int32), .int (p48.2 1 4)]) (st := []) X (M_Re_fail e58) tw_323 cf_Re_fail (of_decide_eq_true rfl) rfl rfl rfl rfl rfl d_Re_readClause_157 ?_
              refine V_pc (pc' := 160) rfl ?_
              exact R_retv hR h d_Re_readClause_160
            · replace h := (if_neg c57).symm.trans h
              refine R_aload_n X 1 d_Re_readClause_120 rfl ?_
              refine R_dup X d_Re_readClause_121 rfl ?_
              refine R_getI (ci := 3) X rfl iRe_ok (of_decide_eq_true rfl) rfl 4 rfl rfl tw_78 d_Re_readClause_122 ?_
              refine R_iconst (v := (1 : Int32)) X d_Re_readClause_125 rfl ?_
              refine R_iadd X d_Re_readClause_126 ?_
              refine V_pc (pc' := 127) rfl ?_
              refine R_putI (ci := 3) X rfl iRe_ok yRe_ok nRe_ok (of_decide_eq_true rfl) rfl 4 rfl rfl rfl rfl tw_78 d_Re_readClause_127 ?_
              refine R_aload_n X 2 d_Re_readClause_130 rfl ?_
              refine R_aload_n X 1 d_Re_readClause_131 rfl ?_
              refine R_aload_n X 2 d_Re_readClause_132 rfl ?_
              obtain ⟨p61, e60, h⟩ := ob h
              refine R_vcall (ci := 0) (k := q1) (As := []) (st := [.ref (gA (zG Z) 1), .ref (gA (zG Z) q1)]) X (M_Br_allParts hq1 e60) tw_343 cf_Br_allParts (B_all _ hq1).1.1 (B_all _ hq1).1.2 rfl rfl rfl rfl d_Re_readClause_133 ?_
              obtain ⟨p63, e62, h⟩ := ob h
              refine R_vcall (ci := 3) (k := 1) (As := [.int p61.1]) (st := [.ref (gA (zG Z) q1)]) X (M_Re_readNumber e62) tw_316 cf_Re_readNumber (of_decide_eq_true rfl) rfl rfl rfl rfl rfl d_Re_readClause_136 ?_
              refine V_pc (pc' := 139) rfl ?_
              obtain ⟨p65, e64, h⟩ := ob h
              refine R_vcallv (ci := 0) (k := q1) (As := [.int p63.1]) (st := []) X (M_Br_addTask hq1 e64) tw_347 cf_Br_addTask (B_all _ hq1).1.1 (B_all _ hq1).1.2 rfl rfl rfl rfl d_Re_readClause_139 ?_
              refine R_aload_n X 1 d_Re_readClause_142 rfl ?_
              refine R_bipush (v := (59 : Int32)) X d_Re_readClause_143 rfl ?_
              obtain ⟨p67, e66, h⟩ := ob h
              refine R_vcallv (ci := 3) (k := 1) (As := [.int (59 : Int32)]) (st := []) X (M_Re_readWord e66) tw_331 cf_Re_readWord (of_decide_eq_true rfl) rfl rfl rfl rfl rfl d_Re_readClause_145 ?_
              refine R_goto (tgt := 160) X d_Re_readClause_148 rfl ?_
              exact R_retv hR h d_Re_readClause_160
        · replace h := (if_neg c55).symm.trans h
          refine R_aload_n X 1 d_Re_readClause_87 rfl ?_
          refine R_dup X d_Re_readClause_88 rfl ?_
          refine R_getI (ci := 3) X rfl iRe_ok (of_decide_eq_true rfl) rfl 4 rfl rfl tw_78 d_Re_readClause_89 ?_
          refine R_iconst (v := (1 : Int32)) X d_Re_readClause_92 rfl ?_
          refine R_iadd X d_Re_readClause_93 ?_
          refine V_pc (pc' := 94) rfl ?_
          refine R_putI (ci := 3) X rfl iRe_ok yRe_ok nRe_ok (of_decide_eq_true rfl) rfl 4 rfl rfl rfl rfl tw_78 d_Re_readClause_94 ?_
          refine R_aload_n X 1 d_Re_readClause_97 rfl ?_
          refine R_aload_n X 2 d_Re_readClause_98 rfl ?_
          obtain ⟨p71, e70, h⟩ := ob h
          refine R_vcallv (ci := 3) (k := 1) (As := [.ref (gA (zG Z) q1)]) (st := []) X (M_Re_readCustomer hq1 e70) tw_335 cf_Re_readCustomer (of_decide_eq_true rfl) rfl rfl rfl rfl rfl d_Re_readClause_99 ?_
          refine R_goto (tgt := 160) X d_Re_readClause_102 rfl ?_
          exact R_retv hR h d_Re_readClause_160
      · replace h := (if_neg c53).symm.trans h
        refine R_iload_n X 0 d_Re_readClause_55 rfl ?_
        refine R_bipush (v := (116 : Int32)) X d_Re_readClause_56 rfl ?_
        refine R_icmp_eq (tgt := 73) X d_Re_readClause_58 rfl (fun c72 => ?_) (fun c72 => ?_)
        · replace h := (if_pos c72).symm.trans h
          refine R_iload_n X 0 d_Re_readClause_73 rfl ?_
          refine R_bipush (v := (99 : Int32)) X d_Re_readClause_74 rfl ?_
          refine R_icmp_ne (tgt := 105) X d_Re_readClause_76 rfl (fun c73 => ?_) (fun c73 => absurd c73 c53)
          refine R_iload_n X 0 d_Re_readClause_105 rfl ?_
          refine R_bipush (v := (116 : Int32)) X d_Re_readClause_106 rfl ?_
          refine V_pc (pc' := 108) rfl ?_
          refine R_icmp_ne (tgt := 151) X d_Re_readClause_108 rfl (fun c74 => absurd c72 c74) (fun c74 => ?_)
          refine R_aload_n X 2 d_Re_readClause_111 rfl ?_
          refine R_getI (ci := 0) X rfl iBr_ok (B_all _ hq1).1.1 (B_all _ hq1).1.2 7 rfl rfl tw_215 d_Re_readClause_112 ?_
          refine R_bipush (v := (6 : Int32)) X d_Re_readClause_115 rfl ?_
          refine R_icmp_ge (tgt := 151) X d_Re_readClause_117 rfl (fun c75 => ?_) (fun c75 => ?_)
          · replace h := (if_pos c75).symm.trans h
            refine R_aload_n X 1 d_Re_readClause_151 rfl ?_
            refine R_iconst (v := (3 : Int32)) X d_Re_readClause_152 rfl ?_
            refine R_aload_n X 1 d_Re_readClause_153 rfl ?_
            refine R_getI (ci := 3) X rfl iRe_ok (of_decide_eq_true rfl) rfl 4 rfl rfl tw_78 d_Re_readClause_154 ?_
            obtain ⟨p77, e76, h⟩ := ob h
            refine R_vcallv (ci := 3) (k := 1) (As := [.int (3 : Int32), .int (p48.2 1 4)]) (st := []) X (M_Re_fail e76) tw_323 cf_Re_fail (of_decide_eq_true rfl) rfl rfl rfl rfl rfl d_Re_readClause_157 ?_
            refine V_pc (pc' := 160) rfl ?_
            exact R_retv hR h d_Re_readClause_160
          · replace h := (if_neg c75).symm.trans h
            refine R_aload_n X 1 d_Re_readClause_120 rfl ?_
            refine R_dup X d_Re_readClause_121 rfl ?_
            refine R_getI (ci := 3) X rfl iRe_ok (of_decide_eq_true rfl) rfl 4 rfl rfl tw_78 d_Re_readClause_122 ?_
            refine R_iconst (v := (1 : Int32)) X d_Re_readClause_125 rfl ?_
            refine R_iadd X d_Re_readClause_126 ?_
            refine V_pc (pc' := 127) rfl ?_
            refine R_putI (ci := 3) X rfl iRe_ok yRe_ok nRe_ok (of_decide_eq_true rfl) rfl 4 rfl rfl rfl rfl tw_78 d_Re_readClause_127 ?_
            refine R_aload_n X 2 d_Re_readClause_130 rfl ?_
            refine R_aload_n X 1 d_Re_readClause_131 rfl ?_
            refine R_aload_n X 2 d_Re_readClause_132 rfl ?_
            obtain ⟨p79, e78, h⟩ := ob h
            refine R_vcall (ci := 0) (k := q1) (As := []) (st := [.ref (gA (zG Z) 1), .ref (gA (zG Z) q1)]) X (M_Br_allParts hq1 e78) tw_343 cf_Br_allParts (B_all _ hq1).1.1 (B_all _ hq1).1.2 rfl rfl rfl rfl d_Re_readClause_133 ?_
            obtain ⟨p81, e80, h⟩ := ob h
            refine R_vcall (ci := 3) (k := 1) (As := [.int p79.1]) (st := [.ref (gA (zG Z) q1)]) X (M_Re_readNumber e80) tw_316 cf_Re_readNumber (of_decide_eq_true rfl) rfl rfl rfl rfl rfl d_Re_readClause_136 ?_
            refine V_pc (pc' := 139) rfl ?_
            obtain ⟨p83, e82, h⟩ := ob h
            refine R_vcallv (ci := 0) (k := q1) (As := [.int p81.1]) (st := []) X (M_Br_addTask hq1 e82) tw_347 cf_Br_addTask (B_all _ hq1).1.1 (B_all _ hq1).1.2 rfl rfl rfl rfl d_Re_readClause_139 ?_
            refine R_aload_n X 1 d_Re_readClause_142 rfl ?_
            refine R_bipush (v := (59 : Int32)) X d_Re_readClause_143 rfl ?_
            obtain ⟨p85, e84, h⟩ := ob h
            refine R_vcallv (ci := 3) (k := 1) (As := [.int (59 : Int32)]) (st := []) X (M_Re_readWord e84) tw_331 cf_Re_readWord (of_decide_eq_true rfl) rfl rfl rfl rfl rfl d_Re_readClause_145 ?_
            refine R_goto (tgt := 160) X d_Re_readClause_148 rfl ?_
            exact R_retv hR h d_Re_readClause_160
        · replace h := (if_neg c72).symm.trans h
          refine R_aload_n X 1 d_Re_readClause_61 rfl ?_
          refine R_iconst (v := (1 : Int32)) X d_Re_readClause_62 rfl ?_
          refine R_aload_n X 1 d_Re_readClause_63 rfl ?_
          refine R_getI (ci := 3) X rfl iRe_ok (of_decide_eq_true rfl) rfl 4 rfl rfl tw_78 d_Re_readClause_64 ?_
          obtain ⟨p87, e86, h⟩ := ob h
          refine R_vcallv (ci := 3) (k := 1) (As := [.int (1 : Int32), .int (p48.2 1 4)]) (st := []) X (M_Re_fail e86) tw_323 cf_Re_fail (of_decide_eq_true rfl) rfl rfl rfl rfl rfl d_Re_readClause_67 ?_
          refine V_pc (pc' := 70) rfl ?_
          refine R_goto (tgt := 160) X d_Re_readClause_70 rfl ?_
          exact R_retv hR h d_Re_readClause_160
  · replace h := (if_pos c3).symm.trans h
    refine R_aload_n X 2 d_Re_readClause_11 rfl ?_
    obtain ⟨p5, e4, h⟩ := ob h
    refine R_vcall (ci := 0) (k := q1) (As := []) (st := []) X (M_Br_isThere hq1 e4) tw_308 cf_Br_isThere (B_all _ hq1).1.1 (B_all _ hq1).1.2 rfl rfl rfl rfl d_Re_readClause_12 ?_
    refine R_ifne (tgt := 36) X d_Re_readClause_15 rfl (fun c6 => ?_) (fun c6 => ?_)
    · replace h := (if_neg c6).symm.trans h
      refine R_aload_n X 2 d_Re_readClause_36 rfl ?_
      obtain ⟨p10, e9, h⟩ := ob h
      refine R_vcall (ci := 0) (k := q1) (As := []) (st := []) X (M_Br_isThere hq1 e9) tw_308 cf_Br_isThere (B_all _ hq1).1.1 (B_all _ hq1).1.2 rfl rfl rfl rfl d_Re_readClause_37 ?_
      refine R_ifeq (tgt := 61) X d_Re_readClause_40 rfl (fun c11 => ?_) (fun c11 => ?_)
      · replace h := (if_pos c11).symm.trans h
        refine R_aload_n X 1 d_Re_readClause_61 rfl ?_
        refine R_iconst (v := (1 : Int32)) X d_Re_readClause_62 rfl ?_
        refine R_aload_n X 1 d_Re_readClause_63 rfl ?_
        refine R_getI (ci := 3) X rfl iRe_ok (of_decide_eq_true rfl) rfl 4 rfl rfl tw_78 d_Re_readClause_64 ?_
        obtain ⟨p13, e12, h⟩ := ob h
        refine R_vcallv (ci := 3) (k := 1) (As := [.int (1 : Int32), .int (p10.2 1 4)]) (st := []) X (M_Re_fail e12) tw_323 cf_Re_fail (of_decide_eq_true rfl) rfl rfl rfl rfl rfl d_Re_readClause_67 ?_
        refine V_pc (pc' := 70) rfl ?_
        refine R_goto (tgt := 160) X d_Re_readClause_70 rfl ?_
        exact R_retv hR h d_Re_readClause_160
      · replace h := (if_neg c11).symm.trans h
        refine R_iload_n X 0 d_Re_readClause_43 rfl ?_
        refine R_bipush (v := (98 : Int32)) X d_Re_readClause_44 rfl ?_
        refine R_icmp_eq (tgt := 73) X d_Re_readClause_46 rfl (fun c14 => ?_) (fun c14 => absurd c3 c14)
        refine R_iload_n X 0 d_Re_readClause_73 rfl ?_
        refine R_bipush (v := (99 : Int32)) X d_Re_readClause_74 rfl ?_
        refine V_pc (pc' := 76) rfl ?_
        refine R_icmp_ne (tgt := 105) X d_Re_readClause_76 rfl (fun c15 => ?_) (fun c15 => ?_)
        · replace h := (if_neg c15).symm.trans h
          refine R_iload_n X 0 d_Re_readClause_105 rfl ?_
          refine R_bipush (v := (116 : Int32)) X d_Re_readClause_106 rfl ?_
          refine R_icmp_ne (tgt := 151) X d_Re_readClause_108 rfl (fun c33 => ?_) (fun c33 => ?_)
          · replace h := (if_neg c33).symm.trans h
            refine R_aload_n X 1 d_Re_readClause_151 rfl ?_
            refine R_iconst (v := (3 : Int32)) X d_Re_readClause_152 rfl ?_
            refine R_aload_n X 1 d_Re_readClause_153 rfl ?_
            refine R_getI (ci := 3) X rfl iRe_ok (of_decide_eq_true rfl) rfl 4 rfl rfl tw_78 d_Re_readClause_154 ?_
            obtain ⟨p46, e45, h⟩ := ob h
            refine R_vcallv (ci := 3) (k := 1) (As := [.int (3 : Int32), .int (p10.2 1 4)]) (st := []) X (M_Re_fail e45) tw_323 cf_Re_fail (of_decide_eq_true rfl) rfl rfl rfl rfl rfl d_Re_readClause_157 ?_
            refine V_pc (pc' := 160) rfl ?_
            exact R_retv hR h d_Re_readClause_160
          · replace h := (if_pos c33).symm.trans h
            refine R_aload_n X 2 d_Re_readClause_111 rfl ?_
            refine R_getI (ci := 0) X rfl iBr_ok (B_all _ hq1).1.1 (B_all _ hq1).1.2 7 rfl rfl tw_215 d_Re_readClause_112 ?_
            refine R_bipush (v := (6 : Int32)) X d_Re_readClause_115 rfl ?_
            refine R_icmp_ge (tgt := 151) X d_Re_readClause_117 rfl (fun c34 => ?_) (fun c34 => ?_)
            · replace h := (if_pos c34).symm.trans h
              refine R_aload_n X 1 d_Re_readClause_151 rfl ?_
              refine R_iconst (v := (3 : Int32)) X d_Re_readClause_152 rfl ?_
              refine R_aload_n X 1 d_Re_readClause_153 rfl ?_
              refine R_getI (ci := 3) X rfl iRe_ok (of_decide_eq_true rfl) rfl 4 rfl rfl tw_78 d_Re_readClause_154 ?_
              obtain ⟨p36, e35, h⟩ := ob h
              refine R_vcallv (ci := 3) (k := 1) (As := [.int (3 : Int32), .int (p10.2 1 4)]) (st := []) X (M_Re_fail e35) tw_323 cf_Re_fail (of_decide_eq_true rfl) rfl rfl rfl rfl rfl d_Re_readClause_157 ?_
              refine V_pc (pc' := 160) rfl ?_
              exact R_retv hR h d_Re_readClause_160
            · replace h := (if_neg c34).symm.trans h
              refine R_aload_n X 1 d_Re_readClause_120 rfl ?_
              refine R_dup X d_Re_readClause_121 rfl ?_
              refine R_getI (ci := 3) X rfl iRe_ok (of_decide_eq_true rfl) rfl 4 rfl rfl tw_78 d_Re_readClause_122 ?_
              refine R_iconst (v := (1 : Int32)) X d_Re_readClause_125 rfl ?_
              refine R_iadd X d_Re_readClause_126 ?_
              refine V_pc (pc' := 127) rfl ?_
              refine R_putI (ci := 3) X rfl iRe_ok yRe_ok nRe_ok (of_decide_eq_true rfl) rfl 4 rfl rfl rfl rfl tw_78 d_Re_readClause_127 ?_
              refine R_aload_n X 2 d_Re_readClause_130 rfl ?_
              refine R_aload_n X 1 d_Re_readClause_131 rfl ?_
              refine R_aload_n X 2 d_Re_readClause_132 rfl ?_
              obtain ⟨p38, e37, h⟩ := ob h
              refine R_vcall (ci := 0) (k := q1) (As := []) (st := [.ref (gA (zG Z) 1), .ref (gA (zG Z) q1)]) X (M_Br_allParts hq1 e37) tw_343 cf_Br_allParts (B_all _ hq1).1.1 (B_all _ hq1).1.2 rfl rfl rfl rfl d_Re_readClause_133 ?_
              obtain ⟨p40, e39, h⟩ := ob h
              refine R_vcall (ci := 3) (k := 1) (As := [.int p38.1]) (st := [.ref (gA (zG Z) q1)]) X (M_Re_readNumber e39) tw_316 cf_Re_readNumber (of_decide_eq_true rfl) rfl rfl rfl rfl rfl d_Re_readClause_136 ?_
              refine V_pc (pc' := 139) rfl ?_
              obtain ⟨p42, e41, h⟩ := ob h
              refine R_vcallv (ci := 0) (k := q1) (As := [.int p40.1]) (st := []) X (M_Br_addTask hq1 e41) tw_347 cf_Br_addTask (B_all _ hq1).1.1 (B_all _ hq1).1.2 rfl rfl rfl rfl d_Re_readClause_139 ?_
              refine R_aload_n X 1 d_Re_readClause_142 rfl ?_
              refine R_bipush (v := (59 : Int32)) X d_Re_readClause_143 rfl ?_
              obtain ⟨p44, e43, h⟩ := ob h
              refine R_vcallv (ci := 3) (k := 1) (As := [.int (59 : Int32)]) (st := []) X (M_Re_readWord e43) tw_331 cf_Re_readWord (of_decide_eq_true rfl) rfl rfl rfl rfl rfl d_Re_readClause_145 ?_
              refine R_goto (tgt := 160) X d_Re_readClause_148 rfl ?_
              exact R_retv hR h d_Re_readClause_160
        · replace h := (if_pos c15).symm.trans h
          refine R_aload_n X 2 d_Re_readClause_79 rfl ?_
          refine R_getI (ci := 0) X rfl iBr_ok (B_all _ hq1).1.1 (B_all _ hq1).1.2 6 rfl rfl tw_213 d_Re_readClause_80 ?_
          refine R_iconst (v := (5 : Int32)) X d_Re_readClause_83 rfl ?_
          refine R_icmp_ge (tgt := 105) X d_Re_readClause_84 rfl (fun c16 => ?_) (fun c16 => ?_)
          · replace h := (if_pos c16).symm.trans h
            refine R_iload_n X 0 d_Re_readClause_105 rfl ?_
            refine R_bipush (v := (116 : Int32)) X d_Re_readClause_106 rfl ?_
            refine R_icmp_ne (tgt := 151) X d_Re_readClause_108 rfl (fun c17 => ?_) (fun c17 => ?_)
            · replace h := (if_neg c17).symm.trans h
              refine R_aload_n X 1 d_Re_readClause_151 rfl ?_
              refine R_iconst (v := (3 : Int32)) X d_Re_readClause_152 rfl ?_
              refine R_aload_n X 1 d_Re_readClause_153 rfl ?_
              refine R_getI (ci := 3) X rfl iRe_ok (of_decide_eq_true rfl) rfl 4 rfl rfl tw_78 d_Re_readClause_154 ?_
              obtain ⟨p30, e29, h⟩ := ob h
              refine R_vcallv (ci := 3) (k := 1) (As := [.int (3 : Int32), .int (p10.2 1 4)]) (st := []) X (M_Re_fail e29) tw_323 cf_Re_fail (of_decide_eq_true rfl) rfl rfl rfl rfl rfl d_Re_readClause_157 ?_
              refine V_pc (pc' := 160) rfl ?_
              exact R_retv hR h d_Re_readClause_160
            · replace h := (if_pos c17).symm.trans h
              refine R_aload_n X 2 d_Re_readClause_111 rfl ?_
              refine R_getI (ci := 0) X rfl iBr_ok (B_all _ hq1).1.1 (B_all _ hq1).1.2 7 rfl rfl tw_215 d_Re_readClause_112 ?_
              refine R_bipush (v := (6 : Int32)) X d_Re_readClause_115 rfl ?_
              refine R_icmp_ge (tgt := 151) X d_Re_readClause_117 rfl (fun c18 => ?_) (fun c18 => ?_)
              · replace h := (if_pos c18).symm.trans h
                refine R_aload_n X 1 d_Re_readClause_151 rfl ?_
                refine R_iconst (v := (3 : Int32)) X d_Re_readClause_152 rfl ?_
                refine R_aload_n X 1 d_Re_readClause_153 rfl ?_
                refine R_getI (ci := 3) X rfl iRe_ok (of_decide_eq_true rfl) rfl 4 rfl rfl tw_78 d_Re_readClause_154 ?_
                obtain ⟨p20, e19, h⟩ := ob h
                refine R_vcallv (ci := 3) (k := 1) (As := [.int (3 : Int32), .int (p10.2 1 4)]) (st := []) X (M_Re_fail e19) tw_323 cf_Re_fail (of_decide_eq_true rfl) rfl rfl rfl rfl rfl d_Re_readClause_157 ?_
                refine V_pc (pc' := 160) rfl ?_
                exact R_retv hR h d_Re_readClause_160
              · replace h := (if_neg c18).symm.trans h
                refine R_aload_n X 1 d_Re_readClause_120 rfl ?_
                refine R_dup X d_Re_readClause_121 rfl ?_
                refine R_getI (ci := 3) X rfl iRe_ok (of_decide_eq_true rfl) rfl 4 rfl rfl tw_78 d_Re_readClause_122 ?_
                refine R_iconst (v := (1 : Int32)) X d_Re_readClause_125 rfl ?_
                refine R_iadd X d_Re_readClause_126 ?_
                refine V_pc (pc' := 127) rfl ?_
                refine R_putI (ci := 3) X rfl iRe_ok yRe_ok nRe_ok (of_decide_eq_true rfl) rfl 4 rfl rfl rfl rfl tw_78 d_Re_readClause_127 ?_
                refine R_aload_n X 2 d_Re_readClause_130 rfl ?_
                refine R_aload_n X 1 d_Re_readClause_131 rfl ?_
                refine R_aload_n X 2 d_Re_readClause_132 rfl ?_
                obtain ⟨p22, e21, h⟩ := ob h
                refine R_vcall (ci := 0) (k := q1) (As := []) (st := [.ref (gA (zG Z) 1), .ref (gA (zG Z) q1)]) X (M_Br_allParts hq1 e21) tw_343 cf_Br_allParts (B_all _ hq1).1.1 (B_all _ hq1).1.2 rfl rfl rfl rfl d_Re_readClause_133 ?_
                obtain ⟨p24, e23, h⟩ := ob h
                refine R_vcall (ci := 3) (k := 1) (As := [.int p22.1]) (st := [.ref (gA (zG Z) q1)]) X (M_Re_readNumber e23) tw_316 cf_Re_readNumber (of_decide_eq_true rfl) rfl rfl rfl rfl rfl d_Re_readClause_136 ?_
                refine V_pc (pc' := 139) rfl ?_
                obtain ⟨p26, e25, h⟩ := ob h
                refine R_vcallv (ci := 0) (k := q1) (As := [.int p24.1]) (st := []) X (M_Br_addTask hq1 e25) tw_347 cf_Br_addTask (B_all _ hq1).1.1 (B_all _ hq1).1.2 rfl rfl rfl rfl d_Re_readClause_139 ?_
                refine R_aload_n X 1 d_Re_readClause_142 rfl ?_
                refine R_bipush (v := (59 : Int32)) X d_Re_readClause_143 rfl ?_
                obtain ⟨p28, e27, h⟩ := ob h
                refine R_vcallv (ci := 3) (k := 1) (As := [.int (59 : Int32)]) (st := []) X (M_Re_readWord e27) tw_331 cf_Re_readWord (of_decide_eq_true rfl) rfl rfl rfl rfl rfl d_Re_readClause_145 ?_
                refine R_goto (tgt := 160) X d_Re_readClause_148 rfl ?_
                exact R_retv hR h d_Re_readClause_160
          · replace h := (if_neg c16).symm.trans h
            refine R_aload_n X 1 d_Re_readClause_87 rfl ?_
            refine R_dup X d_Re_readClause_88 rfl ?_
            refine R_getI (ci := 3) X rfl iRe_ok (of_decide_eq_true rfl) rfl 4 rfl rfl tw_78 d_Re_readClause_89 ?_
            refine R_iconst (v := (1 : Int32)) X d_Re_readClause_92 rfl ?_
            refine R_iadd X d_Re_readClause_93 ?_
            refine V_pc (pc' := 94) rfl ?_
            refine R_putI (ci := 3) X rfl iRe_ok yRe_ok nRe_ok (of_decide_eq_true rfl) rfl 4 rfl rfl rfl rfl tw_78 d_Re_readClause_94 ?_
            refine R_aload_n X 1 d_Re_readClause_97 rfl ?_
            refine R_aload_n X 2 d_Re_readClause_98 rfl ?_
            obtain ⟨p32, e31, h⟩ := ob h
            refine R_vcallv (ci := 3) (k := 1) (As := [.ref (gA (zG Z) q1)]) (st := []) X (M_Re_readCustomer hq1 e31) tw_335 cf_Re_readCustomer (of_decide_eq_true rfl) rfl rfl rfl rfl rfl d_Re_readClause_99 ?_
            refine R_goto (tgt := 160) X d_Re_readClause_102 rfl ?_
            exact R_retv hR h d_Re_readClause_160
    · replace h := (if_pos c6).symm.trans h
      refine R_aload_n X 1 d_Re_readClause_18 rfl ?_
      refine R_dup X d_Re_readClause_19 rfl ?_
      refine R_getI (ci := 3) X rfl iRe_ok (of_decide_eq_true rfl) rfl 4 rfl rfl tw_78 d_Re_readClause_20 ?_
      refine R_iconst (v := (1 : Int32)) X d_Re_readClause_23 rfl ?_
      refine R_iadd X d_Re_readClause_24 ?_
      refine V_pc (pc' := 25) rfl ?_
      refine R_putI (ci := 3) X rfl iRe_ok yRe_ok nRe_ok (of_decide_eq_true rfl) rfl 4 rfl rfl rfl rfl tw_78 d_Re_readClause_25 ?_
      refine R_aload_n X 1 d_Re_readClause_28 rfl ?_
      refine R_aload_n X 2 d_Re_readClause_29 rfl ?_
      obtain ⟨p8, e7, h⟩ := ob h
      refine R_vcallv (ci := 3) (k := 1) (As := [.ref (gA (zG Z) q1)]) (st := []) X (M_Re_readParts hq1 e7) tw_312 cf_Re_readParts (of_decide_eq_true rfl) rfl rfl rfl rfl rfl d_Re_readClause_30 ?_
      refine R_goto (tgt := 160) X d_Re_readClause_33 rfl ?_
      exact R_retv hR h d_Re_readClause_160
theorem M_Re_readClause {G : GT} {hp : HP} {q1 : Nat} (hq1 : isB q1 = true) {p : Int32 × HP} (h : f_Re_readClause hp q1 = some p) : MV G y_Re_readClause Y_Re_readClause [.ref (gA G 1), .ref (gA G q1)] hp p.2 := MV_of rfl (fun Z hz X hR => by subst hz; exact T_Re_readClause X hq1 h hR)
theorem d_Re_readInto_0 : decode prog_5_method_3_code 0 = .ok (.aload_n 1, 1) := by decide +kernel
theorem d_Re_readInto_1 : decode prog_5_method_3_code 1 = .ok (.invokevirtual 22, 3) := by decide +kernel
theorem d_Re_readInto_4 : decode prog_5_method_3_code 4 = .ok (.aload_n 0, 1) := by decide +kernel
theorem d_Re_readInto_5 : decode prog_5_method_3_code 5 = .ok (.iconst 0, 1) := by decide +kernel
theorem d_Re_readInto_6 : decode prog_5_method_3_code 6 = .ok (.putfield 27, 3) := by decide +kernel
theorem d_Re_readInto_9 : decode prog_5_method_3_code 9 = .ok (.aload_n 0, 1) := by decide +kernel
theorem d_Re_readInto_10 : decode prog_5_method_3_code 10 = .ok (.iconst 0, 1) := by decide +kernel
theorem d_Re_readInto_11 : decode prog_5_method_3_code 11 = .ok (.putfield 30, 3) := by decide +kernel
theorem d_Re_readInto_14 : decode prog_5_method_3_code 14 = .ok (.aload_n 0, 1) := by decide +kernel
theorem d_Re_readInto_15 : decode prog_5_method_3_code 15 = .ok (.iconst (-1), 1) := by decide +kernel
theorem d_Re_readInto_16 : decode prog_5_method_3_code 16 = .ok (.putfield 15, 3) := by decide +kernel
theorem d_Re_readInto_19 : decode prog_5_method_3_code 19 = .ok (.aload_n 0, 1) := by decide +kernel
theorem d_Re_readInto_20 : decode prog_5_method_3_code 20 = .ok (.invokevirtual 33, 3) := by decide +kernel
theorem d_Re_readInto_23 : decode prog_5_method_3_code 23 = .ok (.iconst 0, 1) := by decide +kernel
theorem d_Re_readInto_24 : decode prog_5_method_3_code 24 = .ok (.istore_n 2, 1) := by decide +kernel
theorem d_Re_readInto_25 : decode prog_5_method_3_code 25 = .ok (.iload_n 2, 1) := by decide +kernel
theorem d_Re_readInto_26 : decode prog_5_method_3_code 26 = .ok (.sipush (240), 3) := by decide +kernel
theorem d_Re_readInto_29 : decode prog_5_method_3_code 29 = .ok (.if_icmp .ge (36), 3) := by decide +kernel
theorem d_Re_readInto_32 : decode prog_5_method_3_code 32 = .ok (.aload_n 0, 1) := by decide +kernel
theorem d_Re_readInto_33 : decode prog_5_method_3_code 33 = .ok (.getfield 27, 3) := by decide +kernel
theorem d_Re_readInto_36 : decode prog_5_method_3_code 36 = .ok (.aload_n 0, 1) := by decide +kernel
theorem d_Re_readInto_37 : decode prog_5_method_3_code 37 = .ok (.getfield 19, 3) := by decide +kernel
theorem d_Re_readInto_40 : decode prog_5_method_3_code 40 = .ok (.if_icmp .ge (25), 3) := by decide +kernel
theorem d_Re_readInto_43 : decode prog_5_method_3_code 43 = .ok (.aload_n 0, 1) := by decide +kernel
theorem d_Re_readInto_44 : decode prog_5_method_3_code 44 = .ok (.getfield 30, 3) := by decide +kernel
theorem d_Re_readInto_47 : decode prog_5_method_3_code 47 = .ok (.ifCond .ne (18), 3) := by decide +kernel
theorem d_Re_readInto_50 : decode prog_5_method_3_code 50 = .ok (.aload_n 0, 1) := by decide +kernel
theorem d_Re_readInto_51 : decode prog_5_method_3_code 51 = .ok (.aload_n 1, 1) := by decide +kernel
theorem d_Re_readInto_52 : decode prog_5_method_3_code 52 = .ok (.invokevirtual 36, 3) := by decide +kernel
theorem d_Re_readInto_55 : decode prog_5_method_3_code 55 = .ok (.aload_n 0, 1) := by decide +kernel
theorem d_Re_readInto_56 : decode prog_5_method_3_code 56 = .ok (.invokevirtual 33, 3) := by decide +kernel
theorem d_Re_readInto_59 : decode prog_5_method_3_code 59 = .ok (.iinc 2 (1), 3) := by decide +kernel
theorem d_Re_readInto_62 : decode prog_5_method_3_code 62 = .ok (.goto (-37), 3) := by decide +kernel
theorem d_Re_readInto_65 : decode prog_5_method_3_code 65 = .ok (.aload_n 0, 1) := by decide +kernel
theorem d_Re_readInto_66 : decode prog_5_method_3_code 66 = .ok (.getfield 30, 3) := by decide +kernel
theorem d_Re_readInto_69 : decode prog_5_method_3_code 69 = .ok (.ireturn, 1) := by decide +kernel
set_option maxRecDepth 20000 in
set_option maxHeartbeats 2000000 in
theorem T_Re_readInto_L25 {Z : ZT} (X : CX Z Y_Re_readInto) {q1 : Nat} (hq1 : isB q1 = true) {p : Int32 × HP} (hR : RetI Z Y_Re_readInto .int p.1 p.2) {K : HP → Option (Int32 × HP)} (hK : ∀ (hp : HP), K hp = some p → V Z Y_Re_readInto hp 65 [(0, .ref (gA (zG Z) 1))] []) : ∀ (n : Nat) (hp : HP) (x2 : Int32), f_Re_readInto_L25 q1 K n hp x2 = some p → V Z Y_Re_readInto hp 25 [(0, .ref (gA (zG Z) 1)), (1, .ref (gA (zG Z) q1)), (2, .int x2)] [] := by
  intro n
  induction n with
  | zero =>
    intro hp x2 h
    cases h
  | succ n ih =>
    intro hp x2 h
    replace h : f_Re_readInto_L25 q1 K (n + 1) hp x2 = some p := h
    unfold f_Re_readInto_L25 at h
    refine R_iload_n X 2 d_Re_readInto_25 rfl ?_
    refine R_sipush (v := (240 : Int32)) X d_Re_readInto_26 rfl ?_
    refine R_icmp_ge (tgt := 65) X d_Re_readInto_29 rfl (fun c5 => ?_) (fun c5 => ?_)
    · replace h := (if_pos c5).symm.trans h
      refine V_pc (pc' := 65) rfl (R_loc (L' := [(0, .ref (gA (zG Z) 1))]) [0] rfl ?_)
      exact hK hp h
    · replace h := (if_neg c5).symm.trans h
      refine R_aload_n X 0 d_Re_readInto_32 rfl ?_
      refine R_getI (ci := 3) X rfl iRe_ok (of_decide_eq_true rfl) rfl 4 rfl rfl tw_78 d_Re_readInto_33 ?_
      refine R_aload_n X 0 d_Re_readInto_36 rfl ?_
      refine R_getI (ci := 3) X rfl iRe_ok (of_decide_eq_true rfl) rfl 1 rfl rfl tw_73 d_Re_readInto_37 ?_
      refine R_icmp_ge (tgt := 65) X d_Re_readInto_40 rfl (fun c6 => ?_) (fun c6 => ?_)
      · replace h := (if_pos c6).symm.trans h
        refine V_pc (pc' := 65) rfl (R_loc (L' := [(0, .ref (gA (zG Z) 1))]) [0] rfl ?_)
        exact hK hp h
      · replace h := (if_neg c6).symm.trans h
        refine R_aload_n X 0 d_Re_readInto_43 rfl ?_
        refine R_getI (ci := 3) X rfl iRe_ok (of_decide_eq_true rfl) rfl 3 rfl rfl tw_77 d_Re_readInto_44 ?_
        refine R_ifne (tgt := 65) X d_Re_readInto_47 rfl (fun c7 => ?_) (fun c7 => ?_)
        · replace h := (if_neg c7).symm.trans h
          refine V_pc (pc' := 65) rfl (R_loc (L' := [(0, .ref (gA (zG Z) 1))]) [0] rfl ?_)
          exact hK hp h
        · replace h := (if_pos c7).symm.trans h
          refine R_aload_n X 0 d_Re_readInto_50 rfl ?_
          refine R_aload_n X 1 d_Re_readInto_51 rfl ?_
          obtain ⟨p9, e8, h⟩ := ob h
          refine R_vcallv (ci := 3) (k := 1) (As := [.ref (gA (zG Z) q1)]) (st := []) X (M_Re_readClause hq1 e8) tw_304 cf_Re_readClause (of_decide_eq_true rfl) rfl rfl rfl rfl rfl d_Re_readInto_52 ?_
          refine R_aload_n X 0 d_Re_readInto_55 rfl ?_
          obtain ⟨p11, e10, h⟩ := ob h
          refine R_vcallv (ci := 3) (k := 1) (As := []) (st := []) X (M_Re_skipBlanks e10) tw_296 cf_Re_skipBlanks (of_decide_eq_true rfl) rfl rfl rfl rfl rfl d_Re_readInto_56 ?_
          refine V_pc (pc' := 59) rfl ?_
          refine R_iinc (v := (x2 + 1)) (L' := [(2, .int (x2 + 1)), (0, .ref (gA (zG Z) 1)), (1, .ref (gA (zG Z) q1))]) X 2 d_Re_readInto_59 rfl rfl (by decide) rfl ?_
          refine R_goto (tgt := 25) X d_Re_readInto_62 rfl ?_
          refine V_pc (pc' := 25) rfl (R_loc (L' := [(0, .ref (gA (zG Z) 1)), (1, .ref (gA (zG Z) q1)), (2, .int (x2 + 1))]) [1, 2, 0] rfl ?_)
          exact ih p11.2 (x2 + 1) h
set_option maxRecDepth 20000 in
set_option maxHeartbeats 2000000 in
theorem T_Re_readInto {Z : ZT} (X : CX Z Y_Re_readInto) {hp : HP} {q1 : Nat} (hq1 : isB q1 = true) {p : Int32 × HP} (h : f_Re_readInto hp q1 = some p) (hR : RetI Z Y_Re_readInto .int p.1 p.2) : V Z Y_Re_readInto hp 0 [(0, .ref (gA (zG Z) 1)), (1, .ref (gA (zG Z) q1))] [] := by
  unfold f_Re_readInto at h
  refine R_aload_n X 1 d_Re_readInto_0 rfl ?_
  obtain ⟨p2, e1, h⟩ := ob h
  refine R_vcallv (ci := 0) (k := q1) (As := []) (st := []) X (M_Br_clear hq1 e1) tw_292 cf_Br_clear (B_all _ hq1).1.1 (B_all _ hq1).1.2 rfl rfl rfl rfl d_Re_readInto_1 ?_
  refine R_aload_n X 0 d_Re_readInto_4 rfl ?_
  refine R_iconst (v := (0 : Int32)) X d_Re_readInto_5 rfl ?_
  refine R_putI (ci := 3) X rfl iRe_ok yRe_ok nRe_ok (of_decide_eq_true rfl) rfl 4 rfl rfl rfl rfl tw_78 d_Re_readInto_6 ?_
  refine V_pc (pc' := 9) rfl ?_
  refine R_aload_n X 0 d_Re_readInto_9 rfl ?_
  refine R_iconst (v := (0 : Int32)) X d_Re_readInto_10 rfl ?_
  refine R_putI (ci := 3) X rfl iRe_ok yRe_ok nRe_ok (of_decide_eq_true rfl) rfl 3 rfl rfl rfl rfl tw_77 d_Re_readInto_11 ?_
  refine R_aload_n X 0 d_Re_readInto_14 rfl ?_
  refine R_iconst (v := (-1 : Int32)) X d_Re_readInto_15 rfl ?_
  refine R_putI (ci := 3) X rfl iRe_ok yRe_ok nRe_ok (of_decide_eq_true rfl) rfl 2 rfl rfl rfl rfl tw_75 d_Re_readInto_16 ?_
  refine V_pc (pc' := 19) rfl ?_
  refine R_aload_n X 0 d_Re_readInto_19 rfl ?_
  obtain ⟨p4, e3, h⟩ := ob h
  refine R_vcallv (ci := 3) (k := 1) (As := []) (st := []) X (M_Re_skipBlanks e3) tw_296 cf_Re_skipBlanks (of_decide_eq_true rfl) rfl rfl rfl rfl rfl d_Re_readInto_20 ?_
  refine R_iconst (v := (0 : Int32)) X d_Re_readInto_23 rfl ?_
  refine R_istore_n (L' := [(2, .int (0 : Int32)), (0, .ref (gA (zG Z) 1)), (1, .ref (gA (zG Z) q1))]) X d_Re_readInto_24 (by decide) rfl ?_
  refine V_pc (pc' := 25) rfl (R_loc (L' := [(0, .ref (gA (zG Z) 1)), (1, .ref (gA (zG Z) q1)), (2, .int (0 : Int32))]) [1, 2, 0] rfl ?_)
  refine T_Re_readInto_L25 X hq1 hR (fun hp12 h => ?_) _ p4.2 (0 : Int32) h
  refine R_aload_n X 0 d_Re_readInto_65 rfl ?_
  refine R_getI (ci := 3) X rfl iRe_ok (of_decide_eq_true rfl) rfl 3 rfl rfl tw_77 d_Re_readInto_66 ?_
  exact R_ret hR h d_Re_readInto_69
theorem M_Re_readInto {G : GT} {hp : HP} {q1 : Nat} (hq1 : isB q1 = true) {p : Int32 × HP} (h : f_Re_readInto hp q1 = some p) : MI G y_Re_readInto Y_Re_readInto .int [.ref (gA G 1), .ref (gA G q1)] hp p.1 p.2 := MI_of rfl (fun Z hz X hR => by subst hz; exact T_Re_readInto X hq1 h hR)
theorem d_St_begin_0 : decode prog_7_method_2_code 0 = .ok (.iconst 0, 1) := by decide +kernel
theorem d_St_begin_1 : decode prog_7_method_2_code 1 = .ok (.istore_n 2, 1) := by decide +kernel
theorem d_St_begin_2 : decode prog_7_method_2_code 2 = .ok (.iload_n 2, 1) := by decide +kernel
theorem d_St_begin_3 : decode prog_7_method_2_code 3 = .ok (.iconst 5, 1) := by decide +kernel
theorem d_St_begin_4 : decode prog_7_method_2_code 4 = .ok (.if_icmp .ge (33), 3) := by decide +kernel
theorem d_St_begin_7 : decode prog_7_method_2_code 7 = .ok (.aload_n 0, 1) := by decide +kernel
theorem d_St_begin_8 : decode prog_7_method_2_code 8 = .ok (.getfield 9, 3) := by decide +kernel
theorem d_St_begin_11 : decode prog_7_method_2_code 11 = .ok (.iload_n 2, 1) := by decide +kernel
theorem d_St_begin_12 : decode prog_7_method_2_code 12 = .ok (.iload_n 2, 1) := by decide +kernel
theorem d_St_begin_13 : decode prog_7_method_2_code 13 = .ok (.aload_n 1, 1) := by decide +kernel
theorem d_St_begin_14 : decode prog_7_method_2_code 14 = .ok (.getfield 18, 3) := by decide +kernel
theorem d_St_begin_17 : decode prog_7_method_2_code 17 = .ok (.if_icmp .ge (12), 3) := by decide +kernel
theorem d_St_begin_20 : decode prog_7_method_2_code 20 = .ok (.aload_n 1, 1) := by decide +kernel
theorem d_St_begin_21 : decode prog_7_method_2_code 21 = .ok (.getfield 24, 3) := by decide +kernel
theorem d_St_begin_24 : decode prog_7_method_2_code 24 = .ok (.iload_n 2, 1) := by decide +kernel
theorem d_St_begin_25 : decode prog_7_method_2_code 25 = .ok (.iaload, 1) := by decide +kernel
theorem d_St_begin_26 : decode prog_7_method_2_code 26 = .ok (.goto (4), 3) := by decide +kernel
theorem d_St_begin_29 : decode prog_7_method_2_code 29 = .ok (.iconst 0, 1) := by decide +kernel
theorem d_St_begin_30 : decode prog_7_method_2_code 30 = .ok (.iastore, 1) := by decide +kernel
theorem d_St_begin_31 : decode prog_7_method_2_code 31 = .ok (.iinc 2 (1), 3) := by decide +kernel
theorem d_St_begin_34 : decode prog_7_method_2_code 34 = .ok (.goto (-32), 3) := by decide +kernel
theorem d_St_begin_37 : decode prog_7_method_2_code 37 = .ok (.iconst 0, 1) := by decide +kernel
theorem d_St_begin_38 : decode prog_7_method_2_code 38 = .ok (.istore_n 2, 1) := by decide +kernel
theorem d_St_begin_39 : decode prog_7_method_2_code 39 = .ok (.iload_n 2, 1) := by decide +kernel
theorem d_St_begin_40 : decode prog_7_method_2_code 40 = .ok (.aload_n 0, 1) := by decide +kernel
theorem d_St_begin_41 : decode prog_7_method_2_code 41 = .ok (.getfield 15, 3) := by decide +kernel
theorem d_St_begin_44 : decode prog_7_method_2_code 44 = .ok (.arraylength, 1) := by decide +kernel
theorem d_St_begin_45 : decode prog_7_method_2_code 45 = .ok (.if_icmp .ge (16), 3) := by decide +kernel
theorem d_St_begin_48 : decode prog_7_method_2_code 48 = .ok (.aload_n 0, 1) := by decide +kernel
theorem d_St_begin_49 : decode prog_7_method_2_code 49 = .ok (.getfield 15, 3) := by decide +kernel
theorem d_St_begin_52 : decode prog_7_method_2_code 52 = .ok (.iload_n 2, 1) := by decide +kernel
theorem d_St_begin_53 : decode prog_7_method_2_code 53 = .ok (.iconst 0, 1) := by decide +kernel
theorem d_St_begin_54 : decode prog_7_method_2_code 54 = .ok (.iastore, 1) := by decide +kernel
theorem d_St_begin_55 : decode prog_7_method_2_code 55 = .ok (.iinc 2 (1), 3) := by decide +kernel
theorem d_St_begin_58 : decode prog_7_method_2_code 58 = .ok (.goto (-19), 3) := by decide +kernel
theorem d_St_begin_61 : decode prog_7_method_2_code 61 = .ok (.aload_n 0, 1) := by decide +kernel
theorem d_St_begin_62 : decode prog_7_method_2_code 62 = .ok (.iconst 0, 1) := by decide +kernel
theorem d_St_begin_63 : decode prog_7_method_2_code 63 = .ok (.putfield 27, 3) := by decide +kernel
theorem d_St_begin_66 : decode prog_7_method_2_code 66 = .ok (.return_, 1) := by decide +kernel
set_option maxRecDepth 20000 in
set_option maxHeartbeats 2000000 in
theorem T_St_begin_L2 {Z : ZT} (X : CX Z Y_St_begin) {q0 : Nat} {q1 : Nat} (hq0 : isS q0 = true) (hq1 : isB q1 = true) {p : Int32 × HP} (hR : RetV Z Y_St_begin p.2) {K : HP → Option (Int32 × HP)} (hK : ∀ (hp : HP), K hp = some p → V Z Y_St_begin hp 37 [(0, .ref (gA (zG Z) q0))] []) : ∀ (n : Nat) (hp : HP) (x2 : Int32), f_St_begin_L2 q0 q1 K n hp x2 = some p → V Z Y_St_begin hp 2 [(0, .ref (gA (zG Z) q0)), (1, .ref (gA (zG Z) q1)), (2, .int x2)] [] := by
  intro n
  induction n with
  | zero =>
    intro hp x2 h
    cases h
  | succ n ih =>
    intro hp x2 h
    replace h : f_St_begin_L2 q0 q1 K (n + 1) hp x2 = some p := h
    unfold f_St_begin_L2 at h
    refine R_iload_n X 2 d_St_begin_2 rfl ?_
    refine R_iconst (v := (5 : Int32)) X d_St_begin_3 rfl ?_
    refine R_icmp_ge (tgt := 37) X d_St_begin_4 rfl (fun c1 => ?_) (fun c1 => ?_)
    · replace h := (if_pos c1).symm.trans h
      refine V_pc (pc' := 37) rfl (R_loc (L' := [(0, .ref (gA (zG Z) q0))]) [0] rfl ?_)
      exact hK hp h
    · replace h := (if_neg c1).symm.trans h
      refine R_aload_n X 0 d_St_begin_7 rfl ?_
      refine R_getR (ci := 5) X rfl iSt_ok (S_all _ hq0).1.1 (S_all _ hq0).1.2 0 rfl rfl tw_97 d_St_begin_8 ?_
      refine R_iload_n X 2 d_St_begin_11 rfl ?_
      refine R_iload_n X 2 d_St_begin_12 rfl ?_
      refine R_aload_n X 1 d_St_begin_13 rfl ?_
      refine V_pc (pc' := 14) rfl ?_
      refine R_getI (ci := 0) X rfl iBr_ok (B_all _ hq1).1.1 (B_all _ hq1).1.2 6 rfl rfl tw_211 d_St_begin_14 ?_
      refine R_icmp_ge (tgt := 29) X d_St_begin_17 rfl (fun c2 => ?_) (fun c2 => ?_)
      · replace h := (if_pos c2).symm.trans h
        refine R_iconst (v := (0 : Int32)) X d_St_begin_29 rfl ?_
        obtain ⟨i3, h⟩ := ck h
        refine R_iast (n := 5) X (S_all _ hq0).2.1.1 (S_all _ hq0).2.1.2 i3 d_St_begin_30 ?_
        refine R_iinc (v := (x2 + 1)) (L' := [(2, .int (x2 + 1)), (0, .ref (gA (zG Z) q0)), (1, .ref (gA (zG Z) q1))]) X 2 d_St_begin_31 rfl rfl (by decide) rfl ?_
        refine R_goto (tgt := 2) X d_St_begin_34 rfl ?_
        refine V_pc (pc' := 2) rfl (R_loc (L' := [(0, .ref (gA (zG Z) q0)), (1, .ref (gA (zG Z) q1)), (2, .int (x2 + 1))]) [1, 2, 0] rfl ?_)
        exact ih (up hp (q0 + 1) (x2).toNatClampNeg (0 : Int32)) (x2 + 1) h
      · replace h := (if_neg c2).symm.trans h
        refine R_aload_n X 1 d_St_begin_20 rfl ?_
        refine R_getR (ci := 0) X rfl iBr_ok (B_all _ hq1).1.1 (B_all _ hq1).1.2 1 rfl rfl tw_202 d_St_begin_21 ?_
        refine R_iload_n X 2 d_St_begin_24 rfl ?_
        obtain ⟨i4, h⟩ := ck h
        refine R_iald (n := 5) X (B_all _ hq1).2.2.1.1 (B_all _ hq1).2.2.1.2 i4 d_St_begin_25 ?_
        refine R_goto (tgt := 30) X d_St_begin_26 rfl ?_
        refine V_pc (pc' := 30) rfl ?_
        refine R_iast (n := 5) X (S_all _ hq0).2.1.1 (S_all _ hq0).2.1.2 i4 d_St_begin_30 ?_
        refine R_iinc (v := (x2 + 1)) (L' := [(2, .int (x2 + 1)), (0, .ref (gA (zG Z) q0)), (1, .ref (gA (zG Z) q1))]) X 2 d_St_begin_31 rfl rfl (by decide) rfl ?_
        refine R_goto (tgt := 2) X d_St_begin_34 rfl ?_
        refine V_pc (pc' := 2) rfl (R_loc (L' := [(0, .ref (gA (zG Z) q0)), (1, .ref (gA (zG Z) q1)), (2, .int (x2 + 1))]) [1, 2, 0] rfl ?_)
        exact ih (up hp (q0 + 1) (x2).toNatClampNeg (hp (q1 + 2) (x2).toNatClampNeg)) (x2 + 1) h
set_option maxRecDepth 20000 in
set_option maxHeartbeats 2000000 in
theorem T_St_begin_L39 {Z : ZT} (X : CX Z Y_St_begin) {q0 : Nat} (hq0 : isS q0 = true) {p : Int32 × HP} (hR : RetV Z Y_St_begin p.2) {K : HP → Option (Int32 × HP)} (hK : ∀ (hp : HP), K hp = some p → V Z Y_St_begin hp 61 [(0, .ref (gA (zG Z) q0))] []) : ∀ (n : Nat) (hp : HP) (x2 : Int32), f_St_begin_L39 q0 K n hp x2 = some p → V Z Y_St_begin hp 39 [(0, .ref (gA (zG Z) q0)), (2, .int x2)] [] := by
  intro n
  induction n with
  | zero =>
    intro hp x2 h
    cases h
  | succ n ih =>
    intro hp x2 h
    replace h : f_St_begin_L39 q0 K (n + 1) hp x2 = some p := h
    unfold f_St_begin_L39 at h
    refine R_iload_n X 1 d_St_begin_39 rfl ?_
    refine R_aload_n X 0 d_St_begin_40 rfl ?_
    refine R_getR (ci := 5) X rfl iSt_ok (S_all _ hq0).1.1 (S_all _ hq0).1.2 1 rfl rfl tw_99 d_St_begin_41 ?_
    refine R_alen (n := 25) X (S_all _ hq0).2.2.1 (S_all _ hq0).2.2.2 d_St_begin_44 ?_
    refine R_icmp_ge (tgt := 61) X d_St_begin_45 rfl (fun c6 => ?_) (fun c6 => ?_)
    · replace h := (if_pos c6).symm.trans h
      refine V_pc (pc' := 61) rfl (R_loc (L' := [(0, .ref (gA (zG Z) q0))]) [0] rfl ?_)
      exact hK hp h
    · replace h := (if_neg c6).symm.trans h
      refine R_aload_n X 0 d_St_begin_48 rfl ?_
      refine R_getR (ci := 5) X rfl iSt_ok (S_all _ hq0).1.1 (S_all _ hq0).1.2 1 rfl rfl tw_99 d_St_begin_49 ?_
      refine R_iload_n X 1 d_St_begin_52 rfl ?_
      refine R_iconst (v := (0 : Int32)) X d_St_begin_53 rfl ?_
      obtain ⟨i7, h⟩ := ck h
      refine R_iast (n := 25) X (S_all _ hq0).2.2.1 (S_all _ hq0).2.2.2 i7 d_St_begin_54 ?_
      refine V_pc (pc' := 55) rfl ?_
      refine R_iinc (v := (x2 + 1)) (L' := [(2, .int (x2 + 1)), (0, .ref (gA (zG Z) q0))]) X 1 d_St_begin_55 rfl rfl (by decide) rfl ?_
      refine R_goto (tgt := 39) X d_St_begin_58 rfl ?_
      refine V_pc (pc' := 39) rfl (R_loc (L' := [(0, .ref (gA (zG Z) q0)), (2, .int (x2 + 1))]) [1, 0] rfl ?_)
      exact ih (up hp (q0 + 2) (x2).toNatClampNeg (0 : Int32)) (x2 + 1) h
set_option maxRecDepth 20000 in
set_option maxHeartbeats 2000000 in
theorem T_St_begin {Z : ZT} (X : CX Z Y_St_begin) {hp : HP} {q0 : Nat} {q1 : Nat} (hq0 : isS q0 = true) (hq1 : isB q1 = true) {p : Int32 × HP} (h : f_St_begin hp q0 q1 = some p) (hR : RetV Z Y_St_begin p.2) : V Z Y_St_begin hp 0 [(0, .ref (gA (zG Z) q0)), (1, .ref (gA (zG Z) q1))] [] := by
  unfold f_St_begin at h
  refine R_iconst (v := (0 : Int32)) X d_St_begin_0 rfl ?_
  refine R_istore_n (L' := [(2, .int (0 : Int32)), (0, .ref (gA (zG Z) q0)), (1, .ref (gA (zG Z) q1))]) X d_St_begin_1 (by decide) rfl ?_
  refine V_pc (pc' := 2) rfl (R_loc (L' := [(0, .ref (gA (zG Z) q0)), (1, .ref (gA (zG Z) q1)), (2, .int (0 : Int32))]) [1, 2, 0] rfl ?_)
  refine T_St_begin_L2 X hq0 hq1 hR (fun hp5 h => ?_) _ hp (0 : Int32) h
  refine R_iconst (v := (0 : Int32)) X d_St_begin_37 rfl ?_
  refine R_istore_n (L' := [(2, .int (0 : Int32)), (0, .ref (gA (zG Z) q0))]) X d_St_begin_38 (by decide) rfl ?_
  refine V_pc (pc' := 39) rfl (R_loc (L' := [(0, .ref (gA (zG Z) q0)), (2, .int (0 : Int32))]) [1, 0] rfl ?_)
  refine T_St_begin_L39 X hq0 hR (fun hp8 h => ?_) _ hp5 (0 : Int32) h
  refine R_aload_n X 0 d_St_begin_61 rfl ?_
  refine R_iconst (v := (0 : Int32)) X d_St_begin_62 rfl ?_
  refine R_putI (ci := 5) X rfl iSt_ok ySt_ok nSt_ok (S_all _ hq0).1.1 (S_all _ hq0).1.2 2 rfl rfl rfl rfl tw_100 d_St_begin_63 ?_
  exact R_retv hR h d_St_begin_66
theorem M_St_begin {G : GT} {hp : HP} {q0 : Nat} {q1 : Nat} (hq0 : isS q0 = true) (hq1 : isB q1 = true) {p : Int32 × HP} (h : f_St_begin hp q0 q1 = some p) : MV G y_St_begin Y_St_begin [.ref (gA G q0), .ref (gA G q1)] hp p.2 := MV_of rfl (fun Z hz X hR => by subst hz; exact T_St_begin X hq0 hq1 h hR)
theorem d_Pa_clear_0 : decode prog_3_method_2_code 0 = .ok (.aload_n 0, 1) := by decide +kernel
theorem d_Pa_clear_1 : decode prog_3_method_2_code 1 = .ok (.iconst 0, 1) := by decide +kernel
theorem d_Pa_clear_2 : decode prog_3_method_2_code 2 = .ok (.putfield 18, 3) := by decide +kernel
theorem d_Pa_clear_5 : decode prog_3_method_2_code 5 = .ok (.return_, 1) := by decide +kernel
set_option maxRecDepth 20000 in
set_option maxHeartbeats 2000000 in
theorem T_Pa_clear {Z : ZT} (X : CX Z Y_Pa_clear) {hp : HP} {p : Int32 × HP} (h : f_Pa_clear hp = some p) (hR : RetV Z Y_Pa_clear p.2) : V Z Y_Pa_clear hp 0 [(0, .ref (gA (zG Z) 6))] [] := by
  unfold f_Pa_clear at h
  refine R_aload_n X 0 d_Pa_clear_0 rfl ?_
  refine R_iconst (v := (0 : Int32)) X d_Pa_clear_1 rfl ?_
  refine R_putI (ci := 1) X rfl iPa_ok yPa_ok nPa_ok (of_decide_eq_true rfl) rfl 2 rfl rfl rfl rfl tw_120 d_Pa_clear_2 ?_
  exact R_retv hR h d_Pa_clear_5
theorem M_Pa_clear {G : GT} {hp : HP} {p : Int32 × HP} (h : f_Pa_clear hp = some p) : MV G y_Pa_clear Y_Pa_clear [.ref (gA G 6)] hp p.2 := MV_of rfl (fun Z hz X hR => by subst hz; exact T_Pa_clear X h hR)
theorem d_Sl_clear_0 : decode prog_6_method_2_code 0 = .ok (.aload_n 0, 1) := by decide +kernel
theorem d_Sl_clear_1 : decode prog_6_method_2_code 1 = .ok (.iconst 0, 1) := by decide +kernel
theorem d_Sl_clear_2 : decode prog_6_method_2_code 2 = .ok (.putfield 34, 3) := by decide +kernel
theorem d_Sl_clear_5 : decode prog_6_method_2_code 5 = .ok (.aload_n 0, 1) := by decide +kernel
theorem d_Sl_clear_6 : decode prog_6_method_2_code 6 = .ok (.iconst 0, 1) := by decide +kernel
theorem d_Sl_clear_7 : decode prog_6_method_2_code 7 = .ok (.putfield 38, 3) := by decide +kernel
theorem d_Sl_clear_10 : decode prog_6_method_2_code 10 = .ok (.aload_n 0, 1) := by decide +kernel
theorem d_Sl_clear_11 : decode prog_6_method_2_code 11 = .ok (.iconst 0, 1) := by decide +kernel
theorem d_Sl_clear_12 : decode prog_6_method_2_code 12 = .ok (.putfield 41, 3) := by decide +kernel
theorem d_Sl_clear_15 : decode prog_6_method_2_code 15 = .ok (.aload_n 0, 1) := by decide +kernel
theorem d_Sl_clear_16 : decode prog_6_method_2_code 16 = .ok (.iconst 0, 1) := by decide +kernel
theorem d_Sl_clear_17 : decode prog_6_method_2_code 17 = .ok (.putfield 44, 3) := by decide +kernel
theorem d_Sl_clear_20 : decode prog_6_method_2_code 20 = .ok (.return_, 1) := by decide +kernel
set_option maxRecDepth 20000 in
set_option maxHeartbeats 2000000 in
theorem T_Sl_clear {Z : ZT} (X : CX Z Y_Sl_clear) {hp : HP} {p : Int32 × HP} (h : f_Sl_clear hp = some p) (hR : RetV Z Y_Sl_clear p.2) : V Z Y_Sl_clear hp 0 [(0, .ref (gA (zG Z) 68))] [] := by
  unfold f_Sl_clear at h
  refine R_aload_n X 0 d_Sl_clear_0 rfl ?_
  refine R_iconst (v := (0 : Int32)) X d_Sl_clear_1 rfl ?_
  refine R_putI (ci := 4) X rfl iSl_ok ySl_ok nSl_ok (of_decide_eq_true rfl) rfl 7 rfl rfl rfl rfl tw_147 d_Sl_clear_2 ?_
  refine R_aload_n X 0 d_Sl_clear_5 rfl ?_
  refine R_iconst (v := (0 : Int32)) X d_Sl_clear_6 rfl ?_
  refine V_pc (pc' := 7) rfl ?_
  refine R_putI (ci := 4) X rfl iSl_ok ySl_ok nSl_ok (of_decide_eq_true rfl) rfl 8 rfl rfl rfl rfl tw_150 d_Sl_clear_7 ?_
  refine R_aload_n X 0 d_Sl_clear_10 rfl ?_
  refine R_iconst (v := (0 : Int32)) X d_Sl_clear_11 rfl ?_
  refine R_putI (ci := 4) X rfl iSl_ok ySl_ok nSl_ok (of_decide_eq_true rfl) rfl 9 rfl rfl rfl rfl tw_153 d_Sl_clear_12 ?_
  refine R_aload_n X 0 d_Sl_clear_15 rfl ?_
  refine R_iconst (v := (0 : Int32)) X d_Sl_clear_16 rfl ?_
  refine V_pc (pc' := 17) rfl ?_
  refine R_putI (ci := 4) X rfl iSl_ok ySl_ok nSl_ok (of_decide_eq_true rfl) rfl 10 rfl rfl rfl rfl tw_155 d_Sl_clear_17 ?_
  exact R_retv hR h d_Sl_clear_20
theorem M_Sl_clear {G : GT} {hp : HP} {p : Int32 × HP} (h : f_Sl_clear hp = some p) : MV G y_Sl_clear Y_Sl_clear [.ref (gA G 68)] hp p.2 := MV_of rfl (fun Z hz X hR => by subst hz; exact T_Sl_clear X h hR)
theorem d_BA_branch_0 : decode prog_1_method_3_code 0 = .ok (.aload_n 0, 1) := by decide +kernel
theorem d_BA_branch_1 : decode prog_1_method_3_code 1 = .ok (.getfield 10, 3) := by decide +kernel
theorem d_BA_branch_4 : decode prog_1_method_3_code 4 = .ok (.aload_n 0, 1) := by decide +kernel
theorem d_BA_branch_5 : decode prog_1_method_3_code 5 = .ok (.getfield 63, 3) := by decide +kernel
theorem d_BA_branch_8 : decode prog_1_method_3_code 8 = .ok (.invokevirtual 86, 3) := by decide +kernel
theorem d_BA_branch_11 : decode prog_1_method_3_code 11 = .ok (.istore_n 1, 1) := by decide +kernel
theorem d_BA_branch_12 : decode prog_1_method_3_code 12 = .ok (.aload_n 0, 1) := by decide +kernel
theorem d_BA_branch_13 : decode prog_1_method_3_code 13 = .ok (.aload_n 0, 1) := by decide +kernel
theorem d_BA_branch_14 : decode prog_1_method_3_code 14 = .ok (.getfield 10, 3) := by decide +kernel
theorem d_BA_branch_17 : decode prog_1_method_3_code 17 = .ok (.getfield 90, 3) := by decide +kernel
theorem d_BA_branch_20 : decode prog_1_method_3_code 20 = .ok (.putfield 66, 3) := by decide +kernel
theorem d_BA_branch_23 : decode prog_1_method_3_code 23 = .ok (.aload_n 0, 1) := by decide +kernel
theorem d_BA_branch_24 : decode prog_1_method_3_code 24 = .ok (.getfield 10, 3) := by decide +kernel
theorem d_BA_branch_27 : decode prog_1_method_3_code 27 = .ok (.iconst 0, 1) := by decide +kernel
theorem d_BA_branch_28 : decode prog_1_method_3_code 28 = .ok (.putfield 78, 3) := by decide +kernel
theorem d_BA_branch_31 : decode prog_1_method_3_code 31 = .ok (.iload_n 1, 1) := by decide +kernel
theorem d_BA_branch_32 : decode prog_1_method_3_code 32 = .ok (.ifCond .eq (8), 3) := by decide +kernel
theorem d_BA_branch_35 : decode prog_1_method_3_code 35 = .ok (.bipush (-10), 2) := by decide +kernel
theorem d_BA_branch_37 : decode prog_1_method_3_code 37 = .ok (.iload_n 1, 1) := by decide +kernel
theorem d_BA_branch_38 : decode prog_1_method_3_code 38 = .ok (.isub, 1) := by decide +kernel
theorem d_BA_branch_39 : decode prog_1_method_3_code 39 = .ok (.ireturn, 1) := by decide +kernel
theorem d_BA_branch_40 : decode prog_1_method_3_code 40 = .ok (.aload_n 0, 1) := by decide +kernel
theorem d_BA_branch_41 : decode prog_1_method_3_code 41 = .ok (.getfield 59, 3) := by decide +kernel
theorem d_BA_branch_44 : decode prog_1_method_3_code 44 = .ok (.astore_n 2, 1) := by decide +kernel
theorem d_BA_branch_45 : decode prog_1_method_3_code 45 = .ok (.aload_n 0, 1) := by decide +kernel
theorem d_BA_branch_46 : decode prog_1_method_3_code 46 = .ok (.aload_n 0, 1) := by decide +kernel
theorem d_BA_branch_47 : decode prog_1_method_3_code 47 = .ok (.getfield 63, 3) := by decide +kernel
theorem d_BA_branch_50 : decode prog_1_method_3_code 50 = .ok (.putfield 59, 3) := by decide +kernel
theorem d_BA_branch_53 : decode prog_1_method_3_code 53 = .ok (.aload_n 0, 1) := by decide +kernel
theorem d_BA_branch_54 : decode prog_1_method_3_code 54 = .ok (.aload_n 2, 1) := by decide +kernel
theorem d_BA_branch_55 : decode prog_1_method_3_code 55 = .ok (.putfield 63, 3) := by decide +kernel
theorem d_BA_branch_58 : decode prog_1_method_3_code 58 = .ok (.aload_n 0, 1) := by decide +kernel
theorem d_BA_branch_59 : decode prog_1_method_3_code 59 = .ok (.getfield 19, 3) := by decide +kernel
theorem d_BA_branch_62 : decode prog_1_method_3_code 62 = .ok (.aload_n 0, 1) := by decide +kernel
theorem d_BA_branch_63 : decode prog_1_method_3_code 63 = .ok (.getfield 59, 3) := by decide +kernel
theorem d_BA_branch_66 : decode prog_1_method_3_code 66 = .ok (.invokevirtual 91, 3) := by decide +kernel
theorem d_BA_branch_69 : decode prog_1_method_3_code 69 = .ok (.aload_n 0, 1) := by decide +kernel
theorem d_BA_branch_70 : decode prog_1_method_3_code 70 = .ok (.getfield 26, 3) := by decide +kernel
theorem d_BA_branch_73 : decode prog_1_method_3_code 73 = .ok (.invokevirtual 95, 3) := by decide +kernel
theorem d_BA_branch_76 : decode prog_1_method_3_code 76 = .ok (.aload_n 0, 1) := by decide +kernel
theorem d_BA_branch_77 : decode prog_1_method_3_code 77 = .ok (.getfield 33, 3) := by decide +kernel
theorem d_BA_branch_80 : decode prog_1_method_3_code 80 = .ok (.invokevirtual 98, 3) := by decide +kernel
theorem d_BA_branch_83 : decode prog_1_method_3_code 83 = .ok (.iconst 0, 1) := by decide +kernel
theorem d_BA_branch_84 : decode prog_1_method_3_code 84 = .ok (.istore_n 3, 1) := by decide +kernel
theorem d_BA_branch_85 : decode prog_1_method_3_code 85 = .ok (.iload_n 3, 1) := by decide +kernel
theorem d_BA_branch_86 : decode prog_1_method_3_code 86 = .ok (.iconst 2, 1) := by decide +kernel
theorem d_BA_branch_87 : decode prog_1_method_3_code 87 = .ok (.if_icmp .ge (16), 3) := by decide +kernel
theorem d_BA_branch_90 : decode prog_1_method_3_code 90 = .ok (.aload_n 0, 1) := by decide +kernel
theorem d_BA_branch_91 : decode prog_1_method_3_code 91 = .ok (.getfield 52, 3) := by decide +kernel
theorem d_BA_branch_94 : decode prog_1_method_3_code 94 = .ok (.iload_n 3, 1) := by decide +kernel
theorem d_BA_branch_95 : decode prog_1_method_3_code 95 = .ok (.iconst 0, 1) := by decide +kernel
theorem d_BA_branch_96 : decode prog_1_method_3_code 96 = .ok (.bastore, 1) := by decide +kernel
theorem d_BA_branch_97 : decode prog_1_method_3_code 97 = .ok (.iinc 3 (1), 3) := by decide +kernel
theorem d_BA_branch_100 : decode prog_1_method_3_code 100 = .ok (.goto (-15), 3) := by decide +kernel
theorem d_BA_branch_103 : decode prog_1_method_3_code 103 = .ok (.aload_n 0, 1) := by decide +kernel
theorem d_BA_branch_104 : decode prog_1_method_3_code 104 = .ok (.getfield 59, 3) := by decide +kernel
theorem d_BA_branch_107 : decode prog_1_method_3_code 107 = .ok (.getfield 99, 3) := by decide +kernel
theorem d_BA_branch_110 : decode prog_1_method_3_code 110 = .ok (.ireturn, 1) := by decide +kernel
set_option maxRecDepth 20000 in
set_option maxHeartbeats 2000000 in
theorem T_BA_branch_L85 {Z : ZT} (X : CX Z Y_BA_branch) {p : Int32 × HP} (hR : RetI Z Y_BA_branch .int p.1 p.2) {K : HP → Option (Int32 × HP)} (hK : ∀ (hp : HP), K hp = some p → V Z Y_BA_branch hp 103 [(0, .ref (gA (zG Z) 0))] []) : ∀ (n : Nat) (hp : HP) (x3 : Int32), f_BA_branch_L85 K n hp x3 = some p → V Z Y_BA_branch hp 85 [(0, .ref (gA (zG Z) 0)), (3, .int x3)] [] := by
  intro n
  induction n with
  | zero =>
    intro hp x3 h
    cases h
  | succ n ih =>
    intro hp x3 h
    replace h : f_BA_branch_L85 K (n + 1) hp x3 = some p := h
    unfold f_BA_branch_L85 at h
    refine R_iload_n X 1 d_BA_branch_85 rfl ?_
    refine R_iconst (v := (2 : Int32)) X d_BA_branch_86 rfl ?_
    refine R_icmp_ge (tgt := 103) X d_BA_branch_87 rfl (fun c14 => ?_) (fun c14 => ?_)
    · replace h := (if_pos c14).symm.trans h
      refine V_pc (pc' := 103) rfl (R_loc (L' := [(0, .ref (gA (zG Z) 0))]) [0] rfl ?_)
      exact hK hp h
    · replace h := (if_neg c14).symm.trans h
      refine R_aload_n X 0 d_BA_branch_90 rfl ?_
      refine R_getR (ci := 6) X rfl iBA_ok (of_decide_eq_true rfl) rfl 7 rfl rfl tw_241 d_BA_branch_91 ?_
      refine R_iload_n X 1 d_BA_branch_94 rfl ?_
      refine R_iconst (v := (0 : Int32)) X d_BA_branch_95 rfl ?_
      obtain ⟨i15, h⟩ := ck h
      refine R_zast (n := 2) X (of_decide_eq_true rfl) rfl i15 d_BA_branch_96 ?_
      refine V_pc (pc' := 97) rfl ?_
      refine R_iinc (v := (x3 + 1)) (L' := [(3, .int (x3 + 1)), (0, .ref (gA (zG Z) 0))]) X 1 d_BA_branch_97 rfl rfl (by decide) rfl ?_
      refine R_goto (tgt := 85) X d_BA_branch_100 rfl ?_
      refine V_pc (pc' := 85) rfl (R_loc (L' := [(0, .ref (gA (zG Z) 0)), (3, .int (x3 + 1))]) [1, 0] rfl ?_)
      exact ih (up hp 86 (x3).toNatClampNeg (bz (0 : Int32))) (x3 + 1) h
set_option maxRecDepth 20000 in
set_option maxHeartbeats 2000000 in
theorem T_BA_branch {Z : ZT} (X : CX Z Y_BA_branch) {hp : HP} {p : Int32 × HP} (h : f_BA_branch hp = some p) (hR : RetI Z Y_BA_branch .int p.1 p.2) : V Z Y_BA_branch hp 0 [(0, .ref (gA (zG Z) 0))] [] := by
  unfold f_BA_branch at h
  refine R_aload_n X 0 d_BA_branch_0 rfl ?_
  refine R_getR (ci := 6) X rfl iBA_ok (of_decide_eq_true rfl) rfl 0 rfl rfl tw_234 d_BA_branch_1 ?_
  refine R_aload_n X 0 d_BA_branch_4 rfl ?_
  refine R_getD (ci := 6) X rfl iBA_ok (of_decide_eq_true rfl) rfl 9 rfl rfl tw_243 d_BA_branch_5 ?_
  obtain ⟨b1, h⟩ := ck h
  obtain ⟨p3, e2, h⟩ := ob h
  refine R_vcall (ci := 3) (k := 1) (As := [.ref (gA (zG Z) (hp 0 9).toNatClampNeg)]) (st := []) X (M_Re_readInto b1 e2) tw_288 cf_Re_readInto (of_decide_eq_true rfl) rfl rfl rfl rfl rfl d_BA_branch_8 ?_
  refine V_pc (pc' := 11) rfl ?_
  refine R_istore_n (L' := [(1, .int p3.1), (0, .ref (gA (zG Z) 0))]) X d_BA_branch_11 (by decide) rfl ?_
  refine R_aload_n X 1 d_BA_branch_12 rfl ?_
  refine R_aload_n X 1 d_BA_branch_13 rfl ?_
  refine R_getR (ci := 6) X rfl iBA_ok (of_decide_eq_true rfl) rfl 0 rfl rfl tw_234 d_BA_branch_14 ?_
  refine R_getI (ci := 3) X rfl iRe_ok (of_decide_eq_true rfl) rfl 2 rfl rfl tw_76 d_BA_branch_17 ?_
  refine R_putI (ci := 6) X rfl iBA_ok yBA_ok nBA_ok (of_decide_eq_true rfl) rfl 10 rfl rfl rfl rfl tw_244 d_BA_branch_20 ?_
  refine V_pc (pc' := 23) rfl ?_
  refine R_aload_n X 1 d_BA_branch_23 rfl ?_
  refine R_getR (ci := 6) X rfl iBA_ok (of_decide_eq_true rfl) rfl 0 rfl rfl tw_234 d_BA_branch_24 ?_
  refine R_iconst (v := (0 : Int32)) X d_BA_branch_27 rfl ?_
  refine R_putI (ci := 3) X rfl iRe_ok yRe_ok nRe_ok (of_decide_eq_true rfl) rfl 1 rfl rfl rfl rfl tw_74 d_BA_branch_28 ?_
  refine R_iload_n X 0 d_BA_branch_31 rfl ?_
  refine R_ifeq (tgt := 40) X d_BA_branch_32 rfl (fun c4 => ?_) (fun c4 => ?_)
  · replace h := (if_pos c4).symm.trans h
    refine R_aload_n X 1 d_BA_branch_40 rfl ?_
    refine R_getD (ci := 6) X rfl iBA_ok (of_decide_eq_true rfl) rfl 8 rfl rfl tw_242 d_BA_branch_41 ?_
    obtain ⟨b5, h⟩ := ck h
    refine R_astore_n (L' := [(2, .ref (gA (zG Z) ((up (up p3.2 0 10 (p3.2 1 2)) 1 1 (0 : Int32)) 0 8).toNatClampNeg)), (1, .int p3.1), (0, .ref (gA (zG Z) 0))]) X d_BA_branch_44 (by decide) rfl ?_
    refine R_aload_n X 2 d_BA_branch_45 rfl ?_
    refine R_aload_n X 2 d_BA_branch_46 rfl ?_
    refine V_pc (pc' := 47) rfl ?_
    refine R_getD (ci := 6) X rfl iBA_ok (of_decide_eq_true rfl) rfl 9 rfl rfl tw_243 d_BA_branch_47 ?_
    obtain ⟨b6, h⟩ := ck h
    refine R_putD (ci := 6) X rfl iBA_ok yBA_ok nBA_ok (of_decide_eq_true rfl) rfl 8 rfl rfl rfl rfl (B_all _ b6).1.1 tw_242 d_BA_branch_50 ?_
    refine R_aload_n X 2 d_BA_branch_53 rfl ?_
    refine R_aload_n X 0 d_BA_branch_54 rfl ?_
    refine R_putD (ci := 6) X rfl iBA_ok yBA_ok nBA_ok (of_decide_eq_true rfl) rfl 9 rfl rfl rfl rfl (B_all _ b5).1.1 tw_243 d_BA_branch_55 ?_
    refine R_aload_n X 2 d_BA_branch_58 rfl ?_
    refine V_pc (pc' := 59) rfl ?_
    refine R_getR (ci := 6) X rfl iBA_ok (of_decide_eq_true rfl) rfl 1 rfl rfl tw_235 d_BA_branch_59 ?_
    refine R_aload_n X 2 d_BA_branch_62 rfl ?_
    refine R_getD (ci := 6) X rfl iBA_ok (of_decide_eq_true rfl) rfl 8 rfl rfl tw_242 d_BA_branch_63 ?_
    obtain ⟨b7, h⟩ := ck h
    obtain ⟨p9, e8, h⟩ := ob h
    refine R_vcallv (ci := 5) (k := 3) (As := [.ref (gA (zG Z) ((up (up (up (up p3.2 0 10 (p3.2 1 2)) 1 1 (0 : Int32)) 0 8 (nI ((up (up p3.2 0 10 (p3.2 1 2)) 1 1 (0 : Int32)) 0 9).toNatClampNeg)) 0 9 (nI ((up (up p3.2 0 10 (p3.2 1 2)) 1 1 (0 : Int32)) 0 8).toNatClampNeg)) 0 8).toNatClampNeg)]) (st := []) X (M_St_begin rfl b7 e8) tw_351 cf_St_begin (of_decide_eq_true rfl) rfl rfl rfl rfl rfl d_BA_branch_66 ?_
    refine R_aload_n X 2 d_BA_branch_69 rfl ?_
    refine R_getR (ci := 6) X rfl iBA_ok (of_decide_eq_true rfl) rfl 2 rfl rfl tw_236 d_BA_branch_70 ?_
    refine V_pc (pc' := 73) rfl ?_
    obtain ⟨p11, e10, h⟩ := ob h
    refine R_vcallv (ci := 1) (k := 6) (As := []) (st := []) X (M_Pa_clear e10) tw_355 cf_Pa_clear (of_decide_eq_true rfl) rfl rfl rfl rfl rfl d_BA_branch_73 ?_
    refine R_aload_n X 2 d_BA_branch_76 rfl ?_
    refine R_getR (ci := 6) X rfl iBA_ok (of_decide_eq_true rfl) rfl 3 rfl rfl tw_237 d_BA_branch_77 ?_
    obtain ⟨p13, e12, h⟩ := ob h
    refine R_vcallv (ci := 4) (k := 68) (As := []) (st := []) X (M_Sl_clear e12) tw_359 cf_Sl_clear (of_decide_eq_true rfl) rfl rfl rfl rfl rfl d_BA_branch_80 ?_
    refine R_iconst (v := (0 : Int32)) X d_BA_branch_83 rfl ?_
    refine R_istore_n (L' := [(3, .int (0 : Int32)), (2, .ref (gA (zG Z) ((up (up p3.2 0 10 (p3.2 1 2)) 1 1 (0 : Int32)) 0 8).toNatClampNeg)), (1, .int p3.1), (0, .ref (gA (zG Z) 0))]) X d_BA_branch_84 (by decide) rfl ?_
    refine V_pc (pc' := 85) rfl (R_loc (L' := [(0, .ref (gA (zG Z) 0)), (3, .int (0 : Int32))]) [3, 0] rfl ?_)
    refine T_BA_branch_L85 X hR (fun hp16 h => ?_) _ p13.2 (0 : Int32) h
    refine R_aload_n X 0 d_BA_branch_103 rfl ?_
    refine R_getD (ci := 6) X rfl iBA_ok (of_decide_eq_true rfl) rfl 8 rfl rfl tw_242 d_BA_branch_104 ?_
    obtain ⟨b17, h⟩ := ck h
    refine R_getI (ci := 0) X rfl iBr_ok (B_all _ b17).1.1 (B_all _ b17).1.2 6 rfl rfl tw_212 d_BA_branch_107 ?_
    exact R_ret hR h d_BA_branch_110
  · replace h := (if_neg c4).symm.trans h
    refine R_bipush (v := (-10 : Int32)) X d_BA_branch_35 rfl ?_
    refine R_iload_n X 0 d_BA_branch_37 rfl ?_
    refine R_isub X d_BA_branch_38 ?_
    exact R_ret hR h d_BA_branch_39
theorem M_BA_branch {G : GT} {hp : HP} {p : Int32 × HP} (h : f_BA_branch hp = some p) : MI G y_BA_branch Y_BA_branch .int [.ref (gA G 0)] hp p.1 p.2 := MI_of rfl (fun Z hz X hR => by subst hz; exact T_BA_branch X h hR)
theorem d_BA_fault_0 : decode prog_1_method_4_code 0 = .ok (.aload_n 0, 1) := by decide +kernel
theorem d_BA_fault_1 : decode prog_1_method_4_code 1 = .ok (.getfield 66, 3) := by decide +kernel
theorem d_BA_fault_4 : decode prog_1_method_4_code 4 = .ok (.ireturn, 1) := by decide +kernel
set_option maxRecDepth 20000 in
set_option maxHeartbeats 2000000 in
theorem T_BA_fault {Z : ZT} (X : CX Z Y_BA_fault) {hp : HP} {p : Int32 × HP} (h : f_BA_fault hp = some p) (hR : RetI Z Y_BA_fault .int p.1 p.2) : V Z Y_BA_fault hp 0 [(0, .ref (gA (zG Z) 0))] [] := by
  unfold f_BA_fault at h
  refine R_aload_n X 0 d_BA_fault_0 rfl ?_
  refine R_getI (ci := 6) X rfl iBA_ok (of_decide_eq_true rfl) rfl 10 rfl rfl tw_244 d_BA_fault_1 ?_
  exact R_ret hR h d_BA_fault_4
theorem M_BA_fault {G : GT} {hp : HP} {p : Int32 × HP} (h : f_BA_fault hp = some p) : MI G y_BA_fault Y_BA_fault .int [.ref (gA G 0)] hp p.1 p.2 := MI_of rfl (fun Z hz X hR => by subst hz; exact T_BA_fault X h hR)
theorem d_Br_partsAt_0 : decode prog_2_method_11_code 0 = .ok (.iconst 0, 1) := by decide +kernel
theorem d_Br_partsAt_1 : decode prog_2_method_11_code 1 = .ok (.istore_n 2, 1) := by decide +kernel
theorem d_Br_partsAt_2 : decode prog_2_method_11_code 2 = .ok (.iconst 0, 1) := by decide +kernel
theorem d_Br_partsAt_3 : decode prog_2_method_11_code 3 = .ok (.istore_n 3, 1) := by decide +kernel
theorem d_Br_partsAt_4 : decode prog_2_method_11_code 4 = .ok (.iload_n 3, 1) := by decide +kernel
theorem d_Br_partsAt_5 : decode prog_2_method_11_code 5 = .ok (.aload_n 0, 1) := by decide +kernel
theorem d_Br_partsAt_6 : decode prog_2_method_11_code 6 = .ok (.getfield 27, 3) := by decide +kernel
theorem d_Br_partsAt_9 : decode prog_2_method_11_code 9 = .ok (.if_icmp .ge (25), 3) := by decide +kernel
theorem d_Br_partsAt_12 : decode prog_2_method_11_code 12 = .ok (.aload_n 0, 1) := by decide +kernel
theorem d_Br_partsAt_13 : decode prog_2_method_11_code 13 = .ok (.getfield 9, 3) := by decide +kernel
theorem d_Br_partsAt_16 : decode prog_2_method_11_code 16 = .ok (.iload_n 3, 1) := by decide +kernel
theorem d_Br_partsAt_17 : decode prog_2_method_11_code 17 = .ok (.iaload, 1) := by decide +kernel
theorem d_Br_partsAt_18 : decode prog_2_method_11_code 18 = .ok (.iload_n 1, 1) := by decide +kernel
theorem d_Br_partsAt_19 : decode prog_2_method_11_code 19 = .ok (.if_icmp .gt (9), 3) := by decide +kernel
theorem d_Br_partsAt_22 : decode prog_2_method_11_code 22 = .ok (.iload_n 2, 1) := by decide +kernel
theorem d_Br_partsAt_23 : decode prog_2_method_11_code 23 = .ok (.iconst 1, 1) := by decide +kernel
theorem d_Br_partsAt_24 : decode prog_2_method_11_code 24 = .ok (.iload_n 3, 1) := by decide +kernel
theorem d_Br_partsAt_25 : decode prog_2_method_11_code 25 = .ok (.ishl, 1) := by decide +kernel
theorem d_Br_partsAt_26 : decode prog_2_method_11_code 26 = .ok (.ior, 1) := by decide +kernel
theorem d_Br_partsAt_27 : decode prog_2_method_11_code 27 = .ok (.istore_n 2, 1) := by decide +kernel
theorem d_Br_partsAt_28 : decode prog_2_method_11_code 28 = .ok (.iinc 3 (1), 3) := by decide +kernel
theorem d_Br_partsAt_31 : decode prog_2_method_11_code 31 = .ok (.goto (-27), 3) := by decide +kernel
theorem d_Br_partsAt_34 : decode prog_2_method_11_code 34 = .ok (.iload_n 2, 1) := by decide +kernel
theorem d_Br_partsAt_35 : decode prog_2_method_11_code 35 = .ok (.ireturn, 1) := by decide +kernel
set_option maxRecDepth 20000 in
set_option maxHeartbeats 2000000 in
theorem T_Br_partsAt_L4 {Z : ZT} (X : CX Z Y_Br_partsAt) {q0 : Nat} {v1 : Int32} (hq0 : isB q0 = true) {p : Int32 × HP} (hR : RetI Z Y_Br_partsAt .int p.1 p.2) {K : HP → Int32 → Option (Int32 × HP)} (hK : ∀ (hp : HP) (x2 : Int32), K hp x2 = some p → V Z Y_Br_partsAt hp 34 [(2, .int x2)] []) : ∀ (n : Nat) (hp : HP) (x2 : Int32) (x3 : Int32), f_Br_partsAt_L4 q0 v1 K n hp x2 x3 = some p → V Z Y_Br_partsAt hp 4 [(0, .ref (gA (zG Z) q0)), (1, .int v1), (2, .int x2), (3, .int x3)] [] := by
  intro n
  induction n with
  | zero =>
    intro hp x2 x3 h
    cases h
  | succ n ih =>
    intro hp x2 x3 h
    replace h : f_Br_partsAt_L4 q0 v1 K (n + 1) hp x2 x3 = some p := h
    unfold f_Br_partsAt_L4 at h
    refine R_iload_n X 3 d_Br_partsAt_4 rfl ?_
    refine R_aload_n X 0 d_Br_partsAt_5 rfl ?_
    refine R_getI (ci := 0) X rfl iBr_ok (B_all _ hq0).1.1 (B_all _ hq0).1.2 5 rfl rfl tw_208 d_Br_partsAt_6 ?_
    refine R_icmp_ge (tgt := 34) X d_Br_partsAt_9 rfl (fun c1 => ?_) (fun c1 => ?_)
    · replace h := (if_pos c1).symm.trans h
      refine V_pc (pc' := 34) rfl (R_loc (L' := [(2, .int x2)]) [2] rfl ?_)
      exact hK hp x2 h
    · replace h := (if_neg c1).symm.trans h
      refine R_aload_n X 0 d_Br_partsAt_12 rfl ?_
      refine R_getR (ci := 0) X rfl iBr_ok (B_all _ hq0).1.1 (B_all _ hq0).1.2 0 rfl rfl tw_198 d_Br_partsAt_13 ?_
      refine R_iload_n X 3 d_Br_partsAt_16 rfl ?_
      obtain ⟨i2, h⟩ := ck h
      refine R_iald (n := 8) X (B_all _ hq0).2.1.1 (B_all _ hq0).2.1.2 i2 d_Br_partsAt_17 ?_
      refine R_iload_n X 1 d_Br_partsAt_18 rfl ?_
      refine V_pc (pc' := 19) rfl ?_
      refine R_icmp_gt (tgt := 28) X d_Br_partsAt_19 rfl (fun c3 => ?_) (fun c3 => ?_)
      · replace h := (if_pos c3).symm.trans h
        refine R_iinc (v := (x3 + 1)) (L' := [(3, .int (x3 + 1)), (0, .ref (gA (zG Z) q0)), (1, .int v1), (2, .int x2)]) X 3 d_Br_partsAt_28 rfl rfl (by decide) rfl ?_
        refine R_goto (tgt := 4) X d_Br_partsAt_31 rfl ?_
        refine V_pc (pc' := 4) rfl (R_loc (L' := [(0, .ref (gA (zG Z) q0)), (1, .int v1), (2, .int x2), (3, .int (x3 + 1))]) [1, 2, 3, 0] rfl ?_)
        exact ih hp x2 (x3 + 1) h
      · replace h := (if_neg c3).symm.trans h
        refine R_iload_n X 2 d_Br_partsAt_22 rfl ?_
        refine R_iconst (v := (1 : Int32)) X d_Br_partsAt_23 rfl ?_
        refine R_iload_n X 3 d_Br_partsAt_24 rfl ?_
        refine R_ishl X d_Br_partsAt_25 ?_
        refine R_ior X d_Br_partsAt_26 ?_
        refine V_pc (pc' := 27) rfl ?_
        refine R_istore_n (L' := [(2, .int (x2 ||| ((1 : Int32) <<< (x3 &&& 31)))), (0, .ref (gA (zG Z) q0)), (1, .int v1), (3, .int x3)]) X d_Br_partsAt_27 (by decide) rfl ?_
        refine R_iinc (v := (x3 + 1)) (L' := [(3, .int (x3 + 1)), (2, .int (x2 ||| ((1 : Int32) <<< (x3 &&& 31)))), (0, .ref (gA (zG Z) q0)), (1, .int v1)]) X 3 d_Br_partsAt_28 rfl rfl (by decide) rfl ?_
        refine R_goto (tgt := 4) X d_Br_partsAt_31 rfl ?_
        refine V_pc (pc' := 4) rfl (R_loc (L' := [(0, .ref (gA (zG Z) q0)), (1, .int v1), (2, .int (x2 ||| ((1 : Int32) <<< (x3 &&& 31)))), (3, .int (x3 + 1))]) [2, 3, 1, 0] rfl ?_)
        exact ih hp (x2 ||| ((1 : Int32) <<< (x3 &&& 31))) (x3 + 1) h
set_option maxRecDepth 20000 in
set_option maxHeartbeats 2000000 in
theorem T_Br_partsAt {Z : ZT} (X : CX Z Y_Br_partsAt) {hp : HP} {q0 : Nat} {a1 : Int32} (hq0 : isB q0 = true) {p : Int32 × HP} (h : f_Br_partsAt hp q0 a1 = some p) (hR : RetI Z Y_Br_partsAt .int p.1 p.2) : V Z Y_Br_partsAt hp 0 [(0, .ref (gA (zG Z) q0)), (1, .int a1)] [] := by
  unfold f_Br_partsAt at h
  refine R_iconst (v := (0 : Int32)) X d_Br_partsAt_0 rfl ?_
  refine R_istore_n (L' := [(2, .int (0 : Int32)), (0, .ref (gA (zG Z) q0)), (1, .int a1)]) X d_Br_partsAt_1 (by decide) rfl ?_
  refine R_iconst (v := (0 : Int32)) X d_Br_partsAt_2 rfl ?_
  refine R_istore_n (L' := [(3, .int (0 : Int32)), (2, .int (0 : Int32)), (0, .ref (gA (zG Z) q0)), (1, .int a1)]) X d_Br_partsAt_3 (by decide) rfl ?_
  refine V_pc (pc' := 4) rfl (R_loc (L' := [(0, .ref (gA (zG Z) q0)), (1, .int a1), (2, .int (0 : Int32)), (3, .int (0 : Int32))]) [2, 3, 1, 0] rfl ?_)
  refine T_Br_partsAt_L4 X hq0 hR (fun hp5 w4 h => ?_) _ hp (0 : Int32) (0 : Int32) h
  refine R_iload_n X 0 d_Br_partsAt_34 rfl ?_
  exact R_ret hR h d_Br_partsAt_35
theorem M_Br_partsAt {G : GT} {hp : HP} {q0 : Nat} {a1 : Int32} (hq0 : isB q0 = true) {p : Int32 × HP} (h : f_Br_partsAt hp q0 a1 = some p) : MI G y_Br_partsAt Y_Br_partsAt .int [.ref (gA G q0), .int a1] hp p.1 p.2 := MI_of rfl (fun Z hz X hR => by subst hz; exact T_Br_partsAt X hq0 h hR)
theorem d_BA_hats_0 : decode prog_1_method_37_code 0 = .ok (.iconst 0, 1) := by decide +kernel
theorem d_BA_hats_1 : decode prog_1_method_37_code 1 = .ok (.istore_n 1, 1) := by decide +kernel
theorem d_BA_hats_2 : decode prog_1_method_37_code 2 = .ok (.iconst 0, 1) := by decide +kernel
theorem d_BA_hats_3 : decode prog_1_method_37_code 3 = .ok (.istore_n 2, 1) := by decide +kernel
theorem d_BA_hats_4 : decode prog_1_method_37_code 4 = .ok (.iload_n 2, 1) := by decide +kernel
theorem d_BA_hats_5 : decode prog_1_method_37_code 5 = .ok (.aload_n 0, 1) := by decide +kernel
theorem d_BA_hats_6 : decode prog_1_method_37_code 6 = .ok (.getfield 59, 3) := by decide +kernel
theorem d_BA_hats_9 : decode prog_1_method_37_code 9 = .ok (.getfield 99, 3) := by decide +kernel
theorem d_BA_hats_12 : decode prog_1_method_37_code 12 = .ok (.if_icmp .ge (34), 3) := by decide +kernel
theorem d_BA_hats_15 : decode prog_1_method_37_code 15 = .ok (.aload_n 0, 1) := by decide +kernel
theorem d_BA_hats_16 : decode prog_1_method_37_code 16 = .ok (.getfield 59, 3) := by decide +kernel
theorem d_BA_hats_19 : decode prog_1_method_37_code 19 = .ok (.aload_n 0, 1) := by decide +kernel
theorem d_BA_hats_20 : decode prog_1_method_37_code 20 = .ok (.getfield 19, 3) := by decide +kernel
theorem d_BA_hats_23 : decode prog_1_method_37_code 23 = .ok (.getfield 148, 3) := by decide +kernel
theorem d_BA_hats_26 : decode prog_1_method_37_code 26 = .ok (.iload_n 2, 1) := by decide +kernel
theorem d_BA_hats_27 : decode prog_1_method_37_code 27 = .ok (.iaload, 1) := by decide +kernel
theorem d_BA_hats_28 : decode prog_1_method_37_code 28 = .ok (.invokevirtual 151, 3) := by decide +kernel
theorem d_BA_hats_31 : decode prog_1_method_37_code 31 = .ok (.ifCond .ne (9), 3) := by decide +kernel
theorem d_BA_hats_34 : decode prog_1_method_37_code 34 = .ok (.iload_n 1, 1) := by decide +kernel
theorem d_BA_hats_35 : decode prog_1_method_37_code 35 = .ok (.iconst 1, 1) := by decide +kernel
theorem d_BA_hats_36 : decode prog_1_method_37_code 36 = .ok (.iload_n 2, 1) := by decide +kernel
theorem d_BA_hats_37 : decode prog_1_method_37_code 37 = .ok (.ishl, 1) := by decide +kernel
theorem d_BA_hats_38 : decode prog_1_method_37_code 38 = .ok (.ior, 1) := by decide +kernel
theorem d_BA_hats_39 : decode prog_1_method_37_code 39 = .ok (.istore_n 1, 1) := by decide +kernel
theorem d_BA_hats_40 : decode prog_1_method_37_code 40 = .ok (.iinc 2 (1), 3) := by decide +kernel
theorem d_BA_hats_43 : decode prog_1_method_37_code 43 = .ok (.goto (-39), 3) := by decide +kernel
theorem d_BA_hats_46 : decode prog_1_method_37_code 46 = .ok (.iload_n 1, 1) := by decide +kernel
theorem d_BA_hats_47 : decode prog_1_method_37_code 47 = .ok (.ireturn, 1) := by decide +kernel
set_option maxRecDepth 20000 in
set_option maxHeartbeats 2000000 in
theorem T_BA_hats_L4 {Z : ZT} (X : CX Z Y_BA_hats) {p : Int32 × HP} (hR : RetI Z Y_BA_hats .int p.1 p.2) {K : HP → Int32 → Option (Int32 × HP)} (hK : ∀ (hp : HP) (x1 : Int32), K hp x1 = some p → V Z Y_BA_hats hp 46 [(1, .int x1)] []) : ∀ (n : Nat) (hp : HP) (x1 : Int32) (x2 : Int32), f_BA_hats_L4 K n hp x1 x2 = some p → V Z Y_BA_hats hp 4 [(0, .ref (gA (zG Z) 0)), (1, .int x1), (2, .int x2)] [] := by
  intro n
  induction n with
  | zero =>
    intro hp x1 x2 h
    cases h
  | succ n ih =>
    intro hp x1 x2 h
    replace h : f_BA_hats_L4 K (n + 1) hp x1 x2 = some p := h
    unfold f_BA_hats_L4 at h
    refine R_iload_n X 2 d_BA_hats_4 rfl ?_
    refine R_aload_n X 0 d_BA_hats_5 rfl ?_
    refine R_getD (ci := 6) X rfl iBA_ok (of_decide_eq_true rfl) rfl 8 rfl rfl tw_242 d_BA_hats_6 ?_
    obtain ⟨b1, h⟩ := ck h
    refine R_getI (ci := 0) X rfl iBr_ok (B_all _ b1).1.1 (B_all _ b1).1.2 6 rfl rfl tw_212 d_BA_hats_9 ?_
    refine R_icmp_ge (tgt := 46) X d_BA_hats_12 rfl (fun c2 => ?_) (fun c2 => ?_)
    · replace h := (if_pos c2).symm.trans h
      refine V_pc (pc' := 46) rfl (R_loc (L' := [(1, .int x1)]) [1] rfl ?_)
      exact hK hp x1 h
    · replace h := (if_neg c2).symm.trans h
      refine R_aload_n X 0 d_BA_hats_15 rfl ?_
      refine R_getD (ci := 6) X rfl iBA_ok (of_decide_eq_true rfl) rfl 8 rfl rfl tw_242 d_BA_hats_16 ?_
      refine R_aload_n X 0 d_BA_hats_19 rfl ?_
      refine R_getR (ci := 6) X rfl iBA_ok (of_decide_eq_true rfl) rfl 1 rfl rfl tw_235 d_BA_hats_20 ?_
      refine R_getR (ci := 5) X rfl iSt_ok (of_decide_eq_true rfl) rfl 0 rfl rfl tw_98 d_BA_hats_23 ?_
      refine V_pc (pc' := 26) rfl ?_
      refine R_iload_n X 2 d_BA_hats_26 rfl ?_
      obtain ⟨i3, h⟩ := ck h
      refine R_iald (n := 5) X (of_decide_eq_true rfl) rfl i3 d_BA_hats_27 ?_
      obtain ⟨p5, e4, h⟩ := ob h
      refine R_vcall (ci := 0) (k := (hp 0 8).toNatClampNeg) (As := [.int (hp 4 (x2).toNatClampNeg)]) (st := []) X (M_Br_partsAt b1 e4) tw_375 cf_Br_partsAt (B_all _ b1).1.1 (B_all _ b1).1.2 rfl rfl rfl rfl d_BA_hats_28 ?_
      refine R_ifne (tgt := 40) X d_BA_hats_31 rfl (fun c6 => ?_) (fun c6 => ?_)
      · replace h := (if_neg c6).symm.trans h
        refine R_iinc (v := (x2 + 1)) (L' := [(2, .int (x2 + 1)), (0, .ref (gA (zG Z) 0)), (1, .int x1)]) X 2 d_BA_hats_40 rfl rfl (by decide) rfl ?_
        refine R_goto (tgt := 4) X d_BA_hats_43 rfl ?_
        refine V_pc (pc' := 4) rfl (R_loc (L' := [(0, .ref (gA (zG Z) 0)), (1, .int x1), (2, .int (x2 + 1))]) [1, 2, 0] rfl ?_)
        exact ih p5.2 x1 (x2 + 1) h
      · replace h := (if_pos c6).symm.trans h
        refine R_iload_n X 1 d_BA_hats_34 rfl ?_
        refine R_iconst (v := (1 : Int32)) X d_BA_hats_35 rfl ?_
        refine R_iload_n X 2 d_BA_hats_36 rfl ?_
        refine R_ishl X d_BA_hats_37 ?_
        refine R_ior X d_BA_hats_38 ?_
        refine V_pc (pc' := 39) rfl ?_
        refine R_istore_n (L' := [(1, .int (x1 ||| ((1 : Int32) <<< (x2 &&& 31)))), (0, .ref (gA (zG Z) 0)), (2, .int x2)]) X d_BA_hats_39 (by decide) rfl ?_
        refine R_iinc (v := (x2 + 1)) (L' := [(2, .int (x2 + 1)), (1, .int (x1 ||| ((1 : Int32) <<< (x2 &&& 31)))), (0, .ref (gA (zG Z) 0))]) X 2 d_BA_hats_40 rfl rfl (by decide) rfl ?_
        refine R_goto (tgt := 4) X d_BA_hats_43 rfl ?_
        refine V_pc (pc' := 4) rfl (R_loc (L' := [(0, .ref (gA (zG Z) 0)), (1, .int (x1 ||| ((1 : Int32) <<< (x2 &&& 31)))), (2, .int (x2 + 1))]) [2, 1, 0] rfl ?_)
        exact ih p5.2 (x1 ||| ((1 : Int32) <<< (x2 &&& 31))) (x2 + 1) h
set_option maxRecDepth 20000 in
set_option maxHeartbeats 2000000 in
theorem T_BA_hats {Z : ZT} (X : CX Z Y_BA_hats) {hp : HP} {p : Int32 × HP} (h : f_BA_hats hp = some p) (hR : RetI Z Y_BA_hats .int p.1 p.2) : V Z Y_BA_hats hp 0 [(0, .ref (gA (zG Z) 0))] [] := by
  unfold f_BA_hats at h
  refine R_iconst (v := (0 : Int32)) X d_BA_hats_0 rfl ?_
  refine R_istore_n (L' := [(1, .int (0 : Int32)), (0, .ref (gA (zG Z) 0))]) X d_BA_hats_1 (by decide) rfl ?_
  refine R_iconst (v := (0 : Int32)) X d_BA_hats_2 rfl ?_
  refine R_istore_n (L' := [(2, .int (0 : Int32)), (1, .int (0 : Int32)), (0, .ref (gA (zG Z) 0))]) X d_BA_hats_3 (by decide) rfl ?_
  refine V_pc (pc' := 4) rfl (R_loc (L' := [(0, .ref (gA (zG Z) 0)), (1, .int (0 : Int32)), (2, .int (0 : Int32))]) [2, 1, 0] rfl ?_)
  refine T_BA_hats_L4 X hR (fun hp8 w7 h => ?_) _ hp (0 : Int32) (0 : Int32) h
  refine R_iload_n X 0 d_BA_hats_46 rfl ?_
  exact R_ret hR h d_BA_hats_47
theorem M_BA_hats {G : GT} {hp : HP} {p : Int32 × HP} (h : f_BA_hats hp = some p) : MI G y_BA_hats Y_BA_hats .int [.ref (gA G 0)] hp p.1 p.2 := MI_of rfl (fun Z hz X hR => by subst hz; exact T_BA_hats X h hR)
theorem d_St_debt_0 : decode prog_7_method_6_code 0 = .ok (.aload_n 0, 1) := by decide +kernel
theorem d_St_debt_1 : decode prog_7_method_6_code 1 = .ok (.getfield 15, 3) := by decide +kernel
theorem d_St_debt_4 : decode prog_7_method_6_code 4 = .ok (.iload_n 1, 1) := by decide +kernel
theorem d_St_debt_5 : decode prog_7_method_6_code 5 = .ok (.iconst 5, 1) := by decide +kernel
theorem d_St_debt_6 : decode prog_7_method_6_code 6 = .ok (.imul, 1) := by decide +kernel
theorem d_St_debt_7 : decode prog_7_method_6_code 7 = .ok (.iload_n 2, 1) := by decide +kernel
theorem d_St_debt_8 : decode prog_7_method_6_code 8 = .ok (.iadd, 1) := by decide +kernel
theorem d_St_debt_9 : decode prog_7_method_6_code 9 = .ok (.iaload, 1) := by decide +kernel
theorem d_St_debt_10 : decode prog_7_method_6_code 10 = .ok (.ireturn, 1) := by decide +kernel
set_option maxRecDepth 20000 in
set_option maxHeartbeats 2000000 in
theorem T_St_debt {Z : ZT} (X : CX Z Y_St_debt) {hp : HP} {q0 : Nat} {a1 : Int32} {a2 : Int32} (hq0 : isS q0 = true) {p : Int32 × HP} (h : f_St_debt hp q0 a1 a2 = some p) (hR : RetI Z Y_St_debt .int p.1 p.2) : V Z Y_St_debt hp 0 [(0, .ref (gA (zG Z) q0)), (1, .int a1), (2, .int a2)] [] := by
  unfold f_St_debt at h
  refine R_aload_n X 0 d_St_debt_0 rfl ?_
  refine R_getR (ci := 5) X rfl iSt_ok (S_all _ hq0).1.1 (S_all _ hq0).1.2 1 rfl rfl tw_99 d_St_debt_1 ?_
  refine R_iload_n X 1 d_St_debt_4 rfl ?_
  refine R_iconst (v := (5 : Int32)) X d_St_debt_5 rfl ?_
  refine R_imul X d_St_debt_6 ?_
  refine V_pc (pc' := 7) rfl ?_
  refine R_iload_n X 2 d_St_debt_7 rfl ?_
  refine R_iadd X d_St_debt_8 ?_
  obtain ⟨i1, h⟩ := ck h
  refine R_iald (n := 25) X (S_all _ hq0).2.2.1 (S_all _ hq0).2.2.2 i1 d_St_debt_9 ?_
  exact R_ret hR h d_St_debt_10
theorem M_St_debt {G : GT} {hp : HP} {q0 : Nat} {a1 : Int32} {a2 : Int32} (hq0 : isS q0 = true) {p : Int32 × HP} (h : f_St_debt hp q0 a1 a2 = some p) : MI G y_St_debt Y_St_debt .int [.ref (gA G q0), .int a1, .int a2] hp p.1 p.2 := MI_of rfl (fun Z hz X hR => by subst hz; exact T_St_debt X hq0 h hR)
theorem d_St_netOf_0 : decode prog_7_method_8_code 0 = .ok (.iconst 0, 1) := by decide +kernel
theorem d_St_netOf_1 : decode prog_7_method_8_code 1 = .ok (.istore_n 2, 1) := by decide +kernel
theorem d_St_netOf_2 : decode prog_7_method_8_code 2 = .ok (.iconst 0, 1) := by decide +kernel
theorem d_St_netOf_3 : decode prog_7_method_8_code 3 = .ok (.istore_n 3, 1) := by decide +kernel
theorem d_St_netOf_4 : decode prog_7_method_8_code 4 = .ok (.iload_n 3, 1) := by decide +kernel
theorem d_St_netOf_5 : decode prog_7_method_8_code 5 = .ok (.iconst 5, 1) := by decide +kernel
theorem d_St_netOf_6 : decode prog_7_method_8_code 6 = .ok (.if_icmp .ge (18), 3) := by decide +kernel
theorem d_St_netOf_9 : decode prog_7_method_8_code 9 = .ok (.iload_n 2, 1) := by decide +kernel
theorem d_St_netOf_10 : decode prog_7_method_8_code 10 = .ok (.aload_n 0, 1) := by decide +kernel
theorem d_St_netOf_11 : decode prog_7_method_8_code 11 = .ok (.iload_n 3, 1) := by decide +kernel
theorem d_St_netOf_12 : decode prog_7_method_8_code 12 = .ok (.iload_n 1, 1) := by decide +kernel
theorem d_St_netOf_13 : decode prog_7_method_8_code 13 = .ok (.invokevirtual 48, 3) := by decide +kernel
theorem d_St_netOf_16 : decode prog_7_method_8_code 16 = .ok (.iadd, 1) := by decide +kernel
theorem d_St_netOf_17 : decode prog_7_method_8_code 17 = .ok (.istore_n 2, 1) := by decide +kernel
theorem d_St_netOf_18 : decode prog_7_method_8_code 18 = .ok (.iinc 3 (1), 3) := by decide +kernel
theorem d_St_netOf_21 : decode prog_7_method_8_code 21 = .ok (.goto (-17), 3) := by decide +kernel
theorem d_St_netOf_24 : decode prog_7_method_8_code 24 = .ok (.iload_n 2, 1) := by decide +kernel
theorem d_St_netOf_25 : decode prog_7_method_8_code 25 = .ok (.ireturn, 1) := by decide +kernel
set_option maxRecDepth 20000 in
set_option maxHeartbeats 2000000 in
theorem T_St_netOf_L4 {Z : ZT} (X : CX Z Y_St_netOf) {q0 : Nat} {v1 : Int32} (hq0 : isS q0 = true) {p : Int32 × HP} (hR : RetI Z Y_St_netOf .int p.1 p.2) {K : HP → Int32 → Option (Int32 × HP)} (hK : ∀ (hp : HP) (x2 : Int32), K hp x2 = some p → V Z Y_St_netOf hp 24 [(2, .int x2)] []) : ∀ (n : Nat) (hp : HP) (x2 : Int32) (x3 : Int32), f_St_netOf_L4 q0 v1 K n hp x2 x3 = some p → V Z Y_St_netOf hp 4 [(0, .ref (gA (zG Z) q0)), (1, .int v1), (2, .int x2), (3, .int x3)] [] := by
  intro n
  induction n with
  | zero =>
    intro hp x2 x3 h
    cases h
  | succ n ih =>
    intro hp x2 x3 h
    replace h : f_St_netOf_L4 q0 v1 K (n + 1) hp x2 x3 = some p := h
    unfold f_St_netOf_L4 at h
    refine R_iload_n X 3 d_St_netOf_4 rfl ?_
    refine R_iconst (v := (5 : Int32)) X d_St_netOf_5 rfl ?_
    refine R_icmp_ge (tgt := 24) X d_St_netOf_6 rfl (fun c1 => ?_) (fun c1 => ?_)
    · replace h := (if_pos c1).symm.trans h
      refine V_pc (pc' := 24) rfl (R_loc (L' := [(2, .int x2)]) [2] rfl ?_)
      exact hK hp x2 h
    · replace h := (if_neg c1).symm.trans h
      refine R_iload_n X 2 d_St_netOf_9 rfl ?_
      refine R_aload_n X 0 d_St_netOf_10 rfl ?_
      refine R_iload_n X 3 d_St_netOf_11 rfl ?_
      refine R_iload_n X 1 d_St_netOf_12 rfl ?_
      obtain ⟨p3, e2, h⟩ := ob h
      refine R_vcall (ci := 5) (k := q0) (As := [.int x3, .int v1]) (st := [.int x2]) X (M_St_debt hq0 e2) tw_387 cf_St_debt (S_all _ hq0).1.1 (S_all _ hq0).1.2 rfl rfl rfl rfl d_St_netOf_13 ?_
      refine V_pc (pc' := 16) rfl ?_
      refine R_iadd X d_St_netOf_16 ?_
      refine R_istore_n (L' := [(2, .int (x2 + p3.1)), (0, .ref (gA (zG Z) q0)), (1, .int v1), (3, .int x3)]) X d_St_netOf_17 (by decide) rfl ?_
      refine R_iinc (v := (x3 + 1)) (L' := [(3, .int (x3 + 1)), (2, .int (x2 + p3.1)), (0, .ref (gA (zG Z) q0)), (1, .int v1)]) X 3 d_St_netOf_18 rfl rfl (by decide) rfl ?_
      refine R_goto (tgt := 4) X d_St_netOf_21 rfl ?_
      refine V_pc (pc' := 4) rfl (R_loc (L' := [(0, .ref (gA (zG Z) q0)), (1, .int v1), (2, .int (x2 + p3.1)), (3, .int (x3 + 1))]) [2, 3, 1, 0] rfl ?_)
      exact ih p3.2 (x2 + p3.1) (x3 + 1) h
set_option maxRecDepth 20000 in
set_option maxHeartbeats 2000000 in
theorem T_St_netOf {Z : ZT} (X : CX Z Y_St_netOf) {hp : HP} {q0 : Nat} {a1 : Int32} (hq0 : isS q0 = true) {p : Int32 × HP} (h : f_St_netOf hp q0 a1 = some p) (hR : RetI Z Y_St_netOf .int p.1 p.2) : V Z Y_St_netOf hp 0 [(0, .ref (gA (zG Z) q0)), (1, .int a1)] [] := by
  unfold f_St_netOf at h
  refine R_iconst (v := (0 : Int32)) X d_St_netOf_0 rfl ?_
  refine R_istore_n (L' := [(2, .int (0 : Int32)), (0, .ref (gA (zG Z) q0)), (1, .int a1)]) X d_St_netOf_1 (by decide) rfl ?_
  refine R_iconst (v := (0 : Int32)) X d_St_netOf_2 rfl ?_
  refine R_istore_n (L' := [(3, .int (0 : Int32)), (2, .int (0 : Int32)), (0, .ref (gA (zG Z) q0)), (1, .int a1)]) X d_St_netOf_3 (by decide) rfl ?_
  refine V_pc (pc' := 4) rfl (R_loc (L' := [(0, .ref (gA (zG Z) q0)), (1, .int a1), (2, .int (0 : Int32)), (3, .int (0 : Int32))]) [2, 3, 1, 0] rfl ?_)
  refine T_St_netOf_L4 X hq0 hR (fun hp5 w4 h => ?_) _ hp (0 : Int32) (0 : Int32) h
  refine R_iload_n X 0 d_St_netOf_24 rfl ?_
  exact R_ret hR h d_St_netOf_25
theorem M_St_netOf {G : GT} {hp : HP} {q0 : Nat} {a1 : Int32} (hq0 : isS q0 = true) {p : Int32 × HP} (h : f_St_netOf hp q0 a1 = some p) : MI G y_St_netOf Y_St_netOf .int [.ref (gA G q0), .int a1] hp p.1 p.2 := MI_of rfl (fun Z hz X hR => by subst hz; exact T_St_netOf X hq0 h hR)
theorem d_BA_bounded_0 : decode prog_1_method_35_code 0 = .ok (.sipush (-9999), 3) := by decide +kernel
theorem d_BA_bounded_3 : decode prog_1_method_35_code 3 = .ok (.sipush (9999), 3) := by decide +kernel
theorem d_BA_bounded_6 : decode prog_1_method_35_code 6 = .ok (.iload_n 0, 1) := by decide +kernel
theorem d_BA_bounded_7 : decode prog_1_method_35_code 7 = .ok (.invokestatic 230, 3) := by decide +kernel
theorem d_BA_bounded_10 : decode prog_1_method_35_code 10 = .ok (.invokestatic 252, 3) := by decide +kernel
theorem d_BA_bounded_13 : decode prog_1_method_35_code 13 = .ok (.ireturn, 1) := by decide +kernel
set_option maxRecDepth 20000 in
set_option maxHeartbeats 2000000 in
theorem T_BA_bounded {Z : ZT} (X : CX Z Y_BA_bounded) {hp : HP} {a0 : Int32} {p : Int32 × HP} (h : f_BA_bounded hp a0 = some p) (hR : RetI Z Y_BA_bounded .int p.1 p.2) : V Z Y_BA_bounded hp 0 [(0, .int a0)] [] := by
  unfold f_BA_bounded at h
  refine R_sipush (v := (-9999 : Int32)) X d_BA_bounded_0 rfl ?_
  refine R_sipush (v := (9999 : Int32)) X d_BA_bounded_3 rfl ?_
  refine R_iload_n X 0 d_BA_bounded_6 rfl ?_
  refine R_mmin X tw_394 tw_395 tw_56 tw_396 rfl d_BA_bounded_7 ?_
  refine R_mmax X tw_397 tw_398 tw_56 tw_399 rfl d_BA_bounded_10 ?_
  refine V_pc (pc' := 13) rfl ?_
  exact R_ret hR h d_BA_bounded_13
theorem M_BA_bounded {G : GT} {hp : HP} {a0 : Int32} {p : Int32 × HP} (h : f_BA_bounded hp a0 = some p) : MI G y_BA_bounded Y_BA_bounded .int [.int a0] hp p.1 p.2 := MI_of rfl (fun Z hz X hR => by subst hz; exact T_BA_bounded X h hR)
theorem d_BA_wholes_0 : decode prog_1_method_38_code 0 = .ok (.iconst 0, 1) := by decide +kernel
theorem d_BA_wholes_1 : decode prog_1_method_38_code 1 = .ok (.istore_n 2, 1) := by decide +kernel
theorem d_BA_wholes_2 : decode prog_1_method_38_code 2 = .ok (.iconst 0, 1) := by decide +kernel
theorem d_BA_wholes_3 : decode prog_1_method_38_code 3 = .ok (.istore_n 3, 1) := by decide +kernel
theorem d_BA_wholes_4 : decode prog_1_method_38_code 4 = .ok (.iload_n 3, 1) := by decide +kernel
theorem d_BA_wholes_5 : decode prog_1_method_38_code 5 = .ok (.aload_n 0, 1) := by decide +kernel
theorem d_BA_wholes_6 : decode prog_1_method_38_code 6 = .ok (.getfield 59, 3) := by decide +kernel
theorem d_BA_wholes_9 : decode prog_1_method_38_code 9 = .ok (.getfield 99, 3) := by decide +kernel
theorem d_BA_wholes_12 : decode prog_1_method_38_code 12 = .ok (.if_icmp .ge (65), 3) := by decide +kernel
theorem d_BA_wholes_15 : decode prog_1_method_38_code 15 = .ok (.aload_n 0, 1) := by decide +kernel
theorem d_BA_wholes_16 : decode prog_1_method_38_code 16 = .ok (.getfield 19, 3) := by decide +kernel
theorem d_BA_wholes_19 : decode prog_1_method_38_code 19 = .ok (.getfield 148, 3) := by decide +kernel
theorem d_BA_wholes_22 : decode prog_1_method_38_code 22 = .ok (.iload_n 3, 1) := by decide +kernel
theorem d_BA_wholes_23 : decode prog_1_method_38_code 23 = .ok (.iaload, 1) := by decide +kernel
theorem d_BA_wholes_24 : decode prog_1_method_38_code 24 = .ok (.iload_n 1, 1) := by decide +kernel
theorem d_BA_wholes_25 : decode prog_1_method_38_code 25 = .ok (.ifCond .eq (14), 3) := by decide +kernel
theorem d_BA_wholes_28 : decode prog_1_method_38_code 28 = .ok (.aload_n 0, 1) := by decide +kernel
theorem d_BA_wholes_29 : decode prog_1_method_38_code 29 = .ok (.getfield 19, 3) := by decide +kernel
theorem d_BA_wholes_32 : decode prog_1_method_38_code 32 = .ok (.iload_n 3, 1) := by decide +kernel
theorem d_BA_wholes_33 : decode prog_1_method_38_code 33 = .ok (.invokevirtual 161, 3) := by decide +kernel
theorem d_BA_wholes_36 : decode prog_1_method_38_code 36 = .ok (.goto (4), 3) := by decide +kernel
theorem d_BA_wholes_39 : decode prog_1_method_38_code 39 = .ok (.iconst 0, 1) := by decide +kernel
theorem d_BA_wholes_40 : decode prog_1_method_38_code 40 = .ok (.iadd, 1) := by decide +kernel
theorem d_BA_wholes_41 : decode prog_1_method_38_code 41 = .ok (.istore 4, 2) := by decide +kernel
theorem d_BA_wholes_43 : decode prog_1_method_38_code 43 = .ok (.aload_n 0, 1) := by decide +kernel
theorem d_BA_wholes_44 : decode prog_1_method_38_code 44 = .ok (.getfield 59, 3) := by decide +kernel
theorem d_BA_wholes_47 : decode prog_1_method_38_code 47 = .ok (.iload 4, 2) := by decide +kernel
theorem d_BA_wholes_49 : decode prog_1_method_38_code 49 = .ok (.invokestatic 270, 3) := by decide +kernel
theorem d_BA_wholes_52 : decode prog_1_method_38_code 52 = .ok (.invokevirtual 151, 3) := by decide +kernel
theorem d_BA_wholes_55 : decode prog_1_method_38_code 55 = .ok (.aload_n 0, 1) := by decide +kernel
theorem d_BA_wholes_56 : decode prog_1_method_38_code 56 = .ok (.getfield 59, 3) := by decide +kernel
theorem d_BA_wholes_59 : decode prog_1_method_38_code 59 = .ok (.invokevirtual 273, 3) := by decide +kernel
theorem d_BA_wholes_62 : decode prog_1_method_38_code 62 = .ok (.if_icmp .ne (9), 3) := by decide +kernel
theorem d_BA_wholes_65 : decode prog_1_method_38_code 65 = .ok (.iload_n 2, 1) := by decide +kernel
theorem d_BA_wholes_66 : decode prog_1_method_38_code 66 = .ok (.iconst 1, 1) := by decide +kernel
theorem d_BA_wholes_67 : decode prog_1_method_38_code 67 = .ok (.iload_n 3, 1) := by decide +kernel
theorem d_BA_wholes_68 : decode prog_1_method_38_code 68 = .ok (.ishl, 1) := by decide +kernel
theorem d_BA_wholes_69 : decode prog_1_method_38_code 69 = .ok (.ior, 1) := by decide +kernel
theorem d_BA_wholes_70 : decode prog_1_method_38_code 70 = .ok (.istore_n 2, 1) := by decide +kernel
theorem d_BA_wholes_71 : decode prog_1_method_38_code 71 = .ok (.iinc 3 (1), 3) := by decide +kernel
theorem d_BA_wholes_74 : decode prog_1_method_38_code 74 = .ok (.goto (-70), 3) := by decide +kernel
theorem d_BA_wholes_77 : decode prog_1_method_38_code 77 = .ok (.iload_n 2, 1) := by decide +kernel
theorem d_BA_wholes_78 : decode prog_1_method_38_code 78 = .ok (.ireturn, 1) := by decide +kernel
set_option maxRecDepth 20000 in
set_option maxHeartbeats 2000000 in
theorem T_BA_wholes_L4 {Z : ZT} (X : CX Z Y_BA_wholes) {v1 : Int32} {p : Int32 × HP} (hR : RetI Z Y_BA_wholes .int p.1 p.2) {K : HP → Int32 → Option (Int32 × HP)} (hK : ∀ (hp : HP) (x2 : Int32), K hp x2 = some p → V Z Y_BA_wholes hp 77 [(2, .int x2)] []) : ∀ (n : Nat) (hp : HP) (x2 : Int32) (x3 : Int32), f_BA_wholes_L4 v1 K n hp x2 x3 = some p → V Z Y_BA_wholes hp 4 [(0, .ref (gA (zG Z) 0)), (1, .int v1), (2, .int x2), (3, .int x3)] [] := by
  intro n
  induction n with
  | zero =>
    intro hp x2 x3 h
    cases h
  | succ n ih =>
    intro hp x2 x3 h
    replace h : f_BA_wholes_L4 v1 K (n + 1) hp x2 x3 = some p := h
    unfold f_BA_wholes_L4 at h
    refine R_iload_n X 3 d_BA_wholes_4 rfl ?_
    refine R_aload_n X 0 d_BA_wholes_5 rfl ?_
    refine R_getD (ci := 6) X rfl iBA_ok (of_decide_eq_true rfl) rfl 8 rfl rfl tw_242 d_BA_wholes_6 ?_
    obtain ⟨b1, h⟩ := ck h
    refine R_getI (ci := 0) X rfl iBr_ok (B_all _ b1).1.1 (B_all _ b1).1.2 6 rfl rfl tw_212 d_BA_wholes_9 ?_
    refine R_icmp_ge (tgt := 77) X d_BA_wholes_12 rfl (fun c2 => ?_) (fun c2 => ?_)
    · replace h := (if_pos c2).symm.trans h
      refine V_pc (pc' := 77) rfl (R_loc (L' := [(2, .int x2)]) [2] rfl ?_)
      exact hK hp x2 h
    · replace h := (if_neg c2).symm.trans h
      refine R_aload_n X 0 d_BA_wholes_15 rfl ?_
      refine R_getR (ci := 6) X rfl iBA_ok (of_decide_eq_true rfl) rfl 1 rfl rfl tw_235 d_BA_wholes_16 ?_
      refine R_getR (ci := 5) X rfl iSt_ok (of_decide_eq_true rfl) rfl 0 rfl rfl tw_98 d_BA_wholes_19 ?_
      refine R_iload_n X 3 d_BA_wholes_22 rfl ?_
      obtain ⟨i3, h⟩ := ck h
      refine R_iald (n := 5) X (of_decide_eq_true rfl) rfl i3 d_BA_wholes_23 ?_
      refine V_pc (pc' := 24) rfl ?_
      refine R_iload_n X 1 d_BA_wholes_24 rfl ?_
      refine R_ifeq (tgt := 39) X d_BA_wholes_25 rfl (fun c4 => ?_) (fun c4 => ?_)
      · replace h := (if_pos c4).symm.trans h
        refine R_iconst (v := (0 : Int32)) X d_BA_wholes_39 rfl ?_
        refine R_iadd X d_BA_wholes_40 ?_
        refine R_istore (L' := [(4, .int ((hp 4 (x3).toNatClampNeg) + (0 : Int32))), (0, .ref (gA (zG Z) 0)), (1, .int v1), (2, .int x2), (3, .int x3)]) X d_BA_wholes_41 (by decide) rfl ?_
        refine R_aload_n X 1 d_BA_wholes_43 rfl ?_
        refine R_getD (ci := 6) X rfl iBA_ok (of_decide_eq_true rfl) rfl 8 rfl rfl tw_242 d_BA_wholes_44 ?_
        refine V_pc (pc' := 47) rfl ?_
        refine R_iload X 0 d_BA_wholes_47 rfl ?_
        obtain ⟨p6, e5, h⟩ := ob h
        refine R_scall (As := [.int ((hp 4 (x3).toNatClampNeg) + (0 : Int32))]) (st := [.ref (gA (zG Z) (hp 0 8).toNatClampNeg)]) X (M_BA_bounded e5) tw_391 cf_BA_bounded rfl rfl rfl d_BA_wholes_49 ?_
        obtain ⟨p8, e7, h⟩ := ob h
        refine R_vcall (ci := 0) (k := (hp 0 8).toNatClampNeg) (As := [.int p6.1]) (st := []) X (M_Br_partsAt b1 e7) tw_375 cf_Br_partsAt (B_all _ b1).1.1 (B_all _ b1).1.2 rfl rfl rfl rfl d_BA_wholes_52 ?_
        refine R_aload_n X 1 d_BA_wholes_55 rfl ?_
        refine R_getD (ci := 6) X rfl iBA_ok (of_decide_eq_true rfl) rfl 8 rfl rfl tw_242 d_BA_wholes_56 ?_
        obtain ⟨b9, h⟩ := ck h
        obtain ⟨p11, e10, h⟩ := ob h
        refine R_vcall (ci := 0) (k := (p8.2 0 8).toNatClampNeg) (As := []) (st := [.int p8.1]) X (M_Br_allParts b9 e10) tw_400 cf_Br_allParts (B_all _ b9).1.1 (B_all _ b9).1.2 rfl rfl rfl rfl d_BA_wholes_59 ?_
        refine V_pc (pc' := 62) rfl ?_
        refine R_icmp_ne (tgt := 71) X d_BA_wholes_62 rfl (fun c12 => ?_) (fun c12 => ?_)
        · replace h := (if_neg c12).symm.trans h
          refine R_iinc (v := (x3 + 1)) (L' := [(3, .int (x3 + 1)), (4, .int ((hp 4 (x3).toNatClampNeg) + (0 : Int32))), (0, .ref (gA (zG Z) 0)), (1, .int v1), (2, .int x2)]) X 4 d_BA_wholes_71 rfl rfl (by decide) rfl ?_
          refine R_goto (tgt := 4) X d_BA_wholes_74 rfl ?_
          refine V_pc (pc' := 4) rfl (R_loc (L' := [(0, .ref (gA (zG Z) 0)), (1, .int v1), (2, .int x2), (3, .int (x3 + 1))]) [2, 3, 4, 0] rfl ?_)
          exact ih p11.2 x2 (x3 + 1) h
        · replace h := (if_pos c12).symm.trans h
          refine R_iload_n X 3 d_BA_wholes_65 rfl ?_
          refine R_iconst (v := (1 : Int32)) X d_BA_wholes_66 rfl ?_
          refine R_iload_n X 4 d_BA_wholes_67 rfl ?_
          refine R_ishl X d_BA_wholes_68 ?_
          refine R_ior X d_BA_wholes_69 ?_
          refine V_pc (pc' := 70) rfl ?_
          refine R_istore_n (L' := [(2, .int (x2 ||| ((1 : Int32) <<< (x3 &&& 31)))), (4, .int ((hp 4 (x3).toNatClampNeg) + (0 : Int32))), (0, .ref (gA (zG Z) 0)), (1, .int v1), (3, .int x3)]) X d_BA_wholes_70 (by decide) rfl ?_
          refine R_iinc (v := (x3 + 1)) (L' := [(3, .int (x3 + 1)), (2, .int (x2 ||| ((1 : Int32) <<< (x3 &&& 31)))), (4, .int ((hp 4 (x3).toNatClampNeg) + (0 : Int32))), (0, .ref (gA (zG Z) 0)), (1, .int v1)]) X 4 d_BA_wholes_71 rfl rfl (by decide) rfl ?_
          refine R_goto (tgt := 4) X d_BA_wholes_74 rfl ?_
          refine V_pc (pc' := 4) rfl (R_loc (L' := [(0, .ref (gA (zG Z) 0)), (1, .int v1), (2, .int (x2 ||| ((1 : Int32) <<< (x3 &&& 31)))), (3, .int (x3 + 1))]) [3, 4, 1, 0] rfl ?_)
          exact ih p11.2 (x2 ||| ((1 : Int32) <<< (x3 &&& 31))) (x3 + 1) h
      · replace h := (if_neg c4).symm.trans h
        refine R_aload_n X 0 d_BA_wholes_28 rfl ?_
        refine R_getR (ci := 6) X rfl iBA_ok (of_decide_eq_true rfl) rfl 1 rfl rfl tw_235 d_BA_wholes_29 ?_
        refine R_iload_n X 3 d_BA_wholes_32 rfl ?_
        obtain ⟨p14, e13, h⟩ := ob h
        refine R_vcall (ci := 5) (k := 3) (As := [.int x3]) (st := [.int (hp 4 (x3).toNatClampNeg)]) X (M_St_netOf rfl e13) tw_383 cf_St_netOf (of_decide_eq_true rfl) rfl rfl rfl rfl rfl d_BA_wholes_33 ?_
        refine R_goto (tgt := 40) X d_BA_wholes_36 rfl ?_
        refine V_pc (pc' := 40) rfl ?_
        refine R_iadd X d_BA_wholes_40 ?_
        refine R_istore (L' := [(4, .int ((hp 4 (x3).toNatClampNeg) + p14.1)), (0, .ref (gA (zG Z) 0)), (1, .int v1), (2, .int x2), (3, .int x3)]) X d_BA_wholes_41 (by decide) rfl ?_
        refine R_aload_n X 1 d_BA_wholes_43 rfl ?_
        refine R_getD (ci := 6) X rfl iBA_ok (of_decide_eq_true rfl) rfl 8 rfl rfl tw_242 d_BA_wholes_44 ?_
        obtain ⟨b15, h⟩ := ck h
        refine R_iload X 0 d_BA_wholes_47 rfl ?_
        obtain ⟨p17, e16, h⟩ := ob h
        refine R_scall (As := [.int ((hp 4 (x3).toNatClampNeg) + p14.1)]) (st := [.ref (gA (zG Z) (p14.2 0 8).toNatClampNeg)]) X (M_BA_bounded e16) tw_391 cf_BA_bounded rfl rfl rfl d_BA_wholes_49 ?_
        refine V_pc (pc' := 52) rfl ?_
        obtain ⟨p19, e18, h⟩ := ob h
        refine R_vcall (ci := 0) (k := (p14.2 0 8).toNatClampNeg) (As := [.int p17.1]) (st := []) X (M_Br_partsAt b15 e18) tw_375 cf_Br_partsAt (B_all _ b15).1.1 (B_all _ b15).1.2 rfl rfl rfl rfl d_BA_wholes_52 ?_
        refine R_aload_n X 1 d_BA_wholes_55 rfl ?_
        refine R_getD (ci := 6) X rfl iBA_ok (of_decide_eq_true rfl) rfl 8 rfl rfl tw_242 d_BA_wholes_56 ?_
        obtain ⟨b20, h⟩ := ck h
        obtain ⟨p22, e21, h⟩ := ob h
        refine R_vcall (ci := 0) (k := (p19.2 0 8).toNatClampNeg) (As := []) (st := [.int p19.1]) X (M_Br_allParts b20 e21) tw_400 cf_Br_allParts (B_all _ b20).1.1 (B_all _ b20).1.2 rfl rfl rfl rfl d_BA_wholes_59 ?_
        refine R_icmp_ne (tgt := 71) X d_BA_wholes_62 rfl (fun c23 => ?_) (fun c23 => ?_)
        · replace h := (if_neg c23).symm.trans h
          refine R_iinc (v := (x3 + 1)) (L' := [(3, .int (x3 + 1)), (4, .int ((hp 4 (x3).toNatClampNeg) + p14.1)), (0, .ref (gA (zG Z) 0)), (1, .int v1), (2, .int x2)]) X 4 d_BA_wholes_71 rfl rfl (by decide) rfl ?_
          refine R_goto (tgt := 4) X d_BA_wholes_74 rfl ?_
          refine V_pc (pc' := 4) rfl (R_loc (L' := [(0, .ref (gA (zG Z) 0)), (1, .int v1), (2, .int x2), (3, .int (x3 + 1))]) [2, 3, 4, 0] rfl ?_)
          exact ih p22.2 x2 (x3 + 1) h
        · replace h := (if_pos c23).symm.trans h
          refine R_iload_n X 3 d_BA_wholes_65 rfl ?_
          refine R_iconst (v := (1 : Int32)) X d_BA_wholes_66 rfl ?_
          refine R_iload_n X 4 d_BA_wholes_67 rfl ?_
          refine R_ishl X d_BA_wholes_68 ?_
          refine R_ior X d_BA_wholes_69 ?_
          refine V_pc (pc' := 70) rfl ?_
          refine R_istore_n (L' := [(2, .int (x2 ||| ((1 : Int32) <<< (x3 &&& 31)))), (4, .int ((hp 4 (x3).toNatClampNeg) + p14.1)), (0, .ref (gA (zG Z) 0)), (1, .int v1), (3, .int x3)]) X d_BA_wholes_70 (by decide) rfl ?_
          refine R_iinc (v := (x3 + 1)) (L' := [(3, .int (x3 + 1)), (2, .int (x2 ||| ((1 : Int32) <<< (x3 &&& 31)))), (4, .int ((hp 4 (x3).toNatClampNeg) + p14.1)), (0, .ref (gA (zG Z) 0)), (1, .int v1)]) X 4 d_BA_wholes_71 rfl rfl (by decide) rfl ?_
          refine R_goto (tgt := 4) X d_BA_wholes_74 rfl ?_
          refine V_pc (pc' := 4) rfl (R_loc (L' := [(0, .ref (gA (zG Z) 0)), (1, .int v1), (2, .int (x2 ||| ((1 : Int32) <<< (x3 &&& 31)))), (3, .int (x3 + 1))]) [3, 4, 1, 0] rfl ?_)
          exact ih p22.2 (x2 ||| ((1 : Int32) <<< (x3 &&& 31))) (x3 + 1) h
set_option maxRecDepth 20000 in
set_option maxHeartbeats 2000000 in
theorem T_BA_wholes {Z : ZT} (X : CX Z Y_BA_wholes) {hp : HP} {a1 : Int32} {p : Int32 × HP} (h : f_BA_wholes hp a1 = some p) (hR : RetI Z Y_BA_wholes .int p.1 p.2) : V Z Y_BA_wholes hp 0 [(0, .ref (gA (zG Z) 0)), (1, .int a1)] [] := by
  unfold f_BA_wholes at h
  refine R_iconst (v := (0 : Int32)) X d_BA_wholes_0 rfl ?_
  refine R_istore_n (L' := [(2, .int (0 : Int32)), (0, .ref (gA (zG Z) 0)), (1, .int a1)]) X d_BA_wholes_1 (by decide) rfl ?_
  refine R_iconst (v := (0 : Int32)) X d_BA_wholes_2 rfl ?_
  refine R_istore_n (L' := [(3, .int (0 : Int32)), (2, .int (0 : Int32)), (0, .ref (gA (zG Z) 0)), (1, .int a1)]) X d_BA_wholes_3 (by decide) rfl ?_
  refine V_pc (pc' := 4) rfl (R_loc (L' := [(0, .ref (gA (zG Z) 0)), (1, .int a1), (2, .int (0 : Int32)), (3, .int (0 : Int32))]) [2, 3, 1, 0] rfl ?_)
  refine T_BA_wholes_L4 X hR (fun hp25 w24 h => ?_) _ hp (0 : Int32) (0 : Int32) h
  refine R_iload_n X 0 d_BA_wholes_77 rfl ?_
  exact R_ret hR h d_BA_wholes_78
theorem M_BA_wholes {G : GT} {hp : HP} {a1 : Int32} {p : Int32 × HP} (h : f_BA_wholes hp a1 = some p) : MI G y_BA_wholes Y_BA_wholes .int [.ref (gA G 0), .int a1] hp p.1 p.2 := MI_of rfl (fun Z hz X hR => by subst hz; exact T_BA_wholes X h hR)
theorem d_BA_cleared_0 : decode prog_1_method_39_code 0 = .ok (.iconst 0, 1) := by decide +kernel
theorem d_BA_cleared_1 : decode prog_1_method_39_code 1 = .ok (.istore_n 1, 1) := by decide +kernel
theorem d_BA_cleared_2 : decode prog_1_method_39_code 2 = .ok (.iconst 0, 1) := by decide +kernel
theorem d_BA_cleared_3 : decode prog_1_method_39_code 3 = .ok (.istore_n 2, 1) := by decide +kernel
theorem d_BA_cleared_4 : decode prog_1_method_39_code 4 = .ok (.iload_n 2, 1) := by decide +kernel
theorem d_BA_cleared_5 : decode prog_1_method_39_code 5 = .ok (.aload_n 0, 1) := by decide +kernel
theorem d_BA_cleared_6 : decode prog_1_method_39_code 6 = .ok (.getfield 59, 3) := by decide +kernel
theorem d_BA_cleared_9 : decode prog_1_method_39_code 9 = .ok (.getfield 99, 3) := by decide +kernel
theorem d_BA_cleared_12 : decode prog_1_method_39_code 12 = .ok (.if_icmp .ge (23), 3) := by decide +kernel
theorem d_BA_cleared_15 : decode prog_1_method_39_code 15 = .ok (.aload_n 0, 1) := by decide +kernel
theorem d_BA_cleared_16 : decode prog_1_method_39_code 16 = .ok (.getfield 19, 3) := by decide +kernel
theorem d_BA_cleared_19 : decode prog_1_method_39_code 19 = .ok (.iload_n 2, 1) := by decide +kernel
theorem d_BA_cleared_20 : decode prog_1_method_39_code 20 = .ok (.invokevirtual 161, 3) := by decide +kernel
theorem d_BA_cleared_23 : decode prog_1_method_39_code 23 = .ok (.ifCond .ge (6), 3) := by decide +kernel
theorem d_BA_cleared_26 : decode prog_1_method_39_code 26 = .ok (.iinc 1 (1), 3) := by decide +kernel
theorem d_BA_cleared_29 : decode prog_1_method_39_code 29 = .ok (.iinc 2 (1), 3) := by decide +kernel
theorem d_BA_cleared_32 : decode prog_1_method_39_code 32 = .ok (.goto (-28), 3) := by decide +kernel
theorem d_BA_cleared_35 : decode prog_1_method_39_code 35 = .ok (.iload_n 1, 1) := by decide +kernel
theorem d_BA_cleared_36 : decode prog_1_method_39_code 36 = .ok (.ireturn, 1) := by decide +kernel
set_option maxRecDepth 20000 in
set_option maxHeartbeats 2000000 in
theorem T_BA_cleared_L4 {Z : ZT} (X : CX Z Y_BA_cleared) {p : Int32 × HP} (hR : RetI Z Y_BA_cleared .int p.1 p.2) {K : HP → Int32 → Option (Int32 × HP)} (hK : ∀ (hp : HP) (x1 : Int32), K hp x1 = some p → V Z Y_BA_cleared hp 35 [(1, .int x1)] []) : ∀ (n : Nat) (hp : HP) (x1 : Int32) (x2 : Int32), f_BA_cleared_L4 K n hp x1 x2 = some p → V Z Y_BA_cleared hp 4 [(0, .ref (gA (zG Z) 0)), (1, .int x1), (2, .int x2)] [] := by
  intro n
  induction n with
  | zero =>
    intro hp x1 x2 h
    cases h
  | succ n ih =>
    intro hp x1 x2 h
    replace h : f_BA_cleared_L4 K (n + 1) hp x1 x2 = some p := h
    unfold f_BA_cleared_L4 at h
    refine R_iload_n X 2 d_BA_cleared_4 rfl ?_
    refine R_aload_n X 0 d_BA_cleared_5 rfl ?_
    refine R_getD (ci := 6) X rfl iBA_ok (of_decide_eq_true rfl) rfl 8 rfl rfl tw_242 d_BA_cleared_6 ?_
    obtain ⟨b1, h⟩ := ck h
    refine R_getI (ci := 0) X rfl iBr_ok (B_all _ b1).1.1 (B_all _ b1).1.2 6 rfl rfl tw_212 d_BA_cleared_9 ?_
    refine R_icmp_ge (tgt := 35) X d_BA_cleared_12 rfl (fun c2 => ?_) (fun c2 => ?_)
    · replace h := (if_pos c2).symm.trans h
      refine V_pc (pc' := 35) rfl (R_loc (L' := [(1, .int x1)]) [1] rfl ?_)
      exact hK hp x1 h
    · replace h := (if_neg c2).symm.trans h
      refine R_aload_n X 0 d_BA_cleared_15 rfl ?_
      refine R_getR (ci := 6) X rfl iBA_ok (of_decide_eq_true rfl) rfl 1 rfl rfl tw_235 d_BA_cleared_16 ?_
      refine R_iload_n X 2 d_BA_cleared_19 rfl ?_
      obtain ⟨p4, e3, h⟩ := ob h
      refine R_vcall (ci := 5) (k := 3) (As := [.int x2]) (st := []) X (M_St_netOf rfl e3) tw_383 cf_St_netOf (of_decide_eq_true rfl) rfl rfl rfl rfl rfl d_BA_cleared_20 ?_
      refine R_ifge (tgt := 29) X d_BA_cleared_23 rfl (fun c5 => ?_) (fun c5 => ?_)
      · replace h := (if_pos c5).symm.trans h
        refine R_iinc (v := (x2 + 1)) (L' := [(2, .int (x2 + 1)), (0, .ref (gA (zG Z) 0)), (1, .int x1)]) X 2 d_BA_cleared_29 rfl rfl (by decide) rfl ?_
        refine R_goto (tgt := 4) X d_BA_cleared_32 rfl ?_
        refine V_pc (pc' := 4) rfl (R_loc (L' := [(0, .ref (gA (zG Z) 0)), (1, .int x1), (2, .int (x2 + 1))]) [1, 2, 0] rfl ?_)
        exact ih p4.2 x1 (x2 + 1) h
      · replace h := (if_neg c5).symm.trans h
        refine R_iinc (v := (x1 + 1)) (L' := [(1, .int (x1 + 1)), (0, .ref (gA (zG Z) 0)), (2, .int x2)]) X 1 d_BA_cleared_26 rfl rfl (by decide) rfl ?_
        refine R_iinc (v := (x2 + 1)) (L' := [(2, .int (x2 + 1)), (1, .int (x1 + 1)), (0, .ref (gA (zG Z) 0))]) X 2 d_BA_cleared_29 rfl rfl (by decide) rfl ?_
        refine R_goto (tgt := 4) X d_BA_cleared_32 rfl ?_
        refine V_pc (pc' := 4) rfl (R_loc (L' := [(0, .ref (gA (zG Z) 0)), (1, .int (x1 + 1)), (2, .int (x2 + 1))]) [2, 1, 0] rfl ?_)
        exact ih p4.2 (x1 + 1) (x2 + 1) h
set_option maxRecDepth 20000 in
set_option maxHeartbeats 2000000 in
theorem T_BA_cleared {Z : ZT} (X : CX Z Y_BA_cleared) {hp : HP} {p : Int32 × HP} (h : f_BA_cleared hp = some p) (hR : RetI Z Y_BA_cleared .int p.1 p.2) : V Z Y_BA_cleared hp 0 [(0, .ref (gA (zG Z) 0))] [] := by
  unfold f_BA_cleared at h
  refine R_iconst (v := (0 : Int32)) X d_BA_cleared_0 rfl ?_
  refine R_istore_n (L' := [(1, .int (0 : Int32)), (0, .ref (gA (zG Z) 0))]) X d_BA_cleared_1 (by decide) rfl ?_
  refine R_iconst (v := (0 : Int32)) X d_BA_cleared_2 rfl ?_
  refine R_istore_n (L' := [(2, .int (0 : Int32)), (1, .int (0 : Int32)), (0, .ref (gA (zG Z) 0))]) X d_BA_cleared_3 (by decide) rfl ?_
  refine V_pc (pc' := 4) rfl (R_loc (L' := [(0, .ref (gA (zG Z) 0)), (1, .int (0 : Int32)), (2, .int (0 : Int32))]) [2, 1, 0] rfl ?_)
  refine T_BA_cleared_L4 X hR (fun hp7 w6 h => ?_) _ hp (0 : Int32) (0 : Int32) h
  refine R_iload_n X 0 d_BA_cleared_35 rfl ?_
  exact R_ret hR h d_BA_cleared_36
theorem M_BA_cleared {G : GT} {hp : HP} {p : Int32 × HP} (h : f_BA_cleared hp = some p) : MI G y_BA_cleared Y_BA_cleared .int [.ref (gA G 0)] hp p.1 p.2 := MI_of rfl (fun Z hz X hR => by subst hz; exact T_BA_cleared X h hR)
theorem d_BA_told_0 : decode prog_1_method_5_code 0 = .ok (.iload_n 1, 1) := by decide +kernel
theorem d_BA_told_1 : decode prog_1_method_5_code 1 = .ok (.tableswitch 173 0 13 #[71, 79, 87, 95, 103, 111, 116, 122, 127, 133, 141, 149, 157, 165], 71) := by decide +kernel
theorem d_BA_told_72 : decode prog_1_method_5_code 72 = .ok (.aload_n 0, 1) := by decide +kernel
theorem d_BA_told_73 : decode prog_1_method_5_code 73 = .ok (.getfield 59, 3) := by decide +kernel
theorem d_BA_told_76 : decode prog_1_method_5_code 76 = .ok (.getfield 102, 3) := by decide +kernel
theorem d_BA_told_79 : decode prog_1_method_5_code 79 = .ok (.ireturn, 1) := by decide +kernel
theorem d_BA_told_80 : decode prog_1_method_5_code 80 = .ok (.aload_n 0, 1) := by decide +kernel
theorem d_BA_told_81 : decode prog_1_method_5_code 81 = .ok (.getfield 59, 3) := by decide +kernel
theorem d_BA_told_84 : decode prog_1_method_5_code 84 = .ok (.getfield 99, 3) := by decide +kernel
theorem d_BA_told_87 : decode prog_1_method_5_code 87 = .ok (.ireturn, 1) := by decide +kernel
theorem d_BA_told_88 : decode prog_1_method_5_code 88 = .ok (.aload_n 0, 1) := by decide +kernel
theorem d_BA_told_89 : decode prog_1_method_5_code 89 = .ok (.getfield 59, 3) := by decide +kernel
theorem d_BA_told_92 : decode prog_1_method_5_code 92 = .ok (.getfield 105, 3) := by decide +kernel
theorem d_BA_told_95 : decode prog_1_method_5_code 95 = .ok (.ireturn, 1) := by decide +kernel
theorem d_BA_told_96 : decode prog_1_method_5_code 96 = .ok (.aload_n 0, 1) := by decide +kernel
theorem d_BA_told_97 : decode prog_1_method_5_code 97 = .ok (.getfield 10, 3) := by decide +kernel
theorem d_BA_told_100 : decode prog_1_method_5_code 100 = .ok (.getfield 78, 3) := by decide +kernel
theorem d_BA_told_103 : decode prog_1_method_5_code 103 = .ok (.ireturn, 1) := by decide +kernel
theorem d_BA_told_104 : decode prog_1_method_5_code 104 = .ok (.aload_n 0, 1) := by decide +kernel
theorem d_BA_told_105 : decode prog_1_method_5_code 105 = .ok (.getfield 19, 3) := by decide +kernel
theorem d_BA_told_108 : decode prog_1_method_5_code 108 = .ok (.getfield 108, 3) := by decide +kernel
theorem d_BA_told_111 : decode prog_1_method_5_code 111 = .ok (.ireturn, 1) := by decide +kernel
theorem d_BA_told_112 : decode prog_1_method_5_code 112 = .ok (.aload_n 0, 1) := by decide +kernel
theorem d_BA_told_113 : decode prog_1_method_5_code 113 = .ok (.invokevirtual 111, 3) := by decide +kernel
theorem d_BA_told_116 : decode prog_1_method_5_code 116 = .ok (.ireturn, 1) := by decide +kernel
theorem d_BA_told_117 : decode prog_1_method_5_code 117 = .ok (.aload_n 0, 1) := by decide +kernel
theorem d_BA_told_118 : decode prog_1_method_5_code 118 = .ok (.iconst 0, 1) := by decide +kernel
theorem d_BA_told_119 : decode prog_1_method_5_code 119 = .ok (.invokevirtual 115, 3) := by decide +kernel
theorem d_BA_told_122 : decode prog_1_method_5_code 122 = .ok (.ireturn, 1) := by decide +kernel
theorem d_BA_told_123 : decode prog_1_method_5_code 123 = .ok (.aload_n 0, 1) := by decide +kernel
theorem d_BA_told_124 : decode prog_1_method_5_code 124 = .ok (.invokevirtual 119, 3) := by decide +kernel
theorem d_BA_told_127 : decode prog_1_method_5_code 127 = .ok (.ireturn, 1) := by decide +kernel
theorem d_BA_told_128 : decode prog_1_method_5_code 128 = .ok (.aload_n 0, 1) := by decide +kernel
theorem d_BA_told_129 : decode prog_1_method_5_code 129 = .ok (.iconst 1, 1) := by decide +kernel
theorem d_BA_told_130 : decode prog_1_method_5_code 130 = .ok (.invokevirtual 115, 3) := by decide +kernel
theorem d_BA_told_133 : decode prog_1_method_5_code 133 = .ok (.ireturn, 1) := by decide +kernel
theorem d_BA_told_134 : decode prog_1_method_5_code 134 = .ok (.aload_n 0, 1) := by decide +kernel
theorem d_BA_told_135 : decode prog_1_method_5_code 135 = .ok (.getfield 33, 3) := by decide +kernel
theorem d_BA_told_138 : decode prog_1_method_5_code 138 = .ok (.getfield 122, 3) := by decide +kernel
theorem d_BA_told_141 : decode prog_1_method_5_code 141 = .ok (.ireturn, 1) := by decide +kernel
theorem d_BA_told_142 : decode prog_1_method_5_code 142 = .ok (.aload_n 0, 1) := by decide +kernel
theorem d_BA_told_143 : decode prog_1_method_5_code 143 = .ok (.getfield 33, 3) := by decide +kernel
theorem d_BA_told_146 : decode prog_1_method_5_code 146 = .ok (.getfield 125, 3) := by decide +kernel
theorem d_BA_told_149 : decode prog_1_method_5_code 149 = .ok (.ireturn, 1) := by decide +kernel
theorem d_BA_told_150 : decode prog_1_method_5_code 150 = .ok (.aload_n 0, 1) := by decide +kernel
theorem d_BA_told_151 : decode prog_1_method_5_code 151 = .ok (.getfield 33, 3) := by decide +kernel
theorem d_BA_told_154 : decode prog_1_method_5_code 154 = .ok (.getfield 128, 3) := by decide +kernel
theorem d_BA_told_157 : decode prog_1_method_5_code 157 = .ok (.ireturn, 1) := by decide +kernel
theorem d_BA_told_158 : decode prog_1_method_5_code 158 = .ok (.aload_n 0, 1) := by decide +kernel
theorem d_BA_told_159 : decode prog_1_method_5_code 159 = .ok (.getfield 33, 3) := by decide +kernel
theorem d_BA_told_162 : decode prog_1_method_5_code 162 = .ok (.getfield 131, 3) := by decide +kernel
theorem d_BA_told_165 : decode prog_1_method_5_code 165 = .ok (.ireturn, 1) := by decide +kernel
theorem d_BA_told_166 : decode prog_1_method_5_code 166 = .ok (.aload_n 0, 1) := by decide +kernel
theorem d_BA_told_167 : decode prog_1_method_5_code 167 = .ok (.getfield 26, 3) := by decide +kernel
theorem d_BA_told_170 : decode prog_1_method_5_code 170 = .ok (.getfield 134, 3) := by decide +kernel
theorem d_BA_told_173 : decode prog_1_method_5_code 173 = .ok (.ireturn, 1) := by decide +kernel
theorem d_BA_told_174 : decode prog_1_method_5_code 174 = .ok (.ldc 77, 2) := by decide +kernel
theorem d_BA_told_176 : decode prog_1_method_5_code 176 = .ok (.ireturn, 1) := by decide +kernel
set_option maxRecDepth 20000 in
set_option maxHeartbeats 2000000 in
theorem T_BA_told {Z : ZT} (X : CX Z Y_BA_told) {hp : HP} {a1 : Int32} {p : Int32 × HP} (h : f_BA_told hp a1 = some p) (hR : RetI Z Y_BA_told .int p.1 p.2) : V Z Y_BA_told hp 0 [(0, .ref (gA (zG Z) 0)), (1, .int a1)] [] := by
  unfold f_BA_told at h
  refine R_iload_n X 1 d_BA_told_0 rfl ?_
  by_cases c1 : a1 = 0
  · replace h := (if_pos c1).symm.trans h
    refine R_swIn (tgt := 72) X d_BA_told_1 0 (by rw [c1]; rfl) (by decide) (by decide) rfl rfl ?_
    refine R_aload_n X 0 d_BA_told_72 rfl ?_
    refine R_getD (ci := 6) X rfl iBA_ok (of_decide_eq_true rfl) rfl 8 rfl rfl tw_242 d_BA_told_73 ?_
    obtain ⟨b2, h⟩ := ck h
    refine R_getI (ci := 0) X rfl iBr_ok (B_all _ b2).1.1 (B_all _ b2).1.2 5 rfl rfl tw_209 d_BA_told_76 ?_
    exact R_ret hR h d_BA_told_79
  replace h := (if_neg c1).symm.trans h
  by_cases c3 : a1 = 1
  · replace h := (if_pos c3).symm.trans h
    refine R_swIn (tgt := 80) X d_BA_told_1 1 (by rw [c3]; rfl) (by decide) (by decide) rfl rfl ?_
    refine R_aload_n X 0 d_BA_told_80 rfl ?_
    refine R_getD (ci := 6) X rfl iBA_ok (of_decide_eq_true rfl) rfl 8 rfl rfl tw_242 d_BA_told_81 ?_
    obtain ⟨b4, h⟩ := ck h
    refine R_getI (ci := 0) X rfl iBr_ok (B_all _ b4).1.1 (B_all _ b4).1.2 6 rfl rfl tw_212 d_BA_told_84 ?_
    exact R_ret hR h d_BA_told_87
  replace h := (if_neg c3).symm.trans h
  by_cases c5 : a1 = 2
  · replace h := (if_pos c5).symm.trans h
    refine R_swIn (tgt := 88) X d_BA_told_1 2 (by rw [c5]; rfl) (by decide) (by decide) rfl rfl ?_
    refine R_aload_n X 0 d_BA_told_88 rfl ?_
    refine R_getD (ci := 6) X rfl iBA_ok (of_decide_eq_true rfl) rfl 8 rfl rfl tw_242 d_BA_told_89 ?_
    obtain ⟨b6, h⟩ := ck h
    refine R_getI (ci := 0) X rfl iBr_ok (B_all _ b6).1.1 (B_all _ b6).1.2 7 rfl rfl tw_216 d_BA_told_92 ?_
    exact R_ret hR h d_BA_told_95
  replace h := (if_neg c5).symm.trans h
  by_cases c7 : a1 = 3
  · replace h := (if_pos c7).symm.trans h
    refine R_swIn (tgt := 96) X d_BA_told_1 3 (by rw [c7]; rfl) (by decide) (by decide) rfl rfl ?_
    refine R_aload_n X 0 d_BA_told_96 rfl ?_
    refine R_getR (ci := 6) X rfl iBA_ok (of_decide_eq_true rfl) rfl 0 rfl rfl tw_234 d_BA_told_97 ?_
    refine R_getI (ci := 3) X rfl iRe_ok (of_decide_eq_true rfl) rfl 1 rfl rfl tw_74 d_BA_told_100 ?_
    exact R_ret hR h d_BA_told_103
  replace h := (if_neg c7).symm.trans h
  by_cases c8 : a1 = 4
  · replace h := (if_pos c8).symm.trans h
    refine R_swIn (tgt := 104) X d_BA_told_1 4 (by rw [c8]; rfl) (by decide) (by decide) rfl rfl ?_
    refine R_aload_n X 0 d_BA_told_104 rfl ?_
    refine R_getR (ci := 6) X rfl iBA_ok (of_decide_eq_true rfl) rfl 1 rfl rfl tw_235 d_BA_told_105 ?_
    refine R_getI (ci := 5) X rfl iSt_ok (of_decide_eq_true rfl) rfl 2 rfl rfl tw_101 d_BA_told_108 ?_
    exact R_ret hR h d_BA_told_111
  replace h := (if_neg c8).symm.trans h
  by_cases c9 : a1 = 5
  · replace h := (if_pos c9).symm.trans h
    refine R_swIn (tgt := 112) X d_BA_told_1 5 (by rw [c9]; rfl) (by decide) (by decide) rfl rfl ?_
    refine R_aload_n X 0 d_BA_told_112 rfl ?_
    obtain ⟨p11, e10, h⟩ := ob h
    refine R_vcall (ci := 6) (k := 0) (As := []) (st := []) X (M_BA_hats e10) tw_371 cf_BA_hats (of_decide_eq_true rfl) rfl rfl rfl rfl rfl d_BA_told_113 ?_
    exact R_ret hR h d_BA_told_116
  replace h := (if_neg c9).symm.trans h
  by_cases c12 : a1 = 6
  · replace h := (if_pos c12).symm.trans h
    refine R_swIn (tgt := 117) X d_BA_told_1 6 (by rw [c12]; rfl) (by decide) (by decide) rfl rfl ?_
    refine R_aload_n X 0 d_BA_told_117 rfl ?_
    refine R_iconst (v := (0 : Int32)) X d_BA_told_118 rfl ?_
    obtain ⟨p14, e13, h⟩ := ob h
    refine R_vcall (ci := 6) (k := 0) (As := [.int (0 : Int32)]) (st := []) X (M_BA_wholes e13) tw_379 cf_BA_wholes (of_decide_eq_true rfl) rfl rfl rfl rfl rfl d_BA_told_119 ?_
    exact R_ret hR h d_BA_told_122
  replace h := (if_neg c12).symm.trans h
  by_cases c15 : a1 = 7
  · replace h := (if_pos c15).symm.trans h
    refine R_swIn (tgt := 123) X d_BA_told_1 7 (by rw [c15]; rfl) (by decide) (by decide) rfl rfl ?_
    refine R_aload_n X 0 d_BA_told_123 rfl ?_
    obtain ⟨p17, e16, h⟩ := ob h
    refine R_vcall (ci := 6) (k := 0) (As := []) (st := []) X (M_BA_cleared e16) tw_401 cf_BA_cleared (of_decide_eq_true rfl) rfl rfl rfl rfl rfl d_BA_told_124 ?_
    exact R_ret hR h d_BA_told_127
  replace h := (if_neg c15).symm.trans h
  by_cases c18 : a1 = 8
  · replace h := (if_pos c18).symm.trans h
    refine R_swIn (tgt := 128) X d_BA_told_1 8 (by rw [c18]; rfl) (by decide) (by decide) rfl rfl ?_
    refine R_aload_n X 0 d_BA_told_128 rfl ?_
    refine R_iconst (v := (1 : Int32)) X d_BA_told_129 rfl ?_
    obtain ⟨p20, e19, h⟩ := ob h
    refine R_vcall (ci := 6) (k := 0) (As := [.int (1 : Int32)]) (st := []) X (M_BA_wholes e19) tw_379 cf_BA_wholes (of_decide_eq_true rfl) rfl rfl rfl rfl rfl d_BA_told_130 ?_
    exact R_ret hR h d_BA_told_133
  replace h := (if_neg c18).symm.trans h
  by_cases c21 : a1 = 9
  · replace h := (if_pos c21).symm.trans h
    refine R_swIn (tgt := 134) X d_BA_told_1 9 (by rw [c21]; rfl) (by decide) (by decide) rfl rfl ?_
    refine R_aload_n X 0 d_BA_told_134 rfl ?_
    refine R_getR (ci := 6) X rfl iBA_ok (of_decide_eq_true rfl) rfl 3 rfl rfl tw_237 d_BA_told_135 ?_
    refine R_getI (ci := 4) X rfl iSl_ok (of_decide_eq_true rfl) rfl 7 rfl rfl tw_149 d_BA_told_138 ?_
    exact R_ret hR h d_BA_told_141
  replace h := (if_neg c21).symm.trans h
  by_cases c22 : a1 = 10
  · replace h := (if_pos c22).symm.trans h
    refine R_swIn (tgt := 142) X d_BA_told_1 10 (by rw [c22]; rfl) (by decide) (by decide) rfl rfl ?_
    refine R_aload_n X 0 d_BA_told_142 rfl ?_
    refine R_getR (ci := 6) X rfl iBA_ok (of_decide_eq_true rfl) rfl 3 rfl rfl tw_237 d_BA_told_143 ?_
    refine R_getI (ci := 4) X rfl iSl_ok (of_decide_eq_true rfl) rfl 8 rfl rfl tw_151 d_BA_told_146 ?_
    exact R_ret hR h d_BA_told_149
  replace h := (if_neg c22).symm.trans h
  by_cases c23 : a1 = 11
  · replace h := (if_pos c23).symm.trans h
    refine R_swIn (tgt := 150) X d_BA_told_1 11 (by rw [c23]; rfl) (by decide) (by decide) rfl rfl ?_
    refine R_aload_n X 0 d_BA_told_150 rfl ?_
    refine R_getR (ci := 6) X rfl iBA_ok (of_decide_eq_true rfl) rfl 3 rfl rfl tw_237 d_BA_told_151 ?_
    refine R_getI (ci := 4) X rfl iSl_ok (of_decide_eq_true rfl) rfl 9 rfl rfl tw_154 d_BA_told_154 ?_
    exact R_ret hR h d_BA_told_157
  replace h := (if_neg c23).symm.trans h
  by_cases c24 : a1 = 12
  · replace h := (if_pos c24).symm.trans h
    refine R_swIn (tgt := 158) X d_BA_told_1 12 (by rw [c24]; rfl) (by decide) (by decide) rfl rfl ?_
    refine R_aload_n X 0 d_BA_told_158 rfl ?_
    refine R_getR (ci := 6) X rfl iBA_ok (of_decide_eq_true rfl) rfl 3 rfl rfl tw_237 d_BA_told_159 ?_
    refine R_getI (ci := 4) X rfl iSl_ok (of_decide_eq_true rfl) rfl 10 rfl rfl tw_156 d_BA_told_162 ?_
    exact R_ret hR h d_BA_told_165
  replace h := (if_neg c24).symm.trans h
  by_cases c25 : a1 = 13
  · replace h := (if_pos c25).symm.trans h
    refine R_swIn (tgt := 166) X d_BA_told_1 13 (by rw [c25]; rfl) (by decide) (by decide) rfl rfl ?_
    refine R_aload_n X 0 d_BA_told_166 rfl ?_
    refine R_getR (ci := 6) X rfl iBA_ok (of_decide_eq_true rfl) rfl 2 rfl rfl tw_236 d_BA_told_167 ?_
    refine R_getI (ci := 1) X rfl iPa_ok (of_decide_eq_true rfl) rfl 2 rfl rfl tw_121 d_BA_told_170 ?_
    exact R_ret hR h d_BA_told_173
  replace h := (if_neg c25).symm.trans h
  refine R_swOut (tgt := 174) X d_BA_told_1 (sw_def 14 (by decide) (fun k hk => by
    match k, hk with
    | 0, _ => exact c1
    | 1, _ => exact c3
    | 2, _ => exact c5
    | 3, _ => exact c7
    | 4, _ => exact c8
    | 5, _ => exact c9
    | 6, _ => exact c12
    | 7, _ => exact c15
    | 8, _ => exact c18
    | 9, _ => exact c21
    | 10, _ => exact c22
    | 11, _ => exact c23
    | 12, _ => exact c24
    | 13, _ => exact c25
    | k + 14, hk => exact absurd hk (by omega))) rfl ?_
  refine R_ldc (v := (-1000000002 : Int32)) X tw_278 d_BA_told_174 ?_
  exact R_ret hR h d_BA_told_176
theorem M_BA_told {G : GT} {hp : HP} {a1 : Int32} {p : Int32 × HP} (h : f_BA_told hp a1 = some p) : MI G y_BA_told Y_BA_told .int [.ref (gA G 0), .int a1] hp p.1 p.2 := MI_of rfl (fun Z hz X hR => by subst hz; exact T_BA_told X h hR)
theorem d_Br_hasPart_0 : decode prog_2_method_7_code 0 = .ok (.iload_n 1, 1) := by decide +kernel
theorem d_Br_hasPart_1 : decode prog_2_method_7_code 1 = .ok (.iconst 0, 1) := by decide +kernel
theorem d_Br_hasPart_2 : decode prog_2_method_7_code 2 = .ok (.aload_n 0, 1) := by decide +kernel
theorem d_Br_hasPart_3 : decode prog_2_method_7_code 3 = .ok (.getfield 27, 3) := by decide +kernel
theorem d_Br_hasPart_6 : decode prog_2_method_7_code 6 = .ok (.iconst 1, 1) := by decide +kernel
theorem d_Br_hasPart_7 : decode prog_2_method_7_code 7 = .ok (.isub, 1) := by decide +kernel
theorem d_Br_hasPart_8 : decode prog_2_method_7_code 8 = .ok (.invokestatic 37, 3) := by decide +kernel
theorem d_Br_hasPart_11 : decode prog_2_method_7_code 11 = .ok (.ireturn, 1) := by decide +kernel
set_option maxRecDepth 20000 in
set_option maxHeartbeats 2000000 in
theorem T_Br_hasPart {Z : ZT} (X : CX Z Y_Br_hasPart) {hp : HP} {q0 : Nat} {a1 : Int32} (hq0 : isB q0 = true) {p : Int32 × HP} (h : f_Br_hasPart hp q0 a1 = some p) (hR : RetI Z Y_Br_hasPart .boolean p.1 p.2) : V Z Y_Br_hasPart hp 0 [(0, .ref (gA (zG Z) q0)), (1, .int a1)] [] := by
  unfold f_Br_hasPart at h
  refine R_iload_n X 1 d_Br_hasPart_0 rfl ?_
  refine R_iconst (v := (0 : Int32)) X d_Br_hasPart_1 rfl ?_
  refine R_aload_n X 0 d_Br_hasPart_2 rfl ?_
  refine R_getI (ci := 0) X rfl iBr_ok (B_all _ hq0).1.1 (B_all _ hq0).1.2 5 rfl rfl tw_208 d_Br_hasPart_3 ?_
  refine R_iconst (v := (1 : Int32)) X d_Br_hasPart_6 rfl ?_
  refine V_pc (pc' := 7) rfl ?_
  refine R_isub X d_Br_hasPart_7 ?_
  obtain ⟨p2, e1, h⟩ := ob h
  refine R_ncall (As := [.int a1, .int (0 : Int32), .int ((hp q0 5) - (1 : Int32))]) (st := []) (host := "BodyAccounts") X (M_BA_within e1) (by decide +kernel) cf_BA_within rfl rfl rfl d_Br_hasPart_8 ?_
  exact R_retz hR h d_Br_hasPart_11
theorem M_Br_hasPart {G : GT} {hp : HP} {q0 : Nat} {a1 : Int32} (hq0 : isB q0 = true) {p : Int32 × HP} (h : f_Br_hasPart hp q0 a1 = some p) : MI G y_Br_hasPart Y_Br_hasPart .boolean [.ref (gA G q0), .int a1] hp p.1 p.2 := MI_of rfl (fun Z hz X hR => by subst hz; exact T_Br_hasPart X hq0 h hR)
theorem d_BA_part_0 : decode prog_1_method_6_code 0 = .ok (.aload_n 0, 1) := by decide +kernel
theorem d_BA_part_1 : decode prog_1_method_6_code 1 = .ok (.getfield 59, 3) := by decide +kernel
theorem d_BA_part_4 : decode prog_1_method_6_code 4 = .ok (.iload_n 1, 1) := by decide +kernel
theorem d_BA_part_5 : decode prog_1_method_6_code 5 = .ok (.invokevirtual 137, 3) := by decide +kernel
theorem d_BA_part_8 : decode prog_1_method_6_code 8 = .ok (.ifCond .eq (19), 3) := by decide +kernel
theorem d_BA_part_11 : decode prog_1_method_6_code 11 = .ok (.aload_n 0, 1) := by decide +kernel
theorem d_BA_part_12 : decode prog_1_method_6_code 12 = .ok (.getfield 59, 3) := by decide +kernel
theorem d_BA_part_15 : decode prog_1_method_6_code 15 = .ok (.getfield 141, 3) := by decide +kernel
theorem d_BA_part_18 : decode prog_1_method_6_code 18 = .ok (.iload_n 1, 1) := by decide +kernel
theorem d_BA_part_19 : decode prog_1_method_6_code 19 = .ok (.iaload, 1) := by decide +kernel
theorem d_BA_part_20 : decode prog_1_method_6_code 20 = .ok (.sipush (500), 3) := by decide +kernel
theorem d_BA_part_23 : decode prog_1_method_6_code 23 = .ok (.iadd, 1) := by decide +kernel
theorem d_BA_part_24 : decode prog_1_method_6_code 24 = .ok (.goto (5), 3) := by decide +kernel
theorem d_BA_part_27 : decode prog_1_method_6_code 27 = .ok (.ldc 144, 2) := by decide +kernel
theorem d_BA_part_29 : decode prog_1_method_6_code 29 = .ok (.ireturn, 1) := by decide +kernel
set_option maxRecDepth 20000 in
set_option maxHeartbeats 2000000 in
theorem T_BA_part {Z : ZT} (X : CX Z Y_BA_part) {hp : HP} {a1 : Int32} {p : Int32 × HP} (h : f_BA_part hp a1 = some p) (hR : RetI Z Y_BA_part .int p.1 p.2) : V Z Y_BA_part hp 0 [(0, .ref (gA (zG Z) 0)), (1, .int a1)] [] := by
  unfold f_BA_part at h
  refine R_aload_n X 0 d_BA_part_0 rfl ?_
  refine R_getD (ci := 6) X rfl iBA_ok (of_decide_eq_true rfl) rfl 8 rfl rfl tw_242 d_BA_part_1 ?_
  obtain ⟨b1, h⟩ := ck h
  refine R_iload_n X 1 d_BA_part_4 rfl ?_
  obtain ⟨p3, e2, h⟩ := ob h
  refine R_vcall (ci := 0) (k := (hp 0 8).toNatClampNeg) (As := [.int a1]) (st := []) X (M_Br_hasPart b1 e2) tw_409 cf_Br_hasPart (B_all _ b1).1.1 (B_all _ b1).1.2 rfl rfl rfl rfl d_BA_part_5 ?_
  refine R_ifeq (tgt := 27) X d_BA_part_8 rfl (fun c4 => ?_) (fun c4 => ?_)
  · replace h := (if_pos c4).symm.trans h
    refine R_ldc (v := (-1000000001 : Int32)) X tw_414 d_BA_part_27 ?_
    exact R_ret hR h d_BA_part_29
  · replace h := (if_neg c4).symm.trans h
    refine R_aload_n X 0 d_BA_part_11 rfl ?_
    refine R_getD (ci := 6) X rfl iBA_ok (of_decide_eq_true rfl) rfl 8 rfl rfl tw_242 d_BA_part_12 ?_
    obtain ⟨b5, h⟩ := ck h
    refine R_getR (ci := 0) X rfl iBr_ok (B_all _ b5).1.1 (B_all _ b5).1.2 0 rfl rfl tw_199 d_BA_part_15 ?_
    refine R_iload_n X 1 d_BA_part_18 rfl ?_
    obtain ⟨i6, h⟩ := ck h
    refine R_iald (n := 8) X (B_all _ b5).2.1.1 (B_all _ b5).2.1.2 i6 d_BA_part_19 ?_
    refine V_pc (pc' := 20) rfl ?_
    refine R_sipush (v := (500 : Int32)) X d_BA_part_20 rfl ?_
    refine R_iadd X d_BA_part_23 ?_
    refine R_goto (tgt := 29) X d_BA_part_24 rfl ?_
    exact R_ret hR h d_BA_part_29
theorem M_BA_part {G : GT} {hp : HP} {a1 : Int32} {p : Int32 × HP} (h : f_BA_part hp a1 = some p) : MI G y_BA_part Y_BA_part .int [.ref (gA G 0), .int a1] hp p.1 p.2 := MI_of rfl (fun Z hz X hR => by subst hz; exact T_BA_part X h hR)
theorem d_Br_hasCustomer_0 : decode prog_2_method_8_code 0 = .ok (.iload_n 1, 1) := by decide +kernel
theorem d_Br_hasCustomer_1 : decode prog_2_method_8_code 1 = .ok (.iconst 0, 1) := by decide +kernel
theorem d_Br_hasCustomer_2 : decode prog_2_method_8_code 2 = .ok (.aload_n 0, 1) := by decide +kernel
theorem d_Br_hasCustomer_3 : decode prog_2_method_8_code 3 = .ok (.getfield 31, 3) := by decide +kernel
theorem d_Br_hasCustomer_6 : decode prog_2_method_8_code 6 = .ok (.iconst 1, 1) := by decide +kernel
theorem d_Br_hasCustomer_7 : decode prog_2_method_8_code 7 = .ok (.isub, 1) := by decide +kernel
theorem d_Br_hasCustomer_8 : decode prog_2_method_8_code 8 = .ok (.invokestatic 37, 3) := by decide +kernel
theorem d_Br_hasCustomer_11 : decode prog_2_method_8_code 11 = .ok (.ireturn, 1) := by decide +kernel
set_option maxRecDepth 20000 in
set_option maxHeartbeats 2000000 in
theorem T_Br_hasCustomer {Z : ZT} (X : CX Z Y_Br_hasCustomer) {hp : HP} {q0 : Nat} {a1 : Int32} (hq0 : isB q0 = true) {p : Int32 × HP} (h : f_Br_hasCustomer hp q0 a1 = some p) (hR : RetI Z Y_Br_hasCustomer .boolean p.1 p.2) : V Z Y_Br_hasCustomer hp 0 [(0, .ref (gA (zG Z) q0)), (1, .int a1)] [] := by
  unfold f_Br_hasCustomer at h
  refine R_iload_n X 1 d_Br_hasCustomer_0 rfl ?_
  refine R_iconst (v := (0 : Int32)) X d_Br_hasCustomer_1 rfl ?_
  refine R_aload_n X 0 d_Br_hasCustomer_2 rfl ?_
  refine R_getI (ci := 0) X rfl iBr_ok (B_all _ hq0).1.1 (B_all _ hq0).1.2 6 rfl rfl tw_210 d_Br_hasCustomer_3 ?_
  refine R_iconst (v := (1 : Int32)) X d_Br_hasCustomer_6 rfl ?_
  refine V_pc (pc' := 7) rfl ?_
  refine R_isub X d_Br_hasCustomer_7 ?_
  obtain ⟨p2, e1, h⟩ := ob h
  refine R_ncall (As := [.int a1, .int (0 : Int32), .int ((hp q0 6) - (1 : Int32))]) (st := []) (host := "BodyAccounts") X (M_BA_within e1) (by decide +kernel) cf_BA_within rfl rfl rfl d_Br_hasCustomer_8 ?_
  exact R_retz hR h d_Br_hasCustomer_11
theorem M_Br_hasCustomer {G : GT} {hp : HP} {q0 : Nat} {a1 : Int32} (hq0 : isB q0 = true) {p : Int32 × HP} (h : f_Br_hasCustomer hp q0 a1 = some p) : MI G y_Br_hasCustomer Y_Br_hasCustomer .boolean [.ref (gA G q0), .int a1] hp p.1 p.2 := MI_of rfl (fun Z hz X hR => by subst hz; exact T_Br_hasCustomer X hq0 h hR)
theorem d_BA_customer_0 : decode prog_1_method_7_code 0 = .ok (.aload_n 0, 1) := by decide +kernel
theorem d_BA_customer_1 : decode prog_1_method_7_code 1 = .ok (.getfield 59, 3) := by decide +kernel
theorem d_BA_customer_4 : decode prog_1_method_7_code 4 = .ok (.iload_n 1, 1) := by decide +kernel
theorem d_BA_customer_5 : decode prog_1_method_7_code 5 = .ok (.invokevirtual 145, 3) := by decide +kernel
theorem d_BA_customer_8 : decode prog_1_method_7_code 8 = .ok (.ifCond .ne (6), 3) := by decide +kernel
theorem d_BA_customer_11 : decode prog_1_method_7_code 11 = .ok (.ldc 144, 2) := by decide +kernel
theorem d_BA_customer_13 : decode prog_1_method_7_code 13 = .ok (.ireturn, 1) := by decide +kernel
theorem d_BA_customer_14 : decode prog_1_method_7_code 14 = .ok (.iload_n 2, 1) := by decide +kernel
theorem d_BA_customer_15 : decode prog_1_method_7_code 15 = .ok (.tableswitch 96 0 4 #[33, 47, 64, 74, 84], 33) := by decide +kernel
theorem d_BA_customer_48 : decode prog_1_method_7_code 48 = .ok (.aload_n 0, 1) := by decide +kernel
theorem d_BA_customer_49 : decode prog_1_method_7_code 49 = .ok (.getfield 19, 3) := by decide +kernel
theorem d_BA_customer_52 : decode prog_1_method_7_code 52 = .ok (.getfield 148, 3) := by decide +kernel
theorem d_BA_customer_55 : decode prog_1_method_7_code 55 = .ok (.iload_n 1, 1) := by decide +kernel
theorem d_BA_customer_56 : decode prog_1_method_7_code 56 = .ok (.iaload, 1) := by decide +kernel
theorem d_BA_customer_57 : decode prog_1_method_7_code 57 = .ok (.sipush (10000), 3) := by decide +kernel
theorem d_BA_customer_60 : decode prog_1_method_7_code 60 = .ok (.iadd, 1) := by decide +kernel
theorem d_BA_customer_61 : decode prog_1_method_7_code 61 = .ok (.ireturn, 1) := by decide +kernel
theorem d_BA_customer_62 : decode prog_1_method_7_code 62 = .ok (.aload_n 0, 1) := by decide +kernel
theorem d_BA_customer_63 : decode prog_1_method_7_code 63 = .ok (.getfield 59, 3) := by decide +kernel
theorem d_BA_customer_66 : decode prog_1_method_7_code 66 = .ok (.aload_n 0, 1) := by decide +kernel
theorem d_BA_customer_67 : decode prog_1_method_7_code 67 = .ok (.getfield 19, 3) := by decide +kernel
theorem d_BA_customer_70 : decode prog_1_method_7_code 70 = .ok (.getfield 148, 3) := by decide +kernel
theorem d_BA_customer_73 : decode prog_1_method_7_code 73 = .ok (.iload_n 1, 1) := by decide +kernel
theorem d_BA_customer_74 : decode prog_1_method_7_code 74 = .ok (.iaload, 1) := by decide +kernel
theorem d_BA_customer_75 : decode prog_1_method_7_code 75 = .ok (.invokevirtual 151, 3) := by decide +kernel
theorem d_BA_customer_78 : decode prog_1_method_7_code 78 = .ok (.ireturn, 1) := by decide +kernel
theorem d_BA_customer_79 : decode prog_1_method_7_code 79 = .ok (.aload_n 0, 1) := by decide +kernel
theorem d_BA_customer_80 : decode prog_1_method_7_code 80 = .ok (.getfield 59, 3) := by decide +kernel
theorem d_BA_customer_83 : decode prog_1_method_7_code 83 = .ok (.getfield 155, 3) := by decide +kernel
theorem d_BA_customer_86 : decode prog_1_method_7_code 86 = .ok (.iload_n 1, 1) := by decide +kernel
theorem d_BA_customer_87 : decode prog_1_method_7_code 87 = .ok (.iaload, 1) := by decide +kernel
theorem d_BA_customer_88 : decode prog_1_method_7_code 88 = .ok (.ireturn, 1) := by decide +kernel
theorem d_BA_customer_89 : decode prog_1_method_7_code 89 = .ok (.aload_n 0, 1) := by decide +kernel
theorem d_BA_customer_90 : decode prog_1_method_7_code 90 = .ok (.getfield 59, 3) := by decide +kernel
theorem d_BA_customer_93 : decode prog_1_method_7_code 93 = .ok (.getfield 158, 3) := by decide +kernel
theorem d_BA_customer_96 : decode prog_1_method_7_code 96 = .ok (.iload_n 1, 1) := by decide +kernel
theorem d_BA_customer_97 : decode prog_1_method_7_code 97 = .ok (.iaload, 1) := by decide +kernel
theorem d_BA_customer_98 : decode prog_1_method_7_code 98 = .ok (.ireturn, 1) := by decide +kernel
theorem d_BA_customer_99 : decode prog_1_method_7_code 99 = .ok (.aload_n 0, 1) := by decide +kernel
theorem d_BA_customer_100 : decode prog_1_method_7_code 100 = .ok (.getfield 19, 3) := by decide +kernel
theorem d_BA_customer_103 : decode prog_1_method_7_code 103 = .ok (.iload_n 1, 1) := by decide +kernel
theorem d_BA_customer_104 : decode prog_1_method_7_code 104 = .ok (.invokevirtual 161, 3) := by decide +kernel
theorem d_BA_customer_107 : decode prog_1_method_7_code 107 = .ok (.ldc 164, 2) := by decide +kernel
theorem d_BA_customer_109 : decode prog_1_method_7_code 109 = .ok (.iadd, 1) := by decide +kernel
theorem d_BA_customer_110 : decode prog_1_method_7_code 110 = .ok (.ireturn, 1) := by decide +kernel
theorem d_BA_customer_111 : decode prog_1_method_7_code 111 = .ok (.ldc 77, 2) := by decide +kernel
theorem d_BA_customer_113 : decode prog_1_method_7_code 113 = .ok (.ireturn, 1) := by decide +kernel
set_option maxRecDepth 20000 in
set_option maxHeartbeats 2000000 in
theorem T_BA_customer {Z : ZT} (X : CX Z Y_BA_customer) {hp : HP} {a1 : Int32} {a2 : Int32} {p : Int32 × HP} (h : f_BA_customer hp a1 a2 = some p) (hR : RetI Z Y_BA_customer .int p.1 p.2) : V Z Y_BA_customer hp 0 [(0, .ref (gA (zG Z) 0)), (1, .int a1), (2, .int a2)] [] := by
  unfold f_BA_customer at h
  refine R_aload_n X 0 d_BA_customer_0 rfl ?_
  refine R_getD (ci := 6) X rfl iBA_ok (of_decide_eq_true rfl) rfl 8 rfl rfl tw_242 d_BA_customer_1 ?_
  obtain ⟨b1, h⟩ := ck h
  refine R_iload_n X 1 d_BA_customer_4 rfl ?_
  obtain ⟨p3, e2, h⟩ := ob h
  refine R_vcall (ci := 0) (k := (hp 0 8).toNatClampNeg) (As := [.int a1]) (st := []) X (M_Br_hasCustomer b1 e2) tw_419 cf_Br_hasCustomer (B_all _ b1).1.1 (B_all _ b1).1.2 rfl rfl rfl rfl d_BA_customer_5 ?_
  refine R_ifne (tgt := 14) X d_BA_customer_8 rfl (fun c4 => ?_) (fun c4 => ?_)
  · replace h := (if_neg c4).symm.trans h
    refine R_iload_n X 2 d_BA_customer_14 rfl ?_
    by_cases c5 : a2 = 0
    · replace h := (if_pos c5).symm.trans h
      refine R_swIn (tgt := 48) X d_BA_customer_15 0 (by rw [c5]; rfl) (by decide) (by decide) rfl rfl ?_
      refine R_aload_n X 0 d_BA_customer_48 rfl ?_
      refine R_getR (ci := 6) X rfl iBA_ok (of_decide_eq_true rfl) rfl 1 rfl rfl tw_235 d_BA_customer_49 ?_
      refine R_getR (ci := 5) X rfl iSt_ok (of_decide_eq_true rfl) rfl 0 rfl rfl tw_98 d_BA_customer_52 ?_
      refine R_iload_n X 1 d_BA_customer_55 rfl ?_
      obtain ⟨i6, h⟩ := ck h
      refine R_iald (n := 5) X (of_decide_eq_true rfl) rfl i6 d_BA_customer_56 ?_
      refine V_pc (pc' := 57) rfl ?_
      refine R_sipush (v := (10000 : Int32)) X d_BA_customer_57 rfl ?_
      refine R_iadd X d_BA_customer_60 ?_
      exact R_ret hR h d_BA_customer_61
    replace h := (if_neg c5).symm.trans h
    by_cases c7 : a2 = 1
    · replace h := (if_pos c7).symm.trans h
      refine R_swIn (tgt := 62) X d_BA_customer_15 1 (by rw [c7]; rfl) (by decide) (by decide) rfl rfl ?_
      refine R_aload_n X 0 d_BA_customer_62 rfl ?_
      refine R_getD (ci := 6) X rfl iBA_ok (of_decide_eq_true rfl) rfl 8 rfl rfl tw_242 d_BA_customer_63 ?_
      obtain ⟨b8, h⟩ := ck h
      refine R_aload_n X 0 d_BA_customer_66 rfl ?_
      refine R_getR (ci := 6) X rfl iBA_ok (of_decide_eq_true rfl) rfl 1 rfl rfl tw_235 d_BA_customer_67 ?_
      refine R_getR (ci := 5) X rfl iSt_ok (of_decide_eq_true rfl) rfl 0 rfl rfl tw_98 d_BA_customer_70 ?_
      refine V_pc (pc' := 73) rfl ?_
      refine R_iload_n X 1 d_BA_customer_73 rfl ?_
      obtain ⟨i9, h⟩ := ck h
      refine R_iald (n := 5) X (of_decide_eq_true rfl) rfl i9 d_BA_customer_74 ?_
      obtain ⟨p11, e10, h⟩ := ob h
      refine R_vcall (ci := 0) (k := (p3.2 0 8).toNatClampNeg) (As := [.int (p3.2 4 (a1).toNatClampNeg)]) (st := []) X (M_Br_partsAt b8 e10) tw_375 cf_Br_partsAt (B_all _ b8).1.1 (B_all _ b8).1.2 rfl rfl rfl rfl d_BA_customer_75 ?_
      exact R_ret hR h d_BA_customer_78
    replace h := (if_neg c7).symm.trans h
    by_cases c12 : a2 = 2
    · replace h := (if_pos c12).symm.trans h
      refine R_swIn (tgt := 79) X d_BA_customer_15 2 (by rw [c12]; rfl) (by decide) (by decide) rfl rfl ?_
      refine R_aload_n X 0 d_BA_customer_79 rfl ?_
      refine R_getD (ci := 6) X rfl iBA_ok (of_decide_eq_true rfl) rfl 8 rfl rfl tw_242 d_BA_customer_80 ?_
      obtain ⟨b13, h⟩ := ck h
      refine R_getR (ci := 0) X rfl iBr_ok (B_all _ b13).1.1 (B_all _ b13).1.2 2 rfl rfl tw_204 d_BA_customer_83 ?_
      refine R_iload_n X 1 d_BA_customer_86 rfl ?_
      obtain ⟨i14, h⟩ := ck h
      refine R_iald (n := 5) X (B_all _ b13).2.2.2.1.1 (B_all _ b13).2.2.2.1.2 i14 d_BA_customer_87 ?_
      refine V_pc (pc' := 88) rfl ?_
      exact R_ret hR h d_BA_customer_88
    replace h := (if_neg c12).symm.trans h
    by_cases c15 : a2 = 3
    · replace h := (if_pos c15).symm.trans h
      refine R_swIn (tgt := 89) X d_BA_customer_15 3 (by rw [c15]; rfl) (by decide) (by decide) rfl rfl ?_
      refine R_aload_n X 0 d_BA_customer_89 rfl ?_
      refine R_getD (ci := 6) X rfl iBA_ok (of_decide_eq_true rfl) rfl 8 rfl rfl tw_242 d_BA_customer_90 ?_
      obtain ⟨b16, h⟩ := ck h
      refine R_getR (ci := 0) X rfl iBr_ok (B_all _ b16).1.1 (B_all _ b16).1.2 3 rfl rfl tw_206 d_BA_customer_93 ?_
      refine R_iload_n X 1 d_BA_customer_96 rfl ?_
      obtain ⟨i17, h⟩ := ck h
      refine R_iald (n := 5) X (B_all _ b16).2.2.2.2.1.1 (B_all _ b16).2.2.2.2.1.2 i17 d_BA_customer_97 ?_
      refine V_pc (pc' := 98) rfl ?_
      exact R_ret hR h d_BA_customer_98
    replace h := (if_neg c15).symm.trans h
    by_cases c18 : a2 = 4
    · replace h := (if_pos c18).symm.trans h
      refine R_swIn (tgt := 99) X d_BA_customer_15 4 (by rw [c18]; rfl) (by decide) (by decide) rfl rfl ?_
      refine R_aload_n X 0 d_BA_customer_99 rfl ?_
      refine R_getR (ci := 6) X rfl iBA_ok (of_decide_eq_true rfl) rfl 1 rfl rfl tw_235 d_BA_customer_100 ?_
      refine R_iload_n X 1 d_BA_customer_103 rfl ?_
      obtain ⟨p20, e19, h⟩ := ob h
      refine R_vcall (ci := 5) (k := 3) (As := [.int a1]) (st := []) X (M_St_netOf rfl e19) tw_383 cf_St_netOf (of_decide_eq_true rfl) rfl rfl rfl rfl rfl d_BA_customer_104 ?_
      refine R_ldc (v := (100000 : Int32)) X tw_423 d_BA_customer_107 ?_
      refine V_pc (pc' := 109) rfl ?_
      refine R_iadd X d_BA_customer_109 ?_
      exact R_ret hR h d_BA_customer_110
    replace h := (if_neg c18).symm.trans h
    refine R_swOut (tgt := 111) X d_BA_customer_15 (sw_def 5 (by decide) (fun k hk => by
      match k, hk with
      | 0, _ => exact c5
      | 1, _ => exact c7
      | 2, _ => exact c12
      | 3, _ => exact c15
      | 4, _ => exact c18
      | k + 5, hk => exact absurd hk (by omega))) rfl ?_
    refine R_ldc (v := (-1000000002 : Int32)) X tw_278 d_BA_customer_111 ?_
    exact R_ret hR h d_BA_customer_113
  · replace h := (if_pos c4).symm.trans h
    refine R_ldc (v := (-1000000001 : Int32)) X tw_414 d_BA_customer_11 ?_
    exact R_ret hR h d_BA_customer_13
theorem M_BA_customer {G : GT} {hp : HP} {a1 : Int32} {a2 : Int32} {p : Int32 × HP} (h : f_BA_customer hp a1 a2 = some p) : MI G y_BA_customer Y_BA_customer .int [.ref (gA G 0), .int a1, .int a2] hp p.1 p.2 := MI_of rfl (fun Z hz X hR => by subst hz; exact T_BA_customer X h hR)
theorem d_BA_areTwo_0 : decode prog_1_method_36_code 0 = .ok (.aload_n 0, 1) := by decide +kernel
theorem d_BA_areTwo_1 : decode prog_1_method_36_code 1 = .ok (.getfield 59, 3) := by decide +kernel
theorem d_BA_areTwo_4 : decode prog_1_method_36_code 4 = .ok (.iload_n 1, 1) := by decide +kernel
theorem d_BA_areTwo_5 : decode prog_1_method_36_code 5 = .ok (.invokevirtual 145, 3) := by decide +kernel
theorem d_BA_areTwo_8 : decode prog_1_method_36_code 8 = .ok (.ifCond .eq (23), 3) := by decide +kernel
theorem d_BA_areTwo_11 : decode prog_1_method_36_code 11 = .ok (.aload_n 0, 1) := by decide +kernel
theorem d_BA_areTwo_12 : decode prog_1_method_36_code 12 = .ok (.getfield 59, 3) := by decide +kernel
theorem d_BA_areTwo_15 : decode prog_1_method_36_code 15 = .ok (.iload_n 2, 1) := by decide +kernel
theorem d_BA_areTwo_16 : decode prog_1_method_36_code 16 = .ok (.invokevirtual 145, 3) := by decide +kernel
theorem d_BA_areTwo_19 : decode prog_1_method_36_code 19 = .ok (.ifCond .eq (12), 3) := by decide +kernel
theorem d_BA_areTwo_22 : decode prog_1_method_36_code 22 = .ok (.iload_n 1, 1) := by decide +kernel
theorem d_BA_areTwo_23 : decode prog_1_method_36_code 23 = .ok (.iload_n 2, 1) := by decide +kernel
theorem d_BA_areTwo_24 : decode prog_1_method_36_code 24 = .ok (.if_icmp .eq (7), 3) := by decide +kernel
theorem d_BA_areTwo_27 : decode prog_1_method_36_code 27 = .ok (.iconst 1, 1) := by decide +kernel
theorem d_BA_areTwo_28 : decode prog_1_method_36_code 28 = .ok (.goto (4), 3) := by decide +kernel
theorem d_BA_areTwo_31 : decode prog_1_method_36_code 31 = .ok (.iconst 0, 1) := by decide +kernel
theorem d_BA_areTwo_32 : decode prog_1_method_36_code 32 = .ok (.ireturn, 1) := by decide +kernel
set_option maxRecDepth 20000 in
set_option maxHeartbeats 2000000 in
theorem T_BA_areTwo {Z : ZT} (X : CX Z Y_BA_areTwo) {hp : HP} {a1 : Int32} {a2 : Int32} {p : Int32 × HP} (h : f_BA_areTwo hp a1 a2 = some p) (hR : RetI Z Y_BA_areTwo .boolean p.1 p.2) : V Z Y_BA_areTwo hp 0 [(0, .ref (gA (zG Z) 0)), (1, .int a1), (2, .int a2)] [] := by
  unfold f_BA_areTwo at h
  refine R_aload_n X 0 d_BA_areTwo_0 rfl ?_
  refine R_getD (ci := 6) X rfl iBA_ok (of_decide_eq_true rfl) rfl 8 rfl rfl tw_242 d_BA_areTwo_1 ?_
  obtain ⟨b1, h⟩ := ck h
  refine R_iload_n X 1 d_BA_areTwo_4 rfl ?_
  obtain ⟨p3, e2, h⟩ := ob h
  refine R_vcall (ci := 0) (k := (hp 0 8).toNatClampNeg) (As := [.int a1]) (st := []) X (M_Br_hasCustomer b1 e2) tw_419 cf_Br_hasCustomer (B_all _ b1).1.1 (B_all _ b1).1.2 rfl rfl rfl rfl d_BA_areTwo_5 ?_
  refine R_ifeq (tgt := 31) X d_BA_areTwo_8 rfl (fun c4 => ?_) (fun c4 => ?_)
  · replace h := (if_pos c4).symm.trans h
    refine R_iconst (v := (0 : Int32)) X d_BA_areTwo_31 rfl ?_
    exact R_retc hR (by decide) h d_BA_areTwo_32
  · replace h := (if_neg c4).symm.trans h
    refine R_aload_n X 0 d_BA_areTwo_11 rfl ?_
    refine R_getD (ci := 6) X rfl iBA_ok (of_decide_eq_true rfl) rfl 8 rfl rfl tw_242 d_BA_areTwo_12 ?_
    obtain ⟨b5, h⟩ := ck h
    refine R_iload_n X 2 d_BA_areTwo_15 rfl ?_
    obtain ⟨p7, e6, h⟩ := ob h
    refine R_vcall (ci := 0) (k := (p3.2 0 8).toNatClampNeg) (As := [.int a2]) (st := []) X (M_Br_hasCustomer b5 e6) tw_419 cf_Br_hasCustomer (B_all _ b5).1.1 (B_all _ b5).1.2 rfl rfl rfl rfl d_BA_areTwo_16 ?_
    refine R_ifeq (tgt := 31) X d_BA_areTwo_19 rfl (fun c8 => ?_) (fun c8 => ?_)
    · replace h := (if_pos c8).symm.trans h
      refine R_iconst (v := (0 : Int32)) X d_BA_areTwo_31 rfl ?_
      exact R_retc hR (by decide) h d_BA_areTwo_32
    · replace h := (if_neg c8).symm.trans h
      refine R_iload_n X 1 d_BA_areTwo_22 rfl ?_
      refine R_iload_n X 2 d_BA_areTwo_23 rfl ?_
      refine R_icmp_eq (tgt := 31) X d_BA_areTwo_24 rfl (fun c9 => ?_) (fun c9 => ?_)
      · replace h := (if_pos c9).symm.trans h
        refine R_iconst (v := (0 : Int32)) X d_BA_areTwo_31 rfl ?_
        exact R_retc hR (by decide) h d_BA_areTwo_32
      · replace h := (if_neg c9).symm.trans h
        refine R_iconst (v := (1 : Int32)) X d_BA_areTwo_27 rfl ?_
        refine R_goto (tgt := 32) X d_BA_areTwo_28 rfl ?_
        exact R_retc hR (by decide) h d_BA_areTwo_32
theorem M_BA_areTwo {G : GT} {hp : HP} {a1 : Int32} {a2 : Int32} {p : Int32 × HP} (h : f_BA_areTwo hp a1 a2 = some p) : MI G y_BA_areTwo Y_BA_areTwo .boolean [.ref (gA G 0), .int a1, .int a2] hp p.1 p.2 := MI_of rfl (fun Z hz X hR => by subst hz; exact T_BA_areTwo X h hR)
theorem d_BA_owes_0 : decode prog_1_method_8_code 0 = .ok (.aload_n 0, 1) := by decide +kernel
theorem d_BA_owes_1 : decode prog_1_method_8_code 1 = .ok (.iload_n 1, 1) := by decide +kernel
theorem d_BA_owes_2 : decode prog_1_method_8_code 2 = .ok (.iload_n 2, 1) := by decide +kernel
theorem d_BA_owes_3 : decode prog_1_method_8_code 3 = .ok (.invokevirtual 165, 3) := by decide +kernel
theorem d_BA_owes_6 : decode prog_1_method_8_code 6 = .ok (.ifCond .eq (18), 3) := by decide +kernel
theorem d_BA_owes_9 : decode prog_1_method_8_code 9 = .ok (.aload_n 0, 1) := by decide +kernel
theorem d_BA_owes_10 : decode prog_1_method_8_code 10 = .ok (.getfield 19, 3) := by decide +kernel
theorem d_BA_owes_13 : decode prog_1_method_8_code 13 = .ok (.iload_n 1, 1) := by decide +kernel
theorem d_BA_owes_14 : decode prog_1_method_8_code 14 = .ok (.iload_n 2, 1) := by decide +kernel
theorem d_BA_owes_15 : decode prog_1_method_8_code 15 = .ok (.invokevirtual 169, 3) := by decide +kernel
theorem d_BA_owes_18 : decode prog_1_method_8_code 18 = .ok (.ldc 164, 2) := by decide +kernel
theorem d_BA_owes_20 : decode prog_1_method_8_code 20 = .ok (.iadd, 1) := by decide +kernel
theorem d_BA_owes_21 : decode prog_1_method_8_code 21 = .ok (.goto (5), 3) := by decide +kernel
theorem d_BA_owes_24 : decode prog_1_method_8_code 24 = .ok (.ldc 144, 2) := by decide +kernel
theorem d_BA_owes_26 : decode prog_1_method_8_code 26 = .ok (.ireturn, 1) := by decide +kernel
set_option maxRecDepth 20000 in
set_option maxHeartbeats 2000000 in
theorem T_BA_owes {Z : ZT} (X : CX Z Y_BA_owes) {hp : HP} {a1 : Int32} {a2 : Int32} {p : Int32 × HP} (h : f_BA_owes hp a1 a2 = some p) (hR : RetI Z Y_BA_owes .int p.1 p.2) : V Z Y_BA_owes hp 0 [(0, .ref (gA (zG Z) 0)), (1, .int a1), (2, .int a2)] [] := by
  unfold f_BA_owes at h
  refine R_aload_n X 0 d_BA_owes_0 rfl ?_
  refine R_iload_n X 1 d_BA_owes_1 rfl ?_
  refine R_iload_n X 2 d_BA_owes_2 rfl ?_
  obtain ⟨p2, e1, h⟩ := ob h
  refine R_vcall (ci := 6) (k := 0) (As := [.int a1, .int a2]) (st := []) X (M_BA_areTwo e1) tw_428 cf_BA_areTwo (of_decide_eq_true rfl) rfl rfl rfl rfl rfl d_BA_owes_3 ?_
  refine R_ifeq (tgt := 24) X d_BA_owes_6 rfl (fun c3 => ?_) (fun c3 => ?_)
  · replace h := (if_pos c3).symm.trans h
    refine R_ldc (v := (-1000000001 : Int32)) X tw_414 d_BA_owes_24 ?_
    exact R_ret hR h d_BA_owes_26
  · replace h := (if_neg c3).symm.trans h
    refine R_aload_n X 0 d_BA_owes_9 rfl ?_
    refine R_getR (ci := 6) X rfl iBA_ok (of_decide_eq_true rfl) rfl 1 rfl rfl tw_235 d_BA_owes_10 ?_
    refine R_iload_n X 1 d_BA_owes_13 rfl ?_
    refine R_iload_n X 2 d_BA_owes_14 rfl ?_
    obtain ⟨p5, e4, h⟩ := ob h
    refine R_vcall (ci := 5) (k := 3) (As := [.int a1, .int a2]) (st := []) X (M_St_debt rfl e4) tw_432 cf_St_debt (of_decide_eq_true rfl) rfl rfl rfl rfl rfl d_BA_owes_15 ?_
    refine V_pc (pc' := 18) rfl ?_
    refine R_ldc (v := (100000 : Int32)) X tw_423 d_BA_owes_18 ?_
    refine R_iadd X d_BA_owes_20 ?_
    refine R_goto (tgt := 26) X d_BA_owes_21 rfl ?_
    exact R_ret hR h d_BA_owes_26
theorem M_BA_owes {G : GT} {hp : HP} {a1 : Int32} {a2 : Int32} {p : Int32 × HP} (h : f_BA_owes hp a1 a2 = some p) : MI G y_BA_owes Y_BA_owes .int [.ref (gA G 0), .int a1, .int a2] hp p.1 p.2 := MI_of rfl (fun Z hz X hR => by subst hz; exact T_BA_owes X h hR)
theorem d_Br_hasTask_0 : decode prog_2_method_9_code 0 = .ok (.iload_n 1, 1) := by decide +kernel
theorem d_Br_hasTask_1 : decode prog_2_method_9_code 1 = .ok (.iconst 0, 1) := by decide +kernel
theorem d_Br_hasTask_2 : decode prog_2_method_9_code 2 = .ok (.aload_n 0, 1) := by decide +kernel
theorem d_Br_hasTask_3 : decode prog_2_method_9_code 3 = .ok (.getfield 34, 3) := by decide +kernel
theorem d_Br_hasTask_6 : decode prog_2_method_9_code 6 = .ok (.iconst 1, 1) := by decide +kernel
theorem d_Br_hasTask_7 : decode prog_2_method_9_code 7 = .ok (.isub, 1) := by decide +kernel
theorem d_Br_hasTask_8 : decode prog_2_method_9_code 8 = .ok (.invokestatic 37, 3) := by decide +kernel
theorem d_Br_hasTask_11 : decode prog_2_method_9_code 11 = .ok (.ireturn, 1) := by decide +kernel
set_option maxRecDepth 20000 in
set_option maxHeartbeats 2000000 in
theorem T_Br_hasTask {Z : ZT} (X : CX Z Y_Br_hasTask) {hp : HP} {q0 : Nat} {a1 : Int32} (hq0 : isB q0 = true) {p : Int32 × HP} (h : f_Br_hasTask hp q0 a1 = some p) (hR : RetI Z Y_Br_hasTask .boolean p.1 p.2) : V Z Y_Br_hasTask hp 0 [(0, .ref (gA (zG Z) q0)), (1, .int a1)] [] := by
  unfold f_Br_hasTask at h
  refine R_iload_n X 1 d_Br_hasTask_0 rfl ?_
  refine R_iconst (v := (0 : Int32)) X d_Br_hasTask_1 rfl ?_
  refine R_aload_n X 0 d_Br_hasTask_2 rfl ?_
  refine R_getI (ci := 0) X rfl iBr_ok (B_all _ hq0).1.1 (B_all _ hq0).1.2 7 rfl rfl tw_214 d_Br_hasTask_3 ?_
  refine R_iconst (v := (1 : Int32)) X d_Br_hasTask_6 rfl ?_
  refine V_pc (pc' := 7) rfl ?_
  refine R_isub X d_Br_hasTask_7 ?_
  obtain ⟨p2, e1, h⟩ := ob h
  refine R_ncall (As := [.int a1, .int (0 : Int32), .int ((hp q0 7) - (1 : Int32))]) (st := []) (host := "BodyAccounts") X (M_BA_within e1) (by decide +kernel) cf_BA_within rfl rfl rfl d_Br_hasTask_8 ?_
  exact R_retz hR h d_Br_hasTask_11
theorem M_Br_hasTask {G : GT} {hp : HP} {q0 : Nat} {a1 : Int32} (hq0 : isB q0 = true) {p : Int32 × HP} (h : f_Br_hasTask hp q0 a1 = some p) : MI G y_Br_hasTask Y_Br_hasTask .boolean [.ref (gA G q0), .int a1] hp p.1 p.2 := MI_of rfl (fun Z hz X hR => by subst hz; exact T_Br_hasTask X hq0 h hR)
theorem d_Br_needOf_0 : decode prog_2_method_13_code 0 = .ok (.ldc 45, 2) := by decide +kernel
theorem d_Br_needOf_2 : decode prog_2_method_13_code 2 = .ok (.istore_n 2, 1) := by decide +kernel
theorem d_Br_needOf_3 : decode prog_2_method_13_code 3 = .ok (.iconst 0, 1) := by decide +kernel
theorem d_Br_needOf_4 : decode prog_2_method_13_code 4 = .ok (.istore_n 3, 1) := by decide +kernel
theorem d_Br_needOf_5 : decode prog_2_method_13_code 5 = .ok (.iload_n 3, 1) := by decide +kernel
theorem d_Br_needOf_6 : decode prog_2_method_13_code 6 = .ok (.aload_n 0, 1) := by decide +kernel
theorem d_Br_needOf_7 : decode prog_2_method_13_code 7 = .ok (.getfield 27, 3) := by decide +kernel
theorem d_Br_needOf_10 : decode prog_2_method_13_code 10 = .ok (.if_icmp .ge (34), 3) := by decide +kernel
theorem d_Br_needOf_13 : decode prog_2_method_13_code 13 = .ok (.aload_n 0, 1) := by decide +kernel
theorem d_Br_needOf_14 : decode prog_2_method_13_code 14 = .ok (.getfield 24, 3) := by decide +kernel
theorem d_Br_needOf_17 : decode prog_2_method_13_code 17 = .ok (.iload_n 1, 1) := by decide +kernel
theorem d_Br_needOf_18 : decode prog_2_method_13_code 18 = .ok (.iaload, 1) := by decide +kernel
theorem d_Br_needOf_19 : decode prog_2_method_13_code 19 = .ok (.iload_n 3, 1) := by decide +kernel
theorem d_Br_needOf_20 : decode prog_2_method_13_code 20 = .ok (.ishr, 1) := by decide +kernel
theorem d_Br_needOf_21 : decode prog_2_method_13_code 21 = .ok (.iconst 1, 1) := by decide +kernel
theorem d_Br_needOf_22 : decode prog_2_method_13_code 22 = .ok (.iand, 1) := by decide +kernel
theorem d_Br_needOf_23 : decode prog_2_method_13_code 23 = .ok (.iconst 1, 1) := by decide +kernel
theorem d_Br_needOf_24 : decode prog_2_method_13_code 24 = .ok (.if_icmp .ne (14), 3) := by decide +kernel
theorem d_Br_needOf_27 : decode prog_2_method_13_code 27 = .ok (.iload_n 2, 1) := by decide +kernel
theorem d_Br_needOf_28 : decode prog_2_method_13_code 28 = .ok (.aload_n 0, 1) := by decide +kernel
theorem d_Br_needOf_29 : decode prog_2_method_13_code 29 = .ok (.getfield 9, 3) := by decide +kernel
theorem d_Br_needOf_32 : decode prog_2_method_13_code 32 = .ok (.iload_n 3, 1) := by decide +kernel
theorem d_Br_needOf_33 : decode prog_2_method_13_code 33 = .ok (.iaload, 1) := by decide +kernel
theorem d_Br_needOf_34 : decode prog_2_method_13_code 34 = .ok (.invokestatic 46, 3) := by decide +kernel
theorem d_Br_needOf_37 : decode prog_2_method_13_code 37 = .ok (.istore_n 2, 1) := by decide +kernel
theorem d_Br_needOf_38 : decode prog_2_method_13_code 38 = .ok (.iinc 3 (1), 3) := by decide +kernel
theorem d_Br_needOf_41 : decode prog_2_method_13_code 41 = .ok (.goto (-36), 3) := by decide +kernel
theorem d_Br_needOf_44 : decode prog_2_method_13_code 44 = .ok (.iload_n 2, 1) := by decide +kernel
theorem d_Br_needOf_45 : decode prog_2_method_13_code 45 = .ok (.ireturn, 1) := by decide +kernel
set_option maxRecDepth 20000 in
set_option maxHeartbeats 2000000 in
theorem T_Br_needOf_L5 {Z : ZT} (X : CX Z Y_Br_needOf) {q0 : Nat} {v1 : Int32} (hq0 : isB q0 = true) {p : Int32 × HP} (hR : RetI Z Y_Br_needOf .int p.1 p.2) {K : HP → Int32 → Option (Int32 × HP)} (hK : ∀ (hp : HP) (x2 : Int32), K hp x2 = some p → V Z Y_Br_needOf hp 44 [(2, .int x2)] []) : ∀ (n : Nat) (hp : HP) (x2 : Int32) (x3 : Int32), f_Br_needOf_L5 q0 v1 K n hp x2 x3 = some p → V Z Y_Br_needOf hp 5 [(0, .ref (gA (zG Z) q0)), (1, .int v1), (2, .int x2), (3, .int x3)] [] := by
  intro n
  induction n with
  | zero =>
    intro hp x2 x3 h
    cases h
  | succ n ih =>
    intro hp x2 x3 h
    replace h : f_Br_needOf_L5 q0 v1 K (n + 1) hp x2 x3 = some p := h
    unfold f_Br_needOf_L5 at h
    refine R_iload_n X 3 d_Br_needOf_5 rfl ?_
    refine R_aload_n X 0 d_Br_needOf_6 rfl ?_
    refine R_getI (ci := 0) X rfl iBr_ok (B_all _ hq0).1.1 (B_all _ hq0).1.2 5 rfl rfl tw_208 d_Br_needOf_7 ?_
    refine R_icmp_ge (tgt := 44) X d_Br_needOf_10 rfl (fun c1 => ?_) (fun c1 => ?_)
    · replace h := (if_pos c1).symm.trans h
      refine V_pc (pc' := 44) rfl (R_loc (L' := [(2, .int x2)]) [2] rfl ?_)
      exact hK hp x2 h
    · replace h := (if_neg c1).symm.trans h
      refine R_aload_n X 0 d_Br_needOf_13 rfl ?_
      refine R_getR (ci := 0) X rfl iBr_ok (B_all _ hq0).1.1 (B_all _ hq0).1.2 4 rfl rfl tw_207 d_Br_needOf_14 ?_
      refine R_iload_n X 1 d_Br_needOf_17 rfl ?_
      obtain ⟨i2, h⟩ := ck h
      refine R_iald (n := 6) X (B_all _ hq0).2.2.2.2.2.1 (B_all _ hq0).2.2.2.2.2.2 i2 d_Br_needOf_18 ?_
      refine R_iload_n X 3 d_Br_needOf_19 rfl ?_
      refine V_pc (pc' := 20) rfl ?_
      refine R_ishr X d_Br_needOf_20 ?_
      refine R_iconst (v := (1 : Int32)) X d_Br_needOf_21 rfl ?_
      refine R_iand X d_Br_needOf_22 ?_
      refine R_iconst (v := (1 : Int32)) X d_Br_needOf_23 rfl ?_
      refine R_icmp_ne (tgt := 38) X d_Br_needOf_24 rfl (fun c3 => ?_) (fun c3 => ?_)
      · replace h := (if_neg c3).symm.trans h
        refine R_iinc (v := (x3 + 1)) (L' := [(3, .int (x3 + 1)), (0, .ref (gA (zG Z) q0)), (1, .int v1), (2, .int x2)]) X 3 d_Br_needOf_38 rfl rfl (by decide) rfl ?_
        refine R_goto (tgt := 5) X d_Br_needOf_41 rfl ?_
        refine V_pc (pc' := 5) rfl (R_loc (L' := [(0, .ref (gA (zG Z) q0)), (1, .int v1), (2, .int x2), (3, .int (x3 + 1))]) [1, 2, 3, 0] rfl ?_)
        exact ih hp x2 (x3 + 1) h
      · replace h := (if_pos c3).symm.trans h
        refine R_iload_n X 2 d_Br_needOf_27 rfl ?_
        refine R_aload_n X 0 d_Br_needOf_28 rfl ?_
        refine R_getR (ci := 0) X rfl iBr_ok (B_all _ hq0).1.1 (B_all _ hq0).1.2 0 rfl rfl tw_198 d_Br_needOf_29 ?_
        refine R_iload_n X 3 d_Br_needOf_32 rfl ?_
        obtain ⟨i4, h⟩ := ck h
        refine R_iald (n := 8) X (B_all _ hq0).2.1.1 (B_all _ hq0).2.1.2 i4 d_Br_needOf_33 ?_
        refine V_pc (pc' := 34) rfl ?_
        refine R_mmax X tw_450 tw_398 tw_56 tw_399 rfl d_Br_needOf_34 ?_
        refine R_istore_n (L' := [(2, .int (mx x2 (hp (q0 + 1) (x3).toNatClampNeg))), (0, .ref (gA (zG Z) q0)), (1, .int v1), (3, .int x3)]) X d_Br_needOf_37 (by decide) rfl ?_
        refine R_iinc (v := (x3 + 1)) (L' := [(3, .int (x3 + 1)), (2, .int (mx x2 (hp (q0 + 1) (x3).toNatClampNeg))), (0, .ref (gA (zG Z) q0)), (1, .int v1)]) X 3 d_Br_needOf_38 rfl rfl (by decide) rfl ?_
        refine R_goto (tgt := 5) X d_Br_needOf_41 rfl ?_
        refine V_pc (pc' := 5) rfl (R_loc (L' := [(0, .ref (gA (zG Z) q0)), (1, .int v1), (2, .int (mx x2 (hp (q0 + 1) (x3).toNatClampNeg))), (3, .int (x3 + 1))]) [2, 3, 1, 0] rfl ?_)
        exact ih hp (mx x2 (hp (q0 + 1) (x3).toNatClampNeg)) (x3 + 1) h
set_option maxRecDepth 20000 in
set_option maxHeartbeats 2000000 in
theorem T_Br_needOf {Z : ZT} (X : CX Z Y_Br_needOf) {hp : HP} {q0 : Nat} {a1 : Int32} (hq0 : isB q0 = true) {p : Int32 × HP} (h : f_Br_needOf hp q0 a1 = some p) (hR : RetI Z Y_Br_needOf .int p.1 p.2) : V Z Y_Br_needOf hp 0 [(0, .ref (gA (zG Z) q0)), (1, .int a1)] [] := by
  unfold f_Br_needOf at h
  refine R_ldc (v := (-100000 : Int32)) X tw_449 d_Br_needOf_0 ?_
  refine R_istore_n (L' := [(2, .int (-100000 : Int32)), (0, .ref (gA (zG Z) q0)), (1, .int a1)]) X d_Br_needOf_2 (by decide) rfl ?_
  refine R_iconst (v := (0 : Int32)) X d_Br_needOf_3 rfl ?_
  refine R_istore_n (L' := [(3, .int (0 : Int32)), (2, .int (-100000 : Int32)), (0, .ref (gA (zG Z) q0)), (1, .int a1)]) X d_Br_needOf_4 (by decide) rfl ?_
  refine V_pc (pc' := 5) rfl (R_loc (L' := [(0, .ref (gA (zG Z) q0)), (1, .int a1), (2, .int (-100000 : Int32)), (3, .int (0 : Int32))]) [2, 3, 1, 0] rfl ?_)
  refine T_Br_needOf_L5 X hq0 hR (fun hp6 w5 h => ?_) _ hp (-100000 : Int32) (0 : Int32) h
  refine R_iload_n X 0 d_Br_needOf_44 rfl ?_
  exact R_ret hR h d_Br_needOf_45
theorem M_Br_needOf {G : GT} {hp : HP} {q0 : Nat} {a1 : Int32} (hq0 : isB q0 = true) {p : Int32 × HP} (h : f_Br_needOf hp q0 a1 = some p) : MI G y_Br_needOf Y_Br_needOf .int [.ref (gA G q0), .int a1] hp p.1 p.2 := MI_of rfl (fun Z hz X hR => by subst hz; exact T_Br_needOf X hq0 h hR)
