/-! Printed by wip/whole/walk.py. -/
theorem d_Mo_tear_0 : decode prog_9_method_62_code 0 = .ok (.aload_n 0, 1) := by decide +kernel
theorem d_Mo_tear_1 : decode prog_9_method_62_code 1 = .ok (.getfield 149, 3) := by decide +kernel
theorem d_Mo_tear_4 : decode prog_9_method_62_code 4 = .ok (.aload_n 0, 1) := by decide +kernel
theorem d_Mo_tear_5 : decode prog_9_method_62_code 5 = .ok (.getfield 152, 3) := by decide +kernel
theorem d_Mo_tear_8 : decode prog_9_method_62_code 8 = .ok (.iadd, 1) := by decide +kernel
theorem d_Mo_tear_9 : decode prog_9_method_62_code 9 = .ok (.aload_n 0, 1) := by decide +kernel
theorem d_Mo_tear_10 : decode prog_9_method_62_code 10 = .ok (.getfield 155, 3) := by decide +kernel
theorem d_Mo_tear_13 : decode prog_9_method_62_code 13 = .ok (.iadd, 1) := by decide +kernel
theorem d_Mo_tear_14 : decode prog_9_method_62_code 14 = .ok (.aload_n 0, 1) := by decide +kernel
theorem d_Mo_tear_15 : decode prog_9_method_62_code 15 = .ok (.getfield 158, 3) := by decide +kernel
theorem d_Mo_tear_18 : decode prog_9_method_62_code 18 = .ok (.iadd, 1) := by decide +kernel
theorem d_Mo_tear_19 : decode prog_9_method_62_code 19 = .ok (.istore_n 1, 1) := by decide +kernel
theorem d_Mo_tear_20 : decode prog_9_method_62_code 20 = .ok (.aload_n 0, 1) := by decide +kernel
theorem d_Mo_tear_21 : decode prog_9_method_62_code 21 = .ok (.iconst 0, 1) := by decide +kernel
theorem d_Mo_tear_22 : decode prog_9_method_62_code 22 = .ok (.putfield 149, 3) := by decide +kernel
theorem d_Mo_tear_25 : decode prog_9_method_62_code 25 = .ok (.aload_n 0, 1) := by decide +kernel
theorem d_Mo_tear_26 : decode prog_9_method_62_code 26 = .ok (.iconst 0, 1) := by decide +kernel
theorem d_Mo_tear_27 : decode prog_9_method_62_code 27 = .ok (.putfield 152, 3) := by decide +kernel
theorem d_Mo_tear_30 : decode prog_9_method_62_code 30 = .ok (.aload_n 0, 1) := by decide +kernel
theorem d_Mo_tear_31 : decode prog_9_method_62_code 31 = .ok (.iconst 0, 1) := by decide +kernel
theorem d_Mo_tear_32 : decode prog_9_method_62_code 32 = .ok (.putfield 155, 3) := by decide +kernel
theorem d_Mo_tear_35 : decode prog_9_method_62_code 35 = .ok (.aload_n 0, 1) := by decide +kernel
theorem d_Mo_tear_36 : decode prog_9_method_62_code 36 = .ok (.iconst 0, 1) := by decide +kernel
theorem d_Mo_tear_37 : decode prog_9_method_62_code 37 = .ok (.putfield 158, 3) := by decide +kernel
theorem d_Mo_tear_40 : decode prog_9_method_62_code 40 = .ok (.iload_n 1, 1) := by decide +kernel
theorem d_Mo_tear_41 : decode prog_9_method_62_code 41 = .ok (.ireturn, 1) := by decide +kernel
set_option maxRecDepth 20000 in
set_option maxHeartbeats 2000000 in
theorem T_Mo_tear {Z : ZT} (X : CX Z Y_Mo_tear) {hp : HP} {p : Int32 × HP} (h : f_Mo_tear hp = some p) (hR : RetI Z Y_Mo_tear .int p.1 p.2) : V Z Y_Mo_tear hp 0 [(0, .ref (gA (zG Z) 99))] [] := by
  unfold f_Mo_tear at h
  refine R_aload_n X 0 d_Mo_tear_0 rfl ?_
  refine R_getI (ci := 7) X rfl iMo_ok (of_decide_eq_true rfl) rfl 23 rfl rfl tw_694 d_Mo_tear_1 ?_
  refine R_aload_n X 0 d_Mo_tear_4 rfl ?_
  refine R_getI (ci := 7) X rfl iMo_ok (of_decide_eq_true rfl) rfl 25 rfl rfl tw_696 d_Mo_tear_5 ?_
  refine R_iadd X d_Mo_tear_8 ?_
  refine V_pc (pc' := 9) rfl ?_
  refine R_aload_n X 0 d_Mo_tear_9 rfl ?_
  refine R_getI (ci := 7) X rfl iMo_ok (of_decide_eq_true rfl) rfl 29 rfl rfl tw_700 d_Mo_tear_10 ?_
  refine R_iadd X d_Mo_tear_13 ?_
  refine R_aload_n X 0 d_Mo_tear_14 rfl ?_
  refine R_getI (ci := 7) X rfl iMo_ok (of_decide_eq_true rfl) rfl 32 rfl rfl tw_703 d_Mo_tear_15 ?_
  refine R_iadd X d_Mo_tear_18 ?_
  refine V_pc (pc' := 19) rfl ?_
  refine R_istore_n (L' := [(1, .int ((((hp 99 23) + (hp 99 25)) + (hp 99 29)) + (hp 99 32))), (0, .ref (gA (zG Z) 99))]) X d_Mo_tear_19 (by decide) rfl ?_
  refine R_aload_n X 1 d_Mo_tear_20 rfl ?_
  refine R_iconst (v := (0 : Int32)) X d_Mo_tear_21 rfl ?_
  refine R_putI (ci := 7) X rfl iMo_ok yMo_ok nMo_ok (of_decide_eq_true rfl) rfl 23 rfl rfl rfl rfl tw_694 d_Mo_tear_22 ?_
  refine R_aload_n X 1 d_Mo_tear_25 rfl ?_
  refine R_iconst (v := (0 : Int32)) X d_Mo_tear_26 rfl ?_
  refine V_pc (pc' := 27) rfl ?_
  refine R_putI (ci := 7) X rfl iMo_ok yMo_ok nMo_ok (of_decide_eq_true rfl) rfl 25 rfl rfl rfl rfl tw_696 d_Mo_tear_27 ?_
  refine R_aload_n X 1 d_Mo_tear_30 rfl ?_
  refine R_iconst (v := (0 : Int32)) X d_Mo_tear_31 rfl ?_
  refine R_putI (ci := 7) X rfl iMo_ok yMo_ok nMo_ok (of_decide_eq_true rfl) rfl 29 rfl rfl rfl rfl tw_700 d_Mo_tear_32 ?_
  refine R_aload_n X 1 d_Mo_tear_35 rfl ?_
  refine R_iconst (v := (0 : Int32)) X d_Mo_tear_36 rfl ?_
  refine V_pc (pc' := 37) rfl ?_
  refine R_putI (ci := 7) X rfl iMo_ok yMo_ok nMo_ok (of_decide_eq_true rfl) rfl 32 rfl rfl rfl rfl tw_703 d_Mo_tear_37 ?_
  refine R_iload_n X 0 d_Mo_tear_40 rfl ?_
  exact R_ret hR h d_Mo_tear_41
theorem M_Mo_tear {G : GT} {hp : HP} {p : Int32 × HP} (h : f_Mo_tear hp = some p) : MI G y_Mo_tear Y_Mo_tear .int [.ref (gA G 99)] hp p.1 p.2 := MI_of rfl (fun Z hz X hR => by subst hz; exact T_Mo_tear X h hR)
theorem d_Mo_judge_0 : decode prog_9_method_63_code 0 = .ok (.iconst 0, 1) := by decide +kernel
theorem d_Mo_judge_1 : decode prog_9_method_63_code 1 = .ok (.istore_n 1, 1) := by decide +kernel
theorem d_Mo_judge_2 : decode prog_9_method_63_code 2 = .ok (.iload_n 1, 1) := by decide +kernel
theorem d_Mo_judge_3 : decode prog_9_method_63_code 3 = .ok (.aload_n 0, 1) := by decide +kernel
theorem d_Mo_judge_4 : decode prog_9_method_63_code 4 = .ok (.getfield 158, 3) := by decide +kernel
theorem d_Mo_judge_7 : decode prog_9_method_63_code 7 = .ok (.if_icmp .ge (37), 3) := by decide +kernel
theorem d_Mo_judge_10 : decode prog_9_method_63_code 10 = .ok (.aload_n 0, 1) := by decide +kernel
theorem d_Mo_judge_11 : decode prog_9_method_63_code 11 = .ok (.getfield 7, 3) := by decide +kernel
theorem d_Mo_judge_14 : decode prog_9_method_63_code 14 = .ok (.iconst 1, 1) := by decide +kernel
theorem d_Mo_judge_15 : decode prog_9_method_63_code 15 = .ok (.aload_n 0, 1) := by decide +kernel
theorem d_Mo_judge_16 : decode prog_9_method_63_code 16 = .ok (.getfield 63, 3) := by decide +kernel
theorem d_Mo_judge_19 : decode prog_9_method_63_code 19 = .ok (.iload_n 1, 1) := by decide +kernel
theorem d_Mo_judge_20 : decode prog_9_method_63_code 20 = .ok (.iaload, 1) := by decide +kernel
theorem d_Mo_judge_21 : decode prog_9_method_63_code 21 = .ok (.iadd, 1) := by decide +kernel
theorem d_Mo_judge_22 : decode prog_9_method_63_code 22 = .ok (.iaload, 1) := by decide +kernel
theorem d_Mo_judge_23 : decode prog_9_method_63_code 23 = .ok (.sipush (10000), 3) := by decide +kernel
theorem d_Mo_judge_26 : decode prog_9_method_63_code 26 = .ok (.iadd, 1) := by decide +kernel
theorem d_Mo_judge_27 : decode prog_9_method_63_code 27 = .ok (.aload_n 0, 1) := by decide +kernel
theorem d_Mo_judge_28 : decode prog_9_method_63_code 28 = .ok (.getfield 66, 3) := by decide +kernel
theorem d_Mo_judge_31 : decode prog_9_method_63_code 31 = .ok (.iload_n 1, 1) := by decide +kernel
theorem d_Mo_judge_32 : decode prog_9_method_63_code 32 = .ok (.iaload, 1) := by decide +kernel
theorem d_Mo_judge_33 : decode prog_9_method_63_code 33 = .ok (.if_icmp .eq (5), 3) := by decide +kernel
theorem d_Mo_judge_36 : decode prog_9_method_63_code 36 = .ok (.iload_n 1, 1) := by decide +kernel
theorem d_Mo_judge_37 : decode prog_9_method_63_code 37 = .ok (.ireturn, 1) := by decide +kernel
theorem d_Mo_judge_38 : decode prog_9_method_63_code 38 = .ok (.iinc 1 (1), 3) := by decide +kernel
theorem d_Mo_judge_41 : decode prog_9_method_63_code 41 = .ok (.goto (-39), 3) := by decide +kernel
theorem d_Mo_judge_44 : decode prog_9_method_63_code 44 = .ok (.iconst (-1), 1) := by decide +kernel
theorem d_Mo_judge_45 : decode prog_9_method_63_code 45 = .ok (.ireturn, 1) := by decide +kernel
set_option maxRecDepth 20000 in
set_option maxHeartbeats 2000000 in
theorem T_Mo_judge_L2 {Z : ZT} (X : CX Z Y_Mo_judge) {p : Int32 × HP} (hR : RetI Z Y_Mo_judge .int p.1 p.2) {K : HP → Option (Int32 × HP)} (hK : ∀ (hp : HP), K hp = some p → V Z Y_Mo_judge hp 44 [] []) : ∀ (n : Nat) (hp : HP) (x1 : Int32), f_Mo_judge_L2 K n hp x1 = some p → V Z Y_Mo_judge hp 2 [(0, .ref (gA (zG Z) 99)), (1, .int x1)] [] := by
  intro n
  induction n with
  | zero =>
    intro hp x1 h
    cases h
  | succ n ih =>
    intro hp x1 h
    replace h : f_Mo_judge_L2 K (n + 1) hp x1 = some p := h
    unfold f_Mo_judge_L2 at h
    refine R_iload_n X 1 d_Mo_judge_2 rfl ?_
    refine R_aload_n X 0 d_Mo_judge_3 rfl ?_
    refine R_getI (ci := 7) X rfl iMo_ok (of_decide_eq_true rfl) rfl 32 rfl rfl tw_703 d_Mo_judge_4 ?_
    refine R_icmp_ge (tgt := 44) X d_Mo_judge_7 rfl (fun c1 => ?_) (fun c1 => ?_)
    · replace h := (if_pos c1).symm.trans h
      refine V_pc (pc' := 44) rfl (R_loc (L' := []) [] rfl ?_)
      exact hK hp h
    · replace h := (if_neg c1).symm.trans h
      refine R_aload_n X 0 d_Mo_judge_10 rfl ?_
      refine R_getR (ci := 7) X rfl iMo_ok (of_decide_eq_true rfl) rfl 0 rfl rfl tw_671 d_Mo_judge_11 ?_
      refine R_iconst (v := (1 : Int32)) X d_Mo_judge_14 rfl ?_
      refine R_aload_n X 0 d_Mo_judge_15 rfl ?_
      refine R_getR (ci := 7) X rfl iMo_ok (of_decide_eq_true rfl) rfl 33 rfl rfl tw_704 d_Mo_judge_16 ?_
      refine V_pc (pc' := 19) rfl ?_
      refine R_iload_n X 1 d_Mo_judge_19 rfl ?_
      obtain ⟨i2, h⟩ := ck h
      refine R_iald (n := 15) X (of_decide_eq_true rfl) rfl i2 d_Mo_judge_20 ?_
      refine R_iadd X d_Mo_judge_21 ?_
      obtain ⟨i3, h⟩ := ck h
      refine R_iald (n := 736) X (of_decide_eq_true rfl) rfl i3 d_Mo_judge_22 ?_
      refine R_sipush (v := (10000 : Int32)) X d_Mo_judge_23 rfl ?_
      refine R_iadd X d_Mo_judge_26 ?_
      refine V_pc (pc' := 27) rfl ?_
      refine R_aload_n X 0 d_Mo_judge_27 rfl ?_
      refine R_getR (ci := 7) X rfl iMo_ok (of_decide_eq_true rfl) rfl 34 rfl rfl tw_705 d_Mo_judge_28 ?_
      refine R_iload_n X 1 d_Mo_judge_31 rfl ?_
      refine R_iald (n := 15) X (of_decide_eq_true rfl) rfl i2 d_Mo_judge_32 ?_
      refine R_icmp_eq (tgt := 38) X d_Mo_judge_33 rfl (fun c4 => ?_) (fun c4 => ?_)
      · replace h := (if_pos c4).symm.trans h
        refine R_iinc (v := (x1 + 1)) (L' := [(1, .int (x1 + 1)), (0, .ref (gA (zG Z) 99))]) X 1 d_Mo_judge_38 rfl rfl (by decide) rfl ?_
        refine R_goto (tgt := 2) X d_Mo_judge_41 rfl ?_
        refine V_pc (pc' := 2) rfl (R_loc (L' := [(0, .ref (gA (zG Z) 99)), (1, .int (x1 + 1))]) [1, 0] rfl ?_)
        exact ih hp (x1 + 1) h
      · replace h := (if_neg c4).symm.trans h
        refine R_iload_n X 1 d_Mo_judge_36 rfl ?_
        exact R_ret hR h d_Mo_judge_37
set_option maxRecDepth 20000 in
set_option maxHeartbeats 2000000 in
theorem T_Mo_judge {Z : ZT} (X : CX Z Y_Mo_judge) {hp : HP} {p : Int32 × HP} (h : f_Mo_judge hp = some p) (hR : RetI Z Y_Mo_judge .int p.1 p.2) : V Z Y_Mo_judge hp 0 [(0, .ref (gA (zG Z) 99))] [] := by
  unfold f_Mo_judge at h
  refine R_iconst (v := (0 : Int32)) X d_Mo_judge_0 rfl ?_
  refine R_istore_n (L' := [(1, .int (0 : Int32)), (0, .ref (gA (zG Z) 99))]) X d_Mo_judge_1 (by decide) rfl ?_
  refine V_pc (pc' := 2) rfl (R_loc (L' := [(0, .ref (gA (zG Z) 99)), (1, .int (0 : Int32))]) [1, 0] rfl ?_)
  refine T_Mo_judge_L2 X hR (fun hp5 h => ?_) _ hp (0 : Int32) h
  refine R_iconst (v := (-1 : Int32)) X d_Mo_judge_44 rfl ?_
  exact R_ret hR h d_Mo_judge_45
theorem M_Mo_judge {G : GT} {hp : HP} {p : Int32 × HP} (h : f_Mo_judge hp = some p) : MI G y_Mo_judge Y_Mo_judge .int [.ref (gA G 99)] hp p.1 p.2 := MI_of rfl (fun Z hz X hR => by subst hz; exact T_Mo_judge X h hR)
theorem d_Mo_seed_0 : decode prog_9_method_64_code 0 = .ok (.iload_n 1, 1) := by decide +kernel
theorem d_Mo_seed_1 : decode prog_9_method_64_code 1 = .ok (.ifCond .ge (6), 3) := by decide +kernel
theorem d_Mo_seed_4 : decode prog_9_method_64_code 4 = .ok (.ldc 88, 2) := by decide +kernel
theorem d_Mo_seed_6 : decode prog_9_method_64_code 6 = .ok (.ireturn, 1) := by decide +kernel
theorem d_Mo_seed_7 : decode prog_9_method_64_code 7 = .ok (.aload_n 0, 1) := by decide +kernel
theorem d_Mo_seed_8 : decode prog_9_method_64_code 8 = .ok (.getfield 7, 3) := by decide +kernel
theorem d_Mo_seed_11 : decode prog_9_method_64_code 11 = .ok (.bipush (31), 2) := by decide +kernel
theorem d_Mo_seed_13 : decode prog_9_method_64_code 13 = .ok (.iaload, 1) := by decide +kernel
theorem d_Mo_seed_14 : decode prog_9_method_64_code 14 = .ok (.istore_n 2, 1) := by decide +kernel
theorem d_Mo_seed_15 : decode prog_9_method_64_code 15 = .ok (.aload_n 0, 1) := by decide +kernel
theorem d_Mo_seed_16 : decode prog_9_method_64_code 16 = .ok (.getfield 7, 3) := by decide +kernel
theorem d_Mo_seed_19 : decode prog_9_method_64_code 19 = .ok (.bipush (31), 2) := by decide +kernel
theorem d_Mo_seed_21 : decode prog_9_method_64_code 21 = .ok (.iload_n 1, 1) := by decide +kernel
theorem d_Mo_seed_22 : decode prog_9_method_64_code 22 = .ok (.iastore, 1) := by decide +kernel
theorem d_Mo_seed_23 : decode prog_9_method_64_code 23 = .ok (.iload_n 2, 1) := by decide +kernel
theorem d_Mo_seed_24 : decode prog_9_method_64_code 24 = .ok (.ireturn, 1) := by decide +kernel
set_option maxRecDepth 20000 in
set_option maxHeartbeats 2000000 in
theorem T_Mo_seed {Z : ZT} (X : CX Z Y_Mo_seed) {hp : HP} {a1 : Int32} {p : Int32 × HP} (h : f_Mo_seed hp a1 = some p) (hR : RetI Z Y_Mo_seed .int p.1 p.2) : V Z Y_Mo_seed hp 0 [(0, .ref (gA (zG Z) 99)), (1, .int a1)] [] := by
  unfold f_Mo_seed at h
  refine R_iload_n X 1 d_Mo_seed_0 rfl ?_
  refine R_ifge (tgt := 7) X d_Mo_seed_1 rfl (fun c1 => ?_) (fun c1 => ?_)
  · replace h := (if_pos c1).symm.trans h
    refine R_aload_n X 0 d_Mo_seed_7 rfl ?_
    refine R_getR (ci := 7) X rfl iMo_ok (of_decide_eq_true rfl) rfl 0 rfl rfl tw_671 d_Mo_seed_8 ?_
    refine R_bipush (v := (31 : Int32)) X d_Mo_seed_11 rfl ?_
    refine R_iald (n := 736) X (of_decide_eq_true rfl) rfl rfl d_Mo_seed_13 ?_
    refine R_istore_n (L' := [(2, .int (hp 100 31)), (0, .ref (gA (zG Z) 99)), (1, .int a1)]) X d_Mo_seed_14 (by decide) rfl ?_
    refine V_pc (pc' := 15) rfl ?_
    refine R_aload_n X 1 d_Mo_seed_15 rfl ?_
    refine R_getR (ci := 7) X rfl iMo_ok (of_decide_eq_true rfl) rfl 0 rfl rfl tw_671 d_Mo_seed_16 ?_
    refine R_bipush (v := (31 : Int32)) X d_Mo_seed_19 rfl ?_
    refine R_iload_n X 2 d_Mo_seed_21 rfl ?_
    refine R_iast (n := 736) X (of_decide_eq_true rfl) rfl rfl d_Mo_seed_22 ?_
    refine R_iload_n X 0 d_Mo_seed_23 rfl ?_
    refine V_pc (pc' := 24) rfl ?_
    exact R_ret hR h d_Mo_seed_24
  · replace h := (if_neg c1).symm.trans h
    refine R_ldc (v := (-1000000002 : Int32)) X tw_785 d_Mo_seed_4 ?_
    exact R_ret hR h d_Mo_seed_6
theorem M_Mo_seed {G : GT} {hp : HP} {a1 : Int32} {p : Int32 × HP} (h : f_Mo_seed hp a1 = some p) : MI G y_Mo_seed Y_Mo_seed .int [.ref (gA G 99), .int a1] hp p.1 p.2 := MI_of rfl (fun Z hz X hR => by subst hz; exact T_Mo_seed X h hR)
theorem d_Mo_keep_0 : decode prog_9_method_65_code 0 = .ok (.iload_n 1, 1) := by decide +kernel
theorem d_Mo_keep_1 : decode prog_9_method_65_code 1 = .ok (.i2l, 1) := by decide +kernel
theorem d_Mo_keep_2 : decode prog_9_method_65_code 2 = .ok (.lconst 0, 1) := by decide +kernel
theorem d_Mo_keep_3 : decode prog_9_method_65_code 3 = .ok (.lconst 1, 1) := by decide +kernel
theorem d_Mo_keep_4 : decode prog_9_method_65_code 4 = .ok (.invokestatic 72, 3) := by decide +kernel
theorem d_Mo_keep_7 : decode prog_9_method_65_code 7 = .ok (.ifCond .ne (6), 3) := by decide +kernel
theorem d_Mo_keep_10 : decode prog_9_method_65_code 10 = .ok (.ldc 189, 2) := by decide +kernel
theorem d_Mo_keep_12 : decode prog_9_method_65_code 12 = .ok (.ireturn, 1) := by decide +kernel
theorem d_Mo_keep_13 : decode prog_9_method_65_code 13 = .ok (.aload_n 0, 1) := by decide +kernel
theorem d_Mo_keep_14 : decode prog_9_method_65_code 14 = .ok (.iconst 0, 1) := by decide +kernel
theorem d_Mo_keep_15 : decode prog_9_method_65_code 15 = .ok (.bipush (32), 2) := by decide +kernel
theorem d_Mo_keep_17 : decode prog_9_method_65_code 17 = .ok (.bipush (32), 2) := by decide +kernel
theorem d_Mo_keep_19 : decode prog_9_method_65_code 19 = .ok (.iload_n 1, 1) := by decide +kernel
theorem d_Mo_keep_20 : decode prog_9_method_65_code 20 = .ok (.imul, 1) := by decide +kernel
theorem d_Mo_keep_21 : decode prog_9_method_65_code 21 = .ok (.iadd, 1) := by decide +kernel
theorem d_Mo_keep_22 : decode prog_9_method_65_code 22 = .ok (.invokevirtual 200, 3) := by decide +kernel
theorem d_Mo_keep_25 : decode prog_9_method_65_code 25 = .ok (.aload_n 0, 1) := by decide +kernel
theorem d_Mo_keep_26 : decode prog_9_method_65_code 26 = .ok (.getfield 13, 3) := by decide +kernel
theorem d_Mo_keep_29 : decode prog_9_method_65_code 29 = .ok (.iload_n 1, 1) := by decide +kernel
theorem d_Mo_keep_30 : decode prog_9_method_65_code 30 = .ok (.iconst 1, 1) := by decide +kernel
theorem d_Mo_keep_31 : decode prog_9_method_65_code 31 = .ok (.bastore, 1) := by decide +kernel
theorem d_Mo_keep_32 : decode prog_9_method_65_code 32 = .ok (.aload_n 0, 1) := by decide +kernel
theorem d_Mo_keep_33 : decode prog_9_method_65_code 33 = .ok (.iconst 0, 1) := by decide +kernel
theorem d_Mo_keep_34 : decode prog_9_method_65_code 34 = .ok (.putfield 161, 3) := by decide +kernel
theorem d_Mo_keep_37 : decode prog_9_method_65_code 37 = .ok (.iconst 1, 1) := by decide +kernel
theorem d_Mo_keep_38 : decode prog_9_method_65_code 38 = .ok (.ireturn, 1) := by decide +kernel
set_option maxRecDepth 20000 in
set_option maxHeartbeats 2000000 in
theorem T_Mo_keep {Z : ZT} (X : CX Z Y_Mo_keep) {hp : HP} {a1 : Int32} {p : Int32 × HP} (h : f_Mo_keep hp a1 = some p) (hR : RetI Z Y_Mo_keep .int p.1 p.2) : V Z Y_Mo_keep hp 0 [(0, .ref (gA (zG Z) 99)), (1, .int a1)] [] := by
  unfold f_Mo_keep at h
  refine R_iload_n X 1 d_Mo_keep_0 rfl ?_
  refine R_i2l X d_Mo_keep_1 ?_
  refine R_lconst (v := (0 : Int64)) X d_Mo_keep_2 rfl ?_
  refine R_lconst (v := (1 : Int64)) X d_Mo_keep_3 rfl ?_
  obtain ⟨p2, e1, h⟩ := ob h
  refine R_scall (As := [.long (a1).toInt64, .long (0 : Int64), .long (1 : Int64)]) (st := []) X (M_Mo_in e1) tw_782 cf_Mo_in rfl rfl rfl d_Mo_keep_4 ?_
  refine V_pc (pc' := 7) rfl ?_
  refine R_ifne (tgt := 13) X d_Mo_keep_7 rfl (fun c3 => ?_) (fun c3 => ?_)
  · replace h := (if_neg c3).symm.trans h
    refine R_aload_n X 0 d_Mo_keep_13 rfl ?_
    refine R_iconst (v := (0 : Int32)) X d_Mo_keep_14 rfl ?_
    refine R_bipush (v := (32 : Int32)) X d_Mo_keep_15 rfl ?_
    refine R_bipush (v := (32 : Int32)) X d_Mo_keep_17 rfl ?_
    refine R_iload_n X 1 d_Mo_keep_19 rfl ?_
    refine V_pc (pc' := 20) rfl ?_
    refine R_imul X d_Mo_keep_20 ?_
    refine R_iadd X d_Mo_keep_21 ?_
    obtain ⟨p5, e4, h⟩ := ob h
    refine R_vcallv (ci := 7) (k := 99) (As := [.int (0 : Int32), .int ((32 : Int32) + ((32 : Int32) * a1))]) (st := []) X (M_Mo_copy e4) tw_908 cf_Mo_copy (of_decide_eq_true rfl) rfl rfl rfl rfl rfl d_Mo_keep_22 ?_
    refine R_aload_n X 0 d_Mo_keep_25 rfl ?_
    refine R_getR (ci := 7) X rfl iMo_ok (of_decide_eq_true rfl) rfl 1 rfl rfl tw_672 d_Mo_keep_26 ?_
    refine R_iload_n X 1 d_Mo_keep_29 rfl ?_
    refine V_pc (pc' := 30) rfl ?_
    refine R_iconst (v := (1 : Int32)) X d_Mo_keep_30 rfl ?_
    obtain ⟨i6, h⟩ := ck h
    refine R_zast (n := 2) X (of_decide_eq_true rfl) rfl i6 d_Mo_keep_31 ?_
    refine R_aload_n X 0 d_Mo_keep_32 rfl ?_
    refine R_iconst (v := (0 : Int32)) X d_Mo_keep_33 rfl ?_
    refine R_putI (ci := 7) X rfl iMo_ok yMo_ok nMo_ok (of_decide_eq_true rfl) rfl 2 rfl rfl rfl rfl tw_673 d_Mo_keep_34 ?_
    refine R_iconst (v := (1 : Int32)) X d_Mo_keep_37 rfl ?_
    refine V_pc (pc' := 38) rfl ?_
    exact R_ret hR h d_Mo_keep_38
  · replace h := (if_pos c3).symm.trans h
    refine R_ldc (v := (-1000000001 : Int32)) X tw_873 d_Mo_keep_10 ?_
    exact R_ret hR h d_Mo_keep_12
theorem M_Mo_keep {G : GT} {hp : HP} {a1 : Int32} {p : Int32 × HP} (h : f_Mo_keep hp a1 = some p) : MI G y_Mo_keep Y_Mo_keep .int [.ref (gA G 99), .int a1] hp p.1 p.2 := MI_of rfl (fun Z hz X hR => by subst hz; exact T_Mo_keep X h hR)
theorem d_Mo_goBack_0 : decode prog_9_method_66_code 0 = .ok (.iload_n 1, 1) := by decide +kernel
theorem d_Mo_goBack_1 : decode prog_9_method_66_code 1 = .ok (.i2l, 1) := by decide +kernel
theorem d_Mo_goBack_2 : decode prog_9_method_66_code 2 = .ok (.lconst 0, 1) := by decide +kernel
theorem d_Mo_goBack_3 : decode prog_9_method_66_code 3 = .ok (.lconst 1, 1) := by decide +kernel
theorem d_Mo_goBack_4 : decode prog_9_method_66_code 4 = .ok (.invokestatic 72, 3) := by decide +kernel
theorem d_Mo_goBack_7 : decode prog_9_method_66_code 7 = .ok (.ifCond .ne (6), 3) := by decide +kernel
theorem d_Mo_goBack_10 : decode prog_9_method_66_code 10 = .ok (.ldc 189, 2) := by decide +kernel
theorem d_Mo_goBack_12 : decode prog_9_method_66_code 12 = .ok (.ireturn, 1) := by decide +kernel
theorem d_Mo_goBack_13 : decode prog_9_method_66_code 13 = .ok (.aload_n 0, 1) := by decide +kernel
theorem d_Mo_goBack_14 : decode prog_9_method_66_code 14 = .ok (.getfield 13, 3) := by decide +kernel
theorem d_Mo_goBack_17 : decode prog_9_method_66_code 17 = .ok (.iload_n 1, 1) := by decide +kernel
theorem d_Mo_goBack_18 : decode prog_9_method_66_code 18 = .ok (.baload, 1) := by decide +kernel
theorem d_Mo_goBack_19 : decode prog_9_method_66_code 19 = .ok (.ifCond .ne (6), 3) := by decide +kernel
theorem d_Mo_goBack_22 : decode prog_9_method_66_code 22 = .ok (.ldc 204, 2) := by decide +kernel
theorem d_Mo_goBack_24 : decode prog_9_method_66_code 24 = .ok (.ireturn, 1) := by decide +kernel
theorem d_Mo_goBack_25 : decode prog_9_method_66_code 25 = .ok (.aload_n 0, 1) := by decide +kernel
theorem d_Mo_goBack_26 : decode prog_9_method_66_code 26 = .ok (.bipush (32), 2) := by decide +kernel
theorem d_Mo_goBack_28 : decode prog_9_method_66_code 28 = .ok (.bipush (32), 2) := by decide +kernel
theorem d_Mo_goBack_30 : decode prog_9_method_66_code 30 = .ok (.iload_n 1, 1) := by decide +kernel
theorem d_Mo_goBack_31 : decode prog_9_method_66_code 31 = .ok (.imul, 1) := by decide +kernel
theorem d_Mo_goBack_32 : decode prog_9_method_66_code 32 = .ok (.iadd, 1) := by decide +kernel
theorem d_Mo_goBack_33 : decode prog_9_method_66_code 33 = .ok (.iconst 0, 1) := by decide +kernel
theorem d_Mo_goBack_34 : decode prog_9_method_66_code 34 = .ok (.invokevirtual 200, 3) := by decide +kernel
theorem d_Mo_goBack_37 : decode prog_9_method_66_code 37 = .ok (.aload_n 0, 1) := by decide +kernel
theorem d_Mo_goBack_38 : decode prog_9_method_66_code 38 = .ok (.iconst 0, 1) := by decide +kernel
theorem d_Mo_goBack_39 : decode prog_9_method_66_code 39 = .ok (.putfield 161, 3) := by decide +kernel
theorem d_Mo_goBack_42 : decode prog_9_method_66_code 42 = .ok (.iconst 1, 1) := by decide +kernel
theorem d_Mo_goBack_43 : decode prog_9_method_66_code 43 = .ok (.ireturn, 1) := by decide +kernel
set_option maxRecDepth 20000 in
set_option maxHeartbeats 2000000 in
theorem T_Mo_goBack {Z : ZT} (X : CX Z Y_Mo_goBack) {hp : HP} {a1 : Int32} {p : Int32 × HP} (h : f_Mo_goBack hp a1 = some p) (hR : RetI Z Y_Mo_goBack .int p.1 p.2) : V Z Y_Mo_goBack hp 0 [(0, .ref (gA (zG Z) 99)), (1, .int a1)] [] := by
  unfold f_Mo_goBack at h
  refine R_iload_n X 1 d_Mo_goBack_0 rfl ?_
  refine R_i2l X d_Mo_goBack_1 ?_
  refine R_lconst (v := (0 : Int64)) X d_Mo_goBack_2 rfl ?_
  refine R_lconst (v := (1 : Int64)) X d_Mo_goBack_3 rfl ?_
  obtain ⟨p2, e1, h⟩ := ob h
  refine R_scall (As := [.long (a1).toInt64, .long (0 : Int64), .long (1 : Int64)]) (st := []) X (M_Mo_in e1) tw_782 cf_Mo_in rfl rfl rfl d_Mo_goBack_4 ?_
  refine V_pc (pc' := 7) rfl ?_
  refine R_ifne (tgt := 13) X d_Mo_goBack_7 rfl (fun c3 => ?_) (fun c3 => ?_)
  · replace h := (if_neg c3).symm.trans h
    refine R_aload_n X 0 d_Mo_goBack_13 rfl ?_
    refine R_getR (ci := 7) X rfl iMo_ok (of_decide_eq_true rfl) rfl 1 rfl rfl tw_672 d_Mo_goBack_14 ?_
    refine R_iload_n X 1 d_Mo_goBack_17 rfl ?_
    obtain ⟨i4, h⟩ := ck h
    refine R_zald (n := 2) X (of_decide_eq_true rfl) rfl i4 d_Mo_goBack_18 ?_
    refine R_ifne (tgt := 25) X d_Mo_goBack_19 rfl (fun c5 => ?_) (fun c5 => ?_)
    · replace h := (if_neg c5).symm.trans h
      refine R_aload_n X 0 d_Mo_goBack_25 rfl ?_
      refine R_bipush (v := (32 : Int32)) X d_Mo_goBack_26 rfl ?_
      refine R_bipush (v := (32 : Int32)) X d_Mo_goBack_28 rfl ?_
      refine R_iload_n X 1 d_Mo_goBack_30 rfl ?_
      refine R_imul X d_Mo_goBack_31 ?_
      refine V_pc (pc' := 32) rfl ?_
      refine R_iadd X d_Mo_goBack_32 ?_
      refine R_iconst (v := (0 : Int32)) X d_Mo_goBack_33 rfl ?_
      obtain ⟨p7, e6, h⟩ := ob h
      refine R_vcallv (ci := 7) (k := 99) (As := [.int ((32 : Int32) + ((32 : Int32) * a1)), .int (0 : Int32)]) (st := []) X (M_Mo_copy e6) tw_908 cf_Mo_copy (of_decide_eq_true rfl) rfl rfl rfl rfl rfl d_Mo_goBack_34 ?_
      refine R_aload_n X 0 d_Mo_goBack_37 rfl ?_
      refine R_iconst (v := (0 : Int32)) X d_Mo_goBack_38 rfl ?_
      refine R_putI (ci := 7) X rfl iMo_ok yMo_ok nMo_ok (of_decide_eq_true rfl) rfl 2 rfl rfl rfl rfl tw_673 d_Mo_goBack_39 ?_
      refine V_pc (pc' := 42) rfl ?_
      refine R_iconst (v := (1 : Int32)) X d_Mo_goBack_42 rfl ?_
      exact R_ret hR h d_Mo_goBack_43
    · replace h := (if_pos c5).symm.trans h
      refine R_ldc (v := (-1000000003 : Int32)) X tw_907 d_Mo_goBack_22 ?_
      exact R_ret hR h d_Mo_goBack_24
  · replace h := (if_pos c3).symm.trans h
    refine R_ldc (v := (-1000000001 : Int32)) X tw_873 d_Mo_goBack_10 ?_
    exact R_ret hR h d_Mo_goBack_12
theorem M_Mo_goBack {G : GT} {hp : HP} {a1 : Int32} {p : Int32 × HP} (h : f_Mo_goBack hp a1 = some p) : MI G y_Mo_goBack Y_Mo_goBack .int [.ref (gA G 99), .int a1] hp p.1 p.2 := MI_of rfl (fun Z hz X hR => by subst hz; exact T_Mo_goBack X h hR)
