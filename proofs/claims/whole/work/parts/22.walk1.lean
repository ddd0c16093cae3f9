/-! Printed by wip/whole/walk.py. -/
theorem d_Br_isDoable_0 : decode prog_2_method_12_code 0 = .ok (.iload_n 2, 1) := by decide +kernel
theorem d_Br_isDoable_1 : decode prog_2_method_12_code 1 = .ok (.aload_n 0, 1) := by decide +kernel
theorem d_Br_isDoable_2 : decode prog_2_method_12_code 2 = .ok (.iload_n 1, 1) := by decide +kernel
theorem d_Br_isDoable_3 : decode prog_2_method_12_code 3 = .ok (.invokevirtual 41, 3) := by decide +kernel
theorem d_Br_isDoable_6 : decode prog_2_method_12_code 6 = .ok (.if_icmp .lt (7), 3) := by decide +kernel
theorem d_Br_isDoable_9 : decode prog_2_method_12_code 9 = .ok (.iconst 1, 1) := by decide +kernel
theorem d_Br_isDoable_10 : decode prog_2_method_12_code 10 = .ok (.goto (4), 3) := by decide +kernel
theorem d_Br_isDoable_13 : decode prog_2_method_12_code 13 = .ok (.iconst 0, 1) := by decide +kernel
theorem d_Br_isDoable_14 : decode prog_2_method_12_code 14 = .ok (.ireturn, 1) := by decide +kernel
set_option maxRecDepth 20000 in
set_option maxHeartbeats 2000000 in
theorem T_Br_isDoable {Z : ZT} (X : CX Z Y_Br_isDoable) {hp : HP} {q0 : Nat} {a1 : Int32} {a2 : Int32} (hq0 : isB q0 = true) {p : Int32 × HP} (h : f_Br_isDoable hp q0 a1 a2 = some p) (hR : RetI Z Y_Br_isDoable .boolean p.1 p.2) : V Z Y_Br_isDoable hp 0 [(0, .ref (gA (zG Z) q0)), (1, .int a1), (2, .int a2)] [] := by
  unfold f_Br_isDoable at h
  refine R_iload_n X 2 d_Br_isDoable_0 rfl ?_
  refine R_aload_n X 0 d_Br_isDoable_1 rfl ?_
  refine R_iload_n X 1 d_Br_isDoable_2 rfl ?_
  obtain ⟨p2, e1, h⟩ := ob h
  refine R_vcall (ci := 0) (k := q0) (As := [.int a1]) (st := [.int a2]) X (M_Br_needOf hq0 e1) tw_445 cf_Br_needOf (B_all _ hq0).1.1 (B_all _ hq0).1.2 rfl rfl rfl rfl d_Br_isDoable_3 ?_
  refine R_icmp_lt (tgt := 13) X d_Br_isDoable_6 rfl (fun c3 => ?_) (fun c3 => ?_)
  · replace h := (if_pos c3).symm.trans h
    refine R_iconst (v := (0 : Int32)) X d_Br_isDoable_13 rfl ?_
    exact R_retc hR (by decide) h d_Br_isDoable_14
  · replace h := (if_neg c3).symm.trans h
    refine R_iconst (v := (1 : Int32)) X d_Br_isDoable_9 rfl ?_
    refine R_goto (tgt := 14) X d_Br_isDoable_10 rfl ?_
    exact R_retc hR (by decide) h d_Br_isDoable_14
theorem M_Br_isDoable {G : GT} {hp : HP} {q0 : Nat} {a1 : Int32} {a2 : Int32} (hq0 : isB q0 = true) {p : Int32 × HP} (h : f_Br_isDoable hp q0 a1 a2 = some p) : MI G y_Br_isDoable Y_Br_isDoable .boolean [.ref (gA G q0), .int a1, .int a2] hp p.1 p.2 := MI_of rfl (fun Z hz X hR => by subst hz; exact T_Br_isDoable X hq0 h hR)
theorem d_BA_can_0 : decode prog_1_method_9_code 0 = .ok (.aload_n 0, 1) := by decide +kernel
theorem d_BA_can_1 : decode prog_1_method_9_code 1 = .ok (.getfield 59, 3) := by decide +kernel
theorem d_BA_can_4 : decode prog_1_method_9_code 4 = .ok (.iload_n 1, 1) := by decide +kernel
theorem d_BA_can_5 : decode prog_1_method_9_code 5 = .ok (.invokevirtual 145, 3) := by decide +kernel
theorem d_BA_can_8 : decode prog_1_method_9_code 8 = .ok (.ifCond .eq (14), 3) := by decide +kernel
theorem d_BA_can_11 : decode prog_1_method_9_code 11 = .ok (.aload_n 0, 1) := by decide +kernel
theorem d_BA_can_12 : decode prog_1_method_9_code 12 = .ok (.getfield 59, 3) := by decide +kernel
theorem d_BA_can_15 : decode prog_1_method_9_code 15 = .ok (.iload_n 2, 1) := by decide +kernel
theorem d_BA_can_16 : decode prog_1_method_9_code 16 = .ok (.invokevirtual 173, 3) := by decide +kernel
theorem d_BA_can_19 : decode prog_1_method_9_code 19 = .ok (.ifCond .ne (6), 3) := by decide +kernel
theorem d_BA_can_22 : decode prog_1_method_9_code 22 = .ok (.ldc 144, 2) := by decide +kernel
theorem d_BA_can_24 : decode prog_1_method_9_code 24 = .ok (.ireturn, 1) := by decide +kernel
theorem d_BA_can_25 : decode prog_1_method_9_code 25 = .ok (.aload_n 0, 1) := by decide +kernel
theorem d_BA_can_26 : decode prog_1_method_9_code 26 = .ok (.getfield 59, 3) := by decide +kernel
theorem d_BA_can_29 : decode prog_1_method_9_code 29 = .ok (.iload_n 2, 1) := by decide +kernel
theorem d_BA_can_30 : decode prog_1_method_9_code 30 = .ok (.aload_n 0, 1) := by decide +kernel
theorem d_BA_can_31 : decode prog_1_method_9_code 31 = .ok (.getfield 19, 3) := by decide +kernel
theorem d_BA_can_34 : decode prog_1_method_9_code 34 = .ok (.getfield 148, 3) := by decide +kernel
theorem d_BA_can_37 : decode prog_1_method_9_code 37 = .ok (.iload_n 1, 1) := by decide +kernel
theorem d_BA_can_38 : decode prog_1_method_9_code 38 = .ok (.iaload, 1) := by decide +kernel
theorem d_BA_can_39 : decode prog_1_method_9_code 39 = .ok (.invokevirtual 176, 3) := by decide +kernel
theorem d_BA_can_42 : decode prog_1_method_9_code 42 = .ok (.ifCond .eq (7), 3) := by decide +kernel
theorem d_BA_can_45 : decode prog_1_method_9_code 45 = .ok (.iconst 1, 1) := by decide +kernel
theorem d_BA_can_46 : decode prog_1_method_9_code 46 = .ok (.goto (4), 3) := by decide +kernel
theorem d_BA_can_49 : decode prog_1_method_9_code 49 = .ok (.iconst 0, 1) := by decide +kernel
theorem d_BA_can_50 : decode prog_1_method_9_code 50 = .ok (.ireturn, 1) := by decide +kernel
set_option maxRecDepth 20000 in
set_option maxHeartbeats 2000000 in
theorem T_BA_can {Z : ZT} (X : CX Z Y_BA_can) {hp : HP} {a1 : Int32} {a2 : Int32} {p : Int32 × HP} (h : f_BA_can hp a1 a2 = some p) (hR : RetI Z Y_BA_can .int p.1 p.2) : V Z Y_BA_can hp 0 [(0, .ref (gA (zG Z) 0)), (1, .int a1), (2, .int a2)] [] := by
  unfold f_BA_can at h
  refine R_aload_n X 0 d_BA_can_0 rfl ?_
  refine R_getD (ci := 6) X rfl iBA_ok (of_decide_eq_true rfl) rfl 8 rfl rfl tw_242 d_BA_can_1 ?_
  obtain ⟨b1, h⟩ := ck h
  refine R_iload_n X 1 d_BA_can_4 rfl ?_
  obtain ⟨p3, e2, h⟩ := ob h
  refine R_vcall (ci := 0) (k := (hp 0 8).toNatClampNeg) (As := [.int a1]) (st := []) X (M_Br_hasCustomer b1 e2) tw_419 cf_Br_hasCustomer (B_all _ b1).1.1 (B_all _ b1).1.2 rfl rfl rfl rfl d_BA_can_5 ?_
  refine R_ifeq (tgt := 22) X d_BA_can_8 rfl (fun c4 => ?_) (fun c4 => ?_)
  · replace h := (if_pos c4).symm.trans h
    refine R_ldc (v := (-1000000001 : Int32)) X tw_414 d_BA_can_22 ?_
    exact R_ret hR h d_BA_can_24
  · replace h := (if_neg c4).symm.trans h
    refine R_aload_n X 0 d_BA_can_11 rfl ?_
    refine R_getD (ci := 6) X rfl iBA_ok (of_decide_eq_true rfl) rfl 8 rfl rfl tw_242 d_BA_can_12 ?_
    obtain ⟨b5, h⟩ := ck h
    refine R_iload_n X 2 d_BA_can_15 rfl ?_
    obtain ⟨p7, e6, h⟩ := ob h
    refine R_vcall (ci := 0) (k := (p3.2 0 8).toNatClampNeg) (As := [.int a2]) (st := []) X (M_Br_hasTask b5 e6) tw_437 cf_Br_hasTask (B_all _ b5).1.1 (B_all _ b5).1.2 rfl rfl rfl rfl d_BA_can_16 ?_
    refine R_ifne (tgt := 25) X d_BA_can_19 rfl (fun c8 => ?_) (fun c8 => ?_)
    · replace h := (if_neg c8).symm.trans h
      refine R_aload_n X 0 d_BA_can_25 rfl ?_
      refine R_getD (ci := 6) X rfl iBA_ok (of_decide_eq_true rfl) rfl 8 rfl rfl tw_242 d_BA_can_26 ?_
      obtain ⟨b9, h⟩ := ck h
      refine R_iload_n X 2 d_BA_can_29 rfl ?_
      refine R_aload_n X 0 d_BA_can_30 rfl ?_
      refine R_getR (ci := 6) X rfl iBA_ok (of_decide_eq_true rfl) rfl 1 rfl rfl tw_235 d_BA_can_31 ?_
      refine V_pc (pc' := 34) rfl ?_
      refine R_getR (ci := 5) X rfl iSt_ok (of_decide_eq_true rfl) rfl 0 rfl rfl tw_98 d_BA_can_34 ?_
      refine R_iload_n X 1 d_BA_can_37 rfl ?_
      obtain ⟨i10, h⟩ := ck h
      refine R_iald (n := 5) X (of_decide_eq_true rfl) rfl i10 d_BA_can_38 ?_
      obtain ⟨p12, e11, h⟩ := ob h
      refine R_vcall (ci := 0) (k := (p7.2 0 8).toNatClampNeg) (As := [.int a2, .int (p7.2 4 (a1).toNatClampNeg)]) (st := []) X (M_Br_isDoable b9 e11) tw_441 cf_Br_isDoable (B_all _ b9).1.1 (B_all _ b9).1.2 rfl rfl rfl rfl d_BA_can_39 ?_
      refine R_ifeq (tgt := 49) X d_BA_can_42 rfl (fun c13 => ?_) (fun c13 => ?_)
      · replace h := (if_pos c13).symm.trans h
        refine R_iconst (v := (0 : Int32)) X d_BA_can_49 rfl ?_
        exact R_ret hR h d_BA_can_50
      · replace h := (if_neg c13).symm.trans h
        refine R_iconst (v := (1 : Int32)) X d_BA_can_45 rfl ?_
        refine R_goto (tgt := 50) X d_BA_can_46 rfl ?_
        exact R_ret hR h d_BA_can_50
    · replace h := (if_pos c8).symm.trans h
      refine R_ldc (v := (-1000000001 : Int32)) X tw_414 d_BA_can_22 ?_
      exact R_ret hR h d_BA_can_24
theorem M_BA_can {G : GT} {hp : HP} {a1 : Int32} {a2 : Int32} {p : Int32 × HP} (h : f_BA_can hp a1 a2 = some p) : MI G y_BA_can Y_BA_can .int [.ref (gA G 0), .int a1, .int a2] hp p.1 p.2 := MI_of rfl (fun Z hz X hR => by subst hz; exact T_BA_can X h hR)
theorem d_St_copyFrom_0 : decode prog_7_method_3_code 0 = .ok (.aload_n 1, 1) := by decide +kernel
theorem d_St_copyFrom_1 : decode prog_7_method_3_code 1 = .ok (.getfield 9, 3) := by decide +kernel
theorem d_St_copyFrom_4 : decode prog_7_method_3_code 4 = .ok (.iconst 0, 1) := by decide +kernel
theorem d_St_copyFrom_5 : decode prog_7_method_3_code 5 = .ok (.aload_n 0, 1) := by decide +kernel
theorem d_St_copyFrom_6 : decode prog_7_method_3_code 6 = .ok (.getfield 9, 3) := by decide +kernel
theorem d_St_copyFrom_9 : decode prog_7_method_3_code 9 = .ok (.iconst 0, 1) := by decide +kernel
theorem d_St_copyFrom_10 : decode prog_7_method_3_code 10 = .ok (.iconst 5, 1) := by decide +kernel
theorem d_St_copyFrom_11 : decode prog_7_method_3_code 11 = .ok (.invokestatic 30, 3) := by decide +kernel
theorem d_St_copyFrom_14 : decode prog_7_method_3_code 14 = .ok (.aload_n 1, 1) := by decide +kernel
theorem d_St_copyFrom_15 : decode prog_7_method_3_code 15 = .ok (.getfield 15, 3) := by decide +kernel
theorem d_St_copyFrom_18 : decode prog_7_method_3_code 18 = .ok (.iconst 0, 1) := by decide +kernel
theorem d_St_copyFrom_19 : decode prog_7_method_3_code 19 = .ok (.aload_n 0, 1) := by decide +kernel
theorem d_St_copyFrom_20 : decode prog_7_method_3_code 20 = .ok (.getfield 15, 3) := by decide +kernel
theorem d_St_copyFrom_23 : decode prog_7_method_3_code 23 = .ok (.iconst 0, 1) := by decide +kernel
theorem d_St_copyFrom_24 : decode prog_7_method_3_code 24 = .ok (.aload_n 0, 1) := by decide +kernel
theorem d_St_copyFrom_25 : decode prog_7_method_3_code 25 = .ok (.getfield 15, 3) := by decide +kernel
theorem d_St_copyFrom_28 : decode prog_7_method_3_code 28 = .ok (.arraylength, 1) := by decide +kernel
theorem d_St_copyFrom_29 : decode prog_7_method_3_code 29 = .ok (.invokestatic 30, 3) := by decide +kernel
theorem d_St_copyFrom_32 : decode prog_7_method_3_code 32 = .ok (.aload_n 0, 1) := by decide +kernel
theorem d_St_copyFrom_33 : decode prog_7_method_3_code 33 = .ok (.aload_n 1, 1) := by decide +kernel
theorem d_St_copyFrom_34 : decode prog_7_method_3_code 34 = .ok (.getfield 27, 3) := by decide +kernel
theorem d_St_copyFrom_37 : decode prog_7_method_3_code 37 = .ok (.putfield 27, 3) := by decide +kernel
theorem d_St_copyFrom_40 : decode prog_7_method_3_code 40 = .ok (.return_, 1) := by decide +kernel
set_option maxRecDepth 20000 in
set_option maxHeartbeats 2000000 in
theorem T_St_copyFrom {Z : ZT} (X : CX Z Y_St_copyFrom) {hp : HP} {q0 : Nat} {q1 : Nat} (hq0 : isS q0 = true) (hq1 : isS q1 = true) {p : Int32 × HP} (h : f_St_copyFrom hp q0 q1 = some p) (hR : RetV Z Y_St_copyFrom p.2) : V Z Y_St_copyFrom hp 0 [(0, .ref (gA (zG Z) q0)), (1, .ref (gA (zG Z) q1))] [] := by
  unfold f_St_copyFrom at h
  refine R_aload_n X 1 d_St_copyFrom_0 rfl ?_
  refine R_getR (ci := 5) X rfl iSt_ok (S_all _ hq1).1.1 (S_all _ hq1).1.2 0 rfl rfl tw_97 d_St_copyFrom_1 ?_
  refine R_iconst (v := (0 : Int32)) X d_St_copyFrom_4 rfl ?_
  refine R_aload_n X 0 d_St_copyFrom_5 rfl ?_
  refine R_getR (ci := 5) X rfl iSt_ok (S_all _ hq0).1.1 (S_all _ hq0).1.2 0 rfl rfl tw_97 d_St_copyFrom_6 ?_
  refine V_pc (pc' := 9) rfl ?_
  refine R_iconst (v := (0 : Int32)) X d_St_copyFrom_9 rfl ?_
  refine R_iconst (v := (5 : Int32)) X d_St_copyFrom_10 rfl ?_
  refine R_copy (n0 := 5) (n1 := 5) X tw_465 tw_467 tw_466 tw_57 (S_all _ hq1).2.1.1 (S_all _ hq1).2.1.2 (S_all _ hq0).2.1.1 (S_all _ hq0).2.1.2 rfl rfl d_St_copyFrom_11 ?_
  refine R_aload_n X 1 d_St_copyFrom_14 rfl ?_
  refine R_getR (ci := 5) X rfl iSt_ok (S_all _ hq1).1.1 (S_all _ hq1).1.2 1 rfl rfl tw_99 d_St_copyFrom_15 ?_
  refine R_iconst (v := (0 : Int32)) X d_St_copyFrom_18 rfl ?_
  refine V_pc (pc' := 19) rfl ?_
  refine R_aload_n X 0 d_St_copyFrom_19 rfl ?_
  refine R_getR (ci := 5) X rfl iSt_ok (S_all _ hq0).1.1 (S_all _ hq0).1.2 1 rfl rfl tw_99 d_St_copyFrom_20 ?_
  refine R_iconst (v := (0 : Int32)) X d_St_copyFrom_23 rfl ?_
  refine R_aload_n X 0 d_St_copyFrom_24 rfl ?_
  refine R_getR (ci := 5) X rfl iSt_ok (S_all _ hq0).1.1 (S_all _ hq0).1.2 1 rfl rfl tw_99 d_St_copyFrom_25 ?_
  refine R_alen (n := 25) X (S_all _ hq0).2.2.1 (S_all _ hq0).2.2.2 d_St_copyFrom_28 ?_
  refine V_pc (pc' := 29) rfl ?_
  refine R_copy (n0 := 25) (n1 := 25) X tw_465 tw_467 tw_466 tw_57 (S_all _ hq1).2.2.1 (S_all _ hq1).2.2.2 (S_all _ hq0).2.2.1 (S_all _ hq0).2.2.2 rfl rfl d_St_copyFrom_29 ?_
  refine R_aload_n X 0 d_St_copyFrom_32 rfl ?_
  refine R_aload_n X 1 d_St_copyFrom_33 rfl ?_
  refine R_getI (ci := 5) X rfl iSt_ok (S_all _ hq1).1.1 (S_all _ hq1).1.2 2 rfl rfl tw_100 d_St_copyFrom_34 ?_
  refine R_putI (ci := 5) X rfl iSt_ok ySt_ok nSt_ok (S_all _ hq0).1.1 (S_all _ hq0).1.2 2 rfl rfl rfl rfl tw_100 d_St_copyFrom_37 ?_
  exact R_retv hR h d_St_copyFrom_40
theorem M_St_copyFrom {G : GT} {hp : HP} {q0 : Nat} {q1 : Nat} (hq0 : isS q0 = true) (hq1 : isS q1 = true) {p : Int32 × HP} (h : f_St_copyFrom hp q0 q1 = some p) : MV G y_St_copyFrom Y_St_copyFrom [.ref (gA G q0), .ref (gA G q1)] hp p.2 := MV_of rfl (fun Z hz X hR => by subst hz; exact T_St_copyFrom X hq0 hq1 h hR)
theorem d_Pa_push_0 : decode prog_3_method_3_code 0 = .ok (.aload_n 0, 1) := by decide +kernel
theorem d_Pa_push_1 : decode prog_3_method_3_code 1 = .ok (.getfield 11, 3) := by decide +kernel
theorem d_Pa_push_4 : decode prog_3_method_3_code 4 = .ok (.aload_n 0, 1) := by decide +kernel
theorem d_Pa_push_5 : decode prog_3_method_3_code 5 = .ok (.getfield 22, 3) := by decide +kernel
theorem d_Pa_push_8 : decode prog_3_method_3_code 8 = .ok (.aaload, 1) := by decide +kernel
theorem d_Pa_push_9 : decode prog_3_method_3_code 9 = .ok (.aload_n 1, 1) := by decide +kernel
theorem d_Pa_push_10 : decode prog_3_method_3_code 10 = .ok (.invokevirtual 25, 3) := by decide +kernel
theorem d_Pa_push_13 : decode prog_3_method_3_code 13 = .ok (.aload_n 0, 1) := by decide +kernel
theorem d_Pa_push_14 : decode prog_3_method_3_code 14 = .ok (.aload_n 0, 1) := by decide +kernel
theorem d_Pa_push_15 : decode prog_3_method_3_code 15 = .ok (.getfield 22, 3) := by decide +kernel
theorem d_Pa_push_18 : decode prog_3_method_3_code 18 = .ok (.iconst 1, 1) := by decide +kernel
theorem d_Pa_push_19 : decode prog_3_method_3_code 19 = .ok (.iadd, 1) := by decide +kernel
theorem d_Pa_push_20 : decode prog_3_method_3_code 20 = .ok (.bipush (20), 2) := by decide +kernel
theorem d_Pa_push_22 : decode prog_3_method_3_code 22 = .ok (.irem, 1) := by decide +kernel
theorem d_Pa_push_23 : decode prog_3_method_3_code 23 = .ok (.putfield 22, 3) := by decide +kernel
theorem d_Pa_push_26 : decode prog_3_method_3_code 26 = .ok (.aload_n 0, 1) := by decide +kernel
theorem d_Pa_push_27 : decode prog_3_method_3_code 27 = .ok (.aload_n 0, 1) := by decide +kernel
theorem d_Pa_push_28 : decode prog_3_method_3_code 28 = .ok (.getfield 18, 3) := by decide +kernel
theorem d_Pa_push_31 : decode prog_3_method_3_code 31 = .ok (.iconst 1, 1) := by decide +kernel
theorem d_Pa_push_32 : decode prog_3_method_3_code 32 = .ok (.iadd, 1) := by decide +kernel
theorem d_Pa_push_33 : decode prog_3_method_3_code 33 = .ok (.bipush (20), 2) := by decide +kernel
theorem d_Pa_push_35 : decode prog_3_method_3_code 35 = .ok (.invokestatic 29, 3) := by decide +kernel
theorem d_Pa_push_38 : decode prog_3_method_3_code 38 = .ok (.putfield 18, 3) := by decide +kernel
theorem d_Pa_push_41 : decode prog_3_method_3_code 41 = .ok (.return_, 1) := by decide +kernel
set_option maxRecDepth 20000 in
set_option maxHeartbeats 2000000 in
theorem T_Pa_push {Z : ZT} (X : CX Z Y_Pa_push) {hp : HP} {q1 : Nat} (hq1 : isS q1 = true) {p : Int32 × HP} (h : f_Pa_push hp q1 = some p) (hR : RetV Z Y_Pa_push p.2) : V Z Y_Pa_push hp 0 [(0, .ref (gA (zG Z) 6)), (1, .ref (gA (zG Z) q1))] [] := by
  unfold f_Pa_push at h
  refine R_aload_n X 0 d_Pa_push_0 rfl ?_
  refine R_getR (ci := 1) X rfl iPa_ok (of_decide_eq_true rfl) rfl 0 rfl rfl tw_118 d_Pa_push_1 ?_
  refine R_aload_n X 0 d_Pa_push_4 rfl ?_
  refine R_getI (ci := 1) X rfl iPa_ok (of_decide_eq_true rfl) rfl 1 rfl rfl tw_119 d_Pa_push_5 ?_
  obtain ⟨i1, h⟩ := ck h
  refine R_aald (n := 20) X (of_decide_eq_true rfl) rfl i1 d_Pa_push_8 ?_
  obtain ⟨b2, h⟩ := ck h
  refine V_pc (pc' := 9) rfl ?_
  refine R_aload_n X 1 d_Pa_push_9 rfl ?_
  obtain ⟨p4, e3, h⟩ := ob h
  refine R_vcallv (ci := 5) (k := (7 + 1 + 3 * ((hp 6 1)).toNatClampNeg)) (As := [.ref (gA (zG Z) q1)]) (st := []) X (M_St_copyFrom b2 hq1 e3) tw_461 cf_St_copyFrom (S_all _ b2).1.1 (S_all _ b2).1.2 rfl rfl rfl rfl d_Pa_push_10 ?_
  refine R_aload_n X 0 d_Pa_push_13 rfl ?_
  refine R_aload_n X 0 d_Pa_push_14 rfl ?_
  refine R_getI (ci := 1) X rfl iPa_ok (of_decide_eq_true rfl) rfl 1 rfl rfl tw_119 d_Pa_push_15 ?_
  refine R_iconst (v := (1 : Int32)) X d_Pa_push_18 rfl ?_
  refine V_pc (pc' := 19) rfl ?_
  refine R_iadd X d_Pa_push_19 ?_
  refine R_bipush (v := (20 : Int32)) X d_Pa_push_20 rfl ?_
  refine R_irem X d_Pa_push_22 (by decide) ?_
  refine R_putI (ci := 1) X rfl iPa_ok yPa_ok nPa_ok (of_decide_eq_true rfl) rfl 1 rfl rfl rfl rfl tw_119 d_Pa_push_23 ?_
  refine R_aload_n X 0 d_Pa_push_26 rfl ?_
  refine R_aload_n X 0 d_Pa_push_27 rfl ?_
  refine V_pc (pc' := 28) rfl ?_
  refine R_getI (ci := 1) X rfl iPa_ok (of_decide_eq_true rfl) rfl 2 rfl rfl tw_120 d_Pa_push_28 ?_
  refine R_iconst (v := (1 : Int32)) X d_Pa_push_31 rfl ?_
  refine R_iadd X d_Pa_push_32 ?_
  refine R_bipush (v := (20 : Int32)) X d_Pa_push_33 rfl ?_
  refine R_mmin X tw_468 tw_395 tw_56 tw_396 rfl d_Pa_push_35 ?_
  refine R_putI (ci := 1) X rfl iPa_ok yPa_ok nPa_ok (of_decide_eq_true rfl) rfl 2 rfl rfl rfl rfl tw_120 d_Pa_push_38 ?_
  refine V_pc (pc' := 41) rfl ?_
  exact R_retv hR h d_Pa_push_41
theorem M_Pa_push {G : GT} {hp : HP} {q1 : Nat} (hq1 : isS q1 = true) {p : Int32 × HP} (h : f_Pa_push hp q1 = some p) : MV G y_Pa_push Y_Pa_push [.ref (gA G 6), .ref (gA G q1)] hp p.2 := MV_of rfl (fun Z hz X hR => by subst hz; exact T_Pa_push X hq1 h hR)
theorem d_Br_afterMonth_0 : decode prog_2_method_14_code 0 = .ok (.iload_n 2, 1) := by decide +kernel
theorem d_Br_afterMonth_1 : decode prog_2_method_14_code 1 = .ok (.aload_n 0, 1) := by decide +kernel
theorem d_Br_afterMonth_2 : decode prog_2_method_14_code 2 = .ok (.getfield 18, 3) := by decide +kernel
theorem d_Br_afterMonth_5 : decode prog_2_method_14_code 5 = .ok (.iload_n 1, 1) := by decide +kernel
theorem d_Br_afterMonth_6 : decode prog_2_method_14_code 6 = .ok (.iaload, 1) := by decide +kernel
theorem d_Br_afterMonth_7 : decode prog_2_method_14_code 7 = .ok (.iadd, 1) := by decide +kernel
theorem d_Br_afterMonth_8 : decode prog_2_method_14_code 8 = .ok (.invokestatic 52, 3) := by decide +kernel
theorem d_Br_afterMonth_11 : decode prog_2_method_14_code 11 = .ok (.aload_n 0, 1) := by decide +kernel
theorem d_Br_afterMonth_12 : decode prog_2_method_14_code 12 = .ok (.getfield 21, 3) := by decide +kernel
theorem d_Br_afterMonth_15 : decode prog_2_method_14_code 15 = .ok (.iload_n 1, 1) := by decide +kernel
theorem d_Br_afterMonth_16 : decode prog_2_method_14_code 16 = .ok (.iaload, 1) := by decide +kernel
theorem d_Br_afterMonth_17 : decode prog_2_method_14_code 17 = .ok (.isub, 1) := by decide +kernel
theorem d_Br_afterMonth_18 : decode prog_2_method_14_code 18 = .ok (.invokestatic 52, 3) := by decide +kernel
theorem d_Br_afterMonth_21 : decode prog_2_method_14_code 21 = .ok (.ireturn, 1) := by decide +kernel
set_option maxRecDepth 20000 in
set_option maxHeartbeats 2000000 in
theorem T_Br_afterMonth {Z : ZT} (X : CX Z Y_Br_afterMonth) {hp : HP} {q0 : Nat} {a1 : Int32} {a2 : Int32} (hq0 : isB q0 = true) {p : Int32 × HP} (h : f_Br_afterMonth hp q0 a1 a2 = some p) (hR : RetI Z Y_Br_afterMonth .int p.1 p.2) : V Z Y_Br_afterMonth hp 0 [(0, .ref (gA (zG Z) q0)), (1, .int a1), (2, .int a2)] [] := by
  unfold f_Br_afterMonth at h
  refine R_iload_n X 2 d_Br_afterMonth_0 rfl ?_
  refine R_aload_n X 0 d_Br_afterMonth_1 rfl ?_
  refine R_getR (ci := 0) X rfl iBr_ok (B_all _ hq0).1.1 (B_all _ hq0).1.2 2 rfl rfl tw_203 d_Br_afterMonth_2 ?_
  refine R_iload_n X 1 d_Br_afterMonth_5 rfl ?_
  obtain ⟨i1, h⟩ := ck h
  refine R_iald (n := 5) X (B_all _ hq0).2.2.2.1.1 (B_all _ hq0).2.2.2.1.2 i1 d_Br_afterMonth_6 ?_
  refine V_pc (pc' := 7) rfl ?_
  refine R_iadd X d_Br_afterMonth_7 ?_
  obtain ⟨p3, e2, h⟩ := ob h
  refine R_ncall (As := [.int (a2 + (hp (q0 + 3) (a1).toNatClampNeg))]) (st := []) (host := "BodyAccounts") X (M_BA_bounded e2) (by decide +kernel) cf_BA_bounded rfl rfl rfl d_Br_afterMonth_8 ?_
  refine R_aload_n X 0 d_Br_afterMonth_11 rfl ?_
  refine R_getR (ci := 0) X rfl iBr_ok (B_all _ hq0).1.1 (B_all _ hq0).1.2 3 rfl rfl tw_205 d_Br_afterMonth_12 ?_
  refine R_iload_n X 1 d_Br_afterMonth_15 rfl ?_
  refine R_iald (n := 5) X (B_all _ hq0).2.2.2.2.1.1 (B_all _ hq0).2.2.2.2.1.2 i1 d_Br_afterMonth_16 ?_
  refine V_pc (pc' := 17) rfl ?_
  refine R_isub X d_Br_afterMonth_17 ?_
  obtain ⟨p5, e4, h⟩ := ob h
  refine R_ncall (As := [.int (p3.1 - (p3.2 (q0 + 4) (a1).toNatClampNeg))]) (st := []) (host := "BodyAccounts") X (M_BA_bounded e4) (by decide +kernel) cf_BA_bounded rfl rfl rfl d_Br_afterMonth_18 ?_
  exact R_ret hR h d_Br_afterMonth_21
theorem M_Br_afterMonth {G : GT} {hp : HP} {q0 : Nat} {a1 : Int32} {a2 : Int32} (hq0 : isB q0 = true) {p : Int32 × HP} (h : f_Br_afterMonth hp q0 a1 a2 = some p) : MI G y_Br_afterMonth Y_Br_afterMonth .int [.ref (gA G q0), .int a1, .int a2] hp p.1 p.2 := MI_of rfl (fun Z hz X hR => by subst hz; exact T_Br_afterMonth X hq0 h hR)
theorem d_St_passMonth_0 : decode prog_7_method_5_code 0 = .ok (.iconst 0, 1) := by decide +kernel
theorem d_St_passMonth_1 : decode prog_7_method_5_code 1 = .ok (.istore_n 2, 1) := by decide +kernel
theorem d_St_passMonth_2 : decode prog_7_method_5_code 2 = .ok (.iload_n 2, 1) := by decide +kernel
theorem d_St_passMonth_3 : decode prog_7_method_5_code 3 = .ok (.aload_n 1, 1) := by decide +kernel
theorem d_St_passMonth_4 : decode prog_7_method_5_code 4 = .ok (.getfield 18, 3) := by decide +kernel
theorem d_St_passMonth_7 : decode prog_7_method_5_code 7 = .ok (.if_icmp .ge (26), 3) := by decide +kernel
theorem d_St_passMonth_10 : decode prog_7_method_5_code 10 = .ok (.aload_n 0, 1) := by decide +kernel
theorem d_St_passMonth_11 : decode prog_7_method_5_code 11 = .ok (.getfield 9, 3) := by decide +kernel
theorem d_St_passMonth_14 : decode prog_7_method_5_code 14 = .ok (.iload_n 2, 1) := by decide +kernel
theorem d_St_passMonth_15 : decode prog_7_method_5_code 15 = .ok (.aload_n 1, 1) := by decide +kernel
theorem d_St_passMonth_16 : decode prog_7_method_5_code 16 = .ok (.iload_n 2, 1) := by decide +kernel
theorem d_St_passMonth_17 : decode prog_7_method_5_code 17 = .ok (.aload_n 0, 1) := by decide +kernel
theorem d_St_passMonth_18 : decode prog_7_method_5_code 18 = .ok (.getfield 9, 3) := by decide +kernel
theorem d_St_passMonth_21 : decode prog_7_method_5_code 21 = .ok (.iload_n 2, 1) := by decide +kernel
theorem d_St_passMonth_22 : decode prog_7_method_5_code 22 = .ok (.iaload, 1) := by decide +kernel
theorem d_St_passMonth_23 : decode prog_7_method_5_code 23 = .ok (.invokevirtual 40, 3) := by decide +kernel
theorem d_St_passMonth_26 : decode prog_7_method_5_code 26 = .ok (.iastore, 1) := by decide +kernel
theorem d_St_passMonth_27 : decode prog_7_method_5_code 27 = .ok (.iinc 2 (1), 3) := by decide +kernel
theorem d_St_passMonth_30 : decode prog_7_method_5_code 30 = .ok (.goto (-28), 3) := by decide +kernel
theorem d_St_passMonth_33 : decode prog_7_method_5_code 33 = .ok (.aload_n 0, 1) := by decide +kernel
theorem d_St_passMonth_34 : decode prog_7_method_5_code 34 = .ok (.dup, 1) := by decide +kernel
theorem d_St_passMonth_35 : decode prog_7_method_5_code 35 = .ok (.getfield 27, 3) := by decide +kernel
theorem d_St_passMonth_38 : decode prog_7_method_5_code 38 = .ok (.iconst 1, 1) := by decide +kernel
theorem d_St_passMonth_39 : decode prog_7_method_5_code 39 = .ok (.iadd, 1) := by decide +kernel
theorem d_St_passMonth_40 : decode prog_7_method_5_code 40 = .ok (.putfield 27, 3) := by decide +kernel
theorem d_St_passMonth_43 : decode prog_7_method_5_code 43 = .ok (.return_, 1) := by decide +kernel
set_option maxRecDepth 20000 in
set_option maxHeartbeats 2000000 in
theorem T_St_passMonth_L2 {Z : ZT} (X : CX Z Y_St_passMonth) {q0 : Nat} {q1 : Nat} (hq0 : isS q0 = true) (hq1 : isB q1 = true) {p : Int32 × HP} (hR : RetV Z Y_St_passMonth p.2) {K : HP → Option (Int32 × HP)} (hK : ∀ (hp : HP), K hp = some p → V Z Y_St_passMonth hp 33 [(0, .ref (gA (zG Z) q0))] []) : ∀ (n : Nat) (hp : HP) (x2 : Int32), f_St_passMonth_L2 q0 q1 K n hp x2 = some p → V Z Y_St_passMonth hp 2 [(0, .ref (gA (zG Z) q0)), (1, .ref (gA (zG Z) q1)), (2, .int x2)] [] := by
  intro n
  induction n with
  | zero =>
    intro hp x2 h
    cases h
  | succ n ih =>
    intro hp x2 h
    replace h : f_St_passMonth_L2 q0 q1 K (n + 1) hp x2 = some p := h
    unfold f_St_passMonth_L2 at h
    refine R_iload_n X 2 d_St_passMonth_2 rfl ?_
    refine R_aload_n X 1 d_St_passMonth_3 rfl ?_
    refine R_getI (ci := 0) X rfl iBr_ok (B_all _ hq1).1.1 (B_all _ hq1).1.2 6 rfl rfl tw_211 d_St_passMonth_4 ?_
    refine R_icmp_ge (tgt := 33) X d_St_passMonth_7 rfl (fun c1 => ?_) (fun c1 => ?_)
    · replace h := (if_pos c1).symm.trans h
      refine V_pc (pc' := 33) rfl (R_loc (L' := [(0, .ref (gA (zG Z) q0))]) [0] rfl ?_)
      exact hK hp h
    · replace h := (if_neg c1).symm.trans h
      refine R_aload_n X 0 d_St_passMonth_10 rfl ?_
      refine R_getR (ci := 5) X rfl iSt_ok (S_all _ hq0).1.1 (S_all _ hq0).1.2 0 rfl rfl tw_97 d_St_passMonth_11 ?_
      refine R_iload_n X 2 d_St_passMonth_14 rfl ?_
      refine R_aload_n X 1 d_St_passMonth_15 rfl ?_
      refine R_iload_n X 2 d_St_passMonth_16 rfl ?_
      refine V_pc (pc' := 17) rfl ?_
      refine R_aload_n X 0 d_St_passMonth_17 rfl ?_
      refine R_getR (ci := 5) X rfl iSt_ok (S_all _ hq0).1.1 (S_all _ hq0).1.2 0 rfl rfl tw_97 d_St_passMonth_18 ?_
      refine R_iload_n X 2 d_St_passMonth_21 rfl ?_
      obtain ⟨i2, h⟩ := ck h
      refine R_iald (n := 5) X (S_all _ hq0).2.1.1 (S_all _ hq0).2.1.2 i2 d_St_passMonth_22 ?_
      obtain ⟨p4, e3, h⟩ := ob h
      refine R_vcall (ci := 0) (k := q1) (As := [.int x2, .int (hp (q0 + 1) (x2).toNatClampNeg)]) (st := [.int x2, .ref (gA (zG Z) (q0 + 1))]) X (M_Br_afterMonth hq1 e3) tw_473 cf_Br_afterMonth (B_all _ hq1).1.1 (B_all _ hq1).1.2 rfl rfl rfl rfl d_St_passMonth_23 ?_
      refine R_iast (n := 5) X (S_all _ hq0).2.1.1 (S_all _ hq0).2.1.2 i2 d_St_passMonth_26 ?_
      refine V_pc (pc' := 27) rfl ?_
      refine R_iinc (v := (x2 + 1)) (L' := [(2, .int (x2 + 1)), (0, .ref (gA (zG Z) q0)), (1, .ref (gA (zG Z) q1))]) X 2 d_St_passMonth_27 rfl rfl (by decide) rfl ?_
      refine R_goto (tgt := 2) X d_St_passMonth_30 rfl ?_
      refine V_pc (pc' := 2) rfl (R_loc (L' := [(0, .ref (gA (zG Z) q0)), (1, .ref (gA (zG Z) q1)), (2, .int (x2 + 1))]) [1, 2, 0] rfl ?_)
      exact ih (up p4.2 (q0 + 1) (x2).toNatClampNeg p4.1) (x2 + 1) h
set_option maxRecDepth 20000 in
set_option maxHeartbeats 2000000 in
theorem T_St_passMonth {Z : ZT} (X : CX Z Y_St_passMonth) {hp : HP} {q0 : Nat} {q1 : Nat} (hq0 : isS q0 = true) (hq1 : isB q1 = true) {p : Int32 × HP} (h : f_St_passMonth hp q0 q1 = some p) (hR : RetV Z Y_St_passMonth p.2) : V Z Y_St_passMonth hp 0 [(0, .ref (gA (zG Z) q0)), (1, .ref (gA (zG Z) q1))] [] := by
  unfold f_St_passMonth at h
  refine R_iconst (v := (0 : Int32)) X d_St_passMonth_0 rfl ?_
  refine R_istore_n (L' := [(2, .int (0 : Int32)), (0, .ref (gA (zG Z) q0)), (1, .ref (gA (zG Z) q1))]) X d_St_passMonth_1 (by decide) rfl ?_
  refine V_pc (pc' := 2) rfl (R_loc (L' := [(0, .ref (gA (zG Z) q0)), (1, .ref (gA (zG Z) q1)), (2, .int (0 : Int32))]) [1, 2, 0] rfl ?_)
  refine T_St_passMonth_L2 X hq0 hq1 hR (fun hp5 h => ?_) _ hp (0 : Int32) h
  refine R_aload_n X 0 d_St_passMonth_33 rfl ?_
  refine R_dup X d_St_passMonth_34 rfl ?_
  refine R_getI (ci := 5) X rfl iSt_ok (S_all _ hq0).1.1 (S_all _ hq0).1.2 2 rfl rfl tw_100 d_St_passMonth_35 ?_
  refine R_iconst (v := (1 : Int32)) X d_St_passMonth_38 rfl ?_
  refine R_iadd X d_St_passMonth_39 ?_
  refine V_pc (pc' := 40) rfl ?_
  refine R_putI (ci := 5) X rfl iSt_ok ySt_ok nSt_ok (S_all _ hq0).1.1 (S_all _ hq0).1.2 2 rfl rfl rfl rfl tw_100 d_St_passMonth_40 ?_
  exact R_retv hR h d_St_passMonth_43
theorem M_St_passMonth {G : GT} {hp : HP} {q0 : Nat} {q1 : Nat} (hq0 : isS q0 = true) (hq1 : isB q1 = true) {p : Int32 × HP} (h : f_St_passMonth hp q0 q1 = some p) : MV G y_St_passMonth Y_St_passMonth [.ref (gA G q0), .ref (gA G q1)] hp p.2 := MV_of rfl (fun Z hz X hR => by subst hz; exact T_St_passMonth X hq0 hq1 h hR)
theorem d_BA_month_0 : decode prog_1_method_10_code 0 = .ok (.iload_n 1, 1) := by decide +kernel
theorem d_BA_month_1 : decode prog_1_method_10_code 1 = .ok (.iconst 1, 1) := by decide +kernel
theorem d_BA_month_2 : decode prog_1_method_10_code 2 = .ok (.bipush (60), 2) := by decide +kernel
theorem d_BA_month_4 : decode prog_1_method_10_code 4 = .ok (.invokestatic 73, 3) := by decide +kernel
theorem d_BA_month_7 : decode prog_1_method_10_code 7 = .ok (.ifCond .ne (6), 3) := by decide +kernel
theorem d_BA_month_10 : decode prog_1_method_10_code 10 = .ok (.ldc 77, 2) := by decide +kernel
theorem d_BA_month_12 : decode prog_1_method_10_code 12 = .ok (.ireturn, 1) := by decide +kernel
theorem d_BA_month_13 : decode prog_1_method_10_code 13 = .ok (.aload_n 0, 1) := by decide +kernel
theorem d_BA_month_14 : decode prog_1_method_10_code 14 = .ok (.getfield 59, 3) := by decide +kernel
theorem d_BA_month_17 : decode prog_1_method_10_code 17 = .ok (.invokevirtual 179, 3) := by decide +kernel
theorem d_BA_month_20 : decode prog_1_method_10_code 20 = .ok (.ifCond .ne (6), 3) := by decide +kernel
theorem d_BA_month_23 : decode prog_1_method_10_code 23 = .ok (.ldc 183, 2) := by decide +kernel
theorem d_BA_month_25 : decode prog_1_method_10_code 25 = .ok (.ireturn, 1) := by decide +kernel
theorem d_BA_month_26 : decode prog_1_method_10_code 26 = .ok (.aload_n 0, 1) := by decide +kernel
theorem d_BA_month_27 : decode prog_1_method_10_code 27 = .ok (.getfield 19, 3) := by decide +kernel
theorem d_BA_month_30 : decode prog_1_method_10_code 30 = .ok (.getfield 108, 3) := by decide +kernel
theorem d_BA_month_33 : decode prog_1_method_10_code 33 = .ok (.sipush (9000), 3) := by decide +kernel
theorem d_BA_month_36 : decode prog_1_method_10_code 36 = .ok (.if_icmp .le (6), 3) := by decide +kernel
theorem d_BA_month_39 : decode prog_1_method_10_code 39 = .ok (.ldc 81, 2) := by decide +kernel
theorem d_BA_month_41 : decode prog_1_method_10_code 41 = .ok (.ireturn, 1) := by decide +kernel
theorem d_BA_month_42 : decode prog_1_method_10_code 42 = .ok (.aload_n 0, 1) := by decide +kernel
theorem d_BA_month_43 : decode prog_1_method_10_code 43 = .ok (.getfield 26, 3) := by decide +kernel
theorem d_BA_month_46 : decode prog_1_method_10_code 46 = .ok (.aload_n 0, 1) := by decide +kernel
theorem d_BA_month_47 : decode prog_1_method_10_code 47 = .ok (.getfield 19, 3) := by decide +kernel
theorem d_BA_month_50 : decode prog_1_method_10_code 50 = .ok (.invokevirtual 184, 3) := by decide +kernel
theorem d_BA_month_53 : decode prog_1_method_10_code 53 = .ok (.iconst 0, 1) := by decide +kernel
theorem d_BA_month_54 : decode prog_1_method_10_code 54 = .ok (.istore_n 2, 1) := by decide +kernel
theorem d_BA_month_55 : decode prog_1_method_10_code 55 = .ok (.iload_n 2, 1) := by decide +kernel
theorem d_BA_month_56 : decode prog_1_method_10_code 56 = .ok (.iload_n 1, 1) := by decide +kernel
theorem d_BA_month_57 : decode prog_1_method_10_code 57 = .ok (.if_icmp .ge (20), 3) := by decide +kernel
theorem d_BA_month_60 : decode prog_1_method_10_code 60 = .ok (.aload_n 0, 1) := by decide +kernel
theorem d_BA_month_61 : decode prog_1_method_10_code 61 = .ok (.getfield 19, 3) := by decide +kernel
theorem d_BA_month_64 : decode prog_1_method_10_code 64 = .ok (.aload_n 0, 1) := by decide +kernel
theorem d_BA_month_65 : decode prog_1_method_10_code 65 = .ok (.getfield 59, 3) := by decide +kernel
theorem d_BA_month_68 : decode prog_1_method_10_code 68 = .ok (.invokevirtual 188, 3) := by decide +kernel
theorem d_BA_month_71 : decode prog_1_method_10_code 71 = .ok (.iinc 2 (1), 3) := by decide +kernel
theorem d_BA_month_74 : decode prog_1_method_10_code 74 = .ok (.goto (-19), 3) := by decide +kernel
theorem d_BA_month_77 : decode prog_1_method_10_code 77 = .ok (.aload_n 0, 1) := by decide +kernel
theorem d_BA_month_78 : decode prog_1_method_10_code 78 = .ok (.getfield 19, 3) := by decide +kernel
theorem d_BA_month_81 : decode prog_1_method_10_code 81 = .ok (.getfield 108, 3) := by decide +kernel
theorem d_BA_month_84 : decode prog_1_method_10_code 84 = .ok (.ireturn, 1) := by decide +kernel
set_option maxRecDepth 20000 in
set_option maxHeartbeats 2000000 in
theorem T_BA_month_L55 {Z : ZT} (X : CX Z Y_BA_month) {v1 : Int32} {p : Int32 × HP} (hR : RetI Z Y_BA_month .int p.1 p.2) {K : HP → Option (Int32 × HP)} (hK : ∀ (hp : HP), K hp = some p → V Z Y_BA_month hp 77 [(0, .ref (gA (zG Z) 0))] []) : ∀ (n : Nat) (hp : HP) (x2 : Int32), f_BA_month_L55 v1 K n hp x2 = some p → V Z Y_BA_month hp 55 [(0, .ref (gA (zG Z) 0)), (1, .int v1), (2, .int x2)] [] := by
  intro n
  induction n with
  | zero =>
    intro hp x2 h
    cases h
  | succ n ih =>
    intro hp x2 h
    replace h : f_BA_month_L55 v1 K (n + 1) hp x2 = some p := h
    unfold f_BA_month_L55 at h
    refine R_iload_n X 2 d_BA_month_55 rfl ?_
    refine R_iload_n X 1 d_BA_month_56 rfl ?_
    refine R_icmp_ge (tgt := 77) X d_BA_month_57 rfl (fun c11 => ?_) (fun c11 => ?_)
    · replace h := (if_pos c11).symm.trans h
      refine V_pc (pc' := 77) rfl (R_loc (L' := [(0, .ref (gA (zG Z) 0))]) [0] rfl ?_)
      exact hK hp h
    · replace h := (if_neg c11).symm.trans h
      refine R_aload_n X 0 d_BA_month_60 rfl ?_
      refine R_getR (ci := 6) X rfl iBA_ok (of_decide_eq_true rfl) rfl 1 rfl rfl tw_235 d_BA_month_61 ?_
      refine R_aload_n X 0 d_BA_month_64 rfl ?_
      refine R_getD (ci := 6) X rfl iBA_ok (of_decide_eq_true rfl) rfl 8 rfl rfl tw_242 d_BA_month_65 ?_
      obtain ⟨b12, h⟩ := ck h
      obtain ⟨p14, e13, h⟩ := ob h
      refine R_vcallv (ci := 5) (k := 3) (As := [.ref (gA (zG Z) (hp 0 8).toNatClampNeg)]) (st := []) X (M_St_passMonth rfl b12 e13) tw_469 cf_St_passMonth (of_decide_eq_true rfl) rfl rfl rfl rfl rfl d_BA_month_68 ?_
      refine V_pc (pc' := 71) rfl ?_
      refine R_iinc (v := (x2 + 1)) (L' := [(2, .int (x2 + 1)), (0, .ref (gA (zG Z) 0)), (1, .int v1)]) X 2 d_BA_month_71 rfl rfl (by decide) rfl ?_
      refine R_goto (tgt := 55) X d_BA_month_74 rfl ?_
      refine V_pc (pc' := 55) rfl (R_loc (L' := [(0, .ref (gA (zG Z) 0)), (1, .int v1), (2, .int (x2 + 1))]) [1, 2, 0] rfl ?_)
      exact ih p14.2 (x2 + 1) h
set_option maxRecDepth 20000 in
set_option maxHeartbeats 2000000 in
theorem T_BA_month {Z : ZT} (X : CX Z Y_BA_month) {hp : HP} {a1 : Int32} {p : Int32 × HP} (h : f_BA_month hp a1 = some p) (hR : RetI Z Y_BA_month .int p.1 p.2) : V Z Y_BA_month hp 0 [(0, .ref (gA (zG Z) 0)), (1, .int a1)] [] := by
  unfold f_BA_month at h
  refine R_iload_n X 1 d_BA_month_0 rfl ?_
  refine R_iconst (v := (1 : Int32)) X d_BA_month_1 rfl ?_
  refine R_bipush (v := (60 : Int32)) X d_BA_month_2 rfl ?_
  obtain ⟨p2, e1, h⟩ := ob h
  refine R_scall (As := [.int a1, .int (1 : Int32), .int (60 : Int32)]) (st := []) X (M_BA_within e1) tw_275 cf_BA_within rfl rfl rfl d_BA_month_4 ?_
  refine R_ifne (tgt := 13) X d_BA_month_7 rfl (fun c3 => ?_) (fun c3 => ?_)
  · replace h := (if_neg c3).symm.trans h
    refine R_aload_n X 0 d_BA_month_13 rfl ?_
    refine R_getD (ci := 6) X rfl iBA_ok (of_decide_eq_true rfl) rfl 8 rfl rfl tw_242 d_BA_month_14 ?_
    obtain ⟨b4, h⟩ := ck h
    obtain ⟨p6, e5, h⟩ := ob h
    refine R_vcall (ci := 0) (k := (p2.2 0 8).toNatClampNeg) (As := []) (st := []) X (M_Br_isThere b4 e5) tw_455 cf_Br_isThere (B_all _ b4).1.1 (B_all _ b4).1.2 rfl rfl rfl rfl d_BA_month_17 ?_
    refine R_ifne (tgt := 26) X d_BA_month_20 rfl (fun c7 => ?_) (fun c7 => ?_)
    · replace h := (if_neg c7).symm.trans h
      refine R_aload_n X 0 d_BA_month_26 rfl ?_
      refine R_getR (ci := 6) X rfl iBA_ok (of_decide_eq_true rfl) rfl 1 rfl rfl tw_235 d_BA_month_27 ?_
      refine R_getI (ci := 5) X rfl iSt_ok (of_decide_eq_true rfl) rfl 2 rfl rfl tw_101 d_BA_month_30 ?_
      refine R_sipush (v := (9000 : Int32)) X d_BA_month_33 rfl ?_
      refine R_icmp_le (tgt := 42) X d_BA_month_36 rfl (fun c8 => ?_) (fun c8 => ?_)
      · replace h := (if_pos c8).symm.trans h
        refine R_aload_n X 0 d_BA_month_42 rfl ?_
        refine R_getR (ci := 6) X rfl iBA_ok (of_decide_eq_true rfl) rfl 2 rfl rfl tw_236 d_BA_month_43 ?_
        refine R_aload_n X 0 d_BA_month_46 rfl ?_
        refine R_getR (ci := 6) X rfl iBA_ok (of_decide_eq_true rfl) rfl 1 rfl rfl tw_235 d_BA_month_47 ?_
        obtain ⟨p10, e9, h⟩ := ob h
        refine R_vcallv (ci := 1) (k := 6) (As := [.ref (gA (zG Z) 3)]) (st := []) X (M_Pa_push rfl e9) tw_457 cf_Pa_push (of_decide_eq_true rfl) rfl rfl rfl rfl rfl d_BA_month_50 ?_
        refine V_pc (pc' := 53) rfl ?_
        refine R_iconst (v := (0 : Int32)) X d_BA_month_53 rfl ?_
        refine R_istore_n (L' := [(2, .int (0 : Int32)), (0, .ref (gA (zG Z) 0)), (1, .int a1)]) X d_BA_month_54 (by decide) rfl ?_
        refine V_pc (pc' := 55) rfl (R_loc (L' := [(0, .ref (gA (zG Z) 0)), (1, .int a1), (2, .int (0 : Int32))]) [1, 2, 0] rfl ?_)
        refine T_BA_month_L55 X hR (fun hp15 h => ?_) _ p10.2 (0 : Int32) h
        refine R_aload_n X 0 d_BA_month_77 rfl ?_
        refine R_getR (ci := 6) X rfl iBA_ok (of_decide_eq_true rfl) rfl 1 rfl rfl tw_235 d_BA_month_78 ?_
        refine R_getI (ci := 5) X rfl iSt_ok (of_decide_eq_true rfl) rfl 2 rfl rfl tw_101 d_BA_month_81 ?_
        exact R_ret hR h d_BA_month_84
      · replace h := (if_neg c8).symm.trans h
        refine R_ldc (v := (-1000000004 : Int32)) X tw_279 d_BA_month_39 ?_
        exact R_ret hR h d_BA_month_41
    · replace h := (if_pos c7).symm.trans h
      refine R_ldc (v := (-1000000003 : Int32)) X tw_456 d_BA_month_23 ?_
      exact R_ret hR h d_BA_month_25
  · replace h := (if_pos c3).symm.trans h
    refine R_ldc (v := (-1000000002 : Int32)) X tw_278 d_BA_month_10 ?_
    exact R_ret hR h d_BA_month_12
theorem M_BA_month {G : GT} {hp : HP} {a1 : Int32} {p : Int32 × HP} (h : f_BA_month hp a1 = some p) : MI G y_BA_month Y_BA_month .int [.ref (gA G 0), .int a1] hp p.1 p.2 := MI_of rfl (fun Z hz X hR => by subst hz; exact T_BA_month X h hR)
theorem d_St_change_0 : decode prog_7_method_4_code 0 = .ok (.aload_n 0, 1) := by decide +kernel
theorem d_St_change_1 : decode prog_7_method_4_code 1 = .ok (.getfield 9, 3) := by decide +kernel
theorem d_St_change_4 : decode prog_7_method_4_code 4 = .ok (.iload_n 1, 1) := by decide +kernel
theorem d_St_change_5 : decode prog_7_method_4_code 5 = .ok (.aload_n 0, 1) := by decide +kernel
theorem d_St_change_6 : decode prog_7_method_4_code 6 = .ok (.getfield 9, 3) := by decide +kernel
theorem d_St_change_9 : decode prog_7_method_4_code 9 = .ok (.iload_n 1, 1) := by decide +kernel
theorem d_St_change_10 : decode prog_7_method_4_code 10 = .ok (.iaload, 1) := by decide +kernel
theorem d_St_change_11 : decode prog_7_method_4_code 11 = .ok (.iload_n 2, 1) := by decide +kernel
theorem d_St_change_12 : decode prog_7_method_4_code 12 = .ok (.iadd, 1) := by decide +kernel
theorem d_St_change_13 : decode prog_7_method_4_code 13 = .ok (.invokestatic 36, 3) := by decide +kernel
theorem d_St_change_16 : decode prog_7_method_4_code 16 = .ok (.iastore, 1) := by decide +kernel
theorem d_St_change_17 : decode prog_7_method_4_code 17 = .ok (.return_, 1) := by decide +kernel
set_option maxRecDepth 20000 in
set_option maxHeartbeats 2000000 in
theorem T_St_change {Z : ZT} (X : CX Z Y_St_change) {hp : HP} {q0 : Nat} {a1 : Int32} {a2 : Int32} (hq0 : isS q0 = true) {p : Int32 × HP} (h : f_St_change hp q0 a1 a2 = some p) (hR : RetV Z Y_St_change p.2) : V Z Y_St_change hp 0 [(0, .ref (gA (zG Z) q0)), (1, .int a1), (2, .int a2)] [] := by
  unfold f_St_change at h
  refine R_aload_n X 0 d_St_change_0 rfl ?_
  refine R_getR (ci := 5) X rfl iSt_ok (S_all _ hq0).1.1 (S_all _ hq0).1.2 0 rfl rfl tw_97 d_St_change_1 ?_
  refine R_iload_n X 1 d_St_change_4 rfl ?_
  refine R_aload_n X 0 d_St_change_5 rfl ?_
  refine R_getR (ci := 5) X rfl iSt_ok (S_all _ hq0).1.1 (S_all _ hq0).1.2 0 rfl rfl tw_97 d_St_change_6 ?_
  refine V_pc (pc' := 9) rfl ?_
  refine R_iload_n X 1 d_St_change_9 rfl ?_
  obtain ⟨i1, h⟩ := ck h
  refine R_iald (n := 5) X (S_all _ hq0).2.1.1 (S_all _ hq0).2.1.2 i1 d_St_change_10 ?_
  refine R_iload_n X 2 d_St_change_11 rfl ?_
  refine R_iadd X d_St_change_12 ?_
  obtain ⟨p3, e2, h⟩ := ob h
  refine R_ncall (As := [.int ((hp (q0 + 1) (a1).toNatClampNeg) + a2)]) (st := [.int a1, .ref (gA (zG Z) (q0 + 1))]) (host := "BodyAccounts") X (M_BA_bounded e2) (by decide +kernel) cf_BA_bounded rfl rfl rfl d_St_change_13 ?_
  refine R_iast (n := 5) X (S_all _ hq0).2.1.1 (S_all _ hq0).2.1.2 i1 d_St_change_16 ?_
  refine V_pc (pc' := 17) rfl ?_
  exact R_retv hR h d_St_change_17
theorem M_St_change {G : GT} {hp : HP} {q0 : Nat} {a1 : Int32} {a2 : Int32} (hq0 : isS q0 = true) {p : Int32 × HP} (h : f_St_change hp q0 a1 a2 = some p) : MV G y_St_change Y_St_change [.ref (gA G q0), .int a1, .int a2] hp p.2 := MV_of rfl (fun Z hz X hR => by subst hz; exact T_St_change X hq0 h hR)
theorem d_BA_spend_0 : decode prog_1_method_11_code 0 = .ok (.aload_n 0, 1) := by decide +kernel
theorem d_BA_spend_1 : decode prog_1_method_11_code 1 = .ok (.getfield 59, 3) := by decide +kernel
theorem d_BA_spend_4 : decode prog_1_method_11_code 4 = .ok (.iload_n 1, 1) := by decide +kernel
theorem d_BA_spend_5 : decode prog_1_method_11_code 5 = .ok (.invokevirtual 145, 3) := by decide +kernel
theorem d_BA_spend_8 : decode prog_1_method_11_code 8 = .ok (.ifCond .ne (6), 3) := by decide +kernel
theorem d_BA_spend_11 : decode prog_1_method_11_code 11 = .ok (.ldc 144, 2) := by decide +kernel
theorem d_BA_spend_13 : decode prog_1_method_11_code 13 = .ok (.ireturn, 1) := by decide +kernel
theorem d_BA_spend_14 : decode prog_1_method_11_code 14 = .ok (.iload_n 2, 1) := by decide +kernel
theorem d_BA_spend_15 : decode prog_1_method_11_code 15 = .ok (.iconst 1, 1) := by decide +kernel
theorem d_BA_spend_16 : decode prog_1_method_11_code 16 = .ok (.sipush (999), 3) := by decide +kernel
theorem d_BA_spend_19 : decode prog_1_method_11_code 19 = .ok (.invokestatic 73, 3) := by decide +kernel
theorem d_BA_spend_22 : decode prog_1_method_11_code 22 = .ok (.ifCond .ne (6), 3) := by decide +kernel
theorem d_BA_spend_25 : decode prog_1_method_11_code 25 = .ok (.ldc 77, 2) := by decide +kernel
theorem d_BA_spend_27 : decode prog_1_method_11_code 27 = .ok (.ireturn, 1) := by decide +kernel
theorem d_BA_spend_28 : decode prog_1_method_11_code 28 = .ok (.aload_n 0, 1) := by decide +kernel
theorem d_BA_spend_29 : decode prog_1_method_11_code 29 = .ok (.getfield 26, 3) := by decide +kernel
theorem d_BA_spend_32 : decode prog_1_method_11_code 32 = .ok (.aload_n 0, 1) := by decide +kernel
theorem d_BA_spend_33 : decode prog_1_method_11_code 33 = .ok (.getfield 19, 3) := by decide +kernel
theorem d_BA_spend_36 : decode prog_1_method_11_code 36 = .ok (.invokevirtual 184, 3) := by decide +kernel
theorem d_BA_spend_39 : decode prog_1_method_11_code 39 = .ok (.aload_n 0, 1) := by decide +kernel
theorem d_BA_spend_40 : decode prog_1_method_11_code 40 = .ok (.getfield 19, 3) := by decide +kernel
theorem d_BA_spend_43 : decode prog_1_method_11_code 43 = .ok (.iload_n 1, 1) := by decide +kernel
theorem d_BA_spend_44 : decode prog_1_method_11_code 44 = .ok (.iload_n 2, 1) := by decide +kernel
theorem d_BA_spend_45 : decode prog_1_method_11_code 45 = .ok (.ineg, 1) := by decide +kernel
theorem d_BA_spend_46 : decode prog_1_method_11_code 46 = .ok (.invokevirtual 191, 3) := by decide +kernel
theorem d_BA_spend_49 : decode prog_1_method_11_code 49 = .ok (.aload_n 0, 1) := by decide +kernel
theorem d_BA_spend_50 : decode prog_1_method_11_code 50 = .ok (.getfield 59, 3) := by decide +kernel
theorem d_BA_spend_53 : decode prog_1_method_11_code 53 = .ok (.aload_n 0, 1) := by decide +kernel
theorem d_BA_spend_54 : decode prog_1_method_11_code 54 = .ok (.getfield 19, 3) := by decide +kernel
theorem d_BA_spend_57 : decode prog_1_method_11_code 57 = .ok (.getfield 148, 3) := by decide +kernel
theorem d_BA_spend_60 : decode prog_1_method_11_code 60 = .ok (.iload_n 1, 1) := by decide +kernel
theorem d_BA_spend_61 : decode prog_1_method_11_code 61 = .ok (.iaload, 1) := by decide +kernel
theorem d_BA_spend_62 : decode prog_1_method_11_code 62 = .ok (.invokevirtual 151, 3) := by decide +kernel
theorem d_BA_spend_65 : decode prog_1_method_11_code 65 = .ok (.ireturn, 1) := by decide +kernel
set_option maxRecDepth 20000 in
set_option maxHeartbeats 2000000 in
theorem T_BA_spend {Z : ZT} (X : CX Z Y_BA_spend) {hp : HP} {a1 : Int32} {a2 : Int32} {p : Int32 × HP} (h : f_BA_spend hp a1 a2 = some p) (hR : RetI Z Y_BA_spend .int p.1 p.2) : V Z Y_BA_spend hp 0 [(0, .ref (gA (zG Z) 0)), (1, .int a1), (2, .int a2)] [] := by
  unfold f_BA_spend at h
  refine R_aload_n X 0 d_BA_spend_0 rfl ?_
  refine R_getD (ci := 6) X rfl iBA_ok (of_decide_eq_true rfl) rfl 8 rfl rfl tw_242 d_BA_spend_1 ?_
  obtain ⟨b1, h⟩ := ck h
  refine R_iload_n X 1 d_BA_spend_4 rfl ?_
  obtain ⟨p3, e2, h⟩ := ob h
  refine R_vcall (ci := 0) (k := (hp 0 8).toNatClampNeg) (As := [.int a1]) (st := []) X (M_Br_hasCustomer b1 e2) tw_419 cf_Br_hasCustomer (B_all _ b1).1.1 (B_all _ b1).1.2 rfl rfl rfl rfl d_BA_spend_5 ?_
  refine R_ifne (tgt := 14) X d_BA_spend_8 rfl (fun c4 => ?_) (fun c4 => ?_)
  · replace h := (if_neg c4).symm.trans h
    refine R_iload_n X 2 d_BA_spend_14 rfl ?_
    refine R_iconst (v := (1 : Int32)) X d_BA_spend_15 rfl ?_
    refine R_sipush (v := (999 : Int32)) X d_BA_spend_16 rfl ?_
    obtain ⟨p6, e5, h⟩ := ob h
    refine R_scall (As := [.int a2, .int (1 : Int32), .int (999 : Int32)]) (st := []) X (M_BA_within e5) tw_275 cf_BA_within rfl rfl rfl d_BA_spend_19 ?_
    refine R_ifne (tgt := 28) X d_BA_spend_22 rfl (fun c7 => ?_) (fun c7 => ?_)
    · replace h := (if_neg c7).symm.trans h
      refine R_aload_n X 0 d_BA_spend_28 rfl ?_
      refine R_getR (ci := 6) X rfl iBA_ok (of_decide_eq_true rfl) rfl 2 rfl rfl tw_236 d_BA_spend_29 ?_
      refine R_aload_n X 0 d_BA_spend_32 rfl ?_
      refine R_getR (ci := 6) X rfl iBA_ok (of_decide_eq_true rfl) rfl 1 rfl rfl tw_235 d_BA_spend_33 ?_
      obtain ⟨p9, e8, h⟩ := ob h
      refine R_vcallv (ci := 1) (k := 6) (As := [.ref (gA (zG Z) 3)]) (st := []) X (M_Pa_push rfl e8) tw_457 cf_Pa_push (of_decide_eq_true rfl) rfl rfl rfl rfl rfl d_BA_spend_36 ?_
      refine V_pc (pc' := 39) rfl ?_
      refine R_aload_n X 0 d_BA_spend_39 rfl ?_
      refine R_getR (ci := 6) X rfl iBA_ok (of_decide_eq_true rfl) rfl 1 rfl rfl tw_235 d_BA_spend_40 ?_
      refine R_iload_n X 1 d_BA_spend_43 rfl ?_
      refine R_iload_n X 2 d_BA_spend_44 rfl ?_
      refine R_ineg X d_BA_spend_45 ?_
      obtain ⟨p11, e10, h⟩ := ob h
      refine R_vcallv (ci := 5) (k := 3) (As := [.int a1, .int (-a2)]) (st := []) X (M_St_change rfl e10) tw_482 cf_St_change (of_decide_eq_true rfl) rfl rfl rfl rfl rfl d_BA_spend_46 ?_
      refine V_pc (pc' := 49) rfl ?_
      refine R_aload_n X 0 d_BA_spend_49 rfl ?_
      refine R_getD (ci := 6) X rfl iBA_ok (of_decide_eq_true rfl) rfl 8 rfl rfl tw_242 d_BA_spend_50 ?_
      obtain ⟨b12, h⟩ := ck h
      refine R_aload_n X 0 d_BA_spend_53 rfl ?_
      refine R_getR (ci := 6) X rfl iBA_ok (of_decide_eq_true rfl) rfl 1 rfl rfl tw_235 d_BA_spend_54 ?_
      refine R_getR (ci := 5) X rfl iSt_ok (of_decide_eq_true rfl) rfl 0 rfl rfl tw_98 d_BA_spend_57 ?_
      refine R_iload_n X 1 d_BA_spend_60 rfl ?_
      refine V_pc (pc' := 61) rfl ?_
      obtain ⟨i13, h⟩ := ck h
      refine R_iald (n := 5) X (of_decide_eq_true rfl) rfl i13 d_BA_spend_61 ?_
      obtain ⟨p15, e14, h⟩ := ob h
      refine R_vcall (ci := 0) (k := (p11.2 0 8).toNatClampNeg) (As := [.int (p11.2 4 (a1).toNatClampNeg)]) (st := []) X (M_Br_partsAt b12 e14) tw_375 cf_Br_partsAt (B_all _ b12).1.1 (B_all _ b12).1.2 rfl rfl rfl rfl d_BA_spend_62 ?_
      exact R_ret hR h d_BA_spend_65
    · replace h := (if_pos c7).symm.trans h
      refine R_ldc (v := (-1000000002 : Int32)) X tw_278 d_BA_spend_25 ?_
      exact R_ret hR h d_BA_spend_27
  · replace h := (if_pos c4).symm.trans h
    refine R_ldc (v := (-1000000001 : Int32)) X tw_414 d_BA_spend_11 ?_
    exact R_ret hR h d_BA_spend_13
theorem M_BA_spend {G : GT} {hp : HP} {a1 : Int32} {a2 : Int32} {p : Int32 × HP} (h : f_BA_spend hp a1 a2 = some p) : MI G y_BA_spend Y_BA_spend .int [.ref (gA G 0), .int a1, .int a2] hp p.1 p.2 := MI_of rfl (fun Z hz X hR => by subst hz; exact T_BA_spend X h hR)
theorem d_St_hand_0 : decode prog_7_method_7_code 0 = .ok (.aload_n 0, 1) := by decide +kernel
theorem d_St_hand_1 : decode prog_7_method_7_code 1 = .ok (.iload_n 1, 1) := by decide +kernel
theorem d_St_hand_2 : decode prog_7_method_7_code 2 = .ok (.iload_n 3, 1) := by decide +kernel
theorem d_St_hand_3 : decode prog_7_method_7_code 3 = .ok (.ineg, 1) := by decide +kernel
theorem d_St_hand_4 : decode prog_7_method_7_code 4 = .ok (.invokevirtual 44, 3) := by decide +kernel
theorem d_St_hand_7 : decode prog_7_method_7_code 7 = .ok (.aload_n 0, 1) := by decide +kernel
theorem d_St_hand_8 : decode prog_7_method_7_code 8 = .ok (.iload_n 2, 1) := by decide +kernel
theorem d_St_hand_9 : decode prog_7_method_7_code 9 = .ok (.iload_n 3, 1) := by decide +kernel
theorem d_St_hand_10 : decode prog_7_method_7_code 10 = .ok (.invokevirtual 44, 3) := by decide +kernel
theorem d_St_hand_13 : decode prog_7_method_7_code 13 = .ok (.aload_n 0, 1) := by decide +kernel
theorem d_St_hand_14 : decode prog_7_method_7_code 14 = .ok (.getfield 15, 3) := by decide +kernel
theorem d_St_hand_17 : decode prog_7_method_7_code 17 = .ok (.iload_n 1, 1) := by decide +kernel
theorem d_St_hand_18 : decode prog_7_method_7_code 18 = .ok (.iconst 5, 1) := by decide +kernel
theorem d_St_hand_19 : decode prog_7_method_7_code 19 = .ok (.imul, 1) := by decide +kernel
theorem d_St_hand_20 : decode prog_7_method_7_code 20 = .ok (.iload_n 2, 1) := by decide +kernel
theorem d_St_hand_21 : decode prog_7_method_7_code 21 = .ok (.iadd, 1) := by decide +kernel
theorem d_St_hand_22 : decode prog_7_method_7_code 22 = .ok (.dup2, 1) := by decide +kernel
theorem d_St_hand_23 : decode prog_7_method_7_code 23 = .ok (.iaload, 1) := by decide +kernel
theorem d_St_hand_24 : decode prog_7_method_7_code 24 = .ok (.iload_n 3, 1) := by decide +kernel
theorem d_St_hand_25 : decode prog_7_method_7_code 25 = .ok (.isub, 1) := by decide +kernel
theorem d_St_hand_26 : decode prog_7_method_7_code 26 = .ok (.iastore, 1) := by decide +kernel
theorem d_St_hand_27 : decode prog_7_method_7_code 27 = .ok (.aload_n 0, 1) := by decide +kernel
theorem d_St_hand_28 : decode prog_7_method_7_code 28 = .ok (.getfield 15, 3) := by decide +kernel
theorem d_St_hand_31 : decode prog_7_method_7_code 31 = .ok (.iload_n 2, 1) := by decide +kernel
theorem d_St_hand_32 : decode prog_7_method_7_code 32 = .ok (.iconst 5, 1) := by decide +kernel
theorem d_St_hand_33 : decode prog_7_method_7_code 33 = .ok (.imul, 1) := by decide +kernel
theorem d_St_hand_34 : decode prog_7_method_7_code 34 = .ok (.iload_n 1, 1) := by decide +kernel
theorem d_St_hand_35 : decode prog_7_method_7_code 35 = .ok (.iadd, 1) := by decide +kernel
theorem d_St_hand_36 : decode prog_7_method_7_code 36 = .ok (.dup2, 1) := by decide +kernel
theorem d_St_hand_37 : decode prog_7_method_7_code 37 = .ok (.iaload, 1) := by decide +kernel
theorem d_St_hand_38 : decode prog_7_method_7_code 38 = .ok (.iload_n 3, 1) := by decide +kernel
theorem d_St_hand_39 : decode prog_7_method_7_code 39 = .ok (.iadd, 1) := by decide +kernel
theorem d_St_hand_40 : decode prog_7_method_7_code 40 = .ok (.iastore, 1) := by decide +kernel
theorem d_St_hand_41 : decode prog_7_method_7_code 41 = .ok (.return_, 1) := by decide +kernel
set_option maxRecDepth 20000 in
set_option maxHeartbeats 2000000 in
theorem T_St_hand {Z : ZT} (X : CX Z Y_St_hand) {hp : HP} {q0 : Nat} {a1 : Int32} {a2 : Int32} {a3 : Int32} (hq0 : isS q0 = true) {p : Int32 × HP} (h : f_St_hand hp q0 a1 a2 a3 = some p) (hR : RetV Z Y_St_hand p.2) : V Z Y_St_hand hp 0 [(0, .ref (gA (zG Z) q0)), (1, .int a1), (2, .int a2), (3, .int a3)] [] := by
  unfold f_St_hand at h
  refine R_aload_n X 0 d_St_hand_0 rfl ?_
  refine R_iload_n X 1 d_St_hand_1 rfl ?_
  refine R_iload_n X 3 d_St_hand_2 rfl ?_
  refine R_ineg X d_St_hand_3 ?_
  obtain ⟨p2, e1, h⟩ := ob h
  refine R_vcallv (ci := 5) (k := q0) (As := [.int a1, .int (-a3)]) (st := []) X (M_St_change hq0 e1) tw_495 cf_St_change (S_all _ hq0).1.1 (S_all _ hq0).1.2 rfl rfl rfl rfl d_St_hand_4 ?_
  refine V_pc (pc' := 7) rfl ?_
  refine R_aload_n X 0 d_St_hand_7 rfl ?_
  refine R_iload_n X 2 d_St_hand_8 rfl ?_
  refine R_iload_n X 3 d_St_hand_9 rfl ?_
  obtain ⟨p4, e3, h⟩ := ob h
  refine R_vcallv (ci := 5) (k := q0) (As := [.int a2, .int a3]) (st := []) X (M_St_change hq0 e3) tw_495 cf_St_change (S_all _ hq0).1.1 (S_all _ hq0).1.2 rfl rfl rfl rfl d_St_hand_10 ?_
  refine R_aload_n X 0 d_St_hand_13 rfl ?_
  refine R_getR (ci := 5) X rfl iSt_ok (S_all _ hq0).1.1 (S_all _ hq0).1.2 1 rfl rfl tw_99 d_St_hand_14 ?_
  refine V_pc (pc' := 17) rfl ?_
  refine R_iload_n X 1 d_St_hand_17 rfl ?_
  refine R_iconst (v := (5 : Int32)) X d_St_hand_18 rfl ?_
  refine R_imul X d_St_hand_19 ?_
  refine R_iload_n X 2 d_St_hand_20 rfl ?_
  refine R_iadd X d_St_hand_21 ?_
  refine R_dup2 X d_St_hand_22 rfl rfl ?_
  refine V_pc (pc' := 23) rfl ?_
  obtain ⟨i5, h⟩ := ck h
  refine R_iald (n := 25) X (S_all _ hq0).2.2.1 (S_all _ hq0).2.2.2 i5 d_St_hand_23 ?_
  refine R_iload_n X 3 d_St_hand_24 rfl ?_
  refine R_isub X d_St_hand_25 ?_
  refine R_iast (n := 25) X (S_all _ hq0).2.2.1 (S_all _ hq0).2.2.2 i5 d_St_hand_26 ?_
  refine R_aload_n X 0 d_St_hand_27 rfl ?_
  refine R_getR (ci := 5) X rfl iSt_ok (S_all _ hq0).1.1 (S_all _ hq0).1.2 1 rfl rfl tw_99 d_St_hand_28 ?_
  refine V_pc (pc' := 31) rfl ?_
  refine R_iload_n X 2 d_St_hand_31 rfl ?_
  refine R_iconst (v := (5 : Int32)) X d_St_hand_32 rfl ?_
  refine R_imul X d_St_hand_33 ?_
  refine R_iload_n X 1 d_St_hand_34 rfl ?_
  refine R_iadd X d_St_hand_35 ?_
  refine R_dup2 X d_St_hand_36 rfl rfl ?_
  refine V_pc (pc' := 37) rfl ?_
  obtain ⟨i6, h⟩ := ck h
  refine R_iald (n := 25) X (S_all _ hq0).2.2.1 (S_all _ hq0).2.2.2 i6 d_St_hand_37 ?_
  refine R_iload_n X 3 d_St_hand_38 rfl ?_
  refine R_iadd X d_St_hand_39 ?_
  refine R_iast (n := 25) X (S_all _ hq0).2.2.1 (S_all _ hq0).2.2.2 i6 d_St_hand_40 ?_
  exact R_retv hR h d_St_hand_41
theorem M_St_hand {G : GT} {hp : HP} {q0 : Nat} {a1 : Int32} {a2 : Int32} {a3 : Int32} (hq0 : isS q0 = true) {p : Int32 × HP} (h : f_St_hand hp q0 a1 a2 a3 = some p) : MV G y_St_hand Y_St_hand [.ref (gA G q0), .int a1, .int a2, .int a3] hp p.2 := MV_of rfl (fun Z hz X hR => by subst hz; exact T_St_hand X hq0 h hR)
theorem d_BA_lend_0 : decode prog_1_method_12_code 0 = .ok (.aload_n 0, 1) := by decide +kernel
theorem d_BA_lend_1 : decode prog_1_method_12_code 1 = .ok (.iload_n 1, 1) := by decide +kernel
theorem d_BA_lend_2 : decode prog_1_method_12_code 2 = .ok (.iload_n 2, 1) := by decide +kernel
theorem d_BA_lend_3 : decode prog_1_method_12_code 3 = .ok (.invokevirtual 165, 3) := by decide +kernel
theorem d_BA_lend_6 : decode prog_1_method_12_code 6 = .ok (.ifCond .ne (6), 3) := by decide +kernel
theorem d_BA_lend_9 : decode prog_1_method_12_code 9 = .ok (.ldc 144, 2) := by decide +kernel
theorem d_BA_lend_11 : decode prog_1_method_12_code 11 = .ok (.ireturn, 1) := by decide +kernel
theorem d_BA_lend_12 : decode prog_1_method_12_code 12 = .ok (.iload_n 3, 1) := by decide +kernel
theorem d_BA_lend_13 : decode prog_1_method_12_code 13 = .ok (.iconst 1, 1) := by decide +kernel
theorem d_BA_lend_14 : decode prog_1_method_12_code 14 = .ok (.sipush (999), 3) := by decide +kernel
theorem d_BA_lend_17 : decode prog_1_method_12_code 17 = .ok (.invokestatic 73, 3) := by decide +kernel
theorem d_BA_lend_20 : decode prog_1_method_12_code 20 = .ok (.ifCond .ne (6), 3) := by decide +kernel
theorem d_BA_lend_23 : decode prog_1_method_12_code 23 = .ok (.ldc 77, 2) := by decide +kernel
theorem d_BA_lend_25 : decode prog_1_method_12_code 25 = .ok (.ireturn, 1) := by decide +kernel
theorem d_BA_lend_26 : decode prog_1_method_12_code 26 = .ok (.aload_n 0, 1) := by decide +kernel
theorem d_BA_lend_27 : decode prog_1_method_12_code 27 = .ok (.getfield 19, 3) := by decide +kernel
theorem d_BA_lend_30 : decode prog_1_method_12_code 30 = .ok (.iload_n 2, 1) := by decide +kernel
theorem d_BA_lend_31 : decode prog_1_method_12_code 31 = .ok (.iload_n 1, 1) := by decide +kernel
theorem d_BA_lend_32 : decode prog_1_method_12_code 32 = .ok (.invokevirtual 169, 3) := by decide +kernel
theorem d_BA_lend_35 : decode prog_1_method_12_code 35 = .ok (.iload_n 3, 1) := by decide +kernel
theorem d_BA_lend_36 : decode prog_1_method_12_code 36 = .ok (.iadd, 1) := by decide +kernel
theorem d_BA_lend_37 : decode prog_1_method_12_code 37 = .ok (.sipush (9999), 3) := by decide +kernel
theorem d_BA_lend_40 : decode prog_1_method_12_code 40 = .ok (.if_icmp .le (6), 3) := by decide +kernel
theorem d_BA_lend_43 : decode prog_1_method_12_code 43 = .ok (.ldc 81, 2) := by decide +kernel
theorem d_BA_lend_45 : decode prog_1_method_12_code 45 = .ok (.ireturn, 1) := by decide +kernel
theorem d_BA_lend_46 : decode prog_1_method_12_code 46 = .ok (.aload_n 0, 1) := by decide +kernel
theorem d_BA_lend_47 : decode prog_1_method_12_code 47 = .ok (.getfield 26, 3) := by decide +kernel
theorem d_BA_lend_50 : decode prog_1_method_12_code 50 = .ok (.aload_n 0, 1) := by decide +kernel
theorem d_BA_lend_51 : decode prog_1_method_12_code 51 = .ok (.getfield 19, 3) := by decide +kernel
theorem d_BA_lend_54 : decode prog_1_method_12_code 54 = .ok (.invokevirtual 184, 3) := by decide +kernel
theorem d_BA_lend_57 : decode prog_1_method_12_code 57 = .ok (.aload_n 0, 1) := by decide +kernel
theorem d_BA_lend_58 : decode prog_1_method_12_code 58 = .ok (.getfield 19, 3) := by decide +kernel
theorem d_BA_lend_61 : decode prog_1_method_12_code 61 = .ok (.iload_n 1, 1) := by decide +kernel
theorem d_BA_lend_62 : decode prog_1_method_12_code 62 = .ok (.iload_n 2, 1) := by decide +kernel
theorem d_BA_lend_63 : decode prog_1_method_12_code 63 = .ok (.iload_n 3, 1) := by decide +kernel
theorem d_BA_lend_64 : decode prog_1_method_12_code 64 = .ok (.invokevirtual 195, 3) := by decide +kernel
theorem d_BA_lend_67 : decode prog_1_method_12_code 67 = .ok (.aload_n 0, 1) := by decide +kernel
theorem d_BA_lend_68 : decode prog_1_method_12_code 68 = .ok (.getfield 59, 3) := by decide +kernel
theorem d_BA_lend_71 : decode prog_1_method_12_code 71 = .ok (.aload_n 0, 1) := by decide +kernel
theorem d_BA_lend_72 : decode prog_1_method_12_code 72 = .ok (.getfield 19, 3) := by decide +kernel
theorem d_BA_lend_75 : decode prog_1_method_12_code 75 = .ok (.getfield 148, 3) := by decide +kernel
theorem d_BA_lend_78 : decode prog_1_method_12_code 78 = .ok (.iload_n 2, 1) := by decide +kernel
theorem d_BA_lend_79 : decode prog_1_method_12_code 79 = .ok (.iaload, 1) := by decide +kernel
theorem d_BA_lend_80 : decode prog_1_method_12_code 80 = .ok (.invokevirtual 151, 3) := by decide +kernel
theorem d_BA_lend_83 : decode prog_1_method_12_code 83 = .ok (.ireturn, 1) := by decide +kernel
set_option maxRecDepth 20000 in
set_option maxHeartbeats 2000000 in
theorem T_BA_lend {Z : ZT} (X : CX Z Y_BA_lend) {hp : HP} {a1 : Int32} {a2 : Int32} {a3 : Int32} {p : Int32 × HP} (h : f_BA_lend hp a1 a2 a3 = some p) (hR : RetI Z Y_BA_lend .int p.1 p.2) : V Z Y_BA_lend hp 0 [(0, .ref (gA (zG Z) 0)), (1, .int a1), (2, .int a2), (3, .int a3)] [] := by
  unfold f_BA_lend at h
  refine R_aload_n X 0 d_BA_lend_0 rfl ?_
  refine R_iload_n X 1 d_BA_lend_1 rfl ?_
  refine R_iload_n X 2 d_BA_lend_2 rfl ?_
  obtain ⟨p2, e1, h⟩ := ob h
  refine R_vcall (ci := 6) (k := 0) (As := [.int a1, .int a2]) (st := []) X (M_BA_areTwo e1) tw_428 cf_BA_areTwo (of_decide_eq_true rfl) rfl rfl rfl rfl rfl d_BA_lend_3 ?_
  refine R_ifne (tgt := 12) X d_BA_lend_6 rfl (fun c3 => ?_) (fun c3 => ?_)
  · replace h := (if_neg c3).symm.trans h
    refine R_iload_n X 3 d_BA_lend_12 rfl ?_
    refine R_iconst (v := (1 : Int32)) X d_BA_lend_13 rfl ?_
    refine R_sipush (v := (999 : Int32)) X d_BA_lend_14 rfl ?_
    obtain ⟨p5, e4, h⟩ := ob h
    refine R_scall (As := [.int a3, .int (1 : Int32), .int (999 : Int32)]) (st := []) X (M_BA_within e4) tw_275 cf_BA_within rfl rfl rfl d_BA_lend_17 ?_
    refine R_ifne (tgt := 26) X d_BA_lend_20 rfl (fun c6 => ?_) (fun c6 => ?_)
    · replace h := (if_neg c6).symm.trans h
      refine R_aload_n X 0 d_BA_lend_26 rfl ?_
      refine R_getR (ci := 6) X rfl iBA_ok (of_decide_eq_true rfl) rfl 1 rfl rfl tw_235 d_BA_lend_27 ?_
      refine R_iload_n X 2 d_BA_lend_30 rfl ?_
      refine R_iload_n X 1 d_BA_lend_31 rfl ?_
      obtain ⟨p8, e7, h⟩ := ob h
      refine R_vcall (ci := 5) (k := 3) (As := [.int a2, .int a1]) (st := []) X (M_St_debt rfl e7) tw_432 cf_St_debt (of_decide_eq_true rfl) rfl rfl rfl rfl rfl d_BA_lend_32 ?_
      refine V_pc (pc' := 35) rfl ?_
      refine R_iload_n X 3 d_BA_lend_35 rfl ?_
      refine R_iadd X d_BA_lend_36 ?_
      refine R_sipush (v := (9999 : Int32)) X d_BA_lend_37 rfl ?_
      refine R_icmp_le (tgt := 46) X d_BA_lend_40 rfl (fun c9 => ?_) (fun c9 => ?_)
      · replace h := (if_pos c9).symm.trans h
        refine R_aload_n X 0 d_BA_lend_46 rfl ?_
        refine R_getR (ci := 6) X rfl iBA_ok (of_decide_eq_true rfl) rfl 2 rfl rfl tw_236 d_BA_lend_47 ?_
        refine R_aload_n X 0 d_BA_lend_50 rfl ?_
        refine R_getR (ci := 6) X rfl iBA_ok (of_decide_eq_true rfl) rfl 1 rfl rfl tw_235 d_BA_lend_51 ?_
        obtain ⟨p11, e10, h⟩ := ob h
        refine R_vcallv (ci := 1) (k := 6) (As := [.ref (gA (zG Z) 3)]) (st := []) X (M_Pa_push rfl e10) tw_457 cf_Pa_push (of_decide_eq_true rfl) rfl rfl rfl rfl rfl d_BA_lend_54 ?_
        refine V_pc (pc' := 57) rfl ?_
        refine R_aload_n X 0 d_BA_lend_57 rfl ?_
        refine R_getR (ci := 6) X rfl iBA_ok (of_decide_eq_true rfl) rfl 1 rfl rfl tw_235 d_BA_lend_58 ?_
        refine R_iload_n X 1 d_BA_lend_61 rfl ?_
        refine R_iload_n X 2 d_BA_lend_62 rfl ?_
        refine R_iload_n X 3 d_BA_lend_63 rfl ?_
        obtain ⟨p13, e12, h⟩ := ob h
        refine R_vcallv (ci := 5) (k := 3) (As := [.int a1, .int a2, .int a3]) (st := []) X (M_St_hand rfl e12) tw_491 cf_St_hand (of_decide_eq_true rfl) rfl rfl rfl rfl rfl d_BA_lend_64 ?_
        refine V_pc (pc' := 67) rfl ?_
        refine R_aload_n X 0 d_BA_lend_67 rfl ?_
        refine R_getD (ci := 6) X rfl iBA_ok (of_decide_eq_true rfl) rfl 8 rfl rfl tw_242 d_BA_lend_68 ?_
        obtain ⟨b14, h⟩ := ck h
        refine R_aload_n X 0 d_BA_lend_71 rfl ?_
        refine R_getR (ci := 6) X rfl iBA_ok (of_decide_eq_true rfl) rfl 1 rfl rfl tw_235 d_BA_lend_72 ?_
        refine R_getR (ci := 5) X rfl iSt_ok (of_decide_eq_true rfl) rfl 0 rfl rfl tw_98 d_BA_lend_75 ?_
        refine R_iload_n X 2 d_BA_lend_78 rfl ?_
        refine V_pc (pc' := 79) rfl ?_
        obtain ⟨i15, h⟩ := ck h
        refine R_iald (n := 5) X (of_decide_eq_true rfl) rfl i15 d_BA_lend_79 ?_
        obtain ⟨p17, e16, h⟩ := ob h
        refine R_vcall (ci := 0) (k := (p13.2 0 8).toNatClampNeg) (As := [.int (p13.2 4 (a2).toNatClampNeg)]) (st := []) X (M_Br_partsAt b14 e16) tw_375 cf_Br_partsAt (B_all _ b14).1.1 (B_all _ b14).1.2 rfl rfl rfl rfl d_BA_lend_80 ?_
        exact R_ret hR h d_BA_lend_83
      · replace h := (if_neg c9).symm.trans h
        refine R_ldc (v := (-1000000004 : Int32)) X tw_279 d_BA_lend_43 ?_
        exact R_ret hR h d_BA_lend_45
    · replace h := (if_pos c6).symm.trans h
      refine R_ldc (v := (-1000000002 : Int32)) X tw_278 d_BA_lend_23 ?_
      exact R_ret hR h d_BA_lend_25
  · replace h := (if_pos c3).symm.trans h
    refine R_ldc (v := (-1000000001 : Int32)) X tw_414 d_BA_lend_9 ?_
    exact R_ret hR h d_BA_lend_11
theorem M_BA_lend {G : GT} {hp : HP} {a1 : Int32} {a2 : Int32} {a3 : Int32} {p : Int32 × HP} (h : f_BA_lend hp a1 a2 a3 = some p) : MI G y_BA_lend Y_BA_lend .int [.ref (gA G 0), .int a1, .int a2, .int a3] hp p.1 p.2 := MI_of rfl (fun Z hz X hR => by subst hz; exact T_BA_lend X h hR)
theorem d_BA_payBack_0 : decode prog_1_method_13_code 0 = .ok (.aload_n 0, 1) := by decide +kernel
theorem d_BA_payBack_1 : decode prog_1_method_13_code 1 = .ok (.iload_n 1, 1) := by decide +kernel
theorem d_BA_payBack_2 : decode prog_1_method_13_code 2 = .ok (.iload_n 2, 1) := by decide +kernel
theorem d_BA_payBack_3 : decode prog_1_method_13_code 3 = .ok (.invokevirtual 165, 3) := by decide +kernel
theorem d_BA_payBack_6 : decode prog_1_method_13_code 6 = .ok (.ifCond .ne (6), 3) := by decide +kernel
theorem d_BA_payBack_9 : decode prog_1_method_13_code 9 = .ok (.ldc 144, 2) := by decide +kernel
theorem d_BA_payBack_11 : decode prog_1_method_13_code 11 = .ok (.ireturn, 1) := by decide +kernel
theorem d_BA_payBack_12 : decode prog_1_method_13_code 12 = .ok (.iload_n 3, 1) := by decide +kernel
theorem d_BA_payBack_13 : decode prog_1_method_13_code 13 = .ok (.iconst 1, 1) := by decide +kernel
theorem d_BA_payBack_14 : decode prog_1_method_13_code 14 = .ok (.sipush (999), 3) := by decide +kernel
theorem d_BA_payBack_17 : decode prog_1_method_13_code 17 = .ok (.invokestatic 73, 3) := by decide +kernel
theorem d_BA_payBack_20 : decode prog_1_method_13_code 20 = .ok (.ifCond .ne (6), 3) := by decide +kernel
theorem d_BA_payBack_23 : decode prog_1_method_13_code 23 = .ok (.ldc 77, 2) := by decide +kernel
theorem d_BA_payBack_25 : decode prog_1_method_13_code 25 = .ok (.ireturn, 1) := by decide +kernel
theorem d_BA_payBack_26 : decode prog_1_method_13_code 26 = .ok (.aload_n 0, 1) := by decide +kernel
theorem d_BA_payBack_27 : decode prog_1_method_13_code 27 = .ok (.getfield 19, 3) := by decide +kernel
theorem d_BA_payBack_30 : decode prog_1_method_13_code 30 = .ok (.iload_n 1, 1) := by decide +kernel
theorem d_BA_payBack_31 : decode prog_1_method_13_code 31 = .ok (.iload_n 2, 1) := by decide +kernel
theorem d_BA_payBack_32 : decode prog_1_method_13_code 32 = .ok (.invokevirtual 169, 3) := by decide +kernel
theorem d_BA_payBack_35 : decode prog_1_method_13_code 35 = .ok (.iload_n 3, 1) := by decide +kernel
theorem d_BA_payBack_36 : decode prog_1_method_13_code 36 = .ok (.if_icmp .ge (6), 3) := by decide +kernel
theorem d_BA_payBack_39 : decode prog_1_method_13_code 39 = .ok (.ldc 183, 2) := by decide +kernel
theorem d_BA_payBack_41 : decode prog_1_method_13_code 41 = .ok (.ireturn, 1) := by decide +kernel
theorem d_BA_payBack_42 : decode prog_1_method_13_code 42 = .ok (.aload_n 0, 1) := by decide +kernel
theorem d_BA_payBack_43 : decode prog_1_method_13_code 43 = .ok (.getfield 26, 3) := by decide +kernel
theorem d_BA_payBack_46 : decode prog_1_method_13_code 46 = .ok (.aload_n 0, 1) := by decide +kernel
theorem d_BA_payBack_47 : decode prog_1_method_13_code 47 = .ok (.getfield 19, 3) := by decide +kernel
theorem d_BA_payBack_50 : decode prog_1_method_13_code 50 = .ok (.invokevirtual 184, 3) := by decide +kernel
theorem d_BA_payBack_53 : decode prog_1_method_13_code 53 = .ok (.aload_n 0, 1) := by decide +kernel
theorem d_BA_payBack_54 : decode prog_1_method_13_code 54 = .ok (.getfield 19, 3) := by decide +kernel
theorem d_BA_payBack_57 : decode prog_1_method_13_code 57 = .ok (.iload_n 1, 1) := by decide +kernel
theorem d_BA_payBack_58 : decode prog_1_method_13_code 58 = .ok (.iload_n 2, 1) := by decide +kernel
theorem d_BA_payBack_59 : decode prog_1_method_13_code 59 = .ok (.iload_n 3, 1) := by decide +kernel
theorem d_BA_payBack_60 : decode prog_1_method_13_code 60 = .ok (.invokevirtual 195, 3) := by decide +kernel
theorem d_BA_payBack_63 : decode prog_1_method_13_code 63 = .ok (.aload_n 0, 1) := by decide +kernel
theorem d_BA_payBack_64 : decode prog_1_method_13_code 64 = .ok (.getfield 19, 3) := by decide +kernel
theorem d_BA_payBack_67 : decode prog_1_method_13_code 67 = .ok (.iload_n 1, 1) := by decide +kernel
theorem d_BA_payBack_68 : decode prog_1_method_13_code 68 = .ok (.iload_n 2, 1) := by decide +kernel
theorem d_BA_payBack_69 : decode prog_1_method_13_code 69 = .ok (.invokevirtual 169, 3) := by decide +kernel
theorem d_BA_payBack_72 : decode prog_1_method_13_code 72 = .ok (.ireturn, 1) := by decide +kernel
set_option maxRecDepth 20000 in
set_option maxHeartbeats 2000000 in
theorem T_BA_payBack {Z : ZT} (X : CX Z Y_BA_payBack) {hp : HP} {a1 : Int32} {a2 : Int32} {a3 : Int32} {p : Int32 × HP} (h : f_BA_payBack hp a1 a2 a3 = some p) (hR : RetI Z Y_BA_payBack .int p.1 p.2) : V Z Y_BA_payBack hp 0 [(0, .ref (gA (zG Z) 0)), (1, .int a1), (2, .int a2), (3, .int a3)] [] := by
  unfold f_BA_payBack at h
  refine R_aload_n X 0 d_BA_payBack_0 rfl ?_
  refine R_iload_n X 1 d_BA_payBack_1 rfl ?_
  refine R_iload_n X 2 d_BA_payBack_2 rfl ?_
  obtain ⟨p2, e1, h⟩ := ob h
  refine R_vcall (ci := 6) (k := 0) (As := [.int a1, .int a2]) (st := []) X (M_BA_areTwo e1) tw_428 cf_BA_areTwo (of_decide_eq_true rfl) rfl rfl rfl rfl rfl d_BA_payBack_3 ?_
  refine R_ifne (tgt := 12) X d_BA_payBack_6 rfl (fun c3 => ?_) (fun c3 => ?_)
  · replace h := (if_neg c3).symm.trans h
    refine R_iload_n X 3 d_BA_payBack_12 rfl ?_
    refine R_iconst (v := (1 : Int32)) X d_BA_payBack_13 rfl ?_
    refine R_sipush (v := (999 : Int32)) X d_BA_payBack_14 rfl ?_
    obtain ⟨p5, e4, h⟩ := ob h
    refine R_scall (As := [.int a3, .int (1 : Int32), .int (999 : Int32)]) (st := []) X (M_BA_within e4) tw_275 cf_BA_within rfl rfl rfl d_BA_payBack_17 ?_
    refine R_ifne (tgt := 26) X d_BA_payBack_20 rfl (fun c6 => ?_) (fun c6 => ?_)
    · replace h := (if_neg c6).symm.trans h
      refine R_aload_n X 0 d_BA_payBack_26 rfl ?_
      refine R_getR (ci := 6) X rfl iBA_ok (of_decide_eq_true rfl) rfl 1 rfl rfl tw_235 d_BA_payBack_27 ?_
      refine R_iload_n X 1 d_BA_payBack_30 rfl ?_
      refine R_iload_n X 2 d_BA_payBack_31 rfl ?_
      obtain ⟨p8, e7, h⟩ := ob h
      refine R_vcall (ci := 5) (k := 3) (As := [.int a1, .int a2]) (st := []) X (M_St_debt rfl e7) tw_432 cf_St_debt (of_decide_eq_true rfl) rfl rfl rfl rfl rfl d_BA_payBack_32 ?_
      refine V_pc (pc' := 35) rfl ?_
      refine R_iload_n X 3 d_BA_payBack_35 rfl ?_
      refine R_icmp_ge (tgt := 42) X d_BA_payBack_36 rfl (fun c9 => ?_) (fun c9 => ?_)
      · replace h := (if_pos c9).symm.trans h
        refine R_aload_n X 0 d_BA_payBack_42 rfl ?_
        refine R_getR (ci := 6) X rfl iBA_ok (of_decide_eq_true rfl) rfl 2 rfl rfl tw_236 d_BA_payBack_43 ?_
        refine R_aload_n X 0 d_BA_payBack_46 rfl ?_
        refine R_getR (ci := 6) X rfl iBA_ok (of_decide_eq_true rfl) rfl 1 rfl rfl tw_235 d_BA_payBack_47 ?_
        obtain ⟨p11, e10, h⟩ := ob h
        refine R_vcallv (ci := 1) (k := 6) (As := [.ref (gA (zG Z) 3)]) (st := []) X (M_Pa_push rfl e10) tw_457 cf_Pa_push (of_decide_eq_true rfl) rfl rfl rfl rfl rfl d_BA_payBack_50 ?_
        refine V_pc (pc' := 53) rfl ?_
        refine R_aload_n X 0 d_BA_payBack_53 rfl ?_
        refine R_getR (ci := 6) X rfl iBA_ok (of_decide_eq_true rfl) rfl 1 rfl rfl tw_235 d_BA_payBack_54 ?_
        refine R_iload_n X 1 d_BA_payBack_57 rfl ?_
        refine R_iload_n X 2 d_BA_payBack_58 rfl ?_
        refine R_iload_n X 3 d_BA_payBack_59 rfl ?_
        obtain ⟨p13, e12, h⟩ := ob h
        refine R_vcallv (ci := 5) (k := 3) (As := [.int a1, .int a2, .int a3]) (st := []) X (M_St_hand rfl e12) tw_491 cf_St_hand (of_decide_eq_true rfl) rfl rfl rfl rfl rfl d_BA_payBack_60 ?_
        refine V_pc (pc' := 63) rfl ?_
        refine R_aload_n X 0 d_BA_payBack_63 rfl ?_
        refine R_getR (ci := 6) X rfl iBA_ok (of_decide_eq_true rfl) rfl 1 rfl rfl tw_235 d_BA_payBack_64 ?_
        refine R_iload_n X 1 d_BA_payBack_67 rfl ?_
        refine R_iload_n X 2 d_BA_payBack_68 rfl ?_
        obtain ⟨p15, e14, h⟩ := ob h
        refine R_vcall (ci := 5) (k := 3) (As := [.int a1, .int a2]) (st := []) X (M_St_debt rfl e14) tw_432 cf_St_debt (of_decide_eq_true rfl) rfl rfl rfl rfl rfl d_BA_payBack_69 ?_
        exact R_ret hR h d_BA_payBack_72
      · replace h := (if_neg c9).symm.trans h
        refine R_ldc (v := (-1000000003 : Int32)) X tw_456 d_BA_payBack_39 ?_
        exact R_ret hR h d_BA_payBack_41
    · replace h := (if_pos c6).symm.trans h
      refine R_ldc (v := (-1000000002 : Int32)) X tw_278 d_BA_payBack_23 ?_
      exact R_ret hR h d_BA_payBack_25
  · replace h := (if_pos c3).symm.trans h
    refine R_ldc (v := (-1000000001 : Int32)) X tw_414 d_BA_payBack_9 ?_
    exact R_ret hR h d_BA_payBack_11
theorem M_BA_payBack {G : GT} {hp : HP} {a1 : Int32} {a2 : Int32} {a3 : Int32} {p : Int32 × HP} (h : f_BA_payBack hp a1 a2 a3 = some p) : MI G y_BA_payBack Y_BA_payBack .int [.ref (gA G 0), .int a1, .int a2, .int a3] hp p.1 p.2 := MI_of rfl (fun Z hz X hR => by subst hz; exact T_BA_payBack X h hR)
theorem d_BA_draw_0 : decode prog_1_method_41_code 0 = .ok (.aload_n 0, 1) := by decide +kernel
theorem d_BA_draw_1 : decode prog_1_method_41_code 1 = .ok (.aload_n 0, 1) := by decide +kernel
theorem d_BA_draw_2 : decode prog_1_method_41_code 2 = .ok (.getfield 70, 3) := by decide +kernel
theorem d_BA_draw_5 : decode prog_1_method_41_code 5 = .ok (.i2l, 1) := by decide +kernel
theorem d_BA_draw_6 : decode prog_1_method_41_code 6 = .ok (.ldc2_w 276, 3) := by decide +kernel
theorem d_BA_draw_9 : decode prog_1_method_41_code 9 = .ok (.lmul, 1) := by decide +kernel
theorem d_BA_draw_10 : decode prog_1_method_41_code 10 = .ok (.ldc2_w 278, 3) := by decide +kernel
theorem d_BA_draw_13 : decode prog_1_method_41_code 13 = .ok (.ladd, 1) := by decide +kernel
theorem d_BA_draw_14 : decode prog_1_method_41_code 14 = .ok (.ldc2_w 280, 3) := by decide +kernel
theorem d_BA_draw_17 : decode prog_1_method_41_code 17 = .ok (.land, 1) := by decide +kernel
theorem d_BA_draw_18 : decode prog_1_method_41_code 18 = .ok (.l2i, 1) := by decide +kernel
theorem d_BA_draw_19 : decode prog_1_method_41_code 19 = .ok (.putfield 70, 3) := by decide +kernel
theorem d_BA_draw_22 : decode prog_1_method_41_code 22 = .ok (.iload_n 1, 1) := by decide +kernel
theorem d_BA_draw_23 : decode prog_1_method_41_code 23 = .ok (.ifCond .le (16), 3) := by decide +kernel
theorem d_BA_draw_26 : decode prog_1_method_41_code 26 = .ok (.aload_n 0, 1) := by decide +kernel
theorem d_BA_draw_27 : decode prog_1_method_41_code 27 = .ok (.getfield 70, 3) := by decide +kernel
theorem d_BA_draw_30 : decode prog_1_method_41_code 30 = .ok (.ldc_w 282, 3) := by decide +kernel
theorem d_BA_draw_33 : decode prog_1_method_41_code 33 = .ok (.idiv, 1) := by decide +kernel
theorem d_BA_draw_34 : decode prog_1_method_41_code 34 = .ok (.iload_n 1, 1) := by decide +kernel
theorem d_BA_draw_35 : decode prog_1_method_41_code 35 = .ok (.irem, 1) := by decide +kernel
theorem d_BA_draw_36 : decode prog_1_method_41_code 36 = .ok (.goto (4), 3) := by decide +kernel
theorem d_BA_draw_39 : decode prog_1_method_41_code 39 = .ok (.iconst 0, 1) := by decide +kernel
theorem d_BA_draw_40 : decode prog_1_method_41_code 40 = .ok (.ireturn, 1) := by decide +kernel
set_option maxRecDepth 20000 in
set_option maxHeartbeats 2000000 in
theorem T_BA_draw {Z : ZT} (X : CX Z Y_BA_draw) {hp : HP} {a1 : Int32} {p : Int32 × HP} (h : f_BA_draw hp a1 = some p) (hR : RetI Z Y_BA_draw .int p.1 p.2) : V Z Y_BA_draw hp 0 [(0, .ref (gA (zG Z) 0)), (1, .int a1)] [] := by
  unfold f_BA_draw at h
  refine R_aload_n X 0 d_BA_draw_0 rfl ?_
  refine R_aload_n X 0 d_BA_draw_1 rfl ?_
  refine R_getI (ci := 6) X rfl iBA_ok (of_decide_eq_true rfl) rfl 11 rfl rfl tw_245 d_BA_draw_2 ?_
  refine R_i2l X d_BA_draw_5 ?_
  refine R_ldc2 (v := (1103515245 : Int64)) X tw_512 d_BA_draw_6 ?_
  refine V_pc (pc' := 9) rfl ?_
  refine R_lmul X d_BA_draw_9 ?_
  refine R_ldc2 (v := (12345 : Int64)) X tw_513 d_BA_draw_10 ?_
  refine R_ladd X d_BA_draw_13 ?_
  refine R_ldc2 (v := (2147483647 : Int64)) X tw_514 d_BA_draw_14 ?_
  refine R_land X d_BA_draw_17 ?_
  refine R_l2i X d_BA_draw_18 ?_
  refine V_pc (pc' := 19) rfl ?_
  refine R_putI (ci := 6) X rfl iBA_ok yBA_ok nBA_ok (of_decide_eq_true rfl) rfl 11 rfl rfl rfl rfl tw_245 d_BA_draw_19 ?_
  refine R_iload_n X 1 d_BA_draw_22 rfl ?_
  refine R_ifle (tgt := 39) X d_BA_draw_23 rfl (fun c1 => ?_) (fun c1 => ?_)
  · replace h := (if_pos c1).symm.trans h
    refine R_iconst (v := (0 : Int32)) X d_BA_draw_39 rfl ?_
    exact R_ret hR h d_BA_draw_40
  · replace h := (if_neg c1).symm.trans h
    refine R_aload_n X 0 d_BA_draw_26 rfl ?_
    refine R_getI (ci := 6) X rfl iBA_ok (of_decide_eq_true rfl) rfl 11 rfl rfl tw_245 d_BA_draw_27 ?_
    refine R_ldcw (v := (65536 : Int32)) X tw_515 d_BA_draw_30 ?_
    refine R_idiv X d_BA_draw_33 (by decide) ?_
    refine R_iload_n X 1 d_BA_draw_34 rfl ?_
    refine V_pc (pc' := 35) rfl ?_
    obtain ⟨z2, h⟩ := cz h
    refine R_irem X d_BA_draw_35 z2 ?_
    refine R_goto (tgt := 40) X d_BA_draw_36 rfl ?_
    exact R_ret hR h d_BA_draw_40
theorem M_BA_draw {G : GT} {hp : HP} {a1 : Int32} {p : Int32 × HP} (h : f_BA_draw hp a1 = some p) : MI G y_BA_draw Y_BA_draw .int [.ref (gA G 0), .int a1] hp p.1 p.2 := MI_of rfl (fun Z hz X hR => by subst hz; exact T_BA_draw X h hR)
theorem d_BA_wager_0 : decode prog_1_method_42_code 0 = .ok (.aload_n 0, 1) := by decide +kernel
theorem d_BA_wager_1 : decode prog_1_method_42_code 1 = .ok (.aload_n 0, 1) := by decide +kernel
theorem d_BA_wager_2 : decode prog_1_method_42_code 2 = .ok (.getfield 59, 3) := by decide +kernel
theorem d_BA_wager_5 : decode prog_1_method_42_code 5 = .ok (.getfield 99, 3) := by decide +kernel
theorem d_BA_wager_8 : decode prog_1_method_42_code 8 = .ok (.invokevirtual 283, 3) := by decide +kernel
theorem d_BA_wager_11 : decode prog_1_method_42_code 11 = .ok (.istore_n 1, 1) := by decide +kernel
theorem d_BA_wager_12 : decode prog_1_method_42_code 12 = .ok (.aload_n 0, 1) := by decide +kernel
theorem d_BA_wager_13 : decode prog_1_method_42_code 13 = .ok (.bipush (100), 2) := by decide +kernel
theorem d_BA_wager_15 : decode prog_1_method_42_code 15 = .ok (.invokevirtual 283, 3) := by decide +kernel
theorem d_BA_wager_18 : decode prog_1_method_42_code 18 = .ok (.istore_n 2, 1) := by decide +kernel
theorem d_BA_wager_19 : decode prog_1_method_42_code 19 = .ok (.aload_n 0, 1) := by decide +kernel
theorem d_BA_wager_20 : decode prog_1_method_42_code 20 = .ok (.getfield 19, 3) := by decide +kernel
theorem d_BA_wager_23 : decode prog_1_method_42_code 23 = .ok (.iload_n 1, 1) := by decide +kernel
theorem d_BA_wager_24 : decode prog_1_method_42_code 24 = .ok (.aload_n 0, 1) := by decide +kernel
theorem d_BA_wager_25 : decode prog_1_method_42_code 25 = .ok (.iconst 2, 1) := by decide +kernel
theorem d_BA_wager_26 : decode prog_1_method_42_code 26 = .ok (.invokevirtual 283, 3) := by decide +kernel
theorem d_BA_wager_29 : decode prog_1_method_42_code 29 = .ok (.ifCond .ne (8), 3) := by decide +kernel
theorem d_BA_wager_32 : decode prog_1_method_42_code 32 = .ok (.iload_n 2, 1) := by decide +kernel
theorem d_BA_wager_33 : decode prog_1_method_42_code 33 = .ok (.ineg, 1) := by decide +kernel
theorem d_BA_wager_34 : decode prog_1_method_42_code 34 = .ok (.goto (4), 3) := by decide +kernel
theorem d_BA_wager_37 : decode prog_1_method_42_code 37 = .ok (.iload_n 2, 1) := by decide +kernel
theorem d_BA_wager_38 : decode prog_1_method_42_code 38 = .ok (.invokevirtual 191, 3) := by decide +kernel
theorem d_BA_wager_41 : decode prog_1_method_42_code 41 = .ok (.return_, 1) := by decide +kernel
set_option maxRecDepth 20000 in
set_option maxHeartbeats 2000000 in
theorem T_BA_wager {Z : ZT} (X : CX Z Y_BA_wager) {hp : HP} {p : Int32 × HP} (h : f_BA_wager hp = some p) (hR : RetV Z Y_BA_wager p.2) : V Z Y_BA_wager hp 0 [(0, .ref (gA (zG Z) 0))] [] := by
  unfold f_BA_wager at h
  refine R_aload_n X 0 d_BA_wager_0 rfl ?_
  refine R_aload_n X 0 d_BA_wager_1 rfl ?_
  refine R_getD (ci := 6) X rfl iBA_ok (of_decide_eq_true rfl) rfl 8 rfl rfl tw_242 d_BA_wager_2 ?_
  obtain ⟨b1, h⟩ := ck h
  refine R_getI (ci := 0) X rfl iBr_ok (B_all _ b1).1.1 (B_all _ b1).1.2 6 rfl rfl tw_212 d_BA_wager_5 ?_
  obtain ⟨p3, e2, h⟩ := ob h
  refine R_vcall (ci := 6) (k := 0) (As := [.int (hp (hp 0 8).toNatClampNeg 6)]) (st := []) X (M_BA_draw e2) tw_508 cf_BA_draw (of_decide_eq_true rfl) rfl rfl rfl rfl rfl d_BA_wager_8 ?_
  refine V_pc (pc' := 11) rfl ?_
  refine R_istore_n (L' := [(1, .int p3.1), (0, .ref (gA (zG Z) 0))]) X d_BA_wager_11 (by decide) rfl ?_
  refine R_aload_n X 1 d_BA_wager_12 rfl ?_
  refine R_bipush (v := (100 : Int32)) X d_BA_wager_13 rfl ?_
  obtain ⟨p5, e4, h⟩ := ob h
  refine R_vcall (ci := 6) (k := 0) (As := [.int (100 : Int32)]) (st := []) X (M_BA_draw e4) tw_508 cf_BA_draw (of_decide_eq_true rfl) rfl rfl rfl rfl rfl d_BA_wager_15 ?_
  refine R_istore_n (L' := [(2, .int p5.1), (1, .int p3.1), (0, .ref (gA (zG Z) 0))]) X d_BA_wager_18 (by decide) rfl ?_
  refine R_aload_n X 2 d_BA_wager_19 rfl ?_
  refine V_pc (pc' := 20) rfl ?_
  refine R_getR (ci := 6) X rfl iBA_ok (of_decide_eq_true rfl) rfl 1 rfl rfl tw_235 d_BA_wager_20 ?_
  refine R_iload_n X 1 d_BA_wager_23 rfl ?_
  refine R_aload_n X 2 d_BA_wager_24 rfl ?_
  refine R_iconst (v := (2 : Int32)) X d_BA_wager_25 rfl ?_
  obtain ⟨p7, e6, h⟩ := ob h
  refine R_vcall (ci := 6) (k := 0) (As := [.int (2 : Int32)]) (st := [.int p3.1, .ref (gA (zG Z) 3)]) X (M_BA_draw e6) tw_508 cf_BA_draw (of_decide_eq_true rfl) rfl rfl rfl rfl rfl d_BA_wager_26 ?_
  refine R_ifne (tgt := 37) X d_BA_wager_29 rfl (fun c8 => ?_) (fun c8 => ?_)
  · replace h := (if_neg c8).symm.trans h
    refine R_iload_n X 0 d_BA_wager_37 rfl ?_
    obtain ⟨p12, e11, h⟩ := ob h
    refine R_vcallv (ci := 5) (k := 3) (As := [.int p3.1, .int p5.1]) (st := []) X (M_St_change rfl e11) tw_482 cf_St_change (of_decide_eq_true rfl) rfl rfl rfl rfl rfl d_BA_wager_38 ?_
    exact R_retv hR h d_BA_wager_41
  · replace h := (if_pos c8).symm.trans h
    refine R_iload_n X 0 d_BA_wager_32 rfl ?_
    refine R_ineg X d_BA_wager_33 ?_
    refine R_goto (tgt := 38) X d_BA_wager_34 rfl ?_
    obtain ⟨p10, e9, h⟩ := ob h
    refine R_vcallv (ci := 5) (k := 3) (As := [.int p3.1, .int (-p5.1)]) (st := []) X (M_St_change rfl e9) tw_482 cf_St_change (of_decide_eq_true rfl) rfl rfl rfl rfl rfl d_BA_wager_38 ?_
    exact R_retv hR h d_BA_wager_41
theorem M_BA_wager {G : GT} {hp : HP} {p : Int32 × HP} (h : f_BA_wager hp = some p) : MV G y_BA_wager Y_BA_wager [.ref (gA G 0)] hp p.2 := MV_of rfl (fun Z hz X hR => by subst hz; exact T_BA_wager X h hR)
theorem d_BA_drift_0 : decode prog_1_method_14_code 0 = .ok (.iload_n 1, 1) := by decide +kernel
theorem d_BA_drift_1 : decode prog_1_method_14_code 1 = .ok (.iconst 1, 1) := by decide +kernel
theorem d_BA_drift_2 : decode prog_1_method_14_code 2 = .ok (.bipush (60), 2) := by decide +kernel
theorem d_BA_drift_4 : decode prog_1_method_14_code 4 = .ok (.invokestatic 73, 3) := by decide +kernel
theorem d_BA_drift_7 : decode prog_1_method_14_code 7 = .ok (.ifCond .ne (6), 3) := by decide +kernel
theorem d_BA_drift_10 : decode prog_1_method_14_code 10 = .ok (.ldc 77, 2) := by decide +kernel
theorem d_BA_drift_12 : decode prog_1_method_14_code 12 = .ok (.ireturn, 1) := by decide +kernel
theorem d_BA_drift_13 : decode prog_1_method_14_code 13 = .ok (.aload_n 0, 1) := by decide +kernel
theorem d_BA_drift_14 : decode prog_1_method_14_code 14 = .ok (.getfield 59, 3) := by decide +kernel
theorem d_BA_drift_17 : decode prog_1_method_14_code 17 = .ok (.invokevirtual 179, 3) := by decide +kernel
theorem d_BA_drift_20 : decode prog_1_method_14_code 20 = .ok (.ifCond .ne (6), 3) := by decide +kernel
theorem d_BA_drift_23 : decode prog_1_method_14_code 23 = .ok (.ldc 183, 2) := by decide +kernel
theorem d_BA_drift_25 : decode prog_1_method_14_code 25 = .ok (.ireturn, 1) := by decide +kernel
theorem d_BA_drift_26 : decode prog_1_method_14_code 26 = .ok (.aload_n 0, 1) := by decide +kernel
theorem d_BA_drift_27 : decode prog_1_method_14_code 27 = .ok (.getfield 26, 3) := by decide +kernel
theorem d_BA_drift_30 : decode prog_1_method_14_code 30 = .ok (.aload_n 0, 1) := by decide +kernel
theorem d_BA_drift_31 : decode prog_1_method_14_code 31 = .ok (.getfield 19, 3) := by decide +kernel
theorem d_BA_drift_34 : decode prog_1_method_14_code 34 = .ok (.invokevirtual 184, 3) := by decide +kernel
theorem d_BA_drift_37 : decode prog_1_method_14_code 37 = .ok (.aload_n 0, 1) := by decide +kernel
theorem d_BA_drift_38 : decode prog_1_method_14_code 38 = .ok (.getfield 59, 3) := by decide +kernel
theorem d_BA_drift_41 : decode prog_1_method_14_code 41 = .ok (.getfield 99, 3) := by decide +kernel
theorem d_BA_drift_44 : decode prog_1_method_14_code 44 = .ok (.ifCond .le (20), 3) := by decide +kernel
theorem d_BA_drift_47 : decode prog_1_method_14_code 47 = .ok (.iconst 0, 1) := by decide +kernel
theorem d_BA_drift_48 : decode prog_1_method_14_code 48 = .ok (.istore_n 2, 1) := by decide +kernel
theorem d_BA_drift_49 : decode prog_1_method_14_code 49 = .ok (.iload_n 2, 1) := by decide +kernel
theorem d_BA_drift_50 : decode prog_1_method_14_code 50 = .ok (.iload_n 1, 1) := by decide +kernel
theorem d_BA_drift_51 : decode prog_1_method_14_code 51 = .ok (.if_icmp .ge (13), 3) := by decide +kernel
theorem d_BA_drift_54 : decode prog_1_method_14_code 54 = .ok (.aload_n 0, 1) := by decide +kernel
theorem d_BA_drift_55 : decode prog_1_method_14_code 55 = .ok (.invokevirtual 199, 3) := by decide +kernel
theorem d_BA_drift_58 : decode prog_1_method_14_code 58 = .ok (.iinc 2 (1), 3) := by decide +kernel
theorem d_BA_drift_61 : decode prog_1_method_14_code 61 = .ok (.goto (-12), 3) := by decide +kernel
theorem d_BA_drift_64 : decode prog_1_method_14_code 64 = .ok (.aload_n 0, 1) := by decide +kernel
theorem d_BA_drift_65 : decode prog_1_method_14_code 65 = .ok (.invokevirtual 111, 3) := by decide +kernel
theorem d_BA_drift_68 : decode prog_1_method_14_code 68 = .ok (.ireturn, 1) := by decide +kernel
set_option maxRecDepth 20000 in
set_option maxHeartbeats 2000000 in
theorem T_BA_drift_L49 {Z : ZT} (X : CX Z Y_BA_drift) {v1 : Int32} {p : Int32 × HP} (hR : RetI Z Y_BA_drift .int p.1 p.2) {K : HP → Option (Int32 × HP)} (hK : ∀ (hp : HP), K hp = some p → V Z Y_BA_drift hp 64 [(0, .ref (gA (zG Z) 0))] []) : ∀ (n : Nat) (hp : HP) (x2 : Int32), f_BA_drift_L49 v1 K n hp x2 = some p → V Z Y_BA_drift hp 49 [(0, .ref (gA (zG Z) 0)), (1, .int v1), (2, .int x2)] [] := by
  intro n
  induction n with
  | zero =>
    intro hp x2 h
    cases h
  | succ n ih =>
    intro hp x2 h
    replace h : f_BA_drift_L49 v1 K (n + 1) hp x2 = some p := h
    unfold f_BA_drift_L49 at h
    refine R_iload_n X 2 d_BA_drift_49 rfl ?_
    refine R_iload_n X 1 d_BA_drift_50 rfl ?_
    refine R_icmp_ge (tgt := 64) X d_BA_drift_51 rfl (fun c14 => ?_) (fun c14 => ?_)
    · replace h := (if_pos c14).symm.trans h
      refine V_pc (pc' := 64) rfl (R_loc (L' := [(0, .ref (gA (zG Z) 0))]) [0] rfl ?_)
      exact hK hp h
    · replace h := (if_neg c14).symm.trans h
      refine R_aload_n X 0 d_BA_drift_54 rfl ?_
      obtain ⟨p16, e15, h⟩ := ob h
      refine R_vcallv (ci := 6) (k := 0) (As := []) (st := []) X (M_BA_wager e15) tw_504 cf_BA_wager (of_decide_eq_true rfl) rfl rfl rfl rfl rfl d_BA_drift_55 ?_
      refine R_iinc (v := (x2 + 1)) (L' := [(2, .int (x2 + 1)), (0, .ref (gA (zG Z) 0)), (1, .int v1)]) X 2 d_BA_drift_58 rfl rfl (by decide) rfl ?_
      refine R_goto (tgt := 49) X d_BA_drift_61 rfl ?_
      refine V_pc (pc' := 49) rfl (R_loc (L' := [(0, .ref (gA (zG Z) 0)), (1, .int v1), (2, .int (x2 + 1))]) [1, 2, 0] rfl ?_)
      exact ih p16.2 (x2 + 1) h
set_option maxRecDepth 20000 in
set_option maxHeartbeats 2000000 in
theorem T_BA_drift {Z : ZT} (X : CX Z Y_BA_drift) {hp : HP} {a1 : Int32} {p : Int32 × HP} (h : f_BA_drift hp a1 = some p) (hR : RetI Z Y_BA_drift .int p.1 p.2) : V Z Y_BA_drift hp 0 [(0, .ref (gA (zG Z) 0)), (1, .int a1)] [] := by
  unfold f_BA_drift at h
  refine R_iload_n X 1 d_BA_drift_0 rfl ?_
  refine R_iconst (v := (1 : Int32)) X d_BA_drift_1 rfl ?_
  refine R_bipush (v := (60 : Int32)) X d_BA_drift_2 rfl ?_
  obtain ⟨p2, e1, h⟩ := ob h
  refine R_scall (As := [.int a1, .int (1 : Int32), .int (60 : Int32)]) (st := []) X (M_BA_within e1) tw_275 cf_BA_within rfl rfl rfl d_BA_drift_4 ?_
  refine R_ifne (tgt := 13) X d_BA_drift_7 rfl (fun c3 => ?_) (fun c3 => ?_)
  · replace h := (if_neg c3).symm.trans h
    refine R_aload_n X 0 d_BA_drift_13 rfl ?_
    refine R_getD (ci := 6) X rfl iBA_ok (of_decide_eq_true rfl) rfl 8 rfl rfl tw_242 d_BA_drift_14 ?_
    obtain ⟨b4, h⟩ := ck h
    obtain ⟨p6, e5, h⟩ := ob h
    refine R_vcall (ci := 0) (k := (p2.2 0 8).toNatClampNeg) (As := []) (st := []) X (M_Br_isThere b4 e5) tw_455 cf_Br_isThere (B_all _ b4).1.1 (B_all _ b4).1.2 rfl rfl rfl rfl d_BA_drift_17 ?_
    refine R_ifne (tgt := 26) X d_BA_drift_20 rfl (fun c7 => ?_) (fun c7 => ?_)
    · replace h := (if_neg c7).symm.trans h
      refine R_aload_n X 0 d_BA_drift_26 rfl ?_
      refine R_getR (ci := 6) X rfl iBA_ok (of_decide_eq_true rfl) rfl 2 rfl rfl tw_236 d_BA_drift_27 ?_
      refine R_aload_n X 0 d_BA_drift_30 rfl ?_
      refine R_getR (ci := 6) X rfl iBA_ok (of_decide_eq_true rfl) rfl 1 rfl rfl tw_235 d_BA_drift_31 ?_
      obtain ⟨p9, e8, h⟩ := ob h
      refine R_vcallv (ci := 1) (k := 6) (As := [.ref (gA (zG Z) 3)]) (st := []) X (M_Pa_push rfl e8) tw_457 cf_Pa_push (of_decide_eq_true rfl) rfl rfl rfl rfl rfl d_BA_drift_34 ?_
      refine V_pc (pc' := 37) rfl ?_
      refine R_aload_n X 0 d_BA_drift_37 rfl ?_
      refine R_getD (ci := 6) X rfl iBA_ok (of_decide_eq_true rfl) rfl 8 rfl rfl tw_242 d_BA_drift_38 ?_
      obtain ⟨b10, h⟩ := ck h
      refine R_getI (ci := 0) X rfl iBr_ok (B_all _ b10).1.1 (B_all _ b10).1.2 6 rfl rfl tw_212 d_BA_drift_41 ?_
      refine R_ifle (tgt := 64) X d_BA_drift_44 rfl (fun c11 => ?_) (fun c11 => ?_)
      · replace h := (if_pos c11).symm.trans h
        refine R_aload_n X 0 d_BA_drift_64 rfl ?_
        obtain ⟨p13, e12, h⟩ := ob h
        refine R_vcall (ci := 6) (k := 0) (As := []) (st := []) X (M_BA_hats e12) tw_371 cf_BA_hats (of_decide_eq_true rfl) rfl rfl rfl rfl rfl d_BA_drift_65 ?_
        exact R_ret hR h d_BA_drift_68
      · replace h := (if_neg c11).symm.trans h
        refine R_iconst (v := (0 : Int32)) X d_BA_drift_47 rfl ?_
        refine R_istore_n (L' := [(2, .int (0 : Int32)), (0, .ref (gA (zG Z) 0)), (1, .int a1)]) X d_BA_drift_48 (by decide) rfl ?_
        refine V_pc (pc' := 49) rfl (R_loc (L' := [(0, .ref (gA (zG Z) 0)), (1, .int a1), (2, .int (0 : Int32))]) [1, 2, 0] rfl ?_)
        refine T_BA_drift_L49 X hR (fun hp17 h => ?_) _ p9.2 (0 : Int32) h
        refine R_aload_n X 0 d_BA_drift_64 rfl ?_
        obtain ⟨p19, e18, h⟩ := ob h
        refine R_vcall (ci := 6) (k := 0) (As := []) (st := []) X (M_BA_hats e18) tw_371 cf_BA_hats (of_decide_eq_true rfl) rfl rfl rfl rfl rfl d_BA_drift_65 ?_
        exact R_ret hR h d_BA_drift_68
    · replace h := (if_pos c7).symm.trans h
      refine R_ldc (v := (-1000000003 : Int32)) X tw_456 d_BA_drift_23 ?_
      exact R_ret hR h d_BA_drift_25
  · replace h := (if_pos c3).symm.trans h
    refine R_ldc (v := (-1000000002 : Int32)) X tw_278 d_BA_drift_10 ?_
    exact R_ret hR h d_BA_drift_12
theorem M_BA_drift {G : GT} {hp : HP} {a1 : Int32} {p : Int32 × HP} (h : f_BA_drift hp a1 = some p) : MI G y_BA_drift Y_BA_drift .int [.ref (gA G 0), .int a1] hp p.1 p.2 := MI_of rfl (fun Z hz X hR => by subst hz; exact T_BA_drift X h hR)
theorem d_Pa_popInto_0 : decode prog_3_method_4_code 0 = .ok (.aload_n 0, 1) := by decide +kernel
theorem d_Pa_popInto_1 : decode prog_3_method_4_code 1 = .ok (.getfield 18, 3) := by decide +kernel
theorem d_Pa_popInto_4 : decode prog_3_method_4_code 4 = .ok (.ifCond .le (42), 3) := by decide +kernel
theorem d_Pa_popInto_7 : decode prog_3_method_4_code 7 = .ok (.aload_n 0, 1) := by decide +kernel
theorem d_Pa_popInto_8 : decode prog_3_method_4_code 8 = .ok (.aload_n 0, 1) := by decide +kernel
theorem d_Pa_popInto_9 : decode prog_3_method_4_code 9 = .ok (.getfield 22, 3) := by decide +kernel
theorem d_Pa_popInto_12 : decode prog_3_method_4_code 12 = .ok (.bipush (20), 2) := by decide +kernel
theorem d_Pa_popInto_14 : decode prog_3_method_4_code 14 = .ok (.iadd, 1) := by decide +kernel
theorem d_Pa_popInto_15 : decode prog_3_method_4_code 15 = .ok (.iconst 1, 1) := by decide +kernel
theorem d_Pa_popInto_16 : decode prog_3_method_4_code 16 = .ok (.isub, 1) := by decide +kernel
theorem d_Pa_popInto_17 : decode prog_3_method_4_code 17 = .ok (.bipush (20), 2) := by decide +kernel
theorem d_Pa_popInto_19 : decode prog_3_method_4_code 19 = .ok (.irem, 1) := by decide +kernel
theorem d_Pa_popInto_20 : decode prog_3_method_4_code 20 = .ok (.putfield 22, 3) := by decide +kernel
theorem d_Pa_popInto_23 : decode prog_3_method_4_code 23 = .ok (.aload_n 1, 1) := by decide +kernel
theorem d_Pa_popInto_24 : decode prog_3_method_4_code 24 = .ok (.aload_n 0, 1) := by decide +kernel
theorem d_Pa_popInto_25 : decode prog_3_method_4_code 25 = .ok (.getfield 11, 3) := by decide +kernel
theorem d_Pa_popInto_28 : decode prog_3_method_4_code 28 = .ok (.aload_n 0, 1) := by decide +kernel
theorem d_Pa_popInto_29 : decode prog_3_method_4_code 29 = .ok (.getfield 22, 3) := by decide +kernel
theorem d_Pa_popInto_32 : decode prog_3_method_4_code 32 = .ok (.aaload, 1) := by decide +kernel
theorem d_Pa_popInto_33 : decode prog_3_method_4_code 33 = .ok (.invokevirtual 25, 3) := by decide +kernel
theorem d_Pa_popInto_36 : decode prog_3_method_4_code 36 = .ok (.aload_n 0, 1) := by decide +kernel
theorem d_Pa_popInto_37 : decode prog_3_method_4_code 37 = .ok (.dup, 1) := by decide +kernel
theorem d_Pa_popInto_38 : decode prog_3_method_4_code 38 = .ok (.getfield 18, 3) := by decide +kernel
theorem d_Pa_popInto_41 : decode prog_3_method_4_code 41 = .ok (.iconst 1, 1) := by decide +kernel
theorem d_Pa_popInto_42 : decode prog_3_method_4_code 42 = .ok (.isub, 1) := by decide +kernel
theorem d_Pa_popInto_43 : decode prog_3_method_4_code 43 = .ok (.putfield 18, 3) := by decide +kernel
theorem d_Pa_popInto_46 : decode prog_3_method_4_code 46 = .ok (.return_, 1) := by decide +kernel
set_option maxRecDepth 20000 in
set_option maxHeartbeats 2000000 in
theorem T_Pa_popInto {Z : ZT} (X : CX Z Y_Pa_popInto) {hp : HP} {q1 : Nat} (hq1 : isS q1 = true) {p : Int32 × HP} (h : f_Pa_popInto hp q1 = some p) (hR : RetV Z Y_Pa_popInto p.2) : V Z Y_Pa_popInto hp 0 [(0, .ref (gA (zG Z) 6)), (1, .ref (gA (zG Z) q1))] [] := by
  unfold f_Pa_popInto at h
  refine R_aload_n X 0 d_Pa_popInto_0 rfl ?_
  refine R_getI (ci := 1) X rfl iPa_ok (of_decide_eq_true rfl) rfl 2 rfl rfl tw_120 d_Pa_popInto_1 ?_
  refine R_ifle (tgt := 46) X d_Pa_popInto_4 rfl (fun c1 => ?_) (fun c1 => ?_)
  · replace h := (if_pos c1).symm.trans h
    exact R_retv hR h d_Pa_popInto_46
  · replace h := (if_neg c1).symm.trans h
    refine R_aload_n X 0 d_Pa_popInto_7 rfl ?_
    refine R_aload_n X 0 d_Pa_popInto_8 rfl ?_
    refine R_getI (ci := 1) X rfl iPa_ok (of_decide_eq_true rfl) rfl 1 rfl rfl tw_119 d_Pa_popInto_9 ?_
    refine R_bipush (v := (20 : Int32)) X d_Pa_popInto_12 rfl ?_
    refine R_iadd X d_Pa_popInto_14 ?_
    refine V_pc (pc' := 15) rfl ?_
    refine R_iconst (v := (1 : Int32)) X d_Pa_popInto_15 rfl ?_
    refine R_isub X d_Pa_popInto_16 ?_
    refine R_bipush (v := (20 : Int32)) X d_Pa_popInto_17 rfl ?_
    refine R_irem X d_Pa_popInto_19 (by decide) ?_
    refine R_putI (ci := 1) X rfl iPa_ok yPa_ok nPa_ok (of_decide_eq_true rfl) rfl 1 rfl rfl rfl rfl tw_119 d_Pa_popInto_20 ?_
    refine R_aload_n X 1 d_Pa_popInto_23 rfl ?_
    refine V_pc (pc' := 24) rfl ?_
    refine R_aload_n X 0 d_Pa_popInto_24 rfl ?_
    refine R_getR (ci := 1) X rfl iPa_ok (of_decide_eq_true rfl) rfl 0 rfl rfl tw_118 d_Pa_popInto_25 ?_
    refine R_aload_n X 0 d_Pa_popInto_28 rfl ?_
    refine R_getI (ci := 1) X rfl iPa_ok (of_decide_eq_true rfl) rfl 1 rfl rfl tw_119 d_Pa_popInto_29 ?_
    obtain ⟨i2, h⟩ := ck h
    refine R_aald (n := 20) X (of_decide_eq_true rfl) rfl i2 d_Pa_popInto_32 ?_
    obtain ⟨b3, h⟩ := ck h
    obtain ⟨p5, e4, h⟩ := ob h
    refine R_vcallv (ci := 5) (k := q1) (As := [.ref (gA (zG Z) (7 + 1 + 3 * (((up hp 6 1 ((((hp 6 1) + (20 : Int32)) - (1 : Int32)) - (((hp 6 1) + (20 : Int32)) - (1 : Int32)) / (20 : Int32) * (20 : Int32))) 6 1)).toNatClampNeg))]) (st := []) X (M_St_copyFrom hq1 b3 e4) tw_461 cf_St_copyFrom (S_all _ hq1).1.1 (S_all _ hq1).1.2 rfl rfl rfl rfl d_Pa_popInto_33 ?_
    refine V_pc (pc' := 36) rfl ?_
    refine R_aload_n X 0 d_Pa_popInto_36 rfl ?_
    refine R_dup X d_Pa_popInto_37 rfl ?_
    refine R_getI (ci := 1) X rfl iPa_ok (of_decide_eq_true rfl) rfl 2 rfl rfl tw_120 d_Pa_popInto_38 ?_
    refine R_iconst (v := (1 : Int32)) X d_Pa_popInto_41 rfl ?_
    refine R_isub X d_Pa_popInto_42 ?_
    refine R_putI (ci := 1) X rfl iPa_ok yPa_ok nPa_ok (of_decide_eq_true rfl) rfl 2 rfl rfl rfl rfl tw_120 d_Pa_popInto_43 ?_
    refine V_pc (pc' := 46) rfl ?_
    exact R_retv hR h d_Pa_popInto_46
theorem M_Pa_popInto {G : GT} {hp : HP} {q1 : Nat} (hq1 : isS q1 = true) {p : Int32 × HP} (h : f_Pa_popInto hp q1 = some p) : MV G y_Pa_popInto Y_Pa_popInto [.ref (gA G 6), .ref (gA G q1)] hp p.2 := MV_of rfl (fun Z hz X hR => by subst hz; exact T_Pa_popInto X hq1 h hR)
theorem d_BA_undo_0 : decode prog_1_method_15_code 0 = .ok (.aload_n 0, 1) := by decide +kernel
theorem d_BA_undo_1 : decode prog_1_method_15_code 1 = .ok (.getfield 26, 3) := by decide +kernel
theorem d_BA_undo_4 : decode prog_1_method_15_code 4 = .ok (.getfield 134, 3) := by decide +kernel
theorem d_BA_undo_7 : decode prog_1_method_15_code 7 = .ok (.ifCond .ne (6), 3) := by decide +kernel
theorem d_BA_undo_10 : decode prog_1_method_15_code 10 = .ok (.ldc 183, 2) := by decide +kernel
theorem d_BA_undo_12 : decode prog_1_method_15_code 12 = .ok (.ireturn, 1) := by decide +kernel
theorem d_BA_undo_13 : decode prog_1_method_15_code 13 = .ok (.aload_n 0, 1) := by decide +kernel
theorem d_BA_undo_14 : decode prog_1_method_15_code 14 = .ok (.getfield 26, 3) := by decide +kernel
theorem d_BA_undo_17 : decode prog_1_method_15_code 17 = .ok (.aload_n 0, 1) := by decide +kernel
theorem d_BA_undo_18 : decode prog_1_method_15_code 18 = .ok (.getfield 19, 3) := by decide +kernel
theorem d_BA_undo_21 : decode prog_1_method_15_code 21 = .ok (.invokevirtual 202, 3) := by decide +kernel
theorem d_BA_undo_24 : decode prog_1_method_15_code 24 = .ok (.aload_n 0, 1) := by decide +kernel
theorem d_BA_undo_25 : decode prog_1_method_15_code 25 = .ok (.getfield 26, 3) := by decide +kernel
theorem d_BA_undo_28 : decode prog_1_method_15_code 28 = .ok (.getfield 134, 3) := by decide +kernel
theorem d_BA_undo_31 : decode prog_1_method_15_code 31 = .ok (.ireturn, 1) := by decide +kernel
set_option maxRecDepth 20000 in
set_option maxHeartbeats 2000000 in
theorem T_BA_undo {Z : ZT} (X : CX Z Y_BA_undo) {hp : HP} {p : Int32 × HP} (h : f_BA_undo hp = some p) (hR : RetI Z Y_BA_undo .int p.1 p.2) : V Z Y_BA_undo hp 0 [(0, .ref (gA (zG Z) 0))] [] := by
  unfold f_BA_undo at h
  refine R_aload_n X 0 d_BA_undo_0 rfl ?_
  refine R_getR (ci := 6) X rfl iBA_ok (of_decide_eq_true rfl) rfl 2 rfl rfl tw_236 d_BA_undo_1 ?_
  refine R_getI (ci := 1) X rfl iPa_ok (of_decide_eq_true rfl) rfl 2 rfl rfl tw_121 d_BA_undo_4 ?_
  refine R_ifne (tgt := 13) X d_BA_undo_7 rfl (fun c1 => ?_) (fun c1 => ?_)
  · replace h := (if_neg c1).symm.trans h
    refine R_aload_n X 0 d_BA_undo_13 rfl ?_
    refine R_getR (ci := 6) X rfl iBA_ok (of_decide_eq_true rfl) rfl 2 rfl rfl tw_236 d_BA_undo_14 ?_
    refine R_aload_n X 0 d_BA_undo_17 rfl ?_
    refine R_getR (ci := 6) X rfl iBA_ok (of_decide_eq_true rfl) rfl 1 rfl rfl tw_235 d_BA_undo_18 ?_
    obtain ⟨p3, e2, h⟩ := ob h
    refine R_vcallv (ci := 1) (k := 6) (As := [.ref (gA (zG Z) 3)]) (st := []) X (M_Pa_popInto rfl e2) tw_520 cf_Pa_popInto (of_decide_eq_true rfl) rfl rfl rfl rfl rfl d_BA_undo_21 ?_
    refine V_pc (pc' := 24) rfl ?_
    refine R_aload_n X 0 d_BA_undo_24 rfl ?_
    refine R_getR (ci := 6) X rfl iBA_ok (of_decide_eq_true rfl) rfl 2 rfl rfl tw_236 d_BA_undo_25 ?_
    refine R_getI (ci := 1) X rfl iPa_ok (of_decide_eq_true rfl) rfl 2 rfl rfl tw_121 d_BA_undo_28 ?_
    exact R_ret hR h d_BA_undo_31
  · replace h := (if_pos c1).symm.trans h
    refine R_ldc (v := (-1000000003 : Int32)) X tw_456 d_BA_undo_10 ?_
    exact R_ret hR h d_BA_undo_12
theorem M_BA_undo {G : GT} {hp : HP} {p : Int32 × HP} (h : f_BA_undo hp = some p) : MI G y_BA_undo Y_BA_undo .int [.ref (gA G 0)] hp p.1 p.2 := MI_of rfl (fun Z hz X hR => by subst hz; exact T_BA_undo X h hR)
theorem d_BA_hat_0 : decode prog_1_method_16_code 0 = .ok (.aload_n 0, 1) := by decide +kernel
theorem d_BA_hat_1 : decode prog_1_method_16_code 1 = .ok (.getfield 59, 3) := by decide +kernel
theorem d_BA_hat_4 : decode prog_1_method_16_code 4 = .ok (.iload_n 1, 1) := by decide +kernel
theorem d_BA_hat_5 : decode prog_1_method_16_code 5 = .ok (.invokevirtual 145, 3) := by decide +kernel
theorem d_BA_hat_8 : decode prog_1_method_16_code 8 = .ok (.ifCond .ne (6), 3) := by decide +kernel
theorem d_BA_hat_11 : decode prog_1_method_16_code 11 = .ok (.ldc 144, 2) := by decide +kernel
theorem d_BA_hat_13 : decode prog_1_method_16_code 13 = .ok (.ireturn, 1) := by decide +kernel
theorem d_BA_hat_14 : decode prog_1_method_16_code 14 = .ok (.aload_n 0, 1) := by decide +kernel
theorem d_BA_hat_15 : decode prog_1_method_16_code 15 = .ok (.getfield 19, 3) := by decide +kernel
theorem d_BA_hat_18 : decode prog_1_method_16_code 18 = .ok (.getfield 148, 3) := by decide +kernel
theorem d_BA_hat_21 : decode prog_1_method_16_code 21 = .ok (.iload_n 1, 1) := by decide +kernel
theorem d_BA_hat_22 : decode prog_1_method_16_code 22 = .ok (.iaload, 1) := by decide +kernel
theorem d_BA_hat_23 : decode prog_1_method_16_code 23 = .ok (.istore_n 2, 1) := by decide +kernel
theorem d_BA_hat_24 : decode prog_1_method_16_code 24 = .ok (.iconst 0, 1) := by decide +kernel
theorem d_BA_hat_25 : decode prog_1_method_16_code 25 = .ok (.istore_n 3, 1) := by decide +kernel
theorem d_BA_hat_26 : decode prog_1_method_16_code 26 = .ok (.iload_n 3, 1) := by decide +kernel
theorem d_BA_hat_27 : decode prog_1_method_16_code 27 = .ok (.sipush (200), 3) := by decide +kernel
theorem d_BA_hat_30 : decode prog_1_method_16_code 30 = .ok (.if_icmp .gt (32), 3) := by decide +kernel
theorem d_BA_hat_33 : decode prog_1_method_16_code 33 = .ok (.aload_n 0, 1) := by decide +kernel
theorem d_BA_hat_34 : decode prog_1_method_16_code 34 = .ok (.getfield 59, 3) := by decide +kernel
theorem d_BA_hat_37 : decode prog_1_method_16_code 37 = .ok (.iload_n 2, 1) := by decide +kernel
theorem d_BA_hat_38 : decode prog_1_method_16_code 38 = .ok (.invokevirtual 151, 3) := by decide +kernel
theorem d_BA_hat_41 : decode prog_1_method_16_code 41 = .ok (.ifCond .ne (5), 3) := by decide +kernel
theorem d_BA_hat_44 : decode prog_1_method_16_code 44 = .ok (.iload_n 3, 1) := by decide +kernel
theorem d_BA_hat_45 : decode prog_1_method_16_code 45 = .ok (.ireturn, 1) := by decide +kernel
theorem d_BA_hat_46 : decode prog_1_method_16_code 46 = .ok (.aload_n 0, 1) := by decide +kernel
theorem d_BA_hat_47 : decode prog_1_method_16_code 47 = .ok (.getfield 59, 3) := by decide +kernel
theorem d_BA_hat_50 : decode prog_1_method_16_code 50 = .ok (.iload_n 1, 1) := by decide +kernel
theorem d_BA_hat_51 : decode prog_1_method_16_code 51 = .ok (.iload_n 2, 1) := by decide +kernel
theorem d_BA_hat_52 : decode prog_1_method_16_code 52 = .ok (.invokevirtual 205, 3) := by decide +kernel
theorem d_BA_hat_55 : decode prog_1_method_16_code 55 = .ok (.istore_n 2, 1) := by decide +kernel
theorem d_BA_hat_56 : decode prog_1_method_16_code 56 = .ok (.iinc 3 (1), 3) := by decide +kernel
theorem d_BA_hat_59 : decode prog_1_method_16_code 59 = .ok (.goto (-33), 3) := by decide +kernel
theorem d_BA_hat_62 : decode prog_1_method_16_code 62 = .ok (.iconst (-1), 1) := by decide +kernel
theorem d_BA_hat_63 : decode prog_1_method_16_code 63 = .ok (.ireturn, 1) := by decide +kernel
set_option maxRecDepth 20000 in
set_option maxHeartbeats 2000000 in
theorem T_BA_hat_L26 {Z : ZT} (X : CX Z Y_BA_hat) {v1 : Int32} {p : Int32 × HP} (hR : RetI Z Y_BA_hat .int p.1 p.2) {K : HP → Option (Int32 × HP)} (hK : ∀ (hp : HP), K hp = some p → V Z Y_BA_hat hp 62 [] []) : ∀ (n : Nat) (hp : HP) (x2 : Int32) (x3 : Int32), f_BA_hat_L26 v1 K n hp x2 x3 = some p → V Z Y_BA_hat hp 26 [(0, .ref (gA (zG Z) 0)), (1, .int v1), (2, .int x2), (3, .int x3)] [] := by
  intro n
  induction n with
  | zero =>
    intro hp x2 x3 h
    cases h
  | succ n ih =>
    intro hp x2 x3 h
    replace h : f_BA_hat_L26 v1 K (n + 1) hp x2 x3 = some p := h
    unfold f_BA_hat_L26 at h
    refine R_iload_n X 3 d_BA_hat_26 rfl ?_
    refine R_sipush (v := (200 : Int32)) X d_BA_hat_27 rfl ?_
    refine R_icmp_gt (tgt := 62) X d_BA_hat_30 rfl (fun c6 => ?_) (fun c6 => ?_)
    · replace h := (if_pos c6).symm.trans h
      refine V_pc (pc' := 62) rfl (R_loc (L' := []) [] rfl ?_)
      exact hK hp h
    · replace h := (if_neg c6).symm.trans h
      refine R_aload_n X 0 d_BA_hat_33 rfl ?_
      refine R_getD (ci := 6) X rfl iBA_ok (of_decide_eq_true rfl) rfl 8 rfl rfl tw_242 d_BA_hat_34 ?_
      obtain ⟨b7, h⟩ := ck h
      refine R_iload_n X 2 d_BA_hat_37 rfl ?_
      obtain ⟨p9, e8, h⟩ := ob h
      refine R_vcall (ci := 0) (k := (hp 0 8).toNatClampNeg) (As := [.int x2]) (st := []) X (M_Br_partsAt b7 e8) tw_375 cf_Br_partsAt (B_all _ b7).1.1 (B_all _ b7).1.2 rfl rfl rfl rfl d_BA_hat_38 ?_
      refine R_ifne (tgt := 46) X d_BA_hat_41 rfl (fun c10 => ?_) (fun c10 => ?_)
      · replace h := (if_neg c10).symm.trans h
        refine R_aload_n X 0 d_BA_hat_46 rfl ?_
        refine R_getD (ci := 6) X rfl iBA_ok (of_decide_eq_true rfl) rfl 8 rfl rfl tw_242 d_BA_hat_47 ?_
        obtain ⟨b11, h⟩ := ck h
        refine R_iload_n X 1 d_BA_hat_50 rfl ?_
        refine R_iload_n X 2 d_BA_hat_51 rfl ?_
        obtain ⟨p13, e12, h⟩ := ob h
        refine R_vcall (ci := 0) (k := (p9.2 0 8).toNatClampNeg) (As := [.int v1, .int x2]) (st := []) X (M_Br_afterMonth b11 e12) tw_528 cf_Br_afterMonth (B_all _ b11).1.1 (B_all _ b11).1.2 rfl rfl rfl rfl d_BA_hat_52 ?_
        refine V_pc (pc' := 55) rfl ?_
        refine R_istore_n (L' := [(2, .int p13.1), (0, .ref (gA (zG Z) 0)), (1, .int v1), (3, .int x3)]) X d_BA_hat_55 (by decide) rfl ?_
        refine R_iinc (v := (x3 + 1)) (L' := [(3, .int (x3 + 1)), (2, .int p13.1), (0, .ref (gA (zG Z) 0)), (1, .int v1)]) X 3 d_BA_hat_56 rfl rfl (by decide) rfl ?_
        refine R_goto (tgt := 26) X d_BA_hat_59 rfl ?_
        refine V_pc (pc' := 26) rfl (R_loc (L' := [(0, .ref (gA (zG Z) 0)), (1, .int v1), (2, .int p13.1), (3, .int (x3 + 1))]) [2, 3, 1, 0] rfl ?_)
        exact ih p13.2 p13.1 (x3 + 1) h
      · replace h := (if_pos c10).symm.trans h
        refine R_iload_n X 3 d_BA_hat_44 rfl ?_
        exact R_ret hR h d_BA_hat_45
set_option maxRecDepth 20000 in
set_option maxHeartbeats 2000000 in
theorem T_BA_hat {Z : ZT} (X : CX Z Y_BA_hat) {hp : HP} {a1 : Int32} {p : Int32 × HP} (h : f_BA_hat hp a1 = some p) (hR : RetI Z Y_BA_hat .int p.1 p.2) : V Z Y_BA_hat hp 0 [(0, .ref (gA (zG Z) 0)), (1, .int a1)] [] := by
  unfold f_BA_hat at h
  refine R_aload_n X 0 d_BA_hat_0 rfl ?_
  refine R_getD (ci := 6) X rfl iBA_ok (of_decide_eq_true rfl) rfl 8 rfl rfl tw_242 d_BA_hat_1 ?_
  obtain ⟨b1, h⟩ := ck h
  refine R_iload_n X 1 d_BA_hat_4 rfl ?_
  obtain ⟨p3, e2, h⟩ := ob h
  refine R_vcall (ci := 0) (k := (hp 0 8).toNatClampNeg) (As := [.int a1]) (st := []) X (M_Br_hasCustomer b1 e2) tw_419 cf_Br_hasCustomer (B_all _ b1).1.1 (B_all _ b1).1.2 rfl rfl rfl rfl d_BA_hat_5 ?_
  refine R_ifne (tgt := 14) X d_BA_hat_8 rfl (fun c4 => ?_) (fun c4 => ?_)
  · replace h := (if_neg c4).symm.trans h
    refine R_aload_n X 0 d_BA_hat_14 rfl ?_
    refine R_getR (ci := 6) X rfl iBA_ok (of_decide_eq_true rfl) rfl 1 rfl rfl tw_235 d_BA_hat_15 ?_
    refine R_getR (ci := 5) X rfl iSt_ok (of_decide_eq_true rfl) rfl 0 rfl rfl tw_98 d_BA_hat_18 ?_
    refine R_iload_n X 1 d_BA_hat_21 rfl ?_
    obtain ⟨i5, h⟩ := ck h
    refine R_iald (n := 5) X (of_decide_eq_true rfl) rfl i5 d_BA_hat_22 ?_
    refine V_pc (pc' := 23) rfl ?_
    refine R_istore_n (L' := [(2, .int (p3.2 4 (a1).toNatClampNeg)), (0, .ref (gA (zG Z) 0)), (1, .int a1)]) X d_BA_hat_23 (by decide) rfl ?_
    refine R_iconst (v := (0 : Int32)) X d_BA_hat_24 rfl ?_
    refine R_istore_n (L' := [(3, .int (0 : Int32)), (2, .int (p3.2 4 (a1).toNatClampNeg)), (0, .ref (gA (zG Z) 0)), (1, .int a1)]) X d_BA_hat_25 (by decide) rfl ?_
    refine V_pc (pc' := 26) rfl (R_loc (L' := [(0, .ref (gA (zG Z) 0)), (1, .int a1), (2, .int (p3.2 4 (a1).toNatClampNeg)), (3, .int (0 : Int32))]) [2, 3, 1, 0] rfl ?_)
    refine T_BA_hat_L26 X hR (fun hp14 h => ?_) _ p3.2 (p3.2 4 (a1).toNatClampNeg) (0 : Int32) h
    refine R_iconst (v := (-1 : Int32)) X d_BA_hat_62 rfl ?_
    exact R_ret hR h d_BA_hat_63
  · replace h := (if_pos c4).symm.trans h
    refine R_ldc (v := (-1000000001 : Int32)) X tw_414 d_BA_hat_11 ?_
    exact R_ret hR h d_BA_hat_13
theorem M_BA_hat {G : GT} {hp : HP} {a1 : Int32} {p : Int32 × HP} (h : f_BA_hat hp a1 = some p) : MI G y_BA_hat Y_BA_hat .int [.ref (gA G 0), .int a1] hp p.1 p.2 := MI_of rfl (fun Z hz X hR => by subst hz; exact T_BA_hat X h hR)
theorem d_BA_able_0 : decode prog_1_method_17_code 0 = .ok (.aload_n 0, 1) := by decide +kernel
theorem d_BA_able_1 : decode prog_1_method_17_code 1 = .ok (.getfield 59, 3) := by decide +kernel
theorem d_BA_able_4 : decode prog_1_method_17_code 4 = .ok (.iload_n 1, 1) := by decide +kernel
theorem d_BA_able_5 : decode prog_1_method_17_code 5 = .ok (.invokevirtual 145, 3) := by decide +kernel
theorem d_BA_able_8 : decode prog_1_method_17_code 8 = .ok (.ifCond .eq (14), 3) := by decide +kernel
theorem d_BA_able_11 : decode prog_1_method_17_code 11 = .ok (.aload_n 0, 1) := by decide +kernel
theorem d_BA_able_12 : decode prog_1_method_17_code 12 = .ok (.getfield 59, 3) := by decide +kernel
theorem d_BA_able_15 : decode prog_1_method_17_code 15 = .ok (.iload_n 2, 1) := by decide +kernel
theorem d_BA_able_16 : decode prog_1_method_17_code 16 = .ok (.invokevirtual 173, 3) := by decide +kernel
theorem d_BA_able_19 : decode prog_1_method_17_code 19 = .ok (.ifCond .ne (6), 3) := by decide +kernel
theorem d_BA_able_22 : decode prog_1_method_17_code 22 = .ok (.ldc 144, 2) := by decide +kernel
theorem d_BA_able_24 : decode prog_1_method_17_code 24 = .ok (.ireturn, 1) := by decide +kernel
theorem d_BA_able_25 : decode prog_1_method_17_code 25 = .ok (.iload_n 3, 1) := by decide +kernel
theorem d_BA_able_26 : decode prog_1_method_17_code 26 = .ok (.iconst 1, 1) := by decide +kernel
theorem d_BA_able_27 : decode prog_1_method_17_code 27 = .ok (.bipush (60), 2) := by decide +kernel
theorem d_BA_able_29 : decode prog_1_method_17_code 29 = .ok (.invokestatic 73, 3) := by decide +kernel
theorem d_BA_able_32 : decode prog_1_method_17_code 32 = .ok (.ifCond .ne (6), 3) := by decide +kernel
theorem d_BA_able_35 : decode prog_1_method_17_code 35 = .ok (.ldc 77, 2) := by decide +kernel
theorem d_BA_able_37 : decode prog_1_method_17_code 37 = .ok (.ireturn, 1) := by decide +kernel
theorem d_BA_able_38 : decode prog_1_method_17_code 38 = .ok (.aload_n 0, 1) := by decide +kernel
theorem d_BA_able_39 : decode prog_1_method_17_code 39 = .ok (.getfield 19, 3) := by decide +kernel
theorem d_BA_able_42 : decode prog_1_method_17_code 42 = .ok (.getfield 148, 3) := by decide +kernel
theorem d_BA_able_45 : decode prog_1_method_17_code 45 = .ok (.iload_n 1, 1) := by decide +kernel
theorem d_BA_able_46 : decode prog_1_method_17_code 46 = .ok (.iaload, 1) := by decide +kernel
theorem d_BA_able_47 : decode prog_1_method_17_code 47 = .ok (.istore 4, 2) := by decide +kernel
theorem d_BA_able_49 : decode prog_1_method_17_code 49 = .ok (.iconst 0, 1) := by decide +kernel
theorem d_BA_able_50 : decode prog_1_method_17_code 50 = .ok (.istore 5, 2) := by decide +kernel
theorem d_BA_able_52 : decode prog_1_method_17_code 52 = .ok (.iconst 0, 1) := by decide +kernel
theorem d_BA_able_53 : decode prog_1_method_17_code 53 = .ok (.istore 6, 2) := by decide +kernel
theorem d_BA_able_55 : decode prog_1_method_17_code 55 = .ok (.iload 6, 2) := by decide +kernel
theorem d_BA_able_57 : decode prog_1_method_17_code 57 = .ok (.iload_n 3, 1) := by decide +kernel
theorem d_BA_able_58 : decode prog_1_method_17_code 58 = .ok (.if_icmp .ge (37), 3) := by decide +kernel
theorem d_BA_able_61 : decode prog_1_method_17_code 61 = .ok (.aload_n 0, 1) := by decide +kernel
theorem d_BA_able_62 : decode prog_1_method_17_code 62 = .ok (.getfield 59, 3) := by decide +kernel
theorem d_BA_able_65 : decode prog_1_method_17_code 65 = .ok (.iload_n 2, 1) := by decide +kernel
theorem d_BA_able_66 : decode prog_1_method_17_code 66 = .ok (.iload 4, 2) := by decide +kernel
theorem d_BA_able_68 : decode prog_1_method_17_code 68 = .ok (.invokevirtual 176, 3) := by decide +kernel
theorem d_BA_able_71 : decode prog_1_method_17_code 71 = .ok (.ifCond .eq (6), 3) := by decide +kernel
theorem d_BA_able_74 : decode prog_1_method_17_code 74 = .ok (.iinc 5 (1), 3) := by decide +kernel
theorem d_BA_able_77 : decode prog_1_method_17_code 77 = .ok (.aload_n 0, 1) := by decide +kernel
theorem d_BA_able_78 : decode prog_1_method_17_code 78 = .ok (.getfield 59, 3) := by decide +kernel
theorem d_BA_able_81 : decode prog_1_method_17_code 81 = .ok (.iload_n 1, 1) := by decide +kernel
theorem d_BA_able_82 : decode prog_1_method_17_code 82 = .ok (.iload 4, 2) := by decide +kernel
theorem d_BA_able_84 : decode prog_1_method_17_code 84 = .ok (.invokevirtual 205, 3) := by decide +kernel
theorem d_BA_able_87 : decode prog_1_method_17_code 87 = .ok (.istore 4, 2) := by decide +kernel
theorem d_BA_able_89 : decode prog_1_method_17_code 89 = .ok (.iinc 6 (1), 3) := by decide +kernel
theorem d_BA_able_92 : decode prog_1_method_17_code 92 = .ok (.goto (-37), 3) := by decide +kernel
theorem d_BA_able_95 : decode prog_1_method_17_code 95 = .ok (.iload 5, 2) := by decide +kernel
theorem d_BA_able_97 : decode prog_1_method_17_code 97 = .ok (.ireturn, 1) := by decide +kernel
set_option maxRecDepth 20000 in
set_option maxHeartbeats 2000000 in
theorem T_BA_able_L55 {Z : ZT} (X : CX Z Y_BA_able) {v1 : Int32} {v2 : Int32} {v3 : Int32} {p : Int32 × HP} (hR : RetI Z Y_BA_able .int p.1 p.2) {K : HP → Int32 → Option (Int32 × HP)} (hK : ∀ (hp : HP) (x5 : Int32), K hp x5 = some p → V Z Y_BA_able hp 95 [(5, .int x5)] []) : ∀ (n : Nat) (hp : HP) (x4 : Int32) (x5 : Int32) (x6 : Int32), f_BA_able_L55 v1 v2 v3 K n hp x4 x5 x6 = some p → V Z Y_BA_able hp 55 [(0, .ref (gA (zG Z) 0)), (1, .int v1), (2, .int v2), (3, .int v3), (4, .int x4), (5, .int x5), (6, .int x6)] [] := by
  intro n
  induction n with
  | zero =>
    intro hp x4 x5 x6 h
    cases h
  | succ n ih =>
    intro hp x4 x5 x6 h
    replace h : f_BA_able_L55 v1 v2 v3 K (n + 1) hp x4 x5 x6 = some p := h
    unfold f_BA_able_L55 at h
    refine R_iload X 6 d_BA_able_55 rfl ?_
    refine R_iload_n X 3 d_BA_able_57 rfl ?_
    refine R_icmp_ge (tgt := 95) X d_BA_able_58 rfl (fun c13 => ?_) (fun c13 => ?_)
    · replace h := (if_pos c13).symm.trans h
      refine V_pc (pc' := 95) rfl (R_loc (L' := [(5, .int x5)]) [5] rfl ?_)
      exact hK hp x5 h
    · replace h := (if_neg c13).symm.trans h
      refine R_aload_n X 0 d_BA_able_61 rfl ?_
      refine R_getD (ci := 6) X rfl iBA_ok (of_decide_eq_true rfl) rfl 8 rfl rfl tw_242 d_BA_able_62 ?_
      obtain ⟨b14, h⟩ := ck h
      refine R_iload_n X 2 d_BA_able_65 rfl ?_
      refine R_iload X 4 d_BA_able_66 rfl ?_
      obtain ⟨p16, e15, h⟩ := ob h
      refine R_vcall (ci := 0) (k := (hp 0 8).toNatClampNeg) (As := [.int v2, .int x4]) (st := []) X (M_Br_isDoable b14 e15) tw_441 cf_Br_isDoable (B_all _ b14).1.1 (B_all _ b14).1.2 rfl rfl rfl rfl d_BA_able_68 ?_
      refine V_pc (pc' := 71) rfl ?_
      refine R_ifeq (tgt := 77) X d_BA_able_71 rfl (fun c17 => ?_) (fun c17 => ?_)
      · replace h := (if_pos c17).symm.trans h
        refine R_aload_n X 0 d_BA_able_77 rfl ?_
        refine R_getD (ci := 6) X rfl iBA_ok (of_decide_eq_true rfl) rfl 8 rfl rfl tw_242 d_BA_able_78 ?_
        obtain ⟨b18, h⟩ := ck h
        refine R_iload_n X 1 d_BA_able_81 rfl ?_
        refine R_iload X 4 d_BA_able_82 rfl ?_
        obtain ⟨p20, e19, h⟩ := ob h
        refine R_vcall (ci := 0) (k := (p16.2 0 8).toNatClampNeg) (As := [.int v1, .int x4]) (st := []) X (M_Br_afterMonth b18 e19) tw_528 cf_Br_afterMonth (B_all _ b18).1.1 (B_all _ b18).1.2 rfl rfl rfl rfl d_BA_able_84 ?_
        refine V_pc (pc' := 87) rfl ?_
        refine R_istore (L' := [(4, .int p20.1), (0, .ref (gA (zG Z) 0)), (1, .int v1), (2, .int v2), (3, .int v3), (5, .int x5), (6, .int x6)]) X d_BA_able_87 (by decide) rfl ?_
        refine R_iinc (v := (x6 + 1)) (L' := [(6, .int (x6 + 1)), (4, .int p20.1), (0, .ref (gA (zG Z) 0)), (1, .int v1), (2, .int v2), (3, .int v3), (5, .int x5)]) X 6 d_BA_able_89 rfl rfl (by decide) rfl ?_
        refine R_goto (tgt := 55) X d_BA_able_92 rfl ?_
        refine V_pc (pc' := 55) rfl (R_loc (L' := [(0, .ref (gA (zG Z) 0)), (1, .int v1), (2, .int v2), (3, .int v3), (4, .int p20.1), (5, .int x5), (6, .int (x6 + 1))]) [2, 3, 4, 5, 1, 6, 0] rfl ?_)
        exact ih p20.2 p20.1 x5 (x6 + 1) h
      · replace h := (if_neg c17).symm.trans h
        refine R_iinc (v := (x5 + 1)) (L' := [(5, .int (x5 + 1)), (0, .ref (gA (zG Z) 0)), (1, .int v1), (2, .int v2), (3, .int v3), (4, .int x4), (6, .int x6)]) X 5 d_BA_able_74 rfl rfl (by decide) rfl ?_
        refine R_aload_n X 1 d_BA_able_77 rfl ?_
        refine R_getD (ci := 6) X rfl iBA_ok (of_decide_eq_true rfl) rfl 8 rfl rfl tw_242 d_BA_able_78 ?_
        obtain ⟨b21, h⟩ := ck h
        refine R_iload_n X 2 d_BA_able_81 rfl ?_
        refine R_iload X 5 d_BA_able_82 rfl ?_
        refine V_pc (pc' := 84) rfl ?_
        obtain ⟨p23, e22, h⟩ := ob h
        refine R_vcall (ci := 0) (k := (p16.2 0 8).toNatClampNeg) (As := [.int v1, .int x4]) (st := []) X (M_Br_afterMonth b21 e22) tw_528 cf_Br_afterMonth (B_all _ b21).1.1 (B_all _ b21).1.2 rfl rfl rfl rfl d_BA_able_84 ?_
        refine R_istore (L' := [(4, .int p23.1), (5, .int (x5 + 1)), (0, .ref (gA (zG Z) 0)), (1, .int v1), (2, .int v2), (3, .int v3), (6, .int x6)]) X d_BA_able_87 (by decide) rfl ?_
        refine R_iinc (v := (x6 + 1)) (L' := [(6, .int (x6 + 1)), (4, .int p23.1), (5, .int (x5 + 1)), (0, .ref (gA (zG Z) 0)), (1, .int v1), (2, .int v2), (3, .int v3)]) X 6 d_BA_able_89 rfl rfl (by decide) rfl ?_
        refine R_goto (tgt := 55) X d_BA_able_92 rfl ?_
        refine V_pc (pc' := 55) rfl (R_loc (L' := [(0, .ref (gA (zG Z) 0)), (1, .int v1), (2, .int v2), (3, .int v3), (4, .int p23.1), (5, .int (x5 + 1)), (6, .int (x6 + 1))]) [3, 4, 5, 6, 1, 2, 0] rfl ?_)
        exact ih p23.2 p23.1 (x5 + 1) (x6 + 1) h
set_option maxRecDepth 20000 in
set_option maxHeartbeats 2000000 in
theorem T_BA_able {Z : ZT} (X : CX Z Y_BA_able) {hp : HP} {a1 : Int32} {a2 : Int32} {a3 : Int32} {p : Int32 × HP} (h : f_BA_able hp a1 a2 a3 = some p) (hR : RetI Z Y_BA_able .int p.1 p.2) : V Z Y_BA_able hp 0 [(0, .ref (gA (zG Z) 0)), (1, .int a1), (2, .int a2), (3, .int a3)] [] := by
  unfold f_BA_able at h
  refine R_aload_n X 0 d_BA_able_0 rfl ?_
  refine R_getD (ci := 6) X rfl iBA_ok (of_decide_eq_true rfl) rfl 8 rfl rfl tw_242 d_BA_able_1 ?_
  obtain ⟨b1, h⟩ := ck h
  refine R_iload_n X 1 d_BA_able_4 rfl ?_
  obtain ⟨p3, e2, h⟩ := ob h
  refine R_vcall (ci := 0) (k := (hp 0 8).toNatClampNeg) (As := [.int a1]) (st := []) X (M_Br_hasCustomer b1 e2) tw_419 cf_Br_hasCustomer (B_all _ b1).1.1 (B_all _ b1).1.2 rfl rfl rfl rfl d_BA_able_5 ?_
  refine R_ifeq (tgt := 22) X d_BA_able_8 rfl (fun c4 => ?_) (fun c4 => ?_)
  · replace h := (if_pos c4).symm.trans h
    refine R_ldc (v := (-1000000001 : Int32)) X tw_414 d_BA_able_22 ?_
    exact R_ret hR h d_BA_able_24
  · replace h := (if_neg c4).symm.trans h
    refine R_aload_n X 0 d_BA_able_11 rfl ?_
    refine R_getD (ci := 6) X rfl iBA_ok (of_decide_eq_true rfl) rfl 8 rfl rfl tw_242 d_BA_able_12 ?_
    obtain ⟨b5, h⟩ := ck h
    refine R_iload_n X 2 d_BA_able_15 rfl ?_
    obtain ⟨p7, e6, h⟩ := ob h
    refine R_vcall (ci := 0) (k := (p3.2 0 8).toNatClampNeg) (As := [.int a2]) (st := []) X (M_Br_hasTask b5 e6) tw_437 cf_Br_hasTask (B_all _ b5).1.1 (B_all _ b5).1.2 rfl rfl rfl rfl d_BA_able_16 ?_
    refine R_ifne (tgt := 25) X d_BA_able_19 rfl (fun c8 => ?_) (fun c8 => ?_)
    · replace h := (if_neg c8).symm.trans h
      refine R_iload_n X 3 d_BA_able_25 rfl ?_
      refine R_iconst (v := (1 : Int32)) X d_BA_able_26 rfl ?_
      refine R_bipush (v := (60 : Int32)) X d_BA_able_27 rfl ?_
      obtain ⟨p10, e9, h⟩ := ob h
      refine R_scall (As := [.int a3, .int (1 : Int32), .int (60 : Int32)]) (st := []) X (M_BA_within e9) tw_275 cf_BA_within rfl rfl rfl d_BA_able_29 ?_
      refine R_ifne (tgt := 38) X d_BA_able_32 rfl (fun c11 => ?_) (fun c11 => ?_)
      · replace h := (if_neg c11).symm.trans h
        refine R_aload_n X 0 d_BA_able_38 rfl ?_
        refine R_getR (ci := 6) X rfl iBA_ok (of_decide_eq_true rfl) rfl 1 rfl rfl tw_235 d_BA_able_39 ?_
        refine R_getR (ci := 5) X rfl iSt_ok (of_decide_eq_true rfl) rfl 0 rfl rfl tw_98 d_BA_able_42 ?_
        refine R_iload_n X 1 d_BA_able_45 rfl ?_
        obtain ⟨i12, h⟩ := ck h
        refine R_iald (n := 5) X (of_decide_eq_true rfl) rfl i12 d_BA_able_46 ?_
        refine V_pc (pc' := 47) rfl ?_
        refine R_istore (L' := [(4, .int (p10.2 4 (a1).toNatClampNeg)), (0, .ref (gA (zG Z) 0)), (1, .int a1), (2, .int a2), (3, .int a3)]) X d_BA_able_47 (by decide) rfl ?_
        refine R_iconst (v := (0 : Int32)) X d_BA_able_49 rfl ?_
        refine R_istore (L' := [(5, .int (0 : Int32)), (4, .int (p10.2 4 (a1).toNatClampNeg)), (0, .ref (gA (zG Z) 0)), (1, .int a1), (2, .int a2), (3, .int a3)]) X d_BA_able_50 (by decide) rfl ?_
        refine R_iconst (v := (0 : Int32)) X d_BA_able_52 rfl ?_
        refine R_istore (L' := [(6, .int (0 : Int32)), (5, .int (0 : Int32)), (4, .int (p10.2 4 (a1).toNatClampNeg)), (0, .ref (gA (zG Z) 0)), (1, .int a1), (2, .int a2), (3, .int a3)]) X d_BA_able_53 (by decide) rfl ?_
        refine V_pc (pc' := 55) rfl (R_loc (L' := [(0, .ref (gA (zG Z) 0)), (1, .int a1), (2, .int a2), (3, .int a3), (4, .int (p10.2 4 (a1).toNatClampNeg)), (5, .int (0 : Int32)), (6, .int (0 : Int32))]) [3, 4, 5, 6, 2, 1, 0] rfl ?_)
        refine T_BA_able_L55 X hR (fun hp25 w24 h => ?_) _ p10.2 (p10.2 4 (a1).toNatClampNeg) (0 : Int32) (0 : Int32) h
        refine R_iload X 0 d_BA_able_95 rfl ?_
        exact R_ret hR h d_BA_able_97
      · replace h := (if_pos c11).symm.trans h
        refine R_ldc (v := (-1000000002 : Int32)) X tw_278 d_BA_able_35 ?_
        exact R_ret hR h d_BA_able_37
    · replace h := (if_pos c8).symm.trans h
      refine R_ldc (v := (-1000000001 : Int32)) X tw_414 d_BA_able_22 ?_
      exact R_ret hR h d_BA_able_24
theorem M_BA_able {G : GT} {hp : HP} {a1 : Int32} {a2 : Int32} {a3 : Int32} {p : Int32 × HP} (h : f_BA_able hp a1 a2 a3 = some p) : MI G y_BA_able Y_BA_able .int [.ref (gA G 0), .int a1, .int a2, .int a3] hp p.1 p.2 := MI_of rfl (fun Z hz X hR => by subst hz; exact T_BA_able X h hR)
theorem d_Sl_addSpending_0 : decode prog_6_method_4_code 0 = .ok (.aload_n 0, 1) := by decide +kernel
theorem d_Sl_addSpending_1 : decode prog_6_method_4_code 1 = .ok (.getfield 34, 3) := by decide +kernel
theorem d_Sl_addSpending_4 : decode prog_6_method_4_code 4 = .ok (.iconst 5, 1) := by decide +kernel
theorem d_Sl_addSpending_5 : decode prog_6_method_4_code 5 = .ok (.if_icmp .ge (23), 3) := by decide +kernel
theorem d_Sl_addSpending_8 : decode prog_6_method_4_code 8 = .ok (.aload_n 0, 1) := by decide +kernel
theorem d_Sl_addSpending_9 : decode prog_6_method_4_code 9 = .ok (.getfield 9, 3) := by decide +kernel
theorem d_Sl_addSpending_12 : decode prog_6_method_4_code 12 = .ok (.aload_n 0, 1) := by decide +kernel
theorem d_Sl_addSpending_13 : decode prog_6_method_4_code 13 = .ok (.getfield 34, 3) := by decide +kernel
theorem d_Sl_addSpending_16 : decode prog_6_method_4_code 16 = .ok (.iload_n 1, 1) := by decide +kernel
theorem d_Sl_addSpending_17 : decode prog_6_method_4_code 17 = .ok (.iastore, 1) := by decide +kernel
theorem d_Sl_addSpending_18 : decode prog_6_method_4_code 18 = .ok (.aload_n 0, 1) := by decide +kernel
theorem d_Sl_addSpending_19 : decode prog_6_method_4_code 19 = .ok (.dup, 1) := by decide +kernel
theorem d_Sl_addSpending_20 : decode prog_6_method_4_code 20 = .ok (.getfield 34, 3) := by decide +kernel
theorem d_Sl_addSpending_23 : decode prog_6_method_4_code 23 = .ok (.iconst 1, 1) := by decide +kernel
theorem d_Sl_addSpending_24 : decode prog_6_method_4_code 24 = .ok (.iadd, 1) := by decide +kernel
theorem d_Sl_addSpending_25 : decode prog_6_method_4_code 25 = .ok (.putfield 34, 3) := by decide +kernel
theorem d_Sl_addSpending_28 : decode prog_6_method_4_code 28 = .ok (.return_, 1) := by decide +kernel
set_option maxRecDepth 20000 in
set_option maxHeartbeats 2000000 in
theorem T_Sl_addSpending {Z : ZT} (X : CX Z Y_Sl_addSpending) {hp : HP} {a1 : Int32} {p : Int32 × HP} (h : f_Sl_addSpending hp a1 = some p) (hR : RetV Z Y_Sl_addSpending p.2) : V Z Y_Sl_addSpending hp 0 [(0, .ref (gA (zG Z) 68)), (1, .int a1)] [] := by
  unfold f_Sl_addSpending at h
  refine R_aload_n X 0 d_Sl_addSpending_0 rfl ?_
  refine R_getI (ci := 4) X rfl iSl_ok (of_decide_eq_true rfl) rfl 7 rfl rfl tw_147 d_Sl_addSpending_1 ?_
  refine R_iconst (v := (5 : Int32)) X d_Sl_addSpending_4 rfl ?_
  refine R_icmp_ge (tgt := 28) X d_Sl_addSpending_5 rfl (fun c1 => ?_) (fun c1 => ?_)
  · replace h := (if_pos c1).symm.trans h
    exact R_retv hR h d_Sl_addSpending_28
  · replace h := (if_neg c1).symm.trans h
    refine R_aload_n X 0 d_Sl_addSpending_8 rfl ?_
    refine R_getR (ci := 4) X rfl iSl_ok (of_decide_eq_true rfl) rfl 0 rfl rfl tw_135 d_Sl_addSpending_9 ?_
    refine R_aload_n X 0 d_Sl_addSpending_12 rfl ?_
    refine R_getI (ci := 4) X rfl iSl_ok (of_decide_eq_true rfl) rfl 7 rfl rfl tw_147 d_Sl_addSpending_13 ?_
    refine R_iload_n X 1 d_Sl_addSpending_16 rfl ?_
    refine V_pc (pc' := 17) rfl ?_
    obtain ⟨i2, h⟩ := ck h
    refine R_iast (n := 5) X (of_decide_eq_true rfl) rfl i2 d_Sl_addSpending_17 ?_
    refine R_aload_n X 0 d_Sl_addSpending_18 rfl ?_
    refine R_dup X d_Sl_addSpending_19 rfl ?_
    refine R_getI (ci := 4) X rfl iSl_ok (of_decide_eq_true rfl) rfl 7 rfl rfl tw_147 d_Sl_addSpending_20 ?_
    refine R_iconst (v := (1 : Int32)) X d_Sl_addSpending_23 rfl ?_
    refine R_iadd X d_Sl_addSpending_24 ?_
    refine V_pc (pc' := 25) rfl ?_
    refine R_putI (ci := 4) X rfl iSl_ok ySl_ok nSl_ok (of_decide_eq_true rfl) rfl 7 rfl rfl rfl rfl tw_147 d_Sl_addSpending_25 ?_
    exact R_retv hR h d_Sl_addSpending_28
theorem M_Sl_addSpending {G : GT} {hp : HP} {a1 : Int32} {p : Int32 × HP} (h : f_Sl_addSpending hp a1 = some p) : MV G y_Sl_addSpending Y_Sl_addSpending [.ref (gA G 68), .int a1] hp p.2 := MV_of rfl (fun Z hz X hR => by subst hz; exact T_Sl_addSpending X h hR)
theorem d_BA_spending_0 : decode prog_1_method_18_code 0 = .ok (.iload_n 1, 1) := by decide +kernel
theorem d_BA_spending_1 : decode prog_1_method_18_code 1 = .ok (.iconst 1, 1) := by decide +kernel
theorem d_BA_spending_2 : decode prog_1_method_18_code 2 = .ok (.sipush (999), 3) := by decide +kernel
theorem d_BA_spending_5 : decode prog_1_method_18_code 5 = .ok (.invokestatic 73, 3) := by decide +kernel
theorem d_BA_spending_8 : decode prog_1_method_18_code 8 = .ok (.ifCond .ne (6), 3) := by decide +kernel
theorem d_BA_spending_11 : decode prog_1_method_18_code 11 = .ok (.ldc 77, 2) := by decide +kernel
theorem d_BA_spending_13 : decode prog_1_method_18_code 13 = .ok (.ireturn, 1) := by decide +kernel
theorem d_BA_spending_14 : decode prog_1_method_18_code 14 = .ok (.aload_n 0, 1) := by decide +kernel
theorem d_BA_spending_15 : decode prog_1_method_18_code 15 = .ok (.getfield 33, 3) := by decide +kernel
theorem d_BA_spending_18 : decode prog_1_method_18_code 18 = .ok (.getfield 122, 3) := by decide +kernel
theorem d_BA_spending_21 : decode prog_1_method_18_code 21 = .ok (.iconst 5, 1) := by decide +kernel
theorem d_BA_spending_22 : decode prog_1_method_18_code 22 = .ok (.if_icmp .lt (6), 3) := by decide +kernel
theorem d_BA_spending_25 : decode prog_1_method_18_code 25 = .ok (.ldc 81, 2) := by decide +kernel
theorem d_BA_spending_27 : decode prog_1_method_18_code 27 = .ok (.ireturn, 1) := by decide +kernel
theorem d_BA_spending_28 : decode prog_1_method_18_code 28 = .ok (.aload_n 0, 1) := by decide +kernel
theorem d_BA_spending_29 : decode prog_1_method_18_code 29 = .ok (.getfield 33, 3) := by decide +kernel
theorem d_BA_spending_32 : decode prog_1_method_18_code 32 = .ok (.iload_n 1, 1) := by decide +kernel
theorem d_BA_spending_33 : decode prog_1_method_18_code 33 = .ok (.invokevirtual 208, 3) := by decide +kernel
theorem d_BA_spending_36 : decode prog_1_method_18_code 36 = .ok (.aload_n 0, 1) := by decide +kernel
theorem d_BA_spending_37 : decode prog_1_method_18_code 37 = .ok (.getfield 33, 3) := by decide +kernel
theorem d_BA_spending_40 : decode prog_1_method_18_code 40 = .ok (.getfield 122, 3) := by decide +kernel
theorem d_BA_spending_43 : decode prog_1_method_18_code 43 = .ok (.ireturn, 1) := by decide +kernel
set_option maxRecDepth 20000 in
set_option maxHeartbeats 2000000 in
theorem T_BA_spending {Z : ZT} (X : CX Z Y_BA_spending) {hp : HP} {a1 : Int32} {p : Int32 × HP} (h : f_BA_spending hp a1 = some p) (hR : RetI Z Y_BA_spending .int p.1 p.2) : V Z Y_BA_spending hp 0 [(0, .ref (gA (zG Z) 0)), (1, .int a1)] [] := by
  unfold f_BA_spending at h
  refine R_iload_n X 1 d_BA_spending_0 rfl ?_
  refine R_iconst (v := (1 : Int32)) X d_BA_spending_1 rfl ?_
  refine R_sipush (v := (999 : Int32)) X d_BA_spending_2 rfl ?_
  obtain ⟨p2, e1, h⟩ := ob h
  refine R_scall (As := [.int a1, .int (1 : Int32), .int (999 : Int32)]) (st := []) X (M_BA_within e1) tw_275 cf_BA_within rfl rfl rfl d_BA_spending_5 ?_
  refine R_ifne (tgt := 14) X d_BA_spending_8 rfl (fun c3 => ?_) (fun c3 => ?_)
  · replace h := (if_neg c3).symm.trans h
    refine R_aload_n X 0 d_BA_spending_14 rfl ?_
    refine R_getR (ci := 6) X rfl iBA_ok (of_decide_eq_true rfl) rfl 3 rfl rfl tw_237 d_BA_spending_15 ?_
    refine R_getI (ci := 4) X rfl iSl_ok (of_decide_eq_true rfl) rfl 7 rfl rfl tw_149 d_BA_spending_18 ?_
    refine R_iconst (v := (5 : Int32)) X d_BA_spending_21 rfl ?_
    refine R_icmp_lt (tgt := 28) X d_BA_spending_22 rfl (fun c4 => ?_) (fun c4 => ?_)
    · replace h := (if_pos c4).symm.trans h
      refine R_aload_n X 0 d_BA_spending_28 rfl ?_
      refine R_getR (ci := 6) X rfl iBA_ok (of_decide_eq_true rfl) rfl 3 rfl rfl tw_237 d_BA_spending_29 ?_
      refine R_iload_n X 1 d_BA_spending_32 rfl ?_
      obtain ⟨p6, e5, h⟩ := ob h
      refine R_vcallv (ci := 4) (k := 68) (As := [.int a1]) (st := []) X (M_Sl_addSpending e5) tw_537 cf_Sl_addSpending (of_decide_eq_true rfl) rfl rfl rfl rfl rfl d_BA_spending_33 ?_
      refine R_aload_n X 0 d_BA_spending_36 rfl ?_
      refine V_pc (pc' := 37) rfl ?_
      refine R_getR (ci := 6) X rfl iBA_ok (of_decide_eq_true rfl) rfl 3 rfl rfl tw_237 d_BA_spending_37 ?_
      refine R_getI (ci := 4) X rfl iSl_ok (of_decide_eq_true rfl) rfl 7 rfl rfl tw_149 d_BA_spending_40 ?_
      exact R_ret hR h d_BA_spending_43
    · replace h := (if_neg c4).symm.trans h
      refine R_ldc (v := (-1000000004 : Int32)) X tw_279 d_BA_spending_25 ?_
      exact R_ret hR h d_BA_spending_27
  · replace h := (if_pos c3).symm.trans h
    refine R_ldc (v := (-1000000002 : Int32)) X tw_278 d_BA_spending_11 ?_
    exact R_ret hR h d_BA_spending_13
theorem M_BA_spending {G : GT} {hp : HP} {a1 : Int32} {p : Int32 × HP} (h : f_BA_spending hp a1 = some p) : MI G y_BA_spending Y_BA_spending .int [.ref (gA G 0), .int a1] hp p.1 p.2 := MI_of rfl (fun Z hz X hR => by subst hz; exact T_BA_spending X h hR)
theorem d_Sl_addMust_0 : decode prog_6_method_5_code 0 = .ok (.aload_n 0, 1) := by decide +kernel
theorem d_Sl_addMust_1 : decode prog_6_method_5_code 1 = .ok (.getfield 38, 3) := by decide +kernel
theorem d_Sl_addMust_4 : decode prog_6_method_5_code 4 = .ok (.iconst 4, 1) := by decide +kernel
theorem d_Sl_addMust_5 : decode prog_6_method_5_code 5 = .ok (.if_icmp .ge (33), 3) := by decide +kernel
theorem d_Sl_addMust_8 : decode prog_6_method_5_code 8 = .ok (.aload_n 0, 1) := by decide +kernel
theorem d_Sl_addMust_9 : decode prog_6_method_5_code 9 = .ok (.getfield 15, 3) := by decide +kernel
theorem d_Sl_addMust_12 : decode prog_6_method_5_code 12 = .ok (.aload_n 0, 1) := by decide +kernel
theorem d_Sl_addMust_13 : decode prog_6_method_5_code 13 = .ok (.getfield 38, 3) := by decide +kernel
theorem d_Sl_addMust_16 : decode prog_6_method_5_code 16 = .ok (.iload_n 1, 1) := by decide +kernel
theorem d_Sl_addMust_17 : decode prog_6_method_5_code 17 = .ok (.iastore, 1) := by decide +kernel
theorem d_Sl_addMust_18 : decode prog_6_method_5_code 18 = .ok (.aload_n 0, 1) := by decide +kernel
theorem d_Sl_addMust_19 : decode prog_6_method_5_code 19 = .ok (.getfield 18, 3) := by decide +kernel
theorem d_Sl_addMust_22 : decode prog_6_method_5_code 22 = .ok (.aload_n 0, 1) := by decide +kernel
theorem d_Sl_addMust_23 : decode prog_6_method_5_code 23 = .ok (.getfield 38, 3) := by decide +kernel
theorem d_Sl_addMust_26 : decode prog_6_method_5_code 26 = .ok (.iload_n 2, 1) := by decide +kernel
theorem d_Sl_addMust_27 : decode prog_6_method_5_code 27 = .ok (.iastore, 1) := by decide +kernel
theorem d_Sl_addMust_28 : decode prog_6_method_5_code 28 = .ok (.aload_n 0, 1) := by decide +kernel
theorem d_Sl_addMust_29 : decode prog_6_method_5_code 29 = .ok (.dup, 1) := by decide +kernel
theorem d_Sl_addMust_30 : decode prog_6_method_5_code 30 = .ok (.getfield 38, 3) := by decide +kernel
theorem d_Sl_addMust_33 : decode prog_6_method_5_code 33 = .ok (.iconst 1, 1) := by decide +kernel
theorem d_Sl_addMust_34 : decode prog_6_method_5_code 34 = .ok (.iadd, 1) := by decide +kernel
theorem d_Sl_addMust_35 : decode prog_6_method_5_code 35 = .ok (.putfield 38, 3) := by decide +kernel
theorem d_Sl_addMust_38 : decode prog_6_method_5_code 38 = .ok (.return_, 1) := by decide +kernel
set_option maxRecDepth 20000 in
set_option maxHeartbeats 2000000 in
theorem T_Sl_addMust {Z : ZT} (X : CX Z Y_Sl_addMust) {hp : HP} {a1 : Int32} {a2 : Int32} {p : Int32 × HP} (h : f_Sl_addMust hp a1 a2 = some p) (hR : RetV Z Y_Sl_addMust p.2) : V Z Y_Sl_addMust hp 0 [(0, .ref (gA (zG Z) 68)), (1, .int a1), (2, .int a2)] [] := by
  unfold f_Sl_addMust at h
  refine R_aload_n X 0 d_Sl_addMust_0 rfl ?_
  refine R_getI (ci := 4) X rfl iSl_ok (of_decide_eq_true rfl) rfl 8 rfl rfl tw_150 d_Sl_addMust_1 ?_
  refine R_iconst (v := (4 : Int32)) X d_Sl_addMust_4 rfl ?_
  refine R_icmp_ge (tgt := 38) X d_Sl_addMust_5 rfl (fun c1 => ?_) (fun c1 => ?_)
  · replace h := (if_pos c1).symm.trans h
    exact R_retv hR h d_Sl_addMust_38
  · replace h := (if_neg c1).symm.trans h
    refine R_aload_n X 0 d_Sl_addMust_8 rfl ?_
    refine R_getR (ci := 4) X rfl iSl_ok (of_decide_eq_true rfl) rfl 1 rfl rfl tw_137 d_Sl_addMust_9 ?_
    refine R_aload_n X 0 d_Sl_addMust_12 rfl ?_
    refine R_getI (ci := 4) X rfl iSl_ok (of_decide_eq_true rfl) rfl 8 rfl rfl tw_150 d_Sl_addMust_13 ?_
    refine R_iload_n X 1 d_Sl_addMust_16 rfl ?_
    refine V_pc (pc' := 17) rfl ?_
    obtain ⟨i2, h⟩ := ck h
    refine R_iast (n := 4) X (of_decide_eq_true rfl) rfl i2 d_Sl_addMust_17 ?_
    refine R_aload_n X 0 d_Sl_addMust_18 rfl ?_
    refine R_getR (ci := 4) X rfl iSl_ok (of_decide_eq_true rfl) rfl 2 rfl rfl tw_139 d_Sl_addMust_19 ?_
    refine R_aload_n X 0 d_Sl_addMust_22 rfl ?_
    refine R_getI (ci := 4) X rfl iSl_ok (of_decide_eq_true rfl) rfl 8 rfl rfl tw_150 d_Sl_addMust_23 ?_
    refine R_iload_n X 2 d_Sl_addMust_26 rfl ?_
    refine V_pc (pc' := 27) rfl ?_
    obtain ⟨i3, h⟩ := ck h
    refine R_iast (n := 4) X (of_decide_eq_true rfl) rfl i3 d_Sl_addMust_27 ?_
    refine R_aload_n X 0 d_Sl_addMust_28 rfl ?_
    refine R_dup X d_Sl_addMust_29 rfl ?_
    refine R_getI (ci := 4) X rfl iSl_ok (of_decide_eq_true rfl) rfl 8 rfl rfl tw_150 d_Sl_addMust_30 ?_
    refine R_iconst (v := (1 : Int32)) X d_Sl_addMust_33 rfl ?_
    refine R_iadd X d_Sl_addMust_34 ?_
    refine V_pc (pc' := 35) rfl ?_
    refine R_putI (ci := 4) X rfl iSl_ok ySl_ok nSl_ok (of_decide_eq_true rfl) rfl 8 rfl rfl rfl rfl tw_150 d_Sl_addMust_35 ?_
    exact R_retv hR h d_Sl_addMust_38
theorem M_Sl_addMust {G : GT} {hp : HP} {a1 : Int32} {a2 : Int32} {p : Int32 × HP} (h : f_Sl_addMust hp a1 a2 = some p) : MV G y_Sl_addMust Y_Sl_addMust [.ref (gA G 68), .int a1, .int a2] hp p.2 := MV_of rfl (fun Z hz X hR => by subst hz; exact T_Sl_addMust X h hR)
theorem d_BA_must_0 : decode prog_1_method_19_code 0 = .ok (.aload_n 0, 1) := by decide +kernel
theorem d_BA_must_1 : decode prog_1_method_19_code 1 = .ok (.getfield 59, 3) := by decide +kernel
theorem d_BA_must_4 : decode prog_1_method_19_code 4 = .ok (.iload_n 1, 1) := by decide +kernel
theorem d_BA_must_5 : decode prog_1_method_19_code 5 = .ok (.invokevirtual 173, 3) := by decide +kernel
theorem d_BA_must_8 : decode prog_1_method_19_code 8 = .ok (.ifCond .ne (6), 3) := by decide +kernel
theorem d_BA_must_11 : decode prog_1_method_19_code 11 = .ok (.ldc 144, 2) := by decide +kernel
theorem d_BA_must_13 : decode prog_1_method_19_code 13 = .ok (.ireturn, 1) := by decide +kernel
theorem d_BA_must_14 : decode prog_1_method_19_code 14 = .ok (.iload_n 2, 1) := by decide +kernel
theorem d_BA_must_15 : decode prog_1_method_19_code 15 = .ok (.iconst 0, 1) := by decide +kernel
theorem d_BA_must_16 : decode prog_1_method_19_code 16 = .ok (.iconst 3, 1) := by decide +kernel
theorem d_BA_must_17 : decode prog_1_method_19_code 17 = .ok (.invokestatic 73, 3) := by decide +kernel
theorem d_BA_must_20 : decode prog_1_method_19_code 20 = .ok (.ifCond .ne (6), 3) := by decide +kernel
theorem d_BA_must_23 : decode prog_1_method_19_code 23 = .ok (.ldc 77, 2) := by decide +kernel
theorem d_BA_must_25 : decode prog_1_method_19_code 25 = .ok (.ireturn, 1) := by decide +kernel
theorem d_BA_must_26 : decode prog_1_method_19_code 26 = .ok (.aload_n 0, 1) := by decide +kernel
theorem d_BA_must_27 : decode prog_1_method_19_code 27 = .ok (.getfield 33, 3) := by decide +kernel
theorem d_BA_must_30 : decode prog_1_method_19_code 30 = .ok (.getfield 125, 3) := by decide +kernel
theorem d_BA_must_33 : decode prog_1_method_19_code 33 = .ok (.iconst 4, 1) := by decide +kernel
theorem d_BA_must_34 : decode prog_1_method_19_code 34 = .ok (.if_icmp .lt (6), 3) := by decide +kernel
theorem d_BA_must_37 : decode prog_1_method_19_code 37 = .ok (.ldc 81, 2) := by decide +kernel
theorem d_BA_must_39 : decode prog_1_method_19_code 39 = .ok (.ireturn, 1) := by decide +kernel
theorem d_BA_must_40 : decode prog_1_method_19_code 40 = .ok (.aload_n 0, 1) := by decide +kernel
theorem d_BA_must_41 : decode prog_1_method_19_code 41 = .ok (.getfield 33, 3) := by decide +kernel
theorem d_BA_must_44 : decode prog_1_method_19_code 44 = .ok (.iload_n 1, 1) := by decide +kernel
theorem d_BA_must_45 : decode prog_1_method_19_code 45 = .ok (.iload_n 2, 1) := by decide +kernel
theorem d_BA_must_46 : decode prog_1_method_19_code 46 = .ok (.invokevirtual 211, 3) := by decide +kernel
theorem d_BA_must_49 : decode prog_1_method_19_code 49 = .ok (.aload_n 0, 1) := by decide +kernel
theorem d_BA_must_50 : decode prog_1_method_19_code 50 = .ok (.getfield 33, 3) := by decide +kernel
theorem d_BA_must_53 : decode prog_1_method_19_code 53 = .ok (.getfield 125, 3) := by decide +kernel
theorem d_BA_must_56 : decode prog_1_method_19_code 56 = .ok (.ireturn, 1) := by decide +kernel
set_option maxRecDepth 20000 in
set_option maxHeartbeats 2000000 in
theorem T_BA_must {Z : ZT} (X : CX Z Y_BA_must) {hp : HP} {a1 : Int32} {a2 : Int32} {p : Int32 × HP} (h : f_BA_must hp a1 a2 = some p) (hR : RetI Z Y_BA_must .int p.1 p.2) : V Z Y_BA_must hp 0 [(0, .ref (gA (zG Z) 0)), (1, .int a1), (2, .int a2)] [] := by
  unfold f_BA_must at h
  refine R_aload_n X 0 d_BA_must_0 rfl ?_
  refine R_getD (ci := 6) X rfl iBA_ok (of_decide_eq_true rfl) rfl 8 rfl rfl tw_242 d_BA_must_1 ?_
  obtain ⟨b1, h⟩ := ck h
  refine R_iload_n X 1 d_BA_must_4 rfl ?_
  obtain ⟨p3, e2, h⟩ := ob h
  refine R_vcall (ci := 0) (k := (hp 0 8).toNatClampNeg) (As := [.int a1]) (st := []) X (M_Br_hasTask b1 e2) tw_437 cf_Br_hasTask (B_all _ b1).1.1 (B_all _ b1).1.2 rfl rfl rfl rfl d_BA_must_5 ?_
  refine R_ifne (tgt := 14) X d_BA_must_8 rfl (fun c4 => ?_) (fun c4 => ?_)
  · replace h := (if_neg c4).symm.trans h
    refine R_iload_n X 2 d_BA_must_14 rfl ?_
    refine R_iconst (v := (0 : Int32)) X d_BA_must_15 rfl ?_
    refine R_iconst (v := (3 : Int32)) X d_BA_must_16 rfl ?_
    obtain ⟨p6, e5, h⟩ := ob h
    refine R_scall (As := [.int a2, .int (0 : Int32), .int (3 : Int32)]) (st := []) X (M_BA_within e5) tw_275 cf_BA_within rfl rfl rfl d_BA_must_17 ?_
    refine R_ifne (tgt := 26) X d_BA_must_20 rfl (fun c7 => ?_) (fun c7 => ?_)
    · replace h := (if_neg c7).symm.trans h
      refine R_aload_n X 0 d_BA_must_26 rfl ?_
      refine R_getR (ci := 6) X rfl iBA_ok (of_decide_eq_true rfl) rfl 3 rfl rfl tw_237 d_BA_must_27 ?_
      refine R_getI (ci := 4) X rfl iSl_ok (of_decide_eq_true rfl) rfl 8 rfl rfl tw_151 d_BA_must_30 ?_
      refine R_iconst (v := (4 : Int32)) X d_BA_must_33 rfl ?_
      refine R_icmp_lt (tgt := 40) X d_BA_must_34 rfl (fun c8 => ?_) (fun c8 => ?_)
      · replace h := (if_pos c8).symm.trans h
        refine R_aload_n X 0 d_BA_must_40 rfl ?_
        refine R_getR (ci := 6) X rfl iBA_ok (of_decide_eq_true rfl) rfl 3 rfl rfl tw_237 d_BA_must_41 ?_
        refine R_iload_n X 1 d_BA_must_44 rfl ?_
        refine R_iload_n X 2 d_BA_must_45 rfl ?_
        obtain ⟨p10, e9, h⟩ := ob h
        refine R_vcallv (ci := 4) (k := 68) (As := [.int a1, .int a2]) (st := []) X (M_Sl_addMust e9) tw_545 cf_Sl_addMust (of_decide_eq_true rfl) rfl rfl rfl rfl rfl d_BA_must_46 ?_
        refine V_pc (pc' := 49) rfl ?_
        refine R_aload_n X 0 d_BA_must_49 rfl ?_
        refine R_getR (ci := 6) X rfl iBA_ok (of_decide_eq_true rfl) rfl 3 rfl rfl tw_237 d_BA_must_50 ?_
        refine R_getI (ci := 4) X rfl iSl_ok (of_decide_eq_true rfl) rfl 8 rfl rfl tw_151 d_BA_must_53 ?_
        exact R_ret hR h d_BA_must_56
      · replace h := (if_neg c8).symm.trans h
        refine R_ldc (v := (-1000000004 : Int32)) X tw_279 d_BA_must_37 ?_
        exact R_ret hR h d_BA_must_39
    · replace h := (if_pos c7).symm.trans h
      refine R_ldc (v := (-1000000002 : Int32)) X tw_278 d_BA_must_23 ?_
      exact R_ret hR h d_BA_must_25
  · replace h := (if_pos c4).symm.trans h
    refine R_ldc (v := (-1000000001 : Int32)) X tw_414 d_BA_must_11 ?_
    exact R_ret hR h d_BA_must_13
theorem M_BA_must {G : GT} {hp : HP} {a1 : Int32} {a2 : Int32} {p : Int32 × HP} (h : f_BA_must hp a1 a2 = some p) : MI G y_BA_must Y_BA_must .int [.ref (gA G 0), .int a1, .int a2] hp p.1 p.2 := MI_of rfl (fun Z hz X hR => by subst hz; exact T_BA_must X h hR)
theorem d_Sl_lastMustMonth_0 : decode prog_6_method_8_code 0 = .ok (.iconst (-1), 1) := by decide +kernel
theorem d_Sl_lastMustMonth_1 : decode prog_6_method_8_code 1 = .ok (.istore_n 1, 1) := by decide +kernel
theorem d_Sl_lastMustMonth_2 : decode prog_6_method_8_code 2 = .ok (.iconst 0, 1) := by decide +kernel
theorem d_Sl_lastMustMonth_3 : decode prog_6_method_8_code 3 = .ok (.istore_n 2, 1) := by decide +kernel
theorem d_Sl_lastMustMonth_4 : decode prog_6_method_8_code 4 = .ok (.iload_n 2, 1) := by decide +kernel
theorem d_Sl_lastMustMonth_5 : decode prog_6_method_8_code 5 = .ok (.aload_n 0, 1) := by decide +kernel
theorem d_Sl_lastMustMonth_6 : decode prog_6_method_8_code 6 = .ok (.getfield 38, 3) := by decide +kernel
theorem d_Sl_lastMustMonth_9 : decode prog_6_method_8_code 9 = .ok (.if_icmp .ge (20), 3) := by decide +kernel
theorem d_Sl_lastMustMonth_12 : decode prog_6_method_8_code 12 = .ok (.iload_n 1, 1) := by decide +kernel
theorem d_Sl_lastMustMonth_13 : decode prog_6_method_8_code 13 = .ok (.aload_n 0, 1) := by decide +kernel
theorem d_Sl_lastMustMonth_14 : decode prog_6_method_8_code 14 = .ok (.getfield 18, 3) := by decide +kernel
theorem d_Sl_lastMustMonth_17 : decode prog_6_method_8_code 17 = .ok (.iload_n 2, 1) := by decide +kernel
theorem d_Sl_lastMustMonth_18 : decode prog_6_method_8_code 18 = .ok (.iaload, 1) := by decide +kernel
theorem d_Sl_lastMustMonth_19 : decode prog_6_method_8_code 19 = .ok (.invokestatic 47, 3) := by decide +kernel
theorem d_Sl_lastMustMonth_22 : decode prog_6_method_8_code 22 = .ok (.istore_n 1, 1) := by decide +kernel
theorem d_Sl_lastMustMonth_23 : decode prog_6_method_8_code 23 = .ok (.iinc 2 (1), 3) := by decide +kernel
theorem d_Sl_lastMustMonth_26 : decode prog_6_method_8_code 26 = .ok (.goto (-22), 3) := by decide +kernel
theorem d_Sl_lastMustMonth_29 : decode prog_6_method_8_code 29 = .ok (.iload_n 1, 1) := by decide +kernel
theorem d_Sl_lastMustMonth_30 : decode prog_6_method_8_code 30 = .ok (.ireturn, 1) := by decide +kernel
set_option maxRecDepth 20000 in
set_option maxHeartbeats 2000000 in
theorem T_Sl_lastMustMonth_L4 {Z : ZT} (X : CX Z Y_Sl_lastMustMonth) {p : Int32 × HP} (hR : RetI Z Y_Sl_lastMustMonth .int p.1 p.2) {K : HP → Int32 → Option (Int32 × HP)} (hK : ∀ (hp : HP) (x1 : Int32), K hp x1 = some p → V Z Y_Sl_lastMustMonth hp 29 [(1, .int x1)] []) : ∀ (n : Nat) (hp : HP) (x1 : Int32) (x2 : Int32), f_Sl_lastMustMonth_L4 K n hp x1 x2 = some p → V Z Y_Sl_lastMustMonth hp 4 [(0, .ref (gA (zG Z) 68)), (1, .int x1), (2, .int x2)] [] := by
  intro n
  induction n with
  | zero =>
    intro hp x1 x2 h
    cases h
  | succ n ih =>
    intro hp x1 x2 h
    replace h : f_Sl_lastMustMonth_L4 K (n + 1) hp x1 x2 = some p := h
    unfold f_Sl_lastMustMonth_L4 at h
    refine R_iload_n X 2 d_Sl_lastMustMonth_4 rfl ?_
    refine R_aload_n X 0 d_Sl_lastMustMonth_5 rfl ?_
    refine R_getI (ci := 4) X rfl iSl_ok (of_decide_eq_true rfl) rfl 8 rfl rfl tw_150 d_Sl_lastMustMonth_6 ?_
    refine R_icmp_ge (tgt := 29) X d_Sl_lastMustMonth_9 rfl (fun c1 => ?_) (fun c1 => ?_)
    · replace h := (if_pos c1).symm.trans h
      refine V_pc (pc' := 29) rfl (R_loc (L' := [(1, .int x1)]) [1] rfl ?_)
      exact hK hp x1 h
    · replace h := (if_neg c1).symm.trans h
      refine R_iload_n X 1 d_Sl_lastMustMonth_12 rfl ?_
      refine R_aload_n X 0 d_Sl_lastMustMonth_13 rfl ?_
      refine R_getR (ci := 4) X rfl iSl_ok (of_decide_eq_true rfl) rfl 2 rfl rfl tw_139 d_Sl_lastMustMonth_14 ?_
      refine R_iload_n X 2 d_Sl_lastMustMonth_17 rfl ?_
      obtain ⟨i2, h⟩ := ck h
      refine R_iald (n := 4) X (of_decide_eq_true rfl) rfl i2 d_Sl_lastMustMonth_18 ?_
      refine V_pc (pc' := 19) rfl ?_
      refine R_mmax X tw_557 tw_398 tw_56 tw_399 rfl d_Sl_lastMustMonth_19 ?_
      refine R_istore_n (L' := [(1, .int (mx x1 (hp 71 (x2).toNatClampNeg))), (0, .ref (gA (zG Z) 68)), (2, .int x2)]) X d_Sl_lastMustMonth_22 (by decide) rfl ?_
      refine R_iinc (v := (x2 + 1)) (L' := [(2, .int (x2 + 1)), (1, .int (mx x1 (hp 71 (x2).toNatClampNeg))), (0, .ref (gA (zG Z) 68))]) X 2 d_Sl_lastMustMonth_23 rfl rfl (by decide) rfl ?_
      refine R_goto (tgt := 4) X d_Sl_lastMustMonth_26 rfl ?_
      refine V_pc (pc' := 4) rfl (R_loc (L' := [(0, .ref (gA (zG Z) 68)), (1, .int (mx x1 (hp 71 (x2).toNatClampNeg))), (2, .int (x2 + 1))]) [2, 1, 0] rfl ?_)
      exact ih hp (mx x1 (hp 71 (x2).toNatClampNeg)) (x2 + 1) h
set_option maxRecDepth 20000 in
set_option maxHeartbeats 2000000 in
theorem T_Sl_lastMustMonth {Z : ZT} (X : CX Z Y_Sl_lastMustMonth) {hp : HP} {p : Int32 × HP} (h : f_Sl_lastMustMonth hp = some p) (hR : RetI Z Y_Sl_lastMustMonth .int p.1 p.2) : V Z Y_Sl_lastMustMonth hp 0 [(0, .ref (gA (zG Z) 68))] [] := by
  unfold f_Sl_lastMustMonth at h
  refine R_iconst (v := (-1 : Int32)) X d_Sl_lastMustMonth_0 rfl ?_
  refine R_istore_n (L' := [(1, .int (-1 : Int32)), (0, .ref (gA (zG Z) 68))]) X d_Sl_lastMustMonth_1 (by decide) rfl ?_
  refine R_iconst (v := (0 : Int32)) X d_Sl_lastMustMonth_2 rfl ?_
  refine R_istore_n (L' := [(2, .int (0 : Int32)), (1, .int (-1 : Int32)), (0, .ref (gA (zG Z) 68))]) X d_Sl_lastMustMonth_3 (by decide) rfl ?_
  refine V_pc (pc' := 4) rfl (R_loc (L' := [(0, .ref (gA (zG Z) 68)), (1, .int (-1 : Int32)), (2, .int (0 : Int32))]) [2, 1, 0] rfl ?_)
  refine T_Sl_lastMustMonth_L4 X hR (fun hp4 w3 h => ?_) _ hp (-1 : Int32) (0 : Int32) h
  refine R_iload_n X 0 d_Sl_lastMustMonth_29 rfl ?_
  exact R_ret hR h d_Sl_lastMustMonth_30
theorem M_Sl_lastMustMonth {G : GT} {hp : HP} {p : Int32 × HP} (h : f_Sl_lastMustMonth hp = some p) : MI G y_Sl_lastMustMonth Y_Sl_lastMustMonth .int [.ref (gA G 68)] hp p.1 p.2 := MI_of rfl (fun Z hz X hR => by subst hz; exact T_Sl_lastMustMonth X h hR)
theorem d_Pl_give_0 : decode prog_4_method_3_code 0 = .ok (.iload_n 1, 1) := by decide +kernel
theorem d_Pl_give_1 : decode prog_4_method_3_code 1 = .ok (.istore 4, 2) := by decide +kernel
theorem d_Pl_give_3 : decode prog_4_method_3_code 3 = .ok (.iload_n 2, 1) := by decide +kernel
theorem d_Pl_give_4 : decode prog_4_method_3_code 4 = .ok (.iconst 1, 1) := by decide +kernel
theorem d_Pl_give_5 : decode prog_4_method_3_code 5 = .ok (.isub, 1) := by decide +kernel
theorem d_Pl_give_6 : decode prog_4_method_3_code 6 = .ok (.istore 5, 2) := by decide +kernel
theorem d_Pl_give_8 : decode prog_4_method_3_code 8 = .ok (.iload 5, 2) := by decide +kernel
theorem d_Pl_give_10 : decode prog_4_method_3_code 10 = .ok (.ifCond .lt (42), 3) := by decide +kernel
theorem d_Pl_give_13 : decode prog_4_method_3_code 13 = .ok (.aload_n 0, 1) := by decide +kernel
theorem d_Pl_give_14 : decode prog_4_method_3_code 14 = .ok (.getfield 9, 3) := by decide +kernel
theorem d_Pl_give_17 : decode prog_4_method_3_code 17 = .ok (.iload 5, 2) := by decide +kernel
theorem d_Pl_give_19 : decode prog_4_method_3_code 19 = .ok (.iload_n 3, 1) := by decide +kernel
theorem d_Pl_give_20 : decode prog_4_method_3_code 20 = .ok (.ifCond .le (10), 3) := by decide +kernel
theorem d_Pl_give_23 : decode prog_4_method_3_code 23 = .ok (.iload 4, 2) := by decide +kernel
theorem d_Pl_give_25 : decode prog_4_method_3_code 25 = .ok (.iload_n 3, 1) := by decide +kernel
theorem d_Pl_give_26 : decode prog_4_method_3_code 26 = .ok (.irem, 1) := by decide +kernel
theorem d_Pl_give_27 : decode prog_4_method_3_code 27 = .ok (.goto (4), 3) := by decide +kernel
theorem d_Pl_give_30 : decode prog_4_method_3_code 30 = .ok (.iconst 0, 1) := by decide +kernel
theorem d_Pl_give_31 : decode prog_4_method_3_code 31 = .ok (.iastore, 1) := by decide +kernel
theorem d_Pl_give_32 : decode prog_4_method_3_code 32 = .ok (.iload_n 3, 1) := by decide +kernel
theorem d_Pl_give_33 : decode prog_4_method_3_code 33 = .ok (.ifCond .le (10), 3) := by decide +kernel
theorem d_Pl_give_36 : decode prog_4_method_3_code 36 = .ok (.iload 4, 2) := by decide +kernel
theorem d_Pl_give_38 : decode prog_4_method_3_code 38 = .ok (.iload_n 3, 1) := by decide +kernel
theorem d_Pl_give_39 : decode prog_4_method_3_code 39 = .ok (.idiv, 1) := by decide +kernel
theorem d_Pl_give_40 : decode prog_4_method_3_code 40 = .ok (.goto (4), 3) := by decide +kernel
theorem d_Pl_give_43 : decode prog_4_method_3_code 43 = .ok (.iconst 0, 1) := by decide +kernel
theorem d_Pl_give_44 : decode prog_4_method_3_code 44 = .ok (.istore 4, 2) := by decide +kernel
theorem d_Pl_give_46 : decode prog_4_method_3_code 46 = .ok (.iinc 5 (-1), 3) := by decide +kernel
theorem d_Pl_give_49 : decode prog_4_method_3_code 49 = .ok (.goto (-41), 3) := by decide +kernel
theorem d_Pl_give_52 : decode prog_4_method_3_code 52 = .ok (.return_, 1) := by decide +kernel
set_option maxRecDepth 20000 in
set_option maxHeartbeats 2000000 in
theorem T_Pl_give_L8 {Z : ZT} (X : CX Z Y_Pl_give) {v3 : Int32} {p : Int32 × HP} (hR : RetV Z Y_Pl_give p.2) {K : HP → Option (Int32 × HP)} (hK : ∀ (hp : HP), K hp = some p → V Z Y_Pl_give hp 52 [] []) : ∀ (n : Nat) (hp : HP) (x4 : Int32) (x5 : Int32), f_Pl_give_L8 v3 K n hp x4 x5 = some p → V Z Y_Pl_give hp 8 [(0, .ref (gA (zG Z) 76)), (3, .int v3), (4, .int x4), (5, .int x5)] [] := by
  intro n
  induction n with
  | zero =>
    intro hp x4 x5 h
    cases h
  | succ n ih =>
    intro hp x4 x5 h
    replace h : f_Pl_give_L8 v3 K (n + 1) hp x4 x5 = some p := h
    unfold f_Pl_give_L8 at h
    refine R_iload X 3 d_Pl_give_8 rfl ?_
    refine R_iflt (tgt := 52) X d_Pl_give_10 rfl (fun c1 => ?_) (fun c1 => ?_)
    · replace h := (if_pos c1).symm.trans h
      refine V_pc (pc' := 52) rfl (R_loc (L' := []) [] rfl ?_)
      exact hK hp h
    · replace h := (if_neg c1).symm.trans h
      refine R_aload_n X 0 d_Pl_give_13 rfl ?_
      refine R_getR (ci := 2) X rfl iPl_ok (of_decide_eq_true rfl) rfl 0 rfl rfl tw_187 d_Pl_give_14 ?_
      refine R_iload X 3 d_Pl_give_17 rfl ?_
      refine R_iload_n X 1 d_Pl_give_19 rfl ?_
      refine R_ifle (tgt := 30) X d_Pl_give_20 rfl (fun c2 => ?_) (fun c2 => ?_)
      · replace h := (if_pos c2).symm.trans h
        refine R_iconst (v := (0 : Int32)) X d_Pl_give_30 rfl ?_
        obtain ⟨i3, h⟩ := ck h
        refine R_iast (n := 5) X (of_decide_eq_true rfl) rfl i3 d_Pl_give_31 ?_
        refine R_iload_n X 1 d_Pl_give_32 rfl ?_
        refine R_ifle (tgt := 43) X d_Pl_give_33 rfl (fun c4 => ?_) (fun c4 => absurd c2 c4)
        refine R_iconst (v := (0 : Int32)) X d_Pl_give_43 rfl ?_
        refine V_pc (pc' := 44) rfl ?_
        refine R_istore (L' := [(4, .int (0 : Int32)), (0, .ref (gA (zG Z) 76)), (3, .int v3), (5, .int x5)]) X d_Pl_give_44 (by decide) rfl ?_
        refine R_iinc (v := (x5 + (-1))) (L' := [(5, .int (x5 + (-1))), (4, .int (0 : Int32)), (0, .ref (gA (zG Z) 76)), (3, .int v3)]) X 3 d_Pl_give_46 rfl rfl (by decide) rfl ?_
        refine R_goto (tgt := 8) X d_Pl_give_49 rfl ?_
        refine V_pc (pc' := 8) rfl (R_loc (L' := [(0, .ref (gA (zG Z) 76)), (3, .int v3), (4, .int (0 : Int32)), (5, .int (x5 + (-1)))]) [2, 3, 1, 0] rfl ?_)
        exact ih (up hp 77 (x5).toNatClampNeg (0 : Int32)) (0 : Int32) (x5 + (-1)) h
      · replace h := (if_neg c2).symm.trans h
        refine R_iload X 2 d_Pl_give_23 rfl ?_
        refine R_iload_n X 1 d_Pl_give_25 rfl ?_
        obtain ⟨z5, h⟩ := cz h
        refine R_irem X d_Pl_give_26 z5 ?_
        refine R_goto (tgt := 31) X d_Pl_give_27 rfl ?_
        obtain ⟨i6, h⟩ := ck h
        refine R_iast (n := 5) X (of_decide_eq_true rfl) rfl i6 d_Pl_give_31 ?_
        refine V_pc (pc' := 32) rfl ?_
        refine R_iload_n X 1 d_Pl_give_32 rfl ?_
        refine R_ifle (tgt := 43) X d_Pl_give_33 rfl (fun c7 => absurd c7 c2) (fun c7 => ?_)
        refine R_iload X 2 d_Pl_give_36 rfl ?_
        refine R_iload_n X 1 d_Pl_give_38 rfl ?_
        refine R_idiv X d_Pl_give_39 z5 ?_
        refine R_goto (tgt := 44) X d_Pl_give_40 rfl ?_
        refine V_pc (pc' := 44) rfl ?_
        refine R_istore (L' := [(4, .int (x4 / v3)), (0, .ref (gA (zG Z) 76)), (3, .int v3), (5, .int x5)]) X d_Pl_give_44 (by decide) rfl ?_
        refine R_iinc (v := (x5 + (-1))) (L' := [(5, .int (x5 + (-1))), (4, .int (x4 / v3)), (0, .ref (gA (zG Z) 76)), (3, .int v3)]) X 3 d_Pl_give_46 rfl rfl (by decide) rfl ?_
        refine R_goto (tgt := 8) X d_Pl_give_49 rfl ?_
        refine V_pc (pc' := 8) rfl (R_loc (L' := [(0, .ref (gA (zG Z) 76)), (3, .int v3), (4, .int (x4 / v3)), (5, .int (x5 + (-1)))]) [2, 3, 1, 0] rfl ?_)
        exact ih (up hp 77 (x5).toNatClampNeg (x4 - x4 / v3 * v3)) (x4 / v3) (x5 + (-1)) h
set_option maxRecDepth 20000 in
set_option maxHeartbeats 2000000 in
theorem T_Pl_give {Z : ZT} (X : CX Z Y_Pl_give) {hp : HP} {a1 : Int32} {a2 : Int32} {a3 : Int32} {p : Int32 × HP} (h : f_Pl_give hp a1 a2 a3 = some p) (hR : RetV Z Y_Pl_give p.2) : V Z Y_Pl_give hp 0 [(0, .ref (gA (zG Z) 76)), (1, .int a1), (2, .int a2), (3, .int a3)] [] := by
  unfold f_Pl_give at h
  refine R_iload_n X 1 d_Pl_give_0 rfl ?_
  refine R_istore (L' := [(4, .int a1), (0, .ref (gA (zG Z) 76)), (1, .int a1), (2, .int a2), (3, .int a3)]) X d_Pl_give_1 (by decide) rfl ?_
  refine R_iload_n X 3 d_Pl_give_3 rfl ?_
  refine R_iconst (v := (1 : Int32)) X d_Pl_give_4 rfl ?_
  refine R_isub X d_Pl_give_5 ?_
  refine V_pc (pc' := 6) rfl ?_
  refine R_istore (L' := [(5, .int (a2 - (1 : Int32))), (4, .int a1), (0, .ref (gA (zG Z) 76)), (1, .int a1), (2, .int a2), (3, .int a3)]) X d_Pl_give_6 (by decide) rfl ?_
  refine V_pc (pc' := 8) rfl (R_loc (L' := [(0, .ref (gA (zG Z) 76)), (3, .int a3), (4, .int a1), (5, .int (a2 - (1 : Int32)))]) [2, 5, 1, 0] rfl ?_)
  refine T_Pl_give_L8 X hR (fun hp8 h => ?_) _ hp a1 (a2 - (1 : Int32)) h
  exact R_retv hR h d_Pl_give_52
theorem M_Pl_give {G : GT} {hp : HP} {a1 : Int32} {a2 : Int32} {a3 : Int32} {p : Int32 × HP} (h : f_Pl_give hp a1 a2 a3 = some p) : MV G y_Pl_give Y_Pl_give [.ref (gA G 76), .int a1, .int a2, .int a3] hp p.2 := MV_of rfl (fun Z hz X hR => by subst hz; exact T_Pl_give X h hR)
theorem d_Pl_sumGivenTo_0 : decode prog_4_method_5_code 0 = .ok (.iconst 0, 1) := by decide +kernel
theorem d_Pl_sumGivenTo_1 : decode prog_4_method_5_code 1 = .ok (.istore_n 3, 1) := by decide +kernel
theorem d_Pl_sumGivenTo_2 : decode prog_4_method_5_code 2 = .ok (.iconst 0, 1) := by decide +kernel
theorem d_Pl_sumGivenTo_3 : decode prog_4_method_5_code 3 = .ok (.istore 4, 2) := by decide +kernel
theorem d_Pl_sumGivenTo_5 : decode prog_4_method_5_code 5 = .ok (.iload 4, 2) := by decide +kernel
theorem d_Pl_sumGivenTo_7 : decode prog_4_method_5_code 7 = .ok (.aload_n 2, 1) := by decide +kernel
theorem d_Pl_sumGivenTo_8 : decode prog_4_method_5_code 8 = .ok (.getfield 15, 3) := by decide +kernel
theorem d_Pl_sumGivenTo_11 : decode prog_4_method_5_code 11 = .ok (.if_icmp .ge (30), 3) := by decide +kernel
theorem d_Pl_sumGivenTo_14 : decode prog_4_method_5_code 14 = .ok (.aload_n 0, 1) := by decide +kernel
theorem d_Pl_sumGivenTo_15 : decode prog_4_method_5_code 15 = .ok (.getfield 9, 3) := by decide +kernel
theorem d_Pl_sumGivenTo_18 : decode prog_4_method_5_code 18 = .ok (.iload 4, 2) := by decide +kernel
theorem d_Pl_sumGivenTo_20 : decode prog_4_method_5_code 20 = .ok (.iaload, 1) := by decide +kernel
theorem d_Pl_sumGivenTo_21 : decode prog_4_method_5_code 21 = .ok (.iload_n 1, 1) := by decide +kernel
theorem d_Pl_sumGivenTo_22 : decode prog_4_method_5_code 22 = .ok (.if_icmp .ne (13), 3) := by decide +kernel
theorem d_Pl_sumGivenTo_25 : decode prog_4_method_5_code 25 = .ok (.iload_n 3, 1) := by decide +kernel
theorem d_Pl_sumGivenTo_26 : decode prog_4_method_5_code 26 = .ok (.aload_n 2, 1) := by decide +kernel
theorem d_Pl_sumGivenTo_27 : decode prog_4_method_5_code 27 = .ok (.getfield 47, 3) := by decide +kernel
theorem d_Pl_sumGivenTo_30 : decode prog_4_method_5_code 30 = .ok (.iload 4, 2) := by decide +kernel
theorem d_Pl_sumGivenTo_32 : decode prog_4_method_5_code 32 = .ok (.iaload, 1) := by decide +kernel
theorem d_Pl_sumGivenTo_33 : decode prog_4_method_5_code 33 = .ok (.iadd, 1) := by decide +kernel
theorem d_Pl_sumGivenTo_34 : decode prog_4_method_5_code 34 = .ok (.istore_n 3, 1) := by decide +kernel
theorem d_Pl_sumGivenTo_35 : decode prog_4_method_5_code 35 = .ok (.iinc 4 (1), 3) := by decide +kernel
theorem d_Pl_sumGivenTo_38 : decode prog_4_method_5_code 38 = .ok (.goto (-33), 3) := by decide +kernel
theorem d_Pl_sumGivenTo_41 : decode prog_4_method_5_code 41 = .ok (.iload_n 3, 1) := by decide +kernel
theorem d_Pl_sumGivenTo_42 : decode prog_4_method_5_code 42 = .ok (.ireturn, 1) := by decide +kernel
set_option maxRecDepth 20000 in
set_option maxHeartbeats 2000000 in
theorem T_Pl_sumGivenTo_L5 {Z : ZT} (X : CX Z Y_Pl_sumGivenTo) {v1 : Int32} {p : Int32 × HP} (hR : RetI Z Y_Pl_sumGivenTo .int p.1 p.2) {K : HP → Int32 → Option (Int32 × HP)} (hK : ∀ (hp : HP) (x3 : Int32), K hp x3 = some p → V Z Y_Pl_sumGivenTo hp 41 [(3, .int x3)] []) : ∀ (n : Nat) (hp : HP) (x3 : Int32) (x4 : Int32), f_Pl_sumGivenTo_L5 v1 K n hp x3 x4 = some p → V Z Y_Pl_sumGivenTo hp 5 [(0, .ref (gA (zG Z) 76)), (1, .int v1), (2, .ref (gA (zG Z) 68)), (3, .int x3), (4, .int x4)] [] := by
  intro n
  induction n with
  | zero =>
    intro hp x3 x4 h
    cases h
  | succ n ih =>
    intro hp x3 x4 h
    replace h : f_Pl_sumGivenTo_L5 v1 K (n + 1) hp x3 x4 = some p := h
    unfold f_Pl_sumGivenTo_L5 at h
    refine R_iload X 4 d_Pl_sumGivenTo_5 rfl ?_
    refine R_aload_n X 2 d_Pl_sumGivenTo_7 rfl ?_
    refine R_getI (ci := 4) X rfl iSl_ok (of_decide_eq_true rfl) rfl 7 rfl rfl tw_148 d_Pl_sumGivenTo_8 ?_
    refine R_icmp_ge (tgt := 41) X d_Pl_sumGivenTo_11 rfl (fun c1 => ?_) (fun c1 => ?_)
    · replace h := (if_pos c1).symm.trans h
      refine V_pc (pc' := 41) rfl (R_loc (L' := [(3, .int x3)]) [3] rfl ?_)
      exact hK hp x3 h
    · replace h := (if_neg c1).symm.trans h
      refine R_aload_n X 0 d_Pl_sumGivenTo_14 rfl ?_
      refine R_getR (ci := 2) X rfl iPl_ok (of_decide_eq_true rfl) rfl 0 rfl rfl tw_187 d_Pl_sumGivenTo_15 ?_
      refine R_iload X 4 d_Pl_sumGivenTo_18 rfl ?_
      obtain ⟨i2, h⟩ := ck h
      refine R_iald (n := 5) X (of_decide_eq_true rfl) rfl i2 d_Pl_sumGivenTo_20 ?_
      refine R_iload_n X 1 d_Pl_sumGivenTo_21 rfl ?_
      refine V_pc (pc' := 22) rfl ?_
      refine R_icmp_ne (tgt := 35) X d_Pl_sumGivenTo_22 rfl (fun c3 => ?_) (fun c3 => ?_)
      · replace h := (if_neg c3).symm.trans h
        refine R_iinc (v := (x4 + 1)) (L' := [(4, .int (x4 + 1)), (0, .ref (gA (zG Z) 76)), (1, .int v1), (2, .ref (gA (zG Z) 68)), (3, .int x3)]) X 4 d_Pl_sumGivenTo_35 rfl rfl (by decide) rfl ?_
        refine R_goto (tgt := 5) X d_Pl_sumGivenTo_38 rfl ?_
        refine V_pc (pc' := 5) rfl (R_loc (L' := [(0, .ref (gA (zG Z) 76)), (1, .int v1), (2, .ref (gA (zG Z) 68)), (3, .int x3), (4, .int (x4 + 1))]) [1, 2, 3, 4, 0] rfl ?_)
        exact ih hp x3 (x4 + 1) h
      · replace h := (if_pos c3).symm.trans h
        refine R_iload_n X 3 d_Pl_sumGivenTo_25 rfl ?_
        refine R_aload_n X 2 d_Pl_sumGivenTo_26 rfl ?_
        refine R_getR (ci := 4) X rfl iSl_ok (of_decide_eq_true rfl) rfl 0 rfl rfl tw_136 d_Pl_sumGivenTo_27 ?_
        refine R_iload X 4 d_Pl_sumGivenTo_30 rfl ?_
        refine R_iald (n := 5) X (of_decide_eq_true rfl) rfl i2 d_Pl_sumGivenTo_32 ?_
        refine V_pc (pc' := 33) rfl ?_
        refine R_iadd X d_Pl_sumGivenTo_33 ?_
        refine R_istore_n (L' := [(3, .int (x3 + (hp 69 (x4).toNatClampNeg))), (0, .ref (gA (zG Z) 76)), (1, .int v1), (2, .ref (gA (zG Z) 68)), (4, .int x4)]) X d_Pl_sumGivenTo_34 (by decide) rfl ?_
        refine R_iinc (v := (x4 + 1)) (L' := [(4, .int (x4 + 1)), (3, .int (x3 + (hp 69 (x4).toNatClampNeg))), (0, .ref (gA (zG Z) 76)), (1, .int v1), (2, .ref (gA (zG Z) 68))]) X 4 d_Pl_sumGivenTo_35 rfl rfl (by decide) rfl ?_
        refine R_goto (tgt := 5) X d_Pl_sumGivenTo_38 rfl ?_
        refine V_pc (pc' := 5) rfl (R_loc (L' := [(0, .ref (gA (zG Z) 76)), (1, .int v1), (2, .ref (gA (zG Z) 68)), (3, .int (x3 + (hp 69 (x4).toNatClampNeg))), (4, .int (x4 + 1))]) [2, 3, 4, 1, 0] rfl ?_)
        exact ih hp (x3 + (hp 69 (x4).toNatClampNeg)) (x4 + 1) h
set_option maxRecDepth 20000 in
set_option maxHeartbeats 2000000 in
theorem T_Pl_sumGivenTo {Z : ZT} (X : CX Z Y_Pl_sumGivenTo) {hp : HP} {a1 : Int32} {p : Int32 × HP} (h : f_Pl_sumGivenTo hp a1 = some p) (hR : RetI Z Y_Pl_sumGivenTo .int p.1 p.2) : V Z Y_Pl_sumGivenTo hp 0 [(0, .ref (gA (zG Z) 76)), (1, .int a1), (2, .ref (gA (zG Z) 68))] [] := by
  unfold f_Pl_sumGivenTo at h
  refine R_iconst (v := (0 : Int32)) X d_Pl_sumGivenTo_0 rfl ?_
  refine R_istore_n (L' := [(3, .int (0 : Int32)), (0, .ref (gA (zG Z) 76)), (1, .int a1), (2, .ref (gA (zG Z) 68))]) X d_Pl_sumGivenTo_1 (by decide) rfl ?_
  refine R_iconst (v := (0 : Int32)) X d_Pl_sumGivenTo_2 rfl ?_
  refine R_istore (L' := [(4, .int (0 : Int32)), (3, .int (0 : Int32)), (0, .ref (gA (zG Z) 76)), (1, .int a1), (2, .ref (gA (zG Z) 68))]) X d_Pl_sumGivenTo_3 (by decide) rfl ?_
  refine V_pc (pc' := 5) rfl (R_loc (L' := [(0, .ref (gA (zG Z) 76)), (1, .int a1), (2, .ref (gA (zG Z) 68)), (3, .int (0 : Int32)), (4, .int (0 : Int32))]) [2, 3, 4, 1, 0] rfl ?_)
  refine T_Pl_sumGivenTo_L5 X hR (fun hp5 w4 h => ?_) _ hp (0 : Int32) (0 : Int32) h
  refine R_iload_n X 0 d_Pl_sumGivenTo_41 rfl ?_
  exact R_ret hR h d_Pl_sumGivenTo_42
theorem M_Pl_sumGivenTo {G : GT} {hp : HP} {a1 : Int32} {p : Int32 × HP} (h : f_Pl_sumGivenTo hp a1 = some p) : MI G y_Pl_sumGivenTo Y_Pl_sumGivenTo .int [.ref (gA G 76), .int a1, .ref (gA G 68)] hp p.1 p.2 := MI_of rfl (fun Z hz X hR => by subst hz; exact T_Pl_sumGivenTo X h hR)
theorem d_Pl_isAllDoable_0 : decode prog_4_method_6_code 0 = .ok (.iconst 0, 1) := by decide +kernel
theorem d_Pl_isAllDoable_1 : decode prog_4_method_6_code 1 = .ok (.istore 4, 2) := by decide +kernel
theorem d_Pl_isAllDoable_3 : decode prog_4_method_6_code 3 = .ok (.iload 4, 2) := by decide +kernel
theorem d_Pl_isAllDoable_5 : decode prog_4_method_6_code 5 = .ok (.aload_n 3, 1) := by decide +kernel
theorem d_Pl_isAllDoable_6 : decode prog_4_method_6_code 6 = .ok (.getfield 50, 3) := by decide +kernel
theorem d_Pl_isAllDoable_9 : decode prog_4_method_6_code 9 = .ok (.if_icmp .ge (37), 3) := by decide +kernel
theorem d_Pl_isAllDoable_12 : decode prog_4_method_6_code 12 = .ok (.aload_n 3, 1) := by decide +kernel
theorem d_Pl_isAllDoable_13 : decode prog_4_method_6_code 13 = .ok (.getfield 53, 3) := by decide +kernel
theorem d_Pl_isAllDoable_16 : decode prog_4_method_6_code 16 = .ok (.iload 4, 2) := by decide +kernel
theorem d_Pl_isAllDoable_18 : decode prog_4_method_6_code 18 = .ok (.iaload, 1) := by decide +kernel
theorem d_Pl_isAllDoable_19 : decode prog_4_method_6_code 19 = .ok (.iload_n 0, 1) := by decide +kernel
theorem d_Pl_isAllDoable_20 : decode prog_4_method_6_code 20 = .ok (.if_icmp .ne (20), 3) := by decide +kernel
theorem d_Pl_isAllDoable_23 : decode prog_4_method_6_code 23 = .ok (.aload_n 2, 1) := by decide +kernel
theorem d_Pl_isAllDoable_24 : decode prog_4_method_6_code 24 = .ok (.aload_n 3, 1) := by decide +kernel
theorem d_Pl_isAllDoable_25 : decode prog_4_method_6_code 25 = .ok (.getfield 56, 3) := by decide +kernel
theorem d_Pl_isAllDoable_28 : decode prog_4_method_6_code 28 = .ok (.iload 4, 2) := by decide +kernel
theorem d_Pl_isAllDoable_30 : decode prog_4_method_6_code 30 = .ok (.iaload, 1) := by decide +kernel
theorem d_Pl_isAllDoable_31 : decode prog_4_method_6_code 31 = .ok (.iload_n 1, 1) := by decide +kernel
theorem d_Pl_isAllDoable_32 : decode prog_4_method_6_code 32 = .ok (.invokevirtual 59, 3) := by decide +kernel
theorem d_Pl_isAllDoable_35 : decode prog_4_method_6_code 35 = .ok (.ifCond .ne (5), 3) := by decide +kernel
theorem d_Pl_isAllDoable_38 : decode prog_4_method_6_code 38 = .ok (.iconst 0, 1) := by decide +kernel
theorem d_Pl_isAllDoable_39 : decode prog_4_method_6_code 39 = .ok (.ireturn, 1) := by decide +kernel
theorem d_Pl_isAllDoable_40 : decode prog_4_method_6_code 40 = .ok (.iinc 4 (1), 3) := by decide +kernel
theorem d_Pl_isAllDoable_43 : decode prog_4_method_6_code 43 = .ok (.goto (-40), 3) := by decide +kernel
theorem d_Pl_isAllDoable_46 : decode prog_4_method_6_code 46 = .ok (.iconst 1, 1) := by decide +kernel
theorem d_Pl_isAllDoable_47 : decode prog_4_method_6_code 47 = .ok (.ireturn, 1) := by decide +kernel
set_option maxRecDepth 20000 in
set_option maxHeartbeats 2000000 in
theorem T_Pl_isAllDoable_L3 {Z : ZT} (X : CX Z Y_Pl_isAllDoable) {v0 : Int32} {v1 : Int32} {q2 : Nat} (hq2 : isB q2 = true) {p : Int32 × HP} (hR : RetI Z Y_Pl_isAllDoable .boolean p.1 p.2) {K : HP → Option (Int32 × HP)} (hK : ∀ (hp : HP), K hp = some p → V Z Y_Pl_isAllDoable hp 46 [] []) : ∀ (n : Nat) (hp : HP) (x4 : Int32), f_Pl_isAllDoable_L3 v0 v1 q2 K n hp x4 = some p → V Z Y_Pl_isAllDoable hp 3 [(0, .int v0), (1, .int v1), (2, .ref (gA (zG Z) q2)), (3, .ref (gA (zG Z) 68)), (4, .int x4)] [] := by
  intro n
  induction n with
  | zero =>
    intro hp x4 h
    cases h
  | succ n ih =>
    intro hp x4 h
    replace h : f_Pl_isAllDoable_L3 v0 v1 q2 K (n + 1) hp x4 = some p := h
    unfold f_Pl_isAllDoable_L3 at h
    refine R_iload X 4 d_Pl_isAllDoable_3 rfl ?_
    refine R_aload_n X 3 d_Pl_isAllDoable_5 rfl ?_
    refine R_getI (ci := 4) X rfl iSl_ok (of_decide_eq_true rfl) rfl 8 rfl rfl tw_152 d_Pl_isAllDoable_6 ?_
    refine R_icmp_ge (tgt := 46) X d_Pl_isAllDoable_9 rfl (fun c1 => ?_) (fun c1 => ?_)
    · replace h := (if_pos c1).symm.trans h
      refine V_pc (pc' := 46) rfl (R_loc (L' := []) [] rfl ?_)
      exact hK hp h
    · replace h := (if_neg c1).symm.trans h
      refine R_aload_n X 3 d_Pl_isAllDoable_12 rfl ?_
      refine R_getR (ci := 4) X rfl iSl_ok (of_decide_eq_true rfl) rfl 2 rfl rfl tw_140 d_Pl_isAllDoable_13 ?_
      refine R_iload X 4 d_Pl_isAllDoable_16 rfl ?_
      obtain ⟨i2, h⟩ := ck h
      refine R_iald (n := 4) X (of_decide_eq_true rfl) rfl i2 d_Pl_isAllDoable_18 ?_
      refine R_iload_n X 0 d_Pl_isAllDoable_19 rfl ?_
      refine V_pc (pc' := 20) rfl ?_
      refine R_icmp_ne (tgt := 40) X d_Pl_isAllDoable_20 rfl (fun c3 => ?_) (fun c3 => ?_)
      · replace h := (if_neg c3).symm.trans h
        refine R_iinc (v := (x4 + 1)) (L' := [(4, .int (x4 + 1)), (0, .int v0), (1, .int v1), (2, .ref (gA (zG Z) q2)), (3, .ref (gA (zG Z) 68))]) X 4 d_Pl_isAllDoable_40 rfl rfl (by decide) rfl ?_
        refine R_goto (tgt := 3) X d_Pl_isAllDoable_43 rfl ?_
        refine V_pc (pc' := 3) rfl (R_loc (L' := [(0, .int v0), (1, .int v1), (2, .ref (gA (zG Z) q2)), (3, .ref (gA (zG Z) 68)), (4, .int (x4 + 1))]) [1, 2, 3, 4, 0] rfl ?_)
        exact ih hp (x4 + 1) h
      · replace h := (if_pos c3).symm.trans h
        refine R_aload_n X 2 d_Pl_isAllDoable_23 rfl ?_
        refine R_aload_n X 3 d_Pl_isAllDoable_24 rfl ?_
        refine R_getR (ci := 4) X rfl iSl_ok (of_decide_eq_true rfl) rfl 1 rfl rfl tw_138 d_Pl_isAllDoable_25 ?_
        refine R_iload X 4 d_Pl_isAllDoable_28 rfl ?_
        refine R_iald (n := 4) X (of_decide_eq_true rfl) rfl i2 d_Pl_isAllDoable_30 ?_
        refine V_pc (pc' := 31) rfl ?_
        refine R_iload_n X 1 d_Pl_isAllDoable_31 rfl ?_
        obtain ⟨p5, e4, h⟩ := ob h
        refine R_vcall (ci := 0) (k := q2) (As := [.int (hp 70 (x4).toNatClampNeg), .int v1]) (st := []) X (M_Br_isDoable hq2 e4) tw_579 cf_Br_isDoable (B_all _ hq2).1.1 (B_all _ hq2).1.2 rfl rfl rfl rfl d_Pl_isAllDoable_32 ?_
        refine R_ifne (tgt := 40) X d_Pl_isAllDoable_35 rfl (fun c6 => ?_) (fun c6 => ?_)
        · replace h := (if_neg c6).symm.trans h
          refine R_iinc (v := (x4 + 1)) (L' := [(4, .int (x4 + 1)), (0, .int v0), (1, .int v1), (2, .ref (gA (zG Z) q2)), (3, .ref (gA (zG Z) 68))]) X 4 d_Pl_isAllDoable_40 rfl rfl (by decide) rfl ?_
          refine R_goto (tgt := 3) X d_Pl_isAllDoable_43 rfl ?_
          refine V_pc (pc' := 3) rfl (R_loc (L' := [(0, .int v0), (1, .int v1), (2, .ref (gA (zG Z) q2)), (3, .ref (gA (zG Z) 68)), (4, .int (x4 + 1))]) [1, 2, 3, 4, 0] rfl ?_)
          exact ih p5.2 (x4 + 1) h
        · replace h := (if_pos c6).symm.trans h
          refine R_iconst (v := (0 : Int32)) X d_Pl_isAllDoable_38 rfl ?_
          exact R_retc hR (by decide) h d_Pl_isAllDoable_39
set_option maxRecDepth 20000 in
set_option maxHeartbeats 2000000 in
theorem T_Pl_isAllDoable {Z : ZT} (X : CX Z Y_Pl_isAllDoable) {hp : HP} {a0 : Int32} {a1 : Int32} {q2 : Nat} (hq2 : isB q2 = true) {p : Int32 × HP} (h : f_Pl_isAllDoable hp a0 a1 q2 = some p) (hR : RetI Z Y_Pl_isAllDoable .boolean p.1 p.2) : V Z Y_Pl_isAllDoable hp 0 [(0, .int a0), (1, .int a1), (2, .ref (gA (zG Z) q2)), (3, .ref (gA (zG Z) 68))] [] := by
  unfold f_Pl_isAllDoable at h
  refine R_iconst (v := (0 : Int32)) X d_Pl_isAllDoable_0 rfl ?_
  refine R_istore (L' := [(4, .int (0 : Int32)), (0, .int a0), (1, .int a1), (2, .ref (gA (zG Z) q2)), (3, .ref (gA (zG Z) 68))]) X d_Pl_isAllDoable_1 (by decide) rfl ?_
  refine V_pc (pc' := 3) rfl (R_loc (L' := [(0, .int a0), (1, .int a1), (2, .ref (gA (zG Z) q2)), (3, .ref (gA (zG Z) 68)), (4, .int (0 : Int32))]) [1, 2, 3, 4, 0] rfl ?_)
  refine T_Pl_isAllDoable_L3 X hq2 hR (fun hp7 h => ?_) _ hp (0 : Int32) h
  refine R_iconst (v := (1 : Int32)) X d_Pl_isAllDoable_46 rfl ?_
  exact R_retc hR (by decide) h d_Pl_isAllDoable_47
theorem M_Pl_isAllDoable {G : GT} {hp : HP} {a0 : Int32} {a1 : Int32} {q2 : Nat} (hq2 : isB q2 = true) {p : Int32 × HP} (h : f_Pl_isAllDoable hp a0 a1 q2 = some p) : MI G y_Pl_isAllDoable Y_Pl_isAllDoable .boolean [.int a0, .int a1, .ref (gA G q2), .ref (gA G 68)] hp p.1 p.2 := MI_of rfl (fun Z hz X hR => by subst hz; exact T_Pl_isAllDoable X hq2 h hR)
theorem d_Pl_works_0 : decode prog_4_method_4_code 0 = .ok (.iload 4, 2) := by decide +kernel
theorem d_Pl_works_2 : decode prog_4_method_4_code 2 = .ok (.istore 6, 2) := by decide +kernel
theorem d_Pl_works_4 : decode prog_4_method_4_code 4 = .ok (.iconst 0, 1) := by decide +kernel
theorem d_Pl_works_5 : decode prog_4_method_4_code 5 = .ok (.istore 7, 2) := by decide +kernel
theorem d_Pl_works_7 : decode prog_4_method_4_code 7 = .ok (.iload 7, 2) := by decide +kernel
theorem d_Pl_works_9 : decode prog_4_method_4_code 9 = .ok (.iload 5, 2) := by decide +kernel
theorem d_Pl_works_11 : decode prog_4_method_4_code 11 = .ok (.if_icmp .ge (52), 3) := by decide +kernel
theorem d_Pl_works_14 : decode prog_4_method_4_code 14 = .ok (.iload 7, 2) := by decide +kernel
theorem d_Pl_works_16 : decode prog_4_method_4_code 16 = .ok (.ifCond .le (12), 3) := by decide +kernel
theorem d_Pl_works_19 : decode prog_4_method_4_code 19 = .ok (.aload_n 1, 1) := by decide +kernel
theorem d_Pl_works_20 : decode prog_4_method_4_code 20 = .ok (.iload_n 3, 1) := by decide +kernel
theorem d_Pl_works_21 : decode prog_4_method_4_code 21 = .ok (.iload 6, 2) := by decide +kernel
theorem d_Pl_works_23 : decode prog_4_method_4_code 23 = .ok (.invokevirtual 29, 3) := by decide +kernel
theorem d_Pl_works_26 : decode prog_4_method_4_code 26 = .ok (.istore 6, 2) := by decide +kernel
theorem d_Pl_works_28 : decode prog_4_method_4_code 28 = .ok (.iload 6, 2) := by decide +kernel
theorem d_Pl_works_30 : decode prog_4_method_4_code 30 = .ok (.aload_n 0, 1) := by decide +kernel
theorem d_Pl_works_31 : decode prog_4_method_4_code 31 = .ok (.iload 7, 2) := by decide +kernel
theorem d_Pl_works_33 : decode prog_4_method_4_code 33 = .ok (.aload_n 2, 1) := by decide +kernel
theorem d_Pl_works_34 : decode prog_4_method_4_code 34 = .ok (.invokevirtual 35, 3) := by decide +kernel
theorem d_Pl_works_37 : decode prog_4_method_4_code 37 = .ok (.isub, 1) := by decide +kernel
theorem d_Pl_works_38 : decode prog_4_method_4_code 38 = .ok (.invokestatic 39, 3) := by decide +kernel
theorem d_Pl_works_41 : decode prog_4_method_4_code 41 = .ok (.istore 6, 2) := by decide +kernel
theorem d_Pl_works_43 : decode prog_4_method_4_code 43 = .ok (.iload 7, 2) := by decide +kernel
theorem d_Pl_works_45 : decode prog_4_method_4_code 45 = .ok (.iload 6, 2) := by decide +kernel
theorem d_Pl_works_47 : decode prog_4_method_4_code 47 = .ok (.aload_n 1, 1) := by decide +kernel
theorem d_Pl_works_48 : decode prog_4_method_4_code 48 = .ok (.aload_n 2, 1) := by decide +kernel
theorem d_Pl_works_49 : decode prog_4_method_4_code 49 = .ok (.invokestatic 43, 3) := by decide +kernel
theorem d_Pl_works_52 : decode prog_4_method_4_code 52 = .ok (.ifCond .ne (5), 3) := by decide +kernel
theorem d_Pl_works_55 : decode prog_4_method_4_code 55 = .ok (.iconst 0, 1) := by decide +kernel
theorem d_Pl_works_56 : decode prog_4_method_4_code 56 = .ok (.ireturn, 1) := by decide +kernel
theorem d_Pl_works_57 : decode prog_4_method_4_code 57 = .ok (.iinc 7 (1), 3) := by decide +kernel
theorem d_Pl_works_60 : decode prog_4_method_4_code 60 = .ok (.goto (-53), 3) := by decide +kernel
theorem d_Pl_works_63 : decode prog_4_method_4_code 63 = .ok (.iconst 1, 1) := by decide +kernel
theorem d_Pl_works_64 : decode prog_4_method_4_code 64 = .ok (.ireturn, 1) := by decide +kernel
set_option maxRecDepth 20000 in
set_option maxHeartbeats 2000000 in
theorem T_Pl_works_L7 {Z : ZT} (X : CX Z Y_Pl_works) {q1 : Nat} {v3 : Int32} {v5 : Int32} (hq1 : isB q1 = true) {p : Int32 × HP} (hR : RetI Z Y_Pl_works .boolean p.1 p.2) {K : HP → Option (Int32 × HP)} (hK : ∀ (hp : HP), K hp = some p → V Z Y_Pl_works hp 63 [] []) : ∀ (n : Nat) (hp : HP) (x6 : Int32) (x7 : Int32), f_Pl_works_L7 q1 v3 v5 K n hp x6 x7 = some p → V Z Y_Pl_works hp 7 [(0, .ref (gA (zG Z) 76)), (1, .ref (gA (zG Z) q1)), (2, .ref (gA (zG Z) 68)), (3, .int v3), (5, .int v5), (6, .int x6), (7, .int x7)] [] := by
  intro n
  induction n with
  | zero =>
    intro hp x6 x7 h
    cases h
  | succ n ih =>
    intro hp x6 x7 h
    replace h : f_Pl_works_L7 q1 v3 v5 K (n + 1) hp x6 x7 = some p := h
    unfold f_Pl_works_L7 at h
    refine R_iload X 6 d_Pl_works_7 rfl ?_
    refine R_iload X 4 d_Pl_works_9 rfl ?_
    refine R_icmp_ge (tgt := 63) X d_Pl_works_11 rfl (fun c1 => ?_) (fun c1 => ?_)
    · replace h := (if_pos c1).symm.trans h
      refine V_pc (pc' := 63) rfl (R_loc (L' := []) [] rfl ?_)
      exact hK hp h
    · replace h := (if_neg c1).symm.trans h
      refine R_iload X 6 d_Pl_works_14 rfl ?_
      refine R_ifle (tgt := 28) X d_Pl_works_16 rfl (fun c2 => ?_) (fun c2 => ?_)
      · replace h := (if_pos c2).symm.trans h
        refine R_iload X 5 d_Pl_works_28 rfl ?_
        refine R_aload_n X 0 d_Pl_works_30 rfl ?_
        refine R_iload X 6 d_Pl_works_31 rfl ?_
        refine R_aload_n X 2 d_Pl_works_33 rfl ?_
        obtain ⟨p4, e3, h⟩ := ob h
        refine R_vcall (ci := 2) (k := 76) (As := [.int x7, .ref (gA (zG Z) 68)]) (st := [.int x6]) X (M_Pl_sumGivenTo e3) tw_571 cf_Pl_sumGivenTo (of_decide_eq_true rfl) rfl rfl rfl rfl rfl d_Pl_works_34 ?_
        refine V_pc (pc' := 37) rfl ?_
        refine R_isub X d_Pl_works_37 ?_
        obtain ⟨p6, e5, h⟩ := ob h
        refine R_ncall (As := [.int (x6 - p4.1)]) (st := []) (host := "BodyAccounts") X (M_BA_bounded e5) (by decide +kernel) cf_BA_bounded rfl rfl rfl d_Pl_works_38 ?_
        refine R_istore (L' := [(6, .int p6.1), (0, .ref (gA (zG Z) 76)), (1, .ref (gA (zG Z) q1)), (2, .ref (gA (zG Z) 68)), (3, .int v3), (5, .int v5), (7, .int x7)]) X d_Pl_works_41 (by decide) rfl ?_
        refine R_iload X 6 d_Pl_works_43 rfl ?_
        refine R_iload X 0 d_Pl_works_45 rfl ?_
        refine R_aload_n X 2 d_Pl_works_47 rfl ?_
        refine V_pc (pc' := 48) rfl ?_
        refine R_aload_n X 3 d_Pl_works_48 rfl ?_
        obtain ⟨p8, e7, h⟩ := ob h
        refine R_scall (As := [.int x7, .int p6.1, .ref (gA (zG Z) q1), .ref (gA (zG Z) 68)]) (st := []) X (M_Pl_isAllDoable hq1 e7) tw_576 cf_Pl_isAllDoable rfl rfl rfl d_Pl_works_49 ?_
        refine R_ifne (tgt := 57) X d_Pl_works_52 rfl (fun c9 => ?_) (fun c9 => ?_)
        · replace h := (if_neg c9).symm.trans h
          refine R_iinc (v := (x7 + 1)) (L' := [(7, .int (x7 + 1)), (6, .int p6.1), (0, .ref (gA (zG Z) 76)), (1, .ref (gA (zG Z) q1)), (2, .ref (gA (zG Z) 68)), (3, .int v3), (5, .int v5)]) X 6 d_Pl_works_57 rfl rfl (by decide) rfl ?_
          refine R_goto (tgt := 7) X d_Pl_works_60 rfl ?_
          refine V_pc (pc' := 7) rfl (R_loc (L' := [(0, .ref (gA (zG Z) 76)), (1, .ref (gA (zG Z) q1)), (2, .ref (gA (zG Z) 68)), (3, .int v3), (5, .int v5), (6, .int p6.1), (7, .int (x7 + 1))]) [2, 3, 4, 5, 6, 1, 0] rfl ?_)
          exact ih p8.2 p6.1 (x7 + 1) h
        · replace h := (if_pos c9).symm.trans h
          refine R_iconst (v := (0 : Int32)) X d_Pl_works_55 rfl ?_
          exact R_retc hR (by decide) h d_Pl_works_56
      · replace h := (if_neg c2).symm.trans h
        refine R_aload_n X 1 d_Pl_works_19 rfl ?_
        refine R_iload_n X 3 d_Pl_works_20 rfl ?_
        refine R_iload X 5 d_Pl_works_21 rfl ?_
        obtain ⟨p11, e10, h⟩ := ob h
        refine R_vcall (ci := 0) (k := q1) (As := [.int v3, .int x6]) (st := []) X (M_Br_afterMonth hq1 e10) tw_570 cf_Br_afterMonth (B_all _ hq1).1.1 (B_all _ hq1).1.2 rfl rfl rfl rfl d_Pl_works_23 ?_
        refine R_istore (L' := [(6, .int p11.1), (0, .ref (gA (zG Z) 76)), (1, .ref (gA (zG Z) q1)), (2, .ref (gA (zG Z) 68)), (3, .int v3), (5, .int v5), (7, .int x7)]) X d_Pl_works_26 (by decide) rfl ?_
        refine V_pc (pc' := 28) rfl ?_
        refine R_iload X 0 d_Pl_works_28 rfl ?_
        refine R_aload_n X 1 d_Pl_works_30 rfl ?_
        refine R_iload X 6 d_Pl_works_31 rfl ?_
        refine R_aload_n X 3 d_Pl_works_33 rfl ?_
        obtain ⟨p13, e12, h⟩ := ob h
        refine R_vcall (ci := 2) (k := 76) (As := [.int x7, .ref (gA (zG Z) 68)]) (st := [.int p11.1]) X (M_Pl_sumGivenTo e12) tw_571 cf_Pl_sumGivenTo (of_decide_eq_true rfl) rfl rfl rfl rfl rfl d_Pl_works_34 ?_
        refine R_isub X d_Pl_works_37 ?_
        refine V_pc (pc' := 38) rfl ?_
        obtain ⟨p15, e14, h⟩ := ob h
        refine R_ncall (As := [.int (p11.1 - p13.1)]) (st := []) (host := "BodyAccounts") X (M_BA_bounded e14) (by decide +kernel) cf_BA_bounded rfl rfl rfl d_Pl_works_38 ?_
        refine R_istore (L' := [(6, .int p15.1), (0, .ref (gA (zG Z) 76)), (1, .ref (gA (zG Z) q1)), (2, .ref (gA (zG Z) 68)), (3, .int v3), (5, .int v5), (7, .int x7)]) X d_Pl_works_41 (by decide) rfl ?_
        refine R_iload X 6 d_Pl_works_43 rfl ?_
        refine R_iload X 0 d_Pl_works_45 rfl ?_
        refine R_aload_n X 2 d_Pl_works_47 rfl ?_
        refine R_aload_n X 3 d_Pl_works_48 rfl ?_
        refine V_pc (pc' := 49) rfl ?_
        obtain ⟨p17, e16, h⟩ := ob h
        refine R_scall (As := [.int x7, .int p15.1, .ref (gA (zG Z) q1), .ref (gA (zG Z) 68)]) (st := []) X (M_Pl_isAllDoable hq1 e16) tw_576 cf_Pl_isAllDoable rfl rfl rfl d_Pl_works_49 ?_
        refine R_ifne (tgt := 57) X d_Pl_works_52 rfl (fun c18 => ?_) (fun c18 => ?_)
        · replace h := (if_neg c18).symm.trans h
          refine R_iinc (v := (x7 + 1)) (L' := [(7, .int (x7 + 1)), (6, .int p15.1), (0, .ref (gA (zG Z) 76)), (1, .ref (gA (zG Z) q1)), (2, .ref (gA (zG Z) 68)), (3, .int v3), (5, .int v5)]) X 6 d_Pl_works_57 rfl rfl (by decide) rfl ?_
          refine R_goto (tgt := 7) X d_Pl_works_60 rfl ?_
          refine V_pc (pc' := 7) rfl (R_loc (L' := [(0, .ref (gA (zG Z) 76)), (1, .ref (gA (zG Z) q1)), (2, .ref (gA (zG Z) 68)), (3, .int v3), (5, .int v5), (6, .int p15.1), (7, .int (x7 + 1))]) [2, 3, 4, 5, 6, 1, 0] rfl ?_)
          exact ih p17.2 p15.1 (x7 + 1) h
        · replace h := (if_pos c18).symm.trans h
          refine R_iconst (v := (0 : Int32)) X d_Pl_works_55 rfl ?_
          exact R_retc hR (by decide) h d_Pl_works_56
set_option maxRecDepth 20000 in
set_option maxHeartbeats 2000000 in
theorem T_Pl_works {Z : ZT} (X : CX Z Y_Pl_works) {hp : HP} {q1 : Nat} {a3 : Int32} {a4 : Int32} {a5 : Int32} (hq1 : isB q1 = true) {p : Int32 × HP} (h : f_Pl_works hp q1 a3 a4 a5 = some p) (hR : RetI Z Y_Pl_works .boolean p.1 p.2) : V Z Y_Pl_works hp 0 [(0, .ref (gA (zG Z) 76)), (1, .ref (gA (zG Z) q1)), (2, .ref (gA (zG Z) 68)), (3, .int a3), (4, .int a4), (5, .int a5)] [] := by
  unfold f_Pl_works at h
  refine R_iload X 4 d_Pl_works_0 rfl ?_
  refine R_istore (L' := [(6, .int a4), (0, .ref (gA (zG Z) 76)), (1, .ref (gA (zG Z) q1)), (2, .ref (gA (zG Z) 68)), (3, .int a3), (4, .int a4), (5, .int a5)]) X d_Pl_works_2 (by decide) rfl ?_
  refine R_iconst (v := (0 : Int32)) X d_Pl_works_4 rfl ?_
  refine R_istore (L' := [(7, .int (0 : Int32)), (6, .int a4), (0, .ref (gA (zG Z) 76)), (1, .ref (gA (zG Z) q1)), (2, .ref (gA (zG Z) 68)), (3, .int a3), (4, .int a4), (5, .int a5)]) X d_Pl_works_5 (by decide) rfl ?_
  refine V_pc (pc' := 7) rfl (R_loc (L' := [(0, .ref (gA (zG Z) 76)), (1, .ref (gA (zG Z) q1)), (2, .ref (gA (zG Z) 68)), (3, .int a3), (5, .int a5), (6, .int a4), (7, .int (0 : Int32))]) [2, 3, 4, 5, 7, 1, 0] rfl ?_)
  refine T_Pl_works_L7 X hq1 hR (fun hp19 h => ?_) _ hp a4 (0 : Int32) h
  refine R_iconst (v := (1 : Int32)) X d_Pl_works_63 rfl ?_
  exact R_retc hR (by decide) h d_Pl_works_64
theorem M_Pl_works {G : GT} {hp : HP} {q1 : Nat} {a3 : Int32} {a4 : Int32} {a5 : Int32} (hq1 : isB q1 = true) {p : Int32 × HP} (h : f_Pl_works hp q1 a3 a4 a5 = some p) : MI G y_Pl_works Y_Pl_works .boolean [.ref (gA G 76), .ref (gA G q1), .ref (gA G 68), .int a3, .int a4, .int a5] hp p.1 p.2 := MI_of rfl (fun Z hz X hR => by subst hz; exact T_Pl_works X hq1 h hR)
theorem d_Pl_find_0 : decode prog_4_method_2_code 0 = .ok (.iconst 1, 1) := by decide +kernel
theorem d_Pl_find_1 : decode prog_4_method_2_code 1 = .ok (.istore 6, 2) := by decide +kernel
theorem d_Pl_find_3 : decode prog_4_method_2_code 3 = .ok (.iconst 0, 1) := by decide +kernel
theorem d_Pl_find_4 : decode prog_4_method_2_code 4 = .ok (.istore 7, 2) := by decide +kernel
theorem d_Pl_find_6 : decode prog_4_method_2_code 6 = .ok (.iload 7, 2) := by decide +kernel
theorem d_Pl_find_8 : decode prog_4_method_2_code 8 = .ok (.aload_n 2, 1) := by decide +kernel
theorem d_Pl_find_9 : decode prog_4_method_2_code 9 = .ok (.getfield 15, 3) := by decide +kernel
theorem d_Pl_find_12 : decode prog_4_method_2_code 12 = .ok (.if_icmp .ge (16), 3) := by decide +kernel
theorem d_Pl_find_15 : decode prog_4_method_2_code 15 = .ok (.iload 6, 2) := by decide +kernel
theorem d_Pl_find_17 : decode prog_4_method_2_code 17 = .ok (.iload 5, 2) := by decide +kernel
theorem d_Pl_find_19 : decode prog_4_method_2_code 19 = .ok (.imul, 1) := by decide +kernel
theorem d_Pl_find_20 : decode prog_4_method_2_code 20 = .ok (.istore 6, 2) := by decide +kernel
theorem d_Pl_find_22 : decode prog_4_method_2_code 22 = .ok (.iinc 7 (1), 3) := by decide +kernel
theorem d_Pl_find_25 : decode prog_4_method_2_code 25 = .ok (.goto (-19), 3) := by decide +kernel
theorem d_Pl_find_28 : decode prog_4_method_2_code 28 = .ok (.iconst 0, 1) := by decide +kernel
theorem d_Pl_find_29 : decode prog_4_method_2_code 29 = .ok (.istore 7, 2) := by decide +kernel
theorem d_Pl_find_31 : decode prog_4_method_2_code 31 = .ok (.iload 7, 2) := by decide +kernel
theorem d_Pl_find_33 : decode prog_4_method_2_code 33 = .ok (.iload 6, 2) := by decide +kernel
theorem d_Pl_find_35 : decode prog_4_method_2_code 35 = .ok (.if_icmp .ge (37), 3) := by decide +kernel
theorem d_Pl_find_38 : decode prog_4_method_2_code 38 = .ok (.aload_n 0, 1) := by decide +kernel
theorem d_Pl_find_39 : decode prog_4_method_2_code 39 = .ok (.iload 7, 2) := by decide +kernel
theorem d_Pl_find_41 : decode prog_4_method_2_code 41 = .ok (.aload_n 2, 1) := by decide +kernel
theorem d_Pl_find_42 : decode prog_4_method_2_code 42 = .ok (.getfield 15, 3) := by decide +kernel
theorem d_Pl_find_45 : decode prog_4_method_2_code 45 = .ok (.iload 5, 2) := by decide +kernel
theorem d_Pl_find_47 : decode prog_4_method_2_code 47 = .ok (.invokevirtual 21, 3) := by decide +kernel
theorem d_Pl_find_50 : decode prog_4_method_2_code 50 = .ok (.aload_n 0, 1) := by decide +kernel
theorem d_Pl_find_51 : decode prog_4_method_2_code 51 = .ok (.aload_n 1, 1) := by decide +kernel
theorem d_Pl_find_52 : decode prog_4_method_2_code 52 = .ok (.aload_n 2, 1) := by decide +kernel
theorem d_Pl_find_53 : decode prog_4_method_2_code 53 = .ok (.iload_n 3, 1) := by decide +kernel
theorem d_Pl_find_54 : decode prog_4_method_2_code 54 = .ok (.iload 4, 2) := by decide +kernel
theorem d_Pl_find_56 : decode prog_4_method_2_code 56 = .ok (.iload 5, 2) := by decide +kernel
theorem d_Pl_find_58 : decode prog_4_method_2_code 58 = .ok (.invokevirtual 25, 3) := by decide +kernel
theorem d_Pl_find_61 : decode prog_4_method_2_code 61 = .ok (.ifCond .eq (5), 3) := by decide +kernel
theorem d_Pl_find_64 : decode prog_4_method_2_code 64 = .ok (.iconst 1, 1) := by decide +kernel
theorem d_Pl_find_65 : decode prog_4_method_2_code 65 = .ok (.ireturn, 1) := by decide +kernel
theorem d_Pl_find_66 : decode prog_4_method_2_code 66 = .ok (.iinc 7 (1), 3) := by decide +kernel
theorem d_Pl_find_69 : decode prog_4_method_2_code 69 = .ok (.goto (-38), 3) := by decide +kernel
theorem d_Pl_find_72 : decode prog_4_method_2_code 72 = .ok (.iconst 0, 1) := by decide +kernel
theorem d_Pl_find_73 : decode prog_4_method_2_code 73 = .ok (.ireturn, 1) := by decide +kernel
set_option maxRecDepth 20000 in
set_option maxHeartbeats 2000000 in
theorem T_Pl_find_L6 {Z : ZT} (X : CX Z Y_Pl_find) {q1 : Nat} {v3 : Int32} {v4 : Int32} {v5 : Int32} (hq1 : isB q1 = true) {p : Int32 × HP} (hR : RetI Z Y_Pl_find .boolean p.1 p.2) {K : HP → Int32 → Option (Int32 × HP)} (hK : ∀ (hp : HP) (x6 : Int32), K hp x6 = some p → V Z Y_Pl_find hp 28 [(0, .ref (gA (zG Z) 76)), (1, .ref (gA (zG Z) q1)), (2, .ref (gA (zG Z) 68)), (3, .int v3), (4, .int v4), (5, .int v5), (6, .int x6)] []) : ∀ (n : Nat) (hp : HP) (x6 : Int32) (x7 : Int32), f_Pl_find_L6 q1 v3 v4 v5 K n hp x6 x7 = some p → V Z Y_Pl_find hp 6 [(0, .ref (gA (zG Z) 76)), (1, .ref (gA (zG Z) q1)), (2, .ref (gA (zG Z) 68)), (3, .int v3), (4, .int v4), (5, .int v5), (6, .int x6), (7, .int x7)] [] := by
  intro n
  induction n with
  | zero =>
    intro hp x6 x7 h
    cases h
  | succ n ih =>
    intro hp x6 x7 h
    replace h : f_Pl_find_L6 q1 v3 v4 v5 K (n + 1) hp x6 x7 = some p := h
    unfold f_Pl_find_L6 at h
    refine R_iload X 7 d_Pl_find_6 rfl ?_
    refine R_aload_n X 2 d_Pl_find_8 rfl ?_
    refine R_getI (ci := 4) X rfl iSl_ok (of_decide_eq_true rfl) rfl 7 rfl rfl tw_148 d_Pl_find_9 ?_
    refine R_icmp_ge (tgt := 28) X d_Pl_find_12 rfl (fun c1 => ?_) (fun c1 => ?_)
    · replace h := (if_pos c1).symm.trans h
      refine V_pc (pc' := 28) rfl (R_loc (L' := [(0, .ref (gA (zG Z) 76)), (1, .ref (gA (zG Z) q1)), (2, .ref (gA (zG Z) 68)), (3, .int v3), (4, .int v4), (5, .int v5), (6, .int x6)]) [0, 1, 2, 3, 4, 5, 6] rfl ?_)
      exact hK hp x6 h
    · replace h := (if_neg c1).symm.trans h
      refine R_iload X 6 d_Pl_find_15 rfl ?_
      refine R_iload X 5 d_Pl_find_17 rfl ?_
      refine R_imul X d_Pl_find_19 ?_
      refine R_istore (L' := [(6, .int (x6 * v5)), (0, .ref (gA (zG Z) 76)), (1, .ref (gA (zG Z) q1)), (2, .ref (gA (zG Z) 68)), (3, .int v3), (4, .int v4), (5, .int v5), (7, .int x7)]) X d_Pl_find_20 (by decide) rfl ?_
      refine R_iinc (v := (x7 + 1)) (L' := [(7, .int (x7 + 1)), (6, .int (x6 * v5)), (0, .ref (gA (zG Z) 76)), (1, .ref (gA (zG Z) q1)), (2, .ref (gA (zG Z) 68)), (3, .int v3), (4, .int v4), (5, .int v5)]) X 7 d_Pl_find_22 rfl rfl (by decide) rfl ?_
      refine V_pc (pc' := 25) rfl ?_
      refine R_goto (tgt := 6) X d_Pl_find_25 rfl ?_
      refine V_pc (pc' := 6) rfl (R_loc (L' := [(0, .ref (gA (zG Z) 76)), (1, .ref (gA (zG Z) q1)), (2, .ref (gA (zG Z) 68)), (3, .int v3), (4, .int v4), (5, .int v5), (6, .int (x6 * v5)), (7, .int (x7 + 1))]) [2, 3, 4, 5, 6, 7, 1, 0] rfl ?_)
      exact ih hp (x6 * v5) (x7 + 1) h
set_option maxRecDepth 20000 in
set_option maxHeartbeats 2000000 in
theorem T_Pl_find_L31 {Z : ZT} (X : CX Z Y_Pl_find) {q1 : Nat} {v3 : Int32} {v4 : Int32} {v5 : Int32} {v6 : Int32} (hq1 : isB q1 = true) {p : Int32 × HP} (hR : RetI Z Y_Pl_find .boolean p.1 p.2) {K : HP → Option (Int32 × HP)} (hK : ∀ (hp : HP), K hp = some p → V Z Y_Pl_find hp 72 [] []) : ∀ (n : Nat) (hp : HP) (x7 : Int32), f_Pl_find_L31 q1 v3 v4 v5 v6 K n hp x7 = some p → V Z Y_Pl_find hp 31 [(0, .ref (gA (zG Z) 76)), (1, .ref (gA (zG Z) q1)), (2, .ref (gA (zG Z) 68)), (3, .int v3), (4, .int v4), (5, .int v5), (6, .int v6), (7, .int x7)] [] := by
  intro n
  induction n with
  | zero =>
    intro hp x7 h
    cases h
  | succ n ih =>
    intro hp x7 h
    replace h : f_Pl_find_L31 q1 v3 v4 v5 v6 K (n + 1) hp x7 = some p := h
    unfold f_Pl_find_L31 at h
    refine R_iload X 7 d_Pl_find_31 rfl ?_
    refine R_iload X 6 d_Pl_find_33 rfl ?_
    refine R_icmp_ge (tgt := 72) X d_Pl_find_35 rfl (fun c4 => ?_) (fun c4 => ?_)
    · replace h := (if_pos c4).symm.trans h
      refine V_pc (pc' := 72) rfl (R_loc (L' := []) [] rfl ?_)
      exact hK hp h
    · replace h := (if_neg c4).symm.trans h
      refine R_aload_n X 0 d_Pl_find_38 rfl ?_
      refine R_iload X 7 d_Pl_find_39 rfl ?_
      refine R_aload_n X 2 d_Pl_find_41 rfl ?_
      refine R_getI (ci := 4) X rfl iSl_ok (of_decide_eq_true rfl) rfl 7 rfl rfl tw_148 d_Pl_find_42 ?_
      refine R_iload X 5 d_Pl_find_45 rfl ?_
      refine V_pc (pc' := 47) rfl ?_
      obtain ⟨p6, e5, h⟩ := ob h
      refine R_vcallv (ci := 2) (k := 76) (As := [.int x7, .int (hp 68 7), .int v5]) (st := []) X (M_Pl_give e5) tw_562 cf_Pl_give (of_decide_eq_true rfl) rfl rfl rfl rfl rfl d_Pl_find_47 ?_
      refine R_aload_n X 0 d_Pl_find_50 rfl ?_
      refine R_aload_n X 1 d_Pl_find_51 rfl ?_
      refine R_aload_n X 2 d_Pl_find_52 rfl ?_
      refine R_iload_n X 3 d_Pl_find_53 rfl ?_
      refine R_iload X 4 d_Pl_find_54 rfl ?_
      refine V_pc (pc' := 56) rfl ?_
      refine R_iload X 5 d_Pl_find_56 rfl ?_
      obtain ⟨p8, e7, h⟩ := ob h
      refine R_vcall (ci := 2) (k := 76) (As := [.ref (gA (zG Z) q1), .ref (gA (zG Z) 68), .int v3, .int v4, .int v5]) (st := []) X (M_Pl_works hq1 e7) tw_566 cf_Pl_works (of_decide_eq_true rfl) rfl rfl rfl rfl rfl d_Pl_find_58 ?_
      refine R_ifeq (tgt := 66) X d_Pl_find_61 rfl (fun c9 => ?_) (fun c9 => ?_)
      · replace h := (if_pos c9).symm.trans h
        refine R_iinc (v := (x7 + 1)) (L' := [(7, .int (x7 + 1)), (0, .ref (gA (zG Z) 76)), (1, .ref (gA (zG Z) q1)), (2, .ref (gA (zG Z) 68)), (3, .int v3), (4, .int v4), (5, .int v5), (6, .int v6)]) X 7 d_Pl_find_66 rfl rfl (by decide) rfl ?_
        refine R_goto (tgt := 31) X d_Pl_find_69 rfl ?_
        refine V_pc (pc' := 31) rfl (R_loc (L' := [(0, .ref (gA (zG Z) 76)), (1, .ref (gA (zG Z) q1)), (2, .ref (gA (zG Z) 68)), (3, .int v3), (4, .int v4), (5, .int v5), (6, .int v6), (7, .int (x7 + 1))]) [1, 2, 3, 4, 5, 6, 7, 0] rfl ?_)
        exact ih p8.2 (x7 + 1) h
      · replace h := (if_neg c9).symm.trans h
        refine R_iconst (v := (1 : Int32)) X d_Pl_find_64 rfl ?_
        exact R_retc hR (by decide) h d_Pl_find_65
set_option maxRecDepth 20000 in
set_option maxHeartbeats 2000000 in
theorem T_Pl_find {Z : ZT} (X : CX Z Y_Pl_find) {hp : HP} {q1 : Nat} {a3 : Int32} {a4 : Int32} {a5 : Int32} (hq1 : isB q1 = true) {p : Int32 × HP} (h : f_Pl_find hp q1 a3 a4 a5 = some p) (hR : RetI Z Y_Pl_find .boolean p.1 p.2) : V Z Y_Pl_find hp 0 [(0, .ref (gA (zG Z) 76)), (1, .ref (gA (zG Z) q1)), (2, .ref (gA (zG Z) 68)), (3, .int a3), (4, .int a4), (5, .int a5)] [] := by
  unfold f_Pl_find at h
  refine R_iconst (v := (1 : Int32)) X d_Pl_find_0 rfl ?_
  refine R_istore (L' := [(6, .int (1 : Int32)), (0, .ref (gA (zG Z) 76)), (1, .ref (gA (zG Z) q1)), (2, .ref (gA (zG Z) 68)), (3, .int a3), (4, .int a4), (5, .int a5)]) X d_Pl_find_1 (by decide) rfl ?_
  refine R_iconst (v := (0 : Int32)) X d_Pl_find_3 rfl ?_
  refine R_istore (L' := [(7, .int (0 : Int32)), (6, .int (1 : Int32)), (0, .ref (gA (zG Z) 76)), (1, .ref (gA (zG Z) q1)), (2, .ref (gA (zG Z) 68)), (3, .int a3), (4, .int a4), (5, .int a5)]) X d_Pl_find_4 (by decide) rfl ?_
  refine V_pc (pc' := 6) rfl (R_loc (L' := [(0, .ref (gA (zG Z) 76)), (1, .ref (gA (zG Z) q1)), (2, .ref (gA (zG Z) 68)), (3, .int a3), (4, .int a4), (5, .int a5), (6, .int (1 : Int32)), (7, .int (0 : Int32))]) [2, 3, 4, 5, 6, 7, 1, 0] rfl ?_)
  refine T_Pl_find_L6 X hq1 hR (fun hp3 w2 h => ?_) _ hp (1 : Int32) (0 : Int32) h
  refine R_iconst (v := (0 : Int32)) X d_Pl_find_28 rfl ?_
  refine R_istore (L' := [(7, .int (0 : Int32)), (0, .ref (gA (zG Z) 76)), (1, .ref (gA (zG Z) q1)), (2, .ref (gA (zG Z) 68)), (3, .int a3), (4, .int a4), (5, .int a5), (6, .int w2)]) X d_Pl_find_29 (by decide) rfl ?_
  refine V_pc (pc' := 31) rfl (R_loc (L' := [(0, .ref (gA (zG Z) 76)), (1, .ref (gA (zG Z) q1)), (2, .ref (gA (zG Z) 68)), (3, .int a3), (4, .int a4), (5, .int a5), (6, .int w2), (7, .int (0 : Int32))]) [1, 2, 3, 4, 5, 6, 7, 0] rfl ?_)
  refine T_Pl_find_L31 X hq1 hR (fun hp10 h => ?_) _ hp3 (0 : Int32) h
  refine R_iconst (v := (0 : Int32)) X d_Pl_find_72 rfl ?_
  exact R_retc hR (by decide) h d_Pl_find_73
theorem M_Pl_find {G : GT} {hp : HP} {q1 : Nat} {a3 : Int32} {a4 : Int32} {a5 : Int32} (hq1 : isB q1 = true) {p : Int32 × HP} (h : f_Pl_find hp q1 a3 a4 a5 = some p) : MI G y_Pl_find Y_Pl_find .boolean [.ref (gA G 76), .ref (gA G q1), .ref (gA G 68), .int a3, .int a4, .int a5] hp p.1 p.2 := MI_of rfl (fun Z hz X hR => by subst hz; exact T_Pl_find X hq1 h hR)
theorem d_BA_plan_0 : decode prog_1_method_20_code 0 = .ok (.aload_n 0, 1) := by decide +kernel
theorem d_BA_plan_1 : decode prog_1_method_20_code 1 = .ok (.getfield 59, 3) := by decide +kernel
theorem d_BA_plan_4 : decode prog_1_method_20_code 4 = .ok (.iload_n 1, 1) := by decide +kernel
theorem d_BA_plan_5 : decode prog_1_method_20_code 5 = .ok (.invokevirtual 145, 3) := by decide +kernel
theorem d_BA_plan_8 : decode prog_1_method_20_code 8 = .ok (.ifCond .ne (6), 3) := by decide +kernel
theorem d_BA_plan_11 : decode prog_1_method_20_code 11 = .ok (.ldc 144, 2) := by decide +kernel
theorem d_BA_plan_13 : decode prog_1_method_20_code 13 = .ok (.ireturn, 1) := by decide +kernel
theorem d_BA_plan_14 : decode prog_1_method_20_code 14 = .ok (.iload_n 2, 1) := by decide +kernel
theorem d_BA_plan_15 : decode prog_1_method_20_code 15 = .ok (.iconst 1, 1) := by decide +kernel
theorem d_BA_plan_16 : decode prog_1_method_20_code 16 = .ok (.iconst 4, 1) := by decide +kernel
theorem d_BA_plan_17 : decode prog_1_method_20_code 17 = .ok (.invokestatic 73, 3) := by decide +kernel
theorem d_BA_plan_20 : decode prog_1_method_20_code 20 = .ok (.ifCond .eq (14), 3) := by decide +kernel
theorem d_BA_plan_23 : decode prog_1_method_20_code 23 = .ok (.aload_n 0, 1) := by decide +kernel
theorem d_BA_plan_24 : decode prog_1_method_20_code 24 = .ok (.getfield 33, 3) := by decide +kernel
theorem d_BA_plan_27 : decode prog_1_method_20_code 27 = .ok (.invokevirtual 214, 3) := by decide +kernel
theorem d_BA_plan_30 : decode prog_1_method_20_code 30 = .ok (.iload_n 2, 1) := by decide +kernel
theorem d_BA_plan_31 : decode prog_1_method_20_code 31 = .ok (.if_icmp .lt (6), 3) := by decide +kernel
theorem d_BA_plan_34 : decode prog_1_method_20_code 34 = .ok (.ldc 77, 2) := by decide +kernel
theorem d_BA_plan_36 : decode prog_1_method_20_code 36 = .ok (.ireturn, 1) := by decide +kernel
theorem d_BA_plan_37 : decode prog_1_method_20_code 37 = .ok (.aload_n 0, 1) := by decide +kernel
theorem d_BA_plan_38 : decode prog_1_method_20_code 38 = .ok (.getfield 40, 3) := by decide +kernel
theorem d_BA_plan_41 : decode prog_1_method_20_code 41 = .ok (.aload_n 0, 1) := by decide +kernel
theorem d_BA_plan_42 : decode prog_1_method_20_code 42 = .ok (.getfield 59, 3) := by decide +kernel
theorem d_BA_plan_45 : decode prog_1_method_20_code 45 = .ok (.aload_n 0, 1) := by decide +kernel
theorem d_BA_plan_46 : decode prog_1_method_20_code 46 = .ok (.getfield 33, 3) := by decide +kernel
theorem d_BA_plan_49 : decode prog_1_method_20_code 49 = .ok (.iload_n 1, 1) := by decide +kernel
theorem d_BA_plan_50 : decode prog_1_method_20_code 50 = .ok (.aload_n 0, 1) := by decide +kernel
theorem d_BA_plan_51 : decode prog_1_method_20_code 51 = .ok (.getfield 19, 3) := by decide +kernel
theorem d_BA_plan_54 : decode prog_1_method_20_code 54 = .ok (.getfield 148, 3) := by decide +kernel
theorem d_BA_plan_57 : decode prog_1_method_20_code 57 = .ok (.iload_n 1, 1) := by decide +kernel
theorem d_BA_plan_58 : decode prog_1_method_20_code 58 = .ok (.iaload, 1) := by decide +kernel
theorem d_BA_plan_59 : decode prog_1_method_20_code 59 = .ok (.iload_n 2, 1) := by decide +kernel
theorem d_BA_plan_60 : decode prog_1_method_20_code 60 = .ok (.invokevirtual 217, 3) := by decide +kernel
theorem d_BA_plan_63 : decode prog_1_method_20_code 63 = .ok (.istore 4, 2) := by decide +kernel
theorem d_BA_plan_65 : decode prog_1_method_20_code 65 = .ok (.iload_n 3, 1) := by decide +kernel
theorem d_BA_plan_66 : decode prog_1_method_20_code 66 = .ok (.iconst (-1), 1) := by decide +kernel
theorem d_BA_plan_67 : decode prog_1_method_20_code 67 = .ok (.if_icmp .ne (14), 3) := by decide +kernel
theorem d_BA_plan_70 : decode prog_1_method_20_code 70 = .ok (.iload 4, 2) := by decide +kernel
theorem d_BA_plan_72 : decode prog_1_method_20_code 72 = .ok (.ifCond .eq (7), 3) := by decide +kernel
theorem d_BA_plan_75 : decode prog_1_method_20_code 75 = .ok (.iconst 1, 1) := by decide +kernel
theorem d_BA_plan_76 : decode prog_1_method_20_code 76 = .ok (.goto (4), 3) := by decide +kernel
theorem d_BA_plan_79 : decode prog_1_method_20_code 79 = .ok (.iconst 0, 1) := by decide +kernel
theorem d_BA_plan_80 : decode prog_1_method_20_code 80 = .ok (.ireturn, 1) := by decide +kernel
theorem d_BA_plan_81 : decode prog_1_method_20_code 81 = .ok (.iload 4, 2) := by decide +kernel
theorem d_BA_plan_83 : decode prog_1_method_20_code 83 = .ok (.ifCond .eq (32), 3) := by decide +kernel
theorem d_BA_plan_86 : decode prog_1_method_20_code 86 = .ok (.iload_n 3, 1) := by decide +kernel
theorem d_BA_plan_87 : decode prog_1_method_20_code 87 = .ok (.iconst 0, 1) := by decide +kernel
theorem d_BA_plan_88 : decode prog_1_method_20_code 88 = .ok (.aload_n 0, 1) := by decide +kernel
theorem d_BA_plan_89 : decode prog_1_method_20_code 89 = .ok (.getfield 33, 3) := by decide +kernel
theorem d_BA_plan_92 : decode prog_1_method_20_code 92 = .ok (.getfield 122, 3) := by decide +kernel
theorem d_BA_plan_95 : decode prog_1_method_20_code 95 = .ok (.iconst 1, 1) := by decide +kernel
theorem d_BA_plan_96 : decode prog_1_method_20_code 96 = .ok (.isub, 1) := by decide +kernel
theorem d_BA_plan_97 : decode prog_1_method_20_code 97 = .ok (.invokestatic 73, 3) := by decide +kernel
theorem d_BA_plan_100 : decode prog_1_method_20_code 100 = .ok (.ifCond .eq (15), 3) := by decide +kernel
theorem d_BA_plan_103 : decode prog_1_method_20_code 103 = .ok (.aload_n 0, 1) := by decide +kernel
theorem d_BA_plan_104 : decode prog_1_method_20_code 104 = .ok (.getfield 40, 3) := by decide +kernel
theorem d_BA_plan_107 : decode prog_1_method_20_code 107 = .ok (.getfield 221, 3) := by decide +kernel
theorem d_BA_plan_110 : decode prog_1_method_20_code 110 = .ok (.iload_n 3, 1) := by decide +kernel
theorem d_BA_plan_111 : decode prog_1_method_20_code 111 = .ok (.iaload, 1) := by decide +kernel
theorem d_BA_plan_112 : decode prog_1_method_20_code 112 = .ok (.goto (4), 3) := by decide +kernel
theorem d_BA_plan_115 : decode prog_1_method_20_code 115 = .ok (.iconst (-1), 1) := by decide +kernel
theorem d_BA_plan_116 : decode prog_1_method_20_code 116 = .ok (.ireturn, 1) := by decide +kernel
set_option maxRecDepth 20000 in
set_option maxHeartbeats 2000000 in
theorem T_BA_plan {Z : ZT} (X : CX Z Y_BA_plan) {hp : HP} {a1 : Int32} {a2 : Int32} {a3 : Int32} {p : Int32 × HP} (h : f_BA_plan hp a1 a2 a3 = some p) (hR : RetI Z Y_BA_plan .int p.1 p.2) : V Z Y_BA_plan hp 0 [(0, .ref (gA (zG Z) 0)), (1, .int a1), (2, .int a2), (3, .int a3)] [] := by
  unfold f_BA_plan at h
  refine R_aload_n X 0 d_BA_plan_0 rfl ?_
  refine R_getD (ci := 6) X rfl iBA_ok (of_decide_eq_true rfl) rfl 8 rfl rfl tw_242 d_BA_plan_1 ?_
  obtain ⟨b1, h⟩ := ck h
  refine R_iload_n X 1 d_BA_plan_4 rfl ?_
  obtain ⟨p3, e2, h⟩ := ob h
  refine R_vcall (ci := 0) (k := (hp 0 8).toNatClampNeg) (As := [.int a1]) (st := []) X (M_Br_hasCustomer b1 e2) tw_419 cf_Br_hasCustomer (B_all _ b1).1.1 (B_all _ b1).1.2 rfl rfl rfl rfl d_BA_plan_5 ?_
  refine R_ifne (tgt := 14) X d_BA_plan_8 rfl (fun c4 => ?_) (fun c4 => ?_)
  · replace h := (if_neg c4).symm.trans h
    refine R_iload_n X 2 d_BA_plan_14 rfl ?_
    refine R_iconst (v := (1 : Int32)) X d_BA_plan_15 rfl ?_
    refine R_iconst (v := (4 : Int32)) X d_BA_plan_16 rfl ?_
    obtain ⟨p6, e5, h⟩ := ob h
    refine R_scall (As := [.int a2, .int (1 : Int32), .int (4 : Int32)]) (st := []) X (M_BA_within e5) tw_275 cf_BA_within rfl rfl rfl d_BA_plan_17 ?_
    refine R_ifeq (tgt := 34) X d_BA_plan_20 rfl (fun c7 => ?_) (fun c7 => ?_)
    · replace h := (if_pos c7).symm.trans h
      refine R_ldc (v := (-1000000002 : Int32)) X tw_278 d_BA_plan_34 ?_
      exact R_ret hR h d_BA_plan_36
    · replace h := (if_neg c7).symm.trans h
      refine R_aload_n X 0 d_BA_plan_23 rfl ?_
      refine R_getR (ci := 6) X rfl iBA_ok (of_decide_eq_true rfl) rfl 3 rfl rfl tw_237 d_BA_plan_24 ?_
      obtain ⟨p9, e8, h⟩ := ob h
      refine R_vcall (ci := 4) (k := 68) (As := []) (st := []) X (M_Sl_lastMustMonth e8) tw_553 cf_Sl_lastMustMonth (of_decide_eq_true rfl) rfl rfl rfl rfl rfl d_BA_plan_27 ?_
      refine R_iload_n X 2 d_BA_plan_30 rfl ?_
      refine R_icmp_lt (tgt := 37) X d_BA_plan_31 rfl (fun c10 => ?_) (fun c10 => ?_)
      · replace h := (if_pos c10).symm.trans h
        refine R_aload_n X 0 d_BA_plan_37 rfl ?_
        refine R_getR (ci := 6) X rfl iBA_ok (of_decide_eq_true rfl) rfl 4 rfl rfl tw_238 d_BA_plan_38 ?_
        refine R_aload_n X 0 d_BA_plan_41 rfl ?_
        refine R_getD (ci := 6) X rfl iBA_ok (of_decide_eq_true rfl) rfl 8 rfl rfl tw_242 d_BA_plan_42 ?_
        obtain ⟨b11, h⟩ := ck h
        refine R_aload_n X 0 d_BA_plan_45 rfl ?_
        refine V_pc (pc' := 46) rfl ?_
        refine R_getR (ci := 6) X rfl iBA_ok (of_decide_eq_true rfl) rfl 3 rfl rfl tw_237 d_BA_plan_46 ?_
        refine R_iload_n X 1 d_BA_plan_49 rfl ?_
        refine R_aload_n X 0 d_BA_plan_50 rfl ?_
        refine R_getR (ci := 6) X rfl iBA_ok (of_decide_eq_true rfl) rfl 1 rfl rfl tw_235 d_BA_plan_51 ?_
        refine R_getR (ci := 5) X rfl iSt_ok (of_decide_eq_true rfl) rfl 0 rfl rfl tw_98 d_BA_plan_54 ?_
        refine R_iload_n X 1 d_BA_plan_57 rfl ?_
        refine V_pc (pc' := 58) rfl ?_
        obtain ⟨i12, h⟩ := ck h
        refine R_iald (n := 5) X (of_decide_eq_true rfl) rfl i12 d_BA_plan_58 ?_
        refine R_iload_n X 2 d_BA_plan_59 rfl ?_
        obtain ⟨p14, e13, h⟩ := ob h
        refine R_vcall (ci := 2) (k := 76) (As := [.ref (gA (zG Z) (p9.2 0 8).toNatClampNeg), .ref (gA (zG Z) 68), .int a1, .int (p9.2 4 (a1).toNatClampNeg), .int a2]) (st := []) X (M_Pl_find b11 e13) tw_558 cf_Pl_find (of_decide_eq_true rfl) rfl rfl rfl rfl rfl d_BA_plan_60 ?_
        refine R_istore (L' := [(4, .int p14.1), (0, .ref (gA (zG Z) 0)), (1, .int a1), (2, .int a2), (3, .int a3)]) X d_BA_plan_63 (by decide) rfl ?_
        refine R_iload_n X 4 d_BA_plan_65 rfl ?_
        refine R_iconst (v := (-1 : Int32)) X d_BA_plan_66 rfl ?_
        refine V_pc (pc' := 67) rfl ?_
        refine R_icmp_ne (tgt := 81) X d_BA_plan_67 rfl (fun c15 => ?_) (fun c15 => ?_)
        · replace h := (if_neg c15).symm.trans h
          refine R_iload X 0 d_BA_plan_81 rfl ?_
          refine R_ifeq (tgt := 115) X d_BA_plan_83 rfl (fun c17 => ?_) (fun c17 => ?_)
          · replace h := (if_pos c17).symm.trans h
            refine R_iconst (v := (-1 : Int32)) X d_BA_plan_115 rfl ?_
            exact R_ret hR h d_BA_plan_116
          · replace h := (if_neg c17).symm.trans h
            refine R_iload_n X 4 d_BA_plan_86 rfl ?_
            refine R_iconst (v := (0 : Int32)) X d_BA_plan_87 rfl ?_
            refine R_aload_n X 1 d_BA_plan_88 rfl ?_
            refine R_getR (ci := 6) X rfl iBA_ok (of_decide_eq_true rfl) rfl 3 rfl rfl tw_237 d_BA_plan_89 ?_
            refine R_getI (ci := 4) X rfl iSl_ok (of_decide_eq_true rfl) rfl 7 rfl rfl tw_149 d_BA_plan_92 ?_
            refine V_pc (pc' := 95) rfl ?_
            refine R_iconst (v := (1 : Int32)) X d_BA_plan_95 rfl ?_
            refine R_isub X d_BA_plan_96 ?_
            obtain ⟨p19, e18, h⟩ := ob h
            refine R_scall (As := [.int a3, .int (0 : Int32), .int ((p14.2 68 7) - (1 : Int32))]) (st := []) X (M_BA_within e18) tw_275 cf_BA_within rfl rfl rfl d_BA_plan_97 ?_
            refine R_ifeq (tgt := 115) X d_BA_plan_100 rfl (fun c20 => ?_) (fun c20 => ?_)
            · replace h := (if_pos c20).symm.trans h
              refine R_iconst (v := (-1 : Int32)) X d_BA_plan_115 rfl ?_
              exact R_ret hR h d_BA_plan_116
            · replace h := (if_neg c20).symm.trans h
              refine R_aload_n X 1 d_BA_plan_103 rfl ?_
              refine R_getR (ci := 6) X rfl iBA_ok (of_decide_eq_true rfl) rfl 4 rfl rfl tw_238 d_BA_plan_104 ?_
              refine R_getR (ci := 2) X rfl iPl_ok (of_decide_eq_true rfl) rfl 0 rfl rfl tw_188 d_BA_plan_107 ?_
              refine R_iload_n X 4 d_BA_plan_110 rfl ?_
              obtain ⟨i21, h⟩ := ck h
              refine R_iald (n := 5) X (of_decide_eq_true rfl) rfl i21 d_BA_plan_111 ?_
              refine V_pc (pc' := 112) rfl ?_
              refine R_goto (tgt := 116) X d_BA_plan_112 rfl ?_
              exact R_ret hR h d_BA_plan_116
        · replace h := (if_pos c15).symm.trans h
          refine R_iload X 0 d_BA_plan_70 rfl ?_
          refine R_ifeq (tgt := 79) X d_BA_plan_72 rfl (fun c16 => ?_) (fun c16 => ?_)
          · replace h := (if_pos c16).symm.trans h
            refine R_iconst (v := (0 : Int32)) X d_BA_plan_79 rfl ?_
            exact R_ret hR h d_BA_plan_80
          · replace h := (if_neg c16).symm.trans h
            refine R_iconst (v := (1 : Int32)) X d_BA_plan_75 rfl ?_
            refine R_goto (tgt := 80) X d_BA_plan_76 rfl ?_
            exact R_ret hR h d_BA_plan_80
      · replace h := (if_neg c10).symm.trans h
        refine R_ldc (v := (-1000000002 : Int32)) X tw_278 d_BA_plan_34 ?_
        exact R_ret hR h d_BA_plan_36
  · replace h := (if_pos c4).symm.trans h
    refine R_ldc (v := (-1000000001 : Int32)) X tw_414 d_BA_plan_11 ?_
    exact R_ret hR h d_BA_plan_13
theorem M_BA_plan {G : GT} {hp : HP} {a1 : Int32} {a2 : Int32} {a3 : Int32} {p : Int32 × HP} (h : f_BA_plan hp a1 a2 a3 = some p) : MI G y_BA_plan Y_BA_plan .int [.ref (gA G 0), .int a1, .int a2, .int a3] hp p.1 p.2 := MI_of rfl (fun Z hz X hR => by subst hz; exact T_BA_plan X h hR)
theorem d_BA_isDoableOnlyAsOne_0 : decode prog_1_method_40_code 0 = .ok (.aload_n 0, 1) := by decide +kernel
theorem d_BA_isDoableOnlyAsOne_1 : decode prog_1_method_40_code 1 = .ok (.getfield 19, 3) := by decide +kernel
theorem d_BA_isDoableOnlyAsOne_4 : decode prog_1_method_40_code 4 = .ok (.getfield 148, 3) := by decide +kernel
theorem d_BA_isDoableOnlyAsOne_7 : decode prog_1_method_40_code 7 = .ok (.iload_n 2, 1) := by decide +kernel
theorem d_BA_isDoableOnlyAsOne_8 : decode prog_1_method_40_code 8 = .ok (.iaload, 1) := by decide +kernel
theorem d_BA_isDoableOnlyAsOne_9 : decode prog_1_method_40_code 9 = .ok (.istore 4, 2) := by decide +kernel
theorem d_BA_isDoableOnlyAsOne_11 : decode prog_1_method_40_code 11 = .ok (.aload_n 0, 1) := by decide +kernel
theorem d_BA_isDoableOnlyAsOne_12 : decode prog_1_method_40_code 12 = .ok (.getfield 19, 3) := by decide +kernel
theorem d_BA_isDoableOnlyAsOne_15 : decode prog_1_method_40_code 15 = .ok (.getfield 148, 3) := by decide +kernel
theorem d_BA_isDoableOnlyAsOne_18 : decode prog_1_method_40_code 18 = .ok (.iload_n 3, 1) := by decide +kernel
theorem d_BA_isDoableOnlyAsOne_19 : decode prog_1_method_40_code 19 = .ok (.iaload, 1) := by decide +kernel
theorem d_BA_isDoableOnlyAsOne_20 : decode prog_1_method_40_code 20 = .ok (.istore 5, 2) := by decide +kernel
theorem d_BA_isDoableOnlyAsOne_22 : decode prog_1_method_40_code 22 = .ok (.aload_n 0, 1) := by decide +kernel
theorem d_BA_isDoableOnlyAsOne_23 : decode prog_1_method_40_code 23 = .ok (.getfield 59, 3) := by decide +kernel
theorem d_BA_isDoableOnlyAsOne_26 : decode prog_1_method_40_code 26 = .ok (.iload_n 1, 1) := by decide +kernel
theorem d_BA_isDoableOnlyAsOne_27 : decode prog_1_method_40_code 27 = .ok (.iload 4, 2) := by decide +kernel
theorem d_BA_isDoableOnlyAsOne_29 : decode prog_1_method_40_code 29 = .ok (.invokevirtual 176, 3) := by decide +kernel
theorem d_BA_isDoableOnlyAsOne_32 : decode prog_1_method_40_code 32 = .ok (.ifCond .ne (39), 3) := by decide +kernel
theorem d_BA_isDoableOnlyAsOne_35 : decode prog_1_method_40_code 35 = .ok (.aload_n 0, 1) := by decide +kernel
theorem d_BA_isDoableOnlyAsOne_36 : decode prog_1_method_40_code 36 = .ok (.getfield 59, 3) := by decide +kernel
theorem d_BA_isDoableOnlyAsOne_39 : decode prog_1_method_40_code 39 = .ok (.iload_n 1, 1) := by decide +kernel
theorem d_BA_isDoableOnlyAsOne_40 : decode prog_1_method_40_code 40 = .ok (.iload 5, 2) := by decide +kernel
theorem d_BA_isDoableOnlyAsOne_42 : decode prog_1_method_40_code 42 = .ok (.invokevirtual 176, 3) := by decide +kernel
theorem d_BA_isDoableOnlyAsOne_45 : decode prog_1_method_40_code 45 = .ok (.ifCond .ne (26), 3) := by decide +kernel
theorem d_BA_isDoableOnlyAsOne_48 : decode prog_1_method_40_code 48 = .ok (.aload_n 0, 1) := by decide +kernel
theorem d_BA_isDoableOnlyAsOne_49 : decode prog_1_method_40_code 49 = .ok (.getfield 59, 3) := by decide +kernel
theorem d_BA_isDoableOnlyAsOne_52 : decode prog_1_method_40_code 52 = .ok (.iload_n 1, 1) := by decide +kernel
theorem d_BA_isDoableOnlyAsOne_53 : decode prog_1_method_40_code 53 = .ok (.iload 4, 2) := by decide +kernel
theorem d_BA_isDoableOnlyAsOne_55 : decode prog_1_method_40_code 55 = .ok (.iload 5, 2) := by decide +kernel
theorem d_BA_isDoableOnlyAsOne_57 : decode prog_1_method_40_code 57 = .ok (.iadd, 1) := by decide +kernel
theorem d_BA_isDoableOnlyAsOne_58 : decode prog_1_method_40_code 58 = .ok (.invokestatic 270, 3) := by decide +kernel
theorem d_BA_isDoableOnlyAsOne_61 : decode prog_1_method_40_code 61 = .ok (.invokevirtual 176, 3) := by decide +kernel
theorem d_BA_isDoableOnlyAsOne_64 : decode prog_1_method_40_code 64 = .ok (.ifCond .eq (7), 3) := by decide +kernel
theorem d_BA_isDoableOnlyAsOne_67 : decode prog_1_method_40_code 67 = .ok (.iconst 1, 1) := by decide +kernel
theorem d_BA_isDoableOnlyAsOne_68 : decode prog_1_method_40_code 68 = .ok (.goto (4), 3) := by decide +kernel
theorem d_BA_isDoableOnlyAsOne_71 : decode prog_1_method_40_code 71 = .ok (.iconst 0, 1) := by decide +kernel
theorem d_BA_isDoableOnlyAsOne_72 : decode prog_1_method_40_code 72 = .ok (.ireturn, 1) := by decide +kernel
set_option maxRecDepth 20000 in
set_option maxHeartbeats 2000000 in
theorem T_BA_isDoableOnlyAsOne {Z : ZT} (X : CX Z Y_BA_isDoableOnlyAsOne) {hp : HP} {a1 : Int32} {a2 : Int32} {a3 : Int32} {p : Int32 × HP} (h : f_BA_isDoableOnlyAsOne hp a1 a2 a3 = some p) (hR : RetI Z Y_BA_isDoableOnlyAsOne .boolean p.1 p.2) : V Z Y_BA_isDoableOnlyAsOne hp 0 [(0, .ref (gA (zG Z) 0)), (1, .int a1), (2, .int a2), (3, .int a3)] [] := by
  unfold f_BA_isDoableOnlyAsOne at h
  refine R_aload_n X 0 d_BA_isDoableOnlyAsOne_0 rfl ?_
  refine R_getR (ci := 6) X rfl iBA_ok (of_decide_eq_true rfl) rfl 1 rfl rfl tw_235 d_BA_isDoableOnlyAsOne_1 ?_
  refine R_getR (ci := 5) X rfl iSt_ok (of_decide_eq_true rfl) rfl 0 rfl rfl tw_98 d_BA_isDoableOnlyAsOne_4 ?_
  refine R_iload_n X 2 d_BA_isDoableOnlyAsOne_7 rfl ?_
  obtain ⟨i1, h⟩ := ck h
  refine R_iald (n := 5) X (of_decide_eq_true rfl) rfl i1 d_BA_isDoableOnlyAsOne_8 ?_
  refine V_pc (pc' := 9) rfl ?_
  refine R_istore (L' := [(4, .int (hp 4 (a2).toNatClampNeg)), (0, .ref (gA (zG Z) 0)), (1, .int a1), (2, .int a2), (3, .int a3)]) X d_BA_isDoableOnlyAsOne_9 (by decide) rfl ?_
  refine R_aload_n X 1 d_BA_isDoableOnlyAsOne_11 rfl ?_
  refine R_getR (ci := 6) X rfl iBA_ok (of_decide_eq_true rfl) rfl 1 rfl rfl tw_235 d_BA_isDoableOnlyAsOne_12 ?_
  refine R_getR (ci := 5) X rfl iSt_ok (of_decide_eq_true rfl) rfl 0 rfl rfl tw_98 d_BA_isDoableOnlyAsOne_15 ?_
  refine R_iload_n X 4 d_BA_isDoableOnlyAsOne_18 rfl ?_
  obtain ⟨i2, h⟩ := ck h
  refine R_iald (n := 5) X (of_decide_eq_true rfl) rfl i2 d_BA_isDoableOnlyAsOne_19 ?_
  refine V_pc (pc' := 20) rfl ?_
  refine R_istore (L' := [(5, .int (hp 4 (a3).toNatClampNeg)), (4, .int (hp 4 (a2).toNatClampNeg)), (0, .ref (gA (zG Z) 0)), (1, .int a1), (2, .int a2), (3, .int a3)]) X d_BA_isDoableOnlyAsOne_20 (by decide) rfl ?_
  refine R_aload_n X 2 d_BA_isDoableOnlyAsOne_22 rfl ?_
  refine R_getD (ci := 6) X rfl iBA_ok (of_decide_eq_true rfl) rfl 8 rfl rfl tw_242 d_BA_isDoableOnlyAsOne_23 ?_
  obtain ⟨b3, h⟩ := ck h
  refine R_iload_n X 3 d_BA_isDoableOnlyAsOne_26 rfl ?_
  refine R_iload X 1 d_BA_isDoableOnlyAsOne_27 rfl ?_
  obtain ⟨p5, e4, h⟩ := ob h
  refine R_vcall (ci := 0) (k := (hp 0 8).toNatClampNeg) (As := [.int a1, .int (hp 4 (a2).toNatClampNeg)]) (st := []) X (M_Br_isDoable b3 e4) tw_441 cf_Br_isDoable (B_all _ b3).1.1 (B_all _ b3).1.2 rfl rfl rfl rfl d_BA_isDoableOnlyAsOne_29 ?_
  refine V_pc (pc' := 32) rfl ?_
  refine R_ifne (tgt := 71) X d_BA_isDoableOnlyAsOne_32 rfl (fun c6 => ?_) (fun c6 => ?_)
  · replace h := (if_neg c6).symm.trans h
    refine R_iconst (v := (0 : Int32)) X d_BA_isDoableOnlyAsOne_71 rfl ?_
    exact R_retc hR (by decide) h d_BA_isDoableOnlyAsOne_72
  · replace h := (if_pos c6).symm.trans h
    refine R_aload_n X 2 d_BA_isDoableOnlyAsOne_35 rfl ?_
    refine R_getD (ci := 6) X rfl iBA_ok (of_decide_eq_true rfl) rfl 8 rfl rfl tw_242 d_BA_isDoableOnlyAsOne_36 ?_
    obtain ⟨b7, h⟩ := ck h
    refine R_iload_n X 3 d_BA_isDoableOnlyAsOne_39 rfl ?_
    refine R_iload X 0 d_BA_isDoableOnlyAsOne_40 rfl ?_
    obtain ⟨p9, e8, h⟩ := ob h
    refine R_vcall (ci := 0) (k := (p5.2 0 8).toNatClampNeg) (As := [.int a1, .int (hp 4 (a3).toNatClampNeg)]) (st := []) X (M_Br_isDoable b7 e8) tw_441 cf_Br_isDoable (B_all _ b7).1.1 (B_all _ b7).1.2 rfl rfl rfl rfl d_BA_isDoableOnlyAsOne_42 ?_
    refine V_pc (pc' := 45) rfl ?_
    refine R_ifne (tgt := 71) X d_BA_isDoableOnlyAsOne_45 rfl (fun c10 => ?_) (fun c10 => ?_)
    · replace h := (if_neg c10).symm.trans h
      refine R_iconst (v := (0 : Int32)) X d_BA_isDoableOnlyAsOne_71 rfl ?_
      exact R_retc hR (by decide) h d_BA_isDoableOnlyAsOne_72
    · replace h := (if_pos c10).symm.trans h
      refine R_aload_n X 2 d_BA_isDoableOnlyAsOne_48 rfl ?_
      refine R_getD (ci := 6) X rfl iBA_ok (of_decide_eq_true rfl) rfl 8 rfl rfl tw_242 d_BA_isDoableOnlyAsOne_49 ?_
      obtain ⟨b11, h⟩ := ck h
      refine R_iload_n X 3 d_BA_isDoableOnlyAsOne_52 rfl ?_
      refine R_iload X 1 d_BA_isDoableOnlyAsOne_53 rfl ?_
      refine R_iload X 0 d_BA_isDoableOnlyAsOne_55 rfl ?_
      refine V_pc (pc' := 57) rfl ?_
      refine R_iadd X d_BA_isDoableOnlyAsOne_57 ?_
      obtain ⟨p13, e12, h⟩ := ob h
      refine R_scall (As := [.int ((hp 4 (a2).toNatClampNeg) + (hp 4 (a3).toNatClampNeg))]) (st := [.int a1, .ref (gA (zG Z) (p9.2 0 8).toNatClampNeg)]) X (M_BA_bounded e12) tw_391 cf_BA_bounded rfl rfl rfl d_BA_isDoableOnlyAsOne_58 ?_
      obtain ⟨p15, e14, h⟩ := ob h
      refine R_vcall (ci := 0) (k := (p9.2 0 8).toNatClampNeg) (As := [.int a1, .int p13.1]) (st := []) X (M_Br_isDoable b11 e14) tw_441 cf_Br_isDoable (B_all _ b11).1.1 (B_all _ b11).1.2 rfl rfl rfl rfl d_BA_isDoableOnlyAsOne_61 ?_
      refine R_ifeq (tgt := 71) X d_BA_isDoableOnlyAsOne_64 rfl (fun c16 => ?_) (fun c16 => ?_)
      · replace h := (if_pos c16).symm.trans h
        refine R_iconst (v := (0 : Int32)) X d_BA_isDoableOnlyAsOne_71 rfl ?_
        exact R_retc hR (by decide) h d_BA_isDoableOnlyAsOne_72
      · replace h := (if_neg c16).symm.trans h
        refine R_iconst (v := (1 : Int32)) X d_BA_isDoableOnlyAsOne_67 rfl ?_
        refine R_goto (tgt := 72) X d_BA_isDoableOnlyAsOne_68 rfl ?_
        exact R_retc hR (by decide) h d_BA_isDoableOnlyAsOne_72
theorem M_BA_isDoableOnlyAsOne {G : GT} {hp : HP} {a1 : Int32} {a2 : Int32} {a3 : Int32} {p : Int32 × HP} (h : f_BA_isDoableOnlyAsOne hp a1 a2 a3 = some p) : MI G y_BA_isDoableOnlyAsOne Y_BA_isDoableOnlyAsOne .boolean [.ref (gA G 0), .int a1, .int a2, .int a3] hp p.1 p.2 := MI_of rfl (fun Z hz X hR => by subst hz; exact T_BA_isDoableOnlyAsOne X h hR)
theorem d_BA_asOne_0 : decode prog_1_method_21_code 0 = .ok (.aload_n 0, 1) := by decide +kernel
theorem d_BA_asOne_1 : decode prog_1_method_21_code 1 = .ok (.getfield 59, 3) := by decide +kernel
theorem d_BA_asOne_4 : decode prog_1_method_21_code 4 = .ok (.iload_n 1, 1) := by decide +kernel
theorem d_BA_asOne_5 : decode prog_1_method_21_code 5 = .ok (.invokevirtual 173, 3) := by decide +kernel
theorem d_BA_asOne_8 : decode prog_1_method_21_code 8 = .ok (.ifCond .ne (6), 3) := by decide +kernel
theorem d_BA_asOne_11 : decode prog_1_method_21_code 11 = .ok (.ldc 144, 2) := by decide +kernel
theorem d_BA_asOne_13 : decode prog_1_method_21_code 13 = .ok (.ireturn, 1) := by decide +kernel
theorem d_BA_asOne_14 : decode prog_1_method_21_code 14 = .ok (.iconst 0, 1) := by decide +kernel
theorem d_BA_asOne_15 : decode prog_1_method_21_code 15 = .ok (.istore_n 3, 1) := by decide +kernel
theorem d_BA_asOne_16 : decode prog_1_method_21_code 16 = .ok (.iconst 0, 1) := by decide +kernel
theorem d_BA_asOne_17 : decode prog_1_method_21_code 17 = .ok (.istore 4, 2) := by decide +kernel
theorem d_BA_asOne_19 : decode prog_1_method_21_code 19 = .ok (.iload 4, 2) := by decide +kernel
theorem d_BA_asOne_21 : decode prog_1_method_21_code 21 = .ok (.aload_n 0, 1) := by decide +kernel
theorem d_BA_asOne_22 : decode prog_1_method_21_code 22 = .ok (.getfield 59, 3) := by decide +kernel
theorem d_BA_asOne_25 : decode prog_1_method_21_code 25 = .ok (.getfield 99, 3) := by decide +kernel
theorem d_BA_asOne_28 : decode prog_1_method_21_code 28 = .ok (.if_icmp .ge (62), 3) := by decide +kernel
theorem d_BA_asOne_31 : decode prog_1_method_21_code 31 = .ok (.iload 4, 2) := by decide +kernel
theorem d_BA_asOne_33 : decode prog_1_method_21_code 33 = .ok (.iconst 1, 1) := by decide +kernel
theorem d_BA_asOne_34 : decode prog_1_method_21_code 34 = .ok (.iadd, 1) := by decide +kernel
theorem d_BA_asOne_35 : decode prog_1_method_21_code 35 = .ok (.istore 5, 2) := by decide +kernel
theorem d_BA_asOne_37 : decode prog_1_method_21_code 37 = .ok (.iload 5, 2) := by decide +kernel
theorem d_BA_asOne_39 : decode prog_1_method_21_code 39 = .ok (.aload_n 0, 1) := by decide +kernel
theorem d_BA_asOne_40 : decode prog_1_method_21_code 40 = .ok (.getfield 59, 3) := by decide +kernel
theorem d_BA_asOne_43 : decode prog_1_method_21_code 43 = .ok (.getfield 99, 3) := by decide +kernel
theorem d_BA_asOne_46 : decode prog_1_method_21_code 46 = .ok (.if_icmp .ge (38), 3) := by decide +kernel
theorem d_BA_asOne_49 : decode prog_1_method_21_code 49 = .ok (.aload_n 0, 1) := by decide +kernel
theorem d_BA_asOne_50 : decode prog_1_method_21_code 50 = .ok (.iload_n 1, 1) := by decide +kernel
theorem d_BA_asOne_51 : decode prog_1_method_21_code 51 = .ok (.iload 4, 2) := by decide +kernel
theorem d_BA_asOne_53 : decode prog_1_method_21_code 53 = .ok (.iload 5, 2) := by decide +kernel
theorem d_BA_asOne_55 : decode prog_1_method_21_code 55 = .ok (.invokevirtual 224, 3) := by decide +kernel
theorem d_BA_asOne_58 : decode prog_1_method_21_code 58 = .ok (.ifCond .eq (20), 3) := by decide +kernel
theorem d_BA_asOne_61 : decode prog_1_method_21_code 61 = .ok (.iload_n 3, 1) := by decide +kernel
theorem d_BA_asOne_62 : decode prog_1_method_21_code 62 = .ok (.iload_n 2, 1) := by decide +kernel
theorem d_BA_asOne_63 : decode prog_1_method_21_code 63 = .ok (.if_icmp .ne (12), 3) := by decide +kernel
theorem d_BA_asOne_66 : decode prog_1_method_21_code 66 = .ok (.bipush (10), 2) := by decide +kernel
theorem d_BA_asOne_68 : decode prog_1_method_21_code 68 = .ok (.iload 4, 2) := by decide +kernel
theorem d_BA_asOne_70 : decode prog_1_method_21_code 70 = .ok (.imul, 1) := by decide +kernel
theorem d_BA_asOne_71 : decode prog_1_method_21_code 71 = .ok (.iload 5, 2) := by decide +kernel
theorem d_BA_asOne_73 : decode prog_1_method_21_code 73 = .ok (.iadd, 1) := by decide +kernel
theorem d_BA_asOne_74 : decode prog_1_method_21_code 74 = .ok (.ireturn, 1) := by decide +kernel
theorem d_BA_asOne_75 : decode prog_1_method_21_code 75 = .ok (.iinc 3 (1), 3) := by decide +kernel
theorem d_BA_asOne_78 : decode prog_1_method_21_code 78 = .ok (.iinc 5 (1), 3) := by decide +kernel
theorem d_BA_asOne_81 : decode prog_1_method_21_code 81 = .ok (.goto (-44), 3) := by decide +kernel
theorem d_BA_asOne_84 : decode prog_1_method_21_code 84 = .ok (.iinc 4 (1), 3) := by decide +kernel
theorem d_BA_asOne_87 : decode prog_1_method_21_code 87 = .ok (.goto (-68), 3) := by decide +kernel
theorem d_BA_asOne_90 : decode prog_1_method_21_code 90 = .ok (.iload_n 2, 1) := by decide +kernel
theorem d_BA_asOne_91 : decode prog_1_method_21_code 91 = .ok (.iconst (-1), 1) := by decide +kernel
theorem d_BA_asOne_92 : decode prog_1_method_21_code 92 = .ok (.if_icmp .ne (7), 3) := by decide +kernel
theorem d_BA_asOne_95 : decode prog_1_method_21_code 95 = .ok (.iload_n 3, 1) := by decide +kernel
theorem d_BA_asOne_96 : decode prog_1_method_21_code 96 = .ok (.goto (4), 3) := by decide +kernel
theorem d_BA_asOne_99 : decode prog_1_method_21_code 99 = .ok (.iconst (-1), 1) := by decide +kernel
theorem d_BA_asOne_100 : decode prog_1_method_21_code 100 = .ok (.ireturn, 1) := by decide +kernel
set_option maxRecDepth 20000 in
set_option maxHeartbeats 2000000 in
theorem T_BA_asOne_L37 {Z : ZT} (X : CX Z Y_BA_asOne) {v1 : Int32} {v2 : Int32} {v4 : Int32} {p : Int32 × HP} (hR : RetI Z Y_BA_asOne .int p.1 p.2) {K : HP → Int32 → Option (Int32 × HP)} (hK : ∀ (hp : HP) (x3 : Int32), K hp x3 = some p → V Z Y_BA_asOne hp 84 [(0, .ref (gA (zG Z) 0)), (1, .int v1), (2, .int v2), (3, .int x3), (4, .int v4)] []) : ∀ (n : Nat) (hp : HP) (x3 : Int32) (x5 : Int32), f_BA_asOne_L37 v1 v2 v4 K n hp x3 x5 = some p → V Z Y_BA_asOne hp 37 [(0, .ref (gA (zG Z) 0)), (1, .int v1), (2, .int v2), (3, .int x3), (4, .int v4), (5, .int x5)] [] := by
  intro n
  induction n with
  | zero =>
    intro hp x3 x5 h
    cases h
  | succ n ih =>
    intro hp x3 x5 h
    replace h : f_BA_asOne_L37 v1 v2 v4 K (n + 1) hp x3 x5 = some p := h
    unfold f_BA_asOne_L37 at h
    refine R_iload X 5 d_BA_asOne_37 rfl ?_
    refine R_aload_n X 0 d_BA_asOne_39 rfl ?_
    refine R_getD (ci := 6) X rfl iBA_ok (of_decide_eq_true rfl) rfl 8 rfl rfl tw_242 d_BA_asOne_40 ?_
    obtain ⟨b7, h⟩ := ck h
    refine R_getI (ci := 0) X rfl iBr_ok (B_all _ b7).1.1 (B_all _ b7).1.2 6 rfl rfl tw_212 d_BA_asOne_43 ?_
    refine R_icmp_ge (tgt := 84) X d_BA_asOne_46 rfl (fun c8 => ?_) (fun c8 => ?_)
    · replace h := (if_pos c8).symm.trans h
      refine V_pc (pc' := 84) rfl (R_loc (L' := [(0, .ref (gA (zG Z) 0)), (1, .int v1), (2, .int v2), (3, .int x3), (4, .int v4)]) [0, 1, 2, 3, 4] rfl ?_)
      exact hK hp x3 h
    · replace h := (if_neg c8).symm.trans h
      refine R_aload_n X 0 d_BA_asOne_49 rfl ?_
      refine R_iload_n X 1 d_BA_asOne_50 rfl ?_
      refine R_iload X 4 d_BA_asOne_51 rfl ?_
      refine R_iload X 5 d_BA_asOne_53 rfl ?_
      obtain ⟨p10, e9, h⟩ := ob h
      refine R_vcall (ci := 6) (k := 0) (As := [.int v1, .int v4, .int x5]) (st := []) X (M_BA_isDoableOnlyAsOne e9) tw_584 cf_BA_isDoableOnlyAsOne (of_decide_eq_true rfl) rfl rfl rfl rfl rfl d_BA_asOne_55 ?_
      refine V_pc (pc' := 58) rfl ?_
      refine R_ifeq (tgt := 78) X d_BA_asOne_58 rfl (fun c11 => ?_) (fun c11 => ?_)
      · replace h := (if_pos c11).symm.trans h
        refine R_iinc (v := (x5 + 1)) (L' := [(5, .int (x5 + 1)), (0, .ref (gA (zG Z) 0)), (1, .int v1), (2, .int v2), (3, .int x3), (4, .int v4)]) X 5 d_BA_asOne_78 rfl rfl (by decide) rfl ?_
        refine R_goto (tgt := 37) X d_BA_asOne_81 rfl ?_
        refine V_pc (pc' := 37) rfl (R_loc (L' := [(0, .ref (gA (zG Z) 0)), (1, .int v1), (2, .int v2), (3, .int x3), (4, .int v4), (5, .int (x5 + 1))]) [1, 2, 3, 4, 5, 0] rfl ?_)
        exact ih p10.2 x3 (x5 + 1) h
      · replace h := (if_neg c11).symm.trans h
        refine R_iload_n X 3 d_BA_asOne_61 rfl ?_
        refine R_iload_n X 2 d_BA_asOne_62 rfl ?_
        refine R_icmp_ne (tgt := 75) X d_BA_asOne_63 rfl (fun c12 => ?_) (fun c12 => ?_)
        · replace h := (if_neg c12).symm.trans h
          refine R_iinc (v := (x3 + 1)) (L' := [(3, .int (x3 + 1)), (0, .ref (gA (zG Z) 0)), (1, .int v1), (2, .int v2), (4, .int v4), (5, .int x5)]) X 3 d_BA_asOne_75 rfl rfl (by decide) rfl ?_
          refine R_iinc (v := (x5 + 1)) (L' := [(5, .int (x5 + 1)), (3, .int (x3 + 1)), (0, .ref (gA (zG Z) 0)), (1, .int v1), (2, .int v2), (4, .int v4)]) X 5 d_BA_asOne_78 rfl rfl (by decide) rfl ?_
          refine R_goto (tgt := 37) X d_BA_asOne_81 rfl ?_
          refine V_pc (pc' := 37) rfl (R_loc (L' := [(0, .ref (gA (zG Z) 0)), (1, .int v1), (2, .int v2), (3, .int (x3 + 1)), (4, .int v4), (5, .int (x5 + 1))]) [2, 3, 4, 1, 5, 0] rfl ?_)
          exact ih p10.2 (x3 + 1) (x5 + 1) h
        · replace h := (if_pos c12).symm.trans h
          refine R_bipush (v := (10 : Int32)) X d_BA_asOne_66 rfl ?_
          refine R_iload X 4 d_BA_asOne_68 rfl ?_
          refine R_imul X d_BA_asOne_70 ?_
          refine R_iload X 5 d_BA_asOne_71 rfl ?_
          refine R_iadd X d_BA_asOne_73 ?_
          refine V_pc (pc' := 74) rfl ?_
          exact R_ret hR h d_BA_asOne_74
set_option maxRecDepth 20000 in
set_option maxHeartbeats 2000000 in
theorem T_BA_asOne_L19 {Z : ZT} (X : CX Z Y_BA_asOne) {v1 : Int32} {v2 : Int32} {p : Int32 × HP} (hR : RetI Z Y_BA_asOne .int p.1 p.2) {K : HP → Int32 → Option (Int32 × HP)} (hK : ∀ (hp : HP) (x3 : Int32), K hp x3 = some p → V Z Y_BA_asOne hp 90 [(2, .int v2), (3, .int x3)] []) : ∀ (n : Nat) (hp : HP) (x3 : Int32) (x4 : Int32), f_BA_asOne_L19 v1 v2 K n hp x3 x4 = some p → V Z Y_BA_asOne hp 19 [(0, .ref (gA (zG Z) 0)), (1, .int v1), (2, .int v2), (3, .int x3), (4, .int x4)] [] := by
  intro n
  induction n with
  | zero =>
    intro hp x3 x4 h
    cases h
  | succ n ih =>
    intro hp x3 x4 h
    replace h : f_BA_asOne_L19 v1 v2 K (n + 1) hp x3 x4 = some p := h
    unfold f_BA_asOne_L19 at h
    refine R_iload X 4 d_BA_asOne_19 rfl ?_
    refine R_aload_n X 0 d_BA_asOne_21 rfl ?_
    refine R_getD (ci := 6) X rfl iBA_ok (of_decide_eq_true rfl) rfl 8 rfl rfl tw_242 d_BA_asOne_22 ?_
    obtain ⟨b5, h⟩ := ck h
    refine R_getI (ci := 0) X rfl iBr_ok (B_all _ b5).1.1 (B_all _ b5).1.2 6 rfl rfl tw_212 d_BA_asOne_25 ?_
    refine R_icmp_ge (tgt := 90) X d_BA_asOne_28 rfl (fun c6 => ?_) (fun c6 => ?_)
    · replace h := (if_pos c6).symm.trans h
      refine V_pc (pc' := 90) rfl (R_loc (L' := [(2, .int v2), (3, .int x3)]) [2, 3] rfl ?_)
      exact hK hp x3 h
    · replace h := (if_neg c6).symm.trans h
      refine R_iload X 4 d_BA_asOne_31 rfl ?_
      refine R_iconst (v := (1 : Int32)) X d_BA_asOne_33 rfl ?_
      refine R_iadd X d_BA_asOne_34 ?_
      refine R_istore (L' := [(5, .int (x4 + (1 : Int32))), (0, .ref (gA (zG Z) 0)), (1, .int v1), (2, .int v2), (3, .int x3), (4, .int x4)]) X d_BA_asOne_35 (by decide) rfl ?_
      refine V_pc (pc' := 37) rfl (R_loc (L' := [(0, .ref (gA (zG Z) 0)), (1, .int v1), (2, .int v2), (3, .int x3), (4, .int x4), (5, .int (x4 + (1 : Int32)))]) [1, 2, 3, 4, 5, 0] rfl ?_)
      refine T_BA_asOne_L37 X hR (fun hp14 w13 h => ?_) _ hp x3 (x4 + (1 : Int32)) h
      refine R_iinc (v := (x4 + 1)) (L' := [(4, .int (x4 + 1)), (0, .ref (gA (zG Z) 0)), (1, .int v1), (2, .int v2), (3, .int w13)]) X 4 d_BA_asOne_84 rfl rfl (by decide) rfl ?_
      refine R_goto (tgt := 19) X d_BA_asOne_87 rfl ?_
      refine V_pc (pc' := 19) rfl (R_loc (L' := [(0, .ref (gA (zG Z) 0)), (1, .int v1), (2, .int v2), (3, .int w13), (4, .int (x4 + 1))]) [1, 2, 3, 4, 0] rfl ?_)
      exact ih hp14 w13 (x4 + 1) h
set_option maxRecDepth 20000 in
set_option maxHeartbeats 2000000 in
theorem T_BA_asOne {Z : ZT} (X : CX Z Y_BA_asOne) {hp : HP} {a1 : Int32} {a2 : Int32} {p : Int32 × HP} (h : f_BA_asOne hp a1 a2 = some p) (hR : RetI Z Y_BA_asOne .int p.1 p.2) : V Z Y_BA_asOne hp 0 [(0, .ref (gA (zG Z) 0)), (1, .int a1), (2, .int a2)] [] := by
  unfold f_BA_asOne at h
  refine R_aload_n X 0 d_BA_asOne_0 rfl ?_
  refine R_getD (ci := 6) X rfl iBA_ok (of_decide_eq_true rfl) rfl 8 rfl rfl tw_242 d_BA_asOne_1 ?_
  obtain ⟨b1, h⟩ := ck h
  refine R_iload_n X 1 d_BA_asOne_4 rfl ?_
  obtain ⟨p3, e2, h⟩ := ob h
  refine R_vcall (ci := 0) (k := (hp 0 8).toNatClampNeg) (As := [.int a1]) (st := []) X (M_Br_hasTask b1 e2) tw_437 cf_Br_hasTask (B_all _ b1).1.1 (B_all _ b1).1.2 rfl rfl rfl rfl d_BA_asOne_5 ?_
  refine R_ifne (tgt := 14) X d_BA_asOne_8 rfl (fun c4 => ?_) (fun c4 => ?_)
  · replace h := (if_neg c4).symm.trans h
    refine R_iconst (v := (0 : Int32)) X d_BA_asOne_14 rfl ?_
    refine R_istore_n (L' := [(3, .int (0 : Int32)), (0, .ref (gA (zG Z) 0)), (1, .int a1), (2, .int a2)]) X d_BA_asOne_15 (by decide) rfl ?_
    refine R_iconst (v := (0 : Int32)) X d_BA_asOne_16 rfl ?_
    refine R_istore (L' := [(4, .int (0 : Int32)), (3, .int (0 : Int32)), (0, .ref (gA (zG Z) 0)), (1, .int a1), (2, .int a2)]) X d_BA_asOne_17 (by decide) rfl ?_
    refine V_pc (pc' := 19) rfl (R_loc (L' := [(0, .ref (gA (zG Z) 0)), (1, .int a1), (2, .int a2), (3, .int (0 : Int32)), (4, .int (0 : Int32))]) [2, 3, 4, 1, 0] rfl ?_)
    refine T_BA_asOne_L19 X hR (fun hp16 w15 h => ?_) _ p3.2 (0 : Int32) (0 : Int32) h
    refine R_iload_n X 0 d_BA_asOne_90 rfl ?_
    refine R_iconst (v := (-1 : Int32)) X d_BA_asOne_91 rfl ?_
    refine R_icmp_ne (tgt := 99) X d_BA_asOne_92 rfl (fun c17 => ?_) (fun c17 => ?_)
    · replace h := (if_neg c17).symm.trans h
      refine R_iconst (v := (-1 : Int32)) X d_BA_asOne_99 rfl ?_
      exact R_ret hR h d_BA_asOne_100
    · replace h := (if_pos c17).symm.trans h
      refine R_iload_n X 1 d_BA_asOne_95 rfl ?_
      refine R_goto (tgt := 100) X d_BA_asOne_96 rfl ?_
      exact R_ret hR h d_BA_asOne_100
  · replace h := (if_pos c4).symm.trans h
    refine R_ldc (v := (-1000000001 : Int32)) X tw_414 d_BA_asOne_11 ?_
    exact R_ret hR h d_BA_asOne_13
theorem M_BA_asOne {G : GT} {hp : HP} {a1 : Int32} {a2 : Int32} {p : Int32 × HP} (h : f_BA_asOne hp a1 a2 = some p) : MI G y_BA_asOne Y_BA_asOne .int [.ref (gA G 0), .int a1, .int a2] hp p.1 p.2 := MI_of rfl (fun Z hz X hR => by subst hz; exact T_BA_asOne X h hR)
