/-! The row of standings. Printed by wip/whole/ctor.py. -/
theorem cw_51 : Cond.initialized "BodyAccounts$Past" ∈ TB := TB_at 51 (by decide +kernel) rfl
theorem cw_92 : Cond.instantiable "BodyAccounts$Standing" 3 ∈ TB := TB_at 92 (by decide +kernel) rfl
theorem cw_112 : Cond.instanceMethod ⟨"BodyAccounts$Past", "<init>", "()V"⟩ ∈ TB := TB_at 112 (by decide +kernel) rfl
theorem cw_113 : Cond.code ⟨"BodyAccounts$Past", "<init>", "()V"⟩ prog_3_method_1_code 2 none ∈ TB := TB_at 113 (by decide +kernel) rfl
theorem cw_114 : Cond.methodLink "BodyAccounts$Past" 3 objectInit ∈ TB := TB_at 114 (by decide +kernel) rfl
theorem cw_115 : Cond.classLink "BodyAccounts$Past" 9 "BodyAccounts$Standing" ∈ TB := TB_at 115 (by decide +kernel) rfl
theorem cw_118 : Cond.fieldLink "BodyAccounts$Past" 11 "BodyAccounts$Past" "ring" "[LBodyAccounts$Standing;" ∈ TB := TB_at 118 (by decide +kernel) rfl
def y_Pa_init : MethodName := ⟨"BodyAccounts$Past", "<init>", "()V"⟩
abbrev Y_Pa_init : YT := (prog_3_method_1_code, "BodyAccounts$Past", 2, 2)
theorem cf_Pa_init : CFc y_Pa_init Y_Pa_init := ⟨cw_112, cw_51, cw_113, by decide +kernel, rfl⟩
theorem d_Pa_init_26 : decode prog_3_method_1_code 26 = .ok (.new 9, 3) := by decide +kernel
theorem d_Pa_init_15 : decode prog_3_method_1_code 15 = .ok (.iload_n 1, 1) := by decide +kernel
theorem d_Pa_init_16 : decode prog_3_method_1_code 16 = .ok (.bipush (20), 2) := by decide +kernel
theorem d_Pa_init_18 : decode prog_3_method_1_code 18 = .ok (.if_icmp .ge (22), 3) := by decide +kernel
theorem d_Pa_init_40 : decode prog_3_method_1_code 40 = .ok (.return_, 1) := by decide +kernel
theorem d_Pa_init_21 : decode prog_3_method_1_code 21 = .ok (.aload_n 0, 1) := by decide +kernel
theorem d_Pa_init_22 : decode prog_3_method_1_code 22 = .ok (.getfield 11, 3) := by decide +kernel
theorem d_Pa_init_25 : decode prog_3_method_1_code 25 = .ok (.iload_n 1, 1) := by decide +kernel
theorem d_Pa_init_29 : decode prog_3_method_1_code 29 = .ok (.dup, 1) := by decide +kernel
theorem d_Pa_init_30 : decode prog_3_method_1_code 30 = .ok (.invokespecial 17, 3) := by decide +kernel
theorem d_Pa_init_33 : decode prog_3_method_1_code 33 = .ok (.aastore, 1) := by decide +kernel
theorem d_Pa_init_34 : decode prog_3_method_1_code 34 = .ok (.iinc 1 (1), 3) := by decide +kernel
theorem d_Pa_init_37 : decode prog_3_method_1_code 37 = .ok (.goto (-22), 3) := by decide +kernel
theorem d_Pa_init_0 : decode prog_3_method_1_code 0 = .ok (.aload_n 0, 1) := by decide +kernel
theorem d_Pa_init_1 : decode prog_3_method_1_code 1 = .ok (.invokespecial 3, 3) := by decide +kernel
theorem d_Pa_init_4 : decode prog_3_method_1_code 4 = .ok (.aload_n 0, 1) := by decide +kernel
theorem d_Pa_init_5 : decode prog_3_method_1_code 5 = .ok (.bipush (20), 2) := by decide +kernel
theorem d_Pa_init_7 : decode prog_3_method_1_code 7 = .ok (.anewarray 9, 3) := by decide +kernel
theorem d_Pa_init_10 : decode prog_3_method_1_code 10 = .ok (.putfield 11, 3) := by decide +kernel
theorem d_Pa_init_13 : decode prog_3_method_1_code 13 = .ok (.iconst 0, 1) := by decide +kernel
theorem d_Pa_init_14 : decode prog_3_method_1_code 14 = .ok (.istore_n 1, 1) := by decide +kernel
def b_Pa (G : GT) (f : Nat → Nat) : va_W := (f 0, .inr (1, [.ref (f 1), .int 0, .int 0])) :: (([] ++ [(f 1, rgE G 20 (RL (fun j => f (j + 2)) 20))]) ++ SB G (fun j => f (j + 2)) 20)
set_option maxRecDepth 20000 in
set_option maxHeartbeats 2000000 in
theorem Pa_loop {Z : ZT} (X : CC Z Y_Pa_init) (hc : (zR Z).cells = 61) (ho : (zR Z).slots = 680) {h0 q1 : Nat} (hR : RetC Z Y_Pa_init 61 680 (b_Pa (zG Z)) h0) : ∀ (d i : Nat) (f : Nat → Nat), i + d = 20 → VC Z Y_Pa_init ((h0, .inr (1, [.ref q1, .int 0, .int 0])) :: (([] ++ [(q1, rgE (zG Z) 20 (RL f i))]) ++ SB (zG Z) f i)) (1 + 3 * i) (20 + 33 * i) 15 [(1, .int (nI i)), (0, .ref h0)] [] := by
  intro d
  induction d with
  | zero =>
    intro i f hi
    have e20 : i = 20 := by omega
    subst e20
    refine C_iload_n X 0 d_Pa_init_15 rfl ?_
    refine C_bipush (v := (20 : Int32)) X d_Pa_init_16 rfl ?_
    refine C_icmp_ge (tgt := 40) X d_Pa_init_18 rfl (fun c => ?_) (fun c => absurd (by decide) c)
    exact hR (fun k => match k with | 0 => h0 | 1 => q1 | k + 2 => f k) 40 _ rfl d_Pa_init_40
  | succ d ih =>
    intro i f hi
    refine C_iload_n X 0 d_Pa_init_15 rfl ?_
    refine C_bipush (v := (20 : Int32)) X d_Pa_init_16 rfl ?_
    refine C_icmp_ge (tgt := 40) X d_Pa_init_18 rfl (fun c => absurd c (by exact n_nle 20 i (by omega) (by omega))) (fun _ => ?_)
    refine C_aload_n X 1 d_Pa_init_21 rfl ?_
    refine C_get (ci := 1) X rfl iPa_ok 0 (by decide) rfl cw_118 d_Pa_init_22 ?_
    refine C_iload_n X 0 d_Pa_init_25 rfl ?_
    refine C_new (ci := 5) (fs := [.null, .null, .int 0]) X rfl iSt_ok ySt_ok cw_115 cw_92 cw_50 (by decide) (by rw [hc]; omega) (by rw [ho]; omega) d_Pa_init_26 (fun q => ?_)
    refine C_dup X d_Pa_init_29 rfl ?_
    refine C_callN (host := "BodyAccounts") X (M_St_init (zG Z)) (by decide +kernel) cf_St_init rfl rfl (by rw [hc]; omega) (by rw [ho]; omega) d_Pa_init_30 (fun g hg => ?_)
    subst hg
    obtain ⟨f', ef⟩ : ∃ f' : Nat → Nat, f' = fun k => if k < 3 * i then f k else g (k - 3 * i) := ⟨_, rfl⟩
    have lo : ∀ k, k < 3 * i → f k = f' k := fun k hk => by rw [ef]; show f k = if k < 3 * i then f k else _; rw [if_pos hk]
    have hi' : ∀ j, f' (3 * i + j) = g j := fun j => by rw [ef]; show (if 3 * i + j < 3 * i then f (3 * i + j) else g (3 * i + j - 3 * i)) = g j; rw [if_neg (by omega), show 3 * i + j - 3 * i = j by omega]
    have t1 : RL f' (i + 1) = RL f i ++ [g 0] := by
      rw [RL, ← RL_cong i lo]
      have := hi' 0
      rw [Nat.add_zero] at this
      rw [this]
    have t2 : SB (zG Z) f' (i + 1) = SB (zG Z) f i ++ b_St (zG Z) g := by
      rw [SB, ← SB_cong i lo, show (fun j => f' (3 * i + j)) = g from funext hi']
    have k := ih (i + 1) f' (by omega)
    rw [t1, t2] at k
    refine VC_eq (ws' := (h0, .inr (1, [.ref q1, .int 0, .int 0])) :: (([] ++ [(q1, rgE (zG Z) 20 (RL f i))]) ++ (SB (zG Z) f i ++ (g 0, .inr (5, [.ref (g 1), .ref (g 2), .int 0])) :: [(g 1, .inl ((zG Z).2.2.1, 5, .inl (fun _ => 0))), (g 2, .inl ((zG Z).2.2.1, 25, .inl (fun _ => 0)))]))) (by rw [List.cons_append, List.append_assoc]; rfl) ?_
    refine C_ast X (l := RL f i) (by rw [RL_len, cl_n (by omega)]) (inb_n (by omega) (by omega)) d_Pa_init_33 ?_
    refine C_iinc (v := nI (i + 1)) (L' := [(1, .int (nI (i + 1))), (0, .ref h0)]) X 0 d_Pa_init_34 rfl (nI_1 i) (by decide) rfl ?_
    refine C_goto (tgt := 15) X d_Pa_init_37 rfl ?_
    refine VC_no (n' := 1 + 3 * (i + 1)) (o' := 20 + 33 * (i + 1)) (by omega) (by omega) ?_
    exact k
set_option maxRecDepth 20000 in
set_option maxHeartbeats 2000000 in
theorem M_Pa_init (G : GT) : MC G y_Pa_init Y_Pa_init 1 [.null, .int 0, .int 0] 61 680 (b_Pa G) := by
  refine MC_of rfl (fun Z h0 hz X hin hc ho hR => ?_)
  subst hz
  refine C_aload_n X 0 d_Pa_init_0 rfl ?_
  refine C_obj X cw_114 cw_64 cw_65 rfl d_Pa_init_1 ?_
  refine VC_pc (pc' := 4) rfl ?_
  refine C_aload_n X 0 d_Pa_init_4 rfl ?_
  refine C_bipush (v := (20 : Int32)) X d_Pa_init_5 rfl ?_
  refine C_newq (N := 20) X cw_115 rfl (by rw [hc]; decide) (by rw [ho]; decide) d_Pa_init_7 (fun q1 => ?_)
  refine VC_ap ?_
  refine VC_pc (pc' := 10) rfl ?_
  refine C_putF (ci := 1) X hin rfl iPa_ok yPa_ok nPa_ok 0 rfl rfl rfl rfl cw_118 d_Pa_init_10 ?_
  refine VC_hd (fs' := [.ref q1, .int 0, .int 0]) rfl ?_
  refine VC_pc (pc' := 13) rfl ?_
  refine C_iconst (v := (0 : Int32)) X d_Pa_init_13 rfl ?_
  refine C_istore_n (L' := [(1, .int 0), (0, .ref h0)]) X d_Pa_init_14 (by decide) rfl ?_
  exact Pa_loop X hc ho hR 20 0 (fun _ => 0) (by omega)
