/-! From the entry of the law. -/
theorem uw_Br : Cond.instantiable "BodyAccounts$Branch" 8 ∈ TB := TB_at 193 (by decide +kernel) rfl
theorem uw_Pa : Cond.instantiable "BodyAccounts$Past" 3 ∈ TB := TB_at 110 (by decide +kernel) rfl
theorem uw_Pl : Cond.instantiable "BodyAccounts$Planner" 1 ∈ TB := TB_at 182 (by decide +kernel) rfl
theorem uw_Re : Cond.instantiable "BodyAccounts$Reader" 5 ∈ TB := TB_at 67 (by decide +kernel) rfl
theorem uw_Sl : Cond.instantiable "BodyAccounts$Slate" 11 ∈ TB := TB_at 130 (by decide +kernel) rfl
theorem uw_St : Cond.instantiable "BodyAccounts$Standing" 3 ∈ TB := TB_at 92 (by decide +kernel) rfl
theorem uw_BA : Cond.instantiable "BodyAccounts" 12 ∈ TB := TB_at 59 (by decide +kernel) rfl
theorem uw_Mo : Cond.instantiable "BodyAccountsModel" 35 ∈ TB := TB_at 666 (by decide +kernel) rfl
theorem uw_c7 : Cond.classLink "BodyAccountsLaw" 7 "BodyAccounts" ∈ TB := TB_at 58 (by decide +kernel) rfl
theorem uw_c10 : Cond.classLink "BodyAccountsLaw" 10 "BodyAccountsModel" ∈ TB := TB_at 665 (by decide +kernel) rfl
theorem uw_iBA : Cond.initialized "BodyAccounts" ∈ TB := TB_at 48 (by decide +kernel) rfl
theorem uw_iMo : Cond.initialized "BodyAccountsModel" ∈ TB := TB_at 55 (by decide +kernel) rfl
theorem uw_lBA : Cond.methodLink "BodyAccountsLaw" 9 ⟨"BodyAccounts", "<init>", "()V"⟩ ∈ TB := TB_at 60 (by decide +kernel) rfl
theorem uw_lMo : Cond.methodLink "BodyAccountsLaw" 12 ⟨"BodyAccountsModel", "<init>", "()V"⟩ ∈ TB := TB_at 667 (by decide +kernel) rfl
theorem uw_ao : Cond.arrayOver (.object "BodyAccounts$Standing") ∈ lw_tbl := List.mem_of_getElem? (i := 116) (by decide +kernel)
theorem uw_nw : ∀ q ∈ NWs, Cond.methodLinkNest q.1 q.2.1 q.2.2.1 q.2.2.2 ∈ lw_tbl := by decide +kernel
theorem d_law_0 : decode code 0 = .ok (.new 7, 3) := by decide +kernel
theorem d_law_3 : decode code 3 = .ok (.dup, 1) := by decide +kernel
theorem d_law_4 : decode code 4 = .ok (.invokespecial 9, 3) := by decide +kernel
theorem d_law_7 : decode code 7 = .ok (.astore_n 1, 1) := by decide +kernel
theorem d_law_8 : decode code 8 = .ok (.new 10, 3) := by decide +kernel
theorem d_law_11 : decode code 11 = .ok (.dup, 1) := by decide +kernel
theorem d_law_12 : decode code 12 = .ok (.invokespecial 12, 3) := by decide +kernel
theorem d_law_15 : decode code 15 = .ok (.astore_n 2, 1) := by decide +kernel
theorem d_law_16 : decode code 16 = .ok (.iconst 0, 1) := by decide +kernel
theorem d_law_17 : decode code 17 = .ok (.istore_n 3, 1) := by decide +kernel
set_option maxHeartbeats 4000000 in
set_option maxRecDepth 100000 in
/-- THE LAW, from its entry -/
theorem whole_start {p : Program} {e : Env} {s : State} {m : MethodId} {below : List Frame} {meth : Method} {c : Code} (l : Launch) {b L : Nat} {xs : Nat → Int32} (hL : L ≤ 256) (C0 : lw_At p s m meth c b L xs) : W p l e room_1 s m #[Value.ref b] below meth c s.heap [] 0 0 (lw_Z below #[Value.ref b] s) (entryFrame m ([Value.ref b] : List Value).toArray 4) := by
  obtain ⟨hx, hb, hr, hml, hown, hts, hX, hbl, hlocks, hgv⟩ := id C0
  have htb : ∀ w ∈ TB, w.before #[Value.ref b] s = true := fun w hw => hts w (TB_lw hw)
  have hbA : ¬ (fun q : Nat => s.heap.size ≤ q) b := Nat.not_le.mpr hbl
  obtain ⟨c0, j0, k0⟩ := u_known (C := "BodyAccounts$Branch") (T := TBr) (N := 8) (n := 8) htb iBr_ok (htb _ uw_Br)
  obtain ⟨c1, j1, k1⟩ := u_known (C := "BodyAccounts$Past") (T := TPa) (N := 3) (n := 3) htb iPa_ok (htb _ uw_Pa)
  obtain ⟨c2, j2, k2⟩ := u_known (C := "BodyAccounts$Planner") (T := TPl) (N := 1) (n := 1) htb iPl_ok (htb _ uw_Pl)
  obtain ⟨c3, j3, k3⟩ := u_known (C := "BodyAccounts$Reader") (T := TRe) (N := 5) (n := 5) htb iRe_ok (htb _ uw_Re)
  obtain ⟨c4, j4, k4⟩ := u_known (C := "BodyAccounts$Slate") (T := TSl) (N := 11) (n := 11) htb iSl_ok (htb _ uw_Sl)
  obtain ⟨c5, j5, k5⟩ := u_known (C := "BodyAccounts$Standing") (T := TSt) (N := 3) (n := 3) htb iSt_ok (htb _ uw_St)
  obtain ⟨c6, j6, k6⟩ := u_known (C := "BodyAccounts") (T := TBA) (N := 12) (n := 12) htb iBA_ok (htb _ uw_BA)
  obtain ⟨c7, j7, k7⟩ := u_known (C := "BodyAccountsModel") (T := TMo) (N := 35) (n := 35) htb iMo_ok (htb _ uw_Mo)
  obtain ⟨dC, dI, hKc⟩ : ∃ (dC : Nat → ClassId) (dI : Nat → Nat → Nat), ∀ (k : Nat) (q : vw_C), classes[k]? = some q → u_Kn s q.1 q.2.1 q.2.2 (dC k) (dI k) := by
    refine ⟨fun k => if k = 0 then c0 else if k = 1 then c1 else if k = 2 then c2 else if k = 3 then c3 else if k = 4 then c4 else if k = 5 then c5 else if k = 6 then c6 else c7, fun k => if k = 0 then j0 else if k = 1 then j1 else if k = 2 then j2 else if k = 3 then j3 else if k = 4 then j4 else if k = 5 then j5 else if k = 6 then j6 else j7, ?_⟩
    intro k q hq
    match k, hq with
    | 0, hq => cases hq; exact k0
    | 1, hq => cases hq; exact k1
    | 2, hq => cases hq; exact k2
    | 3, hq => cases hq; exact k3
    | 4, hq => cases hq; exact k4
    | 5, hq => cases hq; exact k5
    | 6, hq => cases hq; exact k6
    | 7, hq => cases hq; exact k7
    | k + 8, hq => simp [classes] at hq
  obtain ⟨cI, kI, pI, fI1, fI2, fI3⟩ := Cond.arrayClass_spec (htb (.arrayClass .int) cw_90)
  obtain ⟨cZ, kZ, pZ, fZ1, fZ2, fZ3⟩ := Cond.arrayClass_spec (htb (.arrayClass .boolean) cw_180)
  obtain ⟨pQ, cQ, kQ, fQ1, fQ2, fQ3, fQ4, fQ5⟩ := Cond.arrayOver_spec (hts _ uw_ao)
  have hK : va_K (dC, dI) classes [(cI, .int), (cZ, .boolean), (cQ, .object "BodyAccounts$Standing")] s := by
    refine ⟨hKc, fun k q hk => ?_⟩
    match k, hk with
    | 0, hk => cases hk; exact ⟨fun n z => ⟨fun k h => (by cases h), kI, fI2, pI, fI3⟩, fI1⟩
    | 1, hk => cases hk; exact ⟨fun n z => ⟨fun k h => (by cases h), kZ, fZ2, pZ, fZ3⟩, fZ1⟩
    | 2, hk => cases hk; exact ⟨fun n z => ⟨fun k h => (by cases h), kQ, fQ3, pQ, fQ4⟩, kQ, pQ, fQ3, fQ4, fQ1, fQ5⟩
    | k + 3, hk => simp at hk
  have hN : ∀ q ∈ NWs, va_Nw (.methodLinkNest q.1 q.2.1 q.2.2.1 q.2.2.2) s := fun q hq => va_Nw.of rfl (hts _ (uw_nw q hq))
  obtain ⟨G, hG⟩ : ∃ G : GT, G = ((dC, dI), fun _ => 0, (cI, cZ, cQ)) := ⟨_, rfl⟩
  have hKC : KC G s := by
    rw [hG]
    exact ⟨hK, hN, va_AO.of (hts _ uw_ao)⟩
  have X : CC ((p, l, e, room_1, s, m), (#[Value.ref b], below, meth, c, 600000, 7302250), (lw_Z below #[Value.ref b] s, fun q : Nat => s.heap.size ≤ q, G)) Y_law := ⟨hx, hb, hml, hown, htb, hKC, fun q h => h, Nat.le_of_ble_eq_true rfl, Nat.le_of_ble_eq_true rfl⟩
  have start : VC ((p, l, e, room_1, s, m), (#[Value.ref b], below, meth, c, 600000, 7302250), (lw_Z below #[Value.ref b] s, fun q : Nat => s.heap.size ≤ q, G)) Y_law [] 0 0 0 [(0, .ref b)] [] := by
    refine C_new (ci := 6) (fs := [.null, .null, .null, .null, .null, .null, .null, .null, .null, .null, .int 0, .int 0]) X rfl iBA_ok yBA_ok uw_c7 uw_BA uw_iBA (by decide) (Nat.le_of_ble_eq_true rfl) (Nat.le_of_ble_eq_true rfl) d_law_0 (fun q => ?_)
    refine C_dup X d_law_3 rfl ?_
    refine C_call X (M_BA_init G) uw_lBA cf_BA_init rfl rfl (Nat.le_of_ble_eq_true rfl) (Nat.le_of_ble_eq_true rfl) d_law_4 (fun f hf => ?_)
    subst hf
    refine VC_eq (List.nil_append _) ?_
    refine VC_no (n' := 99) (o' := 1195) (by decide) (by decide) ?_
    refine VC_pc (pc' := 7) rfl ?_
    refine C_astore_n (L' := [(1, .ref (f 0)), (0, .ref b)]) X d_law_7 (by decide) rfl ?_
    refine C_new (ci := 7) (fs := [.null, .null, .int 0, .int 0, .null, .int 0, .null, .null, .int 0, .null, .null, .int 0, .int 0, .int 0, .int 0, .int 0, .int 0, .int 0, .null, .int 0, .null, .int 0, .null, .int 0, .null, .int 0, .null, .null, .null, .int 0, .null, .null, .int 0, .null, .null]) X rfl iMo_ok yMo_ok uw_c10 uw_Mo uw_iMo (by decide) (Nat.le_of_ble_eq_true rfl) (Nat.le_of_ble_eq_true rfl) d_law_8 (fun q => ?_)
    refine C_dup X d_law_11 rfl ?_
    refine C_call X (M_Mo_init G) uw_lMo cf_Mo_init rfl rfl (Nat.le_of_ble_eq_true rfl) (Nat.le_of_ble_eq_true rfl) d_law_12 (fun g hg => ?_)
    subst hg
    refine VC_pc (pc' := 15) rfl ?_
    refine C_astore_n (L' := [(2, .ref (g 0)), (1, .ref (f 0)), (0, .ref b)]) X d_law_15 (by decide) rfl ?_
    refine C_iconst (v := (0 : Int32)) X d_law_16 rfl ?_
    refine C_istore_n (L' := [(3, .int 0), (2, .ref (g 0)), (1, .ref (f 0)), (0, .ref b)]) X d_law_17 (by decide) rfl ?_
    refine VC_no (n' := 600000) (o' := 7302250) (Nat.le_of_ble_eq_true rfl) (Nat.le_of_ble_eq_true rfl) ?_
    refine VC_pc (pc' := 18) rfl ?_
    intro H locs ls hP hD hS hl
    have hP' := made_P hP
    have hD' := made_D hD
    obtain ⟨gi, hA⟩ := made_GI hD'
    have X' : CX ((p, l, e, room_1, s, m), (#[Value.ref b], below, meth, c, 600000, 7302250), (lw_Z below #[Value.ref b] s, fun q : Nat => s.heap.size ≤ q, GO G f g)) Y_law := ⟨hx, hb, hml, hown, htb, ⟨hKC.1, hKC.2.1, gi⟩, hA, Nat.le_of_ble_eq_true rfl, Nat.le_of_ble_eq_true rfl, Nat.le_refl _, Nat.le_refl _⟩
    exact law_loop X' hL hX hbl hbA (fun hp pc Lv hd H locs ls hP hS hl => va_forget (fun q hq => hS.2.2 q hq) (lw_ret hx hb hr hlocks hd)) (L + 4) 0 hp0 (by omega) (by omega) R_hp0 H locs ls hP' hS hl
  have hl := lv_entry [Value.ref b] (n := 4) (Nat.le_of_ble_eq_true rfl)
  rw [lg_entry_eq]
  exact start s.heap [] _ (fun k q h => by simp at h) ⟨fun i j p q h => by simp at h, fun k q h => by simp at h⟩ va_S.rf hl
