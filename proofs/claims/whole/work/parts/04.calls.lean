/-! Contracts of methods, calls, ends. -/
def PreW (G : GT) (hp : HP) (U : State) : Prop := va_P (gD G) classes (wsO G hp) U.heap ∧ KK G U
def MI (G : GT) (y : MethodName) (Y : YT) (rt : FieldType) (av : List Value) (hp : HP) (r : Int32) (hp1 : HP) : Prop := ∀ l, Met l y (Cond.code y Y.1 Y.2.2.1 (some rt) :: TB) (rmd Y.2.2.2) (va_Pc av (PreW G hp)) (va_Qi (fun (a : Int32) (u : HP) => a = r ∧ u = hp1) (fun u t => va_P (gD G) classes (wsO G u) t.heap) (AA G)) 0 0 (AA G)
def MV (G : GT) (y : MethodName) (Y : YT) (av : List Value) (hp : HP) (hp1 : HP) : Prop := ∀ l, Met l y (Cond.code y Y.1 Y.2.2.1 none :: TB) (rmd Y.2.2.2) (va_Pc av (PreW G hp)) (va_Qv (fun (u : HP) => u = hp1) (fun u t => va_P (gD G) classes (wsO G u) t.heap) (AA G)) 0 0 (AA G)
def RetI (Z : ZT) (Y : YT) (rt : FieldType) (r : Int32) (hp1 : HP) : Prop := narrow rt (.int r) = .int r → ∀ pc L, decode Y.1 pc = .ok (.ireturn, 1) → V Z Y hp1 pc L [.int r]
def RetV (Z : ZT) (Y : YT) (hp1 : HP) : Prop := ∀ pc L, decode Y.1 pc = .ok (.return_, 1) → V Z Y hp1 pc L []
theorem MI_of {G : GT} {y : MethodName} {Y : YT} {rt : FieldType} {av : List Value} {hp hp1 : HP} {r : Int32} (hy : (plainName y.cls && decide (y.cls = Y.2.1) && decide ((lg_sl av).length ≤ Y.2.2.1)) = true) (h : ∀ Z : ZT, zG Z = G → CX Z Y → RetI Z Y rt r hp1 → V Z Y hp 0 (lv_args 0 av) []) : MI G y Y rt av hp r hp1 := by
  intro l
  simp only [Bool.and_eq_true, decide_eq_true_eq] at hy
  refine Met.ofW (cc := Y.1) (maxL := Y.2.2.1) (ret := some rt) hy.1.1 rfl ?_
  intro p e s m args below meth c s₁ B hml hv
  obtain ⟨rfl, hP, hK⟩ := hv
  have hts : ∀ w ∈ TB, w.before av.toArray s = true := fun w hw => atoms_spec (ws := Cond.code y Y.1 Y.2.2.1 (some rt) :: TB) B.pre w (List.mem_cons_of_mem _ hw)
  have hown : s.vm.findClass y.cls = some m.cls := findClass_of_methodNamed B.named
  rw [hy.1.2] at hown
  have hlocks := B.notSynchronized
  have hS : va_S (AA G) s.heap s.heap [] := va_S.rf
  have hl := lv_entry av (n := Y.2.2.1) hy.2
  rw [lg_entry_eq]
  have X : CX ((p, l, e, rmd Y.2.2.2, s, m), (av.toArray, below, meth, c, 0, 0), (MQ below (va_Qi (fun (a : Int32) (u : HP) => a = r ∧ u = hp1) (fun u t => va_P (gD G) classes (wsO G u) t.heap) (AA G)) av.toArray s 0 0 (AA G), AA G, G)) Y :=
    ⟨B.exec, B.bytes, hml, hown, hts, hK, fun k hk => ⟨k, hk, rfl⟩, Nat.le_refl _, Nat.le_refl _, Nat.le_refl _, Nat.le_refl _⟩
  refine h _ rfl X ?_ s.heap [] _ hP hS hl
  intro hn pc L hd H locs ls hP hS hl
  exact W.zret (v := r) B.exec B.bytes B.returns hn (fun t ht _ => ⟨⟨r, hp1, rfl, ⟨rfl, rfl⟩, by show va_P _ _ _ t.heap; rw [ht]; exact hP⟩, hS.F ht⟩) hS.2.2 hd
theorem MV_of {G : GT} {y : MethodName} {Y : YT} {av : List Value} {hp hp1 : HP} (hy : (plainName y.cls && decide (y.cls = Y.2.1) && decide ((lg_sl av).length ≤ Y.2.2.1)) = true) (h : ∀ Z : ZT, zG Z = G → CX Z Y → RetV Z Y hp1 → V Z Y hp 0 (lv_args 0 av) []) : MV G y Y av hp hp1 := by
  intro l
  simp only [Bool.and_eq_true, decide_eq_true_eq] at hy
  refine Met.ofW (cc := Y.1) (maxL := Y.2.2.1) (ret := none) hy.1.1 rfl ?_
  intro p e s m args below meth c s₁ B hml hv
  obtain ⟨rfl, hP, hK⟩ := hv
  have hts : ∀ w ∈ TB, w.before av.toArray s = true := fun w hw => atoms_spec (ws := Cond.code y Y.1 Y.2.2.1 none :: TB) B.pre w (List.mem_cons_of_mem _ hw)
  have hown : s.vm.findClass y.cls = some m.cls := findClass_of_methodNamed B.named
  rw [hy.1.2] at hown
  have hlocks := B.notSynchronized
  have hS : va_S (AA G) s.heap s.heap [] := va_S.rf
  have hl := lv_entry av (n := Y.2.2.1) hy.2
  rw [lg_entry_eq]
  have X : CX ((p, l, e, rmd Y.2.2.2, s, m), (av.toArray, below, meth, c, 0, 0), (MQ below (va_Qv (fun (u : HP) => u = hp1) (fun u t => va_P (gD G) classes (wsO G u) t.heap) (AA G)) av.toArray s 0 0 (AA G), AA G, G)) Y :=
    ⟨B.exec, B.bytes, hml, hown, hts, hK, fun k hk => ⟨k, hk, rfl⟩, Nat.le_refl _, Nat.le_refl _, Nat.le_refl _, Nat.le_refl _⟩
  refine h _ rfl X ?_ s.heap [] _ hP hS hl
  intro pc L hd H locs ls hP hS hl
  exact W.vret B.exec B.bytes B.returns (fun t ht _ => ⟨⟨hp1, rfl, rfl, by show va_P _ _ _ t.heap; rw [ht]; exact hP⟩, hS.F ht⟩) hS.2.2 hd
/-- what every call of a method on an object, of a static method, needs of the tables -/
def CFv (y : MethodName) (Y : YT) (rt : Option FieldType) (n : Nat) : Prop := Cond.instanceMethod y ∈ TB ∧ Cond.selects y.cls y y ∈ TB ∧ Cond.initialized y.cls ∈ TB ∧ Cond.code y Y.1 Y.2.2.1 rt ∈ TB ∧ (y.cls ≠ "java/lang/invoke/MethodHandle" ∧ y.cls ≠ "java/lang/invoke/VarHandle" ∧ (parseMethodDescriptor y.desc).map (fun d => d.parameters.length) = some n)
def CFs (y : MethodName) (Y : YT) (rt : Option FieldType) (n : Nat) : Prop := Cond.static y ∈ TB ∧ Cond.initialized y.cls ∈ TB ∧ Cond.code y Y.1 Y.2.2.1 rt ∈ TB ∧ (y.cls ≠ "java/lang/invoke/MethodHandle" ∧ y.cls ≠ "java/lang/invoke/VarHandle" ∧ (parseMethodDescriptor y.desc).map (fun d => d.parameters.length) = some n)
theorem PreW_blind (G : GT) (hp : HP) (av : List Value) : FrameBlind (va_Pc av (PreW G hp)) := fun _ U _ _ q => ⟨q.1, q.2.1, KK.same (s := U) rfl q.2.2⟩
/-- the most rounds that a loop may take -/
def FU : Nat := 3000
section Calls4
variable {Z : ZT} {Y : YT} {hp hp1 : HP} {pc : Nat} {L : List (Nat × Value)} {st : List Value}
theorem R_ret {p : Int32 × HP} {v : Int32} (hR : RetI Z Y .int p.1 p.2) (h : some (v, hp) = some p) (hd : decode Y.1 pc = .ok (.ireturn, 1)) : V Z Y hp pc L [.int v] := by
  cases h
  exact hR rfl pc L hd
theorem R_retz {p : Int32 × HP} {v : Int32} (hR : RetI Z Y .boolean p.1 p.2) (h : rz v hp = some p) (hd : decode Y.1 pc = .ok (.ireturn, 1)) : V Z Y hp pc L [.int v] := by
  unfold rz at h
  split at h
  · rename_i hv
    cases h
    refine hR ?_ pc L hd
    rcases hv with rfl | rfl
    · exact (by decide : narrow .boolean (.int 0) = .int 0)
    · exact (by decide : narrow .boolean (.int 1) = .int 1)
  · cases h
theorem R_retc {p : Int32 × HP} {v : Int32} (hR : RetI Z Y .boolean p.1 p.2) (hv : narrow .boolean (.int v) = .int v) (h : some (v, hp) = some p) (hd : decode Y.1 pc = .ok (.ireturn, 1)) : V Z Y hp pc L [.int v] := by
  cases h
  exact hR hv pc L hd
theorem R_retv {p : Int32 × HP} {v : Int32} (hR : RetV Z Y p.2) (h : some (v, hp) = some p) (hd : decode Y.1 pc = .ok (.return_, 1)) : V Z Y hp pc L [] := by
  cases h
  exact hR pc L hd
theorem AA_zA (X : CX Z Y) : ∀ q, AA (zG Z) q → zA Z q := fun q hq => by
  obtain ⟨k, hk, rfl⟩ := hq
  exact X.2.2.2.2.2.2.1 k hk
theorem room4 (X : CX Z Y) {Y' : YT} (hdep : (decide (Y'.2.2.2 + 1 ≤ Y.2.2.2) && decide (Y'.2.2.1 ≤ 11)) = true) : (rmd Y'.2.2.2).frames + 1 ≤ (zR Z).frames ∧ 8 + (Y'.2.2.1 + 11) + (rmd Y'.2.2.2).locals ≤ (zR Z).locals := by
  simp only [Bool.and_eq_true, decide_eq_true_eq] at hdep
  obtain ⟨r1, r2, r3, r4⟩ := X.2.2.2.2.2.2.2
  have e1 : (rmd Y'.2.2.2).frames = Y'.2.2.2 := rfl
  have e2 : (rmd Y'.2.2.2).locals = 30 * Y'.2.2.2 := rfl
  omega
theorem R_vcall (X : CX Z Y) {y : MethodName} {Y' : YT} {rt : FieldType} {T : u_T} {N ci idx k n : Nat} {As S : List Value} {r : Int32} (hM : MI (zG Z) y Y' rt (.ref (gA (zG Z) k) :: As) hp r hp1) (hl : Cond.methodLink Y.2.1 idx y ∈ TB) (cf : CFv y Y' (some rt) n) (hk : k < NC) (hs : sh k = (ci, 0)) (hc : classes[ci]? = some (y.cls, T, N)) (hg : (decide (As.length = n) && decide (ci < 20) && decide ((st.map fun v => v.category).sum ≤ 8)) = true) (hdep : (decide (Y'.2.2.2 + 1 ≤ Y.2.2.2) && decide (Y'.2.2.1 ≤ 11)) = true) (hS : S = As.reverse ++ .ref (gA (zG Z) k) :: st) (hd : decode Y.1 pc = .ok (.invokevirtual idx, 3)) (kk : V Z Y hp1 (pc + 3) L (.int r :: st)) : V Z Y hp pc L S := by
  subst hS
  intro H locs ls hP hS h
  simp only [Bool.and_eq_true, decide_eq_true_eq] at hg
  obtain ⟨c1, c2, c3, c4, c5⟩ := cf
  have hts := X.2.2.2.2.1
  obtain ⟨r1, r2, r3, r4⟩ := X.2.2.2.2.2.2.2
  have he := wsO_at (zG Z) hp hk
  rw [ent_o _ _ hg.1.2 hs] at he
  refine va_calli (va_runV (As := As) (rest := st) ⟨X.1, X.2.1, X.2.2.1, X.2.2.2.1, hts⟩ (hM (zl Z)) ⟨callB_of n hts (TB_code c4) rfl rfl rfl (hts _ c3) (hts _ hl) c5 (room4 X hdep), hts _ c1, hts _ c2⟩ ⟨PreW_blind _ _ _, va_recv X.2.2.2.2.2.1.1 hP hc he, fun U hU hW => ⟨rfl, by rw [hU]; exact hP, KK.warm hW X.2.2.2.2.2.1⟩⟩ rfl hg.1.1 h.1 rfl (lv_room hg.2) hd ⟨r3, r4⟩) hS (fun q _ hq => AA_zA X q hq) (fun q hq => AA_zA X q hq) (fun a u t H1 locs1 ht hvm hw hB _ _ hS1 => ?_)
  obtain ⟨rfl, rfl⟩ := hw
  replace hB : va_P _ _ _ _ := hB
  rw [ht] at hB
  exact kk H1 locs1 ls hB hS1 h
theorem R_vcallv (X : CX Z Y) {y : MethodName} {Y' : YT} {T : u_T} {N ci idx k n : Nat} {As S : List Value} (hM : MV (zG Z) y Y' (.ref (gA (zG Z) k) :: As) hp hp1) (hl : Cond.methodLink Y.2.1 idx y ∈ TB) (cf : CFv y Y' none n) (hk : k < NC) (hs : sh k = (ci, 0)) (hc : classes[ci]? = some (y.cls, T, N)) (hg : (decide (As.length = n) && decide (ci < 20) && decide ((st.map fun v => v.category).sum ≤ 8)) = true) (hdep : (decide (Y'.2.2.2 + 1 ≤ Y.2.2.2) && decide (Y'.2.2.1 ≤ 11)) = true) (hS : S = As.reverse ++ .ref (gA (zG Z) k) :: st) (hd : decode Y.1 pc = .ok (.invokevirtual idx, 3)) (kk : V Z Y hp1 (pc + 3) L st) : V Z Y hp pc L S := by
  subst hS
  intro H locs ls hP hS h
  simp only [Bool.and_eq_true, decide_eq_true_eq] at hg
  obtain ⟨c1, c2, c3, c4, c5⟩ := cf
  have hts := X.2.2.2.2.1
  obtain ⟨r1, r2, r3, r4⟩ := X.2.2.2.2.2.2.2
  have he := wsO_at (zG Z) hp hk
  rw [ent_o _ _ hg.1.2 hs] at he
  refine va_callv (va_runV (As := As) (rest := st) ⟨X.1, X.2.1, X.2.2.1, X.2.2.2.1, hts⟩ (hM (zl Z)) ⟨callB_of n hts (TB_code c4) rfl rfl rfl (hts _ c3) (hts _ hl) c5 (room4 X hdep), hts _ c1, hts _ c2⟩ ⟨PreW_blind _ _ _, va_recv X.2.2.2.2.2.1.1 hP hc he, fun U hU hW => ⟨rfl, by rw [hU]; exact hP, KK.warm hW X.2.2.2.2.2.1⟩⟩ rfl hg.1.1 h.1 rfl (lv_room hg.2) hd ⟨r3, r4⟩) hS (fun q _ hq => AA_zA X q hq) (fun q hq => AA_zA X q hq) (fun u t H1 locs1 ht hvm hw hB _ _ hS1 => ?_)
  subst hw
  replace hB : va_P _ _ _ _ := hB
  rw [ht] at hB
  exact kk H1 locs1 ls hB hS1 h
theorem R_scall (X : CX Z Y) {y : MethodName} {Y' : YT} {rt : FieldType} {idx n : Nat} {As S : List Value} {r : Int32} (hM : MI (zG Z) y Y' rt As hp r hp1) (hl : Cond.methodLink Y.2.1 idx y ∈ TB) (cf : CFs y Y' (some rt) n) (hg : (decide (As.length = n) && decide ((st.map fun v => v.category).sum ≤ 8)) = true) (hdep : (decide (Y'.2.2.2 + 1 ≤ Y.2.2.2) && decide (Y'.2.2.1 ≤ 11)) = true) (hS : S = As.reverse ++ st) (hd : decode Y.1 pc = .ok (.invokestatic idx, 3)) (kk : V Z Y hp1 (pc + 3) L (.int r :: st)) : V Z Y hp pc L S := by
  subst hS
  intro H locs ls hP hS h
  simp only [Bool.and_eq_true, decide_eq_true_eq] at hg
  obtain ⟨c1, c3, c4, c5⟩ := cf
  have hts := X.2.2.2.2.1
  obtain ⟨r1, r2, r3, r4⟩ := X.2.2.2.2.2.2.2
  refine va_calli (va_runS (As := As) (rest := st) ⟨X.1, X.2.1, X.2.2.1, X.2.2.2.1, hts⟩ (hM (zl Z)) ⟨callB_of n hts (TB_code c4) rfl rfl rfl (hts _ c3) (hts _ hl) c5 (room4 X hdep), hts _ c1⟩ ⟨PreW_blind _ _ _, fun U hU hW => ⟨rfl, by rw [hU]; exact hP, KK.warm hW X.2.2.2.2.2.1⟩⟩ rfl hg.1 h.1 rfl (lv_room hg.2) hd ⟨r3, r4⟩) hS (fun q _ hq => AA_zA X q hq) (fun q hq => AA_zA X q hq) (fun a u t H1 locs1 ht hvm hw hB _ _ hS1 => ?_)
  obtain ⟨rfl, rfl⟩ := hw
  replace hB : va_P _ _ _ _ := hB
  rw [ht] at hB
  exact kk H1 locs1 ls hB hS1 h
/-- a static method that is private in a nest mate -/
theorem R_ncall (X : CX Z Y) {y : MethodName} {Y' : YT} {rt : FieldType} {idx n : Nat} {host : String} {As S : List Value} {r : Int32} (hM : MI (zG Z) y Y' rt As hp r hp1) (hl : (Y.2.1, idx, y, host) ∈ NWs) (cf : CFs y Y' (some rt) n) (hg : (decide (As.length = n) && decide ((st.map fun v => v.category).sum ≤ 8)) = true) (hdep : (decide (Y'.2.2.2 + 1 ≤ Y.2.2.2) && decide (Y'.2.2.1 ≤ 11)) = true) (hS : S = As.reverse ++ st) (hd : decode Y.1 pc = .ok (.invokestatic idx, 3)) (kk : V Z Y hp1 (pc + 3) L (.int r :: st)) : V Z Y hp pc L S := by
  subst hS
  intro H locs ls hP hS h
  simp only [Bool.and_eq_true, decide_eq_true_eq] at hg
  obtain ⟨c1, c3, c4, c5⟩ := cf
  have hts := X.2.2.2.2.1
  obtain ⟨r1, r2, r3, r4⟩ := X.2.2.2.2.2.2.2
  refine va_calli (va_runSN (As := As) (rest := st) ⟨X.1, X.2.1, X.2.2.1, X.2.2.2.1, hts⟩ (hM (zl Z)) ⟨va_cnB n hts (TB_code c4) rfl rfl rfl (X.2.2.2.2.2.1.2.1 _ hl) (hts _ c3) c5 (room4 X hdep), hts _ c1, trivial⟩ ⟨PreW_blind _ _ _, fun U hU hW => ⟨rfl, by rw [hU]; exact hP, KK.warm hW X.2.2.2.2.2.1⟩⟩ rfl hg.1 h.1 rfl (lv_room hg.2) hd ⟨r3, r4⟩) hS (fun q _ hq => AA_zA X q hq) (fun q hq => AA_zA X q hq) (fun a u t H1 locs1 ht hvm hw hB _ _ hS1 => ?_)
  obtain ⟨rfl, rfl⟩ := hw
  replace hB : va_P _ _ _ _ := hB
  rw [ht] at hB
  exact kk H1 locs1 ls hB hS1 h
end Calls4
