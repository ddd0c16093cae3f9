/-! Objects are made: the world as a list that grows. -/
def KC (G : GT) (U : State) : Prop := va_K (gD G) classes (tysO G) U ∧ (∀ q ∈ NWs, va_Nw (.methodLinkNest q.1 q.2.1 q.2.2.1 q.2.2.2) U) ∧ va_AO "BodyAccounts$Standing" U
theorem KC.warm {G : GT} {s U : State} (hW : s.WarmedH U.vm) (h : KC G s) : KC G U := ⟨va_K.moved hW.alike h.1, fun q hq => va_Nw.warmM hW (h.2.1 q hq), va_AO.moved hW.alike h.2.2⟩
theorem KC.same {G : GT} {s U : State} (hv : s.vm = U.vm) (h : KC G s) : KC G U := ⟨va_K.moved (by rw [hv]; exact Vm.Alike.refl U.vm) h.1, fun q hq => va_Nw.same rfl hv (h.2.1 q hq), va_AO.moved (by rw [hv]; exact Vm.Alike.refl U.vm) h.2.2⟩
def CC (Z : ZT) (Y : YT) : Prop := (zp Z).tables.exec = Jvm.exec ∧ (zc Z).code = Y.1 ∧ (zc Z).maxLocals = Y.2.2.1 ∧ (zs Z).vm.findClass Y.2.1 = some (zm Z).cls ∧ (∀ w ∈ TB, w.before (za Z) (zs Z) = true) ∧ KC (zG Z) (zs Z) ∧ (∀ q, (zs Z).heap.size ≤ q → zA Z q) ∧ (Y.2.2.2 ≤ (zR Z).frames ∧ 30 * Y.2.2.2 ≤ (zR Z).locals)
def VC (Z : ZT) (Y : YT) (ws : va_W) (n o pc : Nat) (L : List (Nat × Value)) (st : List Value) : Prop :=
  ∀ (H : Heap) (locs : List Loc) (ls : Array Slot), va_P (gD (zG Z)) classes ws H → va_D (zA Z) ws → va_S (zA Z) (zs Z).heap H locs → lv_has ls Y.2.2.1 L → W (zp Z) (zl Z) (ze Z) (zR Z) (zs Z) (zm Z) (za Z) (zb Z) (zt Z) (zc Z) H locs n o (zQ Z) (F0 (zm Z) pc ls st)
section MakeRows
variable {Z : ZT} {Y : YT} {ws : va_W} {n o pc : Nat} {L : List (Nat × Value)} {st : List Value}
theorem VC_eq {ws' : va_W} (h : ws = ws') (k : VC Z Y ws' n o pc L st) : VC Z Y ws n o pc L st := by subst h; exact k
theorem VC_hd {a ci : Nat} {fs fs' : List Value} {tl : va_W} (h : fs = fs') (k : VC Z Y ((a, .inr (ci, fs')) :: tl) n o pc L st) : VC Z Y ((a, .inr (ci, fs)) :: tl) n o pc L st := by subst h; exact k
theorem VC_ap {x : Nat × va_E} {tl w : va_W} (k : VC Z Y (x :: (tl ++ w)) n o pc L st) : VC Z Y ((x :: tl) ++ w) n o pc L st := k
theorem VC_a1 {x y : Nat × va_E} (k : VC Z Y (x :: [y]) n o pc L st) : VC Z Y (x :: ([] ++ [y])) n o pc L st := k
theorem VC_pc {pc' : Nat} (h : pc = pc') (k : VC Z Y ws n o pc' L st) : VC Z Y ws n o pc L st := by subst h; exact k
theorem VC_no {n' o' : Nat} (h1 : n ≤ n') (h2 : o ≤ o') (k : VC Z Y ws n' o' pc L st) : VC Z Y ws n o pc L st := fun H locs ls hP hD hS h => W.widen h1 h2 (k H locs ls hP hD hS h)
theorem C_loc {L' : List (Nat × Value)} (ks : List Nat) (hl : lv_pick L ks = L') (k : VC Z Y ws n o pc L' st) : VC Z Y ws n o pc L st := fun H locs ls hP hD hS h => k H locs ls hP hD hS (lv_sub h ks hl)
theorem C_iconst (X : CC Z Y) {i : Int} {v : Int32} (hd : decode Y.1 pc = .ok (.iconst i, 1)) (hv : Int32.ofInt i = v) (k : VC Z Y ws n o (pc + 1) L (.int v :: st)) : VC Z Y ws n o pc L st := fun H locs ls hP hD hS h => lv_iconst X.1 X.2.1 hd hv (k H locs ls hP hD hS h)
theorem C_bipush (X : CC Z Y) {i : Int} {v : Int32} (hd : decode Y.1 pc = .ok (.bipush i, 2)) (hv : (Int8.ofInt i).toInt32 = v) (k : VC Z Y ws n o (pc + 2) L (.int v :: st)) : VC Z Y ws n o pc L st := fun H locs ls hP hD hS h => lv_bipush X.1 X.2.1 hd hv (k H locs ls hP hD hS h)
theorem C_sipush (X : CC Z Y) {i : Int} {v : Int32} (hd : decode Y.1 pc = .ok (.sipush i, 3)) (hv : (Int16.ofInt i).toInt32 = v) (k : VC Z Y ws n o (pc + 3) L (.int v :: st)) : VC Z Y ws n o pc L st := fun H locs ls hP hD hS h => lv_sipush X.1 X.2.1 hd hv (k H locs ls hP hD hS h)
theorem C_aload_n (X : CC Z Y) (q : Nat) {i : Fin 4} {x : Nat} (hd : decode Y.1 pc = .ok (.aload_n i, 1)) (hq : L[q]? = some ((i : Nat), .ref x)) (k : VC Z Y ws n o (pc + 1) L (.ref x :: st)) : VC Z Y ws n o pc L st := fun H locs ls hP hD hS h => lv_aload_n X.1 X.2.1 hd rfl (lv_at h q hq) (k H locs ls hP hD hS h)
theorem C_iload_n (X : CC Z Y) (q : Nat) {i : Fin 4} {x : Int32} (hd : decode Y.1 pc = .ok (.iload_n i, 1)) (hq : L[q]? = some ((i : Nat), .int x)) (k : VC Z Y ws n o (pc + 1) L (.int x :: st)) : VC Z Y ws n o pc L st := fun H locs ls hP hD hS h => lv_iload_n X.1 X.2.1 hd rfl (lv_at h q hq) (k H locs ls hP hD hS h)
theorem C_istore_n (X : CC Z Y) {i : Fin 4} {x : Int32} {L' : List (Nat × Value)} (hd : decode Y.1 pc = .ok (.istore_n i, 1)) (hn : (i : Nat) < Y.2.2.1) (hl : ((i : Nat), Value.int x) :: L.filter (fun q => !(q.1 == (i : Nat)) && !(q.1 + 1 == (i : Nat) && q.2.category == 2)) = L') (k : VC Z Y ws n o (pc + 1) L' st) : VC Z Y ws n o pc L (.int x :: st) := fun H locs ls hP hD hS h => lv_istore_n X.1 X.2.1 hd rfl h hn hl (fun ls' h' => k H locs ls' hP hD hS h')
theorem C_astore_n (X : CC Z Y) {i : Fin 4} {x : Nat} {L' : List (Nat × Value)} (hd : decode Y.1 pc = .ok (.astore_n i, 1)) (hn : (i : Nat) < Y.2.2.1) (hl : ((i : Nat), Value.ref x) :: L.filter (fun q => !(q.1 == (i : Nat)) && !(q.1 + 1 == (i : Nat) && q.2.category == 2)) = L') (k : VC Z Y ws n o (pc + 1) L' st) : VC Z Y ws n o pc L (.ref x :: st) := fun H locs ls hP hD hS h => lv_astore_n X.1 X.2.1 hd rfl h hn hl (fun ls' h' => k H locs ls' hP hD hS h')
theorem C_iinc (X : CC Z Y) (q : Nat) {i : Nat} {w : Int} {x v : Int32} {L' : List (Nat × Value)} (hd : decode Y.1 pc = .ok (.iinc i w, 3)) (hq : L[q]? = some (i, .int x)) (hv : x + Int32.ofInt w = v) (hn : i < Y.2.2.1) (hl : (i, Value.int v) :: L.filter (fun q => !(q.1 == i) && !(q.1 + 1 == i && q.2.category == 2)) = L') (k : VC Z Y ws n o (pc + 3) L' st) : VC Z Y ws n o pc L st := fun H locs ls hP hD hS h => lv_iinc X.1 X.2.1 hd h hq hv hn hl (fun ls' h' => k H locs ls' hP hD hS h')
theorem C_dup (X : CC Z Y) {v : Value} (hd : decode Y.1 pc = .ok (.dup, 1)) (hv : v.category = 1) (k : VC Z Y ws n o (pc + 1) L (v :: v :: st)) : VC Z Y ws n o pc L (v :: st) := fun H locs ls hP hD hS h => lv_dup X.1 X.2.1 hd hv (k H locs ls hP hD hS h)
theorem C_goto (X : CC Z Y) {off : Int} {tgt : Nat} (hd : decode Y.1 pc = .ok (.goto off, 3)) (ht : (pc : Int) + off = (tgt : Int)) (k : VC Z Y ws n o tgt L st) : VC Z Y ws n o pc L st := fun H locs ls hP hD hS h => lv_goto X.1 X.2.1 hd ht (k H locs ls hP hD hS h)
theorem C_icmp_ge (X : CC Z Y) {x y : Int32} {off : Int} {tgt : Nat} (hd : decode Y.1 pc = .ok (.if_icmp .ge off, 3)) (ht : (pc : Int) + off = (tgt : Int)) (kt : y ≤ x → VC Z Y ws n o tgt L st) (kf : ¬ y ≤ x → VC Z Y ws n o (pc + 3) L st) : VC Z Y ws n o pc L (.int y :: .int x :: st) := fun H locs ls hP hD hS h => lv_icmp_ge X.1 X.2.1 hd ht (fun c => kt c H locs ls hP hD hS h) (fun c => kf c H locs ls hP hD hS h)
theorem C_obj (X : CC Z Y) {idx a : Nat} (hl : Cond.methodLink Y.2.1 idx objectInit ∈ TB) (hi : Cond.instanceMethod objectInit ∈ TB) (hc : Cond.code objectInit ⟨#[0xb1]⟩ 1 none ∈ TB) (hy : (decide (0 < Y.2.2.2) && decide ((st.map fun v => v.category).sum ≤ 8)) = true) (hd : decode Y.1 pc = .ok (.invokespecial idx, 3)) (k : VC Z Y ws n o (pc + 3) L st) : VC Z Y ws n o pc L (.ref a :: st) := by
  intro H locs ls hP hD hS h
  simp only [Bool.and_eq_true, decide_eq_true_eq] at hy
  obtain ⟨r1, r2⟩ := X.2.2.2.2.2.2.2
  have hts := X.2.2.2.2.1
  exact W.objInit X.1 X.2.1 X.2.2.2.1 (hts _ hl) (hts _ hi) (hts _ hc) rfl (h.1.trans X.2.2.1.symm) rfl hd (by omega) (Nat.le_trans (Nat.add_le_add_right (lv_room hy.2) 12) (by omega)) (k H locs ls hP hD hS h)
theorem C_new (X : CC Z Y) {C : String} {T : u_T} {N ci idx : Nat} {fs : List Value} {ty : Nat → FieldType} (hc : classes[ci]? = some (C, T, N)) (hin : ∀ w ∈ u_ws C T N, w ∈ TB) (hty : ∀ k, k < N → parseFieldDescriptor (T k).2.2.1 = some (ty k)) (hl : Cond.classLink Y.2.1 idx C ∈ TB) (hi : Cond.instantiable C N ∈ TB) (hini : Cond.initialized C ∈ TB) (hfs : ∀ j, j < N → defaultValue (ty j) = vp_V fs j) (hn : n + 1 ≤ (zR Z).cells) (ho : o + N ≤ (zR Z).slots) (hd : decode Y.1 pc = .ok (.new idx, 3)) (k : ∀ q, VC Z Y (ws ++ [(q, .inr (ci, fs))]) (n + 1) (o + N) (pc + 3) L (.ref q :: st)) : VC Z Y ws n o pc L st := by
  intro H locs ls hP hD hS h
  have hts := X.2.2.2.2.1
  exact va_new X.1 X.2.1 hts hin ty hty X.2.2.2.1 (hts _ hl) (hts _ hi) (hts _ hini) X.2.2.2.2.2.1.1 hP hD hS X.2.2.2.2.2.2.1 hc hfs hn ho hd (fun q H1 hP hD hS => k q H1 locs ls hP hD hS h)
theorem C_newi (X : CC Z Y) {v : Int32} {N : Nat} (hw : Cond.arrayClass .int ∈ TB) (hv : (decide (¬ v < 0) && decide (v.toNatClampNeg = N) && decide (N * 4 ≤ 536870912)) = true) (hn : n + 1 ≤ (zR Z).cells) (ho : o + N ≤ (zR Z).slots) (hd : decode Y.1 pc = .ok (.newarray .int, 2)) (k : ∀ q, VC Z Y (ws ++ [(q, .inl ((zG Z).2.2.1, N, .inl (fun _ => 0)))]) (n + 1) (o + N) (pc + 2) L (.ref q :: st)) : VC Z Y ws n o pc L (.int v :: st) := by
  intro H locs ls hP hD hS h
  simp only [Bool.and_eq_true, decide_eq_true_eq] at hv
  have hts := X.2.2.2.2.1
  have hK := X.2.2.2.2.2.1.1
  refine va_newa (atype := .int) (ty := .int) (a0 := (N, .inl (fun _ => 0))) X.1 X.2.1 (hts _ hw) rfl hK hP hD hS X.2.2.2.2.2.2.1 (fun _ => rfl) hv.1.1 hv.1.2 hv.2 hn ho hd (fun q cA H1 hK1 hP hD hS => ?_)
  have e1 := (hK1.2 3 (cA, .int) rfl).2
  have e0 := (hK.2 0 _ rfl).2
  have e : cA = (zG Z).2.2.1 := Option.some.inj (e1.symm.trans e0)
  subst e
  exact k q H1 locs ls hP hD hS h
theorem C_newz (X : CC Z Y) {v : Int32} {N : Nat} (hw : Cond.arrayClass .boolean ∈ TB) (hv : (decide (¬ v < 0) && decide (v.toNatClampNeg = N) && decide (N * 1 ≤ 536870912)) = true) (hn : n + 1 ≤ (zR Z).cells) (ho : o + N ≤ (zR Z).slots) (hd : decode Y.1 pc = .ok (.newarray .boolean, 2)) (k : ∀ q, VC Z Y (ws ++ [(q, .inl ((zG Z).2.2.2.1, N, .inl (fun _ => 0)))]) (n + 1) (o + N) (pc + 2) L (.ref q :: st)) : VC Z Y ws n o pc L (.int v :: st) := by
  intro H locs ls hP hD hS h
  simp only [Bool.and_eq_true, decide_eq_true_eq] at hv
  have hts := X.2.2.2.2.1
  have hK := X.2.2.2.2.2.1.1
  refine va_newa (atype := .boolean) (ty := .boolean) (a0 := (N, .inl (fun _ => 0))) X.1 X.2.1 (hts _ hw) rfl hK hP hD hS X.2.2.2.2.2.2.1 (fun _ => rfl) hv.1.1 hv.1.2 hv.2 hn ho hd (fun q cA H1 hK1 hP hD hS => ?_)
  have e1 := (hK1.2 3 (cA, .boolean) rfl).2
  have e0 := (hK.2 1 _ rfl).2
  have e : cA = (zG Z).2.2.2.1 := Option.some.inj (e1.symm.trans e0)
  subst e
  exact k q H1 locs ls hP hD hS h
theorem C_newq (X : CC Z Y) {v : Int32} {N idx : Nat} (hw : Cond.classLink Y.2.1 idx "BodyAccounts$Standing" ∈ TB) (hv : (decide (¬ v < 0) && decide (v.toNatClampNeg = N) && decide (N * 4 ≤ 536870912)) = true) (hn : n + 1 ≤ (zR Z).cells) (ho : o + N ≤ (zR Z).slots) (hd : decode Y.1 pc = .ok (.anewarray idx, 3)) (k : ∀ q, VC Z Y (ws ++ [(q, .inl ((zG Z).2.2.2.2, N, .inr (.inr (.inr (.inr (fun _ => none))))))]) (n + 1) (o + N) (pc + 3) L (.ref q :: st)) : VC Z Y ws n o pc L (.int v :: st) := by
  intro H locs ls hP hD hS h
  simp only [Bool.and_eq_true, decide_eq_true_eq] at hv
  have hts := X.2.2.2.2.1
  have hK := X.2.2.2.2.2.1.1
  refine va_newq X.1 X.2.1 X.2.2.2.1 (hts _ hw) X.2.2.2.2.2.1.2.2 hK hP hD hS X.2.2.2.2.2.2.1 hv.1.1 hv.1.2 hv.2 hn ho hd (fun q cA H1 hK1 hP hD hS => ?_)
  obtain ⟨_, _, _, _, _, e1⟩ := (hK1.2 3 (cA, .object "BodyAccounts$Standing") rfl).2
  obtain ⟨_, _, _, _, _, e0⟩ := (hK.2 2 _ rfl).2
  have e : cA = (zG Z).2.2.2.2 := Option.some.inj (e1.symm.trans e0)
  subst e
  exact k q H1 locs ls hP hD hS h
theorem C_putF (X : CC Z Y) (hin2 : (zt Z).name = "<init>") {C : String} {T : u_T} {N ci idx a : Nat} {fs : List Value} {tl : va_W} {ty : Nat → FieldType} (hc : classes[ci]? = some (C, T, N)) (hin : ∀ w ∈ u_ws C T N, w ∈ TB) (hty : ∀ k, k < N → parseFieldDescriptor (T k).2.2.1 = some (ty k)) (hnm : ∀ a, a < N → ∀ b, b < N → a ≠ b → (T a).2.1 ≠ (T b).2.1) (j : Nat) (hj : (decide (j < N) && decide (j < fs.length) && (T j).2.2.2) = true) (hdecl : (T j).1 = Y.2.1) {v : Value} (hv : narrow (ty j) v = v) (hfit : fits (ty j) v = true) (hlink : Cond.fieldLink Y.2.1 idx (T j).1 (T j).2.1 (T j).2.2.1 ∈ TB) (hd : decode Y.1 pc = .ok (.putfield idx, 3)) (k : VC Z Y ((a, .inr (ci, fs.set j v)) :: tl) n o (pc + 3) L st) : VC Z Y ((a, .inr (ci, fs)) :: tl) n o pc L (v :: .ref a :: st) := by
  intro H locs ls hP hD hS h
  simp only [Bool.and_eq_true, decide_eq_true_eq] at hj
  have hts := X.2.2.2.2.1
  exact va_putF X.1 X.2.1 hts hin ty hty hnm X.2.2.2.1 X.2.2.2.2.2.1.1 hP hD hS 0 rfl hc j hj.1.1 (hts _ hlink) (fun _ h9 => h9) hj.2 hin2 hdecl (hty j hj.1.1) hv hfit hj.1.2 hd (fun H1 locs1 hP hD hS => k H1 locs1 ls hP hD hS h)
theorem C_put (X : CC Z Y) {C : String} {T : u_T} {N ci idx a : Nat} {fs : List Value} {tl : va_W} {ty : Nat → FieldType} (hc : classes[ci]? = some (C, T, N)) (hin : ∀ w ∈ u_ws C T N, w ∈ TB) (hty : ∀ k, k < N → parseFieldDescriptor (T k).2.2.1 = some (ty k)) (hnm : ∀ a, a < N → ∀ b, b < N → a ≠ b → (T a).2.1 ≠ (T b).2.1) (j : Nat) (hj : (decide (j < N) && decide (j < fs.length) && !(T j).2.2.2) = true) {v : Value} (hv : narrow (ty j) v = v) (hfit : fits (ty j) v = true) (hlink : Cond.fieldLink Y.2.1 idx (T j).1 (T j).2.1 (T j).2.2.1 ∈ TB) (hd : decode Y.1 pc = .ok (.putfield idx, 3)) (k : VC Z Y ((a, .inr (ci, fs.set j v)) :: tl) n o (pc + 3) L st) : VC Z Y ((a, .inr (ci, fs)) :: tl) n o pc L (v :: .ref a :: st) := by
  intro H locs ls hP hD hS h
  simp only [Bool.and_eq_true, decide_eq_true_eq, Bool.not_eq_true'] at hj
  have hts := X.2.2.2.2.1
  exact va_put X.1 X.2.1 hts hin ty hty hnm X.2.2.2.1 X.2.2.2.2.2.1.1 hP hD hS 0 rfl hc j hj.1.1 (hts _ hlink) (fun _ h9 => h9) hj.2 (hty j hj.1.1) hv hfit hj.1.2 hd (fun H1 locs1 hP hD hS => k H1 locs1 ls hP hD hS h)
theorem C_get (X : CC Z Y) {C : String} {T : u_T} {N ci idx a : Nat} {fs : List Value} {tl : va_W} (hc : classes[ci]? = some (C, T, N)) (hin : ∀ w ∈ u_ws C T N, w ∈ TB) (j : Nat) (hj : j < N) {v : Value} (hv : fs[j]? = some v) (hlink : Cond.fieldLink Y.2.1 idx (T j).1 (T j).2.1 (T j).2.2.1 ∈ TB) (hd : decode Y.1 pc = .ok (.getfield idx, 3)) (k : VC Z Y ((a, .inr (ci, fs)) :: tl) n o (pc + 3) L (v :: st)) : VC Z Y ((a, .inr (ci, fs)) :: tl) n o pc L (.ref a :: st) := by
  intro H locs ls hP hD hS h
  have hts := X.2.2.2.2.1
  exact va_get X.1 X.2.1 hts hin X.2.2.2.1 X.2.2.2.2.2.1.1 hP 0 rfl hc j hj (hts _ hlink) (fun _ h9 => h9) hv hd (k H locs ls hP hD hS h)
theorem C_astq (X : CC Z Y) (q0 qk : Nat) {a N v : Nat} {f : Nat → Option Nat} {vs : List Value} (ha : ws[q0]? = some (a, .inl ((zG Z).2.2.2.2, N, .inr (.inr (.inr (.inr f)))))) (hv : ws[qk]? = some (v, .inr (5, vs))) {i : Int32} (hi : inb i N = true) (hd : decode Y.1 pc = .ok (.aastore, 1)) (k : VC Z Y (ws.set q0 (a, .inl ((zG Z).2.2.2.2, N, .inr (.inr (.inr (.inr (va_up f i.toNatClampNeg (some v)))))))) n o (pc + 1) L st) : VC Z Y ws n o pc L (.ref v :: .int i :: .ref a :: st) := by
  intro H locs ls hP hD hS h
  exact va_astq (r := ("BodyAccounts$Standing", TSt, 3)) X.1 X.2.1 X.2.2.2.2.2.1.1 hP hD hS q0 2 qk 5 ha rfl hv rfl (inb_in hi) hd (fun H1 locs1 hP hD hS => k H1 locs1 ls hP hD hS h)
end MakeRows
theorem va_nd_of : ∀ l : List Nat, l.Nodup → va_nd l = true
  | [], _ => rfl
  | a :: l, h => by
    rw [List.nodup_cons] at h
    unfold va_nd
    rw [va_nd_of l h.2, decide_eq_true h.1]
    rfl
theorem mapC (wr : va_W) (x : Nat × va_E) : [wr.length].map (fun i => (wr ++ [x])[i]?) = [x].map some := by simp
theorem mapR (wr w2 : va_W) : (List.range wr.length).map (fun i => (wr ++ w2)[i]?) = wr.map some := by
  apply List.ext_getElem?
  intro i
  by_cases h : i < wr.length
  · rw [List.getElem?_map, List.getElem?_range h, List.getElem?_map, List.getElem?_eq_getElem h]
    show some ((wr ++ w2)[i]?) = some (some wr[i])
    rw [List.getElem?_append_left h, List.getElem?_eq_getElem h]
  · rw [List.getElem?_eq_none (by simp; omega), List.getElem?_eq_none (by simp; omega)]
theorem join_app {A0 : Nat → Prop} {D : va_G} {wr w1 : va_W} {x : Nat × va_E} {H H1 : Heap} (hP : va_P D classes (wr ++ [x]) H) (hD : va_D A0 (wr ++ [x])) (hk : ∀ q : Nat, q < H.size → ¬ va_A [x] H.size q → H1[q]? = H[q]?) (hF : ∀ q, va_A [x] H.size q → A0 q) (hP1 : va_P D classes w1 H1) (hD1 : va_D (va_A [x] H.size) w1) : va_P D classes (wr ++ w1) H1 ∧ va_D A0 (wr ++ w1) :=
  va_join (wc := [x]) (wr := wr) (w1 := w1) hP hD [wr.length] (List.range wr.length) (mapC wr x) (mapR wr [x]) (va_nd_of _ List.nodup_range) (fun i hi => by rw [List.mem_range] at hi; simp; omega) hk hF hP1 hD1
/-- the contract of a constructor: of the cell h0 with its first values it makes a block of cells -/
def MC (G : GT) (y : MethodName) (Y : YT) (ci : Nat) (fs0 : List Value) (mc ms : Nat) (blk : (Nat → Nat) → va_W) : Prop := ∀ l h0 sz, Met l y (Cond.code y Y.1 Y.2.2.1 none :: TB) ({ frames := Y.2.2.2, cells := mc, slots := ms, locals := 30 * Y.2.2.2 } : Room) (va_Pc [.ref h0] (fun U => U.heap.size = sz ∧ va_P (gD G) classes [(h0, .inr (ci, fs0))] U.heap ∧ KC G U)) (va_Qv (fun (f : Nat → Nat) => f 0 = h0) (fun f t => va_P (gD G) classes (blk f) t.heap ∧ va_D (va_A [(h0, .inr (ci, fs0))] sz) (blk f)) (va_A [(h0, .inr (ci, fs0))] sz)) mc ms (va_A [(h0, .inr (ci, fs0))] sz)
def RetC (Z : ZT) (Y : YT) (mc ms : Nat) (blk : (Nat → Nat) → va_W) (h0 : Nat) : Prop := ∀ (f : Nat → Nat) (pc : Nat) (L : List (Nat × Value)), f 0 = h0 → decode Y.1 pc = .ok (.return_, 1) → VC Z Y (blk f) mc ms pc L []
theorem MC_of {G : GT} {y : MethodName} {Y : YT} {ci : Nat} {fs0 : List Value} {mc ms : Nat} {blk : (Nat → Nat) → va_W} (hy : (plainName y.cls && decide (y.cls = Y.2.1) && decide (1 ≤ Y.2.2.1) && decide (y.name = "<init>")) = true) (h : ∀ (Z : ZT) (h0 : Nat), zG Z = G → CC Z Y → (zt Z).name = "<init>" → (zR Z).cells = mc → (zR Z).slots = ms → RetC Z Y mc ms blk h0 → VC Z Y [(h0, .inr (ci, fs0))] 0 0 0 [(0, .ref h0)] []) : MC G y Y ci fs0 mc ms blk := by
  intro l h0 sz
  simp only [Bool.and_eq_true, decide_eq_true_eq] at hy
  refine Met.ofW (cc := Y.1) (maxL := Y.2.2.1) (ret := none) hy.1.1.1 rfl ?_
  intro p e s m args below meth c s₁ B hml hv
  obtain ⟨rfl, hsz, hP, hK⟩ := hv
  subst hsz
  have hts : ∀ w ∈ TB, w.before [Value.ref h0].toArray s = true := fun w hw => atoms_spec (ws := Cond.code y Y.1 Y.2.2.1 none :: TB) B.pre w (List.mem_cons_of_mem _ hw)
  have hown : s.vm.findClass y.cls = some m.cls := findClass_of_methodNamed B.named
  rw [hy.1.1.2] at hown
  have hlocks := B.notSynchronized
  have hin : meth.name = "<init>" := (name_of_methodNamed B.named B.method).1.trans hy.2
  have hS : va_S (va_A [(h0, .inr (ci, fs0))] s.heap.size) s.heap s.heap [] := va_S.rf
  have hl := lv_entry [Value.ref h0] (n := Y.2.2.1) hy.1.2
  rw [lg_entry_eq]
  have X : CC ((p, l, e, ({ frames := Y.2.2.2, cells := mc, slots := ms, locals := 30 * Y.2.2.2 } : Room), s, m), ([Value.ref h0].toArray, below, meth, c, 0, 0), (MQ below (va_Qv (fun (f : Nat → Nat) => f 0 = h0) (fun f t => va_P (gD G) classes (blk f) t.heap ∧ va_D (va_A [(h0, .inr (ci, fs0))] s.heap.size) (blk f)) (va_A [(h0, .inr (ci, fs0))] s.heap.size)) [Value.ref h0].toArray s mc ms (va_A [(h0, .inr (ci, fs0))] s.heap.size), va_A [(h0, .inr (ci, fs0))] s.heap.size, G)) Y :=
    ⟨B.exec, B.bytes, hml, hown, hts, hK, fun q hq => Or.inr hq, Nat.le_refl _, Nat.le_refl _⟩
  have hD : va_D (va_A [(h0, .inr (ci, fs0))] s.heap.size) [(h0, .inr (ci, fs0))] := by
    refine va_D.self (A := fun _ => True) ⟨fun i j p q hi hj _ => ?_, fun _ _ _ => trivial⟩
    have a1 : i < 1 := (List.getElem?_eq_some_iff.mp hi).1
    have a2 : j < 1 := (List.getElem?_eq_some_iff.mp hj).1
    omega
  refine h _ h0 rfl X hin rfl rfl ?_ s.heap [] _ hP hD hS hl
  intro f pc L h0f hd H locs ls hP hD hS hl
  exact W.vret B.exec B.bytes B.returns (fun t ht _ => ⟨⟨f, rfl, h0f, by rw [ht]; exact hP, hD⟩, hS.F ht⟩) hS.2.2 hd
/-- what every call of a constructor needs of the tables -/
def CFc (y : MethodName) (Y : YT) : Prop := Cond.instanceMethod y ∈ TB ∧ Cond.initialized y.cls ∈ TB ∧ Cond.code y Y.1 Y.2.2.1 none ∈ TB ∧ (y.cls ≠ "java/lang/invoke/MethodHandle" ∧ y.cls ≠ "java/lang/invoke/VarHandle" ∧ (parseMethodDescriptor y.desc).map (fun d => d.parameters.length) = some 0) ∧ y.name = "<init>"
section MakeCalls
variable {Z : ZT} {Y : YT} {n o pc : Nat} {L : List (Nat × Value)} {st : List Value}
theorem roomC (X : CC Z Y) {Y' : YT} {mc ms : Nat} (hdep : (decide (Y'.2.2.2 + 1 ≤ Y.2.2.2) && decide (Y'.2.2.1 ≤ 11)) = true) : ({ frames := Y'.2.2.2, cells := mc, slots := ms, locals := 30 * Y'.2.2.2 } : Room).frames + 1 ≤ (zR Z).frames ∧ 8 + (Y'.2.2.1 + 11) + ({ frames := Y'.2.2.2, cells := mc, slots := ms, locals := 30 * Y'.2.2.2 } : Room).locals ≤ (zR Z).locals := by
  simp only [Bool.and_eq_true, decide_eq_true_eq] at hdep
  obtain ⟨r1, r2⟩ := X.2.2.2.2.2.2.2
  show Y'.2.2.2 + 1 ≤ (zR Z).frames ∧ 8 + (Y'.2.2.1 + 11) + 30 * Y'.2.2.2 ≤ (zR Z).locals
  omega
theorem PreC_blind (G : GT) (sz : Nat) (w : va_W) (av : List Value) : FrameBlind (va_Pc av (fun U => U.heap.size = sz ∧ va_P (gD G) classes w U.heap ∧ KC G U)) := fun _ U _ _ q => ⟨q.1, q.2.1, q.2.2.1, KC.same (s := U) rfl q.2.2.2⟩
theorem C_callN (X : CC Z Y) {y : MethodName} {Y' : YT} {ci mc ms idx b : Nat} {fs0 : List Value} {blk : (Nat → Nat) → va_W} {wr : va_W} {host : String} (hM : MC (zG Z) y Y' ci fs0 mc ms blk) (hl : (Y.2.1, idx, y, host) ∈ NWs) (cf : CFc y Y') (hdep : (decide (Y'.2.2.2 + 1 ≤ Y.2.2.2) && decide (Y'.2.2.1 ≤ 11)) = true) (hst : decide ((st.map fun v => v.category).sum ≤ 8) = true) (hn : n + mc ≤ (zR Z).cells) (ho : o + ms ≤ (zR Z).slots) (hd : decode Y.1 pc = .ok (.invokespecial idx, 3)) (k : ∀ f : Nat → Nat, f 0 = b → VC Z Y (wr ++ blk f) (n + mc) (o + ms) (pc + 3) L st) : VC Z Y (wr ++ [(b, .inr (ci, fs0))]) n o pc L (.ref b :: st) := by
  intro H locs ls hP hD hS h
  obtain ⟨c1, c3, c4, c5, c6⟩ := cf
  have hts := X.2.2.2.2.1
  have hPc := hP.sub (ws' := [(b, .inr (ci, fs0))]) [wr.length] (by simp)
  have hFc := va_free (wc := [(b, .inr (ci, fs0))]) hD hS X.2.2.2.2.2.2.1 [wr.length] (mapC wr _)
  refine va_callv (va_runIN (As := []) (rest := st) ⟨X.1, X.2.1, X.2.2.1, X.2.2.2.1, hts⟩ (hM (zl Z) b H.size) ⟨va_cnB 0 hts (TB_code c4) rfl rfl rfl (X.2.2.2.2.2.1.2.1 _ hl) (hts _ c3) c5 (roomC X hdep), c6, hts _ c1⟩ ⟨PreC_blind _ _ _ _, fun U hU hW => ⟨rfl, by rw [hU], by rw [hU]; exact hPc, KC.warm hW X.2.2.2.2.2.1⟩⟩ rfl rfl h.1 rfl (lv_room (of_decide_eq_true hst)) hd ⟨hn, ho⟩) hS (fun q _ hq => hFc q hq) hFc (fun f t H1 locs1 ht hvm hw hB _ hk1 hS1 => ?_)
  obtain ⟨hP1, hD1⟩ := hB
  rw [ht] at hP1
  obtain ⟨hP2, hD2⟩ := join_app hP hD hk1 hFc hP1 hD1
  exact k f hw H1 locs1 ls hP2 hD2 hS1 h
theorem C_call (X : CC Z Y) {y : MethodName} {Y' : YT} {ci mc ms idx b : Nat} {fs0 : List Value} {blk : (Nat → Nat) → va_W} {wr : va_W} (hM : MC (zG Z) y Y' ci fs0 mc ms blk) (hl : Cond.methodLink Y.2.1 idx y ∈ TB) (cf : CFc y Y') (hdep : (decide (Y'.2.2.2 + 1 ≤ Y.2.2.2) && decide (Y'.2.2.1 ≤ 11)) = true) (hst : decide ((st.map fun v => v.category).sum ≤ 8) = true) (hn : n + mc ≤ (zR Z).cells) (ho : o + ms ≤ (zR Z).slots) (hd : decode Y.1 pc = .ok (.invokespecial idx, 3)) (k : ∀ f : Nat → Nat, f 0 = b → VC Z Y (wr ++ blk f) (n + mc) (o + ms) (pc + 3) L st) : VC Z Y (wr ++ [(b, .inr (ci, fs0))]) n o pc L (.ref b :: st) := by
  intro H locs ls hP hD hS h
  obtain ⟨c1, c3, c4, c5, c6⟩ := cf
  have hts := X.2.2.2.2.1
  have hPc := hP.sub (ws' := [(b, .inr (ci, fs0))]) [wr.length] (by simp)
  have hFc := va_free (wc := [(b, .inr (ci, fs0))]) hD hS X.2.2.2.2.2.2.1 [wr.length] (mapC wr _)
  refine va_callv (va_runI (As := []) (rest := st) ⟨X.1, X.2.1, X.2.2.1, X.2.2.2.1, hts⟩ (hM (zl Z) b H.size) ⟨callB_of 0 hts (TB_code c4) rfl rfl rfl (hts _ c3) (hts _ hl) c5 (roomC X hdep), c6, hts _ c1⟩ ⟨PreC_blind _ _ _ _, fun U hU hW => ⟨rfl, by rw [hU], by rw [hU]; exact hPc, KC.warm hW X.2.2.2.2.2.1⟩⟩ rfl rfl h.1 rfl (lv_room (of_decide_eq_true hst)) hd ⟨hn, ho⟩) hS (fun q _ hq => hFc q hq) hFc (fun f t H1 locs1 ht hvm hw hB _ hk1 hS1 => ?_)
  obtain ⟨hP1, hD1⟩ := hB
  rw [ht] at hP1
  obtain ⟨hP2, hD2⟩ := join_app hP hD hk1 hFc hP1 hD1
  exact k f hw H1 locs1 ls hP2 hD2 hS1 h
end MakeCalls
/-! Standings in a row: the list of their cells; the row of their addresses. -/
def b_St (G : GT) (f : Nat → Nat) : va_W := [(f 0, .inr (5, [.ref (f 1), .ref (f 2), .int 0])), (f 1, .inl (G.2.2.1, 5, .inl (fun _ => 0))), (f 2, .inl (G.2.2.1, 25, .inl (fun _ => 0)))]
def SB (G : GT) (f : Nat → Nat) : Nat → va_W
  | 0 => []
  | i + 1 => SB G f i ++ b_St G (fun j => f (3 * i + j))
def RL (f : Nat → Nat) : Nat → List Nat
  | 0 => []
  | i + 1 => RL f i ++ [f (3 * i)]
def rgE (G : GT) (N : Nat) (l : List Nat) : va_E := .inl (G.2.2.2.2, N, .inr (.inr (.inr (.inr (fun j => l[j]?)))))
theorem SB_cong {G : GT} {f g : Nat → Nat} : ∀ i, (∀ k, k < 3 * i → f k = g k) → SB G f i = SB G g i
  | 0, _ => rfl
  | i + 1, h => by
    unfold SB
    rw [SB_cong i (fun k hk => h k (by omega))]
    unfold b_St
    dsimp only
    rw [h (3 * i + 0) (by omega), h (3 * i + 1) (by omega), h (3 * i + 2) (by omega)]
theorem RL_cong {f g : Nat → Nat} : ∀ i, (∀ k, k < 3 * i → f k = g k) → RL f i = RL g i
  | 0, _ => rfl
  | i + 1, h => by
    unfold RL
    rw [RL_cong i (fun k hk => h k (by omega)), h (3 * i) (by omega)]
theorem RL_len (f : Nat → Nat) : ∀ i, (RL f i).length = i
  | 0 => rfl
  | i + 1 => by unfold RL; rw [List.length_append, RL_len f i]; rfl
theorem RL_at (f : Nat → Nat) : ∀ i j, j < i → (RL f i)[j]? = some (f (3 * j))
  | 0, j, h => by omega
  | i + 1, j, h => by
    unfold RL
    by_cases q : j < i
    · rw [List.getElem?_append_left (by rw [RL_len]; exact q)]
      exact RL_at f i j q
    · have e : j = i := by omega
      subst e
      rw [List.getElem?_append_right (by rw [RL_len]; exact Nat.le_refl _), RL_len, Nat.sub_self]
      rfl
theorem up_RL (l : List Nat) (v : Nat) : va_up (fun j => l[j]?) l.length (some v) = fun j => (l ++ [v])[j]? := by
  funext j
  unfold va_up
  by_cases h : j = l.length
  · rw [if_pos h, h, List.getElem?_append_right (Nat.le_refl _), Nat.sub_self]
    rfl
  · rw [if_neg h]
    show l[j]? = _
    by_cases q : j < l.length
    · rw [List.getElem?_append_left q]
    · have h1 : (l ++ [v]).length ≤ j := by
        rw [List.length_append]
        show l.length + 1 ≤ j
        omega
      rw [List.getElem?_eq_none (l := l) (by omega), List.getElem?_eq_none h1]
theorem at_ring (x A : Nat × va_E) (tl M : va_W) : (x :: ((tl ++ [A]) ++ M))[tl.length + 1]? = some A := by
  rw [List.getElem?_cons_succ, List.append_assoc, List.getElem?_append_right (Nat.le_refl _), Nat.sub_self]
  rfl
theorem at_obj (x A B : Nat × va_E) (tl mid w : va_W) : (x :: ((tl ++ [A]) ++ (mid ++ B :: w)))[tl.length + 1 + mid.length + 1]? = some B := by
  rw [List.getElem?_cons_succ, List.getElem?_append_right (by rw [List.length_append]; show tl.length + 1 ≤ _; omega), List.length_append, show tl.length + 1 + mid.length - (tl.length + [A].length) = mid.length by show tl.length + 1 + mid.length - (tl.length + 1) = mid.length; omega, List.getElem?_append_right (Nat.le_refl _), Nat.sub_self]
  rfl
theorem set_ring (x A B : Nat × va_E) (tl M : va_W) : (x :: ((tl ++ [A]) ++ M)).set (tl.length + 1) B = x :: ((tl ++ [B]) ++ M) := by
  rw [List.set_cons_succ, List.append_assoc, List.set_append_right _ _ (Nat.le_refl _), Nat.sub_self, List.append_assoc]
  rfl
theorem C_ast {Z : ZT} {Y : YT} {n o pc : Nat} {L : List (Nat × Value)} {st : List Value} (X : CC Z Y) {x : Nat × va_E} {tl mid w : va_W} {a N v : Nat} {l : List Nat} {vs : List Value} {i : Int32} (hl : i.toNatClampNeg = l.length) (hi : inb i N = true) (hd : decode Y.1 pc = .ok (.aastore, 1)) (k : VC Z Y (x :: ((tl ++ [(a, rgE (zG Z) N (l ++ [v]))]) ++ (mid ++ (v, .inr (5, vs)) :: w))) n o (pc + 1) L st) : VC Z Y (x :: ((tl ++ [(a, rgE (zG Z) N l)]) ++ (mid ++ (v, .inr (5, vs)) :: w))) n o pc L (.ref v :: .int i :: .ref a :: st) := by
  refine C_astq X (tl.length + 1) (tl.length + 1 + mid.length + 1) (at_ring _ _ _ _) (at_obj _ _ _ _ _ _) hi hd ?_
  rw [hl, up_RL, set_ring]
  exact k
