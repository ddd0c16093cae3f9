/-! A heap as a function (cell, place) -> int; the world that it says; V: the machine at a place of a method's code comes to its end. -/
abbrev HP : Type := Nat → Nat → Int32
def setc (hp : HP) (k : Nat) (f : Nat → Int32) : HP := fun q => if q = k then f else hp q
def up (hp : HP) (k j : Nat) (v : Int32) : HP := setc hp k (upd (hp k) j v)
def sh (k : Nat) : Nat × Nat := shL.getD k (99, 0)
def fk (ci j : Nat) : Nat × Nat := (fkL.getD ci []).getD j (9, 0)
def nf (ci : Nat) : Nat := (fkL.getD ci []).length
def rb (k : Nat) : Nat := k + 1
abbrev GT : Type := va_G × (Nat → Nat) × (ClassId × ClassId × ClassId)
abbrev gD (G : GT) : va_G := G.1
abbrev gA (G : GT) : Nat → Nat := G.2.1
def fv (ad : Nat → Nat) (hp : HP) (k : Nat) (t : Nat × Nat) (j : Nat) : Value := match t.1 with
  | 0 => .int (hp k j)
  | 1 => .ref (ad (k + t.2))
  | _ => .ref (ad (hp k j).toNatClampNeg)
def flds (ad : Nat → Nat) (hp : HP) (k ci : Nat) : List Value := (List.range (nf ci)).map (fun j => fv ad hp k (fk ci j) j)
def ent (G : GT) (hp : HP) (k : Nat) : va_E := match (sh k).1 with
  | 20 => .inl (G.2.2.1, (sh k).2, .inl (hp k))
  | 21 => .inl (G.2.2.2.1, (sh k).2, .inl (hp k))
  | 22 => .inl (G.2.2.2.2, (sh k).2, .inr (.inr (.inr (.inr (fun j => some (gA G (rb k + 3 * j)))))))
  | ci => .inr (ci, flds (gA G) hp k ci)
def wsO (G : GT) (hp : HP) : va_W := (List.range NC).map (fun k => (gA G k, ent G hp k))
def tysO (G : GT) : List (ClassId × FieldType) := [(G.2.2.1, .int), (G.2.2.2.1, .boolean), (G.2.2.2.2, .object "BodyAccounts$Standing")]
def GI (G : GT) : Prop := ∀ i j, i < NC → j < NC → gA G i = gA G j → i = j
def KK (G : GT) (U : State) : Prop := va_K (gD G) classes (tysO G) U ∧ (∀ q ∈ NWs, va_Nw (.methodLinkNest q.1 q.2.1 q.2.2.1 q.2.2.2) U) ∧ GI G
def AA (G : GT) : Nat → Prop := fun q => ∃ k, k < NC ∧ q = gA G k
theorem KK.warm {G : GT} {s U : State} (hW : s.WarmedH U.vm) (h : KK G s) : KK G U := ⟨va_K.moved hW.alike h.1, fun q hq => va_Nw.warmM hW (h.2.1 q hq), h.2.2⟩
theorem KK.same {G : GT} {s U : State} (hv : s.vm = U.vm) (h : KK G s) : KK G U := ⟨va_K.moved (by rw [hv]; exact Vm.Alike.refl U.vm) h.1, fun q hq => va_Nw.same rfl hv (h.2.1 q hq), h.2.2⟩
theorem wsO_at (G : GT) (hp : HP) {k : Nat} (h : k < NC) : (wsO G hp)[k]? = some (gA G k, ent G hp k) := by
  simp [wsO, List.getElem?_map, List.getElem?_range h]
theorem wsO_len (G : GT) (hp : HP) : (wsO G hp).length = NC := by simp [wsO]
theorem wsO_D (G : GT) (hp : HP) (h : GI G) {A : Nat → Prop} (hA : ∀ k, k < NC → A (gA G k)) : va_D A (wsO G hp) := by
  have key : ∀ (k : Nat) (q : Nat × va_E), (wsO G hp)[k]? = some q → k < NC ∧ q.1 = gA G k := by
    intro k q hk
    have hl : k < NC := by
      have := (List.getElem?_eq_some_iff.mp hk).1
      rwa [wsO_len] at this
    rw [wsO_at G hp hl] at hk
    cases hk
    exact ⟨hl, rfl⟩
  refine ⟨fun i j p q hi hj hpq => ?_, fun k q hk => ?_⟩
  · obtain ⟨a1, a2⟩ := key i p hi
    obtain ⟨b1, b2⟩ := key j q hj
    exact h i j a1 b1 (by rw [← a2, ← b2, hpq])
  · obtain ⟨a1, a2⟩ := key k q hk
    rw [a2]
    exact hA k a1
theorem wsO_set (G : GT) (hp : HP) {k : Nat} (f : Nat → Int32) (h : k < NC) : (wsO G hp).set k (gA G k, ent G (setc hp k f) k) = wsO G (setc hp k f) := by
  apply List.ext_getElem?
  intro i
  rw [List.getElem?_set]
  by_cases hi : k = i
  · subst hi
    rw [if_pos rfl, if_pos (by rw [wsO_len]; exact h), wsO_at G _ h]
  · rw [if_neg hi]
    by_cases hl : i < NC
    · rw [wsO_at G _ hl, wsO_at G _ hl]
      have : setc hp k f i = hp i := by unfold setc; rw [if_neg (Ne.symm hi)]
      simp only [ent, flds, fv, this]
    · rw [List.getElem?_eq_none (by rw [wsO_len]; omega), List.getElem?_eq_none (by rw [wsO_len]; omega)]
theorem setc_at (hp : HP) (k : Nat) (f : Nat → Int32) : setc hp k f k = f := by unfold setc; rw [if_pos rfl]
theorem ent_i (G : GT) (hp : HP) {k n : Nat} (h : sh k = (20, n)) : ent G hp k = .inl (G.2.2.1, n, .inl (hp k)) := by unfold ent; rw [h]; rfl
theorem ent_z (G : GT) (hp : HP) {k n : Nat} (h : sh k = (21, n)) : ent G hp k = .inl (G.2.2.2.1, n, .inl (hp k)) := by unfold ent; rw [h]; rfl
theorem ent_q (G : GT) (hp : HP) {k n : Nat} (h : sh k = (22, n)) : ent G hp k = .inl (G.2.2.2.2, n, .inr (.inr (.inr (.inr (fun j => some (gA G (rb k + 3 * j))))))) := by unfold ent; rw [h]; rfl
theorem ent_o (G : GT) (hp : HP) {k ci : Nat} (hc : ci < 20) (h : sh k = (ci, 0)) : ent G hp k = .inr (ci, flds (gA G) hp k ci) := by
  unfold ent
  rw [h]
  match ci, hc with
  | 0, _ | 1, _ | 2, _ | 3, _ | 4, _ | 5, _ | 6, _ | 7, _ | 8, _ | 9, _ | 10, _ | 11, _ | 12, _ | 13, _ | 14, _ | 15, _ | 16, _ | 17, _ | 18, _ | 19, _ => rfl
  | n + 20, h => exact absurd h (by omega)
theorem flds_at (ad : Nat → Nat) (hp : HP) (k : Nat) {ci j : Nat} (h : j < nf ci) : (flds ad hp k ci)[j]? = some (fv ad hp k (fk ci j) j) := by
  simp [flds, List.getElem?_map, List.getElem?_range h]
theorem flds_len (ad : Nat → Nat) (hp : HP) (k ci : Nat) : (flds ad hp k ci).length = nf ci := by simp [flds]
theorem flds_set (ad : Nat → Nat) (hp : HP) (k : Nat) {ci j : Nat} (v : Int32) (h : j < nf ci) : (flds ad hp k ci).set j (fv ad (up hp k j v) k (fk ci j) j) = flds ad (up hp k j v) k ci := by
  apply List.ext_getElem?
  intro i
  rw [List.getElem?_set]
  by_cases hi : j = i
  · subst hi
    rw [if_pos rfl, if_pos (by rw [flds_len]; exact h), flds_at _ _ _ h]
  · rw [if_neg hi]
    by_cases hl : i < nf ci
    · rw [flds_at _ _ _ hl, flds_at _ _ _ hl]
      have : up hp k j v k i = hp k i := by unfold up; rw [setc_at]; unfold upd; rw [if_neg (Ne.symm hi)]
      simp only [fv, this]
    · rw [List.getElem?_eq_none (by rw [flds_len]; omega), List.getElem?_eq_none (by rw [flds_len]; omega)]
abbrev ZT : Type := (Program × Launch × Env × Room × State × MethodId) × (Array Value × List Frame × Method × Code × Nat × Nat) × ((State → Prop) × (Nat → Prop) × GT)
abbrev zp (Z : ZT) := Z.1.1
abbrev zl (Z : ZT) := Z.1.2.1
abbrev ze (Z : ZT) := Z.1.2.2.1
abbrev zR (Z : ZT) := Z.1.2.2.2.1
abbrev zs (Z : ZT) := Z.1.2.2.2.2.1
abbrev zm (Z : ZT) := Z.1.2.2.2.2.2
abbrev za (Z : ZT) := Z.2.1.1
abbrev zb (Z : ZT) := Z.2.1.2.1
abbrev zt (Z : ZT) := Z.2.1.2.2.1
abbrev zc (Z : ZT) := Z.2.1.2.2.2.1
abbrev zn (Z : ZT) := Z.2.1.2.2.2.2.1
abbrev zo (Z : ZT) := Z.2.1.2.2.2.2.2
abbrev zQ (Z : ZT) := Z.2.2.1
abbrev zA (Z : ZT) := Z.2.2.2.1
abbrev zG (Z : ZT) := Z.2.2.2.2
/-- a method: its bytes, its class, its locals, how many calls deep it goes -/
abbrev YT : Type := ByteArray × String × Nat × Nat
def rmd (d : Nat) : Room := { frames := d, cells := 0, slots := 0, locals := 30 * d }
def CX (Z : ZT) (Y : YT) : Prop := (zp Z).tables.exec = Jvm.exec ∧ (zc Z).code = Y.1 ∧ (zc Z).maxLocals = Y.2.2.1 ∧ (zs Z).vm.findClass Y.2.1 = some (zm Z).cls ∧ (∀ w ∈ TB, w.before (za Z) (zs Z) = true) ∧ KK (zG Z) (zs Z) ∧ (∀ k, k < NC → zA Z (gA (zG Z) k)) ∧ (Y.2.2.2 ≤ (zR Z).frames ∧ 30 * Y.2.2.2 ≤ (zR Z).locals ∧ zn Z ≤ (zR Z).cells ∧ zo Z ≤ (zR Z).slots)
def V (Z : ZT) (Y : YT) (hp : HP) (pc : Nat) (L : List (Nat × Value)) (st : List Value) : Prop :=
  ∀ (H : Heap) (locs : List Loc) (ls : Array Slot), va_P (gD (zG Z)) classes (wsO (zG Z) hp) H → va_S (zA Z) (zs Z).heap H locs → lv_has ls Y.2.2.1 L → W (zp Z) (zl Z) (ze Z) (zR Z) (zs Z) (zm Z) (za Z) (zb Z) (zt Z) (zc Z) H locs (zn Z) (zo Z) (zQ Z) (F0 (zm Z) pc ls st)
section Rows
variable {Z : ZT} {Y : YT} {hp : HP} {pc : Nat} {L : List (Nat × Value)} {st : List Value}
theorem CX.D (X : CX Z Y) (hp : HP) : va_D (zA Z) (wsO (zG Z) hp) := wsO_D _ hp X.2.2.2.2.2.1.2.2 X.2.2.2.2.2.2.1
theorem R_loc {L' : List (Nat × Value)} (ks : List Nat) (hl : lv_pick L ks = L') (k : V Z Y hp pc L' st) : V Z Y hp pc L st := fun H locs ls hP hS h => k H locs ls hP hS (lv_sub h ks hl)
theorem R_iconst (X : CX Z Y) {n : Int} {v : Int32} (hd : decode Y.1 pc = .ok (.iconst n, 1)) (hv : Int32.ofInt n = v) (k : V Z Y hp (pc + 1) L (.int v :: st)) : V Z Y hp pc L st := fun H locs ls hP hS h => lv_iconst X.1 X.2.1 hd hv (k H locs ls hP hS h)
theorem R_bipush (X : CX Z Y) {n : Int} {v : Int32} (hd : decode Y.1 pc = .ok (.bipush n, 2)) (hv : (Int8.ofInt n).toInt32 = v) (k : V Z Y hp (pc + 2) L (.int v :: st)) : V Z Y hp pc L st := fun H locs ls hP hS h => lv_bipush X.1 X.2.1 hd hv (k H locs ls hP hS h)
theorem R_sipush (X : CX Z Y) {n : Int} {v : Int32} (hd : decode Y.1 pc = .ok (.sipush n, 3)) (hv : (Int16.ofInt n).toInt32 = v) (k : V Z Y hp (pc + 3) L (.int v :: st)) : V Z Y hp pc L st := fun H locs ls hP hS h => lv_sipush X.1 X.2.1 hd hv (k H locs ls hP hS h)
theorem R_lconst (X : CX Z Y) {n : Fin 2} {v : Int64} (hd : decode Y.1 pc = .ok (.lconst n, 1)) (hv : Int64.ofNat (n : Nat) = v) (k : V Z Y hp (pc + 1) L (.long v :: st)) : V Z Y hp pc L st := fun H locs ls hP hS h => lv_lconst X.1 X.2.1 hd hv (k H locs ls hP hS h)
theorem R_ldc (X : CX Z Y) {i : Nat} {v : Int32} (hw : Cond.constant Y.2.1 i v ∈ TB) (hd : decode Y.1 pc = .ok (.ldc i, 2)) (k : V Z Y hp (pc + 2) L (.int v :: st)) : V Z Y hp pc L st := fun H locs ls hP hS h => lv_ldc X.1 X.2.1 X.2.2.2.1 (X.2.2.2.2.1 _ hw) hd (k H locs ls hP hS h)
theorem R_ldc2 (X : CX Z Y) {i : Nat} {v : Int64} (hw : Cond.constantLong Y.2.1 i v ∈ TB) (hd : decode Y.1 pc = .ok (.ldc2_w i, 3)) (k : V Z Y hp (pc + 3) L (.long v :: st)) : V Z Y hp pc L st := fun H locs ls hP hS h => lv_ldc2 X.1 X.2.1 X.2.2.2.1 (X.2.2.2.2.1 _ hw) hd (k H locs ls hP hS h)
theorem R_iload_n (X : CX Z Y) (q : Nat) {n : Fin 4} {x : Int32} (hd : decode Y.1 pc = .ok (.iload_n n, 1)) (hq : L[q]? = some ((n : Nat), .int x)) (k : V Z Y hp (pc + 1) L (.int x :: st)) : V Z Y hp pc L st := fun H locs ls hP hS h => lv_iload_n X.1 X.2.1 hd rfl (lv_at h q hq) (k H locs ls hP hS h)
theorem R_iload (X : CX Z Y) (q : Nat) {n : Nat} {x : Int32} (hd : decode Y.1 pc = .ok (.iload n, 2)) (hq : L[q]? = some (n, .int x)) (k : V Z Y hp (pc + 2) L (.int x :: st)) : V Z Y hp pc L st := fun H locs ls hP hS h => lv_iload X.1 X.2.1 hd (lv_at h q hq) (k H locs ls hP hS h)
theorem R_lload_n (X : CX Z Y) (q : Nat) {n : Fin 4} {x : Int64} (hd : decode Y.1 pc = .ok (.lload_n n, 1)) (hq : L[q]? = some ((n : Nat), .long x)) (k : V Z Y hp (pc + 1) L (.long x :: st)) : V Z Y hp pc L st := fun H locs ls hP hS h => lv_lload_n X.1 X.2.1 hd rfl (lv_at h q hq) (k H locs ls hP hS h)
theorem R_lload (X : CX Z Y) (q : Nat) {n : Nat} {x : Int64} (hd : decode Y.1 pc = .ok (.lload n, 2)) (hq : L[q]? = some (n, .long x)) (k : V Z Y hp (pc + 2) L (.long x :: st)) : V Z Y hp pc L st := fun H locs ls hP hS h => lv_lload X.1 X.2.1 hd (lv_at h q hq) (k H locs ls hP hS h)
theorem R_aload_n (X : CX Z Y) (q : Nat) {n : Fin 4} {x : Nat} (hd : decode Y.1 pc = .ok (.aload_n n, 1)) (hq : L[q]? = some ((n : Nat), .ref x)) (k : V Z Y hp (pc + 1) L (.ref x :: st)) : V Z Y hp pc L st := fun H locs ls hP hS h => lv_aload_n X.1 X.2.1 hd rfl (lv_at h q hq) (k H locs ls hP hS h)
theorem R_istore_n (X : CX Z Y) {n : Fin 4} {x : Int32} {L' : List (Nat × Value)} (hd : decode Y.1 pc = .ok (.istore_n n, 1)) (hn : (n : Nat) < Y.2.2.1) (hl : ((n : Nat), Value.int x) :: L.filter (fun q => !(q.1 == (n : Nat)) && !(q.1 + 1 == (n : Nat) && q.2.category == 2)) = L') (k : V Z Y hp (pc + 1) L' st) : V Z Y hp pc L (.int x :: st) := fun H locs ls hP hS h => lv_istore_n X.1 X.2.1 hd rfl h hn hl (fun ls' h' => k H locs ls' hP hS h')
theorem R_istore (X : CX Z Y) {n : Nat} {x : Int32} {L' : List (Nat × Value)} (hd : decode Y.1 pc = .ok (.istore n, 2)) (hn : n < Y.2.2.1) (hl : (n, Value.int x) :: L.filter (fun q => !(q.1 == n) && !(q.1 + 1 == n && q.2.category == 2)) = L') (k : V Z Y hp (pc + 2) L' st) : V Z Y hp pc L (.int x :: st) := fun H locs ls hP hS h => lv_istore X.1 X.2.1 hd h hn hl (fun ls' h' => k H locs ls' hP hS h')
theorem R_lstore_n (X : CX Z Y) {n : Fin 4} {x : Int64} {L' : List (Nat × Value)} (hd : decode Y.1 pc = .ok (.lstore_n n, 1)) (hn : (n : Nat) + 1 < Y.2.2.1) (hl : ((n : Nat), Value.long x) :: L.filter (fun q => !(q.1 == (n : Nat)) && (!(q.1 == (n : Nat) + 1) && !(q.1 + 1 == (n : Nat) && q.2.category == 2))) = L') (k : V Z Y hp (pc + 1) L' st) : V Z Y hp pc L (.long x :: st) := fun H locs ls hP hS h => lv_lstore_n X.1 X.2.1 hd rfl h hn hl (fun ls' h' => k H locs ls' hP hS h')
theorem R_astore_n (X : CX Z Y) {n : Fin 4} {x : Nat} {L' : List (Nat × Value)} (hd : decode Y.1 pc = .ok (.astore_n n, 1)) (hn : (n : Nat) < Y.2.2.1) (hl : ((n : Nat), Value.ref x) :: L.filter (fun q => !(q.1 == (n : Nat)) && !(q.1 + 1 == (n : Nat) && q.2.category == 2)) = L') (k : V Z Y hp (pc + 1) L' st) : V Z Y hp pc L (.ref x :: st) := fun H locs ls hP hS h => lv_astore_n X.1 X.2.1 hd rfl h hn hl (fun ls' h' => k H locs ls' hP hS h')
theorem R_iinc (X : CX Z Y) (q : Nat) {i : Nat} {n : Int} {x v : Int32} {L' : List (Nat × Value)} (hd : decode Y.1 pc = .ok (.iinc i n, 3)) (hq : L[q]? = some (i, .int x)) (hv : x + Int32.ofInt n = v) (hn : i < Y.2.2.1) (hl : (i, Value.int v) :: L.filter (fun q => !(q.1 == i) && !(q.1 + 1 == i && q.2.category == 2)) = L') (k : V Z Y hp (pc + 3) L' st) : V Z Y hp pc L st := fun H locs ls hP hS h => lv_iinc X.1 X.2.1 hd h hq hv hn hl (fun ls' h' => k H locs ls' hP hS h')
theorem R_iadd (X : CX Z Y) {x y : Int32} (hd : decode Y.1 pc = .ok (.iadd, 1)) (k : V Z Y hp (pc + 1) L (.int (x + y) :: st)) : V Z Y hp pc L (.int y :: .int x :: st) := fun H locs ls hP hS h => lv_iadd X.1 X.2.1 hd (k H locs ls hP hS h)
theorem R_isub (X : CX Z Y) {x y : Int32} (hd : decode Y.1 pc = .ok (.isub, 1)) (k : V Z Y hp (pc + 1) L (.int (x - y) :: st)) : V Z Y hp pc L (.int y :: .int x :: st) := fun H locs ls hP hS h => lv_isub X.1 X.2.1 hd (k H locs ls hP hS h)
theorem R_imul (X : CX Z Y) {x y : Int32} (hd : decode Y.1 pc = .ok (.imul, 1)) (k : V Z Y hp (pc + 1) L (.int (x * y) :: st)) : V Z Y hp pc L (.int y :: .int x :: st) := fun H locs ls hP hS h => lv_imul X.1 X.2.1 hd (k H locs ls hP hS h)
theorem R_iand (X : CX Z Y) {x y : Int32} (hd : decode Y.1 pc = .ok (.iand, 1)) (k : V Z Y hp (pc + 1) L (.int (x &&& y) :: st)) : V Z Y hp pc L (.int y :: .int x :: st) := fun H locs ls hP hS h => lv_iand X.1 X.2.1 hd (k H locs ls hP hS h)
theorem R_ior (X : CX Z Y) {x y : Int32} (hd : decode Y.1 pc = .ok (.ior, 1)) (k : V Z Y hp (pc + 1) L (.int (x ||| y) :: st)) : V Z Y hp pc L (.int y :: .int x :: st) := fun H locs ls hP hS h => lv_ior X.1 X.2.1 hd (k H locs ls hP hS h)
theorem R_ixor (X : CX Z Y) {x y : Int32} (hd : decode Y.1 pc = .ok (.ixor, 1)) (k : V Z Y hp (pc + 1) L (.int (x ^^^ y) :: st)) : V Z Y hp pc L (.int y :: .int x :: st) := fun H locs ls hP hS h => lv_ixor X.1 X.2.1 hd (k H locs ls hP hS h)
theorem R_ishl (X : CX Z Y) {x y : Int32} (hd : decode Y.1 pc = .ok (.ishl, 1)) (k : V Z Y hp (pc + 1) L (.int (x <<< (y &&& 31)) :: st)) : V Z Y hp pc L (.int y :: .int x :: st) := fun H locs ls hP hS h => lv_ishl X.1 X.2.1 hd (k H locs ls hP hS h)
theorem R_ishr (X : CX Z Y) {x y : Int32} (hd : decode Y.1 pc = .ok (.ishr, 1)) (k : V Z Y hp (pc + 1) L (.int (x >>> (y &&& 31)) :: st)) : V Z Y hp pc L (.int y :: .int x :: st) := fun H locs ls hP hS h => lv_ishr X.1 X.2.1 hd (k H locs ls hP hS h)
theorem R_ineg (X : CX Z Y) {x : Int32} (hd : decode Y.1 pc = .ok (.ineg, 1)) (k : V Z Y hp (pc + 1) L (.int (-x) :: st)) : V Z Y hp pc L (.int x :: st) := fun H locs ls hP hS h => lv_ineg X.1 X.2.1 hd (k H locs ls hP hS h)
theorem R_idiv (X : CX Z Y) {x y : Int32} (hd : decode Y.1 pc = .ok (.idiv, 1)) (hne : ¬ y = 0) (k : V Z Y hp (pc + 1) L (.int (x / y) :: st)) : V Z Y hp pc L (.int y :: .int x :: st) := fun H locs ls hP hS h => lv_idiv X.1 X.2.1 hd hne (k H locs ls hP hS h)
theorem R_irem (X : CX Z Y) {x y : Int32} (hd : decode Y.1 pc = .ok (.irem, 1)) (hne : ¬ y = 0) (k : V Z Y hp (pc + 1) L (.int (x - x / y * y) :: st)) : V Z Y hp pc L (.int y :: .int x :: st) := fun H locs ls hP hS h => lv_irem X.1 X.2.1 hd hne (k H locs ls hP hS h)
theorem R_ladd (X : CX Z Y) {x y : Int64} (hd : decode Y.1 pc = .ok (.ladd, 1)) (k : V Z Y hp (pc + 1) L (.long (x + y) :: st)) : V Z Y hp pc L (.long y :: .long x :: st) := fun H locs ls hP hS h => lv_ladd X.1 X.2.1 hd (k H locs ls hP hS h)
theorem R_lmul (X : CX Z Y) {x y : Int64} (hd : decode Y.1 pc = .ok (.lmul, 1)) (k : V Z Y hp (pc + 1) L (.long (x * y) :: st)) : V Z Y hp pc L (.long y :: .long x :: st) := fun H locs ls hP hS h => lv_lmul X.1 X.2.1 hd (k H locs ls hP hS h)
theorem R_land (X : CX Z Y) {x y : Int64} (hd : decode Y.1 pc = .ok (.land, 1)) (k : V Z Y hp (pc + 1) L (.long (x &&& y) :: st)) : V Z Y hp pc L (.long y :: .long x :: st) := fun H locs ls hP hS h => lv_land X.1 X.2.1 hd (k H locs ls hP hS h)
theorem R_ldiv (X : CX Z Y) {x y : Int64} (hd : decode Y.1 pc = .ok (.ldiv, 1)) (hne : ¬ y = 0) (k : V Z Y hp (pc + 1) L (.long (x / y) :: st)) : V Z Y hp pc L (.long y :: .long x :: st) := fun H locs ls hP hS h => lv_ldiv X.1 X.2.1 hd hne (k H locs ls hP hS h)
theorem R_lrem (X : CX Z Y) {x y : Int64} (hd : decode Y.1 pc = .ok (.lrem, 1)) (hne : ¬ y = 0) (k : V Z Y hp (pc + 1) L (.long (x - x / y * y) :: st)) : V Z Y hp pc L (.long y :: .long x :: st) := fun H locs ls hP hS h => lv_lrem X.1 X.2.1 hd hne (k H locs ls hP hS h)
theorem R_lcmp (X : CX Z Y) {x y : Int64} (hd : decode Y.1 pc = .ok (.lcmp, 1)) (k : V Z Y hp (pc + 1) L (.int (lg_cmp x y) :: st)) : V Z Y hp pc L (.long y :: .long x :: st) := fun H locs ls hP hS h => W.lcmp X.1 X.2.1 hd (k H locs ls hP hS h)
theorem R_i2l (X : CX Z Y) {x : Int32} (hd : decode Y.1 pc = .ok (.i2l, 1)) (k : V Z Y hp (pc + 1) L (.long x.toInt64 :: st)) : V Z Y hp pc L (.int x :: st) := fun H locs ls hP hS h => lv_i2l X.1 X.2.1 hd rfl (k H locs ls hP hS h)
theorem R_l2i (X : CX Z Y) {x : Int64} (hd : decode Y.1 pc = .ok (.l2i, 1)) (k : V Z Y hp (pc + 1) L (.int x.toInt32 :: st)) : V Z Y hp pc L (.long x :: st) := fun H locs ls hP hS h => lv_l2i X.1 X.2.1 hd rfl (k H locs ls hP hS h)
theorem R_dup (X : CX Z Y) {v : Value} (hd : decode Y.1 pc = .ok (.dup, 1)) (hv : v.category = 1) (k : V Z Y hp (pc + 1) L (v :: v :: st)) : V Z Y hp pc L (v :: st) := fun H locs ls hP hS h => lv_dup X.1 X.2.1 hd hv (k H locs ls hP hS h)
theorem R_goto (X : CX Z Y) {off : Int} {tgt : Nat} (hd : decode Y.1 pc = .ok (.goto off, 3)) (ht : (pc : Int) + off = (tgt : Int)) (k : V Z Y hp tgt L st) : V Z Y hp pc L st := fun H locs ls hP hS h => lv_goto X.1 X.2.1 hd ht (k H locs ls hP hS h)
theorem R_ifeq (X : CX Z Y) {x : Int32} {off : Int} {tgt : Nat} (hd : decode Y.1 pc = .ok (.ifCond .eq off, 3)) (ht : (pc : Int) + off = (tgt : Int)) (kt : x = 0 → V Z Y hp tgt L st) (kf : ¬ x = 0 → V Z Y hp (pc + 3) L st) : V Z Y hp pc L (.int x :: st) := fun H locs ls hP hS h => lv_if_eq X.1 X.2.1 hd ht (fun c => kt c H locs ls hP hS h) (fun c => kf c H locs ls hP hS h)
theorem R_ifne (X : CX Z Y) {x : Int32} {off : Int} {tgt : Nat} (hd : decode Y.1 pc = .ok (.ifCond .ne off, 3)) (ht : (pc : Int) + off = (tgt : Int)) (kt : ¬ x = 0 → V Z Y hp tgt L st) (kf : x = 0 → V Z Y hp (pc + 3) L st) : V Z Y hp pc L (.int x :: st) := fun H locs ls hP hS h => lv_if_ne X.1 X.2.1 hd ht (fun c => kt c H locs ls hP hS h) (fun c => kf c H locs ls hP hS h)
theorem R_iflt (X : CX Z Y) {x : Int32} {off : Int} {tgt : Nat} (hd : decode Y.1 pc = .ok (.ifCond .lt off, 3)) (ht : (pc : Int) + off = (tgt : Int)) (kt : x < 0 → V Z Y hp tgt L st) (kf : ¬ x < 0 → V Z Y hp (pc + 3) L st) : V Z Y hp pc L (.int x :: st) := fun H locs ls hP hS h => lv_if_lt X.1 X.2.1 hd ht (fun c => kt c H locs ls hP hS h) (fun c => kf c H locs ls hP hS h)
theorem R_ifge (X : CX Z Y) {x : Int32} {off : Int} {tgt : Nat} (hd : decode Y.1 pc = .ok (.ifCond .ge off, 3)) (ht : (pc : Int) + off = (tgt : Int)) (kt : 0 ≤ x → V Z Y hp tgt L st) (kf : ¬ 0 ≤ x → V Z Y hp (pc + 3) L st) : V Z Y hp pc L (.int x :: st) := fun H locs ls hP hS h => lv_if_ge X.1 X.2.1 hd ht (fun c => kt c H locs ls hP hS h) (fun c => kf c H locs ls hP hS h)
theorem R_ifgt (X : CX Z Y) {x : Int32} {off : Int} {tgt : Nat} (hd : decode Y.1 pc = .ok (.ifCond .gt off, 3)) (ht : (pc : Int) + off = (tgt : Int)) (kt : 0 < x → V Z Y hp tgt L st) (kf : ¬ 0 < x → V Z Y hp (pc + 3) L st) : V Z Y hp pc L (.int x :: st) := fun H locs ls hP hS h => lv_if_gt X.1 X.2.1 hd ht (fun c => kt c H locs ls hP hS h) (fun c => kf c H locs ls hP hS h)
theorem R_ifle (X : CX Z Y) {x : Int32} {off : Int} {tgt : Nat} (hd : decode Y.1 pc = .ok (.ifCond .le off, 3)) (ht : (pc : Int) + off = (tgt : Int)) (kt : x ≤ 0 → V Z Y hp tgt L st) (kf : ¬ x ≤ 0 → V Z Y hp (pc + 3) L st) : V Z Y hp pc L (.int x :: st) := fun H locs ls hP hS h => lv_if_le X.1 X.2.1 hd ht (fun c => kt c H locs ls hP hS h) (fun c => kf c H locs ls hP hS h)
theorem R_icmp_eq (X : CX Z Y) {x y : Int32} {off : Int} {tgt : Nat} (hd : decode Y.1 pc = .ok (.if_icmp .eq off, 3)) (ht : (pc : Int) + off = (tgt : Int)) (kt : x = y → V Z Y hp tgt L st) (kf : ¬ x = y → V Z Y hp (pc + 3) L st) : V Z Y hp pc L (.int y :: .int x :: st) := fun H locs ls hP hS h => lv_icmp_eq X.1 X.2.1 hd ht (fun c => kt c H locs ls hP hS h) (fun c => kf c H locs ls hP hS h)
theorem R_icmp_ne (X : CX Z Y) {x y : Int32} {off : Int} {tgt : Nat} (hd : decode Y.1 pc = .ok (.if_icmp .ne off, 3)) (ht : (pc : Int) + off = (tgt : Int)) (kt : ¬ x = y → V Z Y hp tgt L st) (kf : x = y → V Z Y hp (pc + 3) L st) : V Z Y hp pc L (.int y :: .int x :: st) := fun H locs ls hP hS h => lv_icmp_ne X.1 X.2.1 hd ht (fun c => kt c H locs ls hP hS h) (fun c => kf c H locs ls hP hS h)
theorem R_icmp_lt (X : CX Z Y) {x y : Int32} {off : Int} {tgt : Nat} (hd : decode Y.1 pc = .ok (.if_icmp .lt off, 3)) (ht : (pc : Int) + off = (tgt : Int)) (kt : x < y → V Z Y hp tgt L st) (kf : ¬ x < y → V Z Y hp (pc + 3) L st) : V Z Y hp pc L (.int y :: .int x :: st) := fun H locs ls hP hS h => lv_icmp_lt X.1 X.2.1 hd ht (fun c => kt c H locs ls hP hS h) (fun c => kf c H locs ls hP hS h)
theorem R_icmp_ge (X : CX Z Y) {x y : Int32} {off : Int} {tgt : Nat} (hd : decode Y.1 pc = .ok (.if_icmp .ge off, 3)) (ht : (pc : Int) + off = (tgt : Int)) (kt : y ≤ x → V Z Y hp tgt L st) (kf : ¬ y ≤ x → V Z Y hp (pc + 3) L st) : V Z Y hp pc L (.int y :: .int x :: st) := fun H locs ls hP hS h => lv_icmp_ge X.1 X.2.1 hd ht (fun c => kt c H locs ls hP hS h) (fun c => kf c H locs ls hP hS h)
theorem R_icmp_gt (X : CX Z Y) {x y : Int32} {off : Int} {tgt : Nat} (hd : decode Y.1 pc = .ok (.if_icmp .gt off, 3)) (ht : (pc : Int) + off = (tgt : Int)) (kt : y < x → V Z Y hp tgt L st) (kf : ¬ y < x → V Z Y hp (pc + 3) L st) : V Z Y hp pc L (.int y :: .int x :: st) := fun H locs ls hP hS h => lv_icmp_gt X.1 X.2.1 hd ht (fun c => kt c H locs ls hP hS h) (fun c => kf c H locs ls hP hS h)
theorem R_icmp_le (X : CX Z Y) {x y : Int32} {off : Int} {tgt : Nat} (hd : decode Y.1 pc = .ok (.if_icmp .le off, 3)) (ht : (pc : Int) + off = (tgt : Int)) (kt : x ≤ y → V Z Y hp tgt L st) (kf : ¬ x ≤ y → V Z Y hp (pc + 3) L st) : V Z Y hp pc L (.int y :: .int x :: st) := fun H locs ls hP hS h => lv_icmp_le X.1 X.2.1 hd ht (fun c => kt c H locs ls hP hS h) (fun c => kf c H locs ls hP hS h)
end Rows
