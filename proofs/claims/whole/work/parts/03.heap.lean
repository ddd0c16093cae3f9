/-! Rows of fields, arrays, switches, calls, ends. -/
def inb (i : Int32) (n : Nat) : Bool := decide (0 ≤ i.toInt ∧ i.toInt < n)
theorem inb_in {i : Int32} {n : Nat} (h : inb i n = true) : vp_in i n := vp_in_iff.mpr (of_decide_eq_true h)
def bz (x : Int32) : Int32 := vp_nar .boolean x
def rz (v : Int32) (hp : HP) : Option (Int32 × HP) := if v = 0 ∨ v = 1 then some (v, hp) else none
def mx (x y : Int32) : Int32 := if x < y then y else x
def mn (x y : Int32) : Int32 := if y < x then y else x
def isB (q : Nat) : Bool := q == 87 || q == 93
def isS (q : Nat) : Bool := decide (q < 118) && (sh q == (5, 0))
theorem ob {α β : Type} {o : Option α} {k : α → Option β} {x : β} (h : o.bind k = some x) : ∃ p, o = some p ∧ k p = some x := by
  cases o with
  | none => cases h
  | some p => exact ⟨p, rfl, h⟩
theorem ck {α : Type} {b : Bool} {a : Option α} {x : α} (h : (if b = true then a else none) = some x) : b = true ∧ a = some x := by
  by_cases hb : b = true
  · rw [if_pos hb] at h
    exact ⟨hb, h⟩
  · rw [if_neg hb] at h
    cases h
theorem cz {α : Type} {c : Prop} {_ : Decidable c} {a : Option α} {x : α} (h : (if c then none else a) = some x) : ¬ c ∧ a = some x := by
  by_cases hb : c
  · rw [if_pos hb] at h
    cases h
  · rw [if_neg hb] at h
    exact ⟨hb, h⟩
theorem sw_def {x : Int32} (n : Nat) (hn : n < 2 ^ 31) (h : ∀ k : Nat, k < n → ¬ x = nI k) : x.toInt < 0 ∨ (n : Int) - 1 < x.toInt := by
  rcases Int.lt_or_le x.toInt 0 with h0 | h0
  · exact Or.inl h0
  · rcases Int.lt_or_le ((n : Int) - 1) x.toInt with h1 | h1
    · exact Or.inr h1
    · exfalso
      obtain ⟨j, hj⟩ := Int.eq_ofNat_of_zero_le h0
      refine h j (by omega) (Int32.toInt_inj.mp ?_)
      rw [hj, nI_toInt (by omega)]
theorem B_all : ∀ q, isB q = true → (q < NC ∧ sh q = (0, 0)) ∧ (q + 1 < NC ∧ sh (q + 1) = (20, 8)) ∧ (q + 2 < NC ∧ sh (q + 2) = (20, 5)) ∧ (q + 3 < NC ∧ sh (q + 3) = (20, 5)) ∧ (q + 4 < NC ∧ sh (q + 4) = (20, 5)) ∧ (q + 5 < NC ∧ sh (q + 5) = (20, 6)) := by
  intro q h
  have : q = 87 ∨ q = 93 := by simpa [isB] using h
  rcases this with rfl | rfl <;> decide
theorem S_all : ∀ q, isS q = true → (q < NC ∧ sh q = (5, 0)) ∧ (q + 1 < NC ∧ sh (q + 1) = (20, 5)) ∧ (q + 2 < NC ∧ sh (q + 2) = (20, 25)) := by
  intro q h
  have hq : q < 118 := by
    unfold isS at h
    simp only [Bool.and_eq_true, decide_eq_true_eq] at h
    exact h.1
  have key : ∀ q, q < 118 → isS q = true → (q < NC ∧ sh q = (5, 0)) ∧ (q + 1 < NC ∧ sh (q + 1) = (20, 5)) ∧ (q + 2 < NC ∧ sh (q + 2) = (20, 25)) := by decide +kernel
  exact key q hq h
section HeapRows
theorem V_pc {Z : ZT} {Y : YT} {hp : HP} {pc pc' : Nat} {L : List (Nat × Value)} {st : List Value} (h : pc = pc') (k : V Z Y hp pc' L st) : V Z Y hp pc L st := h ▸ k
variable {Z : ZT} {Y : YT} {hp : HP} {pc : Nat} {L : List (Nat × Value)} {st : List Value}
theorem R_dup2 (X : CX Z Y) {v w : Value} (hd : decode Y.1 pc = .ok (.dup2, 1)) (hv : v.category = 1) (hw : w.category = 1) (k : V Z Y hp (pc + 1) L (v :: w :: v :: w :: st)) : V Z Y hp pc L (v :: w :: st) := fun H locs ls hP hS h => lv_dup2_11 X.1 X.2.1 hd hv hw (k H locs ls hP hS h)
theorem R_ldcw (X : CX Z Y) {i : Nat} {v : Int32} (hw : Cond.constant Y.2.1 i v ∈ TB) (hd : decode Y.1 pc = .ok (.ldc_w i, 3)) (k : V Z Y hp (pc + 3) L (.int v :: st)) : V Z Y hp pc L st := fun H locs ls hP hS h => lv_ldcw X.1 X.2.1 X.2.2.2.1 (X.2.2.2.2.1 _ hw) hd (k H locs ls hP hS h)
theorem R_swOut (X : CX Z Y) {dflt lo hi : Int} {offs : Array Int} {len : Nat} {x : Int32} {tgt : Nat} (hd : decode Y.1 pc = .ok (.tableswitch dflt lo hi offs, len)) (h9 : x.toInt < lo ∨ hi < x.toInt) (ht : (pc : Int) + dflt = (tgt : Int)) (k : V Z Y hp tgt L st) : V Z Y hp pc L (.int x :: st) := fun H locs ls hP hS h => lv_tableOut X.1 X.2.1 hd h9 ht (k H locs ls hP hS h)
theorem R_swIn (X : CX Z Y) {dflt lo hi : Int} {offs : Array Int} {len : Nat} {x : Int32} {off : Int} {tgt : Nat} (hd : decode Y.1 pc = .ok (.tableswitch dflt lo hi offs, len)) (n : Int) (hx : x.toInt = n) (h1 : ¬ n < lo) (h2 : ¬ hi < n) (ho : offs[(n - lo).toNat]? = some off) (ht : (pc : Int) + off = (tgt : Int)) (k : V Z Y hp tgt L st) : V Z Y hp pc L (.int x :: st) := fun H locs ls hP hS h => lv_tableIn X.1 X.2.1 hd (by rw [hx]; exact h1) (by rw [hx]; exact h2) (by rw [hx]; exact ho) ht (k H locs ls hP hS h)
/-- a field that holds an int -/
theorem R_getI (X : CX Z Y) {C : String} {T : u_T} {N ci idx k : Nat} (hc : classes[ci]? = some (C, T, N)) (hin : ∀ w ∈ u_ws C T N, w ∈ TB) (hk : k < NC) (hs : sh k = (ci, 0)) (j : Nat) (hf : fk ci j = (0, 0)) (hj : (decide (j < N) && decide (j < nf ci) && decide (ci < 20)) = true) (hlink : Cond.fieldLink Y.2.1 idx (T j).1 (T j).2.1 (T j).2.2.1 ∈ TB) (hd : decode Y.1 pc = .ok (.getfield idx, 3)) (kk : V Z Y hp (pc + 3) L (.int (hp k j) :: st)) : V Z Y hp pc L (.ref (gA (zG Z) k) :: st) := by
  intro H locs ls hP hS h
  simp only [Bool.and_eq_true, decide_eq_true_eq] at hj
  have he := wsO_at (zG Z) hp hk
  rw [ent_o _ _ hj.2 hs] at he
  have hv := flds_at (gA (zG Z)) hp k hj.1.2
  rw [hf] at hv
  exact va_get (D := gD (zG Z)) X.1 X.2.1 X.2.2.2.2.1 hin X.2.2.2.1 X.2.2.2.2.2.1.1 hP k he hc j hj.1.1 (X.2.2.2.2.1 _ hlink) (fun _ h9 => h9) hv hd (kk H locs ls hP hS h)
/-- a field that holds a reference that never changes -/
theorem R_getR (X : CX Z Y) {C : String} {T : u_T} {N ci idx k : Nat} (hc : classes[ci]? = some (C, T, N)) (hin : ∀ w ∈ u_ws C T N, w ∈ TB) (hk : k < NC) (hs : sh k = (ci, 0)) (j : Nat) {o : Nat} (hf : fk ci j = (1, o)) (hj : (decide (j < N) && decide (j < nf ci) && decide (ci < 20)) = true) (hlink : Cond.fieldLink Y.2.1 idx (T j).1 (T j).2.1 (T j).2.2.1 ∈ TB) (hd : decode Y.1 pc = .ok (.getfield idx, 3)) (kk : V Z Y hp (pc + 3) L (.ref (gA (zG Z) (k + o)) :: st)) : V Z Y hp pc L (.ref (gA (zG Z) k) :: st) := by
  intro H locs ls hP hS h
  simp only [Bool.and_eq_true, decide_eq_true_eq] at hj
  have he := wsO_at (zG Z) hp hk
  rw [ent_o _ _ hj.2 hs] at he
  have hv := flds_at (gA (zG Z)) hp k hj.1.2
  rw [hf] at hv
  exact va_get (D := gD (zG Z)) X.1 X.2.1 X.2.2.2.2.1 hin X.2.2.2.1 X.2.2.2.2.2.1.1 hP k he hc j hj.1.1 (X.2.2.2.2.1 _ hlink) (fun _ h9 => h9) hv hd (kk H locs ls hP hS h)
/-- a field that holds a reference that changes: the heap has its cell's number -/
theorem R_getD (X : CX Z Y) {C : String} {T : u_T} {N ci idx k : Nat} (hc : classes[ci]? = some (C, T, N)) (hin : ∀ w ∈ u_ws C T N, w ∈ TB) (hk : k < NC) (hs : sh k = (ci, 0)) (j : Nat) (hf : fk ci j = (2, 0)) (hj : (decide (j < N) && decide (j < nf ci) && decide (ci < 20)) = true) (hlink : Cond.fieldLink Y.2.1 idx (T j).1 (T j).2.1 (T j).2.2.1 ∈ TB) (hd : decode Y.1 pc = .ok (.getfield idx, 3)) (kk : V Z Y hp (pc + 3) L (.ref (gA (zG Z) (hp k j).toNatClampNeg) :: st)) : V Z Y hp pc L (.ref (gA (zG Z) k) :: st) := by
  intro H locs ls hP hS h
  simp only [Bool.and_eq_true, decide_eq_true_eq] at hj
  have he := wsO_at (zG Z) hp hk
  rw [ent_o _ _ hj.2 hs] at he
  have hv := flds_at (gA (zG Z)) hp k hj.1.2
  rw [hf] at hv
  exact va_get (D := gD (zG Z)) X.1 X.2.1 X.2.2.2.2.1 hin X.2.2.2.1 X.2.2.2.2.2.1.1 hP k he hc j hj.1.1 (X.2.2.2.2.1 _ hlink) (fun _ h9 => h9) hv hd (kk H locs ls hP hS h)
theorem put_world {G : GT} {k ci j : Nat} {v : Int32} (hk : k < NC) (hs : sh k = (ci, 0)) (hci : ci < 20) (hj : j < nf ci) : (wsO G hp).set k (gA G k, .inr (ci, (flds (gA G) hp k ci).set j (fv (gA G) (up hp k j v) k (fk ci j) j))) = wsO G (up hp k j v) := by
  rw [flds_set _ _ _ _ hj, ← ent_o G (up hp k j v) hci hs]
  exact wsO_set G hp _ hk
theorem R_putI (X : CX Z Y) {C : String} {T : u_T} {ty0 : Nat → FieldType} {N ci idx k : Nat} {v : Int32} (hc : classes[ci]? = some (C, T, N)) (hin : ∀ w ∈ u_ws C T N, w ∈ TB) (hty : ∀ k, k < N → parseFieldDescriptor (T k).2.2.1 = some (ty0 k)) (hnm : ∀ a, a < N → ∀ b, b < N → a ≠ b → (T a).2.1 ≠ (T b).2.1) (hk : k < NC) (hs : sh k = (ci, 0)) (j : Nat) (hf : fk ci j = (0, 0)) (hj : (decide (j < N) && decide (j < nf ci) && decide (ci < 20)) = true) (hfin : (T j).2.2.2 = false) (hdj : parseFieldDescriptor (T j).2.2.1 = some .int) (hlink : Cond.fieldLink Y.2.1 idx (T j).1 (T j).2.1 (T j).2.2.1 ∈ TB) (hd : decode Y.1 pc = .ok (.putfield idx, 3)) (kk : V Z Y (up hp k j v) (pc + 3) L st) : V Z Y hp pc L (.int v :: .ref (gA (zG Z) k) :: st) := by
  intro H locs ls hP hS h
  simp only [Bool.and_eq_true, decide_eq_true_eq] at hj
  have he := wsO_at (zG Z) hp hk
  rw [ent_o _ _ hj.2 hs] at he
  refine va_put (D := gD (zG Z)) (v := .int v) (ty := .int) X.1 X.2.1 X.2.2.2.2.1 hin ty0 hty hnm X.2.2.2.1 X.2.2.2.2.2.1.1 hP (X.D hp) hS k he hc j hj.1.1 (X.2.2.2.2.1 _ hlink) (fun _ h9 => h9) hfin hdj rfl rfl (by rw [flds_len]; exact hj.1.2) hd (fun H1 locs1 hP1 _ hS1 => ?_)
  have e : Value.int v = fv (gA (zG Z)) (up hp k j v) k (fk ci j) j := by
    rw [hf]
    show Value.int v = .int (up hp k j v k j)
    unfold up
    rw [setc_at]
    unfold upd
    rw [if_pos rfl]
  rw [e, put_world hk hs hj.2 hj.1.2] at hP1
  exact kk H1 locs1 ls hP1 hS1 h
theorem R_putD (X : CX Z Y) {C D : String} {T : u_T} {ty0 : Nat → FieldType} {N ci idx k q : Nat} (hc : classes[ci]? = some (C, T, N)) (hin : ∀ w ∈ u_ws C T N, w ∈ TB) (hty : ∀ k, k < N → parseFieldDescriptor (T k).2.2.1 = some (ty0 k)) (hnm : ∀ a, a < N → ∀ b, b < N → a ≠ b → (T a).2.1 ≠ (T b).2.1) (hk : k < NC) (hs : sh k = (ci, 0)) (j : Nat) (hf : fk ci j = (2, 0)) (hj : (decide (j < N) && decide (j < nf ci) && decide (ci < 20)) = true) (hfin : (T j).2.2.2 = false) (hdj : parseFieldDescriptor (T j).2.2.1 = some (.object D)) (hq : q < NC) (hlink : Cond.fieldLink Y.2.1 idx (T j).1 (T j).2.1 (T j).2.2.1 ∈ TB) (hd : decode Y.1 pc = .ok (.putfield idx, 3)) (kk : V Z Y (up hp k j (nI q)) (pc + 3) L st) : V Z Y hp pc L (.ref (gA (zG Z) q) :: .ref (gA (zG Z) k) :: st) := by
  intro H locs ls hP hS h
  simp only [Bool.and_eq_true, decide_eq_true_eq] at hj
  have he := wsO_at (zG Z) hp hk
  rw [ent_o _ _ hj.2 hs] at he
  refine va_put (D := gD (zG Z)) (v := .ref (gA (zG Z) q)) (ty := .object D) X.1 X.2.1 X.2.2.2.2.1 hin ty0 hty hnm X.2.2.2.1 X.2.2.2.2.2.1.1 hP (X.D hp) hS k he hc j hj.1.1 (X.2.2.2.2.1 _ hlink) (fun _ h9 => h9) hfin hdj rfl rfl (by rw [flds_len]; exact hj.1.2) hd (fun H1 locs1 hP1 _ hS1 => ?_)
  have e : Value.ref (gA (zG Z) q) = fv (gA (zG Z)) (up hp k j (nI q)) k (fk ci j) j := by
    rw [hf]
    show Value.ref (gA (zG Z) q) = .ref (gA (zG Z) (up hp k j (nI q) k j).toNatClampNeg)
    unfold up
    rw [setc_at]
    unfold upd
    rw [if_pos rfl, nI_clamp (Nat.lt_trans hq (by decide))]
  rw [e, put_world hk hs hj.2 hj.1.2] at hP1
  exact kk H1 locs1 ls hP1 hS1 h
theorem R_iald (X : CX Z Y) {k n : Nat} {i : Int32} (hk : k < NC) (hs : sh k = (20, n)) (hi : inb i n = true) (hd : decode Y.1 pc = .ok (.iaload, 1)) (kk : V Z Y hp (pc + 1) L (.int (hp k i.toNatClampNeg) :: st)) : V Z Y hp pc L (.int i :: .ref (gA (zG Z) k) :: st) := by
  intro H locs ls hP hS h
  have he := wsO_at (zG Z) hp hk
  rw [ent_i _ _ hs] at he
  exact va_iald X.1 X.2.1 X.2.2.2.2.2.1.1 hP k 0 he rfl (inb_in hi) hd (kk H locs ls hP hS h)
theorem R_zald (X : CX Z Y) {k n : Nat} {i : Int32} (hk : k < NC) (hs : sh k = (21, n)) (hi : inb i n = true) (hd : decode Y.1 pc = .ok (.baload, 1)) (kk : V Z Y hp (pc + 1) L (.int (hp k i.toNatClampNeg) :: st)) : V Z Y hp pc L (.int i :: .ref (gA (zG Z) k) :: st) := by
  intro H locs ls hP hS h
  have he := wsO_at (zG Z) hp hk
  rw [ent_z _ _ hs] at he
  exact va_zald X.1 X.2.1 X.2.2.2.2.2.1.1 hP k 1 he rfl (inb_in hi) hd (kk H locs ls hP hS h)
theorem R_aald (X : CX Z Y) {k n : Nat} {i : Int32} (hk : k < NC) (hs : sh k = (22, n)) (hi : inb i n = true) (hd : decode Y.1 pc = .ok (.aaload, 1)) (kk : V Z Y hp (pc + 1) L (.ref (gA (zG Z) (k + 1 + 3 * i.toNatClampNeg)) :: st)) : V Z Y hp pc L (.int i :: .ref (gA (zG Z) k) :: st) := by
  intro H locs ls hP hS h
  have he := wsO_at (zG Z) hp hk
  rw [ent_q _ _ hs] at he
  exact va_aldq X.1 X.2.1 X.2.2.2.2.2.1.1 hP k 2 he rfl (inb_in hi) hd (kk H locs ls hP hS h)
theorem R_iast (X : CX Z Y) {k n : Nat} {i x : Int32} (hk : k < NC) (hs : sh k = (20, n)) (hi : inb i n = true) (hd : decode Y.1 pc = .ok (.iastore, 1)) (kk : V Z Y (up hp k i.toNatClampNeg x) (pc + 1) L st) : V Z Y hp pc L (.int x :: .int i :: .ref (gA (zG Z) k) :: st) := by
  intro H locs ls hP hS h
  have he := wsO_at (zG Z) hp hk
  rw [ent_i _ _ hs] at he
  refine va_iast X.1 X.2.1 X.2.2.2.2.2.1.1 hP (X.D hp) hS k 0 he rfl (inb_in hi) hd (fun H1 locs1 hP1 _ hS1 => kk H1 locs1 ls ?_ hS1 h)
  have e := ent_i (zG Z) (up hp k i.toNatClampNeg x) hs
  rw [show up hp k i.toNatClampNeg x k = upd (hp k) i.toNatClampNeg x from setc_at _ _ _] at e
  rw [← e, show up hp k i.toNatClampNeg x = setc hp k (upd (hp k) i.toNatClampNeg x) from rfl, wsO_set _ _ _ hk] at hP1
  exact hP1
theorem R_zast (X : CX Z Y) {k n : Nat} {i x : Int32} (hk : k < NC) (hs : sh k = (21, n)) (hi : inb i n = true) (hd : decode Y.1 pc = .ok (.bastore, 1)) (kk : V Z Y (up hp k i.toNatClampNeg (bz x)) (pc + 1) L st) : V Z Y hp pc L (.int x :: .int i :: .ref (gA (zG Z) k) :: st) := by
  intro H locs ls hP hS h
  have he := wsO_at (zG Z) hp hk
  rw [ent_z _ _ hs] at he
  refine va_zast X.1 X.2.1 X.2.2.2.2.2.1.1 hP (X.D hp) hS k 1 he rfl (inb_in hi) hd (fun H1 locs1 hP1 _ hS1 => kk H1 locs1 ls ?_ hS1 h)
  have e := ent_z (zG Z) (up hp k i.toNatClampNeg (bz x)) hs
  rw [show up hp k i.toNatClampNeg (bz x) k = upd (hp k) i.toNatClampNeg (bz x) from setc_at _ _ _] at e
  rw [show vp_nar .boolean x = bz x from rfl, ← e, show up hp k i.toNatClampNeg (bz x) = setc hp k (upd (hp k) i.toNatClampNeg (bz x)) from rfl, wsO_set _ _ _ hk] at hP1
  exact hP1
theorem R_alen (X : CX Z Y) {k n : Nat} (hk : k < NC) (hs : sh k = (20, n)) (hd : decode Y.1 pc = .ok (.arraylength, 1)) (kk : V Z Y hp (pc + 1) L (.int (Int32.ofNat n) :: st)) : V Z Y hp pc L (.ref (gA (zG Z) k) :: st) := by
  intro H locs ls hP hS h
  have he := wsO_at (zG Z) hp hk
  rw [ent_i _ _ hs] at he
  exact va_alen X.1 X.2.1 X.2.2.2.2.2.1.1 hP k 0 he (ty := .int) rfl rfl hd (kk H locs ls hP hS h)
theorem R_mmax (X : CX Z Y) {idx : Nat} {x y : Int32} (hl : Cond.methodLink Y.2.1 idx Lib.Math.max.name ∈ TB) (h1 : Cond.static Lib.Math.max.name ∈ TB) (h2 : Cond.initialized "java/lang/Math" ∈ TB) (h3 : Cond.code Lib.Math.max.name Lib.Math.max.code 2 (some .int) ∈ TB) (hy : (decide (0 < Y.2.2.2) && decide ((st.map fun v => v.category).sum ≤ 8)) = true) (hd : decode Y.1 pc = .ok (.invokestatic idx, 3)) (kk : V Z Y hp (pc + 3) L (.int (mx x y) :: st)) : V Z Y hp pc L (.int y :: .int x :: st) := by
  intro H locs ls hP hS h
  simp only [Bool.and_eq_true, decide_eq_true_eq] at hy
  obtain ⟨r1, r2, r3, r4⟩ := X.2.2.2.2.2.2.2
  exact va_mmax X.1 X.2.1 (X.2.2.1.trans h.1.symm) X.2.2.2.1 (X.2.2.2.2.1 _ hl) (X.2.2.2.2.1 _ h1) (X.2.2.2.2.1 _ h2) (X.2.2.2.2.1 _ h3) (by omega) (by omega) r3 r4 hd (kk H locs ls hP hS h)
theorem R_mmin (X : CX Z Y) {idx : Nat} {x y : Int32} (hl : Cond.methodLink Y.2.1 idx Lib.Math.min.name ∈ TB) (h1 : Cond.static Lib.Math.min.name ∈ TB) (h2 : Cond.initialized "java/lang/Math" ∈ TB) (h3 : Cond.code Lib.Math.min.name Lib.Math.min.code 2 (some .int) ∈ TB) (hy : (decide (0 < Y.2.2.2) && decide ((st.map fun v => v.category).sum ≤ 8)) = true) (hd : decode Y.1 pc = .ok (.invokestatic idx, 3)) (kk : V Z Y hp (pc + 3) L (.int (mn x y) :: st)) : V Z Y hp pc L (.int y :: .int x :: st) := by
  intro H locs ls hP hS h
  simp only [Bool.and_eq_true, decide_eq_true_eq] at hy
  obtain ⟨r1, r2, r3, r4⟩ := X.2.2.2.2.2.2.2
  exact va_mmin X.1 X.2.1 (X.2.2.1.trans h.1.symm) X.2.2.2.1 (X.2.2.2.2.1 _ hl) (X.2.2.2.2.1 _ h1) (X.2.2.2.2.1 _ h2) (X.2.2.2.2.1 _ h3) (by omega) (by omega) r3 r4 hd (kk H locs ls hP hS h)
theorem R_copy (X : CX Z Y) {idx k0 k1 n0 n1 : Nat} {sp dp n : Int32} (hl : Cond.methodLink Y.2.1 idx arraycopyName ∈ TB) (h1 : Cond.native arraycopyName ∈ TB) (h2 : Cond.static arraycopyName ∈ TB) (h3 : Cond.initialized "java/lang/System" ∈ TB) (hk0 : k0 < NC) (hs0 : sh k0 = (20, n0)) (hk1 : k1 < NC) (hs1 : sh k1 = (20, n1)) (hb : (decide (0 ≤ sp.toInt) && decide (0 ≤ dp.toInt) && decide (0 ≤ n.toInt) && decide (sp.toNatClampNeg + n.toNatClampNeg ≤ n0) && decide (dp.toNatClampNeg + n.toNatClampNeg ≤ n1)) = true) (hy : (decide (0 < Y.2.2.2) && decide ((st.map fun v => v.category).sum ≤ 8)) = true) (hd : decode Y.1 pc = .ok (.invokestatic idx, 3)) (kk : V Z Y (setc hp k1 (va_cpy (hp k0) (hp k1) sp.toNatClampNeg dp.toNatClampNeg n.toNatClampNeg)) (pc + 3) L st) : V Z Y hp pc L (.int n :: .int dp :: .ref (gA (zG Z) k1) :: .int sp :: .ref (gA (zG Z) k0) :: st) := by
  intro H locs ls hP hS h
  simp only [Bool.and_eq_true, decide_eq_true_eq] at hy hb
  obtain ⟨r1, r2, r3, r4⟩ := X.2.2.2.2.2.2.2
  have he0 := wsO_at (zG Z) hp hk0
  rw [ent_i _ _ hs0] at he0
  have he1 := wsO_at (zG Z) hp hk1
  rw [ent_i _ _ hs1] at he1
  have nz : ∀ z : Int32, 0 ≤ z.toInt → ¬ z < 0 := fun z hz hlt => by
    rw [Int32.lt_iff_toInt_lt] at hlt
    have : (0 : Int32).toInt = 0 := by decide
    omega
  refine va_copyi X.1 X.2.1 (X.2.2.1.trans h.1.symm) X.2.2.2.1 (X.2.2.2.2.1 _ hl) (X.2.2.2.2.1 _ h1) (X.2.2.2.2.1 _ h2) (X.2.2.2.2.1 _ h3) X.2.2.2.2.2.1.1 hP (X.D hp) hS k0 k1 0 0 he0 he1 (ty := .int) rfl rfl rfl (nz _ hb.1.1.1.1) (nz _ hb.1.1.1.2) (nz _ hb.1.1.2) hb.1.2 hb.2 (fun _ _ => rfl) (by omega) (by show _ + (nativeFrameWords "java/lang/System" "arraycopy" 5 + 11) ≤ _; rw [show nativeFrameWords "java/lang/System" "arraycopy" 5 = 7 by decide]; omega) hd (fun H1 locs1 hP1 _ hS1 => kk H1 locs1 ls ?_ hS1 h)
  have e := ent_i (zG Z) (setc hp k1 (va_cpy (hp k0) (hp k1) sp.toNatClampNeg dp.toNatClampNeg n.toNatClampNeg)) hs1
  rw [setc_at] at e
  rw [← e, wsO_set _ _ _ hk1] at hP1
  exact hP1
end HeapRows
