/-! Class and reference read the same text, clause by clause. -/
def XF (q : Nat) (hx0 hx : HP) : Prop := (∀ c, c ≠ 1 → (c < q ∨ q + 5 < c) → hx c = hx0 c) ∧ hx 1 1 = hx0 1 1
def MF (hm0 hm : HP) : Prop := (∀ c, c ≠ 99 → c ≠ 107 → c ≠ 108 → c ≠ 109 → hm c = hm0 c) ∧ (∀ j, j < 12 ∨ j = 18 ∨ j = 20 ∨ 21 < j → hm 99 j = hm0 99 j)
def PR (T : Nat → Int32) (N q : Nat) (hx0 hm0 hx hm : HP) (i j P C Tn : Nat) : Prop :=
  (q = 87 ∨ q = 93) ∧
  (RX T N hx i) ∧
  (MX T N hm j) ∧
  (XF q hx0 hx) ∧
  (MF hm0 hm) ∧
  (hx 1 3 = 0) ∧
  (hx 1 2 = -1) ∧
  (hm 99 15 = 0) ∧
  (hm 99 16 = -1) ∧
  (P ≤ 8) ∧
  (C ≤ 5) ∧
  (Tn ≤ 6) ∧
  (P = 0 → Tn = 0) ∧
  (hx q 5 = nI P) ∧
  (hx q 6 = nI C) ∧
  (hx q 7 = nI Tn) ∧
  (hm 99 17 = nI P) ∧
  (hm 99 19 = nI C) ∧
  (hm 99 21 = nI Tn) ∧
  (∀ k, k < P → hx (q + 1) k = hm 107 k - 500 ∧ 0 ≤ (hm 107 k).toInt ∧ (hm 107 k).toInt ≤ 999) ∧
  (∀ c, c < C → (hx (q + 2) c = hm 108 (3 * c) - 500 ∧ hx (q + 3) c = hm 108 (3 * c + 1) ∧ hx (q + 4) c = hm 108 (3 * c + 2)) ∧ (0 ≤ (hm 108 (3 * c)).toInt ∧ (hm 108 (3 * c)).toInt ≤ 999) ∧ (0 ≤ (hm 108 (3 * c + 1)).toInt ∧ (hm 108 (3 * c + 1)).toInt ≤ 99) ∧ 0 ≤ (hm 108 (3 * c + 2)).toInt ∧ (hm 108 (3 * c + 2)).toInt ≤ 99) ∧
  (∀ t, t < Tn → hx (q + 5) t = hm 109 t ∧ ∃ n, n < 2 ^ P ∧ hm 109 t = nI n)
theorem PR.hq {T : Nat → Int32} {N q : Nat} {hx0 hm0 hx hm : HP} {i j P C Tn : Nat} (h : PR T N q hx0 hm0 hx hm i j P C Tn) : q = 87 ∨ q = 93 := h.1
theorem PR.rx {T : Nat → Int32} {N q : Nat} {hx0 hm0 hx hm : HP} {i j P C Tn : Nat} (h : PR T N q hx0 hm0 hx hm i j P C Tn) : RX T N hx i := h.2.1
theorem PR.mx {T : Nat → Int32} {N q : Nat} {hx0 hm0 hx hm : HP} {i j P C Tn : Nat} (h : PR T N q hx0 hm0 hx hm i j P C Tn) : MX T N hm j := h.2.2.1
theorem PR.xf {T : Nat → Int32} {N q : Nat} {hx0 hm0 hx hm : HP} {i j P C Tn : Nat} (h : PR T N q hx0 hm0 hx hm i j P C Tn) : XF q hx0 hx := h.2.2.2.1
theorem PR.mf {T : Nat → Int32} {N q : Nat} {hx0 hm0 hx hm : HP} {i j P C Tn : Nat} (h : PR T N q hx0 hm0 hx hm i j P C Tn) : MF hm0 hm := h.2.2.2.2.1
theorem PR.x3 {T : Nat → Int32} {N q : Nat} {hx0 hm0 hx hm : HP} {i j P C Tn : Nat} (h : PR T N q hx0 hm0 hx hm i j P C Tn) : hx 1 3 = 0 := h.2.2.2.2.2.1
theorem PR.x2 {T : Nat → Int32} {N q : Nat} {hx0 hm0 hx hm : HP} {i j P C Tn : Nat} (h : PR T N q hx0 hm0 hx hm i j P C Tn) : hx 1 2 = -1 := h.2.2.2.2.2.2.1
theorem PR.m5 {T : Nat → Int32} {N q : Nat} {hx0 hm0 hx hm : HP} {i j P C Tn : Nat} (h : PR T N q hx0 hm0 hx hm i j P C Tn) : hm 99 15 = 0 := h.2.2.2.2.2.2.2.1
theorem PR.m6 {T : Nat → Int32} {N q : Nat} {hx0 hm0 hx hm : HP} {i j P C Tn : Nat} (h : PR T N q hx0 hm0 hx hm i j P C Tn) : hm 99 16 = -1 := h.2.2.2.2.2.2.2.2.1
theorem PR.hP {T : Nat → Int32} {N q : Nat} {hx0 hm0 hx hm : HP} {i j P C Tn : Nat} (h : PR T N q hx0 hm0 hx hm i j P C Tn) : P ≤ 8 := h.2.2.2.2.2.2.2.2.2.1
theorem PR.hC {T : Nat → Int32} {N q : Nat} {hx0 hm0 hx hm : HP} {i j P C Tn : Nat} (h : PR T N q hx0 hm0 hx hm i j P C Tn) : C ≤ 5 := h.2.2.2.2.2.2.2.2.2.2.1
theorem PR.hT {T : Nat → Int32} {N q : Nat} {hx0 hm0 hx hm : HP} {i j P C Tn : Nat} (h : PR T N q hx0 hm0 hx hm i j P C Tn) : Tn ≤ 6 := h.2.2.2.2.2.2.2.2.2.2.2.1
theorem PR.p0 {T : Nat → Int32} {N q : Nat} {hx0 hm0 hx hm : HP} {i j P C Tn : Nat} (h : PR T N q hx0 hm0 hx hm i j P C Tn) : P = 0 → Tn = 0 := h.2.2.2.2.2.2.2.2.2.2.2.2.1
theorem PR.xP {T : Nat → Int32} {N q : Nat} {hx0 hm0 hx hm : HP} {i j P C Tn : Nat} (h : PR T N q hx0 hm0 hx hm i j P C Tn) : hx q 5 = nI P := h.2.2.2.2.2.2.2.2.2.2.2.2.2.1
theorem PR.xC {T : Nat → Int32} {N q : Nat} {hx0 hm0 hx hm : HP} {i j P C Tn : Nat} (h : PR T N q hx0 hm0 hx hm i j P C Tn) : hx q 6 = nI C := h.2.2.2.2.2.2.2.2.2.2.2.2.2.2.1
theorem PR.xT {T : Nat → Int32} {N q : Nat} {hx0 hm0 hx hm : HP} {i j P C Tn : Nat} (h : PR T N q hx0 hm0 hx hm i j P C Tn) : hx q 7 = nI Tn := h.2.2.2.2.2.2.2.2.2.2.2.2.2.2.2.1
theorem PR.mP {T : Nat → Int32} {N q : Nat} {hx0 hm0 hx hm : HP} {i j P C Tn : Nat} (h : PR T N q hx0 hm0 hx hm i j P C Tn) : hm 99 17 = nI P := h.2.2.2.2.2.2.2.2.2.2.2.2.2.2.2.2.1
theorem PR.mC {T : Nat → Int32} {N q : Nat} {hx0 hm0 hx hm : HP} {i j P C Tn : Nat} (h : PR T N q hx0 hm0 hx hm i j P C Tn) : hm 99 19 = nI C := h.2.2.2.2.2.2.2.2.2.2.2.2.2.2.2.2.2.1
theorem PR.mT {T : Nat → Int32} {N q : Nat} {hx0 hm0 hx hm : HP} {i j P C Tn : Nat} (h : PR T N q hx0 hm0 hx hm i j P C Tn) : hm 99 21 = nI Tn := h.2.2.2.2.2.2.2.2.2.2.2.2.2.2.2.2.2.2.1
theorem PR.pp {T : Nat → Int32} {N q : Nat} {hx0 hm0 hx hm : HP} {i j P C Tn : Nat} (h : PR T N q hx0 hm0 hx hm i j P C Tn) : ∀ k, k < P → hx (q + 1) k = hm 107 k - 500 ∧ 0 ≤ (hm 107 k).toInt ∧ (hm 107 k).toInt ≤ 999 := h.2.2.2.2.2.2.2.2.2.2.2.2.2.2.2.2.2.2.2.1
theorem PR.cc {T : Nat → Int32} {N q : Nat} {hx0 hm0 hx hm : HP} {i j P C Tn : Nat} (h : PR T N q hx0 hm0 hx hm i j P C Tn) : ∀ c, c < C → (hx (q + 2) c = hm 108 (3 * c) - 500 ∧ hx (q + 3) c = hm 108 (3 * c + 1) ∧ hx (q + 4) c = hm 108 (3 * c + 2)) ∧ (0 ≤ (hm 108 (3 * c)).toInt ∧ (hm 108 (3 * c)).toInt ≤ 999) ∧ (0 ≤ (hm 108 (3 * c + 1)).toInt ∧ (hm 108 (3 * c + 1)).toInt ≤ 99) ∧ 0 ≤ (hm 108 (3 * c + 2)).toInt ∧ (hm 108 (3 * c + 2)).toInt ≤ 99 := h.2.2.2.2.2.2.2.2.2.2.2.2.2.2.2.2.2.2.2.2.1
theorem PR.tt {T : Nat → Int32} {N q : Nat} {hx0 hm0 hx hm : HP} {i j P C Tn : Nat} (h : PR T N q hx0 hm0 hx hm i j P C Tn) : ∀ t, t < Tn → hx (q + 5) t = hm 109 t ∧ ∃ n, n < 2 ^ P ∧ hm 109 t = nI n := h.2.2.2.2.2.2.2.2.2.2.2.2.2.2.2.2.2.2.2.2.2
/-- the class with a fault: it goes on and keeps it -/
def XG (T : Nat → Int32) (N q : Nat) (hx0 : HP) (f p : Int32) (hx : HP) : Prop := (q = 87 ∨ q = 93) ∧ (∃ i, RX T N hx i) ∧ (hx 1 3 = f ∧ hx 1 2 = p) ∧ (∃ P C Tn, (P ≤ 8 ∧ C ≤ 5 ∧ Tn ≤ 6) ∧ hx q 5 = nI P ∧ hx q 6 = nI C ∧ hx q 7 = nI Tn) ∧ XF q hx0 hx
def FT (T : Nat → Int32) (N q : Nat) (hx0 hm0 hx hm : HP) : Prop := ∃ f p, f ≠ 0 ∧ XG T N q hx0 f p hx ∧ MF hm0 hm ∧ hm 99 15 = f ∧ hm 99 16 = p
theorem XF.x1 {q : Nat} {hx0 hx hx' : HP} {i : Nat} {f p : Int32} (h : XF q hx0 hx) (x : X1 hx hx' i f p) : XF q hx0 hx' :=
  ⟨fun c h1 h2 => by rw [x.1 c h1]; exact h.1 c h1 h2, by rw [x.2.1]; exact h.2⟩
theorem MF.m1 {hm0 hm hm' : HP} {j : Nat} {v f p : Int32} (h : MF hm0 hm) (x : M1 hm hm' j v f p) : MF hm0 hm' :=
  ⟨fun c h1 h2 h3 h4 => by rw [x.1 c h1]; exact h.1 c h1 h2 h3 h4, fun k hk => by rw [x.2.1 k (by omega) (by omega) (by omega) (by omega) (by omega)]; exact h.2 k hk⟩
theorem XG.x1 {T : Nat → Int32} {N q : Nat} {hx0 : HP} {f p : Int32} {hx hx' : HP} {i : Nat} (h : XG T N q hx0 f p hx) (x : X1 hx hx' i f p) (hi : i ≤ N) : XG T N q hx0 f p hx' := by
  obtain ⟨hq, ⟨i0, h1⟩, -, ⟨P, C, Tn, h3, h4, h5, h6⟩, h7⟩ := h
  refine ⟨hq, ⟨i, x.rx h1 hi⟩, ⟨x.2.2.2.1, x.2.2.2.2⟩, ⟨P, C, Tn, h3, ?_⟩, h7.x1 x⟩
  rw [x.1 q (by omega)]
  exact ⟨h4, h5, h6⟩
theorem PR.x1 {T : Nat → Int32} {N q : Nat} {hx0 hm0 hx hm hx' : HP} {i j P C Tn i' : Nat} (h : PR T N q hx0 hm0 hx hm i j P C Tn) (x : X1 hx hx' i' 0 (-1)) (hi : i' ≤ N) : PR T N q hx0 hm0 hx' hm i' j P C Tn := by
  have hq := h.hq
  have e : ∀ c, c ≠ 1 → hx' c = hx c := x.1
  exact ⟨h.hq, x.rx h.rx hi, h.mx, h.xf.x1 x, h.mf, x.2.2.2.1, x.2.2.2.2, h.m5, h.m6, h.hP, h.hC, h.hT, h.p0, by rw [e q (by omega)]; exact h.xP, by rw [e q (by omega)]; exact h.xC, by rw [e q (by omega)]; exact h.xT, h.mP, h.mC, h.mT, by rw [e (q + 1) (by omega)]; exact h.pp, by rw [e (q + 2) (by omega), e (q + 3) (by omega), e (q + 4) (by omega)]; exact h.cc, by rw [e (q + 5) (by omega)]; exact h.tt⟩
theorem PR.m1 {T : Nat → Int32} {N q : Nat} {hx0 hm0 hx hm hm' : HP} {i j P C Tn j' : Nat} {v : Int32} (h : PR T N q hx0 hm0 hx hm i j P C Tn) (x : M1 hm hm' j' v 0 (-1)) (hj : j' ≤ N) : PR T N q hx0 hm0 hx hm' i j' P C Tn := by
  have e : ∀ c, c ≠ 99 → hm' c = hm c := x.1
  have e9 : ∀ k, 16 < k → hm' 99 k = hm 99 k := fun k hk => x.2.1 k (by omega) (by omega) (by omega) (by omega) (by omega)
  exact ⟨h.hq, h.rx, x.mx h.mx hj, h.xf, h.mf.m1 x, h.x3, h.x2, x.2.2.2.2.1, x.2.2.2.2.2, h.hP, h.hC, h.hT, h.p0, h.xP, h.xC, h.xT, by rw [e9 17 (by omega)]; exact h.mP, by rw [e9 19 (by omega)]; exact h.mC, by rw [e9 21 (by omega)]; exact h.mT, by rw [e 107 (by omega)]; exact h.pp, by rw [e 108 (by omega)]; exact h.cc, by rw [e 109 (by omega)]; exact h.tt⟩
theorem PR.xg {T : Nat → Int32} {N q : Nat} {hx0 hm0 hx hm hx' : HP} {i j P C Tn i' : Nat} {f p : Int32} (h : PR T N q hx0 hm0 hx hm i j P C Tn) (x : X1 hx hx' i' f p) (hi : i' ≤ N) : XG T N q hx0 f p hx' := by
  refine ⟨h.hq, ⟨i', x.rx h.rx hi⟩, ⟨x.2.2.2.1, x.2.2.2.2⟩, ⟨P, C, Tn, ⟨h.hP, h.hC, h.hT⟩, ?_⟩, h.xf.x1 x⟩
  have hq := h.hq
  rw [x.1 q (by omega)]
  exact ⟨h.xP, h.xC, h.xT⟩
theorem fn_ne {f n : Int32} (h : f ≠ 0) : fn f n = f := by unfold fn; rw [if_neg h]
theorem fp_ne {f p n : Int32} (h : f ≠ 0) : fp f p n = p := by unfold fp; rw [if_neg h]
theorem fn_0 {n : Int32} : fn 0 n = n := rfl
theorem fp_0 {p n : Int32} : fp 0 p n = n := rfl
theorem g_num {T : Nat → Int32} {N q : Nat} {hx0 : HP} {f p : Int32} {hx : HP} (hf : f ≠ 0) (h : XG T N q hx0 f p hx) (g : Int32) : ∃ v hx', f_Re_readNumber hx g = some (v, hx') ∧ XG T N q hx0 f p hx' := by
  obtain ⟨i, hi⟩ := h.2.1
  obtain ⟨s1, s2, s3⟩ := sk_spec T hi.2.1
  obtain ⟨d1, d2, d3, d4, d5⟩ := ds_spec T s2
  obtain ⟨hx', e1, x1⟩ := x_num hi g
  refine ⟨_, hx', e1, h.x1 (i := (ds T N (sk T N i)).1) ?_ d2⟩
  rw [h.2.2.1.1, h.2.2.1.2, fn_ne hf, fp_ne hf, ite_self, ite_self] at x1
  exact x1
theorem g_skip {T : Nat → Int32} {N q : Nat} {hx0 : HP} {f p : Int32} {hx : HP} (h : XG T N q hx0 f p hx) : ∃ hx', f_Re_skipBlanks hx = some (0, hx') ∧ XG T N q hx0 f p hx' := by
  obtain ⟨i, hi⟩ := h.2.1
  obtain ⟨s1, s2, s3⟩ := sk_spec T hi.2.1
  obtain ⟨hx', e1, x1⟩ := x_skip hi
  rw [h.2.2.1.1, h.2.2.1.2] at x1
  exact ⟨hx', e1, h.x1 x1 s2⟩
theorem g_word {T : Nat → Int32} {N q : Nat} {hx0 : HP} {f p : Int32} {hx : HP} (hf : f ≠ 0) (h : XG T N q hx0 f p hx) (c : Int32) (hc : c ≠ -1) : ∃ hx', f_Re_readWord hx c = some (0, hx') ∧ XG T N q hx0 f p hx' := by
  obtain ⟨i, hi⟩ := h.2.1
  obtain ⟨s1, s2, s3⟩ := sk_spec T hi.2.1
  obtain ⟨hx', e1, x1, x2⟩ := x_word hi c hc
  rw [h.2.2.1.1, h.2.2.1.2] at x1
  rw [h.2.2.1.1, h.2.2.1.2, fn_ne hf, fp_ne hf] at x2
  refine ⟨hx', e1, ?_⟩
  by_cases z : ltr T N (sk T N i) = c
  · exact h.x1 (x1 z).2 (x1 z).1
  · exact h.x1 (x2 z) s2
theorem up_ne {hp : HP} {k j : Nat} {v : Int32} {c : Nat} (h : c ≠ k) : up hp k j v c = hp c := by rw [up_ap, if_neg h]
theorem up_eq (hp : HP) (k j : Nat) (v : Int32) : up hp k j v k = upd (hp k) j v := by rw [up_ap, if_pos rfl]
theorem upd_ne {f : Nat → Int32} {k : Nat} {x : Int32} {j : Nat} (h : j ≠ k) : upd f k x j = f j := by rw [upd_ap, if_neg h]
theorem upd_eq (f : Nat → Int32) (k : Nat) (x : Int32) : upd f k x k = x := by rw [upd_ap, if_pos rfl]
/-- a heap that differs only in the branch's own cells -/
theorem XF.br {q : Nat} {hx0 hx hx' : HP} (hq : q = 87 ∨ q = 93) (h : XF q hx0 hx) (e : ∀ c, c < q ∨ q + 5 < c → hx' c = hx c) : XF q hx0 hx' :=
  ⟨fun c h1 h2 => by rw [e c h2]; exact h.1 c h1 h2, by rw [e 1 (by omega)]; exact h.2⟩
theorem RX.br {T : Nat → Int32} {N q i : Nat} {hx hx' : HP} (hq : q = 87 ∨ q = 93) (h : RX T N hx i) (e : ∀ c, c < q ∨ q + 5 < c → hx' c = hx c) : RX T N hx' i := by
  unfold RX
  rw [e 1 (by omega), e 2 (by omega)]
  exact h
theorem XG.br {T : Nat → Int32} {N q : Nat} {hx0 : HP} {f p : Int32} {hx hx' : HP} (h : XG T N q hx0 f p hx) (e : ∀ c, c < q ∨ q + 5 < c → hx' c = hx c) (k : ∃ P C Tn, (P ≤ 8 ∧ C ≤ 5 ∧ Tn ≤ 6) ∧ hx' q 5 = nI P ∧ hx' q 6 = nI C ∧ hx' q 7 = nI Tn) : XG T N q hx0 f p hx' := by
  obtain ⟨hq, ⟨i, h1⟩, h2, -, h4⟩ := h
  exact ⟨hq, ⟨i, h1.br hq e⟩, by rw [e 1 (by omega)]; exact h2, k, h4.br hq e⟩
/-- a part is written -/
theorem x_addPart {q : Nat} {hx : HP} {P : Nat} (a : Int32) (hP : P < 8) (e : hx q 5 = nI P) : f_Br_addPart hx q a = some (0, up (up hx (q + 1) P (a - 500)) q 5 (nI (P + 1))) := by
  unfold f_Br_addPart
  rw [e, if_neg (by exact n_nle 8 P hP (by omega)), if_pos (inb_n hP (by omega)), cl_n (by omega)]
  simp only [up_ne (show q ≠ q + 1 by omega), e, nI_s]
theorem x_addTask {q : Nat} {hx : HP} {P : Nat} (a : Int32) (hP : P < 6) (e : hx q 7 = nI P) : f_Br_addTask hx q a = some (0, up (up hx (q + 5) P a) q 7 (nI (P + 1))) := by
  unfold f_Br_addTask
  rw [e, if_neg (by exact n_nle 6 P hP (by omega)), if_pos (inb_n hP (by omega)), cl_n (by omega)]
  simp only [up_ne (show q ≠ q + 5 by omega), e, nI_s]
theorem x_addCustomer {q : Nat} {hx : HP} {P : Nat} (a b c : Int32) (hP : P < 5) (e : hx q 6 = nI P) : f_Br_addCustomer hx q a b c = some (0, up (up (up (up hx (q + 2) P (a - 500)) (q + 3) P b) (q + 4) P c) q 6 (nI (P + 1))) := by
  unfold f_Br_addCustomer
  simp only [up_ne (show q ≠ q + 2 by omega), up_ne (show q ≠ q + 3 by omega), up_ne (show q ≠ q + 4 by omega), e, nI_s]
  rw [if_neg (by exact n_nle 5 P hP (by omega)), if_pos (inb_n hP (by omega)), if_pos (inb_n hP (by omega)), if_pos (inb_n hP (by omega)), cl_n (by omega)]
theorem g_addPart {T : Nat → Int32} {N q : Nat} {hx0 : HP} {f p : Int32} {hx : HP} (h : XG T N q hx0 f p hx) (a : Int32) : ∃ hx', f_Br_addPart hx q a = some (0, hx') ∧ XG T N q hx0 f p hx' := by
  obtain ⟨P, C, Tn, ⟨k1, k2, k3⟩, k4, k5, k6⟩ := h.2.2.2.1
  by_cases z : P < 8
  · refine ⟨_, x_addPart a z k4, h.br (fun c hc => by rw [up_ne (by omega), up_ne (by omega)]) ⟨P + 1, C, Tn, by omega, ?_, ?_, ?_⟩⟩
    · rw [up_eq, upd_eq]
    · rw [up_eq, upd_ne (by omega), up_ne (by omega)]; exact k5
    · rw [up_eq, upd_ne (by omega), up_ne (by omega)]; exact k6
  · refine ⟨hx, ?_, h⟩
    unfold f_Br_addPart
    rw [if_pos (by rw [k4]; exact n_le 8 P (by omega) (by omega))]
theorem g_addTask {T : Nat → Int32} {N q : Nat} {hx0 : HP} {f p : Int32} {hx : HP} (h : XG T N q hx0 f p hx) (a : Int32) : ∃ hx', f_Br_addTask hx q a = some (0, hx') ∧ XG T N q hx0 f p hx' := by
  obtain ⟨P, C, Tn, ⟨k1, k2, k3⟩, k4, k5, k6⟩ := h.2.2.2.1
  by_cases z : Tn < 6
  · refine ⟨_, x_addTask a z k6, h.br (fun c hc => by rw [up_ne (by omega), up_ne (by omega)]) ⟨P, C, Tn + 1, by omega, ?_, ?_, ?_⟩⟩
    · rw [up_eq, upd_ne (by omega), up_ne (by omega)]; exact k4
    · rw [up_eq, upd_ne (by omega), up_ne (by omega)]; exact k5
    · rw [up_eq, upd_eq]
  · refine ⟨hx, ?_, h⟩
    unfold f_Br_addTask
    rw [if_pos (by rw [k6]; exact n_le 6 Tn (by omega) (by omega))]
theorem g_addCustomer {T : Nat → Int32} {N q : Nat} {hx0 : HP} {f p : Int32} {hx : HP} (h : XG T N q hx0 f p hx) (a b c : Int32) : ∃ hx', f_Br_addCustomer hx q a b c = some (0, hx') ∧ XG T N q hx0 f p hx' := by
  obtain ⟨P, C, Tn, ⟨k1, k2, k3⟩, k4, k5, k6⟩ := h.2.2.2.1
  by_cases z : C < 5
  · refine ⟨_, x_addCustomer a b c z k5, h.br (fun c hc => by rw [up_ne (by omega), up_ne (by omega), up_ne (by omega), up_ne (by omega)]) ⟨P, C + 1, Tn, by omega, ?_, ?_, ?_⟩⟩
    · rw [up_eq, upd_ne (by omega), up_ne (by omega), up_ne (by omega), up_ne (by omega)]; exact k4
    · rw [up_eq, upd_eq]
    · rw [up_eq, upd_ne (by omega), up_ne (by omega), up_ne (by omega), up_ne (by omega)]; exact k6
  · refine ⟨hx, ?_, h⟩
    unfold f_Br_addCustomer
    rw [if_pos (by rw [k5]; exact n_le 5 C (by omega) (by omega))]
theorem p_num {T : Nat → Int32} {N q : Nat} {hx0 hm0 hx hm : HP} {i P C Tn : Nat} (h : PR T N q hx0 hm0 hx hm i i P C Tn) {g : Int32} (hg : 0 ≤ g.toInt) : ∃ v hx' r hm', f_Re_readNumber hx g = some (v, hx') ∧ f_Mo_takesNumber hm 0 g = some (r, hm') ∧ ((r = 1 ∧ ∃ i', i ≤ i' ∧ PR T N q hx0 hm0 hx' hm' i' i' P C Tn ∧ hm' 99 14 = v ∧ 0 ≤ v.toInt ∧ v.toInt ≤ g.toInt ∧ ∀ c, c ≠ 99 → hm' c = hm c) ∨ (r = 0 ∧ FT T N q hx0 hm0 hx' hm')) := by
  obtain ⟨s1, s2, s3⟩ := sk_spec T h.rx.2.1
  obtain ⟨d1, d2, d3, d4, d5⟩ := ds_spec T s2
  obtain ⟨hx', e1, x1⟩ := x_num h.rx g
  obtain ⟨hm', v', e2, y1, y2⟩ := m_num h.mx hg
  refine ⟨_, hx', _, hm', e1, e2, ?_⟩
  rw [h.x3, h.x2, fn_0, fp_0] at x1
  rw [h.m5, h.m6] at y1
  by_cases z : nf2 T N (sk T N i) g = 0
  · rw [if_pos z, if_pos z] at x1
    rw [if_pos z]
    refine Or.inl ⟨rfl, _, by omega, (h.x1 x1 d2).m1 (y1 z) d2, (y1 z).2.2.2.1, d3, ?_, (y1 z).1⟩
    unfold nf2 at z
    by_cases z1 : dg (ltr T N (sk T N i)) = false
    · rw [if_pos z1] at z; exact absurd z one_ne
    · rw [if_neg z1] at z
      by_cases z2 : 3 < (ds T N (sk T N i)).1 - sk T N i ∨ g.toInt < (ds T N (sk T N i)).2.toInt
      · rw [if_pos z2] at z; exact absurd z (by decide)
      · omega
  · rw [if_neg z, if_neg z] at x1
    rw [if_neg z]
    obtain ⟨j, y⟩ := y2 z
    exact Or.inr ⟨rfl, _, _, z, h.xg x1 d2, h.mf.m1 y, y.2.2.2.2.1, y.2.2.2.2.2⟩
theorem p_word {T : Nat → Int32} {N q : Nat} {hx0 hm0 hx hm : HP} {i P C Tn : Nat} (h : PR T N q hx0 hm0 hx hm i i P C Tn) (c : Int32) (hc : c ≠ -1) : ∃ hx' r hm', f_Re_readWord hx c = some (0, hx') ∧ f_Mo_takes hm c = some (r, hm') ∧ ((r = 1 ∧ ∃ i', i < i' ∧ PR T N q hx0 hm0 hx' hm' i' i' P C Tn) ∨ (r = 0 ∧ FT T N q hx0 hm0 hx' hm')) := by
  obtain ⟨s1, s2, s3⟩ := sk_spec T h.rx.2.1
  obtain ⟨hx', e1, x1, x2⟩ := x_word h.rx c hc
  obtain ⟨hm', e2, y1, y2⟩ := m_takes h.mx c hc
  refine ⟨hx', _, hm', e1, e2, ?_⟩
  rw [h.x3, h.x2] at x1
  rw [h.x3, h.x2, fn_0, fp_0] at x2
  rw [h.m5, h.m6] at y1
  by_cases z : ltr T N (sk T N i) = c
  · rw [if_pos z]
    exact Or.inl ⟨rfl, _, by omega, (h.x1 (x1 z).2 (x1 z).1).m1 (y1 z).2 (y1 z).1⟩
  · rw [if_neg z]
    exact Or.inr ⟨rfl, _, _, one_ne, h.xg (x2 z) s2, h.mf.m1 (y2 z), (y2 z).2.2.2.2.1, (y2 z).2.2.2.2.2⟩
theorem p_skip {T : Nat → Int32} {N q : Nat} {hx0 hm0 hx hm : HP} {i j P C Tn : Nat} (h : PR T N q hx0 hm0 hx hm i j P C Tn) : ∃ hx', f_Re_skipBlanks hx = some (0, hx') ∧ PR T N q hx0 hm0 hx' hm (sk T N i) j P C Tn := by
  obtain ⟨s1, s2, s3⟩ := sk_spec T h.rx.2.1
  obtain ⟨hx', e1, x1⟩ := x_skip h.rx
  rw [h.x3, h.x2] at x1
  exact ⟨hx', e1, h.x1 x1 s2⟩
theorem p_here {T : Nat → Int32} {N q : Nat} {hx0 hm0 hx hm : HP} {i j P C Tn : Nat} (h : PR T N q hx0 hm0 hx hm i j P C Tn) : ∃ hm', f_Mo_here hm = some (ltr T N (sk T N j), hm') ∧ PR T N q hx0 hm0 hx hm' i (sk T N j) P C Tn ∧ hm' 99 13 = nI (sk T N j) := by
  obtain ⟨s1, s2, s3⟩ := sk_spec T h.mx.2.1
  obtain ⟨hm', e1, x1, x13⟩ := m_here h.mx
  rw [h.m5, h.m6] at x1
  exact ⟨hm', e1, h.m1 x1 s2, x13⟩
theorem p_fail {T : Nat → Int32} {N q : Nat} {hx0 hm0 hx hm : HP} {i j P C Tn : Nat} (h : PR T N q hx0 hm0 hx hm i j P C Tn) (h13 : hm 99 13 = nI i) {n : Int32} (hn : n ≠ 0) : ∃ hx' hm', f_Re_fail hx n (hx 1 4) = some (0, hx') ∧ f_Mo_fails hm n (hm 99 13) = some (0, hm') ∧ FT T N q hx0 hm0 hx' hm' := by
  obtain ⟨hx', e1, x1⟩ := x_fail hx n (hx 1 4) h.rx.2.2.2.1
  rw [h.x3, h.x2, fn_0, fp_0] at x1
  have y := M1.fail n (hm 99 13) h.mx.2.2.2.1
  refine ⟨hx', _, e1, rfl, n, _, hn, h.xg x1 h.rx.2.1, h.mf.m1 y, rfl, ?_⟩
  rw [h.rx.2.2.2.1, ← h13]
  rfl
theorem p_step {T : Nat → Int32} {N q : Nat} {hx0 hm0 hx hm : HP} {i P C Tn : Nat} (h : PR T N q hx0 hm0 hx hm i i P C Tn) (hi : i < N) : PR T N q hx0 hm0 (up hx 1 4 (hx 1 4 + 1)) (up hm 99 12 (hm 99 12 + 1)) (i + 1) (i + 1) P C Tn := by
  have x := X1.up4 hx (i + 1)
  have y := M1.up12 hm (i + 1)
  rw [h.x3, h.x2] at x
  rw [h.m5, h.m6] at y
  rw [h.rx.2.2.2.1, h.mx.2.2.2.1, nI_s]
  exact (h.x1 x hi).m1 y hi
