/-! The text: blanks, figures, words; what the class and what the reference do with them. -/
/-- the letter at a place, -1 behind the end -/
def ltr (T : Nat → Int32) (N i : Nat) : Int32 := if i < N then T i else -1
def skf (T : Nat → Int32) (N : Nat) : Nat → Nat → Nat
  | 0, i => i
  | d + 1, i => if ltr T N i = 32 then skf T N d (i + 1) else i
def sk (T : Nat → Int32) (N i : Nat) : Nat := skf T N (N - i) i
theorem skf_spec (T : Nat → Int32) (N : Nat) : ∀ d i, N - i ≤ d → i ≤ N → i ≤ skf T N d i ∧ skf T N d i ≤ N ∧ ltr T N (skf T N d i) ≠ 32
  | 0, i, h, hi => by
    refine ⟨Nat.le_refl _, hi, ?_⟩
    show ltr T N i ≠ 32
    unfold ltr
    rw [if_neg (by omega)]
    decide
  | d + 1, i, h, hi => by
    unfold skf
    by_cases q : ltr T N i = 32
    · rw [if_pos q]
      have hiN : i < N := by
        unfold ltr at q
        by_cases z : i < N
        · exact z
        · rw [if_neg z] at q; exact absurd q (by decide)
      obtain ⟨a, b, c⟩ := skf_spec T N d (i + 1) (by omega) (by omega)
      exact ⟨by omega, b, c⟩
    · rw [if_neg q]
      exact ⟨Nat.le_refl _, hi, q⟩
theorem sk_spec (T : Nat → Int32) {N i : Nat} (h : i ≤ N) : i ≤ sk T N i ∧ sk T N i ≤ N ∧ ltr T N (sk T N i) ≠ 32 := skf_spec T N (N - i) i (Nat.le_refl _) h
theorem sk_id (T : Nat → Int32) {N i : Nat} (h : ltr T N i ≠ 32) : sk T N i = i := by
  unfold sk
  cases N - i with
  | zero => rfl
  | succ d => unfold skf; rw [if_neg h]
def dg (c : Int32) : Bool := decide (48 ≤ c.toInt) && decide (c.toInt ≤ 57)
def dsf (T : Nat → Int32) (N s : Nat) : Nat → Nat → Int32 → Nat × Int32
  | 0, i, v => (i, v)
  | d + 1, i, v => if dg (ltr T N i) = true then dsf T N s d (i + 1) (if i - s < 3 then v * 10 + ltr T N i - 48 else v) else (i, v)
def ds (T : Nat → Int32) (N s : Nat) : Nat × Int32 := dsf T N s (N - s) s 0
theorem dg_lt {T : Nat → Int32} {N i : Nat} (h : dg (ltr T N i) = true) : i < N := by
  unfold ltr at h
  by_cases z : i < N
  · exact z
  · rw [if_neg z] at h; exact absurd h (by decide)
theorem i48 : (48 : Int32).toInt = 48 := rfl
theorem i57 : (57 : Int32).toInt = 57 := rfl
theorem i10 : (10 : Int32).toInt = 10 := rfl
theorem dsf_spec (T : Nat → Int32) (N s : Nat) : ∀ d i v, N - i ≤ d → s ≤ i → i ≤ N → (0 ≤ v.toInt ∧ v.toInt ≤ 999 ∧ (i - s = 0 → v.toInt ≤ 0) ∧ (i - s = 1 → v.toInt ≤ 9) ∧ (i - s = 2 → v.toInt ≤ 99)) → i ≤ (dsf T N s d i v).1 ∧ (dsf T N s d i v).1 ≤ N ∧ 0 ≤ (dsf T N s d i v).2.toInt ∧ (dsf T N s d i v).2.toInt ≤ 999 ∧ dg (ltr T N (dsf T N s d i v).1) = false
  | 0, i, v, h, hs, hi, hv => by
    refine ⟨Nat.le_refl _, hi, hv.1, hv.2.1, ?_⟩
    show dg (ltr T N i) = false
    cases q : dg (ltr T N i) with
    | false => rfl
    | true => have := dg_lt q; omega
  | d + 1, i, v, h, hs, hi, hv => by
    unfold dsf
    cases q : dg (ltr T N i) with
    | false => rw [if_neg (by decide)]; exact ⟨Nat.le_refl _, hi, hv.1, hv.2.1, q⟩
    | true =>
      rw [if_pos rfl]
      have hiN := dg_lt q
      have hd : 48 ≤ (ltr T N i).toInt ∧ (ltr T N i).toInt ≤ 57 := by
        unfold dg at q
        simpa using q
      have hv' : 0 ≤ (if i - s < 3 then v * 10 + ltr T N i - 48 else v).toInt ∧ (if i - s < 3 then v * 10 + ltr T N i - 48 else v).toInt ≤ 999 ∧ (i + 1 - s = 0 → (if i - s < 3 then v * 10 + ltr T N i - 48 else v).toInt ≤ 0) ∧ (i + 1 - s = 1 → (if i - s < 3 then v * 10 + ltr T N i - 48 else v).toInt ≤ 9) ∧ (i + 1 - s = 2 → (if i - s < 3 then v * 10 + ltr T N i - 48 else v).toInt ≤ 99) := by
        by_cases c : i - s < 3
        · rw [if_pos c]
          have e1 : (v * 10).toInt = v.toInt * 10 := by rw [mul_i (by rw [i10]; omega), i10]
          have e2 : (v * 10 + ltr T N i).toInt = v.toInt * 10 + (ltr T N i).toInt := by rw [add_i (by rw [e1]; omega), e1]
          have e3 : (v * 10 + ltr T N i - 48).toInt = v.toInt * 10 + (ltr T N i).toInt - 48 := by rw [sub_i (by rw [e2, i48]; omega), e2, i48]
          rw [e3]
          obtain ⟨v1, v2, v3, v4, v5⟩ := hv
          rcases (show i - s = 0 ∨ i - s = 1 ∨ i - s = 2 by omega) with z | z | z
          · have := v3 z; omega
          · have := v4 z; omega
          · have := v5 z; omega
        · rw [if_neg c]; obtain ⟨v1, v2, v3, v4, v5⟩ := hv; omega
      obtain ⟨a, b, c, e, f⟩ := dsf_spec T N s d (i + 1) _ (by omega) (by omega) (by omega) hv'
      exact ⟨by omega, b, c, e, f⟩
theorem ds_spec (T : Nat → Int32) {N s : Nat} (h : s ≤ N) : s ≤ (ds T N s).1 ∧ (ds T N s).1 ≤ N ∧ 0 ≤ (ds T N s).2.toInt ∧ (ds T N s).2.toInt ≤ 999 ∧ dg (ltr T N (ds T N s).1) = false := dsf_spec T N s (N - s) s 0 (Nat.le_refl _) (Nat.le_refl _) h ⟨by decide, by decide, fun _ => by decide, fun _ => by decide, fun _ => by decide⟩
theorem ds_same (T : Nat → Int32) {N s : Nat} : (ds T N s).1 = s ↔ dg (ltr T N s) = false := by
  unfold ds
  cases hd : N - s with
  | zero =>
    refine ⟨fun _ => ?_, fun _ => rfl⟩
    cases q : dg (ltr T N s) with
    | false => rfl
    | true => have := dg_lt q; omega
  | succ d =>
    unfold dsf
    cases q : dg (ltr T N s) with
    | false => rw [if_neg (by decide)]; exact ⟨fun _ => rfl, fun _ => rfl⟩
    | true =>
      rw [if_pos rfl]
      have hN := dg_lt q
      have key : ∀ d i v, i ≤ (dsf T N s d i v).1 := by
        intro d
        induction d with
        | zero => intro i v; exact Nat.le_refl _
        | succ d ih =>
          intro i v
          unfold dsf
          split
          · have := ih (i + 1) (if i - s < 3 then v * 10 + ltr T N i - 48 else v); omega
          · exact Nat.le_refl _
      have := key d (s + 1) (if s - s < 3 then 0 * 10 + ltr T N s - 48 else 0)
      exact ⟨fun e => by omega, fun e => by cases e⟩
/-- the class's reader: its text, its place -/
def RX (T : Nat → Int32) (N : Nat) (hp : HP) (i : Nat) : Prop := N ≤ 240 ∧ i ≤ N ∧ hp 1 1 = nI N ∧ hp 1 4 = nI i ∧ ∀ j, j < N → hp 2 j = T j
/-- only the reader's place and fault changed -/
def X1 (hp hp' : HP) (i : Nat) (f p : Int32) : Prop := (∀ c, c ≠ 1 → hp' c = hp c) ∧ hp' 1 1 = hp 1 1 ∧ hp' 1 4 = nI i ∧ hp' 1 3 = f ∧ hp' 1 2 = p
theorem X1.rx {T : Nat → Int32} {N : Nat} {hp hp' : HP} {i i' : Nat} {f p : Int32} (h : RX T N hp i) (x : X1 hp hp' i' f p) (hi : i' ≤ N) : RX T N hp' i' :=
  ⟨h.1, hi, by rw [x.2.1]; exact h.2.2.1, x.2.2.1, fun j hj => by rw [x.1 2 (by omega)]; exact h.2.2.2.2 j hj⟩
theorem X1.trans {hp hp' hp2 : HP} {i i' : Nat} {f p f' p' : Int32} (x : X1 hp hp' i f p) (y : X1 hp' hp2 i' f' p') : X1 hp hp2 i' f' p' :=
  ⟨fun c hc => by rw [y.1 c hc, x.1 c hc], by rw [y.2.1, x.2.1], y.2.2.1, y.2.2.2.1, y.2.2.2.2⟩
theorem X1.up4 (hp : HP) (i : Nat) : X1 hp (up hp 1 4 (nI i)) i (hp 1 3) (hp 1 2) :=
  ⟨fun c hc => by rw [up_ap, if_neg hc], rfl, rfl, rfl, rfl⟩
theorem x_letter {T : Nat → Int32} {N : Nat} {hp : HP} {i : Nat} (h : RX T N hp i) : f_Re_letter hp = some (ltr T N i, hp) := by
  obtain ⟨h1, h2, h3, h4, h5⟩ := h
  unfold f_Re_letter ltr
  rw [h4, h3, if_neg (by exact n_nlt i 0 (by omega) (by omega))]
  by_cases q : i < N
  · rw [if_neg (by exact n_nle N i q (by omega)), if_neg (by exact n_nle 240 i (by omega) (by omega)), if_pos (inb_n (by omega) (by omega)), cl_n (by omega), if_pos q, h5 i q]
  · rw [if_pos (by exact n_le N i (by omega) (by omega)), if_neg q]
theorem x_skipL {T : Nat → Int32} {N : Nat} (K : HP → Option (Int32 × HP)) : ∀ d n hp i, N - i ≤ d → d < n → RX T N hp i → ∃ hp', f_Re_skipBlanks_L0 K n hp = K hp' ∧ X1 hp hp' (skf T N d i) (hp 1 3) (hp 1 2) := by
  intro d
  induction d with
  | zero =>
    intro n hp i hd hn h
    obtain ⟨n, rfl⟩ : ∃ m, n = m + 1 := ⟨n - 1, by omega⟩
    refine ⟨hp, ?_, fun _ _ => rfl, rfl, h.2.2.2.1, rfl, rfl⟩
    rw [f_Re_skipBlanks_L0, if_pos (by rw [h.2.2.1, h.2.2.2.1]; exact n_le N i (by omega) (by have := h.2.1; have := h.1; omega))]
  | succ d ih =>
    intro n hp i hd hn h
    obtain ⟨n, rfl⟩ : ∃ m, n = m + 1 := ⟨n - 1, by omega⟩
    have hN := h.1
    have hi := h.2.1
    rw [f_Re_skipBlanks_L0]
    unfold skf
    by_cases q : i < N
    · rw [if_neg (by rw [h.2.2.1, h.2.2.2.1]; exact n_nle N i q (by omega)), x_letter h, Option.bind_some]
      dsimp only
      by_cases c : ltr T N i = 32
      · rw [if_pos c, if_pos c, h.2.2.2.1, nI_s]
        have x := X1.up4 hp (i + 1)
        obtain ⟨hp', e1, e2⟩ := ih n (up hp 1 4 (nI (i + 1))) (i + 1) (by omega) (by omega) (x.rx h (by omega))
        exact ⟨hp', e1, x.trans e2⟩
      · rw [if_neg c, if_neg c]
        exact ⟨hp, rfl, fun _ _ => rfl, rfl, h.2.2.2.1, rfl, rfl⟩
    · have c : ¬ ltr T N i = 32 := by unfold ltr; rw [if_neg q]; decide
      rw [if_pos (by rw [h.2.2.1, h.2.2.2.1]; exact n_le N i (by omega) (by omega)), if_neg c]
      exact ⟨hp, rfl, fun _ _ => rfl, rfl, h.2.2.2.1, rfl, rfl⟩
theorem x_skip {T : Nat → Int32} {N : Nat} {hp : HP} {i : Nat} (h : RX T N hp i) : ∃ hp', f_Re_skipBlanks hp = some (0, hp') ∧ X1 hp hp' (sk T N i) (hp 1 3) (hp 1 2) := x_skipL _ (N - i) FU hp i (Nat.le_refl _) (FU_gt (by have := h.1; omega)) h
/-- the first fault stays -/
def fn (f n : Int32) : Int32 := if f = 0 then n else f
def fp (f p n : Int32) : Int32 := if f = 0 then n else p
theorem x_fail (hp : HP) (n w : Int32) {i : Nat} (h : hp 1 4 = nI i) : ∃ hp', f_Re_fail hp n w = some (0, hp') ∧ X1 hp hp' i (fn (hp 1 3) n) (fp (hp 1 3) (hp 1 2) w) := by
  unfold f_Re_fail fn fp
  by_cases q : hp 1 3 = 0
  · rw [if_pos q, if_pos q, if_pos q]
    exact ⟨_, rfl, fun c hc => by rw [up_ap, if_neg hc, up_ap, if_neg hc], rfl, h, rfl, rfl⟩
  · rw [if_neg q, if_neg q, if_neg q]
    exact ⟨_, rfl, fun _ _ => rfl, rfl, h, rfl, rfl⟩
theorem x_isFigure (hp : HP) (c : Int32) : f_Re_isFigure hp c = some (zi (dg c), hp) := by
  unfold f_Re_isFigure dg zi
  by_cases h1 : c < 48
  · rw [if_pos h1]
    rw [lt_i, i48] at h1
    rw [decide_eq_false (by omega)]; rfl
  · rw [if_neg h1]
    rw [lt_i, i48] at h1
    by_cases h2 : 57 < c
    · rw [if_pos h2]
      rw [lt_i, i57] at h2
      rw [decide_eq_true (by omega), decide_eq_false (by omega)]; rfl
    · rw [if_neg h2]
      rw [lt_i, i57] at h2
      rw [decide_eq_true (by omega), decide_eq_true (by omega)]; rfl
theorem x_numL {T : Nat → Int32} {N s : Nat} (v1 : Int32) (K : HP → Int32 → Option (Int32 × HP)) : ∀ d n hp i v, N - i ≤ d → d < n → s ≤ i → RX T N hp i → ∃ hp', f_Re_readNumber_L11 v1 (nI s) K n hp v = K hp' (dsf T N s d i v).2 ∧ X1 hp hp' (dsf T N s d i v).1 (hp 1 3) (hp 1 2) := by
  intro d
  induction d with
  | zero =>
    intro n hp i v hd hn hs h
    obtain ⟨n, rfl⟩ : ∃ m, n = m + 1 := ⟨n - 1, by omega⟩
    refine ⟨hp, ?_, fun _ _ => rfl, rfl, h.2.2.2.1, rfl, rfl⟩
    rw [f_Re_readNumber_L11, if_pos (by rw [h.2.2.1, h.2.2.2.1]; exact n_le N i (by omega) (by have := h.2.1; have := h.1; omega))]
    rfl
  | succ d ih =>
    intro n hp i v hd hn hs h
    obtain ⟨n, rfl⟩ : ∃ m, n = m + 1 := ⟨n - 1, by omega⟩
    have hN := h.1
    have hi := h.2.1
    rw [f_Re_readNumber_L11]
    unfold dsf
    by_cases q : i < N
    · rw [if_neg (by rw [h.2.2.1, h.2.2.2.1]; exact n_nle N i q (by omega)), x_letter h, Option.bind_some]
      dsimp only
      rw [x_isFigure, Option.bind_some]
      dsimp only
      rw [zi_ite]
      cases c : dg (ltr T N i) with
      | false =>
        rw [if_neg (by decide), if_neg (by decide)]
        exact ⟨hp, rfl, fun _ _ => rfl, rfl, h.2.2.2.1, rfl, rfl⟩
      | true =>
        rw [if_pos rfl, if_pos rfl, x_letter h, Option.bind_some]
        simp only [h.2.2.2.1, pk_sub hs, nI_s]
        have x := X1.up4 hp (i + 1)
        by_cases c3 : i - s < 3
        · rw [if_neg (by exact n_nle 3 (i - s) c3 (by omega)), if_pos c3]
          obtain ⟨hp', e1, e2⟩ := ih n (up hp 1 4 (nI (i + 1))) (i + 1) (v * 10 + ltr T N i - 48) (by omega) (by omega) (by omega) (x.rx h (by omega))
          exact ⟨hp', e1, x.trans e2⟩
        · rw [if_pos (by exact n_le 3 (i - s) (by omega) (by omega)), if_neg c3]
          obtain ⟨hp', e1, e2⟩ := ih n (up hp 1 4 (nI (i + 1))) (i + 1) v (by omega) (by omega) (by omega) (x.rx h (by omega))
          exact ⟨hp', e1, x.trans e2⟩
    · rw [if_pos (by rw [h.2.2.1, h.2.2.2.1]; exact n_le N i (by omega) (by omega))]
      cases c : dg (ltr T N i) with
      | false =>
        rw [if_neg (by decide)]
        exact ⟨hp, rfl, fun _ _ => rfl, rfl, h.2.2.2.1, rfl, rfl⟩
      | true => have := dg_lt c; omega
/-- what is wrong with a number that begins at s: nothing (0), no number (1), too long or too large (2) -/
def nf2 (T : Nat → Int32) (N s : Nat) (g : Int32) : Int32 := if dg (ltr T N s) = false then 1 else if 3 < (ds T N s).1 - s ∨ g.toInt < (ds T N s).2.toInt then 2 else 0
theorem x_num {T : Nat → Int32} {N : Nat} {hp : HP} {i : Nat} (h : RX T N hp i) (g : Int32) : ∃ hp', f_Re_readNumber hp g = some ((ds T N (sk T N i)).2, hp') ∧ X1 hp hp' (ds T N (sk T N i)).1 (if nf2 T N (sk T N i) g = 0 then hp 1 3 else fn (hp 1 3) (nf2 T N (sk T N i) g)) (if nf2 T N (sk T N i) g = 0 then hp 1 2 else fp (hp 1 3) (hp 1 2) (nI (sk T N i))) := by
  have hN := h.1
  obtain ⟨s1, s2, s3⟩ := sk_spec T h.2.1
  obtain ⟨d1, d2, d3, d4, d5⟩ := ds_spec T s2
  obtain ⟨hp1, e1, x1⟩ := x_skip h
  have h1 := x1.rx h s2
  unfold f_Re_readNumber
  rw [e1, Option.bind_some]
  simp only [h1.2.2.2.1]
  generalize hs : sk T N i = s at *
  have same := ds_same T (N := N) (s := s)
  obtain ⟨hp2, e2, x2⟩ := x_numL (T := T) (N := N) (s := s) g (fun hp13 w12 => if (hp13 1 4) = nI s then ((f_Re_fail hp13 (1 : Int32) (nI s)).bind fun p16 => some (w12, p16.2)) else if (3 : Int32) < ((hp13 1 4) - nI s) then ((f_Re_fail hp13 (2 : Int32) (nI s)).bind fun p19 => some (w12, p19.2)) else if w12 ≤ g then some (w12, hp13) else ((f_Re_fail hp13 (2 : Int32) (nI s)).bind fun p22 => some (w12, p22.2))) (N - s) FU hp1 s 0 (Nat.le_refl _) (FU_gt (by omega)) (Nat.le_refl _) h1
  have x2' : X1 hp1 hp2 (ds T N s).1 (hp1 1 3) (hp1 1 2) := x2
  have h2 := x2'.rx h1 d2
  have xx := x1.trans x2'
  rw [x1.2.2.2.1, x1.2.2.2.2] at xx
  refine (show ∃ hp', _ = _ ∧ _ from ?_)
  rw [e2]
  show ∃ hp', (if hp2 1 4 = nI s then _ else _) = _ ∧ _
  rw [h2.2.2.2.1]
  have ev : (dsf T N s (N - s) s 0).2 = (ds T N s).2 := rfl
  rw [ev]
  by_cases q : dg (ltr T N s) = false
  · have en : nf2 T N s g = 1 := by unfold nf2; rw [if_pos q]
    rw [if_pos (by rw [same.mpr q]), en, if_neg one_ne, if_neg one_ne]
    obtain ⟨hp3, e3, x3⟩ := x_fail hp2 1 (nI s) h2.2.2.2.1
    rw [e3]
    refine ⟨hp3, rfl, ?_⟩
    rw [xx.2.2.2.1, xx.2.2.2.2] at x3
    exact xx.trans x3
  · have ns : (ds T N s).1 ≠ s := fun e => q (same.mp e)
    rw [if_neg (by exact n_ne _ _ ns (by omega) (by omega)), pk_sub (by omega)]
    by_cases c1 : 3 < (ds T N s).1 - s
    · have en : nf2 T N s g = 2 := by unfold nf2; rw [if_neg q, if_pos (Or.inl c1)]
      rw [if_pos (by exact n_lt 3 _ c1 (by omega)), en, if_neg (by decide), if_neg (by decide)]
      obtain ⟨hp3, e3, x3⟩ := x_fail hp2 2 (nI s) h2.2.2.2.1
      rw [e3]
      refine ⟨hp3, rfl, ?_⟩
      rw [xx.2.2.2.1, xx.2.2.2.2] at x3
      exact xx.trans x3
    · rw [if_neg (by exact n_nlt 3 _ (by omega) (by omega))]
      by_cases c2 : (ds T N s).2 ≤ g
      · have en : nf2 T N s g = 0 := by unfold nf2; rw [if_neg q, if_neg (by rw [le_i] at c2; omega)]
        rw [if_pos c2, en, if_pos rfl, if_pos rfl]
        exact ⟨hp2, rfl, xx⟩
      · have en : nf2 T N s g = 2 := by unfold nf2; rw [if_neg q, if_pos (by rw [le_i] at c2; omega)]
        rw [if_neg c2, en, if_neg (by decide), if_neg (by decide)]
        obtain ⟨hp3, e3, x3⟩ := x_fail hp2 2 (nI s) h2.2.2.2.1
        rw [e3]
        refine ⟨hp3, rfl, ?_⟩
        rw [xx.2.2.2.1, xx.2.2.2.2] at x3
        exact xx.trans x3
theorem x_word {T : Nat → Int32} {N : Nat} {hp : HP} {i : Nat} (h : RX T N hp i) (c : Int32) (hc : c ≠ -1) : ∃ hp', f_Re_readWord hp c = some (0, hp') ∧ (ltr T N (sk T N i) = c → sk T N i < N ∧ X1 hp hp' (sk T N i + 1) (hp 1 3) (hp 1 2)) ∧ (ltr T N (sk T N i) ≠ c → X1 hp hp' (sk T N i) (fn (hp 1 3) 1) (fp (hp 1 3) (hp 1 2) (nI (sk T N i)))) := by
  have hN := h.1
  obtain ⟨s1, s2, s3⟩ := sk_spec T h.2.1
  obtain ⟨hp1, e1, x1⟩ := x_skip h
  have h1 := x1.rx h s2
  unfold f_Re_readWord
  rw [e1, Option.bind_some]
  dsimp only
  rw [x_letter h1, Option.bind_some]
  dsimp only
  rw [h1.2.2.2.1]
  by_cases q : ltr T N (sk T N i) = c
  · rw [if_pos q, nI_s]
    refine ⟨_, rfl, fun _ => ⟨?_, ?_⟩, fun n => absurd q n⟩
    · unfold ltr at q
      by_cases z : sk T N i < N
      · exact z
      · rw [if_neg z] at q; exact absurd q.symm hc
    · have := x1.trans (X1.up4 hp1 (sk T N i + 1))
      rw [x1.2.2.2.1, x1.2.2.2.2] at this
      exact this
  · rw [if_neg q]
    obtain ⟨hp3, e3, x3⟩ := x_fail hp1 1 (nI (sk T N i)) h1.2.2.2.1
    rw [e3]
    refine ⟨hp3, rfl, fun n => absurd n q, fun _ => ?_⟩
    have := x1.trans x3
    rw [x1.2.2.2.1, x1.2.2.2.2] at this
    exact this
