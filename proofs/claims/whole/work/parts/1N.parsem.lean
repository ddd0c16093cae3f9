/-- the reference's reader -/
def MX (T : Nat → Int32) (N : Nat) (hp : HP) (i : Nat) : Prop := N ≤ 240 ∧ i ≤ N ∧ hp 99 11 = nI N ∧ hp 99 12 = nI i ∧ ∀ j, j < N → hp 106 j = T j
/-- only its place, start, number and fault changed -/
def M1 (hp hp' : HP) (i : Nat) (v f p : Int32) : Prop := (∀ c, c ≠ 99 → hp' c = hp c) ∧ (∀ j, j ≠ 12 → j ≠ 13 → j ≠ 14 → j ≠ 15 → j ≠ 16 → hp' 99 j = hp 99 j) ∧ hp' 99 12 = nI i ∧ hp' 99 14 = v ∧ hp' 99 15 = f ∧ hp' 99 16 = p
theorem M1.mx {T : Nat → Int32} {N : Nat} {hp hp' : HP} {i i' : Nat} {v f p : Int32} (h : MX T N hp i) (x : M1 hp hp' i' v f p) (hi : i' ≤ N) : MX T N hp' i' :=
  ⟨h.1, hi, by rw [x.2.1 11 (by omega) (by omega) (by omega) (by omega) (by omega)]; exact h.2.2.1, x.2.2.1, fun j hj => by rw [x.1 106 (by omega)]; exact h.2.2.2.2 j hj⟩
theorem M1.trans {hp hp' hp2 : HP} {i i' : Nat} {v f p v' f' p' : Int32} (x : M1 hp hp' i v f p) (y : M1 hp' hp2 i' v' f' p') : M1 hp hp2 i' v' f' p' :=
  ⟨fun c hc => by rw [y.1 c hc, x.1 c hc], fun j a1 a2 a3 a4 a5 => by rw [y.2.1 j a1 a2 a3 a4 a5, x.2.1 j a1 a2 a3 a4 a5], y.2.2⟩
theorem M1.rfl' {hp : HP} {i : Nat} (h : hp 99 12 = nI i) : M1 hp hp i (hp 99 14) (hp 99 15) (hp 99 16) := ⟨fun _ _ => rfl, fun _ _ _ _ _ _ => rfl, h, rfl, rfl, rfl⟩
theorem M1.up12 (hp : HP) (i : Nat) : M1 hp (up hp 99 12 (nI i)) i (hp 99 14) (hp 99 15) (hp 99 16) :=
  ⟨fun c hc => by rw [up_ap, if_neg hc], fun j a1 _ _ _ _ => by rw [up_ap, if_pos rfl, upd_ap, if_neg a1], rfl, rfl, rfl, rfl⟩
theorem M1.up13 {hp : HP} {i : Nat} (s : Int32) (h : hp 99 12 = nI i) : M1 hp (up hp 99 13 s) i (hp 99 14) (hp 99 15) (hp 99 16) :=
  ⟨fun c hc => by rw [up_ap, if_neg hc], fun j _ a1 _ _ _ => by rw [up_ap, if_pos rfl, upd_ap, if_neg a1], h, rfl, rfl, rfl⟩
theorem M1.up14 {hp : HP} {i : Nat} (v : Int32) (h : hp 99 12 = nI i) : M1 hp (up hp 99 14 v) i v (hp 99 15) (hp 99 16) :=
  ⟨fun c hc => by rw [up_ap, if_neg hc], fun j _ _ a1 _ _ => by rw [up_ap, if_pos rfl, upd_ap, if_neg a1], h, rfl, rfl, rfl⟩
theorem M1.fail {hp : HP} {i : Nat} (f p : Int32) (h : hp 99 12 = nI i) : M1 hp (up (up hp 99 15 f) 99 16 p) i (hp 99 14) f p :=
  ⟨fun c hc => by rw [up_ap, if_neg hc, up_ap, if_neg hc], fun j _ _ _ a1 a2 => by rw [up_ap, if_pos rfl, upd_ap, if_neg a2, up_ap, if_pos rfl, upd_ap, if_neg a1], h, rfl, rfl, rfl⟩
theorem m_letterAt {T : Nat → Int32} {N : Nat} {hp : HP} {i : Nat} (h : MX T N hp i) : f_Mo_letterAt hp (hp 99 12) = some (ltr T N i, hp) := by
  obtain ⟨h1, h2, h3, h4, h5⟩ := h
  unfold f_Mo_letterAt ltr
  rw [h4, h3]
  by_cases q : i < N
  · rw [if_neg (by exact n_nle N i q (by omega)), if_pos (inb_n (by omega) (by omega)), cl_n (by omega), if_pos q, h5 i q]
  · rw [if_pos (by exact n_le N i (by omega) (by omega)), if_neg q]
theorem m_hereL {T : Nat → Int32} {N : Nat} (K : HP → Option (Int32 × HP)) : ∀ d n hp i, N - i ≤ d → d < n → MX T N hp i → ∃ hp', f_Mo_here_L0 K n hp = K hp' ∧ M1 hp hp' (skf T N d i) (hp 99 14) (hp 99 15) (hp 99 16) := by
  intro d
  induction d with
  | zero =>
    intro n hp i hd hn h
    obtain ⟨n, rfl⟩ : ∃ m, n = m + 1 := ⟨n - 1, by omega⟩
    refine ⟨hp, ?_, M1.rfl' h.2.2.2.1⟩
    rw [f_Mo_here_L0, m_letterAt h, Option.bind_some]
    dsimp only
    have c : ¬ ltr T N i = 32 := by unfold ltr; rw [if_neg (by omega)]; decide
    rw [if_neg c]
  | succ d ih =>
    intro n hp i hd hn h
    obtain ⟨n, rfl⟩ : ∃ m, n = m + 1 := ⟨n - 1, by omega⟩
    rw [f_Mo_here_L0, m_letterAt h, Option.bind_some]
    unfold skf
    dsimp only
    by_cases c : ltr T N i = 32
    · have hiN : i < N := by
        unfold ltr at c
        by_cases z : i < N
        · exact z
        · rw [if_neg z] at c; exact absurd c (by decide)
      rw [if_pos c, if_pos c, h.2.2.2.1, nI_s]
      have x := M1.up12 hp (i + 1)
      obtain ⟨hp', e1, e2⟩ := ih n (up hp 99 12 (nI (i + 1))) (i + 1) (by omega) (by omega) (x.mx h (by omega))
      exact ⟨hp', e1, x.trans e2⟩
    · rw [if_neg c, if_neg c]
      exact ⟨hp, rfl, M1.rfl' h.2.2.2.1⟩
theorem m_here {T : Nat → Int32} {N : Nat} {hp : HP} {i : Nat} (h : MX T N hp i) : ∃ hp', f_Mo_here hp = some (ltr T N (sk T N i), hp') ∧ M1 hp hp' (sk T N i) (hp 99 14) (hp 99 15) (hp 99 16) ∧ hp' 99 13 = nI (sk T N i) := by
  obtain ⟨s1, s2, s3⟩ := sk_spec T h.2.1
  unfold f_Mo_here
  obtain ⟨hp1, e1, x1⟩ := m_hereL (T := T) (N := N) (fun hp4 => ((f_Mo_letterAt (up hp4 99 13 (hp4 99 12)) ((up hp4 99 13 (hp4 99 12)) 99 12)).bind fun p6 => some (p6.1, p6.2))) (N - i) FU hp i (Nat.le_refl _) (FU_gt (by have := h.1; omega)) h
  have h1 := M1.mx h x1 s2
  have x2 := M1.up13 (hp1 99 12) h1.2.2.2.1
  have h2 := M1.mx h1 x2 s2
  rw [e1]
  rw [m_letterAt h2]
  refine ⟨_, rfl, ?_, ?_⟩
  · have := x1.trans x2
    rw [x1.2.2.2.1, x1.2.2.2.2.1, x1.2.2.2.2.2] at this
    exact this
  · show hp1 99 12 = _
    exact h1.2.2.2.1
theorem wi_dg (c : Int32) : wi c 48 57 = zi (dg c) := by
  rcases @wi_lit c 48 57 with ⟨e, h⟩ | ⟨e, h1, h2⟩
  · rw [e]
    unfold dg
    rw [i48, i57] at h
    rcases h with h | h
    · rw [decide_eq_false (by omega)]; rfl
    · rw [decide_eq_false (p := c.toInt ≤ 57) (by omega), Bool.and_false]; rfl
  · rw [e]
    unfold dg
    rw [i48] at h1
    rw [i57] at h2
    rw [decide_eq_true h1, decide_eq_true h2]; rfl
theorem m_numL {T : Nat → Int32} {N s : Nat} (v1 v2 : Int32) (K : HP → Option (Int32 × HP)) : ∀ d n hp i, N - i ≤ d → d < n → s ≤ i → MX T N hp i → hp 99 13 = nI s → ∃ hp', f_Mo_takesNumber_L32 v1 v2 K n hp = K hp' ∧ M1 hp hp' (dsf T N s d i (hp 99 14)).1 (dsf T N s d i (hp 99 14)).2 (hp 99 15) (hp 99 16) ∧ hp' 99 13 = nI s := by
  intro d
  induction d with
  | zero =>
    intro n hp i hd hn hs h h13
    obtain ⟨n, rfl⟩ : ∃ m, n = m + 1 := ⟨n - 1, by omega⟩
    refine ⟨hp, ?_, M1.rfl' h.2.2.2.1, h13⟩
    rw [f_Mo_takesNumber_L32, m_letterAt h, Option.bind_some]
    dsimp only
    rw [m_in hp (ltr T N i) 48 57 (A := 48) (B := 57) rfl rfl, wi_dg, Option.bind_some]
    dsimp only
    rw [zi_ite]
    cases c : dg (ltr T N i) with
    | false => rw [if_neg (by decide)]
    | true => have := dg_lt c; omega
  | succ d ih =>
    intro n hp i hd hn hs h h13
    obtain ⟨n, rfl⟩ : ∃ m, n = m + 1 := ⟨n - 1, by omega⟩
    have hN := h.1
    rw [f_Mo_takesNumber_L32, m_letterAt h, Option.bind_some]
    unfold dsf
    dsimp only
    rw [m_in hp (ltr T N i) 48 57 (A := 48) (B := 57) rfl rfl, wi_dg, Option.bind_some]
    dsimp only
    rw [zi_ite]
    cases c : dg (ltr T N i) with
    | false =>
      rw [if_neg (by decide), if_neg (by decide)]
      exact ⟨hp, rfl, M1.rfl' h.2.2.2.1, h13⟩
    | true =>
      have hiN := dg_lt c
      rw [if_pos rfl, if_pos rfl, m_letterAt h, Option.bind_some]
      simp only [h13]
      by_cases c3 : i - s < 3
      · rw [if_neg (by rw [h.2.2.2.1, pk_sub hs]; exact n_nle 3 (i - s) c3 (by omega)), if_pos c3]
        have ev : ((10 : Int32) * hp 99 14 + ltr T N i) - 48 = hp 99 14 * 10 + ltr T N i - 48 := by rw [Int32.mul_comm]
        rw [ev]
        generalize hp 99 14 * 10 + ltr T N i - 48 = v
        have x1 := M1.up14 v h.2.2.2.1
        have e12 : up hp 99 14 v 99 12 = nI i := h.2.2.2.1
        rw [e12, nI_s]
        have x2 := M1.up12 (up hp 99 14 v) (i + 1)
        have xx := x1.trans x2
        have h2 := M1.mx h xx (by omega)
        obtain ⟨hp', e1, e2, e3⟩ := ih n _ (i + 1) (by omega) (by omega) (by omega) h2 h13
        exact ⟨hp', e1, xx.trans e2, e3⟩
      · rw [if_pos (by rw [h.2.2.2.1, pk_sub hs]; exact n_le 3 (i - s) (by omega) (by omega)), if_neg c3]
        have x1 := M1.up14 (hp 99 14) h.2.2.2.1
        have e12 : up hp 99 14 (hp 99 14) 99 12 = nI i := h.2.2.2.1
        rw [e12, nI_s]
        have x2 := M1.up12 (up hp 99 14 (hp 99 14)) (i + 1)
        have xx := x1.trans x2
        have h2 := M1.mx h xx (by omega)
        obtain ⟨hp', e1, e2, e3⟩ := ih n _ (i + 1) (by omega) (by omega) (by omega) h2 h13
        exact ⟨hp', e1, xx.trans e2, e3⟩
theorem m_num {T : Nat → Int32} {N : Nat} {hp : HP} {i : Nat} (h : MX T N hp i) {g : Int32} (hg : 0 ≤ g.toInt) : ∃ hp' v', f_Mo_takesNumber hp 0 g = some (if nf2 T N (sk T N i) g = 0 then 1 else 0, hp') ∧ (nf2 T N (sk T N i) g = 0 → M1 hp hp' (ds T N (sk T N i)).1 (ds T N (sk T N i)).2 (hp 99 15) (hp 99 16)) ∧ (nf2 T N (sk T N i) g ≠ 0 → ∃ j, M1 hp hp' j v' (nf2 T N (sk T N i) g) (nI (sk T N i))) := by
  have hN := h.1
  obtain ⟨s1, s2, s3⟩ := sk_spec T h.2.1
  obtain ⟨d1, d2, d3, d4, d5⟩ := ds_spec T s2
  obtain ⟨hp1, e1, x1, x13⟩ := m_here h
  have h1 := M1.mx h x1 s2
  unfold f_Mo_takesNumber
  rw [e1, Option.bind_some]
  dsimp only
  rw [m_in hp1 _ 48 57 (A := 48) (B := 57) rfl rfl, wi_dg, Option.bind_some]
  dsimp only
  rw [zi_ite]
  generalize hs : sk T N i = s at *
  by_cases q : dg (ltr T N s) = false
  · have en : nf2 T N s g = 1 := by unfold nf2; rw [if_pos q]
    rw [en, q, if_neg (by decide), if_neg one_ne]
    unfold f_Mo_fails
    rw [Option.bind_some]
    dsimp only
    rw [rz_0]
    refine ⟨_, hp1 99 14, rfl, fun z => absurd z one_ne, fun _ => ⟨s, ?_⟩⟩
    rw [x13]
    exact x1.trans (M1.fail 1 (nI s) h1.2.2.2.1)
  · have qt : dg (ltr T N s) = true := by
      cases z : dg (ltr T N s) with
      | false => exact absurd z q
      | true => rfl
    rw [qt, if_pos rfl]
    have x2 := M1.up14 (0 : Int32) h1.2.2.2.1
    have h2 := M1.mx h1 x2 s2
    obtain ⟨hp3, e3, x3, x33⟩ := m_numL (T := T) (N := N) (s := s) (0 : Int32) g (fun hp16 => if (4 : Int32) ≤ ((hp16 99 12) - (hp16 99 13)) then ((f_Mo_fails hp16 (2 : Int32) (hp16 99 13)).bind fun p19 => if p19.1 = 0 then some ((0 : Int32), p19.2) else some ((1 : Int32), p19.2)) else ((f_Mo_in hp16 ((hp16 99 14)).toInt64 (0 : Int32).toInt64 (g).toInt64).bind fun p22 => if p22.1 = 0 then ((f_Mo_fails p22.2 (2 : Int32) (p22.2 99 13)).bind fun p25 => if p25.1 = 0 then some ((0 : Int32), p25.2) else some ((1 : Int32), p25.2)) else some ((1 : Int32), p22.2))) (N - s) FU (up hp1 99 14 0) s (Nat.le_refl _) (FU_gt (by omega)) (Nat.le_refl _) h2 x13
    have x3' : M1 (up hp1 99 14 0) hp3 (ds T N s).1 (ds T N s).2 (hp1 99 15) (hp1 99 16) := x3
    have h3 := M1.mx h2 x3' d2
    have xx := (x1.trans x2).trans x3'
    rw [x1.2.2.2.2.1, x1.2.2.2.2.2] at xx
    rw [e3]
    simp only [h3.2.2.2.1, x33, pk_sub d1]
    unfold f_Mo_fails
    by_cases c1 : 3 < (ds T N s).1 - s
    · have en : nf2 T N s g = 2 := by unfold nf2; rw [if_neg q, if_pos (Or.inl c1)]
      rw [if_pos (by exact n_le 4 _ (by omega) (by omega)), Option.bind_some]
      dsimp only
      rw [if_pos rfl, en, if_neg (by decide)]
      refine ⟨_, hp3 99 14, rfl, fun z => absurd z (by decide), fun _ => ⟨(ds T N s).1, ?_⟩⟩
      exact xx.trans (M1.fail 2 (nI s) h3.2.2.2.1)
    · rw [if_neg (by exact n_nle 4 _ (by omega) (by omega)), m_in hp3 _ 0 g (A := (0 : Int32).toInt64) rfl rfl, Option.bind_some]
      dsimp only
      rw [xx.2.2.2.1]
      rcases @wi_lit (ds T N s).2 0 g with ⟨ew, hw⟩ | ⟨ew, hw1, hw2⟩
      · rw [i0] at hw
        have en : nf2 T N s g = 2 := by unfold nf2; rw [if_neg q, if_pos (by omega)]
        rw [ew, if_pos rfl, Option.bind_some]
        dsimp only
        rw [if_pos rfl, en, if_neg (by decide), x33]
        refine ⟨_, hp3 99 14, rfl, fun z => absurd z (by decide), fun _ => ⟨(ds T N s).1, ?_⟩⟩
        exact xx.trans (M1.fail 2 (nI s) h3.2.2.2.1)
      · have en : nf2 T N s g = 0 := by unfold nf2; rw [if_neg q, if_neg (by omega)]
        rw [ew, if_neg one_ne, en, if_pos rfl]
        exact ⟨hp3, 0, rfl, fun _ => xx, fun z => absurd rfl z⟩
theorem m_takes {T : Nat → Int32} {N : Nat} {hp : HP} {i : Nat} (h : MX T N hp i) (c : Int32) (hc : c ≠ -1) : ∃ hp', f_Mo_takes hp c = some (if ltr T N (sk T N i) = c then 1 else 0, hp') ∧ (ltr T N (sk T N i) = c → sk T N i < N ∧ M1 hp hp' (sk T N i + 1) (hp 99 14) (hp 99 15) (hp 99 16)) ∧ (ltr T N (sk T N i) ≠ c → M1 hp hp' (sk T N i) (hp 99 14) 1 (nI (sk T N i))) := by
  obtain ⟨s1, s2, s3⟩ := sk_spec T h.2.1
  obtain ⟨hp1, e1, x1, x13⟩ := m_here h
  have h1 := M1.mx h x1 s2
  unfold f_Mo_takes
  rw [e1, Option.bind_some]
  dsimp only
  by_cases q : ltr T N (sk T N i) = c
  · rw [if_pos q, if_pos q, h1.2.2.2.1, nI_s]
    refine ⟨_, rfl, fun _ => ⟨?_, ?_⟩, fun n => absurd q n⟩
    · unfold ltr at q
      by_cases z : sk T N i < N
      · exact z
      · rw [if_neg z] at q; exact absurd q.symm hc
    · have := x1.trans (M1.up12 hp1 (sk T N i + 1))
      rw [x1.2.2.2.1, x1.2.2.2.2.1, x1.2.2.2.2.2] at this
      exact this
  · rw [if_neg q, if_neg q]
    unfold f_Mo_fails
    rw [Option.bind_some]
    dsimp only
    rw [rz_0, x13]
    refine ⟨_, rfl, fun n => absurd n q, fun _ => ?_⟩
    have := x1.trans (M1.fail 1 (nI (sk T N i)) h1.2.2.2.1)
    rw [x1.2.2.2.1] at this
    exact this
