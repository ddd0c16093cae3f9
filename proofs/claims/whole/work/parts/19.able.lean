def ableg (hp : HP) (c t P : Nat) : Nat → Int32 × Int32 → Int32 × Int32 := fun _ s => (am hp c s.1, if dnb (nd hp) (tkn hp t) P s.1 = true then s.2 + 1 else s.2)
theorem S_able {hp : HP} (h : R hp) (a t n : Int32) : Sim hp (fun x => f_BA_able x a t n) (fun x => f_Mo_able x a t n) := by
  have hR := h
  obtain ⟨b, b', P, Cn, Tn, hr, htx, hbr, hst, him, hpa, hsl⟩ := h
  obtain ⟨ib, eb⟩ := isB_b hr
  have c5 := hbr.1.2.1
  have t6 := hbr.1.2.2
  rcases wi_n a (N := Cn) (by omega) with e1 | ⟨c, hc, rfl, e1⟩
  · refine Sim.pure (-1000000001) ?_ ?_ hR
    · simp only [f_BA_able, eb, ib, x_hasC hbr.2.1.2.1, e1, Option.bind_some, if_true]
    · simp only [f_Mo_able, m_isC hbr.2.2.1.2.1, e1, Option.bind_some, if_true]
  · rcases wi_n t (N := Tn) (by omega) with e2 | ⟨t, ht, rfl, e2⟩
    · refine Sim.pure (-1000000001) ?_ ?_ hR
      · simp only [f_BA_able, eb, ib, x_hasC hbr.2.1.2.1, e1, x_hasT hbr.2.1.2.2, e2, Option.bind_some, if_true, if_neg one_ne]
      · simp only [f_Mo_able, m_isC hbr.2.2.1.2.1, e1, m_isT hbr.2.2.1.2.2, e2, Option.bind_some, if_true, if_neg one_ne]
    · rcases @wi_lit n 1 60 with ⟨e0, -⟩ | ⟨e0, h1, h2⟩
      · refine Sim.pure (-1000000002) ?_ ?_ hR
        · simp only [f_BA_able, eb, ib, x_hasC hbr.2.1.2.1, e1, x_hasT hbr.2.1.2.2, e2, x_within, e0, Option.bind_some, if_true, if_neg one_ne]
        · simp only [f_Mo_able, m_isC hbr.2.2.1.2.1, e1, m_isT hbr.2.2.1.2.2, e2, m_in hp n 1 60 (A := 1) (B := 60) rfl rfl, e0, Option.bind_some, if_true, if_neg one_ne]
      · have i1 : (1 : Int32).toInt = 1 := rfl
        have i60 : (60 : Int32).toInt = 60 := rfl
        obtain ⟨n, hn, rfl⟩ := of_rg (x := n) (n := 61) (by omega) (by omega)
        have hba := hst.1.2.1 c (by omega)
        refine Sim.pure (it (ableg hp c t P) 0 n (hp 4 c, 0)).2 ?_ ?_ hR
        · simp only [f_BA_able, eb, ib, x_hasC hbr.2.1.2.1, e1, x_hasT hbr.2.1.2.2, e2, x_within, e0, Option.bind_some, if_true, if_neg one_ne]
          rw [if_pos (inb_n (by omega) (by omega)), cl_n (by omega)]
          refine (for_up (fun m k (s : Int32 × Int32) => f_BA_able_L55 (nI c) (nI t) (nI n) (fun hp25 w24 => some (w24, hp25)) m hp s.1 s.2 (nI k)) n (ableg hp c t P) (fun s => some (s.2, hp)) (fun _ s => -100000 ≤ s.1.toInt) ?_ ?_ n 0 FU (hp 4 c, 0) (by omega) (FU_gt (by omega)) (by show -100000 ≤ (hp 4 c).toInt; omega)).1
          · intro m k s hk hI
            obtain ⟨v, w⟩ := s
            simp only [ableg]
            refine ⟨?_, by have := am_rg hp c v; omega⟩
            rw [f_BA_able_L55, if_neg (by exact n_nle n k (by omega) (by omega)), eb, if_pos ib, x_do hbr ht hI]
            simp only [Option.bind_some, eb, ib, if_true, x_am hbr hc, nI_1, zi_ite]
            split <;> rfl
          · intro m s _
            show f_BA_able_L55 _ _ _ _ (m + 1) hp s.1 s.2 (nI n) = _
            rw [f_BA_able_L55, if_pos (by exact n_le n n (by omega) (by omega))]
        · simp only [f_Mo_able, m_isC hbr.2.2.1.2.1, e1, m_isT hbr.2.2.1.2.2, e2, m_in hp (nI n) 1 60 (A := 1) (B := 60) rfl rfl, e0, Option.bind_some, if_neg one_ne]
          rw [n_1, if_pos (inb_n (by omega) (by omega)), cl_n (by omega), ← Rst_ba hst (by omega)]
          refine (for_up (fun m k (s : Int32 × Int32) => f_Mo_able_L50 (nI c) (nI t) (nI n) (fun hp25 w24 => some (w24, hp25)) m hp s.1 s.2 (nI k)) n (ableg hp c t P) (fun s => some (s.2, hp)) (fun _ _ => True) ?_ ?_ n 0 FU (hp 4 c, 0) (by omega) (FU_gt (by omega)) trivial).1
          · intro m k s hk hI
            obtain ⟨v, w⟩ := s
            simp only [ableg]
            refine ⟨?_, trivial⟩
            rw [f_Mo_able_L50, if_neg (by exact n_nle n k (by omega) (by omega)), m_do hbr ht]
            simp only [Option.bind_some, m_am hbr hc, nI_1, zi_ite, add_00]
            split <;> rfl
          · intro m s _
            show f_Mo_able_L50 _ _ _ _ (m + 1) hp s.1 s.2 (nI n) = _
            rw [f_Mo_able_L50, if_pos (by exact n_le n n (by omega) (by omega))]
/-- the reference's least balance for a task -/
theorem mx_c (s y : Int32) : mx s y = if y ≤ s then s else y := by
  unfold mx
  by_cases h : s < y
  · rw [if_pos h, if_neg (by rw [lt_i] at h; rw [le_i]; omega)]
  · rw [if_neg h, if_pos (by rw [lt_i] at h; rw [le_i]; omega)]
theorem m_least {hp : HP} {b P Cn Tn : Nat} (h : Rbr hp b P Cn Tn) (v1 v3 : Int32) {t : Nat} (ht : t < Tn) (K : HP → Int32 → Option (Int32 × HP)) (s0 : Int32) : f_Mo_loan_L39 v1 (nI t) v3 K FU hp s0 0 = K hp (it (needg (nd hp) (nI (tkn hp t))) 0 P s0) := by
  have p8 := h.1.1
  have t6 := h.1.2.2
  refine (for_up (fun n k s => f_Mo_loan_L39 v1 (nI t) v3 K n hp s (nI k)) P (needg (nd hp) (nI (tkn hp t))) (fun s => K hp s) (fun _ _ => True) ?_ ?_ P 0 FU s0 (by omega) (FU_gt (by omega)) trivial).1
  · intro n k s hk _
    refine ⟨?_, trivial⟩
    show f_Mo_loan_L39 v1 (nI t) v3 _ (n + 1) hp s (nI k) = f_Mo_loan_L39 v1 (nI t) v3 _ n hp _ (nI (k + 1))
    rw [f_Mo_loan_L39, h.2.2.1.1, if_neg (by exact n_nle P k (by omega) (by omega)), if_pos (inb_n (by omega) (by omega)), cl_n (by omega), (tkn_eq h ht).2.1]
    unfold f_Mo_isIn needg
    by_cases hb : ((nI (tkn hp t) >>> (nI k &&& 31)) &&& (1 : Int32)) = 1
    · rw [if_pos hb, if_pos hb]
      simp only [Option.bind_some, if_neg one_ne]
      rw [if_pos (inb_n (by omega) (by omega)), cl_n (by omega), nI_1, mx_c]
      unfold nd
      split <;> rfl
    · rw [if_neg hb, if_neg hb]
      simp only [Option.bind_some, if_true]
      rw [nI_1]
  · intro n s _
    show f_Mo_loan_L39 v1 (nI t) v3 _ (n + 1) hp s (nI P) = _
    rw [f_Mo_loan_L39, h.2.2.1.1, if_pos (by exact n_le P P (by omega) (by omega))]
/-- either no part is taken, or the need is a part's need -/
theorem need_two {hp : HP} {b P Cn Tn : Nat} (h : Rbr hp b P Cn Tn) (tk : Int32) {s0 : Int32} (h0 : s0.toInt < -500) : ∀ k, k ≤ P → (it (needg (nd hp) tk) 0 k s0 = s0 ∧ ∀ s1 : Int32, s1.toInt < -500 → it (needg (nd hp) tk) 0 k s1 = s1) ∨ (-500 ≤ (it (needg (nd hp) tk) 0 k s0).toInt ∧ (it (needg (nd hp) tk) 0 k s0).toInt ≤ 499 ∧ ∀ s1 : Int32, s1.toInt < -500 → it (needg (nd hp) tk) 0 k s1 = it (needg (nd hp) tk) 0 k s0) := by
  intro k
  induction k with
  | zero => intro _; exact Or.inl ⟨rfl, fun _ _ => rfl⟩
  | succ k ih =>
    intro hk
    have hn := nd_rg h k (by omega)
    have ih := ih (by omega)
    rw [it_succ, Nat.zero_add]
    by_cases hb : ((tk >>> (nI k &&& 31)) &&& (1 : Int32)) = 1
    · refine Or.inr ?_
      have e : ∀ s, needg (nd hp) tk k s = mx s (nd hp k) := fun s => by unfold needg; rw [if_pos hb]
      rw [e]
      rcases ih with ⟨i1, i2⟩ | ⟨i1, i2, i3⟩
      · rw [i1]
        refine ⟨by rw [mx_i]; omega, by rw [mx_i]; omega, fun s1 hs1 => ?_⟩
        rw [it_succ, Nat.zero_add, i2 s1 hs1, e, eq_i, mx_i, mx_i]
        omega
      · refine ⟨by rw [mx_i]; omega, by rw [mx_i]; omega, fun s1 hs1 => ?_⟩
        rw [it_succ, Nat.zero_add, i3 s1 hs1, e]
    · have e : ∀ s, needg (nd hp) tk k s = s := fun s => by unfold needg; rw [if_neg hb]
      rw [e]
      rcases ih with ⟨i1, i2⟩ | ⟨i1, i2, i3⟩
      · exact Or.inl ⟨i1, fun s1 hs1 => by rw [it_succ, Nat.zero_add, e]; exact i2 s1 hs1⟩
      · exact Or.inr ⟨i1, i2, fun s1 hs1 => by rw [it_succ, Nat.zero_add, e]; exact i3 s1 hs1⟩
theorem S_loan {hp : HP} (h : R hp) (a t w : Int32) : Sim hp (fun x => f_BA_loan x a t w) (fun x => f_Mo_loan x a t w) := by
  have hR := h
  obtain ⟨b, b', P, Cn, Tn, hr, htx, hbr, hst, him, hpa, hsl⟩ := h
  obtain ⟨ib, eb⟩ := isB_b hr
  have c5 := hbr.1.2.1
  have t6 := hbr.1.2.2
  rcases wi_n a (N := Cn) (by omega) with e1 | ⟨c, hc, rfl, e1⟩
  · refine Sim.pure (-1000000001) ?_ ?_ hR
    · simp only [f_BA_loan, eb, ib, x_hasC hbr.2.1.2.1, e1, Option.bind_some, if_true]
    · simp only [f_Mo_loan, m_isC hbr.2.2.1.2.1, e1, Option.bind_some, if_true]
  · rcases wi_n t (N := Tn) (by omega) with e2 | ⟨t, ht, rfl, e2⟩
    · refine Sim.pure (-1000000001) ?_ ?_ hR
      · simp only [f_BA_loan, eb, ib, x_hasC hbr.2.1.2.1, e1, x_hasT hbr.2.1.2.2, e2, Option.bind_some, if_true, if_neg one_ne]
      · simp only [f_Mo_loan, m_isC hbr.2.2.1.2.1, e1, m_isT hbr.2.2.1.2.2, e2, Option.bind_some, if_true, if_neg one_ne]
    · rcases @wi_lit w 0 1 with ⟨e0, -⟩ | ⟨e0, h1, h2⟩
      · refine Sim.pure (-1000000002) ?_ ?_ hR
        · simp only [f_BA_loan, eb, ib, x_hasC hbr.2.1.2.1, e1, x_hasT hbr.2.1.2.2, e2, x_within, e0, Option.bind_some, if_true, if_neg one_ne]
        · simp only [f_Mo_loan, m_isC hbr.2.2.1.2.1, e1, m_isT hbr.2.2.1.2.2, e2, m_in hp w 0 1 (A := 0) (B := 1) rfl rfl, e0, Option.bind_some, if_true, if_neg one_ne]
      · have i1 : (1 : Int32).toInt = 1 := rfl
        have i0 : (0 : Int32).toInt = 0 := rfl
        have i9 : (9999 : Int32).toInt = 9999 := rfl
        obtain ⟨n, hn, rfl⟩ := of_rg (x := w) (n := 2) (by omega) (by omega)
        obtain ⟨-, hb1, hb2⟩ := hst.1.2.1 c (by omega)
        refine Rd2.sim ?_ hR
        simp only [f_BA_loan, eb, ib, x_hasC hbr.2.1.2.1, e1, x_hasT hbr.2.1.2.2, e2, x_within, e0, Option.bind_some, if_true, if_neg one_ne, f_Mo_loan, m_isC hbr.2.2.1.2.1, m_isT hbr.2.2.1.2.2, m_in hp (nI n) 0 1 (A := 0) (B := 1) rfl rfl, m_least hbr _ _ ht, x_needOf hbr ht, inb_n (show c < 5 by omega) (show 5 < 2 ^ 31 by decide), n_1, inb_n (show 1 + c < 736 by omega) (show 736 < 2 ^ 31 by decide), cl_n (show c < 2 ^ 31 by omega), cl_n (show 1 + c < 2 ^ 31 by omega), ← Rst_ba hst (show c < 5 by omega)]
        have nt := need_two hbr (nI (tkn hp t)) (s0 := -1000000) (by decide) P (Nat.le_refl P)
        have j1 : (-1000000 : Int32).toInt = -1000000 := rfl
        have j2 : (-100000 : Int32).toInt = -100000 := rfl
        generalize hy : it (needg (nd hp) (nI (tkn hp t))) 0 P (-1000000) = y at nt ⊢
        generalize hx : it (needg (nd hp) (nI (tkn hp t))) 0 P (-100000) = x
        have hxy : (x = y ∧ -500 ≤ y.toInt ∧ y.toInt ≤ 499) ∨ (x.toInt = -100000 ∧ y.toInt = -1000000) := by
          rcases nt with ⟨n1, n2⟩ | ⟨n1, n2, n3⟩
          · refine Or.inr ⟨?_, by rw [n1]; rfl⟩
            rw [← hx, n2 (-100000) (by decide)]; rfl
          · refine Or.inl ⟨?_, n1, n2⟩
            rw [← hx, n3 (-100000) (by decide)]
        generalize hp 4 c = v at hb1 hb2 ⊢
        have hxr : -100000 ≤ x.toInt ∧ x.toInt ≤ 499 := by
          rcases hxy with ⟨q, q1, q2⟩ | ⟨q1, q2⟩
          · rw [q]; omega
          · omega
        have dx : (v - x).toInt = v.toInt - x.toInt := sub_i (by omega)
        have dy : (v - y).toInt = v.toInt - y.toInt := sub_i (by omega)
        have nx : (-(v - x)).toInt = -(v - x).toInt := neg_i (by omega)
        rcases (show n = 0 ∨ n = 1 by omega) with rfl | rfl
        · rw [if_neg (by decide : ¬ nI 0 = 1), if_pos (by decide : nI 0 = 0)]
          rcases hxy with ⟨rfl, -, -⟩ | ⟨q1, q2⟩
          · by_cases g1 : v - x < 0
            · rw [if_pos g1]; try rw [if_pos g1]
              by_cases g2 : (9999 : Int32) < -(v - x)
              · rw [if_pos g2, if_neg (by rw [lt_i] at g2; rw [le_i]; omega)]
                exact Rd2.of rfl rfl
              · rw [if_neg g2, if_pos (by rw [lt_i] at g2; rw [le_i]; omega)]
                exact Rd2.of rfl rfl
            · rw [if_neg g1]; try rw [if_neg g1]
              exact Rd2.of rfl rfl
          · rw [if_neg (by rw [lt_i]; omega), if_neg (by rw [lt_i]; omega)]
            exact Rd2.of rfl rfl
        · rw [if_pos (by decide : nI 1 = 1), if_neg (by decide : ¬ nI 1 = 0)]
          rcases hxy with ⟨rfl, -, -⟩ | ⟨q1, q2⟩
          · by_cases g1 : 0 ≤ v - x
            · rw [if_pos g1]; try rw [if_pos g1]
              by_cases g2 : v - x ≤ 9999
              · rw [if_pos g2]
                have : mn (v - x) 9999 = v - x := by rw [le_i] at g2; rw [eq_i, mn_i]; omega
                rw [this]
                exact Rd2.of rfl rfl
              · rw [if_neg g2]
                have : mn (v - x) 9999 = 9999 := by rw [le_i] at g2; rw [eq_i, mn_i]; omega
                rw [this]
                exact Rd2.of rfl rfl
            · rw [if_neg g1]; try rw [if_neg g1]
              exact Rd2.of rfl rfl
          · rw [if_pos (by rw [le_i]; omega), if_pos (by rw [le_i]; omega), if_neg (by rw [le_i]; omega)]
            have : mn (v - x) 9999 = 9999 := by rw [eq_i, mn_i]; omega
            rw [this]
            exact Rd2.of rfl rfl
