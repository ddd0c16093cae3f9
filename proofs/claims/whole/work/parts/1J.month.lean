theorem am_cong {hp hp' : HP} (h1 : hp' 103 = hp 103) (h2 : hp' 104 = hp 104) (c : Nat) : am hp' c = am hp c := by
  funext v; unfold am; rw [h1, h2]
def hxm (hp : HP) (ba : Nat → Int32) (mo : Int32) : HP := setc (up hp 3 2 mo) 4 ba
theorem hxm_o (hp : HP) (ba : Nat → Int32) (mo : Int32) {q : Nat} (h3 : q ≠ 3) (h4 : q ≠ 4) : hxm hp ba mo q = hp q := by
  unfold hxm; rw [setc_ap, if_neg h4, up_ap, if_neg h3]
theorem hxm_up (hp : HP) (ba : Nat → Int32) (mo m2 : Int32) : up (hxm hp ba mo) 3 2 m2 = hxm hp ba m2 := by
  funext q
  by_cases q3 : q = 3
  · subst q3
    show upd (upd (hp 3) 2 mo) 2 m2 = upd (hp 3) 2 m2
    funext j
    simp only [upd_ap]
    by_cases e : j = 2
    · rw [if_pos e, if_pos e]
    · rw [if_neg e, if_neg e, if_neg e]
  · rw [up_ap, if_neg q3]
    unfold hxm
    rw [setc_ap, setc_ap, up_ap, up_ap, if_neg q3, if_neg q3]
def pmx (f : Nat → Int32 → Int32) (Cn : Nat) (ba : Nat → Int32) : Nat → Int32 := it (fun c ba => upd ba c (f c (ba c))) 0 Cn ba
def pmm (f : Nat → Int32 → Int32) (Cn : Nat) (w : Nat → Int32) : Nat → Int32 := it (fun c w => upd w (1 + c) (f c (w (1 + c)))) 0 Cn w
theorem pm_SE {f : Nat → Int32 → Int32} (hf : ∀ c v, -9999 ≤ (f c v).toInt ∧ (f c v).toInt ≤ 9999) {Cn : Nat} {mo : Int32} {ba de w : Nat → Int32} (h : SE Cn mo ba de w 0) : ∀ k, k ≤ 5 → SE Cn mo (pmx f k ba) de (pmm f k w) 0 := by
  intro k
  induction k with
  | zero => intro _; exact h
  | succ k ih =>
    intro hk
    have ih := ih (by omega)
    unfold pmx pmm at *
    rw [it_succ, it_succ, Nat.zero_add]
    have e := (ih.2.1 k (by omega)).1
    rw [show 0 + 1 + k = 1 + k by omega] at e
    rw [← e]
    exact SE_bal (by omega) (hf _ _) ih
theorem pmm_far (f : Nat → Int32 → Int32) (w : Nat → Int32) {j : Nat} (hj : 6 ≤ j) : ∀ k, k ≤ 5 → pmm f k w j = w j := by
  intro k
  induction k with
  | zero => intro _; rfl
  | succ k ih =>
    intro hk
    have ih := ih (by omega)
    unfold pmm at *
    rw [it_succ, Nat.zero_add, upd_ap, if_neg (by omega)]
    exact ih
theorem x_pass {hp : HP} {b P Cn Tn : Nat} (hb : b = 87 ∨ b = 93) (h : Rbr hp b P Cn Tn) (ba : Nat → Int32) (mo : Int32) : f_St_passMonth (hxm hp ba mo) 3 b = some (0, hxm hp (pmx (am hp) Cn ba) (mo + 1)) := by
  have c5 := h.1.2.1
  have hB : ∀ ba, Rbr (hxm hp ba mo) b P Cn Tn := fun ba => Rbr_cong hp hb (fun q hq => hxm_o hp ba mo (by omega) (by omega)) rfl rfl rfl h
  unfold f_St_passMonth
  have key := (for_up (fun n k (ba : Nat → Int32) => f_St_passMonth_L2 3 b (fun hp5 => some ((0 : Int32), (up hp5 3 2 ((hp5 3 2) + (1 : Int32))))) n (hxm hp ba mo) (nI k)) Cn (fun c ba => upd ba c (am hp c (ba c))) (fun ba => some (0, up (hxm hp ba mo) 3 2 (mo + 1))) (fun _ _ => True) ?_ ?_ Cn 0 FU ba (by omega) (FU_gt (by omega)) trivial).1
  · rw [hxm_up] at key
    exact key
  · intro n k ba hk _
    refine ⟨?_, trivial⟩
    show f_St_passMonth_L2 3 b _ (n + 1) (hxm hp ba mo) (nI k) = _
    rw [f_St_passMonth_L2, (hB ba).2.1.2.1, if_neg (by exact n_nle Cn k (by omega) (by omega)), if_pos (inb_n (by omega) (by omega)), cl_n (by omega), x_am (hB ba) hk, Option.bind_some]
    dsimp only
    have e1 : hxm hp ba mo (3 + 1) k = ba k := rfl
    have e2 : am (hxm hp ba mo) k = am hp k := am_cong rfl rfl k
    rw [e1, e2, nI_1]
    show f_St_passMonth_L2 3 b _ n (up (setc (up hp 3 2 mo) 4 ba) 4 k (am hp k (ba k))) (nI (k + 1)) = _
    rw [up_setc]
    rfl
  · intro n ba _
    show f_St_passMonth_L2 3 b _ (n + 1) (hxm hp ba mo) (nI Cn) = _
    rw [f_St_passMonth_L2, (hB ba).2.1.2.1, if_pos (by exact n_le Cn Cn (by omega) (by omega))]
    rfl
def gxm (f : Nat → Int32 → Int32) (Cn : Nat) : Nat → (Nat → Int32) × Int32 → (Nat → Int32) × Int32 := fun _ s => (pmx f Cn s.1, s.2 + 1)
def gmm (f : Nat → Int32 → Int32) (Cn : Nat) : Nat → (Nat → Int32) → (Nat → Int32) := fun _ w => upd (pmm f Cn w) 0 (pmm f Cn w 0 + 1)
theorem m_pass {hp : HP} {b P Cn Tn : Nat} (hb : b = 87 ∨ b = 93) (h : Rbr hp b P Cn Tn) (v1 v2 : Int32) (K : HP → Option (Int32 × HP)) (w : Nat → Int32) : f_Mo_month_L53 v1 v2 K FU (setc hp 100 w) 0 = K (setc hp 100 (pmm (am hp) Cn w)) := by
  have c5 := h.1.2.1
  have hB : ∀ w, Rbr (setc hp 100 w) b P Cn Tn := fun w => Rbr_cong hp hb (fun q hq => by rw [setc_ap, if_neg (by omega)]) rfl rfl rfl h
  refine (for_up (fun n k (w : Nat → Int32) => f_Mo_month_L53 v1 v2 K n (setc hp 100 w) (nI k)) Cn (fun c w => upd w (1 + c) (am hp c (w (1 + c)))) (fun w => K (setc hp 100 w)) (fun _ _ => True) ?_ ?_ Cn 0 FU w (by omega) (FU_gt (by omega)) trivial).1
  · intro n k w hk _
    refine ⟨?_, trivial⟩
    show f_Mo_month_L53 v1 v2 K (n + 1) (setc hp 100 w) (nI k) = _
    rw [f_Mo_month_L53, (hB w).2.2.1.2.1, if_neg (by exact n_nle Cn k (by omega) (by omega)), n_1, if_pos (inb_n (by omega) (by omega)), cl_n (by omega), m_am (hB w) hk, Option.bind_some]
    dsimp only
    rw [setc_at, up_setc, nI_1]
    have e2 : am (setc hp 100 w) k = am hp k := am_cong rfl rfl k
    rw [e2]
  · intro n w _
    show f_Mo_month_L53 v1 v2 K (n + 1) (setc hp 100 w) (nI Cn) = _
    rw [f_Mo_month_L53, (hB w).2.2.1.2.1, if_pos (by exact n_le Cn Cn (by omega) (by omega))]
theorem x_months {hp : HP} {b P Cn Tn : Nat} (hb : b = 87 ∨ b = 93) (e0 : hp 0 8 = nI b) (h : Rbr hp b P Cn Tn) {n : Nat} (hn : n ≤ 60) (K : HP → Option (Int32 × HP)) (ba : Nat → Int32) (mo : Int32) : f_BA_month_L55 (nI n) K FU (hxm hp ba mo) 0 = K (hxm hp (it (gxm (am hp) Cn) 0 n (ba, mo)).1 (it (gxm (am hp) Cn) 0 n (ba, mo)).2) := by
  have ib : isB b = true := by rcases hb with rfl | rfl <;> rfl
  have eb : (nI b).toNatClampNeg = b := cl_n (by omega)
  refine (for_up (fun f k (s : (Nat → Int32) × Int32) => f_BA_month_L55 (nI n) K f (hxm hp s.1 s.2) (nI k)) n (gxm (am hp) Cn) (fun s => K (hxm hp s.1 s.2)) (fun _ _ => True) ?_ ?_ n 0 FU (ba, mo) (by omega) (FU_gt (by omega)) trivial).1
  · intro f k s hk _
    obtain ⟨x, m⟩ := s
    refine ⟨?_, trivial⟩
    simp only [gxm]
    rw [f_BA_month_L55, if_neg (by exact n_nle n k (by omega) (by omega)), hxm_o hp x m (by omega) (by omega), e0, eb, if_pos ib, x_pass hb h, Option.bind_some, nI_1]
  · intro f s _
    show f_BA_month_L55 (nI n) K (f + 1) (hxm hp s.1 s.2) (nI n) = _
    rw [f_BA_month_L55, if_pos (by exact n_le n n (by omega) (by omega))]
theorem m_months {hp : HP} {b P Cn Tn : Nat} (hb : b = 87 ∨ b = 93) (h : Rbr hp b P Cn Tn) {n : Nat} (hn : n ≤ 60) (K : HP → Option (Int32 × HP)) (w : Nat → Int32) : f_Mo_month_L46 (nI n) K FU (setc hp 100 w) 0 = K (setc hp 100 (it (gmm (am hp) Cn) 0 n w)) := by
  refine (for_up (fun f k (w : Nat → Int32) => f_Mo_month_L46 (nI n) K f (setc hp 100 w) (nI k)) n (gmm (am hp) Cn) (fun w => K (setc hp 100 w)) (fun _ _ => True) ?_ ?_ n 0 FU w (by omega) (FU_gt (by omega)) trivial).1
  · intro f k w hk _
    refine ⟨?_, trivial⟩
    show f_Mo_month_L46 (nI n) K (f + 1) (setc hp 100 w) (nI k) = _
    rw [f_Mo_month_L46, if_neg (by exact n_nle n k (by omega) (by omega)), m_pass hb h, setc_at, up_setc, nI_1]
    rfl
  · intro f w _
    show f_Mo_month_L46 (nI n) K (f + 1) (setc hp 100 w) (nI n) = _
    rw [f_Mo_month_L46, if_pos (by exact n_le n n (by omega) (by omega))]
theorem months_SE {hp : HP} {Cn : Nat} (c5 : Cn ≤ 5) {mo : Int32} {ba de w : Nat → Int32} (h : SE Cn mo ba de w 0) : ∀ n, SE Cn (it (gxm (am hp) Cn) 0 n (ba, mo)).2 (it (gxm (am hp) Cn) 0 n (ba, mo)).1 de (it (gmm (am hp) Cn) 0 n w) 0 ∧ ∀ j, 6 ≤ j → it (gmm (am hp) Cn) 0 n w j = w j := by
  intro n
  induction n with
  | zero => exact ⟨h, fun _ _ => rfl⟩
  | succ n ih =>
    obtain ⟨i1, i2⟩ := ih
    rw [it_succ, it_succ, Nat.zero_add]
    refine ⟨SE_mon (pm_SE (am_rg hp) i1 Cn c5), fun j hj => ?_⟩
    show upd (pmm (am hp) Cn _) 0 _ j = _
    rw [upd_ap, if_neg (by omega), pmm_far (am hp) _ hj Cn c5]
    exact i2 j hj
theorem S_month {hp : HP} (h : R hp) (n : Int32) : Sim hp (fun x => f_BA_month x n) (fun x => f_Mo_month x n) := by
  have hR := h
  obtain ⟨b, b', P, Cn, Tn, hr, htx, hbr, hst, him, ⟨nx, ct, p1, p2, p3, p4, p5, p6⟩, hsl⟩ := h
  obtain ⟨ib, eb⟩ := isB_b hr
  have hb := Rr_or hr
  have c5 := hbr.1.2.1
  have p8 := hbr.1.1
  rcases @wi_lit n 1 60 with ⟨e0, -⟩ | ⟨e0, h1, h2⟩
  · refine Sim.pure (-1000000002) ?_ ?_ hR
    · simp only [f_BA_month, x_within, e0, Option.bind_some, if_true]
    · simp only [f_Mo_month, m_in hp n 1 60 (A := 1) (B := 60) rfl rfl, e0, Option.bind_some, if_true]
  · have hx0 : f_BA_month hp n = if P = 0 then some ((-1000000003 : Int32), hp) else (if hp 3 2 ≤ 9000 then ((f_Pa_push hp 3).bind fun p10 => f_BA_month_L55 n (fun hp15 => some ((hp15 3 2), hp15)) FU p10.2 (0 : Int32)) else some ((-1000000004 : Int32), hp)) := by
      unfold f_BA_month
      rw [x_within, e0, Option.bind_some]
      dsimp only
      rw [if_neg one_ne, eb, if_pos ib]
      unfold f_Br_isThere
      rw [hbr.2.1.1]
      by_cases q : P = 0
      · rw [if_pos (by exact n_le P 0 (by omega) (by omega)), Option.bind_some, if_pos q]; rfl
      · rw [if_neg (by exact n_nle P 0 (by omega) (by omega)), Option.bind_some, if_neg q]; rfl
    have hm0 : ∀ hp' : HP, hp' 99 3 = nI P → f_Mo_month hp' n = if P = 0 then some ((-1000000003 : Int32), hp') else (if hp' 100 0 ≤ 9000 then ((f_Mo_minds hp').bind fun p7 => f_Mo_month_L46 n (fun hp14 => some ((hp14 100 0), hp14)) FU p7.2 (0 : Int32)) else some ((-1000000004 : Int32), hp')) := by
      intro hp' e3
      unfold f_Mo_month
      rw [m_in hp' n 1 60 (A := 1) (B := 60) rfl rfl, e0, Option.bind_some]
      dsimp only
      rw [if_neg one_ne]
      by_cases q : P = 0
      · rw [if_pos (by rw [e3, q]; rfl), if_pos q]
      · rw [if_neg (by rw [e3]; exact n_ne P 0 q (by omega) (by omega)), if_neg q]
    by_cases q : P = 0
    · rw [if_pos q] at hx0
      have hm := hm0 hp hbr.2.2.1.1
      rw [if_pos q] at hm
      exact Sim.pure _ hx0 hm hR
    · rw [if_neg q] at hx0
      have ew : hp 3 2 = hp 100 0 := hst.1.1
      by_cases qf : hp 3 2 ≤ 9000
      · rw [if_pos qf] at hx0
        rw [i1] at h1
        have i60 : (60 : Int32).toInt = 60 := rfl
        obtain ⟨n, hn, rfl⟩ := of_rg (x := n) (n := 61) (by omega) (by omega)
        obtain ⟨hp1, hpush, pu⟩ := x_push p1 p2 p3 p4
        have g0 : ∀ q, q < 6 ∨ 67 < q → hp1 q = hp q := pu.1
        have hb1 : Rbr hp1 b P Cn Tn := Rbr_cong hp hb (fun q hq => g0 q (by omega)) (by rw [g0 99 (by omega)]) (by rw [g0 99 (by omega)]) (by rw [g0 99 (by omega)]) hbr
        have e1 : hp1 = hxm hp1 (hp 4) (hp 3 2) := by
          funext x
          unfold hxm
          rw [setc_ap]
          by_cases x4 : x = 4
          · rw [if_pos x4, x4, g0 4 (by omega)]
          · rw [if_neg x4, up_ap]
            by_cases x3 : x = 3
            · rw [if_pos x3, x3, ← g0 3 (by omega)]
              funext j
              rw [upd_ap]
              by_cases j2 : j = 2
              · rw [if_pos j2, j2]
              · rw [if_neg j2]
            · rw [if_neg x3]
        rw [hpush, Option.bind_some] at hx0
        dsimp only at hx0
        rw [e1, x_months hb (by rw [g0 0 (by omega)]; exact hr.2.1) hb1 (by omega)] at hx0
        generalize hX : it (gxm (am hp1) Cn) 0 n (hp 4, hp 3 2) = X at hx0
        have amx : ∀ c, am hp1 c = am hp c := fun c => am_cong (g0 103 (by omega)) (g0 104 (by omega)) c
        have amx' : am hp1 = am hp := funext amx
        obtain ⟨hm, hmin, mu⟩ := m_minds (hp := hxm hp1 X.1 X.2) p2 (by rw [hxm_o _ _ _ (by omega) (by omega), g0 99 (by omega)]; exact p5)
        obtain ⟨m1, m2, m3, m4, m5⟩ := id mu
        have w1 : ∀ j, j < 96 → hm 100 j = hp 100 j := fun j hj => by rw [m4 j hj, hxm_o _ _ _ (by omega) (by omega), g0 100 (by omega)]
        have hbm : Rbr hm b P Cn Tn := Rbr_cong hp1 hb (fun q hq => by rw [m1 q (by omega) (by omega), hxm_o _ _ _ (by omega) (by omega)]) (by rw [m2 3 (by omega), hxm_o _ _ _ (by omega) (by omega)]) (by rw [m2 5 (by omega), hxm_o _ _ _ (by omega) (by omega)]) (by rw [m2 8 (by omega), hxm_o _ _ _ (by omega) (by omega)]) hb1
        have amm : am hm = am hp := by
          funext c
          exact am_cong (by rw [m1 103 (by omega) (by omega), hxm_o _ _ _ (by omega) (by omega), g0 103 (by omega)]) (by rw [m1 104 (by omega) (by omega), hxm_o _ _ _ (by omega) (by omega), g0 104 (by omega)]) c
        have hm1 := hm0 (hxm hp1 X.1 X.2) (by rw [hxm_o _ _ _ (by omega) (by omega)]; exact hb1.2.2.1.1)
        rw [if_neg q, if_pos (by rw [hxm_o _ _ _ (by omega) (by omega), g0 100 (by omega), ← ew]; exact qf), hmin, Option.bind_some] at hm1
        dsimp only at hm1
        have e2 := m_months hb hbm (show n ≤ 60 by omega) (fun hp14 => some ((hp14 100 0), hp14)) (hm 100)
        rw [setc_self] at e2
        rw [e2] at hm1
        have sem := months_SE (hp := hp) c5 (SE.cong (Cn := Cn) (w' := hm 100) (o' := 0) rfl (fun _ _ => rfl) (fun _ _ => rfl) (fun i hi => w1 _ (by omega)) hst.1) n
        rw [amx'] at hX
        rw [amm, setc_at] at hm1
        rw [hX] at sem
        generalize it (gmm (am hp) Cn) 0 n (hm 100) = W at hm1 sem
        have eX : hxm hp1 X.1 X.2 3 2 = W 0 := sem.1.1
        rw [eX] at hx0
        refine ⟨W 0, hxm hp1 X.1 X.2, setc hm 100 W, hx0, hm1, ?_⟩
        refine R_done hr htx hbr hst him p1 p2 p6 hsl pu (hpx := hxm hp1 X.1 X.2) (hm := hm) (fun x x0 x3 x4 x5 => hxm_o _ _ _ x3 x4) (fun j hj => by rw [hxm_o _ _ _ (by omega) (by omega)]) mu (fun x hx => by rw [setc_ap, if_neg hx]) (fun j hj => by rw [setc_at]; exact sem.2 j (by omega)) ?_
        refine ⟨?_, ?_, ?_⟩
        · have r3 : setc hm 100 W 3 2 = X.2 := by show hm 3 2 = _; rw [m1 3 (by omega) (by omega)]; rfl
          have r4 : setc hm 100 W 4 = X.1 := by show hm 4 = _; rw [m1 4 (by omega) (by omega)]; rfl
          have r5 : setc hm 100 W 5 = hp 5 := by show hm 5 = _; rw [m1 5 (by omega) (by omega), hxm_o _ _ _ (by omega) (by omega), g0 5 (by omega)]
          rw [r3, r4, r5, setc_at]
          exact sem.1
        · rw [setc_at, sem.2 31 (by omega), w1 31 (by omega)]
          show hm 0 11 = _
          rw [m1 0 (by omega) (by omega), hxm_o _ _ _ (by omega) (by omega), g0 0 (by omega)]
          exact hst.2.1
        · rw [setc_at, sem.2 31 (by omega), w1 31 (by omega)]
          exact hst.2.2
      · rw [if_neg qf] at hx0
        have hm := hm0 hp hbr.2.2.1.1
        rw [if_neg q, if_neg (by rw [← ew]; exact qf)] at hm
        exact Sim.pure _ hx0 hm hR
