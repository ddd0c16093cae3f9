/-- the next seed -/
def lc (k : Nat) : Nat := (k * 1103515245 + 12345) % 2147483648
theorem lc_lt (k : Nat) : lc k < 2147483648 := Nat.mod_lt _ (by decide)
theorem andL (a b : Nat) : lN a &&& lN b = lN (a &&& b) := by
  apply Int64.toBitVec_inj.1
  show BitVec.ofNat 64 a &&& BitVec.ofNat 64 b = BitVec.ofNat 64 (a &&& b)
  apply BitVec.eq_of_getLsbD_eq
  intro i hi
  simp [hi]
theorem maskL (n : Nat) : lN n &&& (2147483647 : Int64) = lN (n % 2147483648) := by
  show lN n &&& lN (2 ^ 31 - 1) = lN (n % 2 ^ 31)
  rw [andL, Nat.and_two_pow_sub_one_eq_mod]
theorem seed_l {k : Nat} (h : k < 2147483648) : ((nI k).toInt64 * (1103515245 : Int64)) + (12345 : Int64) = lN (k * 1103515245 + 12345) := by
  rw [nI_l (by omega)]
  show lN k * lN 1103515245 + lN 12345 = _
  rw [lN_mul, lN_add]
theorem seed_x {k : Nat} (h : k < 2147483648) : ((((nI k).toInt64 * (1103515245 : Int64)) + (12345 : Int64)) &&& (2147483647 : Int64)).toInt32 = nI (lc k) := by
  rw [seed_l h, maskL, lN_i]
  rfl
theorem seed_m {k : Nat} (h : k < 2147483648) : ((((nI k).toInt64 * (1103515245 : Int64)) + (12345 : Int64)) - (((nI k).toInt64 * (1103515245 : Int64)) + (12345 : Int64)) / (2147483648 : Int64) * (2147483648 : Int64)).toInt32 = nI (lc k) := by
  rw [seed_l h]
  show (lN (k * 1103515245 + 12345) - lN (k * 1103515245 + 12345) / lN 2147483648 * lN 2147483648).toInt32 = _
  rw [pk_lRem (by omega) (by omega) (by omega), lN_i]
  rfl
/-- a draw of n by a seed -/
def dv (k n : Nat) : Nat := k / 65536 % n
theorem draw_v {k n : Nat} (hk : k < 2147483648) (h0 : 0 < n) (hn : n ≤ 100) : (nI k / (65536 : Int32)) - (nI k / (65536 : Int32)) / nI n * nI n = nI (dv k n) := by
  have e : nI k / (65536 : Int32) = nI (k / 65536) := by
    show nI k / nI 65536 = _
    exact pk_div (by omega) (by omega) (by omega)
  rw [e, pk_rem (by omega) h0 (by omega)]
  rfl
def hxd (hp : HP) (ba : Nat → Int32) (k : Nat) : HP := setc (up hp 0 11 (nI k)) 4 ba
theorem hxd_o (hp : HP) (ba : Nat → Int32) (k : Nat) {q : Nat} (h0 : q ≠ 0) (h4 : q ≠ 4) : hxd hp ba k q = hp q := by
  unfold hxd; rw [setc_ap, if_neg h4, up_ap, if_neg h0]
theorem hxd_0 (hp : HP) (ba : Nat → Int32) (k : Nat) {j : Nat} (h : j ≠ 11) : hxd hp ba k 0 j = hp 0 j := by
  show upd (hp 0) 11 (nI k) j = _
  rw [upd_ap, if_neg h]
theorem hxd_up (hp : HP) (ba : Nat → Int32) (k k2 : Nat) : up (hxd hp ba k) 0 11 (nI k2) = hxd hp ba k2 := by
  funext q
  by_cases q3 : q = 0
  · subst q3
    show upd (upd (hp 0) 11 (nI k)) 11 (nI k2) = upd (hp 0) 11 (nI k2)
    funext j
    simp only [upd_ap]
    by_cases e : j = 11
    · rw [if_pos e, if_pos e]
    · rw [if_neg e, if_neg e, if_neg e]
  · rw [up_ap, if_neg q3]
    unfold hxd
    rw [setc_ap, setc_ap, up_ap, up_ap, if_neg q3, if_neg q3]
theorem x_draw {hp : HP} {ba : Nat → Int32} {k n : Nat} (hk : k < 2147483648) (h0 : 0 < n) (hn : n ≤ 100) : f_BA_draw (hxd hp ba k) (nI n) = some (nI (dv (lc k) n), hxd hp ba (lc k)) := by
  unfold f_BA_draw
  have e1 : hxd hp ba k 0 11 = nI k := rfl
  rw [if_neg (by exact n_nle n 0 (by omega) (by omega)), if_neg (by exact n_ne n 0 (by omega) (by omega) (by omega)), e1, seed_x hk, hxd_up]
  have e2 : hxd hp ba (lc k) 0 11 = nI (lc k) := rfl
  rw [e2, draw_v (lc_lt k) h0 hn]
theorem m_draw {hp : HP} {w : Nat → Int32} {k n : Nat} (hw : w 31 = nI k) (hk : k < 2147483648) (h0 : 0 < n) (hn : n ≤ 100) : f_Mo_draw (setc hp 100 w) (nI n) = some (nI (dv (lc k) n), setc hp 100 (upd w 31 (nI (lc k)))) := by
  unfold f_Mo_draw
  have e1 : setc hp 100 w 100 31 = nI k := hw
  rw [if_neg (by exact n_ne n 0 (by omega) (by omega) (by omega)), e1, seed_m hk, up_setc, setc_at]
  have e2 : upd w 31 (nI (lc k)) 31 = nI (lc k) := by rw [upd_ap, if_pos rfl]
  rw [e2, draw_v (lc_lt k) h0 hn]
/-- one wager -/
def dr_sgn (k : Nat) : Int32 := if dv (lc (lc (lc k))) 2 = 0 then -nI (dv (lc (lc k)) 100) else nI (dv (lc (lc k)) 100)
def wgx (Cn : Nat) : Nat → (Nat → Int32) × Nat → (Nat → Int32) × Nat := fun _ s => (upd s.1 (dv (lc s.2) Cn) (cla (s.1 (dv (lc s.2) Cn) + dr_sgn s.2)), lc (lc (lc s.2)))
def wgm (Cn : Nat) : Nat → (Nat → Int32) × Nat → (Nat → Int32) × Nat := fun _ s => (upd (upd (upd (upd s.1 31 (nI (lc s.2))) 31 (nI (lc (lc s.2)))) 31 (nI (lc (lc (lc s.2))))) (1 + dv (lc s.2) Cn) (cla (s.1 (1 + dv (lc s.2) Cn) + dr_sgn s.2)), lc (lc (lc s.2)))
theorem x_wager {hp : HP} {b P Cn Tn : Nat} (hb : b = 87 ∨ b = 93) (e0 : hp 0 8 = nI b) (h : Rbr hp b P Cn Tn) (hC : 0 < Cn) {ba : Nat → Int32} {k : Nat} (hk : k < 2147483648) : f_BA_wager (hxd hp ba k) = some (0, hxd hp (wgx Cn 0 (ba, k)).1 (wgx Cn 0 (ba, k)).2) := by
  have ib : isB b = true := by rcases hb with rfl | rfl <;> rfl
  have eb : (nI b).toNatClampNeg = b := cl_n (by omega)
  have c5 := h.1.2.1
  have hd : dv (lc k) Cn < Cn := Nat.mod_lt _ hC
  unfold f_BA_wager
  rw [hxd_0 hp ba k (by omega), e0, eb, if_pos ib, hxd_o hp ba k (by omega) (by omega), h.2.1.2.1, x_draw hk hC (by omega), Option.bind_some]
  dsimp only
  rw [show (100 : Int32) = nI 100 from rfl, x_draw (lc_lt k) (by omega) (by omega), Option.bind_some]
  dsimp only
  rw [show (2 : Int32) = nI 2 from rfl, x_draw (lc_lt _) (by omega) (by omega), Option.bind_some]
  dsimp only
  have ch : ∀ v : Int32, f_St_change (hxd hp ba (lc (lc (lc k)))) 3 (nI (dv (lc k) Cn)) v = some (0, hxd hp (upd ba (dv (lc k) Cn) (cla (ba (dv (lc k) Cn) + v))) (lc (lc (lc k)))) := by
    intro v
    unfold f_St_change
    rw [if_pos (inb_n (by omega) (by omega)), cl_n (by omega), x_bounded, Option.bind_some]
    show some ((0 : Int32), up (setc (up hp 0 11 (nI (lc (lc (lc k))))) 4 ba) 4 (dv (lc k) Cn) (cla (ba (dv (lc k) Cn) + v))) = _
    rw [up_setc]
    rfl
  rw [ch, ch]
  simp only [wgx, dr_sgn]
  have d2 : dv (lc (lc (lc k))) 2 < 2 := Nat.mod_lt _ (by decide)
  by_cases q : dv (lc (lc (lc k))) 2 = 0
  · rw [if_pos (by rw [q]; rfl), if_pos q]; rfl
  · rw [if_neg (by exact n_ne _ 0 q (by omega) (by omega)), if_neg q]; rfl
theorem m_wager {hp : HP} {Cn : Nat} (hC : 0 < Cn) (c5 : Cn ≤ 5) {w : Nat → Int32} {k : Nat} (hw : w 31 = nI k) (hk : k < 2147483648) (K : HP → Option (Int32 × HP)) : ((f_Mo_draw (setc hp 100 w) (nI Cn)).bind fun p10 => ((f_Mo_draw p10.2 (100 : Int32)).bind fun p12 => ((f_Mo_draw p12.2 (2 : Int32)).bind fun p14 => if p14.1 = 0 then ((f_Mo_changes p14.2 p10.1 (-p12.1)).bind fun p17 => K p17.2) else ((f_Mo_changes p14.2 p10.1 p12.1).bind fun p19 => K p19.2)))) = K (setc hp 100 (wgm Cn 0 (w, k)).1) := by
  have hd : dv (lc k) Cn < Cn := Nat.mod_lt _ hC
  rw [m_draw hw hk hC (by omega), Option.bind_some]
  dsimp only
  rw [show (100 : Int32) = nI 100 from rfl, m_draw (by rw [upd_ap, if_pos rfl]) (lc_lt k) (by omega) (by omega), Option.bind_some]
  dsimp only
  rw [show (2 : Int32) = nI 2 from rfl, m_draw (by rw [upd_ap, if_pos rfl]) (lc_lt _) (by omega) (by omega), Option.bind_some]
  dsimp only
  rw [m_changes (by omega), m_changes (by omega), Option.bind_some, Option.bind_some]
  dsimp only
  rw [setc_at, up_setc, up_setc]
  have e : upd (upd (upd w 31 (nI (lc k))) 31 (nI (lc (lc k)))) 31 (nI (lc (lc (lc k)))) (1 + dv (lc k) Cn) = w (1 + dv (lc k) Cn) := by
    rw [upd_ap, if_neg (by omega), upd_ap, if_neg (by omega), upd_ap, if_neg (by omega)]
  rw [e]
  simp only [wgm, dr_sgn]
  have d2 : dv (lc (lc (lc k))) 2 < 2 := Nat.mod_lt _ (by decide)
  by_cases q : dv (lc (lc (lc k))) 2 = 0
  · rw [if_pos (by rw [q]; rfl), if_pos q]
  · rw [if_neg (by exact n_ne _ 0 q (by omega) (by omega)), if_neg q]
theorem drift_SE {Cn : Nat} (hC : 0 < Cn) (c5 : Cn ≤ 5) {mo : Int32} {ba de w : Nat → Int32} {k : Nat} (hk : k < 2147483648) (hw : w 31 = nI k) (h : SE Cn mo ba de w 0) : ∀ n, SE Cn mo (it (wgx Cn) 0 n (ba, k)).1 de (it (wgm Cn) 0 n (w, k)).1 0 ∧ (it (wgx Cn) 0 n (ba, k)).2 = (it (wgm Cn) 0 n (w, k)).2 ∧ (it (wgm Cn) 0 n (w, k)).1 31 = nI (it (wgm Cn) 0 n (w, k)).2 ∧ (it (wgm Cn) 0 n (w, k)).2 < 2147483648 ∧ ∀ j, 32 ≤ j → (it (wgm Cn) 0 n (w, k)).1 j = w j := by
  intro n
  induction n with
  | zero => exact ⟨h, rfl, hw, hk, fun _ _ => rfl⟩
  | succ n ih =>
    obtain ⟨j1, j2, j3, j4, j5⟩ := ih
    rw [it_succ, it_succ, Nat.zero_add]
    generalize it (wgx Cn) 0 n (ba, k) = X at j1 j2 ⊢
    generalize it (wgm Cn) 0 n (w, k) = Y at j1 j2 j3 j4 j5 ⊢
    obtain ⟨x1, x2⟩ := X
    obtain ⟨y1, y2⟩ := Y
    simp only at j1 j2 j3 j4 j5
    subst j2
    have hd : dv (lc x2) Cn < Cn := Nat.mod_lt _ hC
    simp only [wgx, wgm]
    refine ⟨?_, trivial, ?_, lc_lt _, fun j hj => ?_⟩
    · have e := (j1.2.1 (dv (lc x2) Cn) (by omega)).1
      rw [show 0 + 1 + dv (lc x2) Cn = 1 + dv (lc x2) Cn by omega] at e
      rw [← e]
      refine SE_bal (by omega) (cla_rg _) ?_
      refine SE.cong rfl (fun _ _ => rfl) (fun _ _ => rfl) (fun i hi => ?_) j1
      rw [upd_ap, if_neg (by omega), upd_ap, if_neg (by omega), upd_ap, if_neg (by omega)]
    · rw [upd_ap, if_neg (by omega), upd_ap, if_pos rfl]
    · rw [upd_ap, if_neg (by omega), upd_ap, if_neg (by omega), upd_ap, if_neg (by omega), upd_ap, if_neg (by omega)]
      exact j5 j hj
theorem x_drifts {hp : HP} {b P Cn Tn : Nat} (hb : b = 87 ∨ b = 93) (e0 : hp 0 8 = nI b) (h : Rbr hp b P Cn Tn) (hC : 0 < Cn) {n : Nat} (hn : n ≤ 60) (K : HP → Option (Int32 × HP)) {ba : Nat → Int32} {k : Nat} (hk : k < 2147483648) : f_BA_drift_L49 (nI n) K FU (hxd hp ba k) 0 = K (hxd hp (it (wgx Cn) 0 n (ba, k)).1 (it (wgx Cn) 0 n (ba, k)).2) := by
  refine (for_up (fun f j (s : (Nat → Int32) × Nat) => f_BA_drift_L49 (nI n) K f (hxd hp s.1 s.2) (nI j)) n (wgx Cn) (fun s => K (hxd hp s.1 s.2)) (fun _ s => s.2 < 2147483648) ?_ ?_ n 0 FU (ba, k) (by omega) (FU_gt (by omega)) hk).1
  · intro f j s hj hI
    obtain ⟨x, m⟩ := s
    refine ⟨?_, lc_lt _⟩
    show f_BA_drift_L49 (nI n) K (f + 1) (hxd hp x m) (nI j) = _
    rw [f_BA_drift_L49, if_neg (by exact n_nle n j (by omega) (by omega)), x_wager hb e0 h hC hI, Option.bind_some, nI_1]
    rfl
  · intro f s _
    show f_BA_drift_L49 (nI n) K (f + 1) (hxd hp s.1 s.2) (nI n) = _
    rw [f_BA_drift_L49, if_pos (by exact n_le n n (by omega) (by omega))]
theorem m_drifts {hp : HP} {b P Cn Tn : Nat} (h : Rbr hp b P Cn Tn) (hC : 0 < Cn) {n : Nat} (hn : n ≤ 60) (K : HP → Option (Int32 × HP)) {w : Nat → Int32} {k : Nat} (hw : w 31 = nI k) (hk : k < 2147483648) : f_Mo_drift_L31 (nI n) K FU (setc hp 100 w) 0 = K (setc hp 100 (it (wgm Cn) 0 n (w, k)).1) := by
  have c5 := h.1.2.1
  refine (for_up (fun f j (s : (Nat → Int32) × Nat) => f_Mo_drift_L31 (nI n) K f (setc hp 100 s.1) (nI j)) n (wgm Cn) (fun s => K (setc hp 100 s.1)) (fun _ s => s.2 < 2147483648 ∧ s.1 31 = nI s.2) ?_ ?_ n 0 FU (w, k) (by omega) (FU_gt (by omega)) ⟨hk, hw⟩).1
  · intro f j s hj hI
    obtain ⟨x, m⟩ := s
    have hd : dv (lc m) Cn < Cn := Nat.mod_lt _ hC
    refine ⟨?_, lc_lt _, ?_⟩
    · show f_Mo_drift_L31 (nI n) K (f + 1) (setc hp 100 x) (nI j) = _
      have e5 : setc hp 100 x 99 5 = nI Cn := h.2.2.1.2.1
      rw [f_Mo_drift_L31, if_neg (by exact n_nle n j (by omega) (by omega)), e5, if_neg (by exact n_nle Cn 0 (by omega) (by omega)), nI_1]
      exact m_wager hC c5 hI.2 hI.1 (fun hp' => f_Mo_drift_L31 (nI n) K f hp' (nI (j + 1)))
    · simp only [wgm]
      rw [upd_ap, if_neg (by omega), upd_ap, if_pos rfl]
  · intro f s _
    show f_Mo_drift_L31 (nI n) K (f + 1) (setc hp 100 s.1) (nI n) = _
    rw [f_Mo_drift_L31, if_pos (by exact n_le n n (by omega) (by omega))]
theorem S_drift {hp : HP} (h : R hp) (n : Int32) : Sim hp (fun x => f_BA_drift x n) (fun x => f_Mo_drift x n) := by
  have hR := h
  obtain ⟨b, b', P, Cn, Tn, hr, htx, hbr, hst, him, ⟨nx, ct, p1, p2, p3, p4, p5, p6⟩, hsl⟩ := h
  obtain ⟨ib, eb⟩ := isB_b hr
  have hb := Rr_or hr
  have c5 := hbr.1.2.1
  have p8 := hbr.1.1
  rcases @wi_lit n 1 60 with ⟨e0, -⟩ | ⟨e0, h1, h2⟩
  · refine Sim.pure (-1000000002) ?_ ?_ hR
    · simp only [f_BA_drift, x_within, e0, Option.bind_some, if_true]
    · simp only [f_Mo_drift, m_in hp n 1 60 (A := 1) (B := 60) rfl rfl, e0, Option.bind_some, if_true]
  · by_cases q : P = 0
    · subst q
      refine Sim.pure (-1000000003) ?_ ?_ hR
      · simp only [f_BA_drift, x_within, e0, Option.bind_some, if_neg one_ne, eb, ib, if_true, f_Br_isThere, hbr.2.1.1]
        rfl
      · simp only [f_Mo_drift, m_in hp n 1 60 (A := 1) (B := 60) rfl rfl, e0, Option.bind_some, if_neg one_ne, hbr.2.2.1.1]
        rfl
    · rw [i1] at h1
      have i60 : (60 : Int32).toInt = 60 := rfl
      obtain ⟨n, hn, rfl⟩ := of_rg (x := n) (n := 61) (by omega) (by omega)
      have n1 : 1 ≤ n := by rw [nI_toInt (by omega)] at h1; omega
      obtain ⟨k, hk, ek⟩ := of_rg (x := hp 100 31) (n := 2147483648) hst.2.2 (by have := rg_i (hp 100 31); omega)
      have ek0 : hp 0 11 = nI k := hst.2.1.trans ek
      obtain ⟨hp1, hpush, pu⟩ := x_push p1 p2 p3 p4
      have g0 : ∀ q, q < 6 ∨ 67 < q → hp1 q = hp q := pu.1
      have hb1 : Rbr hp1 b P Cn Tn := Rbr_cong hp hb (fun q hq => g0 q (by omega)) (by rw [g0 99 (by omega)]) (by rw [g0 99 (by omega)]) (by rw [g0 99 (by omega)]) hbr
      have e1 : hp1 = hxd hp1 (hp 4) k := by
        funext x
        unfold hxd
        rw [setc_ap]
        by_cases x4 : x = 4
        · rw [if_pos x4, x4, g0 4 (by omega)]
        · rw [if_neg x4, up_ap]
          by_cases x3 : x = 0
          · rw [if_pos x3, x3]
            funext j
            rw [upd_ap]
            by_cases j2 : j = 11
            · rw [if_pos j2, j2, g0 0 (by omega)]; exact ek0
            · rw [if_neg j2]
          · rw [if_neg x3]
      generalize hX : (if Cn = 0 then (hp 4, k) else it (wgx Cn) 0 n (hp 4, k)) = X
      have hRx : Rr (hxd hp1 X.1 X.2) b b' := Rr_cong hp (by rw [hxd_0 _ _ _ (by omega), g0 0 (by omega)]) (by rw [hxd_0 _ _ _ (by omega), g0 0 (by omega)]) (by rw [hxd_0 _ _ _ (by omega), g0 0 (by omega)]) (by rw [hxd_o _ _ _ (by omega) (by omega), g0 99 (by omega)]) hr
      have hbx : Rbr (hxd hp1 X.1 X.2) b P Cn Tn := Rbr_cong hp1 hb (fun q hq => hxd_o _ _ _ (by omega) (by omega)) (by rw [hxd_o _ _ _ (by omega) (by omega)]) (by rw [hxd_o _ _ _ (by omega) (by omega)]) (by rw [hxd_o _ _ _ (by omega) (by omega)]) hb1
      have hx0 : f_BA_drift hp (nI n) = some (it (hatg (nd (hxd hp1 X.1 X.2)) P ((hxd hp1 X.1 X.2) 4)) 0 Cn 0, hxd hp1 X.1 X.2) := by
        unfold f_BA_drift
        rw [x_within, e0, Option.bind_some]
        dsimp only
        rw [if_neg one_ne, eb, if_pos ib]
        unfold f_Br_isThere
        rw [hbr.2.1.1, if_neg (by exact n_nle P 0 (by omega) (by omega)), Option.bind_some]
        dsimp only
        rw [if_neg one_ne, hpush, Option.bind_some]
        dsimp only
        have eb1 : (hp1 0 8).toNatClampNeg = b := by rw [g0 0 (by omega)]; exact eb
        rw [eb1, if_pos ib]
        by_cases qC : Cn = 0
        · rw [if_pos (by rw [hb1.2.1.2.1]; exact n_le Cn 0 (by omega) (by omega))]
          rw [if_pos qC] at hX
          have this : hp1 = hxd hp1 X.1 X.2 := by rw [← hX]; exact e1
          have hR1 : Rr hp1 b b' := by rw [this]; exact hRx
          rw [x_hats hR1 hb1, ← this]
          rfl
        · rw [if_neg (by rw [hb1.2.1.2.1]; exact n_nle Cn 0 (by omega) (by omega))]
          rw [if_neg qC] at hX
          have hrun := x_drifts hb (by rw [g0 0 (by omega)]; exact hr.2.1) hb1 (by omega) (show n ≤ 60 by omega) (fun hp17 => ((f_BA_hats hp17).bind fun p19 => some (p19.1, p19.2))) (ba := hp 4) hk
          rw [← e1, hX] at hrun
          rw [hrun, x_hats hRx hbx]
          rfl
      obtain ⟨hm, hmin, mu⟩ := m_minds (hp := hxd hp1 X.1 X.2) p2 (by rw [hxd_o _ _ _ (by omega) (by omega), g0 99 (by omega)]; exact p5)
      obtain ⟨m1, m2, m3, m4, m5⟩ := id mu
      have w1 : ∀ j, j < 96 → hm 100 j = hp 100 j := fun j hj => by rw [m4 j hj, hxd_o _ _ _ (by omega) (by omega), g0 100 (by omega)]
      have hbm : Rbr hm b P Cn Tn := Rbr_cong hp1 hb (fun q hq => by rw [m1 q (by omega) (by omega), hxd_o _ _ _ (by omega) (by omega)]) (by rw [m2 3 (by omega), hxd_o _ _ _ (by omega) (by omega)]) (by rw [m2 5 (by omega), hxd_o _ _ _ (by omega) (by omega)]) (by rw [m2 8 (by omega), hxd_o _ _ _ (by omega) (by omega)]) hb1
      have hW31 : hm 100 31 = nI k := by rw [w1 31 (by omega)]; exact ek
      have se0 := SE.cong (Cn := Cn) (w' := hm 100) (o' := 0) rfl (fun _ _ => rfl) (fun _ _ => rfl) (fun i hi => w1 _ (by omega)) hst.1
      generalize hY : (if Cn = 0 then (hm 100, k) else it (wgm Cn) 0 n (hm 100, k)) = Y
      have sem : SE Cn (hp 3 2) X.1 (hp 5) Y.1 0 ∧ X.2 = Y.2 ∧ Y.1 31 = nI Y.2 ∧ Y.2 < 2147483648 ∧ ∀ j, 32 ≤ j → Y.1 j = hm 100 j := by
        by_cases qC : Cn = 0
        · rw [if_pos qC] at hX hY
          rw [← hX, ← hY]
          exact ⟨se0, rfl, hW31, hk, fun _ _ => rfl⟩
        · rw [if_neg qC] at hX hY
          rw [← hX, ← hY]
          exact drift_SE (by omega) c5 hk hW31 se0 n
      have hb2 : Rbr (setc hm 100 Y.1) b P Cn Tn := Rbr_cong hm hb (fun q hq => by rw [setc_ap, if_neg (by omega)]) rfl rfl rfl hbm
      have hm0 : f_Mo_drift (hxd hp1 X.1 X.2) (nI n) = some (it (hatg (nd (setc hm 100 Y.1)) P (fun c => (setc hm 100 Y.1) 100 (1 + c))) 0 Cn 0, setc hm 100 Y.1) := by
        unfold f_Mo_drift
        rw [m_in _ (nI n) 1 60 (A := 1) (B := 60) rfl rfl, e0, Option.bind_some]
        dsimp only
        rw [if_neg one_ne, if_neg (by rw [hbx.2.2.1.1]; exact n_ne P 0 q (by omega) (by omega)), hmin, Option.bind_some]
        dsimp only
        by_cases qC : Cn = 0
        · have e5 : hm 99 5 = nI 0 := by rw [hbm.2.2.1.2.1, qC]
          have : hm = setc hm 100 Y.1 := by
            rw [if_pos qC] at hY
            rw [← hY]; exact (setc_self hm 100).symm
          rw [show FU = 2999 + 1 from rfl, f_Mo_drift_L31, if_neg (by exact n_nle n 0 (by omega) (by omega)), e5, if_pos (by decide), m_hats hbm, ← this]
          rfl
        · rw [if_neg qC] at hY
          have hrun := m_drifts hbm (by omega) (show n ≤ 60 by omega) (fun hp20 => ((f_Mo_hats hp20).bind fun p22 => some (p22.1, p22.2))) hW31 hk
          rw [setc_self, hY] at hrun
          rw [hrun, m_hats hb2]
          rfl
      have hst2 : Rst (setc hm 100 Y.1) Cn := by
        refine ⟨?_, ?_, ?_⟩
        · have r3 : setc hm 100 Y.1 3 2 = hp 3 2 := by show hm 3 2 = _; rw [m1 3 (by omega) (by omega), hxd_o _ _ _ (by omega) (by omega), g0 3 (by omega)]
          have r4 : setc hm 100 Y.1 4 = X.1 := by show hm 4 = _; rw [m1 4 (by omega) (by omega)]; rfl
          have r5 : setc hm 100 Y.1 5 = hp 5 := by show hm 5 = _; rw [m1 5 (by omega) (by omega), hxd_o _ _ _ (by omega) (by omega), g0 5 (by omega)]
          rw [r3, r4, r5, setc_at]
          exact sem.1
        · rw [setc_at, sem.2.2.1, ← sem.2.1]
          show hm 0 11 = _
          rw [m1 0 (by omega) (by omega)]
          rfl
        · rw [setc_at, sem.2.2.1, nI_toInt (by have := sem.2.2.2.1; omega)]; omega
      have hh := hats_eq (P := P) hst2 c5
      have n9 : nd (setc hm 100 Y.1) = nd (hxd hp1 X.1 X.2) := nd_cong (by show hm 102 = _; exact m1 102 (by omega) (by omega))
      have r4 : setc hm 100 Y.1 4 = hxd hp1 X.1 X.2 4 := by show hm 4 = _; exact m1 4 (by omega) (by omega)
      rw [← hh, n9, r4] at hm0
      refine ⟨_, _, _, hx0, hm0, ?_⟩
      exact R_done hr htx hbr hst him p1 p2 p6 hsl pu (hpx := hxd hp1 X.1 X.2) (hm := hm) (fun x x0 x3 x4 x5 => hxd_o _ _ _ x0 x4) (fun j hj => hxd_0 _ _ _ hj) mu (fun x hx => by rw [setc_ap, if_neg hx]) (fun j hj => by rw [setc_at]; exact sem.2.2.2.2 j hj) hst2
