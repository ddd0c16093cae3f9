theorem upd_comm (f : Nat → Int32) {a b : Nat} (h : a ≠ b) (x y : Int32) : upd (upd f a x) b y = upd (upd f b y) a x := by
  funext j
  simp only [upd_ap]
  by_cases q : j = b
  · rw [if_pos q, if_neg (by omega), if_pos q]
  · rw [if_neg q, if_neg q]
theorem neg_add32 (z a : Int32) : -z - a = -(z + a) := by
  rw [Int32.neg_add]
/-- the heap behind a sum that goes from c to d: the class's -/
def hx4 (hp : HP) (c d : Nat) (a : Int32) : HP := up (up (up (up hp 4 c (cla (hp 4 c + -a))) 4 d (cla (hp 4 d + a))) 5 (c * 5 + d) (hp 5 (c * 5 + d) - a)) 5 (d * 5 + c) (hp 5 (d * 5 + c) + a)
theorem x_hand (hp : HP) {c d : Nat} (hc : c < 5) (hd : d < 5) (hn : c ≠ d) (a : Int32) : f_St_hand hp 3 (nI c) (nI d) a = some (0, hx4 hp c d a) := by
  unfold f_St_hand f_St_change
  rw [if_pos (inb_n (by omega) (by omega)), cl_n (by omega), x_bounded, Option.bind_some, Option.bind_some]
  dsimp only
  rw [if_pos (inb_n (by omega) (by omega)), cl_n (by omega), x_bounded, Option.bind_some, Option.bind_some]
  dsimp only
  rw [n_ma, n_ma, if_pos (inb_n (by omega) (by omega)), if_pos (inb_n (by omega) (by omega)), cl_n (by omega), cl_n (by omega)]
  have e1 : up hp 4 c (cla (hp 4 c + -a)) 4 d = hp 4 d := by rw [up_ap, if_pos rfl, upd_ap, if_neg (by omega)]
  unfold hx4
  show some ((0 : Int32), up (up (up (up hp 4 c (cla (hp 4 c + -a))) 4 d (cla (up hp 4 c (cla (hp 4 c + -a)) 4 d + a))) 5 (c * 5 + d) (hp 5 (c * 5 + d) - a)) 5 (d * 5 + c) (upd (hp 5) (c * 5 + d) (hp 5 (c * 5 + d) - a) (d * 5 + c) + a)) = _
  rw [e1, upd_ap, if_neg (by omega)]
theorem m_changes {hp : HP} {c : Nat} (hc : c < 5) (a : Int32) : f_Mo_changes hp (nI c) a = some (0, up hp 100 (1 + c) (cla (hp 100 (1 + c) + a))) := by
  unfold f_Mo_changes
  rw [n_1, if_pos (inb_n (by omega) (by omega)), cl_n (by omega), m_bounded, Option.bind_some]
theorem m_owesMore (hp : HP) {c d : Nat} (hc : c < 5) (hd : d < 5) (hn : c ≠ d) (a : Int32) : f_Mo_owesMore hp (nI c) (nI d) a = some (0, up (up hp 100 (6 + 5 * c + d) (hp 100 (6 + 5 * c + d) + a)) 100 (6 + 5 * d + c) (hp 100 (6 + 5 * d + c) - a)) := by
  unfold f_Mo_owesMore
  rw [n_65, n_65, if_pos (inb_n (by omega) (by omega)), if_pos (inb_n (by omega) (by omega)), cl_n (by omega), cl_n (by omega)]
  have e1 : up hp 100 (6 + 5 * c + d) (hp 100 (6 + 5 * c + d) + a) 100 (6 + 5 * d + c) = hp 100 (6 + 5 * d + c) := by rw [up_ap, if_pos rfl, upd_ap, if_neg (by omega)]
  rw [e1]
/-- the reference's row behind it -/
def w4 (w : Nat → Int32) (c d : Nat) (v1 v2 x y : Int32) : Nat → Int32 := upd (upd (upd (upd w (1 + c) v1) (1 + d) v2) (6 + 5 * c + d) x) (6 + 5 * d + c) y
theorem hand_SE {hp : HP} {Cn c d : Nat} {w : Nat → Int32} {a : Int32} (hst : Rst hp Cn) (h5 : Cn ≤ 5) (hc : c < Cn) (hd : d < Cn) (hn : c ≠ d) (hw : ∀ j, j < 96 → w j = hp 100 j) : SE Cn (hx4 hp c d a 3 2) (hx4 hp c d a 4) (hx4 hp c d a 5) (w4 w c d (cla (hp 4 c + -a)) (cla (hp 4 d + a)) (hp 5 (c * 5 + d) - a) (hp 5 (d * 5 + c) + a)) 0 := by
  have k0 := SE.cong (Cn := Cn) (w' := w) (o' := 0) rfl (fun _ _ => rfl) (fun _ _ => rfl) (fun i hi => hw _ (by omega)) hst.1
  have k1 := SE_bal (c := c) (by omega) (cla_rg (hp 4 c + -a)) k0
  have k2 := SE_bal (c := d) (by omega) (cla_rg (hp 4 d + a)) k1
  have hxy : hp 5 (c * 5 + d) - a = -(hp 5 (d * 5 + c) + a) := by
    have := hst.1.2.2.2.1 c d (by omega) (by omega)
    rw [show c * 5 + d = 5 * c + d by omega, this, show 5 * d + c = d * 5 + c by omega, neg_add32]
  exact SE_debt h5 hc hd hn hxy k2
theorem S_hand {hp : HP} {b b' P Cn Tn : Nat} (hr : Rr hp b b') (htx : Rtx hp) (hbr : Rbr hp b P Cn Tn) (hst : Rst hp Cn) (him : Rim hp Cn) (hpa : Rpa hp Cn) (hsl : Rsl hp P Cn Tn) {c d : Nat} (hc : c < Cn) (hd : d < Cn) (hn : c ≠ d) (a : Int32) : ∃ hp1 hm, f_Pa_push hp 3 = some (0, hp1) ∧ f_Mo_minds (hx4 hp1 c d a) = some (0, hm) ∧ hx4 hp1 c d a 4 d = cla (hp 4 d + a) ∧ hx4 hp1 c d a 5 (c * 5 + d) = hp 5 (c * 5 + d) - a ∧ (hx4 hp1 c d a 0 8).toNatClampNeg = b ∧ Rbr (hx4 hp1 c d a) b P Cn Tn ∧ nd (hx4 hp1 c d a) = nd hp ∧ hx4 hp1 c d a 100 = hp 100 ∧ (∀ j, j < 96 → hm 100 j = hp 100 j) ∧ (∀ w2, Rbr (setc hm 100 w2) b P Cn Tn ∧ nd (setc hm 100 w2) = nd hp) ∧ ∀ w2, (∀ j, w2 j = w4 (hm 100) c d (cla (hp 4 c + -a)) (cla (hp 4 d + a)) (hp 5 (c * 5 + d) - a) (hp 5 (d * 5 + c) + a) j) → R (setc hm 100 w2) := by
  obtain ⟨nx, ct, p1, p2, p3, p4, p5, p6⟩ := hpa
  have hb := Rr_or hr
  have c5 := hbr.1.2.1
  obtain ⟨hp1, hpush, pu⟩ := x_push p1 p2 p3 p4
  have g0 : ∀ q, q < 6 ∨ 67 < q → hp1 q = hp q := pu.1
  have e4 : hp1 4 = hp 4 := g0 4 (by omega)
  have e5 : hp1 5 = hp 5 := g0 5 (by omega)
  have fx : ∀ q, q ≠ 4 → q ≠ 5 → hx4 hp1 c d a q = hp1 q := by
    intro q q4 q5
    unfold hx4
    simp only [up_ap]
    rw [if_neg q5, if_neg q5, if_neg q4, if_neg q4]
  have x4 : hx4 hp1 c d a 4 = hx4 hp c d a 4 := by
    show upd (upd (hp1 4) c _) d _ = upd (upd (hp 4) c _) d _
    rw [e4]
  have x5 : hx4 hp1 c d a 5 = hx4 hp c d a 5 := by
    show upd (upd (hp1 5) _ _) _ _ = upd (upd (hp 5) _ _) _ _
    rw [e5]
  have fxh : ∀ q, q < 6 ∨ 67 < q → q ≠ 4 → q ≠ 5 → hx4 hp1 c d a q = hp q := fun q q1 q2 q3 => by rw [fx q q2 q3, g0 q q1]
  obtain ⟨hm, hmin, mu⟩ := m_minds (hp := hx4 hp1 c d a) p2 (by rw [fxh 99 (by omega) (by omega) (by omega)]; exact p5)
  obtain ⟨m1, m2, m3, m4, m5⟩ := id mu
  have hbx : Rbr (hx4 hp1 c d a) b P Cn Tn := Rbr_cong hp hb (fun q hq => fxh q (by omega) (by omega) (by omega)) (by rw [fxh 99 (by omega) (by omega) (by omega)]) (by rw [fxh 99 (by omega) (by omega) (by omega)]) (by rw [fxh 99 (by omega) (by omega) (by omega)]) hbr
  have w1 : ∀ j, j < 96 → hm 100 j = hp 100 j := fun j hj => by rw [m4 j hj, fxh 100 (by omega) (by omega) (by omega)]
  refine ⟨hp1, hm, hpush, hmin, ?_, ?_, ?_, hbx, nd_cong (fxh 102 (by omega) (by omega) (by omega)), fxh 100 (by omega) (by omega) (by omega), w1, ?_, ?_⟩
  · rw [x4]
    show upd (upd (hp 4) c _) d _ d = _
    rw [upd_ap, if_pos rfl]
  · rw [x5]
    show upd (upd (hp 5) (c * 5 + d) _) (d * 5 + c) _ (c * 5 + d) = _
    rw [upd_ap, if_neg (by omega), upd_ap, if_pos rfl]
  · rw [fxh 0 (by omega) (by omega) (by omega)]; exact (isB_b hr).2
  · intro w2
    refine ⟨Rbr_cong (hx4 hp1 c d a) hb (fun q hq => by rw [setc_ap, if_neg (by omega)]; exact m1 q (by omega) (by omega)) (by show hm 99 3 = _; exact m2 3 (by omega)) (by show hm 99 5 = _; exact m2 5 (by omega)) (by show hm 99 8 = _; exact m2 8 (by omega)) hbx, ?_⟩
    refine nd_cong ?_
    show hm 102 = _
    rw [m1 102 (by omega) (by omega)]
    exact fxh 102 (by omega) (by omega) (by omega)
  · intro w2 hw2
    have ew : w2 = w4 (hm 100) c d (cla (hp 4 c + -a)) (cla (hp 4 d + a)) (hp 5 (c * 5 + d) - a) (hp 5 (d * 5 + c) + a) := funext hw2
    have far : ∀ j, 31 ≤ j → w2 j = hm 100 j := by
      intro j hj
      rw [ew]
      unfold w4
      rw [upd_ap, if_neg (by omega), upd_ap, if_neg (by omega), upd_ap, if_neg (by omega), upd_ap, if_neg (by omega)]
    refine R_done hr htx hbr hst him p1 p2 p6 hsl pu (hpx := hx4 hp1 c d a) (hm := hm) (fun x x0 x3 x4 x5 => fx x x4 x5) (fun j hj => by rw [fx 0 (by omega) (by omega)]) mu (fun x hx => by rw [setc_ap, if_neg hx]) (fun j hj => by rw [setc_at]; exact far j (by omega)) ?_
    refine ⟨?_, ?_, ?_⟩
    · have k := hand_SE (a := a) hst c5 hc hd hn w1
      have r3 : setc hm 100 w2 3 2 = hx4 hp c d a 3 2 := by
        show hm 3 2 = hp 3 2
        rw [m1 3 (by omega) (by omega), fxh 3 (by omega) (by omega) (by omega)]
      have r4 : setc hm 100 w2 4 = hx4 hp c d a 4 := by
        show hm 4 = _
        rw [m1 4 (by omega) (by omega)]; exact x4
      have r5 : setc hm 100 w2 5 = hx4 hp c d a 5 := by
        show hm 5 = _
        rw [m1 5 (by omega) (by omega)]; exact x5
      rw [r3, r4, r5, setc_at, ew]
      exact k
    · rw [setc_at, far 31 (by omega), w1 31 (by omega)]
      show hm 0 11 = _
      rw [m1 0 (by omega) (by omega), fxh 0 (by omega) (by omega) (by omega)]
      exact hst.2.1
    · rw [setc_at, far 31 (by omega), w1 31 (by omega)]
      exact hst.2.2
theorem up4_setc (hp : HP) (a b c d : Nat) (v1 v2 v3 v4 : Int32) : up (up (up (up hp 100 a v1) 100 b v2) 100 c v3) 100 d v4 = setc hp 100 (upd (upd (upd (upd (hp 100) a v1) b v2) c v3) d v4) := by
  have e := setc_self hp 100
  conv => lhs; rw [← e]
  rw [up_setc, up_setc, up_setc, up_setc]
theorem S_lend {hp : HP} (h : R hp) (a1 a2 a : Int32) : Sim hp (fun x => f_BA_lend x a1 a2 a) (fun x => f_Mo_lend x a1 a2 a) := by
  have hR := h
  obtain ⟨b, b', P, Cn, Tn, hr, htx, hbr, hst, him, hpa, hsl⟩ := h
  obtain ⟨ib, eb⟩ := isB_b hr
  have c5 := hbr.1.2.1
  rcases two_c a1 a2 c5 with e | ⟨c, d, hc, hd, hne, rfl, rfl, e1⟩
  · refine Sim.pure (-1000000001) ?_ ?_ hR
    · simp only [f_BA_lend, x_areTwo hr hbr, e, Option.bind_some, if_true]
    · simp only [f_Mo_lend, m_areTwo hbr, e, Option.bind_some, if_true]
  · rcases @wi_lit a 1 999 with ⟨e0, -⟩ | ⟨e0, h1, h2⟩
    · refine Sim.pure (-1000000002) ?_ ?_ hR
      · simp only [f_BA_lend, x_areTwo hr hbr, e1, x_within, e0, Option.bind_some, if_true, if_neg one_ne]
      · simp only [f_Mo_lend, m_areTwo hbr, e1, m_in hp a 1 999 (A := 1) (B := 999) rfl rfl, e0, Option.bind_some, if_true, if_neg one_ne]
    · by_cases hF : hp 5 (d * 5 + c) + a ≤ 9999
      · obtain ⟨hp1, hm, s1, s2, s3, s4, s5, s6, s7, s8, s9, s10, s11⟩ := S_hand hr htx hbr hst him hpa hsl hc hd hne a
        generalize hw : upd (upd (upd (upd (hm 100) (1 + c) (cla (hp 4 c + -a))) (1 + d) (cla (hp 4 d + a))) (6 + 5 * d + c) (hp 5 (d * 5 + c) + a)) (6 + 5 * c + d) (hp 5 (c * 5 + d) - a) = w2
        refine ⟨ps (nd hp) (cla (hp 4 d + a)) P, hx4 hp1 c d a, setc hm 100 w2, ?_, ?_, s11 w2 (fun j => ?_)⟩
        · show f_BA_lend hp (nI c) (nI d) a = _
          unfold f_BA_lend
          rw [x_areTwo hr hbr, e1, Option.bind_some]
          dsimp only
          rw [if_neg one_ne, x_within, e0, Option.bind_some]
          dsimp only
          rw [if_neg one_ne, x_debt hp 3 (by omega) (by omega), Option.bind_some]
          dsimp only
          rw [if_pos hF, s1, Option.bind_some]
          dsimp only
          rw [x_hand hp1 (by omega) (by omega) hne, Option.bind_some]
          dsimp only
          rw [s5, if_pos ib, if_pos (inb_n (by omega) (by omega)), cl_n (by omega), s3, x_ps s6, s7]
          rfl
        · show f_Mo_lend (hx4 hp1 c d a) (nI c) (nI d) a = _
          unfold f_Mo_lend
          rw [m_areTwo s6, e1, Option.bind_some]
          dsimp only
          rw [if_neg one_ne, m_in _ a 1 999 (A := 1) (B := 999) rfl rfl, e0, Option.bind_some]
          dsimp only
          rw [if_neg one_ne, n_65, if_pos (inb_n (by omega) (by omega)), cl_n (by omega), if_pos (by rw [s8, ← Rst_de hst (by omega) (by omega)]; exact hF), s2, Option.bind_some]
          dsimp only
          rw [m_changes (by omega), Option.bind_some]
          dsimp only
          rw [m_changes (by omega), Option.bind_some]
          dsimp only
          rw [m_owesMore _ (by omega) (by omega) (Ne.symm hne), Option.bind_some]
          dsimp only
          rw [up4_setc]
          have v1 : cla (hm 100 (1 + c) + -a) = cla (hp 4 c + -a) := by rw [s9 _ (by omega), Rst_ba hst (by omega)]
          have v2 : up hm 100 (1 + c) (cla (hm 100 (1 + c) + -a)) 100 (1 + d) = hp 4 d := by rw [up_ap, if_pos rfl, upd_ap, if_neg (by omega), s9 _ (by omega), Rst_ba hst (by omega)]
          have v3 : ∀ z1 z2, up (up hm 100 (1 + c) z1) 100 (1 + d) z2 100 (6 + 5 * d + c) = hp 5 (d * 5 + c) := fun z1 z2 => by
            rw [up_ap, if_pos rfl, upd_ap, if_neg (by omega), up_ap, if_pos rfl, upd_ap, if_neg (by omega), s9 _ (by omega), Rst_de hst (by omega) (by omega)]
          have v4 : ∀ z1 z2, up (up hm 100 (1 + c) z1) 100 (1 + d) z2 100 (6 + 5 * c + d) = hp 5 (c * 5 + d) := fun z1 z2 => by
            rw [up_ap, if_pos rfl, upd_ap, if_neg (by omega), up_ap, if_pos rfl, upd_ap, if_neg (by omega), s9 _ (by omega), Rst_de hst (by omega) (by omega)]
          rw [v2, v1, v3, v4, hw, m_thereOf (s10 w2).1 (by omega), (s10 w2).2, setc_at]
          have v5 : w2 (1 + d) = cla (hp 4 d + a) := by rw [← hw, upd_ap, if_neg (by omega), upd_ap, if_neg (by omega), upd_ap, if_pos rfl]
          rw [v5]
          rfl
        · rw [← hw]
          unfold w4
          rw [upd_comm _ (show 6 + 5 * c + d ≠ 6 + 5 * d + c by omega)]
      · refine Sim.pure (-1000000004) ?_ ?_ hR
        · simp only [f_BA_lend, x_areTwo hr hbr, e1, x_within, e0, x_debt hp 3 (show d < 5 by omega) (show c < 5 by omega), Option.bind_some, if_neg one_ne]
          rw [if_neg hF]
        · simp only [f_Mo_lend, m_areTwo hbr, e1, m_in hp a 1 999 (A := 1) (B := 999) rfl rfl, e0, Option.bind_some, if_neg one_ne]
          rw [n_65, if_pos (inb_n (by omega) (by omega)), cl_n (by omega), ← Rst_de hst (by omega) (by omega), if_neg hF]
theorem sub_neg32 (x a : Int32) : x - -a = x + a := by rw [Int32.sub_neg]
theorem S_payBack {hp : HP} (h : R hp) (a1 a2 a : Int32) : Sim hp (fun x => f_BA_payBack x a1 a2 a) (fun x => f_Mo_payBack x a1 a2 a) := by
  have hR := h
  obtain ⟨b, b', P, Cn, Tn, hr, htx, hbr, hst, him, hpa, hsl⟩ := h
  obtain ⟨ib, eb⟩ := isB_b hr
  have c5 := hbr.1.2.1
  rcases two_c a1 a2 c5 with e | ⟨c, d, hc, hd, hne, rfl, rfl, e1⟩
  · refine Sim.pure (-1000000001) ?_ ?_ hR
    · simp only [f_BA_payBack, x_areTwo hr hbr, e, Option.bind_some, if_true]
    · simp only [f_Mo_payBack, m_areTwo hbr, e, Option.bind_some, if_true]
  · rcases @wi_lit a 1 999 with ⟨e0, -⟩ | ⟨e0, h1, h2⟩
    · refine Sim.pure (-1000000002) ?_ ?_ hR
      · simp only [f_BA_payBack, x_areTwo hr hbr, e1, x_within, e0, Option.bind_some, if_true, if_neg one_ne]
      · simp only [f_Mo_payBack, m_areTwo hbr, e1, m_in hp a 1 999 (A := 1) (B := 999) rfl rfl, e0, Option.bind_some, if_true, if_neg one_ne]
    · by_cases hF : a ≤ hp 5 (c * 5 + d)
      · obtain ⟨hp1, hm, s1, s2, s3, s4, s5, s6, s7, s8, s9, s10, s11⟩ := S_hand hr htx hbr hst him hpa hsl hc hd hne a
        generalize hw : upd (upd (upd (upd (hm 100) (1 + c) (cla (hp 4 c + -a))) (1 + d) (cla (hp 4 d + a))) (6 + 5 * c + d) (hp 5 (c * 5 + d) - a)) (6 + 5 * d + c) (hp 5 (d * 5 + c) + a) = w2
        refine ⟨hp 5 (c * 5 + d) - a, hx4 hp1 c d a, setc hm 100 w2, ?_, ?_, s11 w2 (fun j => ?_)⟩
        · show f_BA_payBack hp (nI c) (nI d) a = _
          unfold f_BA_payBack
          rw [x_areTwo hr hbr, e1, Option.bind_some]
          dsimp only
          rw [if_neg one_ne, x_within, e0, Option.bind_some]
          dsimp only
          rw [if_neg one_ne, x_debt hp 3 (by omega) (by omega), Option.bind_some]
          dsimp only
          rw [if_pos hF, s1, Option.bind_some]
          dsimp only
          rw [x_hand hp1 (by omega) (by omega) hne, Option.bind_some]
          dsimp only
          rw [x_debt _ 3 (by omega) (by omega), Option.bind_some]
          show some (hx4 hp1 c d a 5 (c * 5 + d), hx4 hp1 c d a) = _
          rw [s4]
        · show f_Mo_payBack (hx4 hp1 c d a) (nI c) (nI d) a = _
          unfold f_Mo_payBack
          rw [m_areTwo s6, e1, Option.bind_some]
          dsimp only
          rw [if_neg one_ne, m_in _ a 1 999 (A := 1) (B := 999) rfl rfl, e0, Option.bind_some]
          dsimp only
          rw [if_neg one_ne, n_65, if_pos (inb_n (by omega) (by omega)), cl_n (by omega), if_pos (by rw [s8, ← Rst_de hst (by omega) (by omega)]; exact hF), s2, Option.bind_some]
          dsimp only
          rw [m_changes (by omega), Option.bind_some]
          dsimp only
          rw [m_changes (by omega), Option.bind_some]
          dsimp only
          rw [m_owesMore _ (by omega) (by omega) hne, Option.bind_some]
          dsimp only
          rw [up4_setc]
          have v1 : cla (hm 100 (1 + c) + -a) = cla (hp 4 c + -a) := by rw [s9 _ (by omega), Rst_ba hst (by omega)]
          have v2 : up hm 100 (1 + c) (cla (hm 100 (1 + c) + -a)) 100 (1 + d) = hp 4 d := by rw [up_ap, if_pos rfl, upd_ap, if_neg (by omega), s9 _ (by omega), Rst_ba hst (by omega)]
          have v3 : ∀ z1 z2, up (up hm 100 (1 + c) z1) 100 (1 + d) z2 100 (6 + 5 * d + c) = hp 5 (d * 5 + c) := fun z1 z2 => by
            rw [up_ap, if_pos rfl, upd_ap, if_neg (by omega), up_ap, if_pos rfl, upd_ap, if_neg (by omega), s9 _ (by omega), Rst_de hst (by omega) (by omega)]
          have v4 : ∀ z1 z2, up (up hm 100 (1 + c) z1) 100 (1 + d) z2 100 (6 + 5 * c + d) = hp 5 (c * 5 + d) := fun z1 z2 => by
            rw [up_ap, if_pos rfl, upd_ap, if_neg (by omega), up_ap, if_pos rfl, upd_ap, if_neg (by omega), s9 _ (by omega), Rst_de hst (by omega) (by omega)]
          rw [v2, v1, v3, v4, sub_neg32, add_neg32 (hp 5 (c * 5 + d)) a, hw, setc_at]
          have v5 : w2 (6 + 5 * c + d) = hp 5 (c * 5 + d) - a := by rw [← hw, upd_ap, if_neg (by omega), upd_ap, if_pos rfl]
          rw [v5]
        · rw [← hw]
          rfl
      · refine Sim.pure (-1000000003) ?_ ?_ hR
        · simp only [f_BA_payBack, x_areTwo hr hbr, e1, x_within, e0, x_debt hp 3 (show c < 5 by omega) (show d < 5 by omega), Option.bind_some, if_neg one_ne]
          rw [if_neg hF]
        · simp only [f_Mo_payBack, m_areTwo hbr, e1, m_in hp a 1 999 (A := 1) (B := 999) rfl rfl, e0, Option.bind_some, if_neg one_ne]
          rw [n_65, if_pos (inb_n (by omega) (by omega)), cl_n (by omega), ← Rst_de hst (by omega) (by omega), if_neg hF]
