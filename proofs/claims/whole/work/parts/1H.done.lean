theorem Rim_w {hp hp2 : HP} {Cn : Nat} (hr : ∀ q, (79 ≤ q ∧ q ≤ 86) ∨ q = 101 → hp2 q = hp q) (hw : ∀ j, 32 ≤ j → j < 96 → hp2 100 j = hp 100 j) (k : Rim hp Cn) : Rim hp2 Cn := by
  intro i hi
  rw [hr 86 (by omega), hr 101 (by omega), hr (79 + 3 * i) (by omega), hr (80 + 3 * i) (by omega), hr (81 + 3 * i) (by omega), hr 85 (by omega), hw (63 + 32 * i) (by omega) (by omega)]
  rcases k i hi with q | ⟨q1, q2, q3⟩
  · exact Or.inl q
  · exact Or.inr ⟨q1, SE.cong rfl (fun _ _ => rfl) (fun _ _ => rfl) (fun i hi => hw _ (by omega) (by omega)) q2, q3⟩
theorem rg_a {nx ct j : Nat} (h1 : nx < 20) (h2 : ct < 20) (hj : j < ct) : rg ((nx + 1) % 20) (ct + 1) j = rg nx ct j ∧ rg nx ct j ≠ nx := by
  unfold rg; omega
theorem rg_b {nx ct : Nat} (h1 : nx < 20) (h2 : ct < 20) : rg ((nx + 1) % 20) (ct + 1) ct = nx := by
  unfold rg; omega
theorem rg_c {nx j : Nat} (h1 : nx < 20) (hj : j < 19) : rg ((nx + 1) % 20) 20 j = rg nx 20 (j + 1) ∧ rg nx 20 (j + 1) ≠ nx := by
  unfold rg; omega
theorem rg_d {nx : Nat} (h1 : nx < 20) : rg ((nx + 1) % 20) 20 19 = nx := by
  unfold rg; omega
theorem Rpa_push {hp hp1 hp2 : HP} {Cn nx ct : Nat} (h1 : nx < 20) (h2 : ct ≤ 20) (hb : ∀ j, j < ct → SE Cn (hp (8 + 3 * rg nx ct j) 2) (hp (9 + 3 * rg nx ct j)) (hp (10 + 3 * rg nx ct j)) (hp 100) (96 + 32 * j)) (hnow : SE Cn (hp 3 2) (hp 4) (hp 5) (hp 100) 0) (pu : PU hp hp1 nx ct) (hr : ∀ q, 6 ≤ q → q ≤ 67 → hp2 q = hp1 q) (h99 : hp2 99 2 = nI (min (ct + 1) 20)) (hw : ∀ j, 96 ≤ j → j < 736 → hp2 100 j = pw ct (hp 100) j) : Rpa hp2 Cn := by
  obtain ⟨u1, u2, u3, u4, u5, u6, u7⟩ := pu
  have ring : ∀ i, i < 20 → i ≠ nx → hp2 (8 + 3 * i) = hp (8 + 3 * i) ∧ hp2 (9 + 3 * i) = hp (9 + 3 * i) ∧ hp2 (10 + 3 * i) = hp (10 + 3 * i) := by
    intro i hi hn
    rw [hr _ (by omega) (by omega), hr _ (by omega) (by omega), hr _ (by omega) (by omega)]
    exact ⟨u4 _ (by omega) (by omega) (by omega) (by omega) (by omega), u4 _ (by omega) (by omega) (by omega) (by omega) (by omega), u4 _ (by omega) (by omega) (by omega) (by omega) (by omega)⟩
  have new : ∀ o, (∀ i, i < 31 → hp2 100 (o + i) = hp 100 (0 + i)) → SE Cn (hp2 (8 + 3 * nx) 2) (hp2 (9 + 3 * nx)) (hp2 (10 + 3 * nx)) (hp2 100) o := by
    intro o ho
    rw [hr _ (by omega) (by omega), hr _ (by omega) (by omega), hr _ (by omega) (by omega)]
    exact SE.cong u5 u6 u7 ho hnow
  refine ⟨(nx + 1) % 20, min (ct + 1) 20, Nat.mod_lt _ (by decide), by omega, by rw [hr 6 (by omega) (by omega)]; exact u2, by rw [hr 6 (by omega) (by omega)]; exact u3, h99, fun j hj => ?_⟩
  by_cases hc : ct = 20
  · subst hc
    have e20 : min (20 + 1) 20 = 20 := by decide
    rw [e20] at hj ⊢
    by_cases hj19 : j < 19
    · obtain ⟨g1, g2⟩ := rg_c h1 hj19
      rw [g1]
      obtain ⟨r1, r2, r3⟩ := ring _ (rg_lt nx 20 (j + 1)) g2
      rw [r1, r2, r3]
      refine SE.cong rfl (fun _ _ => rfl) (fun _ _ => rfl) (fun i hi => ?_) (hb (j + 1) (by omega))
      rw [hw _ (by omega) (by omega)]
      unfold pw
      rw [if_pos rfl, if_pos (by omega)]
      exact congrArg (hp 100) (by omega)
    · have : j = 19 := by omega
      subst this
      rw [rg_d h1]
      refine new _ (fun i hi => ?_)
      rw [hw _ (by omega) (by omega)]
      unfold pw
      rw [if_pos rfl, if_neg (by omega)]
      exact congrArg (hp 100) (by omega)
  · have em : min (ct + 1) 20 = ct + 1 := by omega
    rw [em] at hj ⊢
    by_cases hjc : j < ct
    · obtain ⟨g1, g2⟩ := rg_a h1 (by omega) hjc
      rw [g1]
      obtain ⟨r1, r2, r3⟩ := ring _ (rg_lt nx ct j) g2
      rw [r1, r2, r3]
      refine SE.cong rfl (fun _ _ => rfl) (fun _ _ => rfl) (fun i hi => ?_) (hb j hjc)
      rw [hw _ (by omega) (by omega)]
      unfold pw
      rw [if_neg hc, if_neg (by omega)]
    · have : j = ct := by omega
      subst this
      rw [rg_b h1 (by omega)]
      refine new _ (fun i hi => ?_)
      rw [hw _ (by omega) (by omega)]
      unfold pw
      rw [if_neg hc, if_pos (by omega)]
      exact congrArg (hp 100) (by omega)
/-- what is done: the class pushes its standing and changes it, the reference does so too -/
theorem R_done {hp hp1 hpx hm hp2 : HP} {b b' P Cn Tn nx ct : Nat} (hr : Rr hp b b') (htx : Rtx hp) (hbr : Rbr hp b P Cn Tn) (hst : Rst hp Cn) (him : Rim hp Cn) (h1 : nx < 20) (h2 : ct ≤ 20) (hb : ∀ j, j < ct → SE Cn (hp (8 + 3 * rg nx ct j) 2) (hp (9 + 3 * rg nx ct j)) (hp (10 + 3 * rg nx ct j)) (hp 100) (96 + 32 * j)) (hsl : Rsl hp P Cn Tn) (pu : PU hp hp1 nx ct) (hx : ∀ q, q ≠ 0 → q ≠ 3 → q ≠ 4 → q ≠ 5 → hpx q = hp1 q) (hx0 : ∀ j, j ≠ 11 → hpx 0 j = hp1 0 j) (mu : MU hpx hm ct) (hm2 : ∀ q, q ≠ 100 → hp2 q = hm q) (hw2 : ∀ j, 32 ≤ j → hp2 100 j = hm 100 j) (hst2 : Rst hp2 Cn) : R hp2 := by
  have pu1 := pu.1
  obtain ⟨m1, m2, m3, m4, m5⟩ := mu
  have fr : ∀ q, (q < 6 ∨ 67 < q) → q ≠ 0 → q ≠ 3 → q ≠ 4 → q ≠ 5 → q ≠ 99 → q ≠ 100 → hp2 q = hp q := by
    intro q a0 a1 a2 a3 a4 a5 a6
    rw [hm2 q a6, m1 q a5 a6, hx q a1 a2 a3 a4, pu1 q a0]
  have f0 : ∀ j, j ≠ 11 → hp2 0 j = hp 0 j := by
    intro j hj
    rw [hm2 0 (by omega), m1 0 (by omega) (by omega), hx0 j hj, pu1 0 (by omega)]
  have f99 : ∀ j, j ≠ 2 → hp2 99 j = hp 99 j := by
    intro j hj
    rw [hm2 99 (by omega), m2 j hj, hx 99 (by omega) (by omega) (by omega) (by omega), pu1 99 (by omega)]
  have e100 : ∀ j, hpx 100 j = hp 100 j := by
    intro j
    rw [hx 100 (by omega) (by omega) (by omega) (by omega), pu1 100 (by omega)]
  have fw : ∀ j, 96 ≤ j → j < 736 → hp2 100 j = pw ct (hp 100) j := by
    intro j q1 q2
    rw [hw2 j (by omega), m5 j q1 q2, show hpx 100 = hp 100 from funext e100]
  refine ⟨b, b', P, Cn, Tn, Rr_cong hp (f0 8 (by omega)) (f0 9 (by omega)) (f0 10 (by omega)) (f99 16 (by omega)) hr, Rtx_cong hp ⟨fr 2 (by omega) (by omega) (by omega) (by omega) (by omega) (by omega) (by omega), fr 106 (by omega) (by omega) (by omega) (by omega) (by omega) (by omega) (by omega)⟩ (by rw [fr 1 (by omega) (by omega) (by omega) (by omega) (by omega) (by omega) (by omega)]) (f99 11 (by omega)) htx, Rbr_cong hp (Rr_or hr) (fun q hq => fr q (by omega) (by omega) (by omega) (by omega) (by omega) (by omega) (by omega)) (f99 3 (by omega)) (f99 5 (by omega)) (f99 8 (by omega)) hbr, hst2, ?_, ?_, Rsl_cong hp (fun q hq => fr q (by omega) (by omega) (by omega) (by omega) (by omega) (by omega) (by omega)) (f99 23 (by omega)) (f99 25 (by omega)) (f99 29 (by omega)) (f99 32 (by omega)) hsl⟩
  · refine Rim_w (fun q hq => fr q (by omega) (by omega) (by omega) (by omega) (by omega) (by omega) (by omega)) (fun j q1 q2 => ?_) him
    rw [hw2 j q1, m4 j q2, e100]
  · refine Rpa_push h1 h2 hb hst.1 pu (fun q q1 q2 => ?_) ?_ fw
    · rw [hm2 q (by omega), m1 q (by omega) (by omega), hx q (by omega) (by omega) (by omega) (by omega)]
    · rw [hm2 99 (by omega)]; exact m3
theorem SE_bal {Cn : Nat} {mo : Int32} {ba de w : Nat → Int32} {c : Nat} {v : Int32} (hc : c < 5) (hv : -9999 ≤ v.toInt ∧ v.toInt ≤ 9999) (h : SE Cn mo ba de w 0) : SE Cn mo (upd ba c v) de (upd w (1 + c) v) 0 := by
  obtain ⟨k1, k2, k3, k4, k5⟩ := h
  refine ⟨?_, fun d hd => ?_, fun k hk => ?_, k4, k5⟩
  · rw [upd_ap, if_neg (by omega)]; exact k1
  · rw [upd_ap, upd_ap]
    by_cases e : d = c
    · subst e
      rw [if_pos rfl, if_pos (by omega)]
      exact ⟨rfl, hv⟩
    · rw [if_neg e, if_neg (by omega)]
      exact k2 d hd
  · rw [upd_ap, if_neg (by omega)]; exact k3 k hk
theorem SE_mon {Cn : Nat} {mo : Int32} {ba de w : Nat → Int32} (h : SE Cn mo ba de w 0) : SE Cn (mo + 1) ba de (upd w 0 (w 0 + 1)) 0 := by
  obtain ⟨k1, k2, k3, k4, k5⟩ := h
  refine ⟨?_, fun d hd => ?_, fun k hk => ?_, k4, k5⟩
  · rw [upd_ap, if_pos rfl, k1]
  · rw [upd_ap, if_neg (by omega)]; exact k2 d hd
  · rw [upd_ap, if_neg (by omega)]; exact k3 k hk
theorem neg_neg32 (x : Int32) : - -x = x := by simp
theorem SE_debt {Cn : Nat} {mo : Int32} {ba de w : Nat → Int32} {c d : Nat} {x y : Int32} (h5 : Cn ≤ 5) (hc : c < Cn) (hd : d < Cn) (hn : c ≠ d) (hxy : x = -y) (h : SE Cn mo ba de w 0) : SE Cn mo ba (upd (upd de (c * 5 + d) x) (d * 5 + c) y) (upd (upd w (6 + 5 * c + d) x) (6 + 5 * d + c) y) 0 := by
  obtain ⟨k1, k2, k3, k4, k5⟩ := h
  have hyx : y = -x := by rw [hxy, neg_neg32]
  refine ⟨?_, fun e he => ?_, fun k hk => ?_, fun i j hi hj => ?_, fun i j hi hj hq => ?_⟩
  · rw [upd_ap, if_neg (by omega), upd_ap, if_neg (by omega)]; exact k1
  · rw [upd_ap, if_neg (by omega), upd_ap, if_neg (by omega)]; exact k2 e he
  · rw [upd_ap, upd_ap, upd_ap, upd_ap]
    by_cases q1 : k = d * 5 + c
    · rw [if_pos q1, if_pos (by omega)]
    · rw [if_neg q1, if_neg (show ¬ 0 + 6 + k = 6 + 5 * d + c by omega)]
      by_cases q2 : k = c * 5 + d
      · rw [if_pos q2, if_pos (show 0 + 6 + k = 6 + 5 * c + d by omega)]
      · rw [if_neg q2, if_neg (show ¬ 0 + 6 + k = 6 + 5 * c + d by omega)]; exact k3 k hk
  · rw [upd_ap, upd_ap, upd_ap, upd_ap]
    by_cases q1 : 5 * i + j = d * 5 + c
    · rw [if_pos q1, if_neg (by omega), if_pos (by omega)]; exact hyx
    · rw [if_neg q1]
      by_cases q2 : 5 * i + j = c * 5 + d
      · rw [if_pos q2, if_pos (by omega)]; exact hxy
      · rw [if_neg q2, if_neg (by omega), if_neg (by omega)]; exact k4 i j hi hj
  · rw [upd_ap, upd_ap, if_neg (by omega), if_neg (by omega)]; exact k5 i j hi hj hq
theorem nd_cong {hp hp' : HP} (h : hp' 102 = hp 102) : nd hp' = nd hp := by unfold nd; rw [h]
theorem S_spend {hp : HP} (h : R hp) (a q : Int32) : Sim hp (fun x => f_BA_spend x a q) (fun x => f_Mo_spend x a q) := by
  have hR := h
  obtain ⟨b, b', P, Cn, Tn, hr, htx, hbr, hst, him, ⟨nx, ct, p1, p2, p3, p4, p5, p6⟩, hsl⟩ := h
  obtain ⟨ib, eb⟩ := isB_b hr
  have hb := Rr_or hr
  have c5 := hbr.1.2.1
  rcases wi_n a (N := Cn) (by omega) with e1 | ⟨c, hc, rfl, e1⟩
  · refine Sim.pure (-1000000001) ?_ ?_ hR
    · simp only [f_BA_spend, eb, ib, x_hasC hbr.2.1.2.1, e1, Option.bind_some, if_true]
    · simp only [f_Mo_spend, m_isC hbr.2.2.1.2.1, e1, Option.bind_some, if_true]
  · rcases @wi_lit q 1 999 with ⟨e0, -⟩ | ⟨e0, h1, h2⟩
    · refine Sim.pure (-1000000002) ?_ ?_ hR
      · simp only [f_BA_spend, eb, ib, x_hasC hbr.2.1.2.1, e1, x_within, e0, Option.bind_some, if_true, if_neg one_ne]
      · simp only [f_Mo_spend, m_isC hbr.2.2.1.2.1, e1, m_in hp q 1 999 (A := 1) (B := 999) rfl rfl, e0, Option.bind_some, if_true, if_neg one_ne]
    · obtain ⟨hp1, hpush, pu⟩ := x_push p1 p2 p3 p4
      have g0 : ∀ q, q < 6 ∨ 67 < q → hp1 q = hp q := pu.1
      have e4 : hp1 4 c = hp 4 c := by rw [g0 4 (by omega)]
      generalize hv : cla (hp 4 c + -q) = v
      have hvr : -9999 ≤ v.toInt ∧ v.toInt ≤ 9999 := by rw [← hv]; exact cla_rg _
      have eb1 : (up hp1 4 c v 0 8).toNatClampNeg = b := by
        show (hp1 0 8).toNatClampNeg = b
        rw [g0 0 (by omega)]; exact eb
      have hbx : Rbr (up hp1 4 c v) b P Cn Tn := Rbr_cong hp hb (by intro x hx; rw [up_ap, if_neg (by omega)]; exact g0 x (by omega)) (by show hp1 99 3 = _; rw [g0 99 (by omega)]) (by show hp1 99 5 = _; rw [g0 99 (by omega)]) (by show hp1 99 8 = _; rw [g0 99 (by omega)]) hbr
      have ndx : nd (up hp1 4 c v) = nd hp := nd_cong (by show hp1 102 = _; exact g0 102 (by omega))
      obtain ⟨hm, hmin, mu⟩ := m_minds (hp := up hp1 4 c v) p2 (by show hp1 99 2 = _; rw [g0 99 (by omega)]; exact p5)
      obtain ⟨m1, m2, m3, m4, m5⟩ := id mu
      have w1 : ∀ j, j < 96 → hm 100 j = hp 100 j := fun j hj => by rw [m4 j hj]; show hp1 100 j = _; rw [g0 100 (by omega)]
      have ew : hm 100 (1 + c) = hp 4 c := by rw [w1 _ (by omega), Rst_ba hst (by omega)]
      have hb2 : Rbr (up hm 100 (1 + c) v) b P Cn Tn := Rbr_cong (up hp1 4 c v) hb (by intro x hx; rw [up_ap, if_neg (by omega)]; exact m1 x (by omega) (by omega)) (by show hm 99 3 = _; exact m2 3 (by omega)) (by show hm 99 5 = _; exact m2 5 (by omega)) (by show hm 99 8 = _; exact m2 8 (by omega)) hbx
      have nd2 : nd (up hm 100 (1 + c) v) = nd hp := by rw [← ndx]; exact nd_cong (by show hm 102 = _; exact m1 102 (by omega) (by omega))
      refine ⟨ps (nd hp) v P, up hp1 4 c v, up hm 100 (1 + c) v, ?_, ?_, ?_⟩
      · show f_BA_spend hp (nI c) q = _
        unfold f_BA_spend
        rw [eb, if_pos ib, x_hasC hbr.2.1.2.1, e1, Option.bind_some]
        dsimp only
        rw [if_neg one_ne, x_within, e0, Option.bind_some]
        dsimp only
        rw [if_neg one_ne, hpush, Option.bind_some]
        dsimp only
        unfold f_St_change
        rw [if_pos (inb_n (by omega) (by omega)), cl_n (by omega), x_bounded, Option.bind_some]
        show (if isB (up hp1 4 c (cla (hp1 4 c + -q)) 0 8).toNatClampNeg = true then _ else _) = _
        rw [e4, hv, eb1, if_pos ib, if_pos (inb_n (by omega) (by omega))]
        have e5 : up hp1 4 c v 4 c = v := by rw [up_ap, if_pos rfl, upd_ap, if_pos rfl]
        show (f_Br_partsAt (up hp1 4 c v) b (up hp1 4 c v 4 c)).bind _ = _
        rw [e5, x_ps hbx, ndx]
        rfl
      · show f_Mo_spend (up hp1 4 c v) (nI c) q = _
        unfold f_Mo_spend
        rw [m_isC hbx.2.2.1.2.1, e1, Option.bind_some]
        dsimp only
        rw [if_neg one_ne, m_in _ q 1 999 (A := 1) (B := 999) rfl rfl, e0, Option.bind_some]
        dsimp only
        rw [if_neg one_ne, hmin, Option.bind_some]
        dsimp only
        unfold f_Mo_changes
        rw [n_1, if_pos (inb_n (by omega) (by omega)), cl_n (by omega), m_bounded, ew, hv, Option.bind_some]
        dsimp only
        rw [Option.bind_some]
        dsimp only
        rw [m_thereOf hb2 (by omega)]
        have e5 : up hm 100 (1 + c) v 100 (1 + c) = v := by rw [up_ap, if_pos rfl, upd_ap, if_pos rfl]
        rw [e5, nd2]
        rfl
      · refine R_done hr htx hbr hst him p1 p2 p6 hsl pu (hpx := up hp1 4 c v) (hm := hm) (fun x x0 x3 x4 x5 => by rw [up_ap, if_neg x4]) (fun j hj => rfl) mu (fun x hx => by rw [up_ap, if_neg hx]) (fun j hj => by rw [up_ap, if_pos rfl, upd_ap, if_neg (by omega)]) ?_
        refine ⟨?_, ?_, ?_⟩
        · have k := SE_bal (c := c) (v := v) (by omega) hvr (SE.cong (Cn := Cn) (w' := hm 100) (o' := 0) rfl (fun _ _ => rfl) (fun _ _ => rfl) (fun i hi => w1 _ (by omega)) hst.1)
          have r3 : up hm 100 (1 + c) v 3 2 = hp 3 2 := by show hm 3 2 = _; rw [m1 3 (by omega) (by omega)]; show hp1 3 2 = _; rw [g0 3 (by omega)]
          have r4 : up hm 100 (1 + c) v 4 = upd (hp 4) c v := by show hm 4 = _; rw [m1 4 (by omega) (by omega)]; show upd (hp1 4) c v = _; rw [g0 4 (by omega)]
          have r5 : up hm 100 (1 + c) v 5 = hp 5 := by show hm 5 = _; rw [m1 5 (by omega) (by omega)]; show hp1 5 = _; rw [g0 5 (by omega)]
          rw [r3, r4, r5]
          exact k
        · show hm 0 11 = upd (hm 100) (1 + c) v 31
          rw [upd_ap, if_neg (by omega), w1 31 (by omega), m1 0 (by omega) (by omega)]
          show hp1 0 11 = _
          rw [g0 0 (by omega)]; exact hst.2.1
        · show 0 ≤ (upd (hm 100) (1 + c) v 31).toInt
          rw [upd_ap, if_neg (by omega), w1 31 (by omega)]
          exact hst.2.2
