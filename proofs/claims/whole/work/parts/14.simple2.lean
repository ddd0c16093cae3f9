theorem isB_b {hp : HP} {b b' : Nat} (h : Rr hp b b') : isB b = true ∧ (hp 0 8).toNatClampNeg = b := by
  obtain ⟨h1, h2⟩ := isB_nI h
  rw [h2] at h1
  exact ⟨h1, h2⟩
theorem sac (x y : Int32) : x - y + y = x := by
  rw [eq_i, Int32.toInt_add, Int32.toInt_sub]
  simp
theorem S_fault {hp : HP} (h : R hp) : Sim hp (fun x => f_BA_fault x) (fun x => f_Mo_fault x) := by
  have hR := h
  obtain ⟨b, b', P, Cn, Tn, hr, htx, hbr, hst, him, hpa, hsl⟩ := h
  refine Sim.pure (hp 0 10) rfl ?_ hR
  show some (hp 99 16, hp) = _
  rw [hr.2.2.2]
theorem S_part {hp : HP} (h : R hp) (a : Int32) : Sim hp (fun x => f_BA_part x a) (fun x => f_Mo_part x a) := by
  have hR := h
  obtain ⟨b, b', P, Cn, Tn, hr, htx, hbr, hst, him, hpa, hsl⟩ := h
  obtain ⟨ib, eb⟩ := isB_b hr
  obtain ⟨⟨p8, c5, t6⟩, ⟨b5, b6, b7⟩, ⟨m3, m5, m8⟩, hnd, hpy, htk⟩ := hbr
  rcases wi_n a (N := P) (by omega) with e | ⟨k, hk, rfl, e⟩
  · refine Sim.pure (-1000000001) ?_ ?_ hR
    · simp only [f_BA_part, eb, ib, x_hasP b5, e, Option.bind_some, if_true]
    · simp only [f_Mo_part, m_isP m3, e, Option.bind_some, if_true]
  · refine Sim.pure (hp 102 k) ?_ ?_ hR
    · simp only [f_BA_part, eb, ib, x_hasP b5, e, Option.bind_some, if_true]
      rw [if_neg (by decide), if_pos (inb_n (by omega) (by decide)), cl_n (by omega), (hnd k hk).1, sac]
    · simp only [f_Mo_part, m_isP m3, e, Option.bind_some]
      rw [if_neg (by decide), if_pos (inb_n (by omega) (by decide)), cl_n (by omega)]
theorem S_spending {hp : HP} (h : R hp) (a : Int32) : Sim hp (fun x => f_BA_spending x a) (fun x => f_Mo_spending x a) := by
  have hR := h
  obtain ⟨b, b', P, Cn, Tn, hr, htx, hbr, hst, him, hpa, hsl⟩ := h
  obtain ⟨s, m, e, z, ⟨ls, lm, le, lz⟩, ⟨x7, x8, x9, x10⟩, ⟨y7, y8, y9, y10⟩, hs, hm, he, hz⟩ := hsl
  rcases @wi_lit a 1 999 with ⟨e0, -⟩ | ⟨e0, h1, h2⟩
  · refine Sim.pure (-1000000002) ?_ ?_ hR
    · simp only [f_BA_spending, x_within, e0, Option.bind_some, if_true]
    · simp only [f_Mo_spending, m_in hp a 1 999 (A := 1) (B := 999) rfl rfl, e0, Option.bind_some, if_true]
  · by_cases hF : s = 5
    · subst hF
      refine Sim.pure (-1000000004) ?_ ?_ hR
      · simp only [f_BA_spending, x_within, e0, Option.bind_some, x7]; rfl
      · simp only [f_Mo_spending, m_in hp a 1 999 (A := 1) (B := 999) rfl rfl, e0, Option.bind_some, y7]; rfl
    · refine ⟨nI (s + 1), up (up hp 69 s a) 68 7 (nI (s + 1)), up (up (up (up hp 69 s a) 68 7 (nI (s + 1))) 110 s a) 99 23 (nI (s + 1)), ?_, ?_, ?_⟩
      · simp only [f_BA_spending, x_within, e0, Option.bind_some, x7, f_Sl_addSpending]
        rw [if_neg (by decide), if_pos (by exact n_lt s 5 (by omega) (by omega)), if_neg (by exact n_nle 5 s (by omega) (by omega)), if_pos (inb_n (by omega) (by omega)), cl_n (by omega)]
        have e1 : up hp 69 s a 68 7 = nI s := x7
        simp only [e1, nI_s, Option.bind_some]
        rfl
      · have e1 : up (up hp 69 s a) 68 7 (nI (s + 1)) 99 23 = nI s := y7
        simp only [f_Mo_spending, m_in _ a 1 999 (A := 1) (B := 999) rfl rfl, e0, Option.bind_some, e1]
        rw [if_neg (by decide), if_neg (by exact n_ne s 5 (by omega) (by omega) (by omega)), if_pos (inb_n (by omega) (by omega)), cl_n (by omega)]
        have e2 : up (up (up hp 69 s a) 68 7 (nI (s + 1))) 110 s a 99 23 = nI s := y7
        simp only [e2, nI_s]
        rfl
      · refine ⟨b, b', P, Cn, Tn, Rr_cong hp rfl rfl rfl rfl hr, Rtx_cong hp ⟨rfl, rfl⟩ rfl rfl htx, Rbr_cong hp (Rr_or hr) (by intro q hq; simp only [up_ap, setc_ap]; repeat rw [if_neg (by omega)]) rfl rfl rfl hbr, Rst_cong hp (by intro q hq; simp only [up_ap, setc_ap]; repeat rw [if_neg (by omega)]) rfl hst, Rim_cong hp (by intro q hq; simp only [up_ap, setc_ap]; repeat rw [if_neg (by omega)]) him, Rpa_cong hp (by intro q hq; simp only [up_ap, setc_ap]; repeat rw [if_neg (by omega)]) rfl hpa, s + 1, m, e, z, ⟨by omega, lm, le, lz⟩, ⟨rfl, x8, x9, x10⟩, ⟨rfl, y8, y9, y10⟩, fun i hi => ?_, hm, he, hz⟩
        show upd (hp 69) s a i = upd (hp 110) s a i ∧ 1 ≤ (upd (hp 110) s a i).toInt ∧ (upd (hp 110) s a i).toInt ≤ 999
        by_cases hiN : i = s
        · subst hiN
          rw [upd_ap, if_pos rfl, upd_ap, if_pos rfl]
          exact ⟨rfl, h1, h2⟩
        · rw [upd_ap, if_neg hiN, upd_ap, if_neg hiN]
          exact hs i (by omega)
theorem S_must {hp : HP} (h : R hp) (a c : Int32) : Sim hp (fun x => f_BA_must x a c) (fun x => f_Mo_must x a c) := by
  have hR := h
  obtain ⟨b, b', P, Cn, Tn, hr, htx, hbr, hst, him, hpa, hsl⟩ := h
  obtain ⟨ib, eb⟩ := isB_b hr
  obtain ⟨s, m, e, z, ⟨ls, lm, le, lz⟩, ⟨x7, x8, x9, x10⟩, ⟨y7, y8, y9, y10⟩, hs, hm, he, hz⟩ := hsl
  have b7 := hbr.2.1.2.2
  have m8 := hbr.2.2.1.2.2
  have t6 := hbr.1.2.2
  rcases wi_n a (N := Tn) (by omega) with e1 | ⟨t, ht, rfl, e1⟩
  · refine Sim.pure (-1000000001) ?_ ?_ hR
    · simp only [f_BA_must, eb, ib, x_hasT b7, e1, Option.bind_some, if_true]
    · simp only [f_Mo_must, m_isT m8, e1, Option.bind_some, if_true]
  · rcases @wi_lit c 0 3 with ⟨e0, -⟩ | ⟨e0, h1, h2⟩
    · refine Sim.pure (-1000000002) ?_ ?_ hR
      · simp only [f_BA_must, eb, ib, x_hasT b7, e1, x_within, e0, Option.bind_some, if_true]
        rw [if_neg (by decide)]
      · simp only [f_Mo_must, m_isT m8, e1, m_in hp c 0 3 (A := 0) (B := 3) rfl rfl, e0, Option.bind_some, if_true]
        rw [if_neg (by decide)]
    · by_cases hF : m = 4
      · subst hF
        refine Sim.pure (-1000000004) ?_ ?_ hR
        · simp only [f_BA_must, eb, ib, x_hasT b7, e1, x_within, e0, Option.bind_some, if_true, x8]; rfl
        · simp only [f_Mo_must, m_isT m8, e1, m_in hp c 0 3 (A := 0) (B := 3) rfl rfl, e0, Option.bind_some, y8]; rfl
      · obtain ⟨mo, hmo, rfl⟩ := of_rg (x := c) (n := 4) h1 (by have : (3 : Int32).toInt = 3 := rfl; omega)
        refine ⟨nI (m + 1), up (up (up hp 70 m (nI t)) 71 m (nI mo)) 68 8 (nI (m + 1)), up (up (up (up (up (up hp 70 m (nI t)) 71 m (nI mo)) 68 8 (nI (m + 1))) 111 m (nI t)) 112 m (nI mo)) 99 25 (nI (m + 1)), ?_, ?_, ?_⟩
        · simp only [f_BA_must, eb, ib, x_hasT b7, e1, x_within, e0, Option.bind_some, x8, f_Sl_addMust, if_true]
          rw [if_neg (by decide), if_neg (by decide), if_pos (by exact n_lt m 4 (by omega) (by omega)), if_neg (by exact n_nle 4 m (by omega) (by omega)), if_pos (inb_n (by omega) (by omega)), cl_n (by omega)]
          have e2 : up hp 70 m (nI t) 68 8 = nI m := x8
          simp only [e2]
          rw [if_pos (inb_n (by omega) (by omega)), cl_n (by omega)]
          have e3 : up (up hp 70 m (nI t)) 71 m (nI mo) 68 8 = nI m := x8
          simp only [e3, nI_s, Option.bind_some]
          rfl
        · have e2 : up (up (up hp 70 m (nI t)) 71 m (nI mo)) 68 8 (nI (m + 1)) 99 25 = nI m := y8
          have m8' : up (up (up hp 70 m (nI t)) 71 m (nI mo)) 68 8 (nI (m + 1)) 99 8 = nI Tn := m8
          simp only [f_Mo_must, m_isT m8', e1, m_in _ (nI mo) 0 3 (A := 0) (B := 3) rfl rfl, e0, Option.bind_some, e2]
          rw [if_neg (by decide), if_neg (by decide), if_neg (by exact n_ne m 4 (by omega) (by omega) (by omega)), if_pos (inb_n (by omega) (by omega)), cl_n (by omega)]
          have e3 : up (up (up (up hp 70 m (nI t)) 71 m (nI mo)) 68 8 (nI (m + 1))) 111 m (nI t) 99 25 = nI m := y8
          simp only [e3]
          rw [if_pos (inb_n (by omega) (by omega)), cl_n (by omega)]
          have e4 : up (up (up (up (up hp 70 m (nI t)) 71 m (nI mo)) 68 8 (nI (m + 1))) 111 m (nI t)) 112 m (nI mo) 99 25 = nI m := y8
          simp only [e4, nI_s]
          rfl
        · refine ⟨b, b', P, Cn, Tn, Rr_cong hp rfl rfl rfl rfl hr, Rtx_cong hp ⟨rfl, rfl⟩ rfl rfl htx, Rbr_cong hp (Rr_or hr) (by intro q hq; simp only [up_ap, setc_ap]; repeat rw [if_neg (by omega)]) rfl rfl rfl hbr, Rst_cong hp (by intro q hq; simp only [up_ap, setc_ap]; repeat rw [if_neg (by omega)]) rfl hst, Rim_cong hp (by intro q hq; simp only [up_ap, setc_ap]; repeat rw [if_neg (by omega)]) him, Rpa_cong hp (by intro q hq; simp only [up_ap, setc_ap]; repeat rw [if_neg (by omega)]) rfl hpa, s, m + 1, e, z, ⟨ls, by omega, le, lz⟩, ⟨x7, rfl, x9, x10⟩, ⟨y7, rfl, y9, y10⟩, hs, fun i hi => ?_, he, hz⟩
          show upd (hp 70) m (nI t) i = upd (hp 111) m (nI t) i ∧ upd (hp 71) m (nI mo) i = upd (hp 112) m (nI mo) i ∧ (∃ t2, t2 < Tn ∧ upd (hp 111) m (nI t) i = nI t2) ∧ ∃ k, k < 4 ∧ upd (hp 112) m (nI mo) i = nI k
          by_cases hiN : i = m
          · subst hiN
            simp only [upd_ap, if_true]
            exact ⟨trivial, trivial, ⟨t, ht, rfl⟩, mo, hmo, rfl⟩
          · simp only [upd_ap, if_neg hiN]
            exact hm i (by omega)
