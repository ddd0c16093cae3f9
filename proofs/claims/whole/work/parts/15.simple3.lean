theorem bz_0 : bz 0 = 0 := rfl
theorem bz_1 : bz 1 = 1 := rfl
theorem S_see {hp : HP} (h : R hp) (a c : Int32) (hc : c = 0 ∨ c = 1) : Sim hp (fun x => f_BA_see x a c) (fun x => f_Mo_see x a c) := by
  have hR := h
  obtain ⟨b, b', P, Cn, Tn, hr, htx, hbr, hst, him, hpa, hsl⟩ := h
  obtain ⟨ib, eb⟩ := isB_b hr
  obtain ⟨s, m, e, z, ⟨ls, lm, le, lz⟩, ⟨x7, x8, x9, x10⟩, ⟨y7, y8, y9, y10⟩, hs, hm, he, hz⟩ := hsl
  have b5 := hbr.2.1.1
  have m3 := hbr.2.2.1.1
  have p8 := hbr.1.1
  have hb : bz c = c := by rcases hc with rfl | rfl <;> rfl
  rcases wi_n a (N := P) (by omega) with e1 | ⟨t, ht, rfl, e1⟩
  · refine Sim.pure (-1000000001) ?_ ?_ hR
    · simp only [f_BA_see, eb, ib, x_hasP b5, e1, Option.bind_some, if_true]
    · simp only [f_Mo_see, m_isP m3, e1, Option.bind_some, if_true]
  · by_cases hF : e = 8
    · subst hF
      refine Sim.pure (-1000000004) ?_ ?_ hR
      · simp only [f_BA_see, eb, ib, x_hasP b5, e1, Option.bind_some, if_true, x9]; rfl
      · simp only [f_Mo_see, m_isP m3, e1, Option.bind_some, y9]; rfl
    · refine ⟨nI (e + 1), up (up (up hp 72 e (nI t)) 73 e c) 68 9 (nI (e + 1)), up (up (up (up (up (up hp 72 e (nI t)) 73 e c) 68 9 (nI (e + 1))) 114 e (nI t)) 115 e c) 99 29 (nI (e + 1)), ?_, ?_, ?_⟩
      · simp only [f_BA_see, eb, ib, x_hasP b5, e1, Option.bind_some, x9, f_Sl_addSeen, if_true, hb]
        rw [if_neg (by decide), if_pos (by exact n_lt e 8 (by omega) (by omega)), if_neg (by exact n_nle 8 e (by omega) (by omega)), if_pos (inb_n (by omega) (by omega)), cl_n (by omega)]
        have e2 : up hp 72 e (nI t) 68 9 = nI e := x9
        simp only [e2]
        rw [if_pos (inb_n (by omega) (by omega)), cl_n (by omega)]
        have e3 : up (up hp 72 e (nI t)) 73 e c 68 9 = nI e := x9
        simp only [e3, nI_s, Option.bind_some]
        rfl
      · have e2 : up (up (up hp 72 e (nI t)) 73 e c) 68 9 (nI (e + 1)) 99 29 = nI e := y9
        have m3' : up (up (up hp 72 e (nI t)) 73 e c) 68 9 (nI (e + 1)) 99 3 = nI P := m3
        simp only [f_Mo_see, m_isP m3', e1, Option.bind_some, e2, hb]
        rw [if_neg (by decide), if_neg (by exact n_ne e 8 (by omega) (by omega) (by omega)), if_pos (inb_n (by omega) (by omega)), cl_n (by omega)]
        have e3 : up (up (up (up hp 72 e (nI t)) 73 e c) 68 9 (nI (e + 1))) 114 e (nI t) 99 29 = nI e := y9
        simp only [e3]
        rw [if_pos (inb_n (by omega) (by omega)), cl_n (by omega)]
        have e4 : up (up (up (up (up hp 72 e (nI t)) 73 e c) 68 9 (nI (e + 1))) 114 e (nI t)) 115 e c 99 29 = nI e := y9
        simp only [e4, nI_s]
        rfl
      · refine ⟨b, b', P, Cn, Tn, Rr_cong hp rfl rfl rfl rfl hr, Rtx_cong hp ⟨rfl, rfl⟩ rfl rfl htx, Rbr_cong hp (Rr_or hr) (by intro q hq; simp only [up_ap, setc_ap]; repeat rw [if_neg (by omega)]) rfl rfl rfl hbr, Rst_cong hp (by intro q hq; simp only [up_ap, setc_ap]; repeat rw [if_neg (by omega)]) rfl hst, Rim_cong hp (by intro q hq; simp only [up_ap, setc_ap]; repeat rw [if_neg (by omega)]) him, Rpa_cong hp (by intro q hq; simp only [up_ap, setc_ap]; repeat rw [if_neg (by omega)]) rfl hpa, s, m, e + 1, z, ⟨ls, lm, by omega, lz⟩, ⟨x7, x8, rfl, x10⟩, ⟨y7, y8, rfl, y10⟩, hs, hm, fun i hi => ?_, hz⟩
        show upd (hp 72) e (nI t) i = upd (hp 114) e (nI t) i ∧ upd (hp 73) e c i = upd (hp 115) e c i ∧ (∃ k, k < P ∧ upd (hp 114) e (nI t) i = nI k) ∧ (upd (hp 115) e c i = 0 ∨ upd (hp 115) e c i = 1)
        by_cases hiN : i = e
        · subst hiN
          simp only [upd_ap, if_true]
          exact ⟨trivial, trivial, ⟨t, ht, rfl⟩, hc⟩
        · simp only [upd_ap, if_neg hiN]
          exact he i (by omega)
theorem S_write {hp : HP} (h : R hp) (a c : Int32) : Sim hp (fun x => f_BA_write x a c) (fun x => f_Mo_write x a c) := by
  have hR := h
  obtain ⟨b, b', P, Cn, Tn, hr, htx, hbr, hst, him, hpa, hsl⟩ := h
  obtain ⟨ib, eb⟩ := isB_b hr
  obtain ⟨s, m, e, z, ⟨ls, lm, le, lz⟩, ⟨x7, x8, x9, x10⟩, ⟨y7, y8, y9, y10⟩, hs, hm, he, hz⟩ := hsl
  have b6 := hbr.2.1.2.1
  have m5 := hbr.2.2.1.2.1
  have c5 := hbr.1.2.1
  rcases wi_n a (N := Cn) (by omega) with e1 | ⟨t, ht, rfl, e1⟩
  · refine Sim.pure (-1000000001) ?_ ?_ hR
    · simp only [f_BA_write, eb, ib, x_hasC b6, e1, Option.bind_some, if_true]
    · simp only [f_Mo_write, m_isC m5, e1, Option.bind_some, if_true]
  · rcases @wi_lit c 0 20000 with ⟨e0, -⟩ | ⟨e0, h1, h2⟩
    · refine Sim.pure (-1000000002) ?_ ?_ hR
      · simp only [f_BA_write, eb, ib, x_hasC b6, e1, x_within, e0, Option.bind_some, if_true]
        rw [if_neg (by decide)]
      · simp only [f_Mo_write, m_isC m5, e1, m_in hp c 0 20000 (A := 0) (B := 20000) rfl rfl, e0, Option.bind_some, if_true]
        rw [if_neg (by decide)]
    · by_cases hF : z = 15
      · subst hF
        refine Sim.pure (-1000000004) ?_ ?_ hR
        · simp only [f_BA_write, eb, ib, x_hasC b6, e1, x_within, e0, Option.bind_some, if_true, x10]; rfl
        · simp only [f_Mo_write, m_isC m5, e1, m_in hp c 0 20000 (A := 0) (B := 20000) rfl rfl, e0, Option.bind_some, y10]; rfl
      · refine ⟨nI (z + 1), up (up (up hp 74 z (nI t)) 75 z (c - 10000)) 68 10 (nI (z + 1)), up (up (up (up (up (up hp 74 z (nI t)) 75 z (c - 10000)) 68 10 (nI (z + 1))) 116 z (nI t)) 117 z c) 99 32 (nI (z + 1)), ?_, ?_, ?_⟩
        · simp only [f_BA_write, eb, ib, x_hasC b6, e1, x_within, e0, Option.bind_some, x10, f_Sl_addEntry, if_true]
          rw [if_neg (by decide), if_neg (by decide), if_pos (by exact n_lt z 15 (by omega) (by omega)), if_neg (by exact n_nle 15 z (by omega) (by omega)), if_pos (inb_n (by omega) (by omega)), cl_n (by omega)]
          have e2 : up hp 74 z (nI t) 68 10 = nI z := x10
          simp only [e2]
          rw [if_pos (inb_n (by omega) (by omega)), cl_n (by omega)]
          have e3 : up (up hp 74 z (nI t)) 75 z (c - 10000) 68 10 = nI z := x10
          simp only [e3, nI_s, Option.bind_some]
          rfl
        · have e2 : up (up (up hp 74 z (nI t)) 75 z (c - 10000)) 68 10 (nI (z + 1)) 99 32 = nI z := y10
          have m5' : up (up (up hp 74 z (nI t)) 75 z (c - 10000)) 68 10 (nI (z + 1)) 99 5 = nI Cn := m5
          simp only [f_Mo_write, m_isC m5', e1, m_in _ c 0 20000 (A := 0) (B := 20000) rfl rfl, e0, Option.bind_some, e2]
          rw [if_neg (by decide), if_neg (by decide), if_neg (by exact n_ne z 15 (by omega) (by omega) (by omega)), if_pos (inb_n (by omega) (by omega)), cl_n (by omega)]
          have e3 : up (up (up (up hp 74 z (nI t)) 75 z (c - 10000)) 68 10 (nI (z + 1))) 116 z (nI t) 99 32 = nI z := y10
          simp only [e3]
          rw [if_pos (inb_n (by omega) (by omega)), cl_n (by omega)]
          have e4 : up (up (up (up (up hp 74 z (nI t)) 75 z (c - 10000)) 68 10 (nI (z + 1))) 116 z (nI t)) 117 z c 99 32 = nI z := y10
          simp only [e4, nI_s]
          rfl
        · refine ⟨b, b', P, Cn, Tn, Rr_cong hp rfl rfl rfl rfl hr, Rtx_cong hp ⟨rfl, rfl⟩ rfl rfl htx, Rbr_cong hp (Rr_or hr) (by intro q hq; simp only [up_ap, setc_ap]; repeat rw [if_neg (by omega)]) rfl rfl rfl hbr, Rst_cong hp (by intro q hq; simp only [up_ap, setc_ap]; repeat rw [if_neg (by omega)]) rfl hst, Rim_cong hp (by intro q hq; simp only [up_ap, setc_ap]; repeat rw [if_neg (by omega)]) him, Rpa_cong hp (by intro q hq; simp only [up_ap, setc_ap]; repeat rw [if_neg (by omega)]) rfl hpa, s, m, e, z + 1, ⟨ls, lm, le, by omega⟩, ⟨x7, x8, x9, rfl⟩, ⟨y7, y8, y9, rfl⟩, hs, hm, he, fun i hi => ?_⟩
          show upd (hp 74) z (nI t) i = upd (hp 116) z (nI t) i ∧ upd (hp 75) z (c - 10000) i = upd (hp 117) z c i - 10000 ∧ (∃ k, k < Cn ∧ upd (hp 116) z (nI t) i = nI k) ∧ 0 ≤ (upd (hp 117) z c i).toInt ∧ (upd (hp 117) z c i).toInt ≤ 20000
          by_cases hiN : i = z
          · subst hiN
            simp only [upd_ap, if_true]
            exact ⟨trivial, trivial, ⟨t, ht, rfl⟩, h1, h2⟩
          · simp only [upd_ap, if_neg hiN]
            exact hz i (by omega)
theorem S_tear {hp : HP} (h : R hp) : Sim hp (fun x => f_BA_tear x) (fun x => f_Mo_tear x) := by
  obtain ⟨b, b', P, Cn, Tn, hr, htx, hbr, hst, him, hpa, hsl⟩ := h
  obtain ⟨s, m, e, z, ⟨ls, lm, le, lz⟩, ⟨x7, x8, x9, x10⟩, ⟨y7, y8, y9, y10⟩, hs, hm, he, hz⟩ := hsl
  refine ⟨nI s + nI m + nI e + nI z, up (up (up (up hp 68 7 0) 68 8 0) 68 9 0) 68 10 0, up (up (up (up (up (up (up (up hp 68 7 0) 68 8 0) 68 9 0) 68 10 0) 99 23 0) 99 25 0) 99 29 0) 99 32 0, ?_, ?_, ?_⟩
  · simp only [f_BA_tear, f_Sl_countAll, f_Sl_clear, Option.bind_some, x7, x8, x9, x10]
  · show some (hp 99 23 + hp 99 25 + hp 99 29 + hp 99 32, _) = _
    rw [y7, y8, y9, y10]
  · refine ⟨b, b', P, Cn, Tn, Rr_cong hp rfl rfl rfl rfl hr, Rtx_cong hp ⟨rfl, rfl⟩ rfl rfl htx, Rbr_cong hp (Rr_or hr) (by intro q hq; simp only [up_ap, setc_ap]; repeat rw [if_neg (by omega)]) rfl rfl rfl hbr, Rst_cong hp (by intro q hq; simp only [up_ap, setc_ap]; repeat rw [if_neg (by omega)]) rfl hst, Rim_cong hp (by intro q hq; simp only [up_ap, setc_ap]; repeat rw [if_neg (by omega)]) him, Rpa_cong hp (by intro q hq; simp only [up_ap, setc_ap]; repeat rw [if_neg (by omega)]) rfl hpa, 0, 0, 0, 0, ⟨by omega, by omega, by omega, by omega⟩, ⟨rfl, rfl, rfl, rfl⟩, ⟨rfl, rfl, rfl, rfl⟩, fun i hi => by omega, fun i hi => by omega, fun i hi => by omega, fun i hi => by omega⟩
theorem S_seed {hp : HP} (h : R hp) (a : Int32) : Sim hp (fun x => f_BA_seed x a) (fun x => f_Mo_seed x a) := by
  have hR := h
  obtain ⟨b, b', P, Cn, Tn, hr, htx, hbr, hst, him, hpa, hsl⟩ := h
  by_cases ha : 0 ≤ a
  · refine ⟨hp 0 11, up hp 0 11 a, up (up hp 0 11 a) 100 31 a, ?_, ?_, ?_⟩
    · show f_BA_seed hp a = _
      unfold f_BA_seed
      rw [if_pos ha]
    · show f_Mo_seed _ a = _
      unfold f_Mo_seed
      rw [if_pos ha]
      show some (hp 100 31, _) = _
      rw [← hst.2.1]
    · have e100 : ∀ j, j ≠ 31 → up (up hp 0 11 a) 100 31 a 100 j = hp 100 j := fun j hj => by
        show upd (hp 100) 31 a j = _
        rw [upd_ap, if_neg hj]
      have hSE : ∀ {mo : Int32} {ba de : Nat → Int32} {o : Nat}, (∀ j, o ≤ j → j ≤ o + 30 → j ≠ 31) → SE Cn mo ba de (hp 100) o → SE Cn mo ba de (up (up hp 0 11 a) 100 31 a 100) o := by
        intro mo ba de o ho k
        obtain ⟨k1, k2, k3, k4, k5⟩ := k
        refine ⟨by rw [e100 o (ho o (by omega) (by omega))]; exact k1, fun c hc => by rw [e100 _ (ho _ (by omega) (by omega))]; exact k2 c hc, fun k hk => by rw [e100 _ (ho _ (by omega) (by omega))]; exact k3 k hk, k4, k5⟩
      refine ⟨b, b', P, Cn, Tn, Rr_cong hp rfl rfl rfl rfl hr, Rtx_cong hp ⟨rfl, rfl⟩ rfl rfl htx, Rbr_cong hp (Rr_or hr) (by intro q hq; simp only [up_ap, setc_ap]; repeat rw [if_neg (by omega)]) rfl rfl rfl hbr, ⟨hSE (by omega) hst.1, rfl, by rw [le_i] at ha; exact ha⟩, fun i hi => ?_, ?_, Rsl_cong hp (by intro q hq; simp only [up_ap, setc_ap]; repeat rw [if_neg (by omega)]) rfl rfl rfl rfl hsl⟩
      · have fr : ∀ q, (79 ≤ q ∧ q ≤ 86) ∨ q = 101 → up (up hp 0 11 a) 100 31 a q = hp q := (by intro q hq; simp only [up_ap, setc_ap]; repeat rw [if_neg (by omega)])
        rw [fr 86 (by omega), fr 101 (by omega), fr (79 + 3 * i) (by omega), fr (80 + 3 * i) (by omega), fr (81 + 3 * i) (by omega), fr 85 (by omega), e100 _ (by omega)]
        rcases him i hi with k | ⟨k1, k2, k3⟩
        · exact Or.inl k
        · exact Or.inr ⟨k1, hSE (by omega) k2, k3⟩
      · obtain ⟨nx, ct, a1, a2, a3, a4, a5, a6⟩ := hpa
        refine ⟨nx, ct, a1, a2, a3, a4, a5, fun j hj => ?_⟩
        have := rg_lt nx ct j
        have fr : ∀ q, (6 ≤ q ∧ q ≤ 67) → up (up hp 0 11 a) 100 31 a q = hp q := (by intro q hq; simp only [up_ap, setc_ap]; repeat rw [if_neg (by omega)])
        rw [fr (8 + 3 * rg nx ct j) (by omega), fr (9 + 3 * rg nx ct j) (by omega), fr (10 + 3 * rg nx ct j) (by omega)]
        exact hSE (by omega) (a6 j hj)
  · refine Sim.pure (-1000000002) ?_ ?_ hR
    · show f_BA_seed hp a = _
      unfold f_BA_seed
      rw [if_neg ha]
    · show f_Mo_seed hp a = _
      unfold f_Mo_seed
      rw [if_neg ha]
