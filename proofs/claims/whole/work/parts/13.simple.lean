/-! Which rows a part of the relation looks at; the methods that only write a place or two. -/
theorem Rr_cong (hp : HP) {hp' : HP} {b b' : Nat} (h1 : hp' 0 8 = hp 0 8) (h2 : hp' 0 9 = hp 0 9) (h3 : hp' 0 10 = hp 0 10) (h4 : hp' 99 16 = hp 99 16) (h : Rr hp b b') : Rr hp' b b' := by
  unfold Rr at *; rw [h1, h2, h3, h4]; exact h
theorem Rtx_cong (hp : HP) {hp' : HP} (h : hp' 2 = hp 2 ∧ hp' 106 = hp 106) (h1 : hp' 1 1 = hp 1 1) (h2 : hp' 99 11 = hp 99 11) (k : Rtx hp) : Rtx hp' := by
  unfold Rtx at *; rw [h.1, h.2, h1, h2]; exact k
theorem Rbr_cong (hp : HP) {hp' : HP} {b P Cn Tn : Nat} (hb : b = 87 ∨ b = 93) (h : ∀ q, (87 ≤ q ∧ q ≤ 98) ∨ (102 ≤ q ∧ q ≤ 105) → hp' q = hp q) (h1 : hp' 99 3 = hp 99 3) (h2 : hp' 99 5 = hp 99 5) (h3 : hp' 99 8 = hp 99 8) (k : Rbr hp b P Cn Tn) : Rbr hp' b P Cn Tn := by
  unfold Rbr at *
  rw [h b (by omega), h (b + 1) (by omega), h (b + 3) (by omega), h (b + 4) (by omega), h (b + 5) (by omega), h 102 (by omega), h 103 (by omega), h 104 (by omega), h 105 (by omega), h1, h2, h3]
  exact k
theorem Rst_cong (hp : HP) {hp' : HP} {Cn : Nat} (h : ∀ q, (3 ≤ q ∧ q ≤ 5) ∨ q = 100 → hp' q = hp q) (h1 : hp' 0 11 = hp 0 11) (k : Rst hp Cn) : Rst hp' Cn := by
  unfold Rst at *
  rw [h 3 (by omega), h 4 (by omega), h 5 (by omega), h 100 (by omega), h1]
  exact k
theorem Rim_cong (hp : HP) {hp' : HP} {Cn : Nat} (h : ∀ q, (79 ≤ q ∧ q ≤ 86) ∨ q = 100 ∨ q = 101 → hp' q = hp q) (k : Rim hp Cn) : Rim hp' Cn := by
  unfold Rim at *
  intro i hi
  rw [h 86 (by omega), h 101 (by omega), h (79 + 3 * i) (by omega), h (80 + 3 * i) (by omega), h (81 + 3 * i) (by omega), h 100 (by omega), h 85 (by omega)]
  exact k i hi
theorem rg_lt (nx ct j : Nat) : rg nx ct j < 20 := Nat.mod_lt _ (by decide)
theorem Rpa_cong (hp : HP) {hp' : HP} {Cn : Nat} (h : ∀ q, (6 ≤ q ∧ q ≤ 67) ∨ q = 100 → hp' q = hp q) (h1 : hp' 99 2 = hp 99 2) (k : Rpa hp Cn) : Rpa hp' Cn := by
  obtain ⟨nx, ct, a1, a2, a3, a4, a5, a6⟩ := k
  refine ⟨nx, ct, a1, a2, by rw [h 6 (by omega)]; exact a3, by rw [h 6 (by omega)]; exact a4, by rw [h1]; exact a5, fun j hj => ?_⟩
  have := rg_lt nx ct j
  rw [h (8 + 3 * rg nx ct j) (by omega), h (9 + 3 * rg nx ct j) (by omega), h (10 + 3 * rg nx ct j) (by omega), h 100 (by omega)]
  exact a6 j hj
theorem Rsl_cong (hp : HP) {hp' : HP} {P Cn Tn : Nat} (h : ∀ q, (68 ≤ q ∧ q ≤ 75) ∨ (110 ≤ q ∧ q ≤ 112) ∨ (114 ≤ q ∧ q ≤ 117) → hp' q = hp q) (h1 : hp' 99 23 = hp 99 23) (h2 : hp' 99 25 = hp 99 25) (h3 : hp' 99 29 = hp 99 29) (h4 : hp' 99 32 = hp 99 32) (k : Rsl hp P Cn Tn) : Rsl hp' P Cn Tn := by
  unfold Rsl at *
  rw [h 68 (by omega), h 69 (by omega), h 70 (by omega), h 71 (by omega), h 72 (by omega), h 73 (by omega), h 74 (by omega), h 75 (by omega), h 110 (by omega), h 111 (by omega), h 112 (by omega), h 114 (by omega), h 115 (by omega), h 116 (by omega), h 117 (by omega), h1, h2, h3, h4]
  exact k
theorem Rr_or {hp : HP} {b b' : Nat} (h : Rr hp b b') : b = 87 ∨ b = 93 := by
  rcases h.1 with ⟨h, -⟩ | ⟨h, -⟩
  · exact Or.inl h
  · exact Or.inr h
theorem nI_s (a : Nat) : nI a + (1 : Int32) = nI (a + 1) := nI_1 a
theorem n_le (a b : Nat) (h : a ≤ b) (hb : b < 2 ^ 31) : nI a ≤ nI b := nI_le h hb
theorem n_nle (a b : Nat) (h : b < a) (ha : a < 2 ^ 31) : ¬ nI a ≤ nI b := nI_ge h ha
theorem n_lt (a b : Nat) (h : a < b) (hb : b < 2 ^ 31) : nI a < nI b := nI_lt h hb
theorem n_nlt (a b : Nat) (h : b ≤ a) (ha : a < 2 ^ 31) : ¬ nI a < nI b := nI_nlt h ha
theorem n_ne (a b : Nat) (h : a ≠ b) (ha : a < 2 ^ 31) (hb : b < 2 ^ 31) : ¬ nI a = nI b := fun e => h ((nI_eq ha hb).mp e)
theorem S_feed {hp : HP} (h : R hp) (a : Int32) : Sim hp (fun x => f_BA_feed x a) (fun x => f_Mo_feed x a) := by
  have hR := h
  obtain ⟨b, b', P, Cn, Tn, hr, ⟨N, hN, t1, t2, t3⟩, hbr, hst, him, hpa, hsl⟩ := h
  rcases @wi_lit a 0 255 with ⟨e, -⟩ | ⟨e, h1, h2⟩
  · refine Sim.pure (-1000000002) ?_ ?_ hR
    · simp only [f_BA_feed, x_within, e, Option.bind_some, if_true]
    · simp only [f_Mo_feed, m_in hp a 0 255 (A := 0) (B := 255) rfl rfl, e, Option.bind_some, if_true]
  · by_cases hF : N = 240
    · subst hF
      refine Sim.pure (-1000000004) ?_ ?_ hR
      · simp only [f_BA_feed, x_within, e, Option.bind_some, t1]; rfl
      · simp only [f_Mo_feed, m_in hp a 0 255 (A := 0) (B := 255) rfl rfl, e, Option.bind_some, t2]; rfl
    · refine ⟨nI (N + 1), up (up hp 2 N a) 1 1 (nI (N + 1)), up (up (up (up hp 2 N a) 1 1 (nI (N + 1))) 106 N a) 99 11 (nI (N + 1)), ?_, ?_, ?_⟩
      · simp only [f_BA_feed, x_within, e, Option.bind_some, t1, f_Re_append]
        rw [if_neg (by decide), if_pos (by exact n_lt N 240 (by omega) (by omega)), if_neg (by exact n_nle 240 N (by omega) (by omega)), if_pos (inb_n (by omega) (by omega)), cl_n (by omega)]
        have e1 : up hp 2 N a 1 1 = nI N := t1
        simp only [e1, nI_s, Option.bind_some]
        rfl
      · have e1 : up (up hp 2 N a) 1 1 (nI (N + 1)) 99 11 = nI N := t2
        simp only [f_Mo_feed, m_in _ a 0 255 (A := 0) (B := 255) rfl rfl, e, Option.bind_some, e1]
        rw [if_neg (by decide), if_neg (by exact n_ne N 240 (by omega) (by omega) (by omega)), if_pos (inb_n (by omega) (by omega)), cl_n (by omega)]
        have e2 : up (up (up hp 2 N a) 1 1 (nI (N + 1))) 106 N a 99 11 = nI N := t2
        simp only [e2, nI_s]
        rfl
      · refine ⟨b, b', P, Cn, Tn, Rr_cong hp rfl rfl rfl rfl hr, ⟨N + 1, by omega, rfl, rfl, fun i hi => ?_⟩, Rbr_cong hp (Rr_or hr) (by intro q hq; simp only [up_ap, setc_ap]; repeat rw [if_neg (by omega)]) rfl rfl rfl hbr, Rst_cong hp (by intro q hq; simp only [up_ap, setc_ap]; repeat rw [if_neg (by omega)]) rfl hst, Rim_cong hp (by intro q hq; simp only [up_ap, setc_ap]; repeat rw [if_neg (by omega)]) him, Rpa_cong hp (by intro q hq; simp only [up_ap, setc_ap]; repeat rw [if_neg (by omega)]) rfl hpa, Rsl_cong hp (by intro q hq; simp only [up_ap, setc_ap]; repeat rw [if_neg (by omega)]) rfl rfl rfl rfl hsl⟩
        show upd (hp 2) N a i = upd (hp 106) N a i ∧ 0 ≤ (upd (hp 106) N a i).toInt ∧ (upd (hp 106) N a i).toInt ≤ 255
        by_cases hiN : i = N
        · subst hiN
          rw [upd_ap, if_pos rfl, upd_ap, if_pos rfl]
          exact ⟨rfl, h1, h2⟩
        · rw [upd_ap, if_neg hiN, upd_ap, if_neg hiN]
          exact t3 i (by omega)
