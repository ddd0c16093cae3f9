theorem SE.cong {Cn : Nat} {mo mo' : Int32} {ba ba' de de' w w' : Nat → Int32} {o o' : Nat} (h1 : mo' = mo) (h2 : ∀ c, c < 5 → ba' c = ba c) (h3 : ∀ k, k < 25 → de' k = de k) (h4 : ∀ i, i < 31 → w' (o' + i) = w (o + i)) (h : SE Cn mo ba de w o) : SE Cn mo' ba' de' w' o' := by
  obtain ⟨k1, k2, k3, k4, k5⟩ := h
  refine ⟨?_, fun c hc => ?_, fun k hk => ?_, fun c d hc hd => ?_, fun c d hc hd hn => ?_⟩
  · have := h4 0 (by omega)
    rw [Nat.add_zero, Nat.add_zero] at this
    rw [h1, this]; exact k1
  · rw [h2 c hc]
    have := h4 (1 + c) (by omega)
    rw [← Nat.add_assoc, ← Nat.add_assoc] at this
    rw [this]; exact k2 c hc
  · rw [h3 k hk]
    have := h4 (6 + k) (by omega)
    rw [← Nat.add_assoc, ← Nat.add_assoc] at this
    rw [this]; exact k3 k hk
  · rw [h3 _ (by omega), h3 _ (by omega)]; exact k4 c d hc hd
  · rw [h3 _ (by omega)]; exact k5 c d hc hd hn
theorem x_copy (hp : HP) {q0 q1 : Nat} (hq : q0 + 3 ≤ q1 ∨ q1 + 3 ≤ q0) : ∃ hp', f_St_copyFrom hp q0 q1 = some (0, hp') ∧ (∀ q, q ≠ q0 → q ≠ q0 + 1 → q ≠ q0 + 2 → hp' q = hp q) ∧ hp' q0 2 = hp q1 2 ∧ (∀ c, c < 5 → hp' (q0 + 1) c = hp (q1 + 1) c) ∧ (∀ k, k < 25 → hp' (q0 + 2) k = hp (q1 + 2) k) := by
  refine ⟨_, rfl, ?_, ?_, ?_, ?_⟩
  · intro q h0 h1 h2
    simp only [up_ap, setc_ap]
    rw [if_neg h0, if_neg h2, if_neg h1]
  · simp only [up_ap, setc_ap]
    rw [if_pos trivial, upd_ap, if_pos rfl, if_neg (show ¬ q1 = q0 + 2 by omega), if_neg (show ¬ q1 = q0 + 1 by omega)]
  · intro c hc
    simp only [up_ap, setc_ap]
    rw [if_neg (by omega), if_neg (by omega), if_pos trivial]
    unfold va_cpy
    rw [if_pos (by omega)]
    congr 1; omega
  · intro k hk
    simp only [up_ap, setc_ap]
    rw [if_neg (by omega), if_pos trivial, if_neg (by omega)]
    unfold va_cpy
    rw [if_pos (by omega)]
    congr 1; omega
theorem rem20 {a : Nat} (h : a < 100) : nI a - nI a / (20 : Int32) * (20 : Int32) = nI (a % 20) := by
  show nI a - nI a / nI 20 * nI 20 = _
  exact pk_rem (by omega) (by omega) (by omega)
theorem isS_ring : ∀ i, i < 20 → isS (7 + 1 + 3 * i) = true := by decide
theorem isS_img : ∀ i, i < 2 → isS (78 + 1 + 3 * i) = true := by decide
/-- one standing more to undo to -/
def PU (hp hp1 : HP) (nx ct : Nat) : Prop := (∀ q, q < 6 ∨ 67 < q → hp1 q = hp q) ∧ hp1 6 1 = nI ((nx + 1) % 20) ∧ hp1 6 2 = nI (min (ct + 1) 20) ∧ (∀ q, 8 ≤ q → q ≤ 67 → q ≠ 8 + 3 * nx → q ≠ 9 + 3 * nx → q ≠ 10 + 3 * nx → hp1 q = hp q) ∧ hp1 (8 + 3 * nx) 2 = hp 3 2 ∧ (∀ c, c < 5 → hp1 (9 + 3 * nx) c = hp 4 c) ∧ (∀ k, k < 25 → hp1 (10 + 3 * nx) k = hp 5 k)
theorem x_push {hp : HP} {nx ct : Nat} (h1 : nx < 20) (h2 : ct ≤ 20) (e1 : hp 6 1 = nI nx) (e2 : hp 6 2 = nI ct) : ∃ hp1, f_Pa_push hp 3 = some (0, hp1) ∧ PU hp hp1 nx ct := by
  obtain ⟨hp', c1, c2, c3, c4, c5⟩ := x_copy hp (q0 := 7 + 1 + 3 * nx) (q1 := 3) (by omega)
  have d1 : hp' 6 1 = nI nx := by rw [c2 6 (by omega) (by omega) (by omega)]; exact e1
  have d2 : hp' 6 2 = nI ct := by rw [c2 6 (by omega) (by omega) (by omega)]; exact e2
  have d3 : ∀ v, up hp' 6 1 v 6 2 = nI ct := fun v => d2
  refine ⟨up (up hp' 6 1 (nI ((nx + 1) % 20))) 6 2 (nI (min (ct + 1) 20)), ?_, ?_, rfl, rfl, ?_, ?_, ?_, ?_⟩
  · unfold f_Pa_push
    rw [e1, if_pos (inb_n (by omega) (by omega)), cl_n (by omega), if_pos (isS_ring nx h1), c1]
    simp only [Option.bind_some, d1, d3, nI_s]
    rw [rem20 (by omega)]
    have em : mn (nI (ct + 1)) 20 = nI (min (ct + 1) 20) := by
      have i20 : (20 : Int32).toInt = 20 := rfl
      rw [eq_i, mn_i, nI_toInt (by omega), nI_toInt (by omega), i20]; omega
    rw [em]
  · intro q hq
    simp only [up_ap]
    rw [if_neg (by omega), if_neg (by omega)]
    exact c2 q (by omega) (by omega) (by omega)
  · intro q q1 q2 q3 q4 q5
    simp only [up_ap]
    rw [if_neg (by omega), if_neg (by omega)]
    exact c2 q (by omega) (by omega) (by omega)
  · simp only [up_ap]
    rw [if_neg (by omega), if_neg (by omega)]
    exact c3
  · intro c hc
    simp only [up_ap]
    rw [if_neg (by omega), if_neg (by omega)]
    have := c4 c hc
    rw [show 7 + 1 + 3 * nx + 1 = 9 + 3 * nx by omega] at this
    exact this
  · intro k hk
    simp only [up_ap]
    rw [if_neg (by omega), if_neg (by omega)]
    have := c5 k hk
    rw [show 7 + 1 + 3 * nx + 2 = 10 + 3 * nx by omega] at this
    exact this
theorem n_add2 (a b : Nat) : nI a + nI b = nI (a + b) := nI_add a b
/-- a block of the reference's row copied -/
def cpb (w : Nat → Int32) (a o : Nat) : Nat → Int32 := fun j => if o ≤ j ∧ j < o + 32 then w (a + (j - o)) else w j
theorem m_copy (hp : HP) {a o : Nat} (ha : a + 32 ≤ 736) (ho : o + 32 ≤ 736) (hd : a + 32 ≤ o ∨ o + 32 ≤ a) : f_Mo_copy hp (nI a) (nI o) = some (0, setc hp 100 (cpb (hp 100) a o)) := by
  unfold f_Mo_copy
  have key := it_eq (g := fun k w => upd w (o + k) (w (a + k))) (k := 0) (d := 32) (s := hp 100) (fun k j => if o ≤ j ∧ j < o + k then hp 100 (a + (j - o)) else hp 100 j) ?_ ?_
  · have e : cpb (hp 100) a o = it (fun k w => upd w (o + k) (w (a + k))) 0 32 (hp 100) := by rw [key]; rfl
    rw [e]
    have := (for_up (fun n k w => f_Mo_copy_L2 (nI a) (nI o) (fun hp4 => some ((0 : Int32), hp4)) n (setc hp 100 w) (nI k)) 32 (fun k w => upd w (o + k) (w (a + k))) (fun w => some (0, setc hp 100 w)) (fun _ _ => True) ?_ ?_ 32 0 FU (hp 100) (by omega) (FU_gt (by omega)) trivial).1
    · rw [setc_self] at this
      exact this
    · intro n k w hk _
      refine ⟨?_, trivial⟩
      show f_Mo_copy_L2 (nI a) (nI o) _ (n + 1) (setc hp 100 w) (nI k) = _
      rw [f_Mo_copy_L2, if_neg (by exact n_nle 32 k (by omega) (by omega)), nI_add, nI_add, if_pos (inb_n (by omega) (by omega)), if_pos (inb_n (by omega) (by omega)), cl_n (by omega), cl_n (by omega), up_setc, setc_at, nI_1]
    · intro n w _
      show f_Mo_copy_L2 (nI a) (nI o) _ (n + 1) (setc hp 100 w) (nI 32) = _
      rw [f_Mo_copy_L2, if_pos (by exact n_le 32 32 (by omega) (by omega))]
  · funext j
    rw [if_neg (by omega)]
  · intro k _ hk
    funext j
    show upd _ (o + k) _ j = _
    rw [upd_ap]
    by_cases q : j = o + k
    · subst q
      rw [if_pos rfl, if_neg (by omega), if_pos (by omega)]
      congr 1; omega
    · rw [if_neg q]
      by_cases q2 : o ≤ j ∧ j < o + k
      · rw [if_pos q2, if_pos (by omega)]
      · rw [if_neg q2, if_neg (by omega)]
/-- the reference's row behind one more to undo to -/
def pw (ct : Nat) (w : Nat → Int32) : Nat → Int32 := fun j => if ct = 20 then (if j < 704 then w (j + 32) else w (j - 704)) else (if 96 + 32 * ct ≤ j ∧ j < 96 + 32 * ct + 32 then w (j - (96 + 32 * ct)) else w j)
def MU (hp hp1 : HP) (ct : Nat) : Prop := (∀ q, q ≠ 99 → q ≠ 100 → hp1 q = hp q) ∧ (∀ j, j ≠ 2 → hp1 99 j = hp 99 j) ∧ hp1 99 2 = nI (min (ct + 1) 20) ∧ (∀ j, j < 96 → hp1 100 j = hp 100 j) ∧ (∀ j, 96 ≤ j → j < 736 → hp1 100 j = pw ct (hp 100) j)
theorem m_minds {hp : HP} {ct : Nat} (h2 : ct ≤ 20) (e2 : hp 99 2 = nI ct) : ∃ hp1, f_Mo_minds hp = some (0, hp1) ∧ MU hp hp1 ct := by
  by_cases hc : ct = 20
  · subst hc
    have key := it_eq (g := fun k w => upd w (96 + k) (w (96 + k + 32))) (k := 0) (d := 608) (s := hp 100) (fun k j => if 96 ≤ j ∧ j < 96 + k then hp 100 (j + 32) else hp 100 j) ?_ ?_
    · have hsh : ∀ K : HP → Option (Int32 × HP), f_Mo_minds_L11 K FU hp 0 = K (setc hp 100 (fun j => if 96 ≤ j ∧ j < 704 then hp 100 (j + 32) else hp 100 j)) := by
        intro K
        have e : (fun j => if 96 ≤ j ∧ j < 704 then hp 100 (j + 32) else hp 100 j) = it (fun k w => upd w (96 + k) (w (96 + k + 32))) 0 608 (hp 100) := by rw [key]
        rw [e]
        have := (for_up (fun n k w => f_Mo_minds_L11 K n (setc hp 100 w) (nI k)) 608 (fun k w => upd w (96 + k) (w (96 + k + 32))) (fun w => K (setc hp 100 w)) (fun _ _ => True) ?_ ?_ 608 0 FU (hp 100) (by omega) (FU_gt (by omega)) trivial).1
        · rw [setc_self] at this
          exact this
        · intro n k w hk _
          refine ⟨?_, trivial⟩
          show f_Mo_minds_L11 K (n + 1) (setc hp 100 w) (nI k) = _
          rw [f_Mo_minds_L11, if_neg (by exact n_nle 608 k (by omega) (by omega)), show (96 : Int32) + nI k = nI (96 + k) from nI_add 96 k, show nI (96 + k) + (32 : Int32) = nI (96 + k + 32) from nI_add (96 + k) 32, if_pos (inb_n (by omega) (by omega)), if_pos (inb_n (by omega) (by omega)), cl_n (by omega), cl_n (by omega), up_setc, setc_at, nI_1]
        · intro n w _
          show f_Mo_minds_L11 K (n + 1) (setc hp 100 w) (nI 608) = _
          rw [f_Mo_minds_L11, if_pos (by exact n_le 608 608 (by omega) (by omega))]
      unfold f_Mo_minds
      rw [if_pos (by rw [e2]; rfl), hsh]
      generalize hW : (fun j => if 96 ≤ j ∧ j < 704 then hp 100 (j + 32) else hp 100 j) = W
      have e3 : setc hp 100 W 99 2 - 1 = nI 19 := by
        show hp 99 2 - 1 = _
        rw [e2]; rfl
      rw [e3]
      have e4 : up (setc hp 100 W) 99 2 (nI 19) 99 2 = nI 19 := rfl
      rw [e4, show (96 : Int32) + (32 : Int32) * nI 19 = nI 704 from rfl]
      have hcp := m_copy (up (setc hp 100 W) 99 2 (nI 19)) (a := 0) (o := 704) (by omega) (by omega) (by omega)
      rw [show (0 : Int32) = nI 0 from rfl, hcp]
      refine ⟨_, rfl, ?_, ?_, ?_, ?_, ?_⟩
      · intro q q1 q2
        simp only [up_ap, setc_ap]
        rw [if_neg q1, if_neg q2, if_neg q1, if_neg q2]
      · intro j hj
        show upd (upd (hp 99) 2 (nI 19)) 2 _ j = _
        rw [upd_ap, if_neg hj, upd_ap, if_neg hj]
      · rfl
      · intro j hj
        show cpb W 0 704 j = _
        unfold cpb
        rw [if_neg (by omega), ← hW]
        show (if 96 ≤ j ∧ j < 704 then _ else _) = _
        rw [if_neg (by omega)]
      · intro j h1 h2
        show cpb W 0 704 j = _
        unfold cpb pw
        rw [if_pos rfl, ← hW]
        by_cases q : j < 704
        · rw [if_neg (by omega), if_pos q]
          show (if 96 ≤ j ∧ j < 704 then _ else _) = _
          rw [if_pos ⟨h1, q⟩]
        · rw [if_pos (by omega), if_neg q]
          show (if 96 ≤ 0 + (j - 704) ∧ 0 + (j - 704) < 704 then _ else hp 100 (0 + (j - 704))) = _
          rw [if_neg (by omega), Nat.zero_add]
    · funext j
      rw [if_neg (by omega)]
    · intro k _ hk
      funext j
      show upd _ (96 + k) _ j = _
      rw [upd_ap]
      by_cases q : j = 96 + k
      · subst q
        rw [if_pos rfl, if_neg (by omega), if_pos (by omega)]
      · rw [if_neg q]
        by_cases q2 : 96 ≤ j ∧ j < 96 + k
        · rw [if_pos q2, if_pos (by omega)]
        · rw [if_neg q2, if_neg (by omega)]
  · unfold f_Mo_minds
    rw [if_neg (by rw [e2]; exact n_ne ct 20 hc (by omega) (by omega)), e2]
    have e3 : (96 : Int32) + (32 : Int32) * nI ct = nI (96 + 32 * ct) := by
      show nI 96 + nI 32 * nI ct = _
      rw [pk_mul, nI_add]
    rw [e3, show (0 : Int32) = nI 0 from rfl, m_copy hp (a := 0) (o := 96 + 32 * ct) (by omega) (by omega) (by omega)]
    refine ⟨_, rfl, ?_, ?_, ?_, ?_, ?_⟩
    · intro q q1 q2
      simp only [up_ap, setc_ap]
      rw [if_neg q1, if_neg q2]
    · intro j hj
      show upd (hp 99) 2 _ j = _
      rw [upd_ap, if_neg hj]
    · show hp 99 2 + 1 = _
      rw [e2, nI_s, Nat.min_eq_left (by omega)]
    · intro j hj
      show cpb (hp 100) 0 (96 + 32 * ct) j = _
      unfold cpb
      rw [if_neg (by omega)]
    · intro j h1 h2
      show cpb (hp 100) 0 (96 + 32 * ct) j = _
      unfold cpb pw
      rw [if_neg hc, Nat.zero_add]
