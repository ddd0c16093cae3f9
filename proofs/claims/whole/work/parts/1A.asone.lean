def onl (hp : HP) (P t : Nat) (c d : Nat) : Bool := !(dnb (nd hp) (tkn hp t) P (hp 4 c)) && !(dnb (nd hp) (tkn hp t) P (hp 4 d)) && dnb (nd hp) (tkn hp t) P (hp 4 c + hp 4 d)
def aoEx (on : Nat → Nat → Bool) (i : Int32) (hp : HP) (c : Nat) : Nat → Int32 → Option (Option (Int32 × HP)) := fun d s => if on c d = true then (if s = i then some (some (10 * nI c + nI d, hp)) else none) else none
def aoG (on : Nat → Nat → Bool) (c : Nat) : Nat → Int32 → Int32 := fun d s => if on c d = true then s + 1 else s
def ao (on : Nat → Nat → Bool) (i : Int32) (hp : HP) (fin : Int32 → Option (Int32 × HP)) (Cn : Nat) : Nat → Nat → Int32 → Option (Int32 × HP)
  | 0, _, s => fin s
  | r + 1, c, s => itx (aoEx on i hp c) (aoG on c) (fun s' => ao on i hp fin Cn r (c + 1) s') (c + 1) (Cn - (c + 1)) s
theorem x_only {hp : HP} {b b' P Cn Tn : Nat} (hr : Rr hp b b') (h : Rbr hp b P Cn Tn) (hst : Rst hp Cn) {t c d : Nat} (ht : t < Tn) (hc : c < 5) (hd : d < 5) : f_BA_isDoableOnlyAsOne hp (nI t) (nI c) (nI d) = some (zi (onl hp P t c d), hp) := by
  obtain ⟨ib, eb⟩ := isB_b hr
  have h1 := hst.1.2.1 c hc
  have h2 := hst.1.2.1 d hd
  simp only [f_BA_isDoableOnlyAsOne, inb_n (show c < 5 by omega) (show 5 < 2 ^ 31 by decide), inb_n (show d < 5 by omega) (show 5 < 2 ^ 31 by decide), if_true, eb, ib, cl_n (show c < 2 ^ 31 by omega), cl_n (show d < 2 ^ 31 by omega), x_do h ht (show -100000 ≤ (hp 4 c).toInt by omega), x_do h ht (show -100000 ≤ (hp 4 d).toInt by omega), x_bounded, x_do h ht (show -100000 ≤ (cla (hp 4 c + hp 4 d)).toInt by rw [cla_i]; omega), Option.bind_some, zi_ite, dnb_cla h]
  unfold onl
  cases dnb (nd hp) (tkn hp t) P (hp 4 c) <;> cases dnb (nd hp) (tkn hp t) P (hp 4 d) <;> cases dnb (nd hp) (tkn hp t) P (hp 4 c + hp 4 d) <;> rfl
theorem x_ao {hp : HP} {b b' P Cn Tn : Nat} (hr : Rr hp b b') (h : Rbr hp b P Cn Tn) (hst : Rst hp Cn) {t : Nat} (ht : t < Tn) (i : Int32) (K : HP → Int32 → Option (Int32 × HP)) : ∀ r n c s, c + r = Cn → r < n → f_BA_asOne_L19 (nI t) i K n hp s (nI c) = ao (onl hp P t) i hp (K hp) Cn r c s := by
  obtain ⟨ib, eb⟩ := isB_b hr
  have c5 := h.1.2.1
  intro r
  induction r with
  | zero =>
    intro n c s hc hn
    obtain ⟨m, rfl⟩ : ∃ m, n = m + 1 := ⟨n - 1, by omega⟩
    rw [f_BA_asOne_L19, eb, if_pos ib, h.2.1.2.1, if_pos (by exact n_le Cn c (by omega) (by omega))]
    rfl
  | succ r ih =>
    intro n c s hc hn
    obtain ⟨m, rfl⟩ : ∃ m, n = m + 1 := ⟨n - 1, by omega⟩
    rw [f_BA_asOne_L19, eb, if_pos ib, h.2.1.2.1, if_neg (by exact n_nle Cn c (by omega) (by omega)), nI_1]
    have hin := for_ex (fun n k s => f_BA_asOne_L37 (nI t) i (nI c) (fun hp14 w13 => f_BA_asOne_L19 (nI t) i K m hp14 w13 (nI (c + 1))) n hp s (nI k)) Cn (aoEx (onl hp P t) i hp c) (aoG (onl hp P t) c) (fun s' => ao (onl hp P t) i hp (K hp) Cn r (c + 1) s') (fun k _ => c + 1 ≤ k) ?_ ?_ (Cn - (c + 1)) (c + 1) FU s (by omega) (FU_gt (by omega)) (by omega)
    · exact hin
    · intro n k s hk hI
      refine ⟨?_, fun _ => by omega⟩
      show f_BA_asOne_L37 (nI t) i (nI c) _ (n + 1) hp s (nI k) = _
      rw [f_BA_asOne_L37, eb, if_pos ib, h.2.1.2.1, if_neg (by exact n_nle Cn k (by omega) (by omega)), x_only hr h hst ht (by omega) (by omega)]
      simp only [Option.bind_some, zi_ite, aoEx, aoG, nI_1]
      by_cases ho : onl hp P t c k = true
      · rw [if_pos ho, if_pos ho, if_pos ho]
        by_cases hs : s = i
        · rw [if_pos hs, if_pos hs]
        · rw [if_neg hs, if_neg hs]
      · rw [if_neg ho, if_neg ho, if_neg ho]
    · intro n s _
      show f_BA_asOne_L37 (nI t) i (nI c) _ (n + 1) hp s (nI Cn) = _
      rw [f_BA_asOne_L37, eb, if_pos ib, h.2.1.2.1, if_pos (by exact n_le Cn Cn (by omega) (by omega)), ih m (c + 1) s (by omega) (by omega)]
theorem m_ao {hp : HP} {b P Cn Tn : Nat} (h : Rbr hp b P Cn Tn) (hst : Rst hp Cn) {t : Nat} (ht : t < Tn) (i : Int32) (K : HP → Int32 → Option (Int32 × HP)) : ∀ r n c s, c + r = Cn → r < n → f_Mo_asOne_L16 (nI t) i K n hp s (nI c) = ao (onl hp P t) i hp (K hp) Cn r c s := by
  have c5 := h.1.2.1
  intro r
  induction r with
  | zero =>
    intro n c s hc hn
    obtain ⟨m, rfl⟩ : ∃ m, n = m + 1 := ⟨n - 1, by omega⟩
    rw [f_Mo_asOne_L16, h.2.2.1.2.1, if_pos (by exact n_le Cn c (by omega) (by omega))]
    rfl
  | succ r ih =>
    intro n c s hc hn
    obtain ⟨m, rfl⟩ : ∃ m, n = m + 1 := ⟨n - 1, by omega⟩
    rw [f_Mo_asOne_L16, h.2.2.1.2.1, if_neg (by exact n_nle Cn c (by omega) (by omega)), nI_1]
    have hin := for_ex (fun n k s => f_Mo_asOne_L31 (nI t) i (nI c) (fun hp14 w13 => f_Mo_asOne_L16 (nI t) i K m hp14 w13 (nI (c + 1))) n hp s (nI k)) Cn (aoEx (onl hp P t) i hp c) (aoG (onl hp P t) c) (fun s' => ao (onl hp P t) i hp (K hp) Cn r (c + 1) s') (fun k _ => c + 1 ≤ k) ?_ ?_ (Cn - (c + 1)) (c + 1) FU s (by omega) (FU_gt (by omega)) (by omega)
    · exact hin
    · intro n k s hk hI
      refine ⟨?_, fun _ => by omega⟩
      show f_Mo_asOne_L31 (nI t) i (nI c) _ (n + 1) hp s (nI k) = _
      rw [f_Mo_asOne_L31, h.2.2.1.2.1, if_neg (by exact n_nle Cn k (by omega) (by omega))]
      simp only [n_1, inb_n (show 1 + c < 736 by omega) (show 736 < 2 ^ 31 by decide), inb_n (show 1 + k < 736 by omega) (show 736 < 2 ^ 31 by decide), cl_n (show 1 + c < 2 ^ 31 by omega), cl_n (show 1 + k < 2 ^ 31 by omega), if_true, m_do h ht, Option.bind_some, zi_ite, aoEx, aoG, nI_1, ← Rst_ba hst (show c < 5 by omega), ← Rst_ba hst (show k < 5 by omega)]
      unfold onl
      cases dnb (nd hp) (tkn hp t) P (hp 4 c) <;> cases dnb (nd hp) (tkn hp t) P (hp 4 k) <;> cases dnb (nd hp) (tkn hp t) P (hp 4 c + hp 4 k) <;> (try rfl)
      by_cases hs : s = i
      · simp [hs]
      · simp [hs]
    · intro n s _
      show f_Mo_asOne_L31 (nI t) i (nI c) _ (n + 1) hp s (nI Cn) = _
      rw [f_Mo_asOne_L31, h.2.2.1.2.1, if_pos (by exact n_le Cn Cn (by omega) (by omega)), ih m (c + 1) s (by omega) (by omega)]
theorem ao_val {on : Nat → Nat → Bool} {i : Int32} {hp : HP} {fin : Int32 → Option (Int32 × HP)} {Cn : Nat} (hf : ∀ s, ∃ r, fin s = some (r, hp)) : ∀ r c s, ∃ v, ao on i hp fin Cn r c s = some (v, hp) := by
  intro r
  induction r with
  | zero => intro c s; exact hf s
  | succ r ih =>
    intro c s
    unfold ao
    refine itx_val (fun k s v hv => ?_) (fun s => ih (c + 1) s) _ _ _
    unfold aoEx at hv
    split at hv
    · exact ite_sv hv
    · cases hv
theorem S_asOne {hp : HP} (h : R hp) (t i : Int32) : Sim hp (fun x => f_BA_asOne x t i) (fun x => f_Mo_asOne x t i) := by
  have hR := h
  obtain ⟨b, b', P, Cn, Tn, hr, htx, hbr, hst, him, hpa, hsl⟩ := h
  obtain ⟨ib, eb⟩ := isB_b hr
  have c5 := hbr.1.2.1
  have t6 := hbr.1.2.2
  rcases wi_n t (N := Tn) (by omega) with e2 | ⟨t, ht, rfl, e2⟩
  · refine Sim.pure (-1000000001) ?_ ?_ hR
    · simp only [f_BA_asOne, eb, ib, x_hasT hbr.2.1.2.2, e2, Option.bind_some, if_true]
    · simp only [f_Mo_asOne, m_isT hbr.2.2.1.2.2, e2, Option.bind_some, if_true]
  · have hf : ∀ s, ∃ r, (fun (hp16 : HP) w15 => if i = (-1 : Int32) then some (w15, hp16) else some ((-1 : Int32), hp16)) hp s = some (r, hp) := by
      intro s
      dsimp only
      split
      · exact ⟨_, rfl⟩
      · exact ⟨_, rfl⟩
    obtain ⟨v, hv⟩ := ao_val (on := onl hp P t) (i := i) (Cn := Cn) hf Cn 0 0
    refine Sim.pure v ?_ ?_ hR
    · simp only [f_BA_asOne, eb, ib, x_hasT hbr.2.1.2.2, e2, Option.bind_some, if_true, if_neg one_ne]
      rw [← hv]
      exact x_ao hr hbr hst ht i _ Cn FU 0 0 (by omega) (FU_gt (by omega))
    · simp only [f_Mo_asOne, m_isT hbr.2.2.1.2.2, e2, Option.bind_some, if_neg one_ne]
      rw [← hv]
      exact m_ao hbr hst ht i _ Cn FU 0 0 (by omega) (FU_gt (by omega))
