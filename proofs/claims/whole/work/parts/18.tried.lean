theorem one_ne : ¬ ((1 : Int32) = 0) := by decide
theorem ite_sv {c : Prop} {_ : Decidable c} {r : Int32} {hp : HP} {v : Option (Int32 × HP)} (h : (if c then some (some (r, hp)) else none) = some v) : ∃ r, v = some (r, hp) := by
  by_cases q : c
  · rw [if_pos q] at h; exact ⟨_, (Option.some.inj h).symm⟩
  · rw [if_neg q] at h; cases h
def two (a d : Int32) (Cn : Nat) : Int32 := if wi a 0 (nI Cn - 1) = 0 then 0 else if wi d 0 (nI Cn - 1) = 0 then 0 else if a = d then 0 else 1
theorem x_areTwo {hp : HP} {b b' P Cn Tn : Nat} (hr : Rr hp b b') (h : Rbr hp b P Cn Tn) (a d : Int32) : f_BA_areTwo hp a d = some (two a d Cn, hp) := by
  obtain ⟨ib, eb⟩ := isB_b hr
  simp only [f_BA_areTwo, eb, ib, x_hasC h.2.1.2.1, Option.bind_some, if_true, two]
  split
  · rfl
  · split
    · rfl
    · split <;> rfl
theorem m_areTwo {hp : HP} {b P Cn Tn : Nat} (h : Rbr hp b P Cn Tn) (a d : Int32) : f_Mo_areTwo hp a d = some (two a d Cn, hp) := by
  simp only [f_Mo_areTwo, m_isC h.2.2.1.2.1, Option.bind_some, two]
  split
  · rfl
  · split
    · rfl
    · split <;> rfl
theorem two_c (a d : Int32) {Cn : Nat} (h : Cn ≤ 5) : two a d Cn = 0 ∨ ∃ c e, c < Cn ∧ e < Cn ∧ c ≠ e ∧ a = nI c ∧ d = nI e ∧ two a d Cn = 1 := by
  unfold two
  rcases wi_n a (N := Cn) (by omega) with e1 | ⟨c, hc, ha, e1⟩
  · rw [if_pos e1]; exact Or.inl rfl
  · rw [if_neg (by rw [e1]; decide)]
    rcases wi_n d (N := Cn) (by omega) with e2 | ⟨e, he, hd, e2⟩
    · rw [if_pos e2]; exact Or.inl rfl
    · rw [if_neg (by rw [e2]; decide)]
      by_cases hh : a = d
      · rw [if_pos hh]; exact Or.inl rfl
      · rw [if_neg hh]
        exact Or.inr ⟨c, e, hc, he, fun q => hh (by rw [ha, hd, q]), ha, hd, rfl⟩
theorem Rst_de {hp : HP} {Cn : Nat} (h : Rst hp Cn) {c d : Nat} (hc : c < 5) (hd : d < 5) : hp 5 (c * 5 + d) = hp 100 (6 + 5 * c + d) := by
  have := h.1.2.2.1 (c * 5 + d) (by omega)
  rw [this, show 0 + 6 + (c * 5 + d) = 6 + 5 * c + d by omega]
theorem S_owes {hp : HP} (h : R hp) (a d : Int32) : Sim hp (fun x => f_BA_owes x a d) (fun x => f_Mo_owes x a d) := by
  have hR := h
  obtain ⟨b, b', P, Cn, Tn, hr, htx, hbr, hst, him, hpa, hsl⟩ := h
  have c5 := hbr.1.2.1
  rcases two_c a d c5 with e | ⟨c, e, hc, he, hne, rfl, rfl, e1⟩
  · refine Sim.pure (-1000000001) ?_ ?_ hR
    · simp only [f_BA_owes, x_areTwo hr hbr, e, Option.bind_some, if_true]
    · simp only [f_Mo_owes, m_areTwo hbr, e, Option.bind_some, if_true]
  · refine Sim.pure (hp 5 (c * 5 + e) + 100000) ?_ ?_ hR
    · simp only [f_BA_owes, x_areTwo hr hbr, e1, Option.bind_some]
      rw [if_neg (by decide), x_debt hp 3 (by omega) (by omega)]
      rfl
    · simp only [f_Mo_owes, m_areTwo hbr, e1, Option.bind_some]
      rw [if_neg (by decide), n_65, if_pos (inb_n (by omega) (by omega)), cl_n (by omega), Rst_de hst (by omega) (by omega)]
theorem S_customer {hp : HP} (h : R hp) (a w : Int32) : Sim hp (fun x => f_BA_customer x a w) (fun x => f_Mo_customer x a w) := by
  have hR := h
  obtain ⟨b, b', P, Cn, Tn, hr, htx, hbr, hst, him, hpa, hsl⟩ := h
  obtain ⟨ib, eb⟩ := isB_b hr
  have c5 := hbr.1.2.1
  rcases wi_n a (N := Cn) (by omega) with e1 | ⟨c, hc, rfl, e1⟩
  · refine Sim.pure (-1000000001) ?_ ?_ hR
    · simp only [f_BA_customer, eb, ib, x_hasC hbr.2.1.2.1, e1, Option.bind_some, if_true]
    · simp only [f_Mo_customer, m_isC hbr.2.2.1.2.1, e1, Option.bind_some, if_true]
  · refine Rd2.sim ?_ hR
    simp only [f_BA_customer, f_Mo_customer, eb, ib, x_hasC hbr.2.1.2.1, m_isC hbr.2.2.1.2.1, e1, Option.bind_some, if_true, if_neg one_ne]
    rw [if_pos (inb_n (by omega) (by omega)), cl_n (by omega), n_1, if_pos (inb_n (by omega) (by omega)), cl_n (by omega), x_ps hbr, m_thereOf hbr (by omega), x_netOf hp 3 (by omega), m_net hbr.2.2.1.2.1 c5 (by omega), hst.1.net c5 (by omega), Rst_ba hst (by omega)]
    simp only [Option.bind_some, inb_n (show c < 5 by omega) (show 5 < 2 ^ 31 by decide), inb_n (show 1 + c < 736 by omega) (show 736 < 2 ^ 31 by decide), if_true]
    rw [(hbr.2.2.2.2.1 c hc).1, (hbr.2.2.2.2.1 c hc).2.1]
    by_cases h0 : w = 0
    · rw [if_pos h0]; try rw [if_pos h0]
      exact Rd2.of rfl rfl
    rw [if_neg h0]; try rw [if_neg h0]
    by_cases h1 : w = 1
    · rw [if_pos h1]; try rw [if_pos h1]
      exact Rd2.of rfl rfl
    rw [if_neg h1]; try rw [if_neg h1]
    by_cases h2 : w = 2
    · rw [if_pos h2]; try rw [if_pos h2]
      exact Rd2.of rfl rfl
    rw [if_neg h2]; try rw [if_neg h2]
    by_cases h3 : w = 3
    · rw [if_pos h3]; try rw [if_pos h3]
      exact Rd2.of rfl rfl
    rw [if_neg h3]; try rw [if_neg h3]
    by_cases h4 : w = 4
    · rw [if_pos h4]; try rw [if_pos h4]
      exact Rd2.of rfl rfl
    rw [if_neg h4]; try rw [if_neg h4]
    exact Rd2.of rfl rfl
theorem sub_eq_iff32 (w y z : Int32) : w = y - z ↔ w + z = y := by
  constructor
  · intro h; rw [h, sac]
  · intro h; rw [← h]; simp
theorem S_judge {hp : HP} (h : R hp) : Sim hp (fun x => f_BA_judge x) (fun x => f_Mo_judge x) := by
  have hR := h
  obtain ⟨b, b', P, Cn, Tn, hr, htx, hbr, hst, him, hpa, hsl⟩ := h
  obtain ⟨ib, eb⟩ := isB_b hr
  have c5 := hbr.1.2.1
  obtain ⟨s, m, e, z, ⟨ls, lm, le, lz⟩, ⟨x7, x8, x9, x10⟩, ⟨y7, y8, y9, y10⟩, hs, hm, he, hz⟩ := hsl
  have hx : f_BA_judge hp = itx (fun k (_ : Unit) => if hp 4 (hp 116 k).toNatClampNeg = hp 75 k then none else some (some (nI k, hp))) (fun _ u => u) (fun _ => some (-1, hp)) 0 z () := by
    unfold f_BA_judge
    refine for_ex (fun n k (_ : Unit) => f_BA_judge_L2 (fun hp9 => some (-1, hp9)) n hp (nI k)) z _ _ _ (fun _ _ => True) ?_ ?_ z 0 FU () (by omega) (FU_gt (by omega)) trivial
    · intro n k _ hk _
      refine ⟨?_, fun _ => trivial⟩
      obtain ⟨z1, z2, ⟨c, hc, z3⟩, z4, z5⟩ := hz k hk
      show f_BA_judge_L2 _ (n + 1) hp (nI k) = _
      rw [f_BA_judge_L2, x10, if_neg (by exact n_nle z k (by omega) (by omega)), if_pos (inb_n (by omega) (by omega)), eb, if_pos ib, cl_n (by omega), z1, z3, x_hasC hbr.2.1.2.1, wi_in (by omega) hc]
      simp only [Option.bind_some]
      rw [if_neg (by decide), if_pos (inb_n (by omega) (by omega)), cl_n (by omega)]
      split
      · rw [nI_1]
      · rfl
    · intro n _ _
      show f_BA_judge_L2 _ (n + 1) hp (nI z) = _
      rw [f_BA_judge_L2, x10, if_pos (by exact n_le z z (by omega) (by omega))]
  have hm : f_Mo_judge hp = itx (fun k (_ : Unit) => if hp 4 (hp 116 k).toNatClampNeg = hp 75 k then none else some (some (nI k, hp))) (fun _ u => u) (fun _ => some (-1, hp)) 0 z () := by
    unfold f_Mo_judge
    refine for_ex (fun n k (_ : Unit) => f_Mo_judge_L2 (fun hp9 => some (-1, hp9)) n hp (nI k)) z _ _ _ (fun _ _ => True) ?_ ?_ z 0 FU () (by omega) (FU_gt (by omega)) trivial
    · intro n k _ hk _
      refine ⟨?_, fun _ => trivial⟩
      obtain ⟨z1, z2, ⟨c, hc, z3⟩, z4, z5⟩ := hz k hk
      show f_Mo_judge_L2 _ (n + 1) hp (nI k) = _
      rw [f_Mo_judge_L2, y10, if_neg (by exact n_nle z k (by omega) (by omega)), if_pos (inb_n (by omega) (by omega)), cl_n (by omega), z3, n_1, if_pos (inb_n (by omega) (by omega)), cl_n (by omega), cl_n (by omega), z2, Rst_ba hst (by omega)]
      by_cases hh : hp 100 (1 + c) + 10000 = hp 117 k
      · rw [if_pos hh, if_pos ((sub_eq_iff32 _ _ _).mpr hh), nI_1]
      · rw [if_neg hh, if_neg (fun q => hh ((sub_eq_iff32 _ _ _).mp q))]
    · intro n _ _
      show f_Mo_judge_L2 _ (n + 1) hp (nI z) = _
      rw [f_Mo_judge_L2, y10, if_pos (by exact n_le z z (by omega) (by omega))]
  have hv : ∀ d k, ∃ v, itx (fun k (_ : Unit) => if hp 4 (hp 116 k).toNatClampNeg = hp 75 k then none else some (some (nI k, hp))) (fun _ u => u) (fun _ => some ((-1 : Int32), hp)) k d () = some (v, hp) := by
    intro d
    induction d with
    | zero => intro k; exact ⟨_, rfl⟩
    | succ d ih =>
      intro k
      unfold itx
      by_cases hh : hp 4 (hp 116 k).toNatClampNeg = hp 75 k
      · rw [if_pos hh]; exact ih (k + 1)
      · rw [if_neg hh]; exact ⟨_, rfl⟩
  obtain ⟨v, hv⟩ := hv z 0
  exact Sim.pure v (hx.trans hv) (hm.trans hv) hR
theorem S_wage {hp : HP} (h : R hp) (a q : Int32) : Sim hp (fun x => f_BA_wage x a q) (fun x => f_Mo_wage x a q) := by
  rcases @wi_lit a 0 60 with ⟨e0, -⟩ | ⟨e0, h1, h2⟩
  · refine Sim.pure (-1000000002) ?_ ?_ h
    · simp only [f_BA_wage, x_within, e0, Option.bind_some, if_true]
    · simp only [f_Mo_wage, m_in hp a 0 60 (A := 0) (B := 60) rfl rfl, e0, Option.bind_some, if_true]
  · rcases @wi_lit q 0 100 with ⟨e1, -⟩ | ⟨e1, -, -⟩
    · refine Sim.pure (-1000000002) ?_ ?_ h
      · simp only [f_BA_wage, x_within, e0, e1, Option.bind_some, if_true]
        rw [if_neg (by decide)]
      · simp only [f_Mo_wage, m_in hp a 0 60 (A := 0) (B := 60) rfl rfl, m_in hp q 0 100 (A := 0) (B := 100) rfl rfl, e0, e1, Option.bind_some, if_true]
        rw [if_neg (by decide)]
    · obtain ⟨n, hn, rfl⟩ := of_rg (x := a) (n := 61) h1 (by have : (60 : Int32).toInt = 60 := rfl; omega)
      refine Sim.pure (it (fun _ x3 => (x3 * (((100 : Int32) - q)).toInt64) / (100 : Int64)) 0 n (1000000000 : Int64)).toInt32 ?_ ?_ h
      · simp only [f_BA_wage, x_within, e0, e1, Option.bind_some]
        rw [if_neg (by decide), if_neg (by decide)]
        refine (for_up (fun m k s => f_BA_wage_L30 (nI n) q (fun hp9 w8 => some ((w8).toInt32, hp9)) m hp s (nI k)) n _ (fun s => some (s.toInt32, hp)) (fun _ _ => True) ?_ ?_ n 0 FU _ (by omega) (FU_gt (by omega)) trivial).1
        · intro m k s hk _
          refine ⟨?_, trivial⟩
          show f_BA_wage_L30 _ q _ (m + 1) hp s (nI k) = _
          rw [f_BA_wage_L30, if_neg (by exact n_nle n k (by omega) (by omega)), nI_1]
        · intro m s _
          show f_BA_wage_L30 _ q _ (m + 1) hp s (nI n) = _
          rw [f_BA_wage_L30, if_pos (by exact n_le n n (by omega) (by omega))]
      · simp only [f_Mo_wage, m_in hp (nI n) 0 60 (A := 0) (B := 60) rfl rfl, m_in hp q 0 100 (A := 0) (B := 100) rfl rfl, e0, e1, Option.bind_some]
        rw [if_neg (by decide), if_neg (by decide)]
        refine (for_up (fun m k s => f_Mo_wage_L34 (nI n) q (fun hp9 w8 => some ((w8).toInt32, hp9)) m hp s (nI k)) n _ (fun s => some (s.toInt32, hp)) (fun _ _ => True) ?_ ?_ n 0 FU _ (by omega) (FU_gt (by omega)) trivial).1
        · intro m k s hk _
          refine ⟨?_, trivial⟩
          show f_Mo_wage_L34 _ q _ (m + 1) hp s (nI k) = _
          rw [f_Mo_wage_L34, if_neg (by exact n_nle n k (by omega) (by omega)), nI_1]
        · intro m s _
          show f_Mo_wage_L34 _ q _ (m + 1) hp s (nI n) = _
          rw [f_Mo_wage_L34, if_pos (by exact n_le n n (by omega) (by omega))]
/-- a balance behind a month -/
def am (hp : HP) (c : Nat) (v : Int32) : Int32 := cla (cla (v + hp 103 c) - hp 104 c)
theorem am_rg (hp : HP) (c : Nat) (v : Int32) : -9999 ≤ (am hp c v).toInt ∧ (am hp c v).toInt ≤ 9999 := by unfold am; rw [cla_i]; omega
theorem x_am {hp : HP} {b P Cn Tn : Nat} (h : Rbr hp b P Cn Tn) {c : Nat} (hc : c < Cn) (v : Int32) : f_Br_afterMonth hp b (nI c) v = some (am hp c v, hp) := by
  have c5 := h.1.2.1
  unfold f_Br_afterMonth
  rw [if_pos (inb_n (by omega) (by omega)), cl_n (by omega), (h.2.2.2.2.1 c hc).1]
  simp only [x_bounded, Option.bind_some, (h.2.2.2.2.1 c hc).2.1]
  rfl
theorem m_am {hp : HP} {b P Cn Tn : Nat} (h : Rbr hp b P Cn Tn) {c : Nat} (hc : c < Cn) (v : Int32) : f_Mo_behindMonth hp (nI c) v = some (am hp c v, hp) := by
  have c5 := h.1.2.1
  unfold f_Mo_behindMonth
  rw [if_pos (inb_n (by omega) (by omega)), cl_n (by omega)]
  simp only [m_bounded, Option.bind_some]
  rfl
theorem itx_val {α : Type} {ex : Nat → α → Option (Option (Int32 × HP))} {g : Nat → α → α} {fin : α → Option (Int32 × HP)} {hp : HP} (h1 : ∀ k s v, ex k s = some v → ∃ r, v = some (r, hp)) (h2 : ∀ s, ∃ r, fin s = some (r, hp)) : ∀ d k s, ∃ r, itx ex g fin k d s = some (r, hp) := by
  intro d
  induction d with
  | zero => intro k s; exact h2 s
  | succ d ih =>
    intro k s
    unfold itx
    cases hx : ex k s with
    | some v => obtain ⟨r, hr⟩ := h1 k s v hx; exact ⟨r, hr⟩
    | none => exact ih (k + 1) (g k s)
theorem S_hat {hp : HP} (h : R hp) (a : Int32) : Sim hp (fun x => f_BA_hat x a) (fun x => f_Mo_hat x a) := by
  have hR := h
  obtain ⟨b, b', P, Cn, Tn, hr, htx, hbr, hst, him, hpa, hsl⟩ := h
  obtain ⟨ib, eb⟩ := isB_b hr
  have c5 := hbr.1.2.1
  rcases wi_n a (N := Cn) (by omega) with e1 | ⟨c, hc, rfl, e1⟩
  · refine Sim.pure (-1000000001) ?_ ?_ hR
    · simp only [f_BA_hat, eb, ib, x_hasC hbr.2.1.2.1, e1, Option.bind_some, if_true]
    · simp only [f_Mo_hat, m_isC hbr.2.2.1.2.1, e1, Option.bind_some, if_true]
  · obtain ⟨v, hv⟩ := itx_val (ex := fun k s => if ps (nd hp) s P = 0 then some (some (nI k, hp)) else none) (g := fun _ s => am hp c s) (fin := fun _ => some (-1, hp)) (hp := hp) (fun k s v hv => ite_sv hv) (fun _ => ⟨_, rfl⟩) 201 0 (hp 4 c)
    refine Sim.pure v ?_ ?_ hR
    · simp only [f_BA_hat, eb, ib, x_hasC hbr.2.1.2.1, e1, Option.bind_some, if_true]
      rw [if_neg (by decide), if_pos (inb_n (by omega) (by omega)), cl_n (by omega), ← hv]
      refine for_ex (fun n k s => f_BA_hat_L26 (nI c) (fun hp14 => some (-1, hp14)) n hp s (nI k)) 201 _ _ _ (fun _ _ => True) ?_ ?_ 201 0 FU _ (by omega) (FU_gt (by omega)) trivial
      · intro n k s hk _
        refine ⟨?_, fun _ => trivial⟩
        show f_BA_hat_L26 _ _ (n + 1) hp s (nI k) = _
        rw [f_BA_hat_L26, if_neg (by exact n_nlt 200 k (by omega) (by omega)), eb, if_pos ib, x_ps hbr]
        simp only [Option.bind_some, eb, ib, if_true, x_am hbr hc, nI_1]
        by_cases q : ps (nd hp) s P = 0
        · rw [if_pos q, if_pos q]
        · rw [if_neg q, if_neg q]
      · intro n s _
        show f_BA_hat_L26 _ _ (n + 1) hp s (nI 201) = _
        rw [f_BA_hat_L26, if_pos (by exact n_lt 200 201 (by omega) (by omega))]
    · simp only [f_Mo_hat, m_isC hbr.2.2.1.2.1, e1, Option.bind_some]
      rw [if_neg (by decide), n_1, if_pos (inb_n (by omega) (by omega)), cl_n (by omega), ← hv, ← Rst_ba hst (by omega)]
      refine for_ex (fun n k s => f_Mo_hat_L22 (nI c) (fun hp14 => some (-1, hp14)) n hp s (nI k)) 201 _ _ _ (fun _ _ => True) ?_ ?_ 201 0 FU _ (by omega) (FU_gt (by omega)) trivial
      · intro n k s hk _
        refine ⟨?_, fun _ => trivial⟩
        show f_Mo_hat_L22 _ _ (n + 1) hp s (nI k) = _
        rw [f_Mo_hat_L22, if_neg (by exact n_nlt 200 k (by omega) (by omega)), m_ps hbr]
        simp only [Option.bind_some, m_am hbr hc, nI_1]
        by_cases q : ps (nd hp) s P = 0
        · rw [if_pos q, if_pos q]
        · rw [if_neg q, if_neg q]
      · intro n s _
        show f_Mo_hat_L22 _ _ (n + 1) hp s (nI 201) = _
        rw [f_Mo_hat_L22, if_pos (by exact n_lt 200 201 (by omega) (by omega))]
