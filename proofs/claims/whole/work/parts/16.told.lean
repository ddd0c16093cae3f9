theorem it_add {α : Type} (g : Nat → α → α) : ∀ (d e k : Nat) (s : α), it g k (d + e) s = it g (k + d) e (it g k d s)
  | 0, e, k, s => by rw [Nat.zero_add, Nat.add_zero]; rfl
  | d + 1, e, k, s => by
    rw [show d + 1 + e = (d + e) + 1 by omega]
    show it g (k + 1) (d + e) (g k s) = it g (k + (d + 1)) e (it g (k + 1) d (g k s))
    rw [it_add g d e (k + 1) (g k s), show k + 1 + d = k + (d + 1) by omega]
theorem it_same {α : Type} {g : Nat → α → α} : ∀ (d k : Nat) (s : α), (∀ j s, k ≤ j → j < k + d → g j s = s) → it g k d s = s
  | 0, _, _, _ => rfl
  | d + 1, k, s, h => by
    show it g (k + 1) d (g k s) = s
    rw [h k s (Nat.le_refl k) (by omega)]
    exact it_same d (k + 1) s (fun j s h1 h2 => h j s (by omega) (by omega))
theorem n_ma (a b : Nat) : nI a * (5 : Int32) + nI b = nI (a * 5 + b) := by
  show nI a * nI 5 + nI b = _
  rw [pk_mul, nI_add]
theorem n_65 (a b : Nat) : (6 : Int32) + (5 : Int32) * nI a + nI b = nI (6 + 5 * a + b) := by
  show nI 6 + nI 5 * nI a + nI b = _
  rw [pk_mul, nI_add, nI_add]
theorem n_1 (a : Nat) : (1 : Int32) + nI a = nI (1 + a) := by
  show nI 1 + nI a = _
  rw [nI_add]
theorem x_debt (hp : HP) (q : Nat) {c d : Nat} (hc : c < 5) (hd : d < 5) : f_St_debt hp q (nI c) (nI d) = some (hp (q + 2) (c * 5 + d), hp) := by
  unfold f_St_debt
  rw [n_ma, if_pos (inb_n (by omega) (by decide)), cl_n (by omega)]
/-- what others owe one less what he owes: as the class sums it, as the reference does -/
def ntx (de : Nat → Int32) (c : Nat) : Int32 := it (fun d s => s + de (d * 5 + c)) 0 5 0
def ntm (w : Nat → Int32) (c n : Nat) : Int32 := it (fun d s => s - w (6 + 5 * c + d)) 0 n 0
theorem x_netOf (hp : HP) (q : Nat) {c : Nat} (hc : c < 5) : f_St_netOf hp q (nI c) = some (ntx (hp (q + 2)) c, hp) := by
  unfold f_St_netOf
  refine (for_up (fun n k s => f_St_netOf_L4 q (nI c) (fun hp5 w4 => some (w4, hp5)) n hp s (nI k)) 5 (fun d s => s + hp (q + 2) (d * 5 + c)) (fun s => some (s, hp)) (fun _ _ => True) ?_ ?_ 5 0 FU 0 (by omega) (FU_gt (by omega)) trivial).1
  · intro n k s hk _
    refine ⟨?_, trivial⟩
    show f_St_netOf_L4 q (nI c) _ (n + 1) hp s (nI k) = _
    rw [f_St_netOf_L4, if_neg (by exact n_nle 5 k (by omega) (by omega)), x_debt hp q hk hc]
    simp only [Option.bind_some, nI_1]
  · intro n s _
    show f_St_netOf_L4 q (nI c) _ (n + 1) hp s (nI 5) = _
    rw [f_St_netOf_L4, if_pos (by exact n_le 5 5 (by omega) (by omega))]
theorem m_net {hp : HP} {Cn : Nat} (h : hp 99 5 = nI Cn) (h5 : Cn ≤ 5) {c : Nat} (hc : c < 5) : f_Mo_net hp (nI c) = some (ntm (hp 100) c Cn, hp) := by
  unfold f_Mo_net
  refine (for_up (fun n k s => f_Mo_net_L4 (nI c) (fun hp5 w4 => some (w4, hp5)) n hp s (nI k)) Cn (fun d s => s - hp 100 (6 + 5 * c + d)) (fun s => some (s, hp)) (fun _ _ => True) ?_ ?_ Cn 0 FU 0 (by omega) (FU_gt (by omega)) trivial).1
  · intro n k s hk _
    refine ⟨?_, trivial⟩
    show f_Mo_net_L4 (nI c) _ (n + 1) hp s (nI k) = _
    rw [f_Mo_net_L4, h, if_neg (by exact n_nle Cn k (by omega) (by omega)), n_65, if_pos (inb_n (by omega) (by omega)), cl_n (by omega), nI_1]
  · intro n s _
    show f_Mo_net_L4 (nI c) _ (n + 1) hp s (nI Cn) = _
    rw [f_Mo_net_L4, h, if_pos (by exact n_le Cn Cn (by omega) (by omega))]
theorem add_neg32 (s y : Int32) : s + -y = s - y := (Int32.sub_eq_add_neg s y).symm
theorem SE.net {Cn : Nat} {mo : Int32} {ba de w : Nat → Int32} (h : SE Cn mo ba de w 0) (h5 : Cn ≤ 5) {c : Nat} (hc : c < 5) : ntx de c = ntm w c Cn := by
  obtain ⟨-, -, k3, k4, k5⟩ := h
  unfold ntx ntm
  have e : ∀ g : Nat → Int32 → Int32, it g 0 5 0 = it g (0 + Cn) (5 - Cn) (it g 0 Cn 0) := fun g => by
    have := it_add g Cn (5 - Cn) 0 0
    rw [show Cn + (5 - Cn) = 5 by omega] at this
    exact this
  rw [e, it_same (5 - Cn) (0 + Cn)]
  · refine it_cong Cn 0 0 (fun j s _ hj => ?_)
    show s + de (j * 5 + c) = s - w (6 + 5 * c + j)
    rw [show j * 5 + c = 5 * j + c by omega, k4 j c (by omega) hc, add_neg32, k3 (5 * c + j) (by omega), show 0 + 6 + (5 * c + j) = 6 + 5 * c + j by omega]
  · intro j s h1 h2
    show s + de (j * 5 + c) = s
    rw [show j * 5 + c = 5 * j + c by omega, k4 j c (by omega) hc, k5 c j hc (by omega) (by omega)]
    simp
/-- the parts by a bounded balance are those by the balance -/
theorem ps_cla {nd : Nat → Int32} {v : Int32} {P : Nat} (h : ∀ k, k < P → -500 ≤ (nd k).toInt ∧ (nd k).toInt ≤ 499) : ps nd (cla v) P = ps nd v P := by
  refine it_cong P 0 0 (fun j s _ hj => ?_)
  have hb := h j (by omega)
  have e : cla v < nd j ↔ v < nd j := by rw [lt_i, lt_i, cla_i]; omega
  unfold pset
  by_cases h1 : v < nd j
  · rw [if_pos h1, if_pos (e.mpr h1)]
  · rw [if_neg h1, if_neg (fun h => h1 (e.mp h))]
def nd (hp : HP) : Nat → Int32 := fun k => hp 102 k - 500
theorem nd_rg {hp : HP} {b P Cn Tn : Nat} (h : Rbr hp b P Cn Tn) : ∀ k, k < P → -500 ≤ (nd hp k).toInt ∧ (nd hp k).toInt ≤ 499 := by
  intro k hk
  obtain ⟨-, h1, h2⟩ := h.2.2.2.1 k hk
  have e5 : (500 : Int32).toInt = 500 := rfl
  unfold nd
  rw [sub_i (by rw [e5]; omega), e5]
  omega
theorem x_ps {hp : HP} {b P Cn Tn : Nat} (h : Rbr hp b P Cn Tn) (v : Int32) : f_Br_partsAt hp b v = some (ps (nd hp) v P, hp) := by
  rw [x_partsAt h.2.1.1 h.1.1, ps_cong (fun k hk => (h.2.2.2.1 k hk).1)]
  rfl
theorem m_ps {hp : HP} {b P Cn Tn : Nat} (h : Rbr hp b P Cn Tn) (v : Int32) : f_Mo_thereBy hp v = some (ps (nd hp) v P, hp) := m_thereBy h.2.2.1.1 h.1.1 v
theorem m_thereOf {hp : HP} {b P Cn Tn : Nat} (h : Rbr hp b P Cn Tn) {c : Nat} (hc : c < 5) : f_Mo_thereOf hp (nI c) = some (ps (nd hp) (hp 100 (1 + c)) P, hp) := by
  unfold f_Mo_thereOf
  rw [n_1, if_pos (inb_n (by omega) (by decide)), cl_n (by omega), m_ps h]
  rfl
def hatg (nd : Nat → Int32) (P : Nat) (ba : Nat → Int32) : Nat → Int32 → Int32 := fun c s => if ps nd (ba c) P = 0 then s ||| ((1 : Int32) <<< (nI c &&& 31)) else s
theorem Rst_ba {hp : HP} {Cn : Nat} (h : Rst hp Cn) {c : Nat} (hc : c < 5) : hp 4 c = hp 100 (1 + c) := by
  have := (h.1.2.1 c hc).1
  rw [Nat.zero_add] at this
  exact this
theorem x_hats {hp : HP} {b b' P Cn Tn : Nat} (hr : Rr hp b b') (h : Rbr hp b P Cn Tn) : f_BA_hats hp = some (it (hatg (nd hp) P (hp 4)) 0 Cn 0, hp) := by
  obtain ⟨ib, eb⟩ := isB_b hr
  have c5 := h.1.2.1
  unfold f_BA_hats
  refine (for_up (fun n k s => f_BA_hats_L4 (fun hp5 w4 => some (w4, hp5)) n hp s (nI k)) Cn (hatg (nd hp) P (hp 4)) (fun s => some (s, hp)) (fun _ _ => True) ?_ ?_ Cn 0 FU 0 (by omega) (FU_gt (by omega)) trivial).1
  · intro n k s hk _
    refine ⟨?_, trivial⟩
    show f_BA_hats_L4 _ (n + 1) hp s (nI k) = _
    rw [f_BA_hats_L4, eb, if_pos ib, h.2.1.2.1, if_neg (by exact n_nle Cn k (by omega) (by omega)), if_pos (inb_n (by omega) (by omega)), cl_n (by omega), x_ps h]
    simp only [Option.bind_some, nI_1]
    unfold hatg
    split <;> rfl
  · intro n s _
    show f_BA_hats_L4 _ (n + 1) hp s (nI Cn) = _
    rw [f_BA_hats_L4, eb, if_pos ib, h.2.1.2.1, if_pos (by exact n_le Cn Cn (by omega) (by omega))]
theorem m_hats {hp : HP} {b P Cn Tn : Nat} (h : Rbr hp b P Cn Tn) : f_Mo_hats hp = some (it (hatg (nd hp) P (fun c => hp 100 (1 + c))) 0 Cn 0, hp) := by
  have c5 := h.1.2.1
  unfold f_Mo_hats
  refine (for_up (fun n k s => f_Mo_hats_L4 (fun hp5 w4 => some (w4, hp5)) n hp s (nI k)) Cn (hatg (nd hp) P (fun c => hp 100 (1 + c))) (fun s => some (s, hp)) (fun _ _ => True) ?_ ?_ Cn 0 FU 0 (by omega) (FU_gt (by omega)) trivial).1
  · intro n k s hk _
    refine ⟨?_, trivial⟩
    show f_Mo_hats_L4 _ (n + 1) hp s (nI k) = _
    rw [f_Mo_hats_L4, h.2.2.1.2.1, if_neg (by exact n_nle Cn k (by omega) (by omega)), m_thereOf h (by omega)]
    simp only [Option.bind_some, nI_1, or_0]
    unfold hatg
    split <;> rfl
  · intro n s _
    show f_Mo_hats_L4 _ (n + 1) hp s (nI Cn) = _
    rw [f_Mo_hats_L4, h.2.2.1.2.1, if_pos (by exact n_le Cn Cn (by omega) (by omega))]
theorem hats_eq {hp : HP} {P Cn : Nat} (h : Rst hp Cn) (h5 : Cn ≤ 5) : it (hatg (nd hp) P (hp 4)) 0 Cn 0 = it (hatg (nd hp) P (fun c => hp 100 (1 + c))) 0 Cn 0 :=
  it_cong Cn 0 0 (fun j s _ hj => by unfold hatg; rw [Rst_ba h (by omega)])
def whog (nd : Nat → Int32) (P : Nat) (ba : Nat → Int32) : Nat → Int32 → Int32 := fun c s => if ps nd (ba c) P = ((1 : Int32) <<< (nI P &&& 31)) - 1 then s ||| ((1 : Int32) <<< (nI c &&& 31)) else s
theorem x_all {hp : HP} {b P : Nat} (h : hp b 5 = nI P) : f_Br_allParts hp b = some (((1 : Int32) <<< (nI P &&& 31)) - 1, hp) := by unfold f_Br_allParts; rw [h]
theorem m_whole {hp : HP} {P : Nat} (h : hp 99 3 = nI P) : f_Mo_whole hp = some (((1 : Int32) <<< (nI P &&& 31)) - 1, hp) := by unfold f_Mo_whole; rw [h]
theorem add_00 (x : Int32) : x + 0 = x := by simp
theorem x_wholes {hp : HP} {b b' P Cn Tn : Nat} (hr : Rr hp b b') (h : Rbr hp b P Cn Tn) (v : Int32) : f_BA_wholes hp v = some (it (whog (nd hp) P (fun c => hp 4 c + (if v = 0 then 0 else ntx (hp 5) c))) 0 Cn 0, hp) := by
  obtain ⟨ib, eb⟩ := isB_b hr
  have c5 := h.1.2.1
  unfold f_BA_wholes
  refine (for_up (fun n k s => f_BA_wholes_L4 v (fun hp5 w4 => some (w4, hp5)) n hp s (nI k)) Cn (whog (nd hp) P (fun c => hp 4 c + (if v = 0 then 0 else ntx (hp 5) c))) (fun s => some (s, hp)) (fun _ _ => True) ?_ ?_ Cn 0 FU 0 (by omega) (FU_gt (by omega)) trivial).1
  · intro n k s hk _
    refine ⟨?_, trivial⟩
    show f_BA_wholes_L4 v _ (n + 1) hp s (nI k) = _
    rw [f_BA_wholes_L4, eb, if_pos ib, h.2.1.2.1, if_neg (by exact n_nle Cn k (by omega) (by omega)), if_pos (inb_n (by omega) (by omega)), cl_n (by omega)]
    unfold whog
    by_cases hv : v = 0
    · rw [if_pos hv]
      simp only [x_bounded, Option.bind_some, x_ps h, eb, ib, if_true, x_all h.2.1.1, ps_cla (nd_rg h), nI_1, hv]
      split <;> rfl
    · rw [if_neg hv]
      simp only [x_netOf hp 3 (show k < 5 by omega), x_bounded, Option.bind_some, x_ps h, eb, ib, if_true, x_all h.2.1.1, ps_cla (nd_rg h), nI_1, if_neg hv]
      split <;> rfl
  · intro n s _
    show f_BA_wholes_L4 v _ (n + 1) hp s (nI Cn) = _
    rw [f_BA_wholes_L4, eb, if_pos ib, h.2.1.2.1, if_pos (by exact n_le Cn Cn (by omega) (by omega))]
theorem m_wholes {hp : HP} {b P Cn Tn : Nat} (h : Rbr hp b P Cn Tn) (v : Int32) : f_Mo_wholes hp v = some (it (whog (nd hp) P (fun c => hp 100 (1 + c) + (if v = 0 then 0 else ntm (hp 100) c Cn))) 0 Cn 0, hp) := by
  have c5 := h.1.2.1
  unfold f_Mo_wholes
  refine (for_up (fun n k s => f_Mo_wholes_L4 v (fun hp5 w4 => some (w4, hp5)) n hp s (nI k)) Cn (whog (nd hp) P (fun c => hp 100 (1 + c) + (if v = 0 then 0 else ntm (hp 100) c Cn))) (fun s => some (s, hp)) (fun _ _ => True) ?_ ?_ Cn 0 FU 0 (by omega) (FU_gt (by omega)) trivial).1
  · intro n k s hk _
    refine ⟨?_, trivial⟩
    show f_Mo_wholes_L4 v _ (n + 1) hp s (nI k) = _
    rw [f_Mo_wholes_L4, h.2.2.1.2.1, if_neg (by exact n_nle Cn k (by omega) (by omega)), n_1, if_pos (inb_n (by omega) (by omega)), cl_n (by omega)]
    unfold whog
    by_cases hv : v = 0
    · rw [if_pos hv]
      simp only [Option.bind_some, m_ps h, m_whole h.2.2.1.1, nI_1, or_0, hv, if_true]
      split <;> rfl
    · rw [if_neg hv]
      simp only [m_net h.2.2.1.2.1 c5 (show k < 5 by omega), Option.bind_some, m_ps h, m_whole h.2.2.1.1, nI_1, or_0, if_neg hv]
      split <;> rfl
  · intro n s _
    show f_Mo_wholes_L4 v _ (n + 1) hp s (nI Cn) = _
    rw [f_Mo_wholes_L4, h.2.2.1.2.1, if_pos (by exact n_le Cn Cn (by omega) (by omega))]
theorem wholes_eq {hp : HP} {P Cn : Nat} (h : Rst hp Cn) (h5 : Cn ≤ 5) (v : Int32) : it (whog (nd hp) P (fun c => hp 4 c + (if v = 0 then 0 else ntx (hp 5) c))) 0 Cn 0 = it (whog (nd hp) P (fun c => hp 100 (1 + c) + (if v = 0 then 0 else ntm (hp 100) c Cn))) 0 Cn 0 :=
  it_cong Cn 0 0 (fun j s _ hj => by simp only [whog, Rst_ba h (show j < 5 by omega), h.1.net h5 (show j < 5 by omega)])
theorem x_cleared {hp : HP} {b b' P Cn Tn : Nat} (hr : Rr hp b b') (h : Rbr hp b P Cn Tn) : f_BA_cleared hp = some (it (fun c s => if 0 ≤ ntx (hp 5) c then s else s + 1) 0 Cn 0, hp) := by
  obtain ⟨ib, eb⟩ := isB_b hr
  have c5 := h.1.2.1
  unfold f_BA_cleared
  refine (for_up (fun n k s => f_BA_cleared_L4 (fun hp5 w4 => some (w4, hp5)) n hp s (nI k)) Cn (fun c s => if 0 ≤ ntx (hp 5) c then s else s + 1) (fun s => some (s, hp)) (fun _ _ => True) ?_ ?_ Cn 0 FU 0 (by omega) (FU_gt (by omega)) trivial).1
  · intro n k s hk _
    refine ⟨?_, trivial⟩
    show f_BA_cleared_L4 _ (n + 1) hp s (nI k) = _
    rw [f_BA_cleared_L4, eb, if_pos ib, h.2.1.2.1, if_neg (by exact n_nle Cn k (by omega) (by omega)), x_netOf hp 3 (show k < 5 by omega)]
    simp only [Option.bind_some, nI_1]
    split <;> rfl
  · intro n s _
    show f_BA_cleared_L4 _ (n + 1) hp s (nI Cn) = _
    rw [f_BA_cleared_L4, eb, if_pos ib, h.2.1.2.1, if_pos (by exact n_le Cn Cn (by omega) (by omega))]
theorem m_cleared {hp : HP} {b P Cn Tn : Nat} (h : Rbr hp b P Cn Tn) : f_Mo_cleared hp = some (it (fun c s => if 0 ≤ ntm (hp 100) c Cn then s else s + 1) 0 Cn 0, hp) := by
  have c5 := h.1.2.1
  unfold f_Mo_cleared
  refine (for_up (fun n k s => f_Mo_cleared_L4 (fun hp5 w4 => some (w4, hp5)) n hp s (nI k)) Cn (fun c s => if 0 ≤ ntm (hp 100) c Cn then s else s + 1) (fun s => some (s, hp)) (fun _ _ => True) ?_ ?_ Cn 0 FU 0 (by omega) (FU_gt (by omega)) trivial).1
  · intro n k s hk _
    refine ⟨?_, trivial⟩
    show f_Mo_cleared_L4 _ (n + 1) hp s (nI k) = _
    rw [f_Mo_cleared_L4, h.2.2.1.2.1, if_neg (by exact n_nle Cn k (by omega) (by omega)), m_net h.2.2.1.2.1 c5 (show k < 5 by omega)]
    simp only [Option.bind_some, nI_1, add_00]
    split <;> rfl
  · intro n s _
    show f_Mo_cleared_L4 _ (n + 1) hp s (nI Cn) = _
    rw [f_Mo_cleared_L4, h.2.2.1.2.1, if_pos (by exact n_le Cn Cn (by omega) (by omega))]
def Rd2 (o o' : Option (Int32 × HP)) (hp : HP) : Prop := ∃ v, o = some (v, hp) ∧ o' = some (v, hp)
theorem Rd2.of {o o' : Option (Int32 × HP)} {hp : HP} {v : Int32} (h : o = some (v, hp)) (h' : o' = some (v, hp)) : Rd2 o o' hp := ⟨v, h, h'⟩
theorem Rd2.sim {hp : HP} {f g : HP → Option (Int32 × HP)} (k : Rd2 (f hp) (g hp) hp) (hR : R hp) : Sim hp f g := by
  obtain ⟨v, k1, k2⟩ := k
  exact Sim.pure v k1 k2 hR
theorem S_told {hp : HP} (h : R hp) (a : Int32) : Sim hp (fun x => f_BA_told x a) (fun x => f_Mo_told x a) := by
  have hR := h
  obtain ⟨b, b', P, Cn, Tn, hr, ⟨N, hN, t1, t2, t3⟩, hbr, hst, him, ⟨nx, ct, a1, a2, a3, a4, a5, a6⟩, hsl⟩ := h
  obtain ⟨ib, eb⟩ := isB_b hr
  obtain ⟨s, m, e, z, ⟨ls, lm, le, lz⟩, ⟨x7, x8, x9, x10⟩, ⟨y7, y8, y9, y10⟩, hs, hm, he, hz⟩ := hsl
  have c5 := hbr.1.2.1
  have key : Rd2 (f_BA_told hp a) (f_Mo_told hp a) hp := by
    unfold f_BA_told f_Mo_told
    rw [eb, if_pos ib, if_pos ib, if_pos ib, x_hats hr hbr, m_hats hbr, x_wholes hr hbr, m_wholes hbr, x_cleared hr hbr, m_cleared hbr, x_wholes hr hbr, m_wholes hbr, hats_eq hst c5, wholes_eq hst c5, wholes_eq hst c5]
    have ec : it (fun c s => if 0 ≤ ntx (hp 5) c then s else s + 1) 0 Cn (0 : Int32) = it (fun c s => if 0 ≤ ntm (hp 100) c Cn then s else s + 1) 0 Cn 0 := it_cong Cn 0 0 (fun j s _ hj => by rw [hst.1.net c5 (by omega)])
    rw [ec, hbr.2.1.1, hbr.2.1.2.1, hbr.2.1.2.2, hbr.2.2.1.1, hbr.2.2.1.2.1, hbr.2.2.1.2.2, t1, t2, hst.1.1, x7, x8, x9, x10, y7, y8, y9, y10, a4, a5]
    by_cases h0 : a = 0
    · rw [if_pos h0]; try rw [if_pos h0]
      exact Rd2.of rfl rfl
    rw [if_neg h0]; try rw [if_neg h0]
    by_cases h1 : a = 1
    · rw [if_pos h1]; try rw [if_pos h1]
      exact Rd2.of rfl rfl
    rw [if_neg h1]; try rw [if_neg h1]
    by_cases h2 : a = 2
    · rw [if_pos h2]; try rw [if_pos h2]
      exact Rd2.of rfl rfl
    rw [if_neg h2]; try rw [if_neg h2]
    by_cases h3 : a = 3
    · rw [if_pos h3]; try rw [if_pos h3]
      exact Rd2.of rfl rfl
    rw [if_neg h3]; try rw [if_neg h3]
    by_cases h4 : a = 4
    · rw [if_pos h4]; try rw [if_pos h4]
      exact Rd2.of rfl rfl
    rw [if_neg h4]; try rw [if_neg h4]
    by_cases h5 : a = 5
    · rw [if_pos h5]; try rw [if_pos h5]
      exact Rd2.of rfl rfl
    rw [if_neg h5]; try rw [if_neg h5]
    by_cases h6 : a = 6
    · rw [if_pos h6]; try rw [if_pos h6]
      exact Rd2.of rfl rfl
    rw [if_neg h6]; try rw [if_neg h6]
    by_cases h7 : a = 7
    · rw [if_pos h7]; try rw [if_pos h7]
      exact Rd2.of rfl rfl
    rw [if_neg h7]; try rw [if_neg h7]
    by_cases h8 : a = 8
    · rw [if_pos h8]; try rw [if_pos h8]
      exact Rd2.of rfl rfl
    rw [if_neg h8]; try rw [if_neg h8]
    by_cases h9 : a = 9
    · rw [if_pos h9]; try rw [if_pos h9]
      exact Rd2.of rfl rfl
    rw [if_neg h9]; try rw [if_neg h9]
    by_cases h10 : a = 10
    · rw [if_pos h10]; try rw [if_pos h10]
      exact Rd2.of rfl rfl
    rw [if_neg h10]; try rw [if_neg h10]
    by_cases h11 : a = 11
    · rw [if_pos h11]; try rw [if_pos h11]
      exact Rd2.of rfl rfl
    rw [if_neg h11]; try rw [if_neg h11]
    by_cases h12 : a = 12
    · rw [if_pos h12]; try rw [if_pos h12]
      exact Rd2.of rfl rfl
    rw [if_neg h12]; try rw [if_neg h12]
    by_cases h13 : a = 13
    · rw [if_pos h13]; try rw [if_pos h13]
      exact Rd2.of rfl rfl
    rw [if_neg h13]; try rw [if_neg h13]
    exact Rd2.of rfl rfl
  obtain ⟨v, k1, k2⟩ := key
  exact Sim.pure v k1 k2 hR
