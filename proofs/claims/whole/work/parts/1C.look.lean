/-- how many of the balances that fit have the part -/
def thg (hp : HP) (e k : Nat) : Nat → Int32 → Int32 := fun j s => if snb hp (vI j) e = true then (if vI j < nd hp k then s else s + 1) else s
theorem th_it {hp : HP} {b P Cn Tn e : Nat} (h : Rbr hp b P Cn Tn) (hs : Seen hp P e) {k : Nat} (hk : k < P) {N : Nat} (hN : N = 1000) : it (thg hp e k) 0 N 0 = nI (cnt (max (lo hp e).toInt (nd hp k).toInt) (hi hp e).toInt N) := by
  obtain ⟨⟨r1, r2, r3, r4⟩, hl⟩ := lohi h hs e (Nat.le_refl e)
  have hn := nd_rg h k hk
  generalize lo hp e = L at r1 r2 hl ⊢
  generalize hi hp e = H at r3 r4 hl ⊢
  have key := it_eq (g := thg hp e k) (k := 0) (d := N) (s := 0) (fun j => nI (cnt (max L.toInt (nd hp k).toInt) H.toInt j)) ?_ ?_
  · rw [Nat.zero_add] at key; exact key
  · show nI (cnt (max L.toInt (nd hp k).toInt) H.toInt 0) = 0
    have : cnt (max L.toInt (nd hp k).toInt) H.toInt 0 = 0 := by unfold cnt; omega
    rw [this]; rfl
  · intro j _ hj
    have hl := hl (vI j) (by rw [vI_i (by omega)]; omega) (by rw [vI_i (by omega)]; omega)
    rw [vI_i (by omega)] at hl
    unfold thg
    by_cases hq : snb hp (vI j) e = true
    · rw [if_pos hq]
      have q := hl.mp hq
      by_cases hv : vI j < nd hp k
      · rw [if_pos hv]
        rw [lt_i, vI_i (by omega)] at hv
        have : cnt (max L.toInt (nd hp k).toInt) H.toInt (j + 1) = cnt (max L.toInt (nd hp k).toInt) H.toInt j := by unfold cnt; omega
        rw [this]
      · rw [if_neg hv]
        rw [lt_i, vI_i (by omega)] at hv
        have : cnt (max L.toInt (nd hp k).toInt) H.toInt (j + 1) = cnt (max L.toInt (nd hp k).toInt) H.toInt j + 1 := by unfold cnt; omega
        rw [this, nI_s]
    · rw [if_neg hq]
      have q : ¬ (L.toInt ≤ (j : Int) - 500 ∧ (j : Int) - 500 ≤ H.toInt) := fun q => hq (hl.mpr q)
      have : cnt (max L.toInt (nd hp k).toInt) H.toInt (j + 1) = cnt (max L.toInt (nd hp k).toInt) H.toInt j := by unfold cnt; omega
      rw [this]
theorem m_there {hp : HP} {b P Cn Tn e : Nat} (h : Rbr hp b P Cn Tn) (hs : Seen hp P e) {k : Nat} (hk : k < P) (v1 v2 v3 : Int32) (K : HP → Int32 → Option (Int32 × HP)) {N : Nat} (hN : N = 1000) : f_Mo_look_L30 v1 v2 v3 (nI k) K FU hp 0 (-500) = K hp (nI (cnt (max (lo hp e).toInt (nd hp k).toInt) (hi hp e).toInt N)) := by
  have p8 := h.1.1
  rw [← th_it h hs hk hN]
  refine (for_up (fun n j s => f_Mo_look_L30 v1 v2 v3 (nI k) K n hp s (vI j)) N (thg hp e k) (fun s => K hp s) (fun _ _ => True) ?_ ?_ N 0 FU 0 (by omega) (FU_gt (by omega)) trivial).1
  · intro n j s hj _
    refine ⟨?_, trivial⟩
    simp only [thg]
    rw [f_Mo_look_L30, if_neg (by rw [le_i, vI_i (by omega)]; have : (500 : Int32).toInt = 500 := rfl; omega), m_isSeen h.1.1 hs, vI_1 (by omega)]
    simp only [Option.bind_some, zi_ite, add_00]
    by_cases hq : snb hp (vI j) e = true
    · rw [if_pos hq, if_pos hq, if_pos (inb_n (by omega) (by omega)), cl_n (by omega)]
      show (if vI j < nd hp k then _ else _) = _
      by_cases hv : vI j < nd hp k
      · rw [if_pos hv, if_pos hv]
      · rw [if_neg hv, if_neg hv]
    · rw [if_neg hq, if_neg hq]
  · intro n s _
    show f_Mo_look_L30 v1 v2 v3 (nI k) K (n + 1) hp s (vI N) = _
    rw [f_Mo_look_L30, if_pos (by rw [le_i, vI_i (by omega)]; have : (500 : Int32).toInt = 500 := rfl; omega)]
def lkg (nd : Nat → Int32) (L H : Int32) : Nat → Int32 × Int32 → Int32 × Int32 := fun k s => if nd k - L ≤ 0 then s else if H - nd k + 1 ≤ 0 then s else if s.2 ≤ mx (nd k - L) (H - nd k + 1) then s else (nI k, mx (nd k - L) (H - nd k + 1))
theorem x_look {hp : HP} {b b' P Cn Tn e : Nat} (hr : Rr hp b b') (h : Rbr hp b P Cn Tn) (hs : Seen hp P e) : f_BA_look hp = some ((it (lkg (nd hp) (lo hp e) (hi hp e)) 0 P (-1, hi hp e - lo hp e + 1)).1, hp) := by
  obtain ⟨ib, eb⟩ := isB_b hr
  have p8 := h.1.1
  unfold f_BA_look
  rw [eb, if_pos ib, x_lo h hs, Option.bind_some]
  dsimp only
  rw [eb, if_pos ib, x_hi h hs, Option.bind_some]
  dsimp only
  refine (for_up (fun n k (s : Int32 × Int32) => f_BA_look_L36 (lo hp e) (hi hp e) (fun hp14 w13 => some (w13, hp14)) n hp s.1 s.2 (nI k)) P (lkg (nd hp) (lo hp e) (hi hp e)) (fun s => some (s.1, hp)) (fun _ _ => True) ?_ ?_ P 0 FU (-1, hi hp e - lo hp e + 1) (by omega) (FU_gt (by omega)) trivial).1
  · intro n k s hk _
    obtain ⟨x3, x4⟩ := s
    refine ⟨?_, trivial⟩
    simp only [lkg]
    rw [f_BA_look_L36, eb, if_pos ib, h.2.1.1, if_neg (by exact n_nle P k (by omega) (by omega)), if_pos (inb_n (by omega) (by omega)), cl_n (by omega), nI_1, (h.2.2.2.1 k hk).1]
    show (if nd hp k - lo hp e ≤ 0 then _ else if hi hp e - nd hp k + 1 ≤ 0 then _ else if x4 ≤ mx (nd hp k - lo hp e) (hi hp e - nd hp k + 1) then _ else f_BA_look_L36 _ _ _ n hp (nI k) (mx (nd hp k - lo hp e) (hi hp e - nd hp k + 1)) _) = _
    by_cases c1 : nd hp k - lo hp e ≤ 0
    · rw [if_pos c1, if_pos c1]
    · rw [if_neg c1, if_neg c1]
      by_cases c2 : hi hp e - nd hp k + 1 ≤ 0
      · rw [if_pos c2, if_pos c2]
      · rw [if_neg c2, if_neg c2]
        by_cases c3 : x4 ≤ mx (nd hp k - lo hp e) (hi hp e - nd hp k + 1)
        · rw [if_pos c3, if_pos c3]
        · rw [if_neg c3, if_neg c3]
  · intro n s _
    show f_BA_look_L36 _ _ _ (n + 1) hp s.1 s.2 (nI P) = _
    rw [f_BA_look_L36, eb, if_pos ib, h.2.1.1, if_pos (by exact n_le P P (by omega) (by omega))]
def lkm (nd : Nat → Int32) (L H : Int32) (A : Int32) (N : Nat) : Nat → Int32 × Int32 → Int32 × Int32 := fun k s => if nI (cnt (max L.toInt (nd k).toInt) H.toInt N) ≤ A - nI (cnt (max L.toInt (nd k).toInt) H.toInt N) then (if s.2 ≤ A - nI (cnt (max L.toInt (nd k).toInt) H.toInt N) then s else (nI k, A - nI (cnt (max L.toInt (nd k).toInt) H.toInt N))) else (if s.2 ≤ nI (cnt (max L.toInt (nd k).toInt) H.toInt N) then s else (nI k, nI (cnt (max L.toInt (nd k).toInt) H.toInt N)))
theorem m_look {hp : HP} {b P Cn Tn e : Nat} (h : Rbr hp b P Cn Tn) (hs : Seen hp P e) {N : Nat} (hN : N = 1000) : f_Mo_look hp = some ((it (lkm (nd hp) (lo hp e) (hi hp e) (nI (cnt (lo hp e).toInt (hi hp e).toInt N)) N) 0 P (-1, nI (cnt (lo hp e).toInt (hi hp e).toInt N))).1, hp) := by
  have p8 := h.1.1
  unfold f_Mo_look
  rw [m_has0 h hs (by rfl) hN, if_pos rfl, Option.bind_some]
  dsimp only
  unfold hasF
  dsimp only
  generalize hA : nI (cnt (lo hp e).toInt (hi hp e).toInt N) = A
  refine (for_up (fun n k (s : Int32 × Int32) => f_Mo_look_L13 A (fun hp20 w19 => some (w19, hp20)) n hp s.1 s.2 (nI k)) P (lkm (nd hp) (lo hp e) (hi hp e) A N) (fun s => some (s.1, hp)) (fun _ _ => True) ?_ ?_ P 0 FU (-1, A) (by omega) (FU_gt (by omega)) trivial).1
  · intro n k s hk _
    obtain ⟨x3, x4⟩ := s
    refine ⟨?_, trivial⟩
    simp only [lkm]
    rw [f_Mo_look_L13, h.2.2.1.1, if_neg (by exact n_nle P k (by omega) (by omega)), m_there h hs hk _ _ _ _ hN, nI_1]
    generalize nI (cnt (max (lo hp e).toInt (nd hp k).toInt) (hi hp e).toInt N) = c
    by_cases c1 : c ≤ A - c
    · rw [if_pos c1, if_pos c1]
      by_cases c2 : x4 ≤ A - c
      · rw [if_pos c2, if_pos c2]
      · rw [if_neg c2, if_neg c2]
    · rw [if_neg c1, if_neg c1]
      by_cases c2 : x4 ≤ c
      · rw [if_pos c2, if_pos c2]
      · rw [if_neg c2, if_neg c2]
  · intro n s _
    show f_Mo_look_L13 _ _ (n + 1) hp s.1 s.2 (nI P) = _
    rw [f_Mo_look_L13, h.2.2.1.1, if_pos (by exact n_le P P (by omega) (by omega))]
theorem look_eq {hp : HP} {b P Cn Tn e : Nat} (h : Rbr hp b P Cn Tn) (hs : Seen hp P e) {N : Nat} (hN : N = 1000) : ∀ k, k ≤ P → (it (lkm (nd hp) (lo hp e) (hi hp e) (nI (cnt (lo hp e).toInt (hi hp e).toInt N)) N) 0 k (-1, nI (cnt (lo hp e).toInt (hi hp e).toInt N))).1 = (it (lkg (nd hp) (lo hp e) (hi hp e)) 0 k (-1, hi hp e - lo hp e + 1)).1 ∧ (0 < cnt (lo hp e).toInt (hi hp e).toInt N → (it (lkm (nd hp) (lo hp e) (hi hp e) (nI (cnt (lo hp e).toInt (hi hp e).toInt N)) N) 0 k (-1, nI (cnt (lo hp e).toInt (hi hp e).toInt N))).2 = (it (lkg (nd hp) (lo hp e) (hi hp e)) 0 k (-1, hi hp e - lo hp e + 1)).2) ∧ ((it (lkm (nd hp) (lo hp e) (hi hp e) (nI (cnt (lo hp e).toInt (hi hp e).toInt N)) N) 0 k (-1, nI (cnt (lo hp e).toInt (hi hp e).toInt N))).2.toInt ≤ (cnt (lo hp e).toInt (hi hp e).toInt N : Int)) := by
  obtain ⟨⟨r1, r2, r3, r4⟩, -⟩ := lohi h hs e (Nat.le_refl e)
  have hnd := nd_rg h
  generalize lo hp e = L at r1 r2 ⊢
  generalize hi hp e = H at r3 r4 ⊢
  generalize nd hp = nd at hnd ⊢
  have cA : (cnt L.toInt H.toInt N : Int) = max 0 (H.toInt + 1 - L.toInt) := by unfold cnt; omega
  have cN : cnt L.toInt H.toInt N < 2 ^ 31 := by omega
  intro k
  induction k with
  | zero =>
    intro _
    refine ⟨rfl, fun h0 => ?_, ?_⟩
    · show nI (cnt L.toInt H.toInt N) = H - L + 1
      have d1 : (H - L).toInt = H.toInt - L.toInt := sub_i (by omega)
      rw [eq_i, nI_toInt cN, add_i (by rw [d1, i1]; omega), d1, i1]; omega
    · show (nI (cnt L.toInt H.toInt N)).toInt ≤ _
      rw [nI_toInt cN]; omega
  | succ k ih =>
    intro hk
    obtain ⟨ih1, ih2, ih3⟩ := ih (by omega)
    have hn := hnd k (by omega)
    rw [it_succ, it_succ, Nat.zero_add]
    generalize it (lkm nd L H (nI (cnt L.toInt H.toInt N)) N) 0 k (-1, nI (cnt L.toInt H.toInt N)) = sm at ih1 ih2 ih3 ⊢
    generalize it (lkg nd L H) 0 k (-1, H - L + 1) = sx at ih1 ih2 ⊢
    obtain ⟨m1, m2⟩ := sm
    obtain ⟨x1, x2⟩ := sx
    simp only at ih1 ih2 ih3
    subst ih1
    have cc : (cnt (max L.toInt (nd k).toInt) H.toInt N : Int) = max 0 (H.toInt + 1 - max L.toInt (nd k).toInt) := by unfold cnt; omega
    have c31 : cnt (max L.toInt (nd k).toInt) H.toInt N < 2 ^ 31 := by omega
    simp only [lkm, lkg]
    have t1 : (nI (cnt L.toInt H.toInt N)).toInt = (cnt L.toInt H.toInt N : Int) := nI_toInt cN
    have t2 : (nI (cnt (max L.toInt (nd k).toInt) H.toInt N)).toInt = (cnt (max L.toInt (nd k).toInt) H.toInt N : Int) := nI_toInt c31
    generalize nI (cnt L.toInt H.toInt N) = A at t1 ⊢
    generalize nI (cnt (max L.toInt (nd k).toInt) H.toInt N) = c at t2 ⊢
    have d3 : (A - c).toInt = A.toInt - c.toInt := sub_i (by omega)
    have d4 : (nd k - L).toInt = (nd k).toInt - L.toInt := sub_i (by omega)
    have d5 : (H - nd k).toInt = H.toInt - (nd k).toInt := sub_i (by omega)
    have d6 : (H - nd k + 1).toInt = H.toInt - (nd k).toInt + 1 := by rw [add_i (by rw [d5, i1]; omega), d5, i1]
    have same : ∀ s : Int32 × Int32, (A.toInt ≤ c.toInt ∨ c.toInt ≤ 0) → m2.toInt ≤ A.toInt → (if c ≤ A - c then (if m2 ≤ A - c then (m1, m2) else (nI k, A - c)) else (if m2 ≤ c then (m1, m2) else (nI k, c))) = (m1, m2) := by
      intro s hh h2
      by_cases c1 : c ≤ A - c
      · rw [if_pos c1, if_pos (by rw [le_i] at c1 ⊢; omega)]
      · rw [if_neg c1, if_pos (by rw [le_i] at c1 ⊢; omega)]
    by_cases c1 : nd k - L ≤ 0
    · rw [if_pos c1, same (0, 0) (by rw [le_i, d4, i0] at c1; omega) (by omega)]
      exact ⟨rfl, ih2, ih3⟩
    · rw [if_neg c1]
      rw [le_i, d4, i0] at c1
      by_cases c2 : H - nd k + 1 ≤ 0
      · rw [if_pos c2, same (0, 0) (by rw [le_i, d6, i0] at c2; omega) (by omega)]
        exact ⟨rfl, ih2, ih3⟩
      · rw [if_neg c2]
        rw [le_i, d6, i0] at c2
        have hx : m2 = x2 := ih2 (by omega)
        subst hx
        have e1 : c = H - nd k + 1 := by rw [eq_i, d6]; omega
        have e2 : A - c = nd k - L := by rw [eq_i, d3, d4]; omega
        rw [e2]
        rw [e2] at d3
        by_cases c3 : c ≤ nd k - L
        · have e3 : mx (nd k - L) (H - nd k + 1) = nd k - L := by rw [← e1]; rw [le_i] at c3; rw [eq_i, mx_i]; omega
          rw [if_pos c3, e3]
          by_cases c4 : m2 ≤ nd k - L
          · rw [if_pos c4]
            exact ⟨rfl, fun _ => rfl, ih3⟩
          · rw [if_neg c4]
            exact ⟨rfl, fun _ => rfl, by show (nd k - L).toInt ≤ _; omega⟩
        · have e3 : mx (nd k - L) (H - nd k + 1) = c := by rw [← e1]; rw [le_i] at c3; rw [eq_i, mx_i]; omega
          rw [if_neg c3, e3]
          by_cases c4 : m2 ≤ c
          · rw [if_pos c4]
            exact ⟨rfl, fun _ => rfl, ih3⟩
          · rw [if_neg c4]
            exact ⟨rfl, fun _ => rfl, by show c.toInt ≤ _; omega⟩
theorem S_look {hp : HP} (h : R hp) : Sim hp (fun x => f_BA_look x) (fun x => f_Mo_look x) := by
  have hR := h
  obtain ⟨b, b', P, Cn, Tn, hr, htx, hbr, hst, him, hpa, hsl⟩ := h
  obtain ⟨e, hs⟩ := Seen.of hbr.1.1 hsl
  obtain ⟨N, hN⟩ : ∃ N : Nat, N = 1000 := ⟨_, rfl⟩
  refine Sim.pure _ (x_look hr hbr hs) ?_ hR
  show f_Mo_look hp = _
  rw [m_look hbr hs hN, (look_eq hbr hs hN P (Nat.le_refl P)).1]
