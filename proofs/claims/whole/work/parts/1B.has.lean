def spn (hp : HP) (i : Nat) : Nat := (hp 114 i).toNatClampNeg
/-- what of the slate a look at what is seen needs -/
def Seen (hp : HP) (P e : Nat) : Prop := e ≤ 8 ∧ hp 68 9 = nI e ∧ hp 99 29 = nI e ∧ ∀ i, i < e → hp 72 i = nI (spn hp i) ∧ hp 114 i = nI (spn hp i) ∧ spn hp i < P ∧ hp 73 i = hp 115 i ∧ (hp 115 i = 0 ∨ hp 115 i = 1)
theorem Seen.of {hp : HP} {P Cn Tn : Nat} (h8 : P ≤ 8) (h : Rsl hp P Cn Tn) : ∃ e, Seen hp P e := by
  obtain ⟨s, m, e, z, ⟨ls, lm, le, lz⟩, ⟨x7, x8, x9, x10⟩, ⟨y7, y8, y9, y10⟩, hs, hm, he, hz⟩ := h
  refine ⟨e, le, x9, y9, fun i hi => ?_⟩
  obtain ⟨e1, e2, ⟨k, hk, e3⟩, e4⟩ := he i hi
  have : spn hp i = k := by unfold spn; rw [e3, nI_clamp (by omega)]
  rw [this]
  exact ⟨e1.trans e3, e3, hk, e2, e4⟩
def lo (hp : HP) (e : Nat) : Int32 := it (fun i s => if hp 115 i = 0 then s else mx s (nd hp (spn hp i))) 0 e (-500)
def hi (hp : HP) (e : Nat) : Int32 := it (fun i s => if hp 115 i = 0 then mn s (nd hp (spn hp i) - 1) else s) 0 e 499
theorem x_lo {hp : HP} {b P Cn Tn e : Nat} (h : Rbr hp b P Cn Tn) (hs : Seen hp P e) : f_Sl_leastSeen hp b = some (lo hp e, hp) := by
  obtain ⟨e8, s1, s2, s3⟩ := hs
  have p8 := h.1.1
  unfold f_Sl_leastSeen
  refine (for_up (fun n k s => f_Sl_leastSeen_L6 b (fun hp6 w5 => some (w5, hp6)) n hp s (nI k)) e (fun i s => if hp 115 i = 0 then s else mx s (nd hp (spn hp i))) (fun s => some (s, hp)) (fun _ _ => True) ?_ ?_ e 0 FU _ (by omega) (FU_gt (by omega)) trivial).1
  · intro n k s hk _
    refine ⟨?_, trivial⟩
    obtain ⟨k1, k2, k3, k4, k5⟩ := s3 k hk
    show f_Sl_leastSeen_L6 b _ (n + 1) hp s (nI k) = _
    rw [f_Sl_leastSeen_L6, s1, if_neg (by exact n_nle e k (by omega) (by omega)), if_pos (inb_n (by omega) (by omega)), cl_n (by omega), k4, k1, if_pos (inb_n (by omega) (by omega)), cl_n (by omega), (h.2.2.2.1 _ k3).1, nI_1]
    by_cases hq : hp 115 k = 0
    · rw [if_pos hq, if_pos hq]
    · rw [if_neg hq, if_neg hq]; rfl
  · intro n s _
    show f_Sl_leastSeen_L6 b _ (n + 1) hp s (nI e) = _
    rw [f_Sl_leastSeen_L6, s1, if_pos (by exact n_le e e (by omega) (by omega))]
theorem x_hi {hp : HP} {b P Cn Tn e : Nat} (h : Rbr hp b P Cn Tn) (hs : Seen hp P e) : f_Sl_greatestSeen hp b = some (hi hp e, hp) := by
  obtain ⟨e8, s1, s2, s3⟩ := hs
  have p8 := h.1.1
  unfold f_Sl_greatestSeen
  refine (for_up (fun n k s => f_Sl_greatestSeen_L6 b (fun hp6 w5 => some (w5, hp6)) n hp s (nI k)) e (fun i s => if hp 115 i = 0 then mn s (nd hp (spn hp i) - 1) else s) (fun s => some (s, hp)) (fun _ _ => True) ?_ ?_ e 0 FU _ (by omega) (FU_gt (by omega)) trivial).1
  · intro n k s hk _
    refine ⟨?_, trivial⟩
    obtain ⟨k1, k2, k3, k4, k5⟩ := s3 k hk
    show f_Sl_greatestSeen_L6 b _ (n + 1) hp s (nI k) = _
    rw [f_Sl_greatestSeen_L6, s1, if_neg (by exact n_nle e k (by omega) (by omega)), if_pos (inb_n (by omega) (by omega)), cl_n (by omega), k4, k1, if_pos (inb_n (by omega) (by omega)), cl_n (by omega), (h.2.2.2.1 _ k3).1, nI_1]
    by_cases hq : hp 115 k = 0
    · rw [if_pos hq, if_pos hq]; rfl
    · rw [if_neg hq, if_neg hq]
  · intro n s _
    show f_Sl_greatestSeen_L6 b _ (n + 1) hp s (nI e) = _
    rw [f_Sl_greatestSeen_L6, s1, if_pos (by exact n_le e e (by omega) (by omega))]
def snc (hp : HP) (v : Int32) (i : Nat) : Bool := if v < nd hp (spn hp i) then decide ((0 : Int32) = hp 115 i) else decide ((1 : Int32) = hp 115 i)
def snb (hp : HP) (v : Int32) : Nat → Bool
  | 0 => true
  | e + 1 => snb hp v e && snc hp v e
theorem m_isSeen {hp : HP} {P e : Nat} (p8 : P ≤ 8) (hs : Seen hp P e) (v : Int32) : f_Mo_isSeen hp v = some (zi (snb hp v e), hp) := by
  obtain ⟨e8, s1, s2, s3⟩ := hs
  unfold f_Mo_isSeen
  have key : ∀ k, k ≤ e → it (fun i s => if s = 0 then 0 else zi (snc hp v i)) 0 k (1 : Int32) = zi (snb hp v k) := by
    intro k
    induction k with
    | zero => intro _; rfl
    | succ k ih =>
      intro hk
      rw [it_succ, ih (by omega), Nat.zero_add]
      show (if zi (snb hp v k) = 0 then 0 else zi (snc hp v k)) = zi (snb hp v k && snc hp v k)
      cases snb hp v k <;> rfl
  rw [← key e (Nat.le_refl e)]
  have hrz : ∀ s : Int32, s = 0 ∨ s = 1 → rz s hp = some (s, hp) := fun s h => by unfold rz; rw [if_pos h]
  refine (for_up (fun n k s => f_Mo_isSeen_L4 v (fun hp9 w8 => rz w8 hp9) n hp s (nI k)) e (fun i s => if s = 0 then 0 else zi (snc hp v i)) (fun s => some (s, hp)) (fun _ s => s = 0 ∨ s = 1) ?_ ?_ e 0 FU 1 (by omega) (FU_gt (by omega)) (Or.inr rfl)).1
  · intro n k s hk hI
    obtain ⟨k1, k2, k3, k4, k5⟩ := s3 k hk
    refine ⟨?_, ?_⟩
    · show f_Mo_isSeen_L4 v _ (n + 1) hp s (nI k) = _
      rw [f_Mo_isSeen_L4, s2, if_neg (by exact n_nle e k (by omega) (by omega))]
      by_cases hz : s = 0
      · rw [if_pos hz, if_pos hz, nI_1]
      · rw [if_neg hz, if_neg hz, if_pos (inb_n (by omega) (by omega)), cl_n (by omega), k2, if_pos (inb_n (by omega) (by omega)), cl_n (by omega), nI_1]
        unfold snc nd
        split
        · by_cases hq : (0 : Int32) = hp 115 k
          · rw [if_pos hq, decide_eq_true hq]; rfl
          · rw [if_neg hq, decide_eq_false hq]; rfl
        · by_cases hq : (1 : Int32) = hp 115 k
          · rw [if_pos hq, decide_eq_true hq]; rfl
          · rw [if_neg hq, decide_eq_false hq]; rfl
    · split
      · exact Or.inl rfl
      · cases snc hp v k
        · exact Or.inl rfl
        · exact Or.inr rfl
  · intro n s hI
    show f_Mo_isSeen_L4 v _ (n + 1) hp s (nI e) = _
    rw [f_Mo_isSeen_L4, s2, if_pos (by exact n_le e e (by omega) (by omega))]
    exact hrz s hI
theorem i500 : (-500 : Int32).toInt = -500 := rfl
theorem i499 : (499 : Int32).toInt = 499 := rfl
theorem i1 : (1 : Int32).toInt = 1 := rfl
theorem i0 : (0 : Int32).toInt = 0 := rfl
theorem lohi {hp : HP} {b P Cn Tn e : Nat} (h : Rbr hp b P Cn Tn) (hs : Seen hp P e) : ∀ k, k ≤ e → (-500 ≤ (lo hp k).toInt ∧ (lo hp k).toInt ≤ 499 ∧ -501 ≤ (hi hp k).toInt ∧ (hi hp k).toInt ≤ 499) ∧ ∀ v : Int32, -500 ≤ v.toInt → v.toInt ≤ 499 → (snb hp v k = true ↔ (lo hp k).toInt ≤ v.toInt ∧ v.toInt ≤ (hi hp k).toInt) := by
  obtain ⟨e8, s1, s2, s3⟩ := hs
  intro k
  induction k with
  | zero =>
    intro _
    refine ⟨⟨?_, ?_, ?_, ?_⟩, fun v h1 h2 => ?_⟩
    · show -500 ≤ (-500 : Int32).toInt; decide
    · show (-500 : Int32).toInt ≤ 499; decide
    · show -501 ≤ (499 : Int32).toInt; decide
    · show (499 : Int32).toInt ≤ 499; decide
    · show true = true ↔ (-500 : Int32).toInt ≤ v.toInt ∧ v.toInt ≤ (499 : Int32).toInt
      rw [i500, i499]
      exact ⟨fun _ => ⟨h1, h2⟩, fun _ => rfl⟩
  | succ k ih =>
    intro hk
    obtain ⟨⟨r1, r2, r3, r4⟩, ih⟩ := ih (by omega)
    obtain ⟨k1, k2, k3, k4, k5⟩ := s3 k (by omega)
    have hn := nd_rg h _ k3
    have el : lo hp (k + 1) = if hp 115 k = 0 then lo hp k else mx (lo hp k) (nd hp (spn hp k)) := by
      unfold lo; rw [it_succ, Nat.zero_add]
    have eh : hi hp (k + 1) = if hp 115 k = 0 then mn (hi hp k) (nd hp (spn hp k) - 1) else hi hp k := by
      unfold hi; rw [it_succ, Nat.zero_add]
    have dm : (nd hp (spn hp k) - 1).toInt = (nd hp (spn hp k)).toInt - 1 := by rw [sub_i (by rw [i1]; omega), i1]
    rw [el, eh]
    rcases k5 with q | q
    · rw [if_pos q, if_pos q, mn_i, dm]
      refine ⟨⟨r1, r2, by omega, by omega⟩, fun v h1 h2 => ?_⟩
      show (snb hp v k && snc hp v k) = true ↔ _
      rw [Bool.and_eq_true, ih v h1 h2]
      have : snc hp v k = true ↔ v.toInt < (nd hp (spn hp k)).toInt := by
        unfold snc
        rw [q]
        by_cases hv : v < nd hp (spn hp k)
        · rw [if_pos hv]; rw [lt_i] at hv; exact ⟨fun _ => hv, fun _ => rfl⟩
        · rw [if_neg hv]; rw [lt_i] at hv; exact ⟨fun h => absurd h (by decide), fun h => absurd h hv⟩
      rw [this]; omega
    · rw [if_neg (by rw [q]; decide), if_neg (by rw [q]; decide), mx_i]
      refine ⟨⟨by omega, by omega, r3, r4⟩, fun v h1 h2 => ?_⟩
      show (snb hp v k && snc hp v k) = true ↔ _
      rw [Bool.and_eq_true, ih v h1 h2]
      have : snc hp v k = true ↔ ¬ v.toInt < (nd hp (spn hp k)).toInt := by
        unfold snc
        rw [q]
        by_cases hv : v < nd hp (spn hp k)
        · rw [if_pos hv]; rw [lt_i] at hv; exact ⟨fun h => absurd h (by decide), fun h => absurd hv h⟩
        · rw [if_neg hv]; rw [lt_i] at hv; exact ⟨fun _ => hv, fun _ => rfl⟩
      rw [this]; omega
/-- the balances that are tried one by one -/
def vI (k : Nat) : Int32 := nI k + (-500)
theorem vI_i {k : Nat} (h : k ≤ 1000) : (vI k).toInt = (k : Int) - 500 := by
  unfold vI; rw [add_i (by rw [nI_toInt (by omega), i500]; omega), nI_toInt (by omega), i500]; omega
theorem vI_1 {k : Nat} (h : k < 1000) : vI k + 1 = vI (k + 1) := by
  rw [eq_i, add_i (by rw [vI_i (by omega), i1]; omega), vI_i (by omega), vI_i (by omega), i1]; omega
theorem it_eq {α : Type} {g : Nat → α → α} {k d : Nat} {s : α} (F : Nat → α) (h0 : F k = s) (hs : ∀ j, k ≤ j → j < k + d → g j (F j) = F (j + 1)) : it g k d s = F (k + d) := by
  subst h0
  induction d with
  | zero => rfl
  | succ d ih =>
    rw [it_succ, ih (fun j h1 h2 => hs j h1 (by omega)), hs (k + d) (by omega) (by omega)]
    rfl
def cnt (a b : Int) (k : Nat) : Nat := (min ((k : Int) - 500) (b + 1) - a).toNat
def hasF (L H : Int32) (k : Nat) : Int32 × Int32 × Int32 := (nI (cnt L.toInt H.toInt k), if cnt L.toInt H.toInt k = 0 then -1 else L + 10000, if cnt L.toInt H.toInt k = 0 then -1 else mn (vI (k - 1)) H + 10000)
def hasg (hp : HP) (e : Nat) : Nat → Int32 × Int32 × Int32 → Int32 × Int32 × Int32 := fun k s => if snb hp (vI k) e = true then (s.1 + 1, if s.1 = 0 then vI k + 10000 else s.2.1, vI k + 10000) else s
theorem has_it {hp : HP} {b P Cn Tn e : Nat} (h : Rbr hp b P Cn Tn) (hs : Seen hp P e) {N : Nat} (hN : N = 1000) : it (hasg hp e) 0 N (0, -1, -1) = hasF (lo hp e) (hi hp e) N := by
  obtain ⟨⟨r1, r2, r3, r4⟩, hk⟩ := lohi h hs e (Nat.le_refl e)
  generalize lo hp e = L at r1 r2 hk ⊢
  generalize hi hp e = H at r3 r4 hk ⊢
  have key := it_eq (g := hasg hp e) (k := 0) (d := N) (s := (0, -1, -1)) (hasF L H) ?_ ?_
  · rw [Nat.zero_add] at key; exact key
  · have : cnt L.toInt H.toInt 0 = 0 := by unfold cnt; omega
    unfold hasF; rw [this]; rfl
  · intro j _ hj
    have hk := hk (vI j) (by rw [vI_i (by omega)]; omega) (by rw [vI_i (by omega)]; omega)
    rw [vI_i (by omega)] at hk
    unfold hasg
    by_cases hq : snb hp (vI j) e = true
    · rw [if_pos hq]
      obtain ⟨q1, q2⟩ := hk.mp hq
      have ec : cnt L.toInt H.toInt (j + 1) = cnt L.toInt H.toInt j + 1 := by unfold cnt; omega
      have em : mn (vI j) H = vI j := by rw [eq_i, mn_i, vI_i (by omega)]; omega
      have n1 : ¬ (cnt L.toInt H.toInt j + 1 = 0) := Nat.succ_ne_zero _
      simp only [hasF, ec, if_neg n1, nI_s, Nat.add_sub_cancel, em]
      by_cases hz : cnt L.toInt H.toInt j = 0
      · have el : vI j = L := by rw [eq_i, vI_i (by omega)]; unfold cnt at hz; omega
        have n0 : nI (cnt L.toInt H.toInt j) = 0 := by rw [hz]; rfl
        simp only [n0, if_true, el]
      · have n2 : ¬ nI (cnt L.toInt H.toInt j) = 0 := n_ne (cnt L.toInt H.toInt j) 0 hz (by unfold cnt; omega) (by omega)
        simp only [if_neg hz, if_neg n2]
    · rw [if_neg hq]
      have hq2 : ¬ (L.toInt ≤ (j : Int) - 500 ∧ (j : Int) - 500 ≤ H.toInt) := fun q => hq (hk.mpr q)
      have ec : cnt L.toInt H.toInt (j + 1) = cnt L.toInt H.toInt j := by unfold cnt; omega
      unfold hasF
      rw [ec]
      by_cases hz : cnt L.toInt H.toInt j = 0
      · rw [if_pos hz, if_pos hz]
        try rw [if_pos hz]
      · rw [if_neg hz, if_neg hz, if_neg hz]
        have em : mn (vI (j + 1 - 1)) H = mn (vI (j - 1)) H := by
          have : 1 ≤ j := by
            rcases Nat.eq_zero_or_pos j with q | q
            · subst q; exact absurd (by unfold cnt; omega) hz
            · exact q
          unfold cnt at hz
          rw [eq_i, mn_i, mn_i, vI_i (by omega), vI_i (by omega)]; omega
        rw [em]
theorem m_has {hp : HP} {b P Cn Tn e : Nat} (h : Rbr hp b P Cn Tn) (hs : Seen hp P e) (v1 : Int32) (K : HP → Int32 → Int32 → Int32 → Option (Int32 × HP)) {N : Nat} (hN : N = 1000) : f_Mo_has_L27 v1 K FU hp 0 (-1) (-1) (-500) = K hp (hasF (lo hp e) (hi hp e) N).1 (hasF (lo hp e) (hi hp e) N).2.1 (hasF (lo hp e) (hi hp e) N).2.2 := by
  rw [← has_it h hs hN]
  refine (for_up (fun n k (s : Int32 × Int32 × Int32) => f_Mo_has_L27 v1 K n hp s.1 s.2.1 s.2.2 (vI k)) N (hasg hp e) (fun s => K hp s.1 s.2.1 s.2.2) (fun _ _ => True) ?_ ?_ N 0 FU (0, -1, -1) (by omega) (FU_gt (by omega)) trivial).1
  · intro n k s hk _
    obtain ⟨x2, x3, x4⟩ := s
    refine ⟨?_, trivial⟩
    simp only [hasg]
    rw [f_Mo_has_L27, if_neg (by rw [le_i, vI_i (by omega)]; have : (500 : Int32).toInt = 500 := rfl; omega), m_isSeen h.1.1 hs, vI_1 (by omega)]
    simp only [Option.bind_some, zi_ite]
    by_cases hq : snb hp (vI k) e = true
    · rw [if_pos hq, if_pos hq]
      by_cases hz : x2 = 0
      · rw [if_pos hz, if_pos hz]
      · rw [if_neg hz, if_neg hz]
    · rw [if_neg hq, if_neg hq]
  · intro n s _
    show f_Mo_has_L27 v1 K (n + 1) hp s.1 s.2.1 s.2.2 (vI N) = _
    rw [f_Mo_has_L27, if_pos (by rw [le_i, vI_i (by omega)]; have : (500 : Int32).toInt = 500 := rfl; omega)]
theorem m_has0 {hp : HP} {b P Cn Tn e : Nat} (h : Rbr hp b P Cn Tn) (hs : Seen hp P e) {a : Int32} (e0 : wi a 0 2 = 1) {N : Nat} (hN : N = 1000) : f_Mo_has hp a = if a = 0 then some ((hasF (lo hp e) (hi hp e) N).1, hp) else if a = 1 then some ((hasF (lo hp e) (hi hp e) N).2.1, hp) else some ((hasF (lo hp e) (hi hp e) N).2.2, hp) := by
  unfold f_Mo_has
  rw [m_in hp a 0 2 (A := 0) (B := 2) rfl rfl, e0, Option.bind_some, if_neg one_ne]
  exact m_has h hs a _ hN
theorem S_has {hp : HP} (h : R hp) (a : Int32) : Sim hp (fun x => f_BA_has x a) (fun x => f_Mo_has x a) := by
  have hR := h
  obtain ⟨b, b', P, Cn, Tn, hr, htx, hbr, hst, him, hpa, hsl⟩ := h
  obtain ⟨ib, eb⟩ := isB_b hr
  obtain ⟨e, hs⟩ := Seen.of hbr.1.1 hsl
  obtain ⟨⟨r1, r2, r3, r4⟩, -⟩ := lohi hbr hs e (Nat.le_refl e)
  obtain ⟨N, hN⟩ : ∃ N : Nat, N = 1000 := ⟨_, rfl⟩
  rcases @wi_lit a 0 2 with ⟨e0, -⟩ | ⟨e0, h1, h2⟩
  · refine Sim.pure (-1000000002) ?_ ?_ hR
    · simp only [f_BA_has, x_within, e0, Option.bind_some, if_true]
    · simp only [f_Mo_has, m_in hp a 0 2 (A := 0) (B := 2) rfl rfl, e0, Option.bind_some, if_true]
  · refine Rd2.sim ?_ hR
    show Rd2 (f_BA_has hp a) (f_Mo_has hp a) hp
    rw [m_has0 hbr hs e0 hN]
    simp only [f_BA_has, x_within, e0, Option.bind_some, if_neg one_ne, eb, ib, if_true, x_lo hbr hs, x_hi hbr hs]
    unfold hasF
    generalize lo hp e = L at r1 r2 ⊢
    generalize hi hp e = H at r3 r4 ⊢
    have d1 : (H - L).toInt = H.toInt - L.toInt := sub_i (by omega)
    have d2 : (H - L + 1).toInt = H.toInt - L.toInt + 1 := by rw [add_i (by rw [d1, i1]; omega), d1, i1]
    have ec : mx 0 (H - L + 1) = nI (cnt L.toInt H.toInt N) := by
      rw [eq_i, mx_i, d2, nI_toInt (by unfold cnt; omega)]; unfold cnt; rw [i0]; omega
    have em : mn (vI (N - 1)) H = H := by rw [eq_i, mn_i, vI_i (by omega)]; omega
    rw [ec, em]
    by_cases ha : a = 0
    · rw [if_pos ha, if_pos ha]
      exact Rd2.of rfl rfl
    · rw [if_neg ha, if_neg ha]
      by_cases hz : cnt L.toInt H.toInt N = 0
      · rw [if_pos hz, if_pos hz, if_pos (by rw [hz]; rfl)]
        by_cases ha1 : a = 1
        · rw [if_pos ha1]
          exact Rd2.of rfl rfl
        · rw [if_neg ha1]
          exact Rd2.of rfl rfl
      · rw [if_neg hz, if_neg hz, if_neg (by exact n_ne (cnt L.toInt H.toInt N) 0 hz (by unfold cnt; omega) (by omega))]
        by_cases ha1 : a = 1
        · rw [if_pos ha1]; try rw [if_pos ha1]
          exact Rd2.of rfl rfl
        · rw [if_neg ha1]; try rw [if_neg ha1]
          exact Rd2.of rfl rfl
