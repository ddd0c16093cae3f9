/-- what of the slate a plan needs -/
def mtn (hp : HP) (i : Nat) : Nat := (hp 111 i).toNatClampNeg
def PS (hp : HP) (Tn s m : Nat) : Prop := (s ≤ 5 ∧ m ≤ 4) ∧ (hp 68 7 = nI s ∧ hp 68 8 = nI m) ∧ (hp 99 23 = nI s ∧ hp 99 25 = nI m) ∧ (∀ i, i < s → hp 69 i = hp 110 i ∧ 1 ≤ (hp 110 i).toInt ∧ (hp 110 i).toInt ≤ 999) ∧ (∀ i, i < m → hp 70 i = nI (mtn hp i) ∧ hp 111 i = nI (mtn hp i) ∧ mtn hp i < Tn ∧ hp 71 i = hp 112 i)
theorem PS.of {hp : HP} {P Cn Tn : Nat} (t6 : Tn ≤ 6) (h : Rsl hp P Cn Tn) : ∃ s m, PS hp Tn s m := by
  obtain ⟨s, m, e, z, ⟨ls, lm, le, lz⟩, ⟨x7, x8, x9, x10⟩, ⟨y7, y8, y9, y10⟩, hs, hm, he, hz⟩ := h
  refine ⟨s, m, ⟨ls, lm⟩, ⟨x7, x8⟩, ⟨y7, y8⟩, hs, fun i hi => ?_⟩
  obtain ⟨e1, e2, ⟨t, ht, e3⟩, -⟩ := hm i hi
  have : mtn hp i = t := by unfold mtn; rw [e3, nI_clamp (by omega)]
  rw [this]
  exact ⟨e1.trans e3, e3, ht, e2⟩
theorem setc_2 (hp : HP) (k : Nat) (f g : Nat → Int32) : setc (setc hp k f) k g = setc hp k g := by
  funext q
  unfold setc
  split <;> rfl
theorem up_setc (hp : HP) (k : Nat) (f : Nat → Int32) (j : Nat) (v : Int32) : up (setc hp k f) k j v = setc hp k (upd f j v) := by
  unfold up
  rw [setc_2, setc_at]
theorem setc_self (hp : HP) (k : Nat) : setc hp k (hp k) = hp := by
  funext q
  unfold setc
  split
  · rename_i h; rw [h]
  · rfl
/-- months of musts, all, in the class: the last is ahead of n -/
def alb (hp : HP) (P m : Nat) (k : Nat) (v : Int32) : Nat → Bool
  | 0 => true
  | i + 1 => alb hp P m k v i && (!(decide (hp 112 i = nI k)) || dnb (nd hp) (tkn hp (mtn hp i)) P v)
def alx (hp : HP) (P k : Nat) (v : Int32) : Nat → Unit → Option (Option (Int32 × HP)) := fun i _ => if hp 112 i = nI k then (if dnb (nd hp) (tkn hp (mtn hp i)) P v = true then none else some (some (0, hp))) else none
theorem alx_b {hp : HP} {P k m : Nat} {v : Int32} {fin : Option (Int32 × HP)} : ∀ d i, i + d = m → itx (alx hp P k v) (fun _ u => u) (fun _ => fin) i d () = if ((List.range d).all (fun j => !(decide (hp 112 (i + j) = nI k)) || dnb (nd hp) (tkn hp (mtn hp (i + j))) P v)) = true then fin else some (0, hp) := by
  intro d
  induction d with
  | zero => intro i _; rfl
  | succ d ih =>
    intro i hi
    unfold itx
    have e : (List.range (d + 1)).all (fun j => !(decide (hp 112 (i + j) = nI k)) || dnb (nd hp) (tkn hp (mtn hp (i + j))) P v) = ((!(decide (hp 112 i = nI k)) || dnb (nd hp) (tkn hp (mtn hp i)) P v) && (List.range d).all (fun j => !(decide (hp 112 (i + 1 + j) = nI k)) || dnb (nd hp) (tkn hp (mtn hp (i + 1 + j))) P v)) := by
      rw [List.range_succ_eq_map, List.all_cons, List.all_map]
      congr 1
      refine congrArg (fun g => (List.range d).all g) (funext fun j => ?_)
      show (!(decide (hp 112 (i + (j + 1)) = nI k)) || _) = _
      rw [show i + (j + 1) = i + 1 + j by omega]
    rw [e]
    unfold alx
    by_cases c1 : hp 112 i = nI k
    · rw [if_pos c1, decide_eq_true c1]
      cases c2 : dnb (nd hp) (tkn hp (mtn hp i)) P v with
      | true =>
        rw [if_pos rfl]
        exact ih (i + 1) (by omega)
      | false =>
        rw [if_neg (by decide)]
        rfl
    · rw [if_neg c1, decide_eq_false c1]
      exact ih (i + 1) (by omega)
def alm (hp : HP) (P m k : Nat) (v : Int32) : Bool := (List.range m).all (fun j => !(decide (hp 112 (0 + j) = nI k)) || dnb (nd hp) (tkn hp (mtn hp (0 + j))) P v)
theorem x_all_do {hp : HP} {b P Cn Tn s m : Nat} (h : Rbr hp b P Cn Tn) (hs : PS hp Tn s m) {k : Nat} {v : Int32} (hv : -100000 ≤ v.toInt) : f_Pl_isAllDoable hp (nI k) v b = some (zi (alm hp P m k v), hp) := by
  obtain ⟨⟨s5, m4⟩, ⟨x7, x8⟩, ⟨y7, y8⟩, hsu, hmu⟩ := hs
  unfold f_Pl_isAllDoable
  have key : f_Pl_isAllDoable_L3 (nI k) v b (fun hp7 => some (1, hp7)) FU hp 0 = itx (alx hp P k v) (fun _ u => u) (fun _ => some (1, hp)) 0 m () := by
    refine for_ex (fun n i (_ : Unit) => f_Pl_isAllDoable_L3 (nI k) v b (fun hp7 => some (1, hp7)) n hp (nI i)) m _ _ _ (fun _ _ => True) ?_ ?_ m 0 FU () (by omega) (FU_gt (by omega)) trivial
    · intro n i _ hi _
      refine ⟨?_, fun _ => trivial⟩
      obtain ⟨k1, k2, k3, k4⟩ := hmu i hi
      show f_Pl_isAllDoable_L3 (nI k) v b _ (n + 1) hp (nI i) = _
      rw [f_Pl_isAllDoable_L3, x8, if_neg (by exact n_nle m i (by omega) (by omega)), if_pos (inb_n (by omega) (by omega)), cl_n (by omega), k4, k1, x_do h k3 hv]
      simp only [Option.bind_some, zi_ite, nI_1, alx]
      by_cases c1 : hp 112 i = nI k
      · rw [if_pos c1, if_pos c1]
        cases dnb (nd hp) (tkn hp (mtn hp i)) P v <;> rfl
      · rw [if_neg c1, if_neg c1]
    · intro n _ _
      show f_Pl_isAllDoable_L3 (nI k) v b _ (n + 1) hp (nI m) = _
      rw [f_Pl_isAllDoable_L3, x8, if_pos (by exact n_le m m (by omega) (by omega))]
  rw [key, alx_b (m := m) m 0 (by omega)]
  unfold zi alm
  split <;> rfl
theorem m_all_do {hp : HP} {b P Cn Tn s m : Nat} (h : Rbr hp b P Cn Tn) (hs : PS hp Tn s m) {k : Nat} (v v1 v2 : Int32) (K : HP → Option (Int32 × HP)) : f_Mo_isPlan_L68 v1 v2 v (nI k) K FU hp 0 = if alm hp P m k v = true then K hp else some (0, hp) := by
  obtain ⟨⟨s5, m4⟩, ⟨x7, x8⟩, ⟨y7, y8⟩, hsu, hmu⟩ := hs
  have key : f_Mo_isPlan_L68 v1 v2 v (nI k) K FU hp 0 = itx (alx hp P k v) (fun _ u => u) (fun _ => K hp) 0 m () := by
    refine for_ex (fun n i (_ : Unit) => f_Mo_isPlan_L68 v1 v2 v (nI k) K n hp (nI i)) m _ _ _ (fun _ _ => True) ?_ ?_ m 0 FU () (by omega) (FU_gt (by omega)) trivial
    · intro n i _ hi _
      refine ⟨?_, fun _ => trivial⟩
      obtain ⟨k1, k2, k3, k4⟩ := hmu i hi
      show f_Mo_isPlan_L68 v1 v2 v (nI k) K (n + 1) hp (nI i) = _
      rw [f_Mo_isPlan_L68, y8, if_neg (by exact n_nle m i (by omega) (by omega)), if_pos (inb_n (by omega) (by omega)), cl_n (by omega), k2, m_do h k3]
      simp only [Option.bind_some, zi_ite, nI_1, alx]
      by_cases c1 : hp 112 i = nI k
      · rw [if_pos c1, if_pos c1]
        cases dnb (nd hp) (tkn hp (mtn hp i)) P v <;> rfl
      · rw [if_neg c1, if_neg c1]
    · intro n _ _
      show f_Mo_isPlan_L68 v1 v2 v (nI k) K (n + 1) hp (nI m) = _
      rw [f_Mo_isPlan_L68, y8, if_pos (by exact n_le m m (by omega) (by omega))]
  rw [key, alx_b (m := m) m 0 (by omega)]
  rfl
/-- the sum that a row of months gives to month k -/
def smg (su ga : Nat → Int32) (k : Nat) : Nat → Int32 → Int32 := fun e s => if ga e = nI k then s + su e else s
def sm (su ga : Nat → Int32) (k s : Nat) : Int32 := it (smg su ga k) 0 s 0
theorem x_sum {hp : HP} {Tn s m : Nat} (hs : PS hp Tn s m) (k : Nat) : f_Pl_sumGivenTo hp (nI k) = some (sm (hp 110) (hp 77) k s, hp) := by
  obtain ⟨⟨s5, m4⟩, ⟨x7, x8⟩, ⟨y7, y8⟩, hsu, hmu⟩ := hs
  unfold f_Pl_sumGivenTo
  refine (for_up (fun n e s => f_Pl_sumGivenTo_L5 (nI k) (fun hp5 w4 => some (w4, hp5)) n hp s (nI e)) s (smg (hp 110) (hp 77) k) (fun s => some (s, hp)) (fun _ _ => True) ?_ ?_ s 0 FU 0 (by omega) (FU_gt (by omega)) trivial).1
  · intro n e v he _
    refine ⟨?_, trivial⟩
    show f_Pl_sumGivenTo_L5 (nI k) _ (n + 1) hp v (nI e) = _
    rw [f_Pl_sumGivenTo_L5, x7, if_neg (by exact n_nle s e (by omega) (by omega)), if_pos (inb_n (by omega) (by omega)), cl_n (by omega), (hsu e he).1, nI_1]
    unfold smg
    by_cases c : hp 77 e = nI k
    · rw [if_pos c, if_pos c]
    · rw [if_neg c, if_neg c]
  · intro n v _
    show f_Pl_sumGivenTo_L5 (nI k) _ (n + 1) hp v (nI s) = _
    rw [f_Pl_sumGivenTo_L5, x7, if_pos (by exact n_le s s (by omega) (by omega))]
theorem sm_rg {su ga : Nat → Int32} {k s : Nat} (s5 : s ≤ 5) (h : ∀ i, i < s → 1 ≤ (su i).toInt ∧ (su i).toInt ≤ 999) : ∀ j, j ≤ s → 0 ≤ (sm su ga k j).toInt ∧ (sm su ga k j).toInt ≤ 999 * j := by
  intro j
  induction j with
  | zero =>
    intro _
    refine ⟨?_, ?_⟩
    · show 0 ≤ (0 : Int32).toInt; decide
    · show (0 : Int32).toInt ≤ 999 * ((0 : Nat) : Int); decide
  | succ j ih =>
    intro hj
    obtain ⟨i1, i2⟩ := ih (by omega)
    have hr := h j (by omega)
    have e : sm su ga k (j + 1) = if ga j = nI k then sm su ga k j + su j else sm su ga k j := by
      unfold sm; rw [it_succ, Nat.zero_add]; rfl
    rw [e]
    split
    · rw [add_i (by omega)]; omega
    · omega
theorem m_sum {hp : HP} {Tn s m : Nat} (hs : PS hp Tn s m) (k : Nat) (v1 v2 v : Int32) (hv : -9999 ≤ v.toInt ∧ v.toInt ≤ 9999) (K : HP → Int32 → Option (Int32 × HP)) : f_Mo_isPlan_L21 v1 v2 (nI k) K FU hp v 0 = K hp (cla (v - sm (hp 110) (hp 113) k s)) := by
  obtain ⟨⟨s5, m4⟩, ⟨x7, x8⟩, ⟨y7, y8⟩, hsu, hmu⟩ := hs
  have key := it_eq (g := fun e w => if hp 113 e = nI k then cla (w - hp 110 e) else w) (k := 0) (d := s) (s := v) (fun j => cla (v - sm (hp 110) (hp 113) k j)) ?_ ?_
  · rw [Nat.zero_add] at key
    rw [← key]
    refine (for_up (fun n e w => f_Mo_isPlan_L21 v1 v2 (nI k) K n hp w (nI e)) s (fun e w => if hp 113 e = nI k then cla (w - hp 110 e) else w) (fun w => K hp w) (fun _ _ => True) ?_ ?_ s 0 FU v (by omega) (FU_gt (by omega)) trivial).1
    · intro n e w he _
      refine ⟨?_, trivial⟩
      show f_Mo_isPlan_L21 v1 v2 (nI k) K (n + 1) hp w (nI e) = _
      rw [f_Mo_isPlan_L21, y7, if_neg (by exact n_nle s e (by omega) (by omega)), if_pos (inb_n (by omega) (by omega)), cl_n (by omega), m_bounded, nI_1]
      simp only [Option.bind_some]
      by_cases c : hp 113 e = nI k
      · rw [if_pos c, if_pos c]
      · rw [if_neg c, if_neg c]
    · intro n w _
      show f_Mo_isPlan_L21 v1 v2 (nI k) K (n + 1) hp w (nI s) = _
      rw [f_Mo_isPlan_L21, y7, if_pos (by exact n_le s s (by omega) (by omega))]
  · show cla (v - 0) = v
    rw [eq_i, cla_i, sub_i (by rw [i0]; omega), i0]; omega
  · intro j _ hj
    have hr := sm_rg (su := hp 110) (ga := hp 113) (k := k) s5 (fun i hi => (hsu i hi).2) j (by omega)
    have hr2 := (hsu j (by omega)).2
    have e : sm (hp 110) (hp 113) k (j + 1) = if hp 113 j = nI k then sm (hp 110) (hp 113) k j + hp 110 j else sm (hp 110) (hp 113) k j := by
      unfold sm; rw [it_succ, Nat.zero_add]; rfl
    show (if hp 113 j = nI k then cla (cla (v - sm (hp 110) (hp 113) k j) - hp 110 j) else cla (v - sm (hp 110) (hp 113) k j)) = cla (v - sm (hp 110) (hp 113) k (j + 1))
    rw [e]
    by_cases c : hp 113 j = nI k
    · rw [if_pos c, if_pos c]
      generalize sm (hp 110) (hp 113) k j = S at hr ⊢
      generalize hp 110 j = x at hr2 ⊢
      have d1 : (v - S).toInt = v.toInt - S.toInt := sub_i (by omega)
      have d2 : (S + x).toInt = S.toInt + x.toInt := add_i (by omega)
      have d3 : (v - (S + x)).toInt = v.toInt - (S.toInt + x.toInt) := by rw [sub_i (by rw [d2]; omega), d2]
      have d4 : (cla (v - S)).toInt = max (-9999) (min 9999 (v.toInt - S.toInt)) := by rw [cla_i, d1]
      have d5 : (cla (v - S) - x).toInt = (cla (v - S)).toInt - x.toInt := sub_i (by rw [d4]; omega)
      rw [eq_i, cla_i, cla_i, d5, d4, d3]; omega
    · rw [if_neg c, if_neg c]
theorem sm_cong {su ga ga' : Nat → Int32} {k s : Nat} (h : ∀ e, e < s → ga e = ga' e) : sm su ga k s = sm su ga' k s := it_cong s 0 0 (fun j v _ hj => by unfold smg; rw [h j (by omega)])
/-- a row of months works -/
def wk (S : Nat → Int32) (A : Nat → Int32 → Bool) (M : Int32 → Int32) : Nat → Nat → Int32 → Bool
  | 0, _, _ => true
  | d + 1, k, v => if A k (cla (v - S k)) = true then wk S A M d (k + 1) (M (cla (v - S k))) else false
theorem wk_cong {S S' : Nat → Int32} {A : Nat → Int32 → Bool} {M : Int32 → Int32} (h : ∀ k, S k = S' k) (d k : Nat) (v : Int32) : wk S A M d k v = wk S' A M d k v := by
  rw [funext h]
theorem cla_rg (x : Int32) : -9999 ≤ (cla x).toInt ∧ (cla x).toInt ≤ 9999 := by rw [cla_i]; omega
theorem x_works {hp : HP} {b P Cn Tn s m : Nat} (h : Rbr hp b P Cn Tn) (hs : PS hp Tn s m) {c n : Nat} (hc : c < Cn) (hn : n ≤ 4) (K : HP → Option (Int32 × HP)) : ∀ d f k u, k + d = n → d < f → (-9999 ≤ u.toInt ∧ u.toInt ≤ 9999) → f_Pl_works_L7 b (nI c) (nI n) K f hp u (nI k) = if wk (fun k => sm (hp 110) (hp 77) k s) (alm hp P m) (am hp c) d k (if k = 0 then u else am hp c u) = true then K hp else some (0, hp) := by
  intro d
  induction d with
  | zero =>
    intro f k u hk hf hu
    obtain ⟨f, rfl⟩ : ∃ j, f = j + 1 := ⟨f - 1, by omega⟩
    rw [f_Pl_works_L7, if_pos (by exact n_le n k (by omega) (by omega))]
    rfl
  | succ d ih =>
    intro f k u hk hf hu
    obtain ⟨f, rfl⟩ : ∃ j, f = j + 1 := ⟨f - 1, by omega⟩
    rw [f_Pl_works_L7, if_neg (by exact n_nle n k (by omega) (by omega))]
    have step : ∀ v : Int32, ((f_Pl_sumGivenTo hp (nI k)).bind fun p4 => ((f_BA_bounded p4.2 (v - p4.1)).bind fun p6 => ((f_Pl_isAllDoable p6.2 (nI k) p6.1 b).bind fun p8 => if p8.1 = 0 then some ((0 : Int32), p8.2) else f_Pl_works_L7 b (nI c) (nI n) K f p8.2 p6.1 (nI k + 1)))) = if wk (fun k => sm (hp 110) (hp 77) k s) (alm hp P m) (am hp c) (d + 1) k v = true then K hp else some (0, hp) := by
      intro v
      have hcr := cla_rg (v - sm (hp 110) (hp 77) k s)
      rw [x_sum hs k]
      simp only [Option.bind_some, x_bounded]
      rw [x_all_do h hs (by omega)]
      simp only [Option.bind_some, zi_ite, nI_s]
      rw [ih f (k + 1) (cla (v - sm (hp 110) (hp 77) k s)) (by omega) (by omega) hcr, if_neg (Nat.succ_ne_zero k)]
      rw [wk]
      cases alm hp P m k (cla (v - sm (hp 110) (hp 77) k s)) <;> rfl
    by_cases hk0 : k = 0
    · subst hk0
      rw [if_pos (by decide), if_pos rfl]
      exact step u
    · rw [if_neg (by exact n_nle k 0 (by omega) (by omega)), if_neg hk0, x_am h hc]
      simp only [Option.bind_some]
      exact step (am hp c u)
theorem m_works {hp : HP} {b P Cn Tn s m : Nat} (h : Rbr hp b P Cn Tn) (hs : PS hp Tn s m) {c n : Nat} (hc : c < Cn) (hn : n ≤ 4) (K : HP → Option (Int32 × HP)) : ∀ d f k u, k + d = n → d < f → (-9999 ≤ u.toInt ∧ u.toInt ≤ 9999) → f_Mo_isPlan_L12 (nI c) (nI n) K f hp u (nI k) = if wk (fun k => sm (hp 110) (hp 113) k s) (alm hp P m) (am hp c) d k u = true then K hp else some (0, hp) := by
  intro d
  induction d with
  | zero =>
    intro f k u hk hf hu
    obtain ⟨f, rfl⟩ : ∃ j, f = j + 1 := ⟨f - 1, by omega⟩
    rw [f_Mo_isPlan_L12, if_pos (by exact n_le n k (by omega) (by omega))]
    rfl
  | succ d ih =>
    intro f k u hk hf hu
    obtain ⟨f, rfl⟩ : ∃ j, f = j + 1 := ⟨f - 1, by omega⟩
    rw [f_Mo_isPlan_L12, if_neg (by exact n_nle n k (by omega) (by omega)), m_sum hs k _ _ u hu]
    rw [m_all_do h hs, m_am h hc]
    simp only [Option.bind_some, nI_s]
    rw [ih f (k + 1) _ (by omega) (by omega) (am_rg hp c _)]
    rw [wk]
    cases alm hp P m k (cla (u - sm (hp 110) (hp 113) k s)) <;> rfl
