def cntb (p : Nat → Bool) : Nat → Nat
  | 0 => 0
  | n + 1 => cntb p n + (if p n = true then 1 else 0)
theorem cntb_le {p q : Nat → Bool} : ∀ {n : Nat}, (∀ k, k < n → p k = true → q k = true) → cntb p n ≤ cntb q n
  | 0, _ => Nat.le_refl _
  | n + 1, h => by
    have ih := cntb_le (n := n) (fun k hk => h k (by omega))
    unfold cntb
    by_cases hp : p n = true
    · rw [if_pos hp, if_pos (h n (by omega) hp)]; omega
    · rw [if_neg hp]; omega
theorem cntb_lt {p q : Nat → Bool} : ∀ {n : Nat}, (∀ k, k < n → p k = true → q k = true) → (∃ k, k < n ∧ q k = true ∧ ¬ p k = true) → cntb p n < cntb q n
  | 0, _, ⟨k, hk, _⟩ => by omega
  | n + 1, h, ⟨k, hk, h1, h2⟩ => by
    unfold cntb
    by_cases e : k = n
    · subst e
      have ih := cntb_le (n := k) (fun j hj => h j (by omega))
      rw [if_neg h2, if_pos h1]; omega
    · have ih := cntb_lt (n := n) (fun j hj => h j (by omega)) ⟨k, by omega, h1, h2⟩
      by_cases hp : p n = true
      · rw [if_pos hp, if_pos (h n (by omega) hp)]; omega
      · rw [if_neg hp]; omega
theorem cntb_cong {p q : Nat → Bool} {n : Nat} (h : ∀ k, k < n → (p k = true ↔ q k = true)) : cntb p n = cntb q n :=
  Nat.le_antisymm (cntb_le (fun k hk => (h k hk).mp)) (cntb_le (fun k hk => (h k hk).mpr))
theorem cntb_max {p : Nat → Bool} : ∀ n, cntb p n ≤ n
  | 0 => Nat.le_refl _
  | n + 1 => by
    have := cntb_max (p := p) n
    unfold cntb
    split <;> omega
theorem cntb_add {p q : Nat → Bool} {l : Nat} : ∀ {n : Nat}, l < n → ¬ p l = true → (∀ k, q k = true ↔ p k = true ∨ k = l) → cntb q n = cntb p n + 1
  | 0, h, _, _ => by omega
  | n + 1, h, h1, h2 => by
    unfold cntb
    by_cases e : l = n
    · subst e
      have : cntb q l = cntb p l := cntb_cong (fun k hk => (h2 k).trans ⟨fun q => q.elim id (fun q => by omega), Or.inl⟩)
      rw [this, if_pos ((h2 l).mpr (Or.inr rfl)), if_neg h1]
    · rw [cntb_add (n := n) (by omega) h1 h2]
      by_cases hp : p n = true
      · rw [if_pos hp, if_pos ((h2 n).mpr (Or.inl hp))]
      · rw [if_neg hp, if_neg (fun q => ((h2 n).mp q).elim hp (fun q => e q.symm))]
/-- one part goes ahead of another -/
def bf (nd : Nat → Int32) (j k : Nat) : Bool := decide (nd k < nd j) || (decide (nd j = nd k) && decide (j < k))
theorem bf_iff (nd : Nat → Int32) (j k : Nat) : bf nd j k = true ↔ (nd k).toInt < (nd j).toInt ∨ ((nd j).toInt = (nd k).toInt ∧ j < k) := by
  unfold bf
  simp only [Bool.or_eq_true, Bool.and_eq_true, decide_eq_true_eq, lt_i, eq_i]
def rk (nd : Nat → Int32) (P k : Nat) : Nat := cntb (fun j => bf nd j k) P
theorem rk_inj {nd : Nat → Int32} {P k l : Nat} (hk : k < P) (hl : l < P) (e : rk nd P k = rk nd P l) : k = l := by
  rcases Nat.lt_trichotomy k l with q | q | q
  · exfalso
    by_cases hb : bf nd k l = true
    · have : rk nd P k < rk nd P l := cntb_lt (fun j _ hj => by rw [bf_iff] at *; omega) ⟨k, hk, hb, by rw [bf_iff]; omega⟩
      omega
    · have : rk nd P l < rk nd P k := cntb_lt (fun j _ hj => by rw [bf_iff] at *; omega) ⟨l, hl, by rw [bf_iff] at *; omega, by rw [bf_iff]; omega⟩
      omega
  · exact q
  · exfalso
    by_cases hb : bf nd k l = true
    · have : rk nd P k < rk nd P l := cntb_lt (fun j _ hj => by rw [bf_iff] at *; omega) ⟨k, hk, hb, by rw [bf_iff]; omega⟩
      omega
    · have : rk nd P l < rk nd P k := cntb_lt (fun j _ hj => by rw [bf_iff] at *; omega) ⟨l, hl, by rw [bf_iff] at *; omega, by rw [bf_iff]; omega⟩
      omega
theorem rk_lt {nd : Nat → Int32} {P k : Nat} (hk : k < P) : rk nd P k < P := by
  have h1 : rk nd P k < cntb (fun _ => true) P := cntb_lt (fun _ _ _ => rfl) ⟨k, hk, rfl, by rw [bf_iff]; omega⟩
  have h2 := cntb_max (p := fun _ => true) P
  omega
theorem x_gone {hp : HP} {b P Cn Tn : Nat} (h : Rbr hp b P Cn Tn) {k : Nat} (hk : k < P) : f_Br_goneAheadOf hp b (nI k) = some (nI (rk (nd hp) P k), hp) := by
  have p8 := h.1.1
  unfold f_Br_goneAheadOf
  have key := it_eq (g := fun j s => if bf (nd hp) j k = true then s + 1 else s) (k := 0) (d := P) (s := (0 : Int32)) (fun j => nI (cntb (fun j => bf (nd hp) j k) j)) rfl (by
    intro j _ _
    show (if bf (nd hp) j k = true then nI _ + 1 else nI _) = nI (cntb _ j + if bf (nd hp) j k = true then 1 else 0)
    split
    · rw [nI_s]
    · rfl)
  rw [Nat.zero_add] at key
  show _ = some (nI (cntb (fun j => bf (nd hp) j k) P), hp)
  rw [← key]
  refine (for_up (fun n j s => f_Br_goneAheadOf_L4 b (nI k) (fun hp8 w7 => some (w7, hp8)) n hp s (nI j)) P (fun j s => if bf (nd hp) j k = true then s + 1 else s) (fun s => some (s, hp)) (fun _ _ => True) ?_ ?_ P 0 FU 0 (by omega) (FU_gt (by omega)) trivial).1
  · intro n j s hj _
    refine ⟨?_, trivial⟩
    show f_Br_goneAheadOf_L4 b (nI k) _ (n + 1) hp s (nI j) = f_Br_goneAheadOf_L4 b (nI k) _ n hp (if bf (nd hp) j k = true then s + 1 else s) (nI (j + 1))
    rw [f_Br_goneAheadOf_L4, h.2.1.1, if_neg (by exact n_nle P j (by omega) (by omega)), if_pos (inb_n (by omega) (by omega)), if_pos (inb_n (by omega) (by omega)), cl_n (by omega), cl_n (by omega), (h.2.2.2.1 k hk).1, (h.2.2.2.1 j hj).1, nI_1]
    show (if nd hp k < nd hp j then _ else if nd hp j = nd hp k then if nI k ≤ nI j then _ else _ else _) = _
    by_cases c1 : nd hp k < nd hp j
    · rw [if_pos c1, if_pos (by rw [bf_iff]; rw [lt_i] at c1; exact Or.inl c1)]
    · rw [if_neg c1]
      by_cases c2 : nd hp j = nd hp k
      · rw [if_pos c2]
        by_cases c3 : k ≤ j
        · rw [if_pos (by exact n_le k j c3 (by omega)), if_neg (by rw [bf_iff]; rw [lt_i] at c1; omega)]
        · rw [if_neg (by exact n_nle k j (by omega) (by omega)), if_pos (by rw [bf_iff]; exact Or.inr ⟨by rw [c2], by omega⟩)]
      · rw [if_neg c2, if_neg (by rw [bf_iff]; rw [lt_i] at c1; rw [eq_i] at c2; omega)]
  · intro n s _
    show f_Br_goneAheadOf_L4 b (nI k) _ (n + 1) hp s (nI P) = _
    rw [f_Br_goneAheadOf_L4, h.2.1.1, if_pos (by exact n_le P P (by omega) (by omega))]
theorem x_order {hp : HP} {b b' P Cn Tn : Nat} (hr : Rr hp b b') (h : Rbr hp b P Cn Tn) (a : Int32) : f_BA_order hp a = itx (fun k (_ : Unit) => if nI (rk (nd hp) P k) = a then some (some (nI k, hp)) else none) (fun _ u => u) (fun _ => some (-1, hp)) 0 P () := by
  obtain ⟨ib, eb⟩ := isB_b hr
  have p8 := h.1.1
  unfold f_BA_order
  refine for_ex (fun n k (_ : Unit) => f_BA_order_L2 a (fun hp6 => some (-1, hp6)) n hp (nI k)) P _ _ _ (fun _ _ => True) ?_ ?_ P 0 FU () (by omega) (FU_gt (by omega)) trivial
  · intro n k _ hk _
    refine ⟨?_, fun _ => trivial⟩
    show f_BA_order_L2 a _ (n + 1) hp (nI k) = _
    rw [f_BA_order_L2, eb, if_pos ib, h.2.1.1, if_neg (by exact n_nle P k (by omega) (by omega)), x_gone h hk]
    simp only [Option.bind_some, nI_1]
    by_cases q : nI (rk (nd hp) P k) = a
    · rw [if_pos q, if_pos q]
    · rw [if_neg q, if_neg q]
  · intro n _ _
    show f_BA_order_L2 a _ (n + 1) hp (nI P) = _
    rw [f_BA_order_L2, eb, if_pos ib, h.2.1.1, if_pos (by exact n_le P P (by omega) (by omega))]
theorem x_order_no {hp : HP} {P : Nat} {a : Int32} (hn : ∀ k, k < P → ¬ nI (rk (nd hp) P k) = a) : ∀ d k, k + d = P → itx (fun k (_ : Unit) => if nI (rk (nd hp) P k) = a then some (some (nI k, hp)) else none) (fun _ u => u) (fun _ => some ((-1 : Int32), hp)) k d () = some (-1, hp)
  | 0, _, _ => rfl
  | d + 1, k, h => by
    unfold itx
    rw [if_neg (hn k (by omega))]
    exact x_order_no hn d (k + 1) (by omega)
theorem x_order_at {hp : HP} {P l : Nat} (h8 : P ≤ 8) (hl : l < P) : ∀ d k, k + d = P → k ≤ l → itx (fun k (_ : Unit) => if nI (rk (nd hp) P k) = nI (rk (nd hp) P l) then some (some (nI k, hp)) else none) (fun _ u => u) (fun _ => some ((-1 : Int32), hp)) k d () = some (nI l, hp)
  | 0, _, _, _ => by omega
  | d + 1, k, h, hk => by
    unfold itx
    by_cases e : k = l
    · subst e; rw [if_pos rfl]
    · have hr1 := rk_lt (nd := nd hp) (P := P) (k := k) (by omega)
      have hr2 := rk_lt (nd := nd hp) (P := P) (k := l) (by omega)
      rw [if_neg (by exact n_ne _ _ (fun q => e (rk_inj (by omega) hl q)) (by omega) (by omega))]
      exact x_order_at h8 hl d (k + 1) (by omega) (by omega)
def enc : Option Nat → Int32
  | none => -1
  | some j => nI j
def slg (nd : Nat → Int32) (g : Nat) : Nat → Option Nat → Option Nat := fun k o => if g.testBit k = true then o else match o with
  | none => some k
  | some j => if (nd k).toInt ≤ (nd j).toInt then some j else some k
def sel (nd : Nat → Int32) (g k : Nat) : Option Nat := it (slg nd g) 0 k none
theorem sel_spec (nd : Nat → Int32) (g : Nat) : ∀ k, (sel nd g k = none ∧ ∀ j, j < k → g.testBit j = true) ∨ ∃ l, sel nd g k = some l ∧ l < k ∧ ¬ g.testBit l = true ∧ ∀ j, j < k → ¬ g.testBit j = true → j ≠ l → bf nd l j = true
  | 0 => Or.inl ⟨rfl, fun j hj => by omega⟩
  | k + 1 => by
    have e : sel nd g (k + 1) = slg nd g k (sel nd g k) := by unfold sel; rw [it_succ, Nat.zero_add]
    rw [e]
    unfold slg
    by_cases hg : g.testBit k = true
    · rw [if_pos hg]
      rcases sel_spec nd g k with ⟨h1, h2⟩ | ⟨l, h1, h2, h3, h4⟩
      · refine Or.inl ⟨h1, fun j hj => ?_⟩
        rcases Nat.lt_or_ge j k with q | q
        · exact h2 j q
        · have : j = k := by omega
          subst this; exact hg
      · refine Or.inr ⟨l, h1, by omega, h3, fun j hj hj2 hj3 => ?_⟩
        rcases Nat.lt_or_ge j k with q | q
        · exact h4 j q hj2 hj3
        · have : j = k := by omega
          subst this; exact absurd hg hj2
    · rw [if_neg hg]
      rcases sel_spec nd g k with ⟨h1, h2⟩ | ⟨l, h1, h2, h3, h4⟩
      · rw [h1]
        refine Or.inr ⟨k, rfl, by omega, hg, fun j hj hj2 hj3 => absurd (h2 j (by omega)) hj2⟩
      · rw [h1]
        show _ ∨ ∃ l', (if (nd k).toInt ≤ (nd l).toInt then some l else some k) = some l' ∧ _
        by_cases hn : (nd k).toInt ≤ (nd l).toInt
        · rw [if_pos hn]
          refine Or.inr ⟨l, rfl, by omega, h3, fun j hj hj2 hj3 => ?_⟩
          rcases Nat.lt_or_ge j k with q | q
          · exact h4 j q hj2 hj3
          · have : j = k := by omega
            subst this; rw [bf_iff]; omega
        · rw [if_neg hn]
          refine Or.inr ⟨k, rfl, by omega, hg, fun j hj hj2 hj3 => ?_⟩
          by_cases hjl : j = l
          · subst hjl; rw [bf_iff]; omega
          · have := h4 j (by omega) hj2 hjl
            rw [bf_iff] at *; omega
theorem m_sel {hp : HP} {b P Cn Tn : Nat} (h : Rbr hp b P Cn Tn) (v1 v4 : Int32) {g : Nat} (hg : g < 256) (K : HP → Int32 → Option (Int32 × HP)) : f_Mo_order_L27 v1 (nI g) v4 K FU hp (-1) 0 = K hp (enc (sel (nd hp) g P)) := by
  have p8 := h.1.1
  refine (for_up (fun n k o => f_Mo_order_L27 v1 (nI g) v4 K n hp (enc o) (nI k)) P (slg (nd hp) g) (fun o => K hp (enc o)) (fun k o => ∀ j, o = some j → j < k) ?_ ?_ P 0 FU none (by omega) (FU_gt (by omega)) (fun j hj => by cases hj)).1
  · intro n k o hk hI
    refine ⟨?_, ?_⟩
    · show f_Mo_order_L27 v1 (nI g) v4 K (n + 1) hp (enc o) (nI k) = f_Mo_order_L27 v1 (nI g) v4 K n hp (enc (slg (nd hp) g k o)) (nI (k + 1))
      rw [f_Mo_order_L27, h.2.2.1.1, if_neg (by exact n_nle P k (by omega) (by omega)), nI_1]
      unfold f_Mo_isIn slg
      have hb := n_bit (n := g) (k := k) hg (by omega)
      by_cases hq : g.testBit k = true
      · rw [if_pos (hb.mpr hq), if_pos hq]
        simp only [Option.bind_some, if_neg one_ne]
      · rw [if_neg (fun q => hq (hb.mp q)), if_neg hq]
        simp only [Option.bind_some, if_true]
        cases o with
        | none =>
          rw [if_pos (show enc none = -1 from rfl)]
          rfl
        | some j =>
          have hj := hI j rfl
          rw [if_neg (show ¬ enc (some j) = -1 by show ¬ nI j = -1; rw [eq_i, nI_toInt (by omega)]; have : (-1 : Int32).toInt = -1 := rfl; omega)]
          show (if inb (nI k) 8 = true then (if inb (nI j) 8 = true then (if hp 102 (nI k).toNatClampNeg ≤ hp 102 (nI j).toNatClampNeg then _ else _) else _) else _) = f_Mo_order_L27 v1 (nI g) v4 K n hp (enc (if (nd hp k).toInt ≤ (nd hp j).toInt then some j else some k)) (nI (k + 1))
          rw [if_pos (inb_n (by omega) (by omega)), if_pos (inb_n (by omega) (by omega)), cl_n (by omega), cl_n (by omega)]
          have r1 := h.2.2.2.1 k hk
          have r2 := h.2.2.2.1 j (by omega)
          have e5 : (500 : Int32).toInt = 500 := rfl
          have d1 : (nd hp k).toInt = (hp 102 k).toInt - 500 := by unfold nd; rw [sub_i (by rw [e5]; omega), e5]
          have d2 : (nd hp j).toInt = (hp 102 j).toInt - 500 := by unfold nd; rw [sub_i (by rw [e5]; omega), e5]
          by_cases hc : hp 102 k ≤ hp 102 j
          · rw [if_pos hc, if_pos (by rw [le_i] at hc; omega)]
          · rw [if_neg hc, if_neg (by rw [le_i] at hc; omega)]
            rfl
    · intro j hj
      unfold slg at hj
      by_cases hq : g.testBit k = true
      · rw [if_pos hq] at hj
        have := hI j hj
        omega
      · rw [if_neg hq] at hj
        cases o with
        | none => cases hj; omega
        | some i =>
          have hi := hI i rfl
          replace hj : (if (nd hp k).toInt ≤ (nd hp i).toInt then some i else some k) = some j := hj
          split at hj
          · cases hj; omega
          · cases hj; omega
  · intro n o _
    show f_Mo_order_L27 v1 (nI g) v4 K (n + 1) hp (enc o) (nI P) = _
    rw [f_Mo_order_L27, h.2.2.1.1, if_pos (by exact n_le P P (by omega) (by omega))]
/-- n parts are gone, the first n of the order -/
def Gn (nd : Nat → Int32) (P n g : Nat) : Prop := g < 2 ^ P ∧ cntb (fun j => g.testBit j) P = n ∧ ∀ j j', j < P → j' < P → g.testBit j = true → ¬ g.testBit j' = true → bf nd j j' = true
theorem Gn_step {nd : Nat → Int32} {P n g : Nat} (h : Gn nd P n g) (hn : n < P) : ∃ l, sel nd g P = some l ∧ l < P ∧ rk nd P l = n ∧ Gn nd P (n + 1) (g ||| 2 ^ l) := by
  obtain ⟨h1, h2, h3⟩ := h
  rcases sel_spec nd g P with ⟨q1, q2⟩ | ⟨l, q1, q2, q3, q4⟩
  · exfalso
    have : cntb (fun _ => true) P ≤ cntb (fun j => g.testBit j) P := cntb_le (fun k hk _ => q2 k hk)
    have hall : ∀ P, cntb (fun _ => true) P = P := by
      intro P
      induction P with
      | zero => rfl
      | succ P ih => unfold cntb; rw [ih, if_pos rfl]
    rw [hall] at this
    omega
  · refine ⟨l, q1, q2, ?_, ?_, ?_, ?_⟩
    · rw [← h2]
      refine cntb_cong (fun j hj => ?_)
      constructor
      · intro hb
        cases hg : g.testBit j with
        | true => rfl
        | false =>
          exfalso
          by_cases e : j = l
          · subst e; rw [bf_iff] at hb; omega
          · have := q4 j hj (by rw [hg]; decide) e
            rw [bf_iff] at *; omega
      · intro hg
        exact h3 j l hj q2 hg q3
    · exact Nat.or_lt_two_pow h1 (Nat.pow_lt_pow_right (by decide) q2)
    · rw [← h2]
      refine cntb_add q2 q3 (fun k => ?_)
      show (g ||| 2 ^ l).testBit k = true ↔ _
      rw [Nat.testBit_or, Bool.or_eq_true, Nat.testBit_two_pow, decide_eq_true_eq]
      constructor
      · rintro (q | q)
        · exact Or.inl q
        · exact Or.inr q.symm
      · rintro (q | q)
        · exact Or.inl q
        · exact Or.inr q.symm
    · intro j j' hj hj' hb hb'
      rw [Nat.testBit_or, Bool.or_eq_true, Nat.testBit_two_pow, decide_eq_true_eq] at hb hb'
      have n1 : ¬ g.testBit j' = true := fun q => hb' (Or.inl q)
      have n2 : j' ≠ l := fun q => hb' (Or.inr q.symm)
      rcases hb with hb | hb
      · exact h3 j j' hj hj' hb n1
      · subst hb
        exact q4 j' hj' n1 n2
theorem m_order_run {hp : HP} {b P Cn Tn : Nat} (h : Rbr hp b P Cn Tn) {v : Int32} (K : HP → Int32 → Option (Int32 × HP)) {i : Nat} (hv : v = nI i) (hi : i < P) : ∀ d m n g last, n + d = i + 1 → d < m → Gn (nd hp) P n g → (n = 0 ∨ ∃ l, l < P ∧ last = nI l ∧ rk (nd hp) P l + 1 = n) → ∃ l, l < P ∧ rk (nd hp) P l = i ∧ f_Mo_order_L7 v K m hp (nI g) last (nI n) = K hp (nI l) := by
  have p8 := h.1.1
  have h8 := pow8 p8
  subst hv
  intro d
  induction d with
  | zero =>
    intro m n g last hn hm hG hl
    obtain ⟨m, rfl⟩ : ∃ k, m = k + 1 := ⟨m - 1, by omega⟩
    rcases hl with hl | ⟨l, hl, rfl, hr⟩
    · omega
    · refine ⟨l, hl, by omega, ?_⟩
      rw [f_Mo_order_L7, if_pos (by exact n_lt i n (by omega) (by omega))]
  | succ d ih =>
    intro m n g last hn hm hG hl
    obtain ⟨m, rfl⟩ : ∃ k, m = k + 1 := ⟨m - 1, by omega⟩
    obtain ⟨l, e1, e2, e3, e4⟩ := Gn_step hG (by omega)
    have hg := hG.1
    rw [f_Mo_order_L7, if_neg (by exact n_nlt i n (by omega) (by omega)), h.2.2.1.1, if_neg (by exact n_nle P n (by omega) (by omega)), m_sel h _ _ (by omega), e1]
    show ∃ l_1, l_1 < P ∧ rk (nd hp) P l_1 = i ∧ f_Mo_order_L7 (nI i) K m hp (nI g ||| ((1 : Int32) <<< (nI l &&& 31))) (nI l) (nI n + 1) = K hp (nI l_1)
    rw [n_shl l (by omega), n_or, nI_s]
    exact ih m (n + 1) (g ||| 2 ^ l) (nI l) (by omega) (by omega) e4 (Or.inr ⟨l, e2, rfl, by omega⟩)
theorem m_order_far {hp : HP} {b P Cn Tn : Nat} (h : Rbr hp b P Cn Tn) {v : Int32} (K : HP → Int32 → Option (Int32 × HP)) (hv : ¬ (0 ≤ v.toInt ∧ v.toInt < P)) : ∀ d m n g last, n + d = P → d < m → Gn (nd hp) P n g → ∃ last', f_Mo_order_L7 v K m hp (nI g) last (nI n) = K hp last' := by
  have p8 := h.1.1
  have h8 := pow8 p8
  intro d
  induction d with
  | zero =>
    intro m n g last hn hm hG
    obtain ⟨m, rfl⟩ : ∃ k, m = k + 1 := ⟨m - 1, by omega⟩
    rw [f_Mo_order_L7]
    by_cases c : v < nI n
    · rw [if_pos c]; exact ⟨_, rfl⟩
    · rw [if_neg c, h.2.2.1.1, if_pos (by exact n_le P n (by omega) (by omega))]; exact ⟨_, rfl⟩
  | succ d ih =>
    intro m n g last hn hm hG
    obtain ⟨m, rfl⟩ : ∃ k, m = k + 1 := ⟨m - 1, by omega⟩
    obtain ⟨l, e1, e2, e3, e4⟩ := Gn_step hG (by omega)
    have hg := hG.1
    rw [f_Mo_order_L7]
    by_cases c : v < nI n
    · rw [if_pos c]; exact ⟨_, rfl⟩
    · rw [if_neg c, h.2.2.1.1, if_neg (by exact n_nle P n (by omega) (by omega)), m_sel h _ _ (by omega), e1]
      show ∃ last', f_Mo_order_L7 v K m hp (nI g ||| ((1 : Int32) <<< (nI l &&& 31))) (nI l) (nI n + 1) = K hp last'
      rw [n_shl l (by omega), n_or, nI_s]
      exact ih m (n + 1) (g ||| 2 ^ l) (nI l) (by omega) (by omega) e4
theorem Gn_0 (nd : Nat → Int32) (P : Nat) : Gn nd P 0 0 := by
  refine ⟨Nat.two_pow_pos P, ?_, fun j j' _ _ h => ?_⟩
  · induction P with
    | zero => rfl
    | succ P ih => unfold cntb; rw [ih]; simp
  · simp at h
theorem S_order {hp : HP} (h : R hp) (a : Int32) : Sim hp (fun x => f_BA_order x a) (fun x => f_Mo_order x a) := by
  have hR := h
  obtain ⟨b, b', P, Cn, Tn, hr, htx, hbr, hst, him, hpa, hsl⟩ := h
  have p8 := hbr.1.1
  by_cases ha : 0 ≤ a.toInt ∧ a.toInt < P
  · obtain ⟨i, hi, rfl⟩ := of_rg (x := a) (n := P) ha.1 ha.2
    obtain ⟨l, hl, e1, e2⟩ := m_order_run hbr (fun hp14 w13 => ((f_Mo_in hp14 (nI i).toInt64 (0 : Int64) (((hp14 99 3) - (1 : Int32))).toInt64).bind fun p16 => if p16.1 = 0 then some ((-1 : Int32), p16.2) else some (w13, p16.2))) rfl hi (i + 1) FU 0 0 (-1) (by omega) (FU_gt (by omega)) (Gn_0 _ _) (Or.inl rfl)
    refine Sim.pure (nI l) ?_ ?_ hR
    · show f_BA_order hp (nI i) = _
      rw [x_order hr hbr, ← e1]
      exact x_order_at p8 hl P 0 (by omega) (by omega)
    · show f_Mo_order hp (nI i) = _
      unfold f_Mo_order
      refine e2.trans ?_
      show ((f_Mo_in hp (nI i).toInt64 0 (hp 99 3 - 1).toInt64).bind fun p16 => if p16.1 = 0 then some ((-1 : Int32), p16.2) else some (nI l, p16.2)) = _
      rw [hbr.2.2.1.1, m_in hp (nI i) 0 (nI P - 1) (A := 0) rfl rfl, wi_in (by omega) hi]
      rfl
  · obtain ⟨l, e2⟩ := m_order_far hbr (v := a) (fun hp14 w13 => ((f_Mo_in hp14 a.toInt64 (0 : Int64) (((hp14 99 3) - (1 : Int32))).toInt64).bind fun p16 => if p16.1 = 0 then some ((-1 : Int32), p16.2) else some (w13, p16.2))) ha P FU 0 0 (-1) (by omega) (FU_gt (by omega)) (Gn_0 _ _)
    refine Sim.pure (-1) ?_ ?_ hR
    · show f_BA_order hp a = _
      rw [x_order hr hbr]
      refine x_order_no (fun k hk q => ha ?_) P 0 (by omega)
      have := rk_lt (nd := nd hp) hk
      rw [← q, nI_toInt (by omega)]; omega
    · show f_Mo_order hp a = _
      unfold f_Mo_order
      refine e2.trans ?_
      show ((f_Mo_in hp a.toInt64 0 (hp 99 3 - 1).toInt64).bind fun p16 => if p16.1 = 0 then some ((-1 : Int32), p16.2) else some (l, p16.2)) = _
      rw [hbr.2.2.1.1, m_in hp a 0 (nI P - 1) (A := 0) rfl rfl]
      rcases wi_n a (N := P) (by omega) with e | ⟨k, hk, rfl, e⟩
      · rw [e]; rfl
      · exact absurd (by rw [nI_toInt (by omega)]; omega) ha
