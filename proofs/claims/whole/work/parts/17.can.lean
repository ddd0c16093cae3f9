theorem n_or (a b : Nat) : nI a ||| nI b = nI (a ||| b) := by
  apply Int32.toBitVec_inj.mp
  show BitVec.ofNat 32 a ||| BitVec.ofNat 32 b = BitVec.ofNat 32 (a ||| b)
  apply BitVec.eq_of_getLsbD_eq
  intro i hi
  simp [BitVec.getLsbD_ofNat, hi]
theorem n_shl : ∀ k, k < 8 → (1 : Int32) <<< (nI k &&& 31) = nI (2 ^ k) := by decide
theorem n_shr : ∀ k, k < 8 → ((nI k &&& 31).toBitVec.smod 32).toNat = k := by decide
theorem n_bit {n k : Nat} (hn : n < 256) (hk : k < 8) : ((nI n >>> (nI k &&& 31)) &&& (1 : Int32)) = 1 ↔ n.testBit k = true := by
  rw [pk_shrN (by omega) _ k (n_shr k hk), pk_andN (k := 1) (Nat.lt_of_le_of_lt (Nat.div_le_self _ _) (by omega)) (by decide)]
  rw [Nat.testBit_eq_decide_div_mod_eq]
  have h2 : n / 2 ^ k % 2 ^ 1 < 2 := Nat.mod_lt _ (by decide)
  constructor
  · intro h
    have := (nI_eq (by omega) (by decide : 1 < 2 ^ 31)).mp (h : nI (n / 2 ^ k % 2 ^ 1) = nI 1)
    simpa using this
  · intro h
    have : n / 2 ^ k % 2 ^ 1 = 1 := by simpa using h
    rw [this]
    rfl
/-- the set of parts as a number -/
def psN (nd : Nat → Int32) (v : Int32) : Nat → Nat
  | 0 => 0
  | k + 1 => if v < nd k then psN nd v k else psN nd v k ||| 2 ^ k
theorem ps_N (nd : Nat → Int32) (v : Int32) : ∀ P, P ≤ 8 → ps nd v P = nI (psN nd v P)
  | 0, _ => rfl
  | P + 1, h => by
    unfold ps
    rw [it_succ]
    show pset nd v (0 + P) (ps nd v P) = _
    rw [ps_N nd v P (by omega), Nat.zero_add]
    unfold pset
    rw [psN, n_shl P (by omega), n_or]
    split <;> rfl
theorem psN_lt (nd : Nat → Int32) (v : Int32) : ∀ P, psN nd v P < 2 ^ P
  | 0 => Nat.lt_succ_self 0
  | P + 1 => by
    have := psN_lt nd v P
    rw [psN]
    split
    · rw [Nat.pow_succ]; omega
    · exact Nat.or_lt_two_pow (by rw [Nat.pow_succ]; omega) (by rw [Nat.pow_succ]; have := Nat.two_pow_pos P; omega)
theorem psN_bit (nd : Nat → Int32) (v : Int32) : ∀ P k, (psN nd v P).testBit k = true ↔ k < P ∧ ¬ v < nd k
  | 0, k => by simp [psN]
  | P + 1, k => by
    have ih := psN_bit nd v P k
    rw [psN]
    split
    · rename_i h
      rw [ih]
      constructor
      · rintro ⟨h1, h2⟩; exact ⟨by omega, h2⟩
      · rintro ⟨h1, h2⟩
        refine ⟨?_, h2⟩
        rcases Nat.lt_or_ge k P with q | q
        · exact q
        · have : k = P := by omega
          subst this
          exact absurd h h2
    · rename_i h
      rw [Nat.testBit_or, Bool.or_eq_true, ih, Nat.testBit_two_pow]
      constructor
      · rintro (⟨h1, h2⟩ | h1)
        · exact ⟨by omega, h2⟩
        · have : P = k := by simpa using h1
          subst this
          exact ⟨by omega, h⟩
      · rintro ⟨h1, h2⟩
        rcases Nat.lt_or_ge k P with q | q
        · exact Or.inl ⟨q, h2⟩
        · exact Or.inr (by simp; omega)
theorem an0 (n S : Nat) : (nI n &&& (nI S ^^^ (-1 : Int32))) = 0 ↔ ∀ k, k < 32 → n.testBit k = true → S.testBit k = true := by
  rw [← Int32.toBitVec_inj]
  have e : (nI n &&& (nI S ^^^ (-1 : Int32))).toBitVec = BitVec.ofNat 32 n &&& (BitVec.ofNat 32 S ^^^ BitVec.allOnes 32) := rfl
  rw [e]
  have g : ∀ i, i < 32 → BitVec.getLsbD (BitVec.ofNat 32 n &&& (BitVec.ofNat 32 S ^^^ BitVec.allOnes 32)) i = (n.testBit i && !(S.testBit i)) := by
    intro i hi
    rw [BitVec.getLsbD_and, BitVec.getLsbD_xor, BitVec.getLsbD_ofNat, BitVec.getLsbD_ofNat, BitVec.getLsbD_allOnes, decide_eq_true hi]
    simp
  constructor
  · intro h k hk hb
    have h2 := g k hk
    rw [h, hb] at h2
    cases hS : S.testBit k with
    | true => rfl
    | false =>
      rw [hS] at h2
      have h3 : BitVec.getLsbD (0 : Int32).toBitVec k = false := by
        show BitVec.getLsbD (0#32) k = false
        simp
      rw [h3] at h2
      cases h2
  · intro h
    apply BitVec.eq_of_getLsbD_eq
    intro i hi
    rw [g i hi]
    have h3 : BitVec.getLsbD (0 : Int32).toBitVec i = false := by
      show BitVec.getLsbD (0#32) i = false
      simp
    rw [h3]
    cases hn : n.testBit i with
    | false => rfl
    | true => rw [h i hi hn]; rfl
/-- all parts of n are there by the balance -/
def dnb (nd : Nat → Int32) (n P : Nat) (v : Int32) : Bool := (List.range P).all (fun k => !(n.testBit k) || !(decide (v < nd k)))
theorem dnb_iff (nd : Nat → Int32) (n P : Nat) (v : Int32) : dnb nd n P v = true ↔ ∀ k, k < P → n.testBit k = true → ¬ v < nd k := by
  unfold dnb
  simp only [List.all_eq_true, List.mem_range, Bool.or_eq_true, Bool.not_eq_true', decide_eq_false_iff_not]
  constructor
  · intro h k hk hb
    rcases h k hk with h1 | h1
    · rw [hb] at h1; cases h1
    · exact h1
  · intro h k hk
    cases hb : n.testBit k with
    | false => exact Or.inl rfl
    | true => exact Or.inr (h k hk hb)
def zi (c : Bool) : Int32 := if c = true then 1 else 0
theorem pow8 {P : Nat} (h : P ≤ 8) : 2 ^ P ≤ 256 := by
  have := Nat.pow_le_pow_right (n := 2) (by decide) h
  simpa using this
theorem can_m {nd : Nat → Int32} {v : Int32} {n P : Nat} (hP : P ≤ 8) (hn : n < 2 ^ P) : ((nI n &&& (ps nd v P ^^^ (-1 : Int32))) = 0) ↔ dnb nd n P v = true := by
  rw [ps_N nd v P hP, an0, dnb_iff]
  constructor
  · intro h k hk hb
    exact ((psN_bit nd v P k).mp (h k (by omega) hb)).2
  · intro h k _ hb
    have hkP : k < P := by
      rcases Nat.lt_or_ge k P with q | q
      · exact q
      · exact absurd (Nat.testBit_lt_two_pow (Nat.lt_of_lt_of_le hn (Nat.pow_le_pow_right (by decide) q))) (by rw [hb]; decide)
    exact (psN_bit nd v P k).mpr ⟨hkP, h k hkP hb⟩
def needg (nd : Nat → Int32) (tk : Int32) : Nat → Int32 → Int32 := fun k s => if ((tk >>> (nI k &&& 31)) &&& (1 : Int32)) = 1 then mx s (nd k) else s
theorem needg_le {nd : Nat → Int32} {n : Nat} (hn : n < 256) (v : Int32) (s0 : Int32) : ∀ P, P ≤ 8 → (¬ v < it (needg nd (nI n)) 0 P s0 ↔ ¬ v < s0 ∧ ∀ k, k < P → n.testBit k = true → ¬ v < nd k)
  | 0, _ => by
    show ¬ v < s0 ↔ _
    constructor
    · intro h; exact ⟨h, fun k hk => by omega⟩
    · intro h; exact h.1
  | P + 1, h => by
    rw [it_succ, Nat.zero_add]
    have ih := needg_le (nd := nd) hn v s0 P (by omega)
    have hb := n_bit (n := n) (k := P) hn (by omega)
    show ¬ v < needg nd (nI n) P _ ↔ _
    unfold needg
    by_cases hB : n.testBit P = true
    · rw [if_pos (hb.mpr hB)]
      have e : ∀ a b : Int32, (¬ v < mx a b) ↔ (¬ v < a ∧ ¬ v < b) := fun a b => by rw [lt_i, lt_i, lt_i, mx_i]; omega
      rw [e]
      change ¬ v < it (needg nd (nI n)) 0 P s0 ∧ _ ↔ _
      rw [ih]
      constructor
      · rintro ⟨⟨h1, h2⟩, h3⟩
        refine ⟨h1, fun k hk hk2 => ?_⟩
        rcases Nat.lt_or_ge k P with q | q
        · exact h2 k q hk2
        · have : k = P := by omega
          subst this
          exact h3
      · rintro ⟨h1, h2⟩
        exact ⟨⟨h1, fun k hk => h2 k (by omega)⟩, h2 P (by omega) hB⟩
    · rw [if_neg (fun h => hB (hb.mp h))]
      change ¬ v < it (needg nd (nI n)) 0 P s0 ↔ _
      rw [ih]
      constructor
      · rintro ⟨h1, h2⟩
        refine ⟨h1, fun k hk hk2 => ?_⟩
        rcases Nat.lt_or_ge k P with q | q
        · exact h2 k q hk2
        · have : k = P := by omega
          subst this
          exact absurd hk2 hB
      · rintro ⟨h1, h2⟩
        exact ⟨h1, fun k hk => h2 k (by omega)⟩
def tkn (hp : HP) (t : Nat) : Nat := (hp 105 t).toNatClampNeg
theorem tkn_eq {hp : HP} {b P Cn Tn : Nat} (h : Rbr hp b P Cn Tn) {t : Nat} (ht : t < Tn) : tkn hp t < 2 ^ P ∧ hp 105 t = nI (tkn hp t) ∧ hp (b + 5) t = nI (tkn hp t) := by
  obtain ⟨h1, n, hn, h2⟩ := h.2.2.2.2.2 t ht
  have h8 := pow8 h.1.1
  unfold tkn
  rw [h1, h2, nI_clamp (by omega)]
  exact ⟨hn, rfl, rfl⟩
theorem x_needOf {hp : HP} {b P Cn Tn : Nat} (h : Rbr hp b P Cn Tn) {t : Nat} (ht : t < Tn) : f_Br_needOf hp b (nI t) = some (it (needg (nd hp) (nI (tkn hp t))) 0 P (-100000), hp) := by
  have p8 := h.1.1
  have t6 := h.1.2.2
  unfold f_Br_needOf
  refine (for_up (fun n k s => f_Br_needOf_L5 b (nI t) (fun hp5 w4 => some (w4, hp5)) n hp s (nI k)) P (needg (nd hp) (nI (tkn hp t))) (fun s => some (s, hp)) (fun _ _ => True) ?_ ?_ P 0 FU (-100000) (by omega) (FU_gt (by omega)) trivial).1
  · intro n k s hk _
    refine ⟨?_, trivial⟩
    show f_Br_needOf_L5 b (nI t) _ (n + 1) hp s (nI k) = _
    rw [f_Br_needOf_L5, h.2.1.1, if_neg (by exact n_nle P k (by omega) (by omega)), if_pos (inb_n (by omega) (by omega)), cl_n (by omega), (tkn_eq h ht).2.2]
    unfold needg
    split
    · rw [if_pos (inb_n (by omega) (by omega)), cl_n (by omega), (h.2.2.2.1 k hk).1, nI_1]; rfl
    · rw [nI_1]
  · intro n s _
    show f_Br_needOf_L5 b (nI t) _ (n + 1) hp s (nI P) = _
    rw [f_Br_needOf_L5, h.2.1.1, if_pos (by exact n_le P P (by omega) (by omega))]
theorem x_do {hp : HP} {b P Cn Tn : Nat} (h : Rbr hp b P Cn Tn) {t : Nat} (ht : t < Tn) {v : Int32} (hv : -100000 ≤ v.toInt) : f_Br_isDoable hp b (nI t) v = some (zi (dnb (nd hp) (tkn hp t) P v), hp) := by
  unfold f_Br_isDoable
  rw [x_needOf h ht]
  simp only [Option.bind_some]
  have p8 := h.1.1
  have hb := needg_le (nd := nd hp) (n := tkn hp t) (by have := pow8 p8; have := (tkn_eq h ht).1; omega) v (-100000) P p8
  have h0 : ¬ v < (-100000 : Int32) := by rw [lt_i]; have : (-100000 : Int32).toInt = -100000 := rfl; omega
  unfold zi
  by_cases hd : dnb (nd hp) (tkn hp t) P v = true
  · rw [if_pos hd, if_neg (hb.mpr ⟨h0, (dnb_iff _ _ _ _).mp hd⟩)]
  · rw [if_neg hd, if_pos (Classical.not_not.mp (fun hn => hd ((dnb_iff _ _ _ _).mpr (hb.mp hn).2)))]
theorem m_do {hp : HP} {b P Cn Tn : Nat} (h : Rbr hp b P Cn Tn) {t : Nat} (ht : t < Tn) (v : Int32) : f_Mo_canBy hp v (nI t) = some (zi (dnb (nd hp) (tkn hp t) P v), hp) := by
  have t6 := h.1.2.2
  unfold f_Mo_canBy
  rw [if_pos (inb_n (by omega) (by decide)), cl_n (by omega), m_ps h, (tkn_eq h ht).2.1]
  simp only [Option.bind_some]
  have hc := can_m (nd := nd hp) (v := v) h.1.1 (tkn_eq h ht).1
  unfold zi
  by_cases hd : dnb (nd hp) (tkn hp t) P v = true
  · rw [if_pos hd, if_pos (hc.mpr hd)]
  · rw [if_neg hd, if_neg (fun q => hd (hc.mp q))]
theorem dnb_cla {hp : HP} {b P Cn Tn : Nat} (h : Rbr hp b P Cn Tn) (n : Nat) (v : Int32) : dnb (nd hp) n P (cla v) = dnb (nd hp) n P v := by
  have hr := nd_rg h
  have e : dnb (nd hp) n P (cla v) = true ↔ dnb (nd hp) n P v = true := by
    rw [dnb_iff, dnb_iff]
    constructor
    · intro q k hk hb hl
      refine q k hk hb ?_
      have := hr k hk
      rw [lt_i, cla_i]; rw [lt_i] at hl; omega
    · intro q k hk hb hl
      refine q k hk hb ?_
      have := hr k hk
      rw [lt_i, cla_i] at hl; rw [lt_i]; omega
  cases h1 : dnb (nd hp) n P v with
  | true => exact e.mpr h1
  | false =>
    cases h2 : dnb (nd hp) n P (cla v) with
    | false => rfl
    | true => rw [e.mp h2] at h1; cases h1
theorem zi_0 (c : Bool) : (zi c = 0) ↔ c = false := by cases c <;> decide
theorem zi_ite (c : Bool) {α : Type} (x y : α) : (if zi c = 0 then x else y) = if c = true then y else x := by cases c <;> rfl
theorem S_can {hp : HP} (h : R hp) (a t : Int32) : Sim hp (fun x => f_BA_can x a t) (fun x => f_Mo_can x a t) := by
  have hR := h
  obtain ⟨b, b', P, Cn, Tn, hr, htx, hbr, hst, him, hpa, hsl⟩ := h
  obtain ⟨ib, eb⟩ := isB_b hr
  have c5 := hbr.1.2.1
  have t6 := hbr.1.2.2
  rcases wi_n a (N := Cn) (by omega) with e1 | ⟨c, hc, rfl, e1⟩
  · refine Sim.pure (-1000000001) ?_ ?_ hR
    · simp only [f_BA_can, eb, ib, x_hasC hbr.2.1.2.1, e1, Option.bind_some, if_true]
    · simp only [f_Mo_can, m_isC hbr.2.2.1.2.1, e1, Option.bind_some, if_true]
  · rcases wi_n t (N := Tn) (by omega) with e2 | ⟨t, ht, rfl, e2⟩
    · refine Sim.pure (-1000000001) ?_ ?_ hR
      · simp only [f_BA_can, eb, ib, x_hasC hbr.2.1.2.1, e1, x_hasT hbr.2.1.2.2, e2, Option.bind_some, if_true]
        rw [if_neg (by decide)]
      · simp only [f_Mo_can, m_isC hbr.2.2.1.2.1, e1, m_isT hbr.2.2.1.2.2, e2, Option.bind_some, if_true]
        rw [if_neg (by decide)]
    · have hba := hst.1.2.1 c (by omega)
      refine Sim.pure (zi (dnb (nd hp) (tkn hp t) P (hp 4 c))) ?_ ?_ hR
      · simp only [f_BA_can, eb, ib, x_hasC hbr.2.1.2.1, e1, x_hasT hbr.2.1.2.2, e2, Option.bind_some, if_true]
        rw [if_neg (by decide), if_neg (by decide), if_pos (inb_n (by omega) (by omega)), cl_n (by omega), x_do hbr ht (by omega)]
        simp only [Option.bind_some, zi_ite]
        unfold zi
        split <;> rfl
      · simp only [f_Mo_can, m_isC hbr.2.2.1.2.1, e1, m_isT hbr.2.2.1.2.2, e2, Option.bind_some]
        rw [if_neg (by decide), if_neg (by decide), n_1, if_pos (inb_n (by omega) (by omega)), cl_n (by omega), m_do hbr ht, ← Rst_ba hst (by omega)]
        simp only [Option.bind_some, zi_ite]
        unfold zi
        split <;> rfl
