/-! Numbers, heaps, loops. -/
theorem up_ap (hp : HP) (k j : Nat) (v : Int32) (q : Nat) : up hp k j v q = if q = k then upd (hp k) j v else hp q := rfl
theorem setc_ap (hp : HP) (k : Nat) (f : Nat → Int32) (q : Nat) : setc hp k f q = if q = k then f else hp q := rfl
theorem upd_ap (f : Nat → Int32) (k : Nat) (x : Int32) (j : Nat) : upd f k x j = if j = k then x else f j := rfl
theorem le_i (a b : Int32) : a ≤ b ↔ a.toInt ≤ b.toInt := Int32.le_iff_toInt_le
theorem lt_i (a b : Int32) : a < b ↔ a.toInt < b.toInt := Int32.lt_iff_toInt_lt
theorem eq_i (a b : Int32) : a = b ↔ a.toInt = b.toInt := Int32.toInt_inj.symm
theorem rg_i (a : Int32) : -2147483648 ≤ a.toInt ∧ a.toInt ≤ 2147483647 := by
  have h1 := Int32.le_toInt a
  have h2 := Int32.toInt_lt a
  omega
theorem bm_id {x : Int} (h : -2147483648 ≤ x) (h2 : x ≤ 2147483647) : x.bmod (2 ^ 32) = x := by
  rw [Int.bmod_eq_of_le] <;> omega
theorem add_i {a b : Int32} (h : -2147483648 ≤ a.toInt + b.toInt ∧ a.toInt + b.toInt ≤ 2147483647) : (a + b).toInt = a.toInt + b.toInt := by
  rw [Int32.toInt_add]; exact bm_id h.1 h.2
theorem sub_i {a b : Int32} (h : -2147483648 ≤ a.toInt - b.toInt ∧ a.toInt - b.toInt ≤ 2147483647) : (a - b).toInt = a.toInt - b.toInt := by
  rw [Int32.toInt_sub]; exact bm_id h.1 h.2
theorem mul_i {a b : Int32} (h : -2147483648 ≤ a.toInt * b.toInt ∧ a.toInt * b.toInt ≤ 2147483647) : (a * b).toInt = a.toInt * b.toInt := by
  rw [Int32.toInt_mul]; exact bm_id h.1 h.2
theorem neg_i {a : Int32} (h : -2147483647 ≤ a.toInt) : (-a).toInt = -a.toInt := by
  have h2 := rg_i a
  rw [Int32.toInt_neg]; exact bm_id (by omega) (by omega)
theorem inb_i (i : Int32) (n : Nat) : inb i n = true ↔ 0 ≤ i.toInt ∧ i.toInt < n := by unfold inb; exact decide_eq_true_iff
theorem inb_n {k n : Nat} (h : k < n) (hn : n < 2 ^ 31) : inb (nI k) n = true := by
  rw [inb_i, nI_toInt (by omega)]; omega
theorem cl_n {k : Nat} (h : k < 2 ^ 31) : (nI k).toNatClampNeg = k := nI_clamp h
theorem lit_n (n : Nat) : (OfNat.ofNat n : Int32) = nI n := rfl
theorem of_rg {x : Int32} {n : Nat} (h0 : 0 ≤ x.toInt) (h1 : x.toInt < n) : ∃ k : Nat, k < n ∧ x = nI k := by
  obtain ⟨k, hk⟩ := Int.eq_ofNat_of_zero_le h0
  have h2 := rg_i x
  refine ⟨k, by omega, Int32.toInt_inj.mp ?_⟩
  rw [hk, nI_toInt (by omega)]
theorem mx_i (a b : Int32) : (mx a b).toInt = max a.toInt b.toInt := by
  unfold mx
  split
  · rename_i h; rw [lt_i] at h; omega
  · rename_i h; rw [lt_i] at h; omega
theorem mn_i (a b : Int32) : (mn a b).toInt = min a.toInt b.toInt := by
  unfold mn
  split
  · rename_i h; rw [lt_i] at h; omega
  · rename_i h; rw [lt_i] at h; omega
/-- the bounded balance -/
def cla (x : Int32) : Int32 := mx (-9999) (mn 9999 x)
theorem cla_i (x : Int32) : (cla x).toInt = max (-9999) (min 9999 x.toInt) := by
  unfold cla; rw [mx_i, mn_i]; rfl
theorem x_bounded (hp : HP) (x : Int32) : f_BA_bounded hp x = some (cla x, hp) := rfl
theorem m_bounded (hp : HP) (x : Int32) : f_Mo_bounded hp x = some (cla x, hp) := by
  unfold f_Mo_bounded
  have e1 : (9999 : Int32).toInt = 9999 := rfl
  have e2 : (-9999 : Int32).toInt = -9999 := rfl
  by_cases h1 : x ≤ 9999
  · rw [if_pos h1]
    rw [le_i, e1] at h1
    by_cases h2 : -9999 ≤ x
    · rw [if_pos h2]
      rw [le_i, e2] at h2
      have : cla x = x := by rw [eq_i, cla_i]; omega
      rw [this]
    · rw [if_neg h2]
      rw [le_i, e2] at h2
      have : cla x = -9999 := by rw [eq_i, cla_i, e2]; omega
      rw [this]
  · rw [if_neg h1]
    rw [le_i, e1] at h1
    have : cla x = 9999 := by rw [eq_i, cla_i, e1]; omega
    rw [this]
/-- within, in -/
def wi (x a b : Int32) : Int32 := if x < a then 0 else if b < x then 0 else 1
theorem x_within (hp : HP) (x a b : Int32) : f_BA_within hp x a b = some (wi x a b, hp) := by
  unfold f_BA_within wi
  split
  · rfl
  · split <;> rfl
theorem lg_lt (x y : Int64) : lg_cmp x y < 0 ↔ x < y := by
  have h := lg_cmp_ge x y
  constructor
  · intro h1
    rcases Int64.lt_or_le x y with h2 | h2
    · exact h2
    · have h3 := h.mpr h2
      rw [lt_i] at h1; rw [le_i] at h3; omega
  · intro h1
    rcases Int32.lt_or_le (lg_cmp x y) 0 with h2 | h2
    · exact h2
    · have h3 := h.mp h2
      rw [Int64.lt_iff_toInt_lt] at h1; rw [Int64.le_iff_toInt_le] at h3; omega
theorem lg_gt (x y : Int64) : 0 < lg_cmp x y ↔ y < x := lg_cmp_gt x y
theorem wide_lt (a b : Int32) : a.toInt64 < b.toInt64 ↔ a < b := by
  rw [Int64.lt_iff_toInt_lt, lt_i, Int32.toInt_toInt64, Int32.toInt_toInt64]
theorem m_in (hp : HP) (x a b : Int32) {A B : Int64} (hA : A = a.toInt64) (hB : B = b.toInt64) : f_Mo_in hp x.toInt64 A B = some (wi x a b, hp) := by
  subst hA; subst hB
  unfold f_Mo_in wi
  by_cases h1 : x < a
  · rw [if_pos h1, if_pos ((lg_lt _ _).mpr ((wide_lt _ _).mpr h1))]
  · rw [if_neg h1, if_neg (fun h => h1 ((wide_lt _ _).mp ((lg_lt _ _).mp h)))]
    by_cases h2 : b < x
    · rw [if_pos h2, if_pos ((lg_gt _ _).mpr ((wide_lt _ _).mpr h2))]
    · rw [if_neg h2, if_neg (fun h => h2 ((wide_lt _ _).mp ((lg_gt _ _).mp h)))]
theorem wi_01 (x a b : Int32) : wi x a b = 0 ∨ wi x a b = 1 := by
  unfold wi
  split
  · exact Or.inl rfl
  · split
    · exact Or.inl rfl
    · exact Or.inr rfl
theorem rz_wi (x a b : Int32) (hp : HP) : rz (wi x a b) hp = some (wi x a b, hp) := by
  unfold rz; rw [if_pos (wi_01 x a b)]
theorem rz_0 (hp : HP) : rz 0 hp = some (0, hp) := rfl
theorem rz_1 (hp : HP) : rz 1 hp = some (1, hp) := rfl
/-- within literal bounds, or not -/
theorem wi_lit (x : Int32) {a b : Int32} : (wi x a b = 0 ∧ (x.toInt < a.toInt ∨ b.toInt < x.toInt)) ∨ (wi x a b = 1 ∧ a.toInt ≤ x.toInt ∧ x.toInt ≤ b.toInt) := by
  unfold wi
  by_cases h1 : x < a
  · rw [if_pos h1]; rw [lt_i] at h1; exact Or.inl ⟨rfl, Or.inl h1⟩
  · rw [if_neg h1]; rw [lt_i] at h1
    by_cases h2 : b < x
    · rw [if_pos h2]; rw [lt_i] at h2; exact Or.inl ⟨rfl, Or.inr h2⟩
    · rw [if_neg h2]; rw [lt_i] at h2; exact Or.inr ⟨rfl, by omega, by omega⟩
theorem nI_m1 {N : Nat} (h : N < 2 ^ 31) : (nI N - 1).toInt = (N : Int) - 1 := by
  rw [sub_i (by rw [nI_toInt h]; have : (1 : Int32).toInt = 1 := rfl; omega), nI_toInt h]; rfl
/-- a number of something that there is, or not -/
theorem wi_n (x : Int32) {N : Nat} (h : N < 2 ^ 31) : wi x 0 (nI N - 1) = 0 ∨ (∃ k, k < N ∧ x = nI k ∧ wi x 0 (nI N - 1) = 1) := by
  rcases @wi_lit x 0 (nI N - 1) with h1 | ⟨h1, h2, h3⟩
  · exact Or.inl h1.1
  · rw [nI_m1 h] at h3
    obtain ⟨k, hk, e⟩ := of_rg (n := N) h2 (by omega)
    exact Or.inr ⟨k, hk, e, h1⟩
theorem wi_in {N k : Nat} (h : N < 2 ^ 31) (hk : k < N) : wi (nI k) 0 (nI N - 1) = 1 := by
  rcases @wi_lit (nI k) 0 (nI N - 1) with ⟨_, h1⟩ | h1
  · rw [nI_m1 h, nI_toInt (by omega)] at h1
    have : (0 : Int32).toInt = 0 := rfl
    omega
  · exact h1.1
/-- loops that count up -/
def it {α : Type} (g : Nat → α → α) : Nat → Nat → α → α
  | _, 0, s => s
  | k, d + 1, s => it g (k + 1) d (g k s)
theorem it_cong {α : Type} {g g' : Nat → α → α} : ∀ (d k : Nat) (s : α), (∀ j s, k ≤ j → j < k + d → g j s = g' j s) → it g k d s = it g' k d s
  | 0, _, _, _ => rfl
  | d + 1, k, s, h => by
    unfold it
    rw [h k s (Nat.le_refl k) (by omega)]
    exact it_cong d (k + 1) _ (fun j s h1 h2 => h j s (by omega) (by omega))
theorem it_succ {α : Type} (g : Nat → α → α) : ∀ (d k : Nat) (s : α), it g k (d + 1) s = g (k + d) (it g k d s)
  | 0, _, _ => rfl
  | d + 1, k, s => by
    show it g (k + 1) (d + 1) (g k s) = _
    rw [it_succ g d (k + 1) (g k s)]
    show g (k + 1 + d) _ = g (k + (d + 1)) _
    rw [show k + 1 + d = k + (d + 1) by omega]
    rfl
theorem it_inv {α : Type} {g : Nat → α → α} (I : Nat → α → Prop) : ∀ (d k : Nat) (s : α), (∀ j s, k ≤ j → j < k + d → I j s → I (j + 1) (g j s)) → I k s → I (k + d) (it g k d s)
  | 0, _, _, _, h => h
  | d + 1, k, s, hs, h => by
    have := it_inv I d (k + 1) (g k s) (fun j s h1 h2 => hs j s (by omega) (by omega)) (hs k s (Nat.le_refl k) (by omega) h)
    rw [show k + 1 + d = k + (d + 1) by omega] at this
    exact this
theorem for_up {α β : Type} (loop : Nat → Nat → α → β) (N : Nat) (g : Nat → α → α) (fin : α → β) (I : Nat → α → Prop) (hs : ∀ n k s, k < N → I k s → loop (n + 1) k s = loop n (k + 1) (g k s) ∧ I (k + 1) (g k s)) (he : ∀ n s, I N s → loop (n + 1) N s = fin s) : ∀ d k n s, k + d = N → d < n → I k s → loop n k s = fin (it g k d s) ∧ I N (it g k d s) := by
  intro d
  induction d with
  | zero =>
    intro k n s hk hn hI
    obtain ⟨m, rfl⟩ : ∃ m, n = m + 1 := ⟨n - 1, by omega⟩
    have : k = N := by omega
    subst this
    exact ⟨he m s hI, hI⟩
  | succ d ih =>
    intro k n s hk hn hI
    obtain ⟨m, rfl⟩ : ∃ m, n = m + 1 := ⟨n - 1, by omega⟩
    obtain ⟨h1, h2⟩ := hs m k s (by omega) hI
    rw [h1]
    exact ih (k + 1) m (g k s) (by omega) (by omega) h2
/-- loops that count up, or leave -/
def itx {α β : Type} (ex : Nat → α → Option β) (g : Nat → α → α) (fin : α → β) : Nat → Nat → α → β
  | _, 0, s => fin s
  | k, d + 1, s => match ex k s with
    | some v => v
    | none => itx ex g fin (k + 1) d (g k s)
theorem for_ex {α β : Type} (loop : Nat → Nat → α → β) (N : Nat) (ex : Nat → α → Option β) (g : Nat → α → α) (fin : α → β) (I : Nat → α → Prop) (hs : ∀ n k s, k < N → I k s → loop (n + 1) k s = (match ex k s with | some v => v | none => loop n (k + 1) (g k s)) ∧ (ex k s = none → I (k + 1) (g k s))) (he : ∀ n s, I N s → loop (n + 1) N s = fin s) : ∀ d k n s, k + d = N → d < n → I k s → loop n k s = itx ex g fin k d s := by
  intro d
  induction d with
  | zero =>
    intro k n s hk hn hI
    obtain ⟨m, rfl⟩ : ∃ m, n = m + 1 := ⟨n - 1, by omega⟩
    have : k = N := by omega
    subst this
    exact he m s hI
  | succ d ih =>
    intro k n s hk hn hI
    obtain ⟨m, rfl⟩ : ∃ m, n = m + 1 := ⟨n - 1, by omega⟩
    obtain ⟨h1, h2⟩ := hs m k s (by omega) hI
    rw [h1]
    unfold itx
    cases hx : ex k s with
    | some v => rfl
    | none => exact ih (k + 1) m (g k s) (by omega) (by omega) (h2 hx)
theorem FU_gt {n : Nat} (h : n < 2900) : n < FU := by unfold FU; omega
