/-! The relation between the class's cells and the reference's. -/
/-- a standing (months, balances, debts) and a block of the reference's row -/
def SE (Cn : Nat) (mo : Int32) (ba de w : Nat → Int32) (o : Nat) : Prop :=
  mo = w o ∧ (∀ c, c < 5 → ba c = w (o + 1 + c) ∧ -9999 ≤ (ba c).toInt ∧ (ba c).toInt ≤ 9999) ∧ (∀ k, k < 25 → de k = w (o + 6 + k)) ∧ (∀ c d, c < 5 → d < 5 → de (5 * c + d) = - de (5 * d + c)) ∧ (∀ c d, c < 5 → d < 5 → Cn ≤ d → de (5 * c + d) = 0)
def Rr (hp : HP) (b b' : Nat) : Prop := ((b = 87 ∧ b' = 93) ∨ (b = 93 ∧ b' = 87)) ∧ hp 0 8 = nI b ∧ hp 0 9 = nI b' ∧ hp 0 10 = hp 99 16
def Rtx (hp : HP) : Prop := ∃ N, N ≤ 240 ∧ hp 1 1 = nI N ∧ hp 99 11 = nI N ∧ ∀ i, i < N → hp 2 i = hp 106 i ∧ 0 ≤ (hp 106 i).toInt ∧ (hp 106 i).toInt ≤ 255
def Rbr (hp : HP) (b P Cn Tn : Nat) : Prop := (P ≤ 8 ∧ Cn ≤ 5 ∧ Tn ≤ 6) ∧ (hp b 5 = nI P ∧ hp b 6 = nI Cn ∧ hp b 7 = nI Tn) ∧ (hp 99 3 = nI P ∧ hp 99 5 = nI Cn ∧ hp 99 8 = nI Tn) ∧ (∀ k, k < P → hp (b + 1) k = hp 102 k - 500 ∧ 0 ≤ (hp 102 k).toInt ∧ (hp 102 k).toInt ≤ 999) ∧ (∀ c, c < Cn → hp (b + 3) c = hp 103 c ∧ hp (b + 4) c = hp 104 c ∧ (0 ≤ (hp 103 c).toInt ∧ (hp 103 c).toInt ≤ 99) ∧ 0 ≤ (hp 104 c).toInt ∧ (hp 104 c).toInt ≤ 99) ∧ (∀ t, t < Tn → hp (b + 5) t = hp 105 t ∧ ∃ n, n < 2 ^ P ∧ hp 105 t = nI n)
def Rst (hp : HP) (Cn : Nat) : Prop := SE Cn (hp 3 2) (hp 4) (hp 5) (hp 100) 0 ∧ hp 0 11 = hp 100 31 ∧ 0 ≤ (hp 100 31).toInt
def Rim (hp : HP) (Cn : Nat) : Prop := ∀ i, i < 2 → (hp 86 i = 0 ∧ hp 101 i = 0) ∨ ((hp 86 i = 1 ∧ hp 101 i = 1) ∧ SE Cn (hp (79 + 3 * i) 2) (hp (80 + 3 * i)) (hp (81 + 3 * i)) (hp 100) (32 + 32 * i) ∧ hp 85 i = hp 100 (63 + 32 * i) ∧ 0 ≤ (hp 85 i).toInt)
def rg (nx ct j : Nat) : Nat := (nx + 20 - ct + j) % 20
def Rpa (hp : HP) (Cn : Nat) : Prop := ∃ nx ct, nx < 20 ∧ ct ≤ 20 ∧ hp 6 1 = nI nx ∧ hp 6 2 = nI ct ∧ hp 99 2 = nI ct ∧ ∀ j, j < ct → SE Cn (hp (8 + 3 * rg nx ct j) 2) (hp (9 + 3 * rg nx ct j)) (hp (10 + 3 * rg nx ct j)) (hp 100) (96 + 32 * j)
def Rsl (hp : HP) (P Cn Tn : Nat) : Prop := ∃ s m e z, (s ≤ 5 ∧ m ≤ 4 ∧ e ≤ 8 ∧ z ≤ 15) ∧ (hp 68 7 = nI s ∧ hp 68 8 = nI m ∧ hp 68 9 = nI e ∧ hp 68 10 = nI z) ∧ (hp 99 23 = nI s ∧ hp 99 25 = nI m ∧ hp 99 29 = nI e ∧ hp 99 32 = nI z) ∧ (∀ i, i < s → hp 69 i = hp 110 i ∧ 1 ≤ (hp 110 i).toInt ∧ (hp 110 i).toInt ≤ 999) ∧ (∀ i, i < m → hp 70 i = hp 111 i ∧ hp 71 i = hp 112 i ∧ (∃ t, t < Tn ∧ hp 111 i = nI t) ∧ ∃ k, k < 4 ∧ hp 112 i = nI k) ∧ (∀ i, i < e → hp 72 i = hp 114 i ∧ hp 73 i = hp 115 i ∧ (∃ k, k < P ∧ hp 114 i = nI k) ∧ (hp 115 i = 0 ∨ hp 115 i = 1)) ∧ (∀ i, i < z → hp 74 i = hp 116 i ∧ hp 75 i = hp 117 i - 10000 ∧ (∃ c, c < Cn ∧ hp 116 i = nI c) ∧ 0 ≤ (hp 117 i).toInt ∧ (hp 117 i).toInt ≤ 20000)
def R (hp : HP) : Prop := ∃ b b' P Cn Tn, Rr hp b b' ∧ Rtx hp ∧ Rbr hp b P Cn Tn ∧ Rst hp Cn ∧ Rim hp Cn ∧ Rpa hp Cn ∧ Rsl hp P Cn Tn
/-- one call on both: equal answers, and they go on alike -/
def Sim (hp : HP) (f g : HP → Option (Int32 × HP)) : Prop := ∃ v hp1 hp2, f hp = some (v, hp1) ∧ g hp1 = some (v, hp2) ∧ R hp2
theorem Sim.pure {hp : HP} {f g : HP → Option (Int32 × HP)} (v : Int32) (h1 : f hp = some (v, hp)) (h2 : g hp = some (v, hp)) (hR : R hp) : Sim hp f g := ⟨v, hp, hp, h1, h2, hR⟩
theorem isB_nI {hp : HP} {b b' : Nat} (h : Rr hp b b') : isB (hp 0 8).toNatClampNeg = true ∧ (hp 0 8).toNatClampNeg = b := by
  obtain ⟨h1, h2, -⟩ := h
  rw [h2]
  rcases h1 with ⟨rfl, -⟩ | ⟨rfl, -⟩ <;> decide
theorem x_hasC {hp : HP} {b Cn : Nat} (h : hp b 6 = nI Cn) (a : Int32) : f_Br_hasCustomer hp b a = some (wi a 0 (nI Cn - 1), hp) := by
  unfold f_Br_hasCustomer
  rw [x_within, h]
  exact rz_wi _ _ _ _
theorem x_hasP {hp : HP} {b P : Nat} (h : hp b 5 = nI P) (a : Int32) : f_Br_hasPart hp b a = some (wi a 0 (nI P - 1), hp) := by
  unfold f_Br_hasPart
  rw [x_within, h]
  exact rz_wi _ _ _ _
theorem x_hasT {hp : HP} {b Tn : Nat} (h : hp b 7 = nI Tn) (a : Int32) : f_Br_hasTask hp b a = some (wi a 0 (nI Tn - 1), hp) := by
  unfold f_Br_hasTask
  rw [x_within, h]
  exact rz_wi _ _ _ _
theorem m_isC {hp : HP} {Cn : Nat} (h : hp 99 5 = nI Cn) (a : Int32) : f_Mo_isCustomer hp a = some (wi a 0 (nI Cn - 1), hp) := by
  unfold f_Mo_isCustomer
  rw [h, m_in hp a 0 (nI Cn - 1) (A := 0) rfl rfl]
  exact rz_wi _ _ _ _
theorem m_isP {hp : HP} {P : Nat} (h : hp 99 3 = nI P) (a : Int32) : f_Mo_isPart hp a = some (wi a 0 (nI P - 1), hp) := by
  unfold f_Mo_isPart
  rw [h, m_in hp a 0 (nI P - 1) (A := 0) rfl rfl]
  exact rz_wi _ _ _ _
theorem m_isT {hp : HP} {Tn : Nat} (h : hp 99 8 = nI Tn) (a : Int32) : f_Mo_isTask hp a = some (wi a 0 (nI Tn - 1), hp) := by
  unfold f_Mo_isTask
  rw [h, m_in hp a 0 (nI Tn - 1) (A := 0) rfl rfl]
  exact rz_wi _ _ _ _
/-- the set of parts that are there by a balance -/
def pset (nd : Nat → Int32) (v : Int32) : Nat → Int32 → Int32 := fun k s => if v < nd k then s else s ||| ((1 : Int32) <<< (nI k &&& 31))
def ps (nd : Nat → Int32) (v : Int32) (P : Nat) : Int32 := it (pset nd v) 0 P 0
theorem ps_cong {nd nd' : Nat → Int32} {v : Int32} {P : Nat} (h : ∀ k, k < P → nd k = nd' k) : ps nd v P = ps nd' v P := it_cong P 0 0 (fun j s _ h2 => by unfold pset; rw [h j (by omega)])
theorem x_partsAt {hp : HP} {b P : Nat} (h : hp b 5 = nI P) (h8 : P ≤ 8) (v : Int32) : f_Br_partsAt hp b v = some (ps (hp (b + 1)) v P, hp) := by
  unfold f_Br_partsAt
  refine (for_up (fun n k s => f_Br_partsAt_L4 b v (fun hp5 w4 => some (w4, hp5)) n hp s (nI k)) P (pset (hp (b + 1)) v) (fun s => some (s, hp)) (fun _ _ => True) ?_ ?_ P 0 FU 0 (by omega) (FU_gt (by omega)) trivial).1
  · intro n k s hk _
    refine ⟨?_, trivial⟩
    show f_Br_partsAt_L4 b v _ (n + 1) hp s (nI k) = _
    rw [f_Br_partsAt_L4]
    rw [if_neg (by rw [h, nI_leI (by omega) (by omega)]; omega), if_pos (inb_n (by omega) (by decide)), cl_n (by omega)]
    unfold pset
    split <;> rw [nI_1]
  · intro n s _
    show f_Br_partsAt_L4 b v _ (n + 1) hp s (nI P) = _
    rw [f_Br_partsAt_L4]
    rw [if_pos (by rw [h, nI_leI (by omega) (by omega)]; omega)]
theorem or_0 (s : Int32) : s ||| 0 = s := by simp
theorem m_thereBy {hp : HP} {P : Nat} (h : hp 99 3 = nI P) (h8 : P ≤ 8) (v : Int32) : f_Mo_thereBy hp v = some (ps (fun k => hp 102 k - 500) v P, hp) := by
  unfold f_Mo_thereBy
  refine (for_up (fun n k s => f_Mo_thereBy_L4 v (fun hp5 w4 => some (w4, hp5)) n hp s (nI k)) P (pset (fun k => hp 102 k - 500) v) (fun s => some (s, hp)) (fun _ _ => True) ?_ ?_ P 0 FU 0 (by omega) (FU_gt (by omega)) trivial).1
  · intro n k s hk _
    refine ⟨?_, trivial⟩
    show f_Mo_thereBy_L4 v _ (n + 1) hp s (nI k) = _
    rw [f_Mo_thereBy_L4]
    rw [if_neg (by rw [h, nI_leI (by omega) (by omega)]; omega), if_pos (inb_n (by omega) (by decide)), cl_n (by omega)]
    unfold pset
    split
    · rw [nI_1, or_0]
    · rw [nI_1]
  · intro n s _
    show f_Mo_thereBy_L4 v _ (n + 1) hp s (nI P) = _
    rw [f_Mo_thereBy_L4]
    rw [if_pos (by rw [h, nI_leI (by omega) (by omega)]; omega)]
