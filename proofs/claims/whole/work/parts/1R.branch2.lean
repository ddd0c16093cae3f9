theorem b_L79M (v : Int32) (K : HP → Option (Int32 × HP)) (hp : HP) (M : Option (Int32 × HP) → Prop) (H : ∀ h : HP, (∀ c, c ≠ 100 → h c = hp c) ∧ (∀ j, j < 32 → h 100 j = 0) → M (K h)) : M (f_Mo_branch_L79 v K FU hp 0) := by
  obtain ⟨h, e, a⟩ := b_L79 v K hp
  rw [e]
  exact H h a
theorem b_L132M (K : HP → Option (Int32 × HP)) (hp : HP) {P : Nat} (hP : P ≤ 8) (e : hp 99 3 = nI P) (M : Option (Int32 × HP) → Prop) (H : ∀ h : HP, (∀ c, c ≠ 102 → h c = hp c) ∧ (∀ j, j < P → h 102 j = hp 107 j) → M (K h)) : M (f_Mo_branch_L132 K FU hp 0) := by
  obtain ⟨h, e, a⟩ := b_L132 K hp hP e
  rw [e]
  exact H h a
theorem b_L228M (K : HP → Option (Int32 × HP)) (hp : HP) {P : Nat} (hP : P ≤ 6) (e : hp 99 8 = nI P) (M : Option (Int32 × HP) → Prop) (H : ∀ h : HP, (∀ c, c ≠ 105 → h c = hp c) ∧ (∀ j, j < P → h 105 j = hp 109 j) → M (K h)) : M (f_Mo_branch_L228 K FU hp 0) := by
  obtain ⟨h, e, a⟩ := b_L228 K hp hP e
  rw [e]
  exact H h a
theorem b_L160M (K : HP → Option (Int32 × HP)) (hp : HP) {C : Nat} (hC : C ≤ 5) (e : hp 99 5 = nI C) (M : Option (Int32 × HP) → Prop) (H : ∀ h : HP, (∀ c, c ≠ 100 → c ≠ 103 → c ≠ 104 → h c = hp c) ∧ (∀ j, j < C → h 100 (1 + j) = hp 108 (3 * j) - 500 ∧ h 103 j = hp 108 (3 * j + 1) ∧ h 104 j = hp 108 (3 * j + 2)) ∧ (∀ j, j = 0 ∨ C < j → h 100 j = hp 100 j) → M (K h)) : M (f_Mo_branch_L160 K FU hp 0) := by
  obtain ⟨h, e, a⟩ := b_L160 K hp hC e
  rw [e]
  exact H h a
/-- what the reference does when its reading is over -/
def KM : HP → Int32 → Option (Int32 × HP) := fun hp8 w7 => if w7 = 0 then some (((-10 : Int32) - ((up hp8 99 11 (0 : Int32)) 99 15)), (up hp8 99 11 (0 : Int32))) else f_Mo_branch_L79 ((up hp8 99 11 (0 : Int32)) 100 31) (fun hp12 => f_Mo_branch_L132 (fun hp15 => f_Mo_branch_L160 (fun hp22 => f_Mo_branch_L228 (fun hp25 => some (((up (up (up (up (up (up (up hp25 99 23 (0 : Int32)) 99 25 (0 : Int32)) 99 29 (0 : Int32)) 99 32 (0 : Int32)) 99 2 (0 : Int32)) 101 0 (bz (0 : Int32))) 101 1 (bz (0 : Int32))) 99 5), (up (up (up (up (up (up (up hp25 99 23 (0 : Int32)) 99 25 (0 : Int32)) 99 29 (0 : Int32)) 99 32 (0 : Int32)) 99 2 (0 : Int32)) 101 0 (bz (0 : Int32))) 101 1 (bz (0 : Int32))))) FU hp22 (0 : Int32)) FU hp15 (0 : Int32)) FU (up (up (up (up hp12 100 31 ((up hp8 99 11 (0 : Int32)) 100 31)) 99 3 ((up hp12 100 31 ((up hp8 99 11 (0 : Int32)) 100 31)) 99 17)) 99 5 ((up (up hp12 100 31 ((up hp8 99 11 (0 : Int32)) 100 31)) 99 3 ((up hp12 100 31 ((up hp8 99 11 (0 : Int32)) 100 31)) 99 17)) 99 19)) 99 8 ((up (up (up hp12 100 31 ((up hp8 99 11 (0 : Int32)) 100 31)) 99 3 ((up hp12 100 31 ((up hp8 99 11 (0 : Int32)) 100 31)) 99 17)) 99 5 ((up (up hp12 100 31 ((up hp8 99 11 (0 : Int32)) 100 31)) 99 3 ((up hp12 100 31 ((up hp8 99 11 (0 : Int32)) 100 31)) 99 17)) 99 19)) 99 21)) (0 : Int32)) FU (up hp8 99 11 (0 : Int32)) (0 : Int32)
theorem m_branch_KM (hp : HP) : f_Mo_branch hp = f_Mo_branch_L32 KM FU (mini hp) 1 := rfl
def BR2 (hm h2 : HP) (P C Tn : Nat) : Prop := (∀ c, (c < 99 ∨ 105 < c) → h2 c = hm c) ∧ (h2 99 11 = 0 ∧ h2 99 3 = nI P ∧ h2 99 5 = nI C ∧ h2 99 8 = nI Tn ∧ h2 99 23 = 0 ∧ h2 99 25 = 0 ∧ h2 99 29 = 0 ∧ h2 99 32 = 0 ∧ h2 99 2 = 0 ∧ h2 99 16 = hm 99 16) ∧ h2 100 0 = 0 ∧ (∀ c, c < 5 → h2 100 (1 + c) = if c < C then hm 108 (3 * c) - 500 else 0) ∧ (∀ k, k < 25 → h2 100 (6 + k) = 0) ∧ h2 100 31 = hm 100 31 ∧ (h2 101 0 = 0 ∧ h2 101 1 = 0) ∧ (∀ k, k < P → h2 102 k = hm 107 k) ∧ (∀ c, c < C → h2 103 c = hm 108 (3 * c + 1) ∧ h2 104 c = hm 108 (3 * c + 2)) ∧ ∀ t, t < Tn → h2 105 t = hm 109 t
theorem KM_1 {hm : HP} {P C Tn : Nat} (hP : P ≤ 8) (hC : C ≤ 5) (hT : Tn ≤ 6) (mP : hm 99 17 = nI P) (mC : hm 99 19 = nI C) (mT : hm 99 21 = nI Tn) : ∃ h2, KM hm 1 = some (nI C, h2) ∧ BR2 hm h2 P C Tn := by
  unfold KM
  rw [if_neg one_ne]
  refine b_L79M _ _ _ (fun x => ∃ h2, x = some (nI C, h2) ∧ BR2 hm h2 P C Tn) ?_
  intro h1 ⟨a1, a2⟩
  have a99 : ∀ j, j ≠ 11 → h1 99 j = hm 99 j := fun j hj => by rw [a1 99 (by omega), up_eq, upd_ne hj]
  have e3 : up (up (up (up h1 100 31 ((up hm 99 11 (0 : Int32)) 100 31)) 99 3 ((up h1 100 31 ((up hm 99 11 (0 : Int32)) 100 31)) 99 17)) 99 5 ((up (up h1 100 31 ((up hm 99 11 (0 : Int32)) 100 31)) 99 3 ((up h1 100 31 ((up hm 99 11 (0 : Int32)) 100 31)) 99 17)) 99 19)) 99 8 ((up (up (up h1 100 31 ((up hm 99 11 (0 : Int32)) 100 31)) 99 3 ((up h1 100 31 ((up hm 99 11 (0 : Int32)) 100 31)) 99 17)) 99 5 ((up (up h1 100 31 ((up hm 99 11 (0 : Int32)) 100 31)) 99 3 ((up h1 100 31 ((up hm 99 11 (0 : Int32)) 100 31)) 99 17)) 99 19)) 99 21) = up (up (up (up h1 100 31 (hm 100 31)) 99 3 (nI P)) 99 5 (nI C)) 99 8 (nI Tn) := by
    rw [show up h1 100 31 ((up hm 99 11 (0 : Int32)) 100 31) 99 17 = nI P from (a99 17 (by omega)).trans mP]
    rw [show up (up h1 100 31 ((up hm 99 11 (0 : Int32)) 100 31)) 99 3 (nI P) 99 19 = nI C from (a99 19 (by omega)).trans mC]
    rw [show up (up (up h1 100 31 ((up hm 99 11 (0 : Int32)) 100 31)) 99 3 (nI P)) 99 5 (nI C) 99 21 = nI Tn from (a99 21 (by omega)).trans mT]
    rfl
  rw [e3]
  clear e3
  refine b_L132M _ _ hP rfl (fun x => ∃ h2, x = some (nI C, h2) ∧ BR2 hm h2 P C Tn) ?_
  intro h3 ⟨b1, b2⟩
  refine b_L160M _ _ hC (by rw [b1 99 (by omega)]; rfl) (fun x => ∃ h2, x = some (nI C, h2) ∧ BR2 hm h2 P C Tn) ?_
  intro h4 ⟨c1, c2, c3⟩
  refine b_L228M _ _ hT (by rw [c1 99 (by omega) (by omega) (by omega), b1 99 (by omega)]; rfl) (fun x => ∃ h2, x = some (nI C, h2) ∧ BR2 hm h2 P C Tn) ?_
  intro h5 ⟨d1, d2⟩
  have f99 : h5 99 = up (up (up (up h1 100 31 (hm 100 31)) 99 3 (nI P)) 99 5 (nI C)) 99 8 (nI Tn) 99 := by rw [d1 99 (by omega), c1 99 (by omega) (by omega) (by omega), b1 99 (by omega)]
  have g99 : ∀ j, j ≠ 3 → j ≠ 5 → j ≠ 8 → j ≠ 11 → h5 99 j = hm 99 j := fun j h1 h2 h3 h4 => by rw [f99, up_eq, upd_ne h3, up_eq, upd_ne h2, up_eq, upd_ne h1, up_ne (by omega)]; exact a99 j h4
  have f100 : ∀ j, j ≠ 31 → up (up (up (up h1 100 31 (hm 100 31)) 99 3 (nI P)) 99 5 (nI C)) 99 8 (nI Tn) 100 j = h1 100 j := fun j hj => by rw [up_ne (by omega), up_ne (by omega), up_ne (by omega), up_eq, upd_ne hj]
  have o : ∀ c, c < 99 ∨ 105 < c → h5 c = hm c := fun c hc => by rw [d1 c (by omega), c1 c (by omega) (by omega) (by omega), b1 c (by omega), up_ne (by omega), up_ne (by omega), up_ne (by omega), up_ne (by omega), a1 c (by omega), up_ne (by omega)]
  have o3 : ∀ c, c < 99 ∨ 105 < c → h3 c = hm c := fun c hc => by rw [b1 c (by omega), up_ne (by omega), up_ne (by omega), up_ne (by omega), up_ne (by omega), a1 c (by omega), up_ne (by omega)]
  refine ⟨_, Prod.ext ?_ rfl |> congrArg some, ?_⟩
  · show h5 99 5 = nI C
    rw [f99]
    rfl
  · refine ⟨fun c hc => ?_, ⟨?_, ?_, ?_, ?_, rfl, rfl, rfl, rfl, rfl, ?_⟩, ?_, fun c hc => ?_, fun k hk => ?_, ?_, ⟨rfl, rfl⟩, fun k hk => ?_, fun c hc => ?_, fun t ht => ?_⟩
    · rw [up_ne (by omega), up_ne (by omega), up_ne (by omega), up_ne (by omega), up_ne (by omega), up_ne (by omega), up_ne (by omega)]
      exact o c hc
    · show h5 99 11 = 0
      rw [f99]
      show h1 99 11 = 0
      rw [a1 99 (by omega)]
      rfl
    · show h5 99 3 = nI P
      rw [f99]
      rfl
    · show h5 99 5 = nI C
      rw [f99]
      rfl
    · show h5 99 8 = nI Tn
      rw [f99]
      rfl
    · show h5 99 16 = _
      exact g99 16 (by omega) (by omega) (by omega) (by omega)
    · show h5 100 0 = 0
      rw [d1 100 (by omega), c3 0 (by omega), b1 100 (by omega), f100 0 (by omega)]
      exact a2 0 (by omega)
    · show h5 100 (1 + c) = _
      rw [d1 100 (by omega)]
      by_cases z : c < C
      · rw [if_pos z, (c2 c z).1, o3 108 (by omega)]
      · rw [if_neg z, c3 (1 + c) (by omega), b1 100 (by omega), f100 _ (by omega)]
        exact a2 _ (by omega)
    · show h5 100 (6 + k) = _
      rw [d1 100 (by omega), c3 (6 + k) (by omega), b1 100 (by omega), f100 _ (by omega)]
      exact a2 _ (by omega)
    · show h5 100 31 = _
      rw [d1 100 (by omega), c3 31 (by omega), b1 100 (by omega)]
      rfl
    · show h5 102 k = _
      rw [d1 102 (by omega), c1 102 (by omega) (by omega) (by omega), b2 k hk]
      show h1 107 k = _
      rw [a1 107 (by omega)]
      rfl
    · show h5 103 c = _ ∧ h5 104 c = _
      rw [d1 103 (by omega), d1 104 (by omega), (c2 c hc).2.1, (c2 c hc).2.2, o3 108 (by omega)]
      exact ⟨rfl, rfl⟩
    · show h5 105 t = _
      rw [d2 t ht, c1 109 (by omega) (by omega) (by omega), o3 109 (by omega)]
