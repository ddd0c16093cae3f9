theorem for_hp (loop : Nat → HP → Int32 → Option (Int32 × HP)) (K : HP → Option (Int32 × HP)) (N : Nat) (I : Nat → HP → Prop) (hs : ∀ n k hp, k < N → I k hp → ∃ hp', loop (n + 1) hp (nI k) = loop n hp' (nI (k + 1)) ∧ I (k + 1) hp') (he : ∀ n hp, I N hp → loop (n + 1) hp (nI N) = K hp) : ∀ d k n hp, k + d = N → d < n → I k hp → ∃ hp', loop n hp (nI k) = K hp' ∧ I N hp' := by
  intro d
  induction d with
  | zero =>
    intro k n hp hk hn hI
    obtain ⟨m, rfl⟩ : ∃ m, n = m + 1 := ⟨n - 1, by omega⟩
    have : k = N := by omega
    subst this
    exact ⟨hp, he m hp hI, hI⟩
  | succ d ih =>
    intro k n hp hk hn hI
    obtain ⟨m, rfl⟩ : ∃ m, n = m + 1 := ⟨n - 1, by omega⟩
    obtain ⟨hp', h1, h2⟩ := hs m k hp (by omega) hI
    rw [h1]
    exact ih (k + 1) m hp' (by omega) (by omega) h2
theorem b_L79 (v : Int32) (K : HP → Option (Int32 × HP)) (hp : HP) : ∃ h, f_Mo_branch_L79 v K FU hp 0 = K h ∧ (∀ c, c ≠ 100 → h c = hp c) ∧ (∀ j, j < 32 → h 100 j = 0) := by
  refine for_hp (f_Mo_branch_L79 v K) K 32 (fun k h => (∀ c, c ≠ 100 → h c = hp c) ∧ (∀ j, j < k → h 100 j = 0)) ?_ ?_ 32 0 FU hp (by omega) (FU_gt (by omega)) ⟨fun _ _ => rfl, fun j hj => by omega⟩
  · intro n k h hk ⟨i1, i2⟩
    refine ⟨up h 100 k 0, ?_, fun c hc => by rw [up_ne hc]; exact i1 c hc, fun j hj => ?_⟩
    · rw [f_Mo_branch_L79, if_neg (by exact n_nle 32 k (by omega) (by omega)), if_pos (inb_n (by omega) (by omega)), cl_n (by omega), nI_s]
    · rw [up_eq]
      by_cases z : j = k
      · rw [z, upd_eq]
      · rw [upd_ne z]; exact i2 j (by omega)
  · intro n h _
    rw [f_Mo_branch_L79, if_pos (by decide)]
theorem b_L132 (K : HP → Option (Int32 × HP)) (hp : HP) {P : Nat} (hP : P ≤ 8) (e : hp 99 3 = nI P) : ∃ h, f_Mo_branch_L132 K FU hp 0 = K h ∧ (∀ c, c ≠ 102 → h c = hp c) ∧ (∀ j, j < P → h 102 j = hp 107 j) := by
  refine for_hp (f_Mo_branch_L132 K) K P (fun k h => (∀ c, c ≠ 102 → h c = hp c) ∧ (∀ j, j < k → h 102 j = hp 107 j)) ?_ ?_ P 0 FU hp (by omega) (FU_gt (by omega)) ⟨fun _ _ => rfl, fun j hj => by omega⟩
  · intro n k h hk ⟨i1, i2⟩
    refine ⟨up h 102 k (h 107 k), ?_, fun c hc => by rw [up_ne hc]; exact i1 c hc, fun j hj => ?_⟩
    · rw [f_Mo_branch_L132, if_neg (by rw [i1 99 (by omega), e]; exact n_nle P k (by omega) (by omega)), if_pos (inb_n (by omega) (by omega)), cl_n (by omega), nI_s]
    · rw [up_eq]
      by_cases z : j = k
      · rw [z, upd_eq, i1 107 (by omega)]
      · rw [upd_ne z]; exact i2 j (by omega)
  · intro n h ⟨i1, _⟩
    rw [f_Mo_branch_L132, if_pos (by rw [i1 99 (by omega), e]; exact n_le P P (by omega) (by omega))]
theorem b_L228 (K : HP → Option (Int32 × HP)) (hp : HP) {P : Nat} (hP : P ≤ 6) (e : hp 99 8 = nI P) : ∃ h, f_Mo_branch_L228 K FU hp 0 = K h ∧ (∀ c, c ≠ 105 → h c = hp c) ∧ (∀ j, j < P → h 105 j = hp 109 j) := by
  refine for_hp (f_Mo_branch_L228 K) K P (fun k h => (∀ c, c ≠ 105 → h c = hp c) ∧ (∀ j, j < k → h 105 j = hp 109 j)) ?_ ?_ P 0 FU hp (by omega) (FU_gt (by omega)) ⟨fun _ _ => rfl, fun j hj => by omega⟩
  · intro n k h hk ⟨i1, i2⟩
    refine ⟨up h 105 k (h 109 k), ?_, fun c hc => by rw [up_ne hc]; exact i1 c hc, fun j hj => ?_⟩
    · rw [f_Mo_branch_L228, if_neg (by rw [i1 99 (by omega), e]; exact n_nle P k (by omega) (by omega)), if_pos (inb_n (by omega) (by omega)), cl_n (by omega), nI_s]
    · rw [up_eq]
      by_cases z : j = k
      · rw [z, upd_eq, i1 109 (by omega)]
      · rw [upd_ne z]; exact i2 j (by omega)
  · intro n h ⟨i1, _⟩
    rw [f_Mo_branch_L228, if_pos (by rw [i1 99 (by omega), e]; exact n_le P P (by omega) (by omega))]
theorem c30 : ∀ C, C < 5 → (3 : Int32) * nI C = nI (3 * C) := by decide
theorem b_L160 (K : HP → Option (Int32 × HP)) (hp : HP) {C : Nat} (hC : C ≤ 5) (e : hp 99 5 = nI C) : ∃ h, f_Mo_branch_L160 K FU hp 0 = K h ∧ (∀ c, c ≠ 100 → c ≠ 103 → c ≠ 104 → h c = hp c) ∧ (∀ j, j < C → h 100 (1 + j) = hp 108 (3 * j) - 500 ∧ h 103 j = hp 108 (3 * j + 1) ∧ h 104 j = hp 108 (3 * j + 2)) ∧ (∀ j, j = 0 ∨ C < j → h 100 j = hp 100 j) := by
  refine for_hp (f_Mo_branch_L160 K) K C (fun k h => (∀ c, c ≠ 100 → c ≠ 103 → c ≠ 104 → h c = hp c) ∧ (∀ j, j < k → h 100 (1 + j) = hp 108 (3 * j) - 500 ∧ h 103 j = hp 108 (3 * j + 1) ∧ h 104 j = hp 108 (3 * j + 2)) ∧ (∀ j, j = 0 ∨ k < j → h 100 j = hp 100 j)) ?_ ?_ C 0 FU hp (by omega) (FU_gt (by omega)) ⟨fun _ _ _ _ => rfl, fun j hj => by omega, fun _ _ => rfl⟩
  · intro n k h hk ⟨i1, i2, i3⟩
    have e8 := i1 108 (by omega) (by omega) (by omega)
    refine ⟨up (up (up h 100 (1 + k) (h 108 (3 * k) - 500)) 103 k (h 108 (3 * k + 1))) 104 k (h 108 (3 * k + 2)), ?_, fun c h1 h2 h3 => by rw [up_ne h3, up_ne h2, up_ne h1]; exact i1 c h1 h2 h3, fun j hj => ?_, fun j hj => ?_⟩
    · rw [f_Mo_branch_L160, if_neg (by rw [i1 99 (by omega) (by omega) (by omega), e]; exact n_nle C k (by omega) (by omega)), c30 k (by omega), show (1 : Int32) = nI 1 from rfl, show (2 : Int32) = nI 2 from rfl, n_add2, n_add2, n_add2, n_add2, if_pos (inb_n (by omega) (by omega)), if_pos (inb_n (by omega) (by omega)), if_pos (inb_n (by omega) (by omega)), if_pos (inb_n (by omega) (by omega)), if_pos (inb_n (by omega) (by omega)), cl_n (by omega), cl_n (by omega), cl_n (by omega), cl_n (by omega), cl_n (by omega)]
      rfl
    · rw [up_ne (show 100 ≠ 104 by omega), up_ne (show 100 ≠ 103 by omega), up_eq, up_ne (show 103 ≠ 104 by omega), up_eq, up_eq, up_ne (show 103 ≠ 100 by omega), up_ne (show 104 ≠ 103 by omega), up_ne (show 104 ≠ 100 by omega)]
      by_cases z : j = k
      · rw [z, upd_eq, upd_eq, upd_eq, e8]
        exact ⟨rfl, rfl, rfl⟩
      · rw [upd_ne (by omega), upd_ne z, upd_ne z]; exact i2 j (by omega)
    · rw [up_ne (show 100 ≠ 104 by omega), up_ne (show 100 ≠ 103 by omega), up_eq, upd_ne (by omega)]
      exact i3 j (by omega)
  · intro n h ⟨i1, _⟩
    rw [f_Mo_branch_L160, if_pos (by rw [i1 99 (by omega) (by omega) (by omega), e]; exact n_le C C (by omega) (by omega))]
theorem b_begin (hp : HP) {q C : Nat} (hq : q = 87 ∨ q = 93) (hC : C ≤ 5) (e : hp q 6 = nI C) : ∃ h, f_St_begin hp 3 q = some (0, h) ∧ (∀ c, c ≠ 3 → c ≠ 4 → c ≠ 5 → h c = hp c) ∧ h 3 2 = 0 ∧ (∀ c, c < 5 → h 4 c = if c < C then hp (q + 2) c else 0) ∧ (∀ k, k < 25 → h 5 k = 0) := by
  unfold f_St_begin
  obtain ⟨h1, e1, a1, a2⟩ := for_hp (f_St_begin_L2 3 q (fun hp5 => f_St_begin_L39 3 (fun hp8 => some (0, (up hp8 3 2 (0 : Int32)))) FU hp5 (0 : Int32))) (fun hp5 => f_St_begin_L39 3 (fun hp8 => some (0, (up hp8 3 2 (0 : Int32)))) FU hp5 (0 : Int32)) 5 (fun k h => (∀ c, c ≠ 4 → h c = hp c) ∧ (∀ c, c < k → h 4 c = if c < C then hp (q + 2) c else 0)) (by
    intro n k h hk ⟨i1, i2⟩
    refine ⟨up h 4 k (if k < C then hp (q + 2) k else 0), ?_, fun c hc => by rw [up_ne hc]; exact i1 c hc, fun j hj => ?_⟩
    · rw [f_St_begin_L2, if_neg (by exact n_nle 5 k (by omega) (by omega))]
      by_cases z : k < C
      · rw [if_neg (by rw [i1 q (by omega), e]; exact n_nle C k (by omega) (by omega)), if_pos z, if_pos (inb_n (by omega) (by omega)), cl_n (by omega), nI_s, i1 (q + 2) (by omega)]
      · rw [if_pos (by rw [i1 q (by omega), e]; exact n_le C k (by omega) (by omega)), if_neg z, if_pos (inb_n (by omega) (by omega)), cl_n (by omega), nI_s]
    · rw [up_eq]
      by_cases z : j = k
      · rw [z, upd_eq]
      · rw [upd_ne z]; exact i2 j (by omega)) (by
    intro n h _
    rw [f_St_begin_L2, if_pos (by decide)]) 5 0 FU hp (by omega) (FU_gt (by omega)) ⟨fun _ _ => rfl, fun j hj => by omega⟩
  obtain ⟨h2, e2, b1, b2⟩ := for_hp (f_St_begin_L39 3 (fun hp8 => some (0, (up hp8 3 2 (0 : Int32))))) (fun hp8 => some (0, (up hp8 3 2 (0 : Int32)))) 25 (fun k h => (∀ c, c ≠ 5 → h c = h1 c) ∧ (∀ c, c < k → h 5 c = 0)) (by
    intro n k h hk ⟨i1, i2⟩
    refine ⟨up h 5 k 0, ?_, fun c hc => by rw [up_ne hc]; exact i1 c hc, fun j hj => ?_⟩
    · rw [f_St_begin_L39, if_neg (by exact n_nle 25 k (by omega) (by omega)), if_pos (inb_n (by omega) (by omega)), cl_n (by omega), nI_s]
    · rw [up_eq]
      by_cases z : j = k
      · rw [z, upd_eq]
      · rw [upd_ne z]; exact i2 j (by omega)) (by
    intro n h _
    rw [f_St_begin_L39, if_pos (by decide)]) 25 0 FU h1 (by omega) (FU_gt (by omega)) ⟨fun _ _ => rfl, fun j hj => by omega⟩
  refine ⟨up h2 3 2 0, e1.trans e2, fun c c3 c4 c5 => by rw [up_ne c3, b1 c c5, a1 c c4], rfl, fun c hc => ?_, fun k hk => ?_⟩
  · rw [up_ne (by omega), b1 4 (by omega)]; exact a2 c hc
  · rw [up_ne (by omega)]; exact b2 k hk
theorem b_L85 (K : HP → Option (Int32 × HP)) (hp : HP) : ∃ h, f_BA_branch_L85 K FU hp 0 = K h ∧ (∀ c, c ≠ 86 → h c = hp c) ∧ (∀ j, j < 2 → h 86 j = 0) := by
  refine for_hp (f_BA_branch_L85 K) K 2 (fun k h => (∀ c, c ≠ 86 → h c = hp c) ∧ (∀ j, j < k → h 86 j = 0)) ?_ ?_ 2 0 FU hp (by omega) (FU_gt (by omega)) ⟨fun _ _ => rfl, fun j hj => by omega⟩
  · intro n k h hk ⟨i1, i2⟩
    refine ⟨up h 86 k 0, ?_, fun c hc => by rw [up_ne hc]; exact i1 c hc, fun j hj => ?_⟩
    · rw [f_BA_branch_L85, if_neg (by exact n_nle 2 k (by omega) (by omega)), if_pos (inb_n (by omega) (by omega)), cl_n (by omega), nI_s, bz_0]
    · rw [up_eq]
      by_cases z : j = k
      · rw [z, upd_eq]
      · rw [upd_ne z]; exact i2 j (by omega)
  · intro n h _
    rw [f_BA_branch_L85, if_pos (by decide)]
def mini (hm : HP) : HP := up (up (up (up (up (up hm 99 12 (0 : Int32)) 99 15 (0 : Int32)) 99 16 (-1 : Int32)) 99 17 (0 : Int32)) 99 19 (0 : Int32)) 99 21 (0 : Int32)
def xini (q : Nat) (hx : HP) : HP := up (up (up (up (up (up hx q 5 (0 : Int32)) q 6 (0 : Int32)) q 7 (0 : Int32)) 1 4 (0 : Int32)) 1 3 (0 : Int32)) 1 2 (-1 : Int32)
theorem p_ini {T : Nat → Int32} {N q : Nat} {hx hm : HP} (hq : q = 87 ∨ q = 93) (hN : N ≤ 240) (x1 : hx 1 1 = nI N) (x2 : ∀ j, j < N → hx 2 j = T j) (m1 : hm 99 11 = nI N) (m2 : ∀ j, j < N → hm 106 j = T j) : PR T N q hx hm (xini q hx) (mini hm) 0 0 0 0 0 := by
  have ex : ∀ c, c ≠ 1 → c ≠ q → xini q hx c = hx c := fun c h1 h2 => by unfold xini; rw [up_ne h1, up_ne h1, up_ne h1, up_ne h2, up_ne h2, up_ne h2]
  have ex1 : xini q hx 1 1 = nI N := by
    unfold xini
    rw [up_eq, upd_ne (by omega), up_eq, upd_ne (by omega), up_eq, upd_ne (by omega), up_ne (by omega), up_ne (by omega), up_ne (by omega)]
    exact x1
  have exq : xini q hx q = up (up (up hx q 5 (0 : Int32)) q 6 (0 : Int32)) q 7 (0 : Int32) q := by
    unfold xini
    rw [up_ne (by omega), up_ne (by omega), up_ne (by omega)]
  have em : ∀ c, c ≠ 99 → mini hm c = hm c := fun c h1 => by unfold mini; rw [up_ne h1, up_ne h1, up_ne h1, up_ne h1, up_ne h1, up_ne h1]
  refine ⟨hq, ⟨hN, by omega, ex1, rfl, fun j hj => by rw [ex 2 (by omega) (by omega)]; exact x2 j hj⟩, ⟨hN, by omega, m1, rfl, fun j hj => by rw [em 106 (by omega)]; exact m2 j hj⟩, ⟨fun c h1 h2 => ex c h1 (by omega), by rw [ex1, x1]⟩, ⟨fun c h1 _ _ _ => em c h1, fun j hj => ?_⟩, rfl, rfl, rfl, rfl, by omega, by omega, by omega, fun _ => rfl, ?_, ?_, ?_, rfl, rfl, rfl, fun k hk => by omega, fun k hk => by omega, fun k hk => by omega⟩
  · unfold mini
    rw [up_eq, upd_ne (by omega), up_eq, upd_ne (by omega), up_eq, upd_ne (by omega), up_eq, upd_ne (by omega), up_eq, upd_ne (by omega), up_eq, upd_ne (by omega)]
  · rw [exq, up_eq, upd_ne (by omega), up_eq, upd_ne (by omega), up_eq, upd_eq]; rfl
  · rw [exq, up_eq, upd_ne (by omega), up_eq, upd_eq]; rfl
  · rw [exq, up_eq, upd_eq]; rfl
theorem p_into {T : Nat → Int32} {N q : Nat} {hx hm : HP} (hq : q = 87 ∨ q = 93) (hN : N ≤ 240) (hT : ∀ k, k < N → T k ≠ -1) (x1 : hx 1 1 = nI N) (x2 : ∀ j, j < N → hx 2 j = T j) (m1 : hm 99 11 = nI N) (m2 : ∀ j, j < N → hm 106 j = T j) (Km : HP → Int32 → Option (Int32 × HP)) : ∃ hx' hm' r, f_Re_readInto hx q = some (hx' 1 3, hx') ∧ f_Mo_branch_L32 Km FU (mini hm) 1 = Km hm' r ∧ ((r = 1 ∧ ∃ P C Tn, PR T N q hx hm hx' hm' N N P C Tn) ∨ (r = 0 ∧ FT T N q hx hm hx' hm')) := by
  have h0 := p_ini hq hN x1 x2 m1 m2
  obtain ⟨hx1, e1, h1⟩ := p_skip h0
  obtain ⟨s1, s2, s3⟩ := sk_spec T h0.rx.2.1
  unfold f_Re_readInto f_Br_clear
  rw [Option.bind_some]
  have e1' : f_Re_skipBlanks (up (up (up ((up (up (up hx q 5 (0 : Int32)) q 6 (0 : Int32)) q 7 (0 : Int32))) 1 4 (0 : Int32)) 1 3 (0 : Int32)) 1 2 (-1 : Int32)) = some (0, hx1) := e1
  simp only [e1']
  rw [Option.bind_some]
  exact p_loop hT (fun hp12 => some ((hp12 1 3), hp12)) Km (N - sk T N 0) FU FU hx1 (mini hm) (sk T N 0) 0 0 0 0 0 (by omega) (FU_gt (by omega)) (FU_gt (by omega)) (by omega) rfl s3 h1
