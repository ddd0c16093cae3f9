def gvg (s n : Nat) : Nat → (Nat → Int32) × Int32 → (Nat → Int32) × Int32 := fun j st => (upd st.1 (s - 1 - j) (st.2 - st.2 / nI n * nI n), st.2 / nI n)
def gv (s n w : Nat) (f : Nat → Int32) : Nat → Int32 := (it (gvg s n) 0 s (f, nI w)).1
theorem gv_rel (s n w : Nat) (f f' : Nat → Int32) : ∀ e, e < s → gv s n w f e = gv s n w f' e := by
  have key : ∀ j, j ≤ s → (it (gvg s n) 0 j (f, nI w)).2 = (it (gvg s n) 0 j (f', nI w)).2 ∧ ∀ e, s - j ≤ e → e < s → (it (gvg s n) 0 j (f, nI w)).1 e = (it (gvg s n) 0 j (f', nI w)).1 e := by
    intro j
    induction j with
    | zero => intro _; exact ⟨rfl, fun e h1 h2 => by omega⟩
    | succ j ih =>
      intro hj
      obtain ⟨h1, h2⟩ := ih (by omega)
      rw [it_succ, it_succ, Nat.zero_add]
      generalize it (gvg s n) 0 j (f, nI w) = x at h1 h2 ⊢
      generalize it (gvg s n) 0 j (f', nI w) = y at h1 h2 ⊢
      obtain ⟨x1, x2⟩ := x
      obtain ⟨y1, y2⟩ := y
      simp only at h1 h2
      subst h1
      simp only [gvg]
      refine ⟨trivial, fun e e1 e2 => ?_⟩
      rw [upd_ap, upd_ap]
      by_cases q : e = s - 1 - j
      · rw [if_pos q, if_pos q]
      · rw [if_neg q, if_neg q]
        exact h2 e (by omega) e2
  intro e he
  exact (key s (Nat.le_refl s)).2 e (by omega) he
def ix (s j : Nat) : Int32 := nI s - nI (j + 1)
theorem ix_n {s j : Nat} (h : j < s) : ix s j = nI (s - 1 - j) := by
  unfold ix; rw [pk_sub (by omega), show s - (j + 1) = s - 1 - j by omega]
theorem ix_i {s j : Nat} (hs : s ≤ 5) (hj : j ≤ 5) : (ix s j).toInt = (s : Int) - j - 1 := by
  unfold ix; rw [sub_i (by rw [nI_toInt (by omega), nI_toInt (by omega)]; omega), nI_toInt (by omega), nI_toInt (by omega)]; omega
theorem ix_s {s j : Nat} (hs : s ≤ 5) (hj : j < s) : ix s j + (-1) = ix s (j + 1) := by
  have im : (-1 : Int32).toInt = -1 := rfl
  rw [eq_i, add_i (by rw [ix_i hs (by omega), im]; omega), ix_i hs (by omega), ix_i hs (by omega), im]; omega
theorem x_give {hp : HP} {s n w : Nat} (s5 : s ≤ 5) (n1 : 1 ≤ n) (n4 : n ≤ 4) (K : HP → Option (Int32 × HP)) (f : Nat → Int32) : f_Pl_give_L8 (nI n) K FU (setc hp 77 f) (nI w) (nI s - 1) = K (setc hp 77 (gv s n w f)) := by
  refine (for_up (fun m j (st : (Nat → Int32) × Int32) => f_Pl_give_L8 (nI n) K m (setc hp 77 st.1) st.2 (ix s j)) s (gvg s n) (fun st => K (setc hp 77 st.1)) (fun _ _ => True) ?_ ?_ s 0 FU (f, nI w) (by omega) (FU_gt (by omega)) trivial).1
  · intro m j st hj _
    obtain ⟨x, r⟩ := st
    refine ⟨?_, trivial⟩
    simp only [gvg]
    rw [f_Pl_give_L8, if_neg (by rw [lt_i, ix_i s5 (by omega), i0]; omega), if_neg (by exact n_nle n 0 (by omega) (by omega)), if_neg (by exact n_ne n 0 (by omega) (by omega) (by omega)), if_pos (by rw [ix_n hj]; exact inb_n (by omega) (by omega)), ix_s s5 hj, up_setc, ix_n hj, cl_n (by omega)]
  · intro m st _
    show f_Pl_give_L8 (nI n) K (m + 1) (setc hp 77 st.1) st.2 (ix s s) = _
    rw [f_Pl_give_L8, if_pos (by rw [lt_i, ix_i s5 s5, i0]; omega)]
theorem m_give {hp : HP} {s n w : Nat} (s5 : s ≤ 5) (n1 : 1 ≤ n) (n4 : n ≤ 4) (v1 v3 v5 v6 : Int32) (K : HP → Option (Int32 × HP)) (f : Nat → Int32) : f_Mo_plan_L124 v1 (nI n) v3 v5 v6 K FU (setc hp 113 f) (nI w) (nI s - 1) = K (setc hp 113 (gv s n w f)) := by
  refine (for_up (fun m j (st : (Nat → Int32) × Int32) => f_Mo_plan_L124 v1 (nI n) v3 v5 v6 K m (setc hp 113 st.1) st.2 (ix s j)) s (gvg s n) (fun st => K (setc hp 113 st.1)) (fun _ _ => True) ?_ ?_ s 0 FU (f, nI w) (by omega) (FU_gt (by omega)) trivial).1
  · intro m j st hj _
    obtain ⟨x, r⟩ := st
    refine ⟨?_, trivial⟩
    simp only [gvg]
    rw [f_Mo_plan_L124, if_neg (by rw [lt_i, ix_i s5 (by omega), i0]; omega), if_neg (by exact n_ne n 0 (by omega) (by omega) (by omega)), if_pos (by rw [ix_n hj]; exact inb_n (by omega) (by omega)), ix_s s5 hj, up_setc, ix_n hj, cl_n (by omega)]
  · intro m st _
    show f_Mo_plan_L124 v1 (nI n) v3 v5 v6 K (m + 1) (setc hp 113 st.1) st.2 (ix s s) = _
    rw [f_Mo_plan_L124, if_pos (by rw [lt_i, ix_i s5 s5, i0]; omega)]
/-- the first way that works -/
def fnd (s n : Nat) (ok : (Nat → Int32) → Bool) : Nat → Nat → (Nat → Int32) → Bool × (Nat → Int32)
  | 0, _, f => (false, f)
  | d + 1, w, f => if ok (gv s n w f) = true then (true, gv s n w f) else fnd s n ok d (w + 1) (gv s n w f)
theorem fnd_rel {s n : Nat} {ok : (Nat → Int32) → Bool} (hok : ∀ f f', (∀ e, e < s → f e = f' e) → ok f = ok f') : ∀ d w f f', (fnd s n ok d w f).1 = (fnd s n ok d w f').1 ∧ ((fnd s n ok d w f).1 = true → ∀ e, e < s → (fnd s n ok d w f).2 e = (fnd s n ok d w f').2 e)
  | 0, _, _, _ => ⟨rfl, fun h => absurd (show false = true from h) (by decide)⟩
  | d + 1, w, f, f' => by
    have hr := gv_rel s n w f f'
    have e := hok _ _ hr
    unfold fnd
    rw [← e]
    by_cases q : ok (gv s n w f) = true
    · rw [if_pos q, if_pos q]
      exact ⟨rfl, fun _ => hr⟩
    · rw [if_neg q, if_neg q]
      exact fnd_rel hok d (w + 1) _ _
def okp (hp : HP) (P m s c n : Nat) (v : Int32) : (Nat → Int32) → Bool := fun ga => wk (fun k => sm (hp 110) ga k s) (alm hp P m) (am hp c) n 0 v
theorem okp_cong {hp : HP} {P m s c n : Nat} {v : Int32} : ∀ f f', (∀ e, e < s → f e = f' e) → okp hp P m s c n v f = okp hp P m s c n v f' := fun f f' h => wk_cong (fun k => sm_cong h) n 0 v
theorem Rbr_setc {hp : HP} {b P Cn Tn q : Nat} (hb : b = 87 ∨ b = 93) (hq : q = 77 ∨ q = 113) (f : Nat → Int32) (h : Rbr hp b P Cn Tn) : Rbr (setc hp q f) b P Cn Tn :=
  Rbr_cong hp hb (by intro x hx; rw [setc_ap, if_neg (by omega)]) (by rw [setc_ap, if_neg (by omega)]) (by rw [setc_ap, if_neg (by omega)]) (by rw [setc_ap, if_neg (by omega)]) h
theorem x_find {hp : HP} {b P Cn Tn s m : Nat} (hb : b = 87 ∨ b = 93) (h : Rbr hp b P Cn Tn) (hs : PS hp Tn s m) {c n : Nat} (hc : c < Cn) (n1 : 1 ≤ n) (n4 : n ≤ 4) {v : Int32} (hv : -9999 ≤ v.toInt ∧ v.toInt ≤ 9999) {W : Nat} (hW : W ≤ 1024) (K : HP → Option (Int32 × HP)) : ∀ d fu w f, w + d = W → d < fu → f_Pl_find_L31 b (nI c) v (nI n) (nI W) K fu (setc hp 77 f) (nI w) = if (fnd s n (okp hp P m s c n v) d w f).1 = true then some (1, setc hp 77 (fnd s n (okp hp P m s c n v) d w f).2) else K (setc hp 77 (fnd s n (okp hp P m s c n v) d w f).2) := by
  have s5 := hs.1.1
  intro d
  induction d with
  | zero =>
    intro fu w f hw hf
    obtain ⟨fu, rfl⟩ : ∃ j, fu = j + 1 := ⟨fu - 1, by omega⟩
    rw [f_Pl_find_L31, if_pos (by exact n_le W w (by omega) (by omega))]
    rfl
  | succ d ih =>
    intro fu w f hw hf
    obtain ⟨fu, rfl⟩ : ∃ j, fu = j + 1 := ⟨fu - 1, by omega⟩
    rw [f_Pl_find_L31, if_neg (by exact n_nle W w (by omega) (by omega))]
    have e1 : setc hp 77 f 68 7 = nI s := hs.2.1.1
    rw [e1]
    unfold f_Pl_give
    rw [x_give s5 n1 n4]
    simp only [Option.bind_some]
    have hs' : PS (setc hp 77 (gv s n w f)) Tn s m := hs
    have hr' := Rbr_setc hb (Or.inl rfl) (gv s n w f) h
    have hw := x_works hr' hs' hc n4 (fun hp19 => some (1, hp19)) n FU 0 v (by omega) (FU_gt (by omega)) hv
    have eo : wk (fun k => sm ((setc hp 77 (gv s n w f)) 110) ((setc hp 77 (gv s n w f)) 77) k s) (alm (setc hp 77 (gv s n w f)) P m) (am (setc hp 77 (gv s n w f)) c) n 0 (if 0 = 0 then v else am (setc hp 77 (gv s n w f)) c v) = okp hp P m s c n v (gv s n w f) := by
      rw [if_pos rfl, setc_at]
      rfl
    rw [eo] at hw
    have hw2 : f_Pl_works (setc hp 77 (gv s n w f)) b (nI c) v (nI n) = if okp hp P m s c n v (gv s n w f) = true then some (1, setc hp 77 (gv s n w f)) else some (0, setc hp 77 (gv s n w f)) := hw
    rw [hw2]
    unfold fnd
    by_cases q : okp hp P m s c n v (gv s n w f) = true
    · rw [if_pos q, if_pos q]
      simp only [Option.bind_some, if_neg one_ne, if_true]
    · rw [if_neg q, if_neg q]
      simp only [Option.bind_some, if_true, nI_s]
      exact ih fu (w + 1) _ (by omega) (by omega)
def ansm (s : Nat) (v3 : Int32) (hp : HP) : Option (Int32 × HP) := if v3 = (-1 : Int32) then some ((1 : Int32), hp) else if wi v3 0 (nI s - 1) = 0 then some ((-1 : Int32), hp) else some (hp 113 v3.toNatClampNeg, hp)
theorem m_find {hp : HP} {b P Cn Tn s m : Nat} (hb : b = 87 ∨ b = 93) (h : Rbr hp b P Cn Tn) (hst : Rst hp Cn) (hs : PS hp Tn s m) {c n : Nat} (hc : c < Cn) (n1 : 1 ≤ n) (n4 : n ≤ 4) {v3 : Int32} {W : Nat} (hW : W ≤ 1024) (K : HP → Option (Int32 × HP)) : ∀ d fu w f, w + d = W → d < fu → f_Mo_plan_L105 (nI c) (nI n) v3 (nI W) K fu (setc hp 113 f) (nI w) = if (fnd s n (okp hp P m s c n (hp 4 c)) d w f).1 = true then ansm s v3 (setc hp 113 (fnd s n (okp hp P m s c n (hp 4 c)) d w f).2) else K (setc hp 113 (fnd s n (okp hp P m s c n (hp 4 c)) d w f).2) := by
  have s5 := hs.1.1
  have c5 := h.1.2.1
  have hv := (hst.1.2.1 c (by omega)).2
  intro d
  induction d with
  | zero =>
    intro fu w f hw hf
    obtain ⟨fu, rfl⟩ : ∃ j, fu = j + 1 := ⟨fu - 1, by omega⟩
    rw [f_Mo_plan_L105, if_pos (by exact n_le W w (by omega) (by omega))]
    rfl
  | succ d ih =>
    intro fu w f hw hf
    obtain ⟨fu, rfl⟩ : ∃ j, fu = j + 1 := ⟨fu - 1, by omega⟩
    rw [f_Mo_plan_L105, if_neg (by exact n_nle W w (by omega) (by omega))]
    have e1 : setc hp 113 f 99 23 = nI s := hs.2.2.1.1
    rw [e1, m_give s5 n1 n4]
    have hs' : PS (setc hp 113 (gv s n w f)) Tn s m := hs
    have hr' := Rbr_setc hb (Or.inr rfl) (gv s n w f) h
    have hw := m_works hr' hs' hc n4 (fun hp19 => some (1, hp19)) n FU 0 (hp 4 c) (by omega) (FU_gt (by omega)) hv
    have eo : wk (fun k => sm ((setc hp 113 (gv s n w f)) 110) ((setc hp 113 (gv s n w f)) 113) k s) (alm (setc hp 113 (gv s n w f)) P m) (am (setc hp 113 (gv s n w f)) c) n 0 (hp 4 c) = okp hp P m s c n (hp 4 c) (gv s n w f) := by
      rw [setc_at]
      rfl
    rw [eo] at hw
    have hw2 : f_Mo_isPlan (setc hp 113 (gv s n w f)) (nI c) (nI n) = if okp hp P m s c n (hp 4 c) (gv s n w f) = true then some (1, setc hp 113 (gv s n w f)) else some (0, setc hp 113 (gv s n w f)) := by
      unfold f_Mo_isPlan
      rw [n_1, if_pos (inb_n (by omega) (by omega)), cl_n (by omega)]
      have e2 : setc hp 113 (gv s n w f) 100 (1 + c) = hp 4 c := (Rst_ba hst (by omega)).symm
      rw [e2]
      exact hw
    rw [hw2]
    unfold fnd
    by_cases q : okp hp P m s c n (hp 4 c) (gv s n w f) = true
    · rw [if_pos q, if_pos q]
      simp only [Option.bind_some, if_neg one_ne, if_true]
      unfold ansm
      by_cases q3 : v3 = -1
      · rw [if_pos q3, if_pos q3]
      · rw [if_neg q3, if_neg q3]
        have e3 : setc hp 113 (gv s n w f) 99 23 = nI s := hs.2.2.1.1
        rw [e3, m_in _ v3 0 (nI s - 1) (A := 0) rfl rfl]
        simp only [Option.bind_some]
        rcases wi_n v3 (N := s) (by omega) with e | ⟨k, hk, rfl, e⟩
        · rw [e, if_pos rfl, if_pos rfl]
        · rw [e, if_neg one_ne, if_neg one_ne, if_pos (inb_n (by omega) (by omega))]
    · rw [if_neg q, if_neg q]
      simp only [Option.bind_some, if_true, nI_s]
      exact ih fu (w + 1) _ (by omega) (by omega)
theorem x_ways {hp : HP} {Tn s m : Nat} (hs : PS hp Tn s m) (q1 : Nat) (v3 v4 : Int32) (n : Nat) (K : HP → Int32 → Option (Int32 × HP)) : f_Pl_find_L6 q1 v3 v4 (nI n) K FU hp 1 0 = K hp (nI (n ^ s)) := by
  have s5 := hs.1.1
  have x7 := hs.2.1.1
  have key := it_eq (g := fun _ w => w * nI n) (k := 0) (d := s) (s := (1 : Int32)) (fun j => nI (n ^ j)) rfl (by intro j _ _; show nI (n ^ j) * nI n = nI (n ^ (j + 1)); rw [pk_mul, Nat.pow_succ])
  rw [Nat.zero_add] at key
  rw [← key]
  refine (for_up (fun f e w => f_Pl_find_L6 q1 v3 v4 (nI n) K f hp w (nI e)) s (fun _ w => w * nI n) (fun w => K hp w) (fun _ _ => True) ?_ ?_ s 0 FU 1 (by omega) (FU_gt (by omega)) trivial).1
  · intro f e w he _
    refine ⟨?_, trivial⟩
    show f_Pl_find_L6 q1 v3 v4 (nI n) K (f + 1) hp w (nI e) = _
    rw [f_Pl_find_L6, x7, if_neg (by exact n_nle s e (by omega) (by omega)), nI_1]
  · intro f w _
    show f_Pl_find_L6 q1 v3 v4 (nI n) K (f + 1) hp w (nI s) = _
    rw [f_Pl_find_L6, x7, if_pos (by exact n_le s s (by omega) (by omega))]
theorem m_ways {hp : HP} {Tn s m : Nat} (hs : PS hp Tn s m) (v1 v3 : Int32) (n : Nat) (K : HP → Int32 → Option (Int32 × HP)) : f_Mo_plan_L81 v1 (nI n) v3 K FU hp 1 0 = K hp (nI (n ^ s)) := by
  have s5 := hs.1.1
  have y7 := hs.2.2.1.1
  have key := it_eq (g := fun _ w => w * nI n) (k := 0) (d := s) (s := (1 : Int32)) (fun j => nI (n ^ j)) rfl (by intro j _ _; show nI (n ^ j) * nI n = nI (n ^ (j + 1)); rw [pk_mul, Nat.pow_succ])
  rw [Nat.zero_add] at key
  rw [← key]
  refine (for_up (fun f e w => f_Mo_plan_L81 v1 (nI n) v3 K f hp w (nI e)) s (fun _ w => w * nI n) (fun w => K hp w) (fun _ _ => True) ?_ ?_ s 0 FU 1 (by omega) (FU_gt (by omega)) trivial).1
  · intro f e w he _
    refine ⟨?_, trivial⟩
    show f_Mo_plan_L81 v1 (nI n) v3 K (f + 1) hp w (nI e) = _
    rw [f_Mo_plan_L81, y7, if_neg (by exact n_nle s e (by omega) (by omega)), nI_1]
  · intro f w _
    show f_Mo_plan_L81 v1 (nI n) v3 K (f + 1) hp w (nI s) = _
    rw [f_Mo_plan_L81, y7, if_pos (by exact n_le s s (by omega) (by omega))]
def ltg (hp : HP) (a : Int32) : Nat → Int32 → Int32 := fun i s => if s = 0 then (if hp 112 i < a then 0 else 1) else 1
theorem m_late {hp : HP} {Tn s m : Nat} (hs : PS hp Tn s m) (v1 a v3 : Int32) (K : HP → Int32 → Option (Int32 × HP)) : f_Mo_plan_L17 v1 a v3 K FU hp 0 0 = K hp (it (ltg hp a) 0 m 0) := by
  have m4 := hs.1.2
  have y8 := hs.2.2.1.2
  refine (for_up (fun f e w => f_Mo_plan_L17 v1 a v3 K f hp w (nI e)) m (ltg hp a) (fun w => K hp w) (fun _ _ => True) ?_ ?_ m 0 FU 0 (by omega) (FU_gt (by omega)) trivial).1
  · intro f e w he _
    refine ⟨?_, trivial⟩
    show f_Mo_plan_L17 v1 a v3 K (f + 1) hp w (nI e) = _
    rw [f_Mo_plan_L17, y8, if_neg (by exact n_nle m e (by omega) (by omega)), nI_1]
    unfold ltg
    by_cases q : w = 0
    · rw [if_pos q, if_pos q, if_pos (inb_n (by omega) (by omega)), cl_n (by omega)]
      split <;> rfl
    · rw [if_neg q, if_neg q]
  · intro f w _
    show f_Mo_plan_L17 v1 a v3 K (f + 1) hp w (nI m) = _
    rw [f_Mo_plan_L17, y8, if_pos (by exact n_le m m (by omega) (by omega))]
theorem ltg_0 (hp : HP) (a : Int32) : ∀ m, (it (ltg hp a) 0 m 0 = 0) ↔ ∀ i, i < m → (hp 112 i).toInt < a.toInt
  | 0 => ⟨fun _ i hi => by omega, fun _ => rfl⟩
  | m + 1 => by
    have ih := ltg_0 hp a m
    rw [it_succ, Nat.zero_add]
    unfold ltg at *
    by_cases q : it (ltg hp a) 0 m 0 = 0
    · have q' := q
      unfold ltg at q'
      rw [if_pos q']
      by_cases c : hp 112 m < a
      · rw [if_pos c]
        rw [lt_i] at c
        refine ⟨fun _ i hi => ?_, fun _ => rfl⟩
        rcases Nat.lt_or_ge i m with r | r
        · exact ih.mp q' i r
        · have : i = m := by omega
          subst this; exact c
      · rw [if_neg c]
        rw [lt_i] at c
        exact ⟨fun h => absurd h one_ne, fun h => absurd (h m (by omega)) c⟩
    · have q' := q
      unfold ltg at q'
      rw [if_neg q']
      exact ⟨fun h => absurd h one_ne, fun h => absurd (ih.mpr (fun i hi => h i (by omega))) q'⟩
theorem x_last {hp : HP} {Tn s m : Nat} (hs : PS hp Tn s m) : ∃ v, f_Sl_lastMustMonth hp = some (v, hp) ∧ ∀ a : Int32, 0 ≤ a.toInt → ((v < a) ↔ ∀ i, i < m → (hp 112 i).toInt < a.toInt) := by
  obtain ⟨⟨s5, m4⟩, ⟨x7, x8⟩, ⟨y7, y8⟩, hsu, hmu⟩ := hs
  refine ⟨it (fun i s => mx s (hp 112 i)) 0 m (-1), ?_, ?_⟩
  · unfold f_Sl_lastMustMonth
    refine (for_up (fun n e w => f_Sl_lastMustMonth_L4 (fun hp4 w3 => some (w3, hp4)) n hp w (nI e)) m (fun i s => mx s (hp 112 i)) (fun w => some (w, hp)) (fun _ _ => True) ?_ ?_ m 0 FU (-1) (by omega) (FU_gt (by omega)) trivial).1
    · intro f e w he _
      refine ⟨?_, trivial⟩
      show f_Sl_lastMustMonth_L4 _ (f + 1) hp w (nI e) = _
      rw [f_Sl_lastMustMonth_L4, x8, if_neg (by exact n_nle m e (by omega) (by omega)), if_pos (inb_n (by omega) (by omega)), cl_n (by omega), (hmu e he).2.2.2, nI_1]
    · intro f w _
      show f_Sl_lastMustMonth_L4 _ (f + 1) hp w (nI m) = _
      rw [f_Sl_lastMustMonth_L4, x8, if_pos (by exact n_le m m (by omega) (by omega))]
  · intro a ha
    have key : ∀ k, (it (fun i s => mx s (hp 112 i)) 0 k (-1) < a) ↔ ∀ i, i < k → (hp 112 i).toInt < a.toInt := by
      intro k
      induction k with
      | zero =>
        refine ⟨fun _ i hi => by omega, fun _ => ?_⟩
        show (-1 : Int32) < a
        rw [lt_i]
        have : (-1 : Int32).toInt = -1 := rfl
        omega
      | succ k ih =>
        rw [it_succ, Nat.zero_add, lt_i, mx_i]
        rw [lt_i] at ih
        constructor
        · intro h i hi
          rcases Nat.lt_or_ge i k with r | r
          · exact ih.mp (by omega) i r
          · have : i = k := by omega
            subst this; omega
        · intro h
          have h1 := ih.mpr (fun i hi => h i (by omega))
          have h2 := h k (by omega)
          omega
    exact key m
theorem pow_1024 {n s : Nat} (hn : n ≤ 4) (hs : s ≤ 5) : n ^ s ≤ 1024 :=
  Nat.le_trans (Nat.pow_le_pow_left hn s) (Nat.le_trans (Nat.pow_le_pow_right (by decide) hs) (by decide))
theorem S_plan {hp : HP} (h : R hp) (a n i : Int32) : Sim hp (fun x => f_BA_plan x a n i) (fun x => f_Mo_plan x a n i) := by
  have hR := h
  obtain ⟨b, b', P, Cn, Tn, hr, htx, hbr, hst, him, hpa, hsl⟩ := h
  obtain ⟨ib, eb⟩ := isB_b hr
  have c5 := hbr.1.2.1
  have t6 := hbr.1.2.2
  obtain ⟨s, m, hs⟩ := PS.of t6 hsl
  have s5 := hs.1.1
  rcases wi_n a (N := Cn) (by omega) with e1 | ⟨c, hc, rfl, e1⟩
  · refine Sim.pure (-1000000001) ?_ ?_ hR
    · simp only [f_BA_plan, eb, ib, x_hasC hbr.2.1.2.1, e1, Option.bind_some, if_true]
    · simp only [f_Mo_plan, m_isC hbr.2.2.1.2.1, e1, Option.bind_some, if_true]
  · have hm0 : ∀ hp' : HP, hp' 99 5 = nI Cn → PS hp' Tn s m → f_Mo_plan hp' (nI c) n i = ((f_Mo_in hp' n.toInt64 (1 : Int64) (4 : Int64)).bind fun p11 => if p11.1 = 0 then some ((-1000000002 : Int32), p11.2) else if it (ltg hp' n) 0 m 0 = 0 then f_Mo_plan_L81 (nI c) n i (fun hp16 w15 => f_Mo_plan_L105 (nI c) n i w15 (fun hp30 => if i = (-1 : Int32) then some ((0 : Int32), hp30) else some ((-1 : Int32), hp30)) FU hp16 (0 : Int32)) FU p11.2 (1 : Int32) (0 : Int32) else some ((-1000000002 : Int32), p11.2)) := by
      intro hp' h5 hps
      unfold f_Mo_plan
      rw [m_isC h5, e1, Option.bind_some]
      show (if (1 : Int32) = 0 then _ else f_Mo_plan_L17 (nI c) n i _ FU hp' 0 0) = _
      rw [if_neg one_ne, m_late hps]
    obtain ⟨lv, hl1, hl2⟩ := x_last hs
    rcases @wi_lit n 1 4 with ⟨e0, -⟩ | ⟨e0, h1, h2⟩
    · refine Sim.pure (-1000000002) ?_ ?_ hR
      · simp only [f_BA_plan, eb, ib, x_hasC hbr.2.1.2.1, e1, x_within, e0, Option.bind_some, if_true, if_neg one_ne]
      · show f_Mo_plan hp (nI c) n i = _
        rw [hm0 hp hbr.2.2.1.2.1 hs, m_in hp n 1 4 (A := 1) (B := 4) rfl rfl, e0]
        rfl
    · have i4 : (4 : Int32).toInt = 4 := rfl
      have hlt := hl2 n (by rw [i1] at h1; omega)
      by_cases hL : ∀ j, j < m → (hp 112 j).toInt < n.toInt
      · rw [i1] at h1
        obtain ⟨n, hn, rfl⟩ := of_rg (x := n) (n := 5) (by omega) (by omega)
        rw [nI_toInt (by omega)] at h1 h2
        have hW := pow_1024 (n := n) (s := s) (by omega) s5
        have hv := (hst.1.2.1 c (by omega)).2
        have hb := Rr_or hr
        have hx : f_BA_plan hp (nI c) (nI n) i = (f_Pl_find hp b (nI c) (hp 4 c) (nI n)).bind fun p14 => if i = (-1 : Int32) then (if p14.1 = 0 then some ((0 : Int32), p14.2) else some ((1 : Int32), p14.2)) else (if p14.1 = 0 then some ((-1 : Int32), p14.2) else ((f_BA_within p14.2 i (0 : Int32) ((p14.2 68 7) - (1 : Int32))).bind fun p19 => if p19.1 = 0 then some ((-1 : Int32), p19.2) else (if inb i 5 then some ((p19.2 77 (i).toNatClampNeg), p19.2) else none))) := by
          unfold f_BA_plan
          rw [eb, if_pos ib, x_hasC hbr.2.1.2.1, e1, Option.bind_some]
          dsimp only
          rw [if_neg one_ne, x_within, e0, Option.bind_some]
          dsimp only
          rw [if_neg one_ne, hl1, Option.bind_some]
          dsimp only
          rw [if_pos (hlt.mpr hL), eb, if_pos ib, if_pos (inb_n (by omega) (by omega)), cl_n (by omega)]
        have hfind : f_Pl_find hp b (nI c) (hp 4 c) (nI n) = if (fnd s n (okp hp P m s c n (hp 4 c)) (n ^ s) 0 (hp 77)).1 = true then some (1, setc hp 77 (fnd s n (okp hp P m s c n (hp 4 c)) (n ^ s) 0 (hp 77)).2) else some (0, setc hp 77 (fnd s n (okp hp P m s c n (hp 4 c)) (n ^ s) 0 (hp 77)).2) := by
          unfold f_Pl_find
          rw [x_ways hs]
          have := x_find hb hbr hs hc (n := n) (by omega) (by omega) hv hW (fun hp10 => some ((0 : Int32), hp10)) (n ^ s) FU 0 (hp 77) (by omega) (FU_gt (by omega))
          rw [setc_self] at this
          exact this
        have hmf : ∀ fx, f_Mo_plan (setc hp 77 fx) (nI c) (nI n) i = if (fnd s n (okp hp P m s c n (hp 4 c)) (n ^ s) 0 (hp 113)).1 = true then ansm s i (setc (setc hp 77 fx) 113 (fnd s n (okp hp P m s c n (hp 4 c)) (n ^ s) 0 (hp 113)).2) else (if i = (-1 : Int32) then some ((0 : Int32), setc (setc hp 77 fx) 113 (fnd s n (okp hp P m s c n (hp 4 c)) (n ^ s) 0 (hp 113)).2) else some ((-1 : Int32), setc (setc hp 77 fx) 113 (fnd s n (okp hp P m s c n (hp 4 c)) (n ^ s) 0 (hp 113)).2)) := by
          intro fx
          have hs' : PS (setc hp 77 fx) Tn s m := hs
          have hr' := Rbr_setc hb (Or.inl rfl) fx hbr
          have hst' : Rst (setc hp 77 fx) Cn := hst
          rw [hm0 (setc hp 77 fx) hbr.2.2.1.2.1 hs', m_in _ (nI n) 1 4 (A := 1) (B := 4) rfl rfl, e0, Option.bind_some]
          dsimp only
          rw [if_neg one_ne, if_pos ((ltg_0 (setc hp 77 fx) (nI n) m).mpr hL), m_ways hs']
          have := m_find hb hr' hst' hs' hc (n := n) (by omega) (by omega) (v3 := i) hW (fun hp30 => if i = (-1 : Int32) then some ((0 : Int32), hp30) else some ((-1 : Int32), hp30)) (n ^ s) FU 0 (setc hp 77 fx 113) (by omega) (FU_gt (by omega))
          rw [setc_self] at this
          exact this
        have hRf : ∀ fx fm, R (setc (setc hp 77 fx) 113 fm) := by
          intro fx fm
          exact ⟨b, b', P, Cn, Tn, Rr_cong hp rfl rfl rfl rfl hr, Rtx_cong hp ⟨rfl, rfl⟩ rfl rfl htx, Rbr_cong hp hb (by intro q hq; simp only [up_ap, setc_ap]; repeat rw [if_neg (by omega)]) rfl rfl rfl hbr, Rst_cong hp (by intro q hq; simp only [up_ap, setc_ap]; repeat rw [if_neg (by omega)]) rfl hst, Rim_cong hp (by intro q hq; simp only [up_ap, setc_ap]; repeat rw [if_neg (by omega)]) him, Rpa_cong hp (by intro q hq; simp only [up_ap, setc_ap]; repeat rw [if_neg (by omega)]) rfl hpa, Rsl_cong hp (by intro q hq; simp only [up_ap, setc_ap]; repeat rw [if_neg (by omega)]) rfl rfl rfl rfl hsl⟩
        have rel := fnd_rel (s := s) (n := n) (ok := okp hp P m s c n (hp 4 c)) okp_cong (n ^ s) 0 (hp 77) (hp 113)
        generalize fnd s n (okp hp P m s c n (hp 4 c)) (n ^ s) 0 (hp 77) = X at hfind rel
        generalize fnd s n (okp hp P m s c n (hp 4 c)) (n ^ s) 0 (hp 113) = Y at hmf rel
        obtain ⟨xb, xf⟩ := X
        obtain ⟨yb, yf⟩ := Y
        simp only at rel hfind hmf
        obtain ⟨rfl, rel⟩ := rel
        cases xb with
        | false =>
          rw [if_neg (by decide)] at hfind
          rw [hfind, Option.bind_some] at hx
          dsimp only at hx
          rw [if_pos rfl, if_pos rfl] at hx
          have hm := hmf xf
          rw [if_neg (by decide)] at hm
          by_cases q : i = -1
          · rw [if_pos q] at hx hm
            exact ⟨_, _, _, hx, hm, hRf _ _⟩
          · rw [if_neg q] at hx hm
            exact ⟨_, _, _, hx, hm, hRf _ _⟩
        | true =>
          rw [if_pos rfl] at hfind
          rw [hfind, Option.bind_some] at hx
          dsimp only at hx
          rw [if_neg one_ne, if_neg one_ne] at hx
          have hm := hmf xf
          rw [if_pos rfl] at hm
          unfold ansm at hm
          by_cases q : i = -1
          · rw [if_pos q] at hx hm
            exact ⟨_, _, _, hx, hm, hRf _ _⟩
          · rw [if_neg q] at hx hm
            have e7 : setc hp 77 xf 68 7 = nI s := hs.2.1.1
            rw [e7, x_within, Option.bind_some] at hx
            dsimp only at hx
            rcases wi_n i (N := s) (by omega) with e | ⟨k, hk, rfl, e⟩
            · rw [e, if_pos rfl] at hx hm
              exact ⟨_, _, _, hx, hm, hRf _ _⟩
            · rw [e, if_neg one_ne] at hx hm
              rw [if_pos (inb_n (by omega) (by omega)), setc_at, cl_n (by omega), rel rfl k hk] at hx
              rw [setc_at, cl_n (by omega)] at hm
              exact ⟨_, _, _, hx, hm, hRf _ _⟩
      · refine Sim.pure (-1000000002) ?_ ?_ hR
        · simp only [f_BA_plan, eb, ib, x_hasC hbr.2.1.2.1, e1, x_within, e0, hl1, Option.bind_some, if_true, if_neg one_ne, if_neg (fun q => hL (hlt.mp q))]
        · show f_Mo_plan hp (nI c) n i = _
          rw [hm0 hp hbr.2.2.1.2.1 hs, m_in hp n 1 4 (A := 1) (B := 4) rfl rfl, e0, Option.bind_some]
          dsimp only
          rw [if_neg one_ne, if_neg (fun q => hL ((ltg_0 hp n m).mp q))]
