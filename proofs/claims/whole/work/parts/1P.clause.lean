theorem MX.of {T : Nat → Int32} {N j : Nat} {hm hm' : HP} (h : MX T N hm j) (e1 : hm' 99 11 = hm 99 11) (e2 : hm' 99 12 = hm 99 12) (e3 : hm' 106 = hm 106) : MX T N hm' j :=
  ⟨h.1, h.2.1, by rw [e1]; exact h.2.2.1, by rw [e2]; exact h.2.2.2.1, by rw [e3]; exact h.2.2.2.2⟩
theorem p_addPart {T : Nat → Int32} {N q : Nat} {hx0 hm0 hx hm : HP} {i j P C Tn : Nat} (h : PR T N q hx0 hm0 hx hm i j P C Tn) {v : Int32} (v0 : 0 ≤ v.toInt) (v9 : v.toInt ≤ 999) (hP : P < 8) (t0 : Tn = 0) : PR T N q hx0 hm0 (up (up hx (q + 1) P (v - 500)) q 5 (nI (P + 1))) (up (up hm 107 P v) 99 17 (nI (P + 1))) i j (P + 1) C Tn := by
  have hq := h.hq
  refine ⟨hq, h.rx.br hq (fun c hc => by rw [up_ne (by omega), up_ne (by omega)]), h.mx.of rfl rfl rfl, h.xf.br hq (fun c hc => by rw [up_ne (by omega), up_ne (by omega)]), ⟨fun c a1 a2 a3 a4 => by rw [up_ne a1, up_ne a2]; exact h.mf.1 c a1 a2 a3 a4, fun k hk => by rw [up_eq, upd_ne (by omega), up_ne (by omega)]; exact h.mf.2 k hk⟩, ?_, ?_, h.m5, h.m6, by omega, h.hC, h.hT, by omega, ?_, ?_, ?_, rfl, h.mC, h.mT, ?_, ?_, ?_⟩
  · rw [up_ne (by omega), up_ne (by omega)]; exact h.x3
  · rw [up_ne (by omega), up_ne (by omega)]; exact h.x2
  · rw [up_eq, upd_eq]
  · rw [up_eq, upd_ne (by omega), up_ne (by omega)]; exact h.xC
  · rw [up_eq, upd_ne (by omega), up_ne (by omega)]; exact h.xT
  · intro k hk
    rw [up_ne (by omega), up_eq, up_ne (by omega), up_eq]
    by_cases z : k = P
    · subst z
      rw [upd_eq, upd_eq]
      exact ⟨rfl, v0, v9⟩
    · rw [upd_ne z, upd_ne z]
      exact h.pp k (by omega)
  · rw [up_ne (by omega), up_ne (by omega), up_ne (by omega), up_ne (by omega), up_ne (by omega), up_ne (by omega), up_ne (by omega), up_ne (by omega)]
    exact h.cc
  · intro t ht
    omega
theorem p_addTask {T : Nat → Int32} {N q : Nat} {hx0 hm0 hx hm : HP} {i j P C Tn : Nat} (h : PR T N q hx0 hm0 hx hm i j P C Tn) {v : Int32} {n : Nat} (hn : n < 2 ^ P) (hv : v = nI n) (hT : Tn < 6) (hP : 1 ≤ P) : PR T N q hx0 hm0 (up (up hx (q + 5) Tn v) q 7 (nI (Tn + 1))) (up (up hm 109 Tn v) 99 21 (nI (Tn + 1))) i j P C (Tn + 1) := by
  have hq := h.hq
  refine ⟨hq, h.rx.br hq (fun c hc => by rw [up_ne (by omega), up_ne (by omega)]), h.mx.of rfl rfl rfl, h.xf.br hq (fun c hc => by rw [up_ne (by omega), up_ne (by omega)]), ⟨fun c a1 a2 a3 a4 => by rw [up_ne a1, up_ne a4]; exact h.mf.1 c a1 a2 a3 a4, fun k hk => by rw [up_eq, upd_ne (by omega), up_ne (by omega)]; exact h.mf.2 k hk⟩, ?_, ?_, h.m5, h.m6, h.hP, h.hC, by omega, by omega, ?_, ?_, ?_, h.mP, h.mC, rfl, ?_, ?_, ?_⟩
  · rw [up_ne (by omega), up_ne (by omega)]; exact h.x3
  · rw [up_ne (by omega), up_ne (by omega)]; exact h.x2
  · rw [up_eq, upd_ne (by omega), up_ne (by omega)]; exact h.xP
  · rw [up_eq, upd_ne (by omega), up_ne (by omega)]; exact h.xC
  · rw [up_eq, upd_eq]
  · rw [up_ne (by omega), up_ne (by omega), up_ne (by omega), up_ne (by omega)]
    exact h.pp
  · rw [up_ne (by omega), up_ne (by omega), up_ne (by omega), up_ne (by omega), up_ne (by omega), up_ne (by omega), up_ne (by omega), up_ne (by omega)]
    exact h.cc
  · intro k hk
    rw [up_ne (by omega), up_eq, up_ne (by omega), up_eq]
    by_cases z : k = Tn
    · subst z
      rw [upd_eq, upd_eq]
      exact ⟨rfl, n, hn, hv⟩
    · rw [upd_ne z, upd_ne z]
      exact h.tt k (by omega)
theorem p_put {T : Nat → Int32} {N q : Nat} {hx0 hm0 hx hm : HP} {i j P C Tn k : Nat} (h : PR T N q hx0 hm0 hx hm i j P C Tn) (v : Int32) (hk : 3 * C ≤ k) : PR T N q hx0 hm0 hx (up hm 108 k v) i j P C Tn := by
  refine ⟨h.hq, h.rx, h.mx.of rfl rfl rfl, h.xf, ⟨fun c a1 a2 a3 a4 => by rw [up_ne a3]; exact h.mf.1 c a1 a2 a3 a4, fun k hk => by rw [up_ne (by omega)]; exact h.mf.2 k hk⟩, h.x3, h.x2, h.m5, h.m6, h.hP, h.hC, h.hT, h.p0, h.xP, h.xC, h.xT, h.mP, h.mC, h.mT, ?_, ?_, ?_⟩
  · rw [up_ne (by omega)]; exact h.pp
  · intro c hc
    rw [up_eq, upd_ne (by omega), upd_ne (by omega), upd_ne (by omega)]
    exact h.cc c hc
  · rw [up_ne (by omega)]; exact h.tt
theorem p_addCustomer {T : Nat → Int32} {N q : Nat} {hx0 hm0 hx hm : HP} {i j P C Tn : Nat} (h : PR T N q hx0 hm0 hx hm i j P C Tn) {a b c : Int32} (ea : hm 108 (3 * C) = a) (eb : hm 108 (3 * C + 1) = b) (ec : hm 108 (3 * C + 2) = c) (ha : 0 ≤ a.toInt ∧ a.toInt ≤ 999) (hb : 0 ≤ b.toInt ∧ b.toInt ≤ 99) (hc : 0 ≤ c.toInt ∧ c.toInt ≤ 99) (hC : C < 5) : PR T N q hx0 hm0 (up (up (up (up hx (q + 2) C (a - 500)) (q + 3) C b) (q + 4) C c) q 6 (nI (C + 1))) (up hm 99 19 (nI (C + 1))) i j P (C + 1) Tn := by
  have hq := h.hq
  have e : ∀ d, d < q ∨ q + 5 < d → up (up (up (up hx (q + 2) C (a - 500)) (q + 3) C b) (q + 4) C c) q 6 (nI (C + 1)) d = hx d := fun d hd => by rw [up_ne (by omega), up_ne (by omega), up_ne (by omega), up_ne (by omega)]
  refine ⟨hq, h.rx.br hq e, h.mx.of rfl rfl rfl, h.xf.br hq e, ⟨fun c a1 a2 a3 a4 => by rw [up_ne a1]; exact h.mf.1 c a1 a2 a3 a4, fun k hk => by rw [up_eq, upd_ne (by omega)]; exact h.mf.2 k hk⟩, ?_, ?_, h.m5, h.m6, h.hP, by omega, h.hT, h.p0, ?_, ?_, ?_, h.mP, rfl, h.mT, ?_, ?_, ?_⟩
  · rw [e 1 (by omega)]; exact h.x3
  · rw [e 1 (by omega)]; exact h.x2
  · rw [up_eq, upd_ne (by omega), up_ne (by omega), up_ne (by omega), up_ne (by omega)]; exact h.xP
  · rw [up_eq, upd_eq]
  · rw [up_eq, upd_ne (by omega), up_ne (by omega), up_ne (by omega), up_ne (by omega)]; exact h.xT
  · rw [up_ne (by omega), up_ne (by omega), up_ne (by omega), up_ne (by omega), up_ne (by omega)]
    exact h.pp
  · intro k hk
    rw [up_ne (show q + 2 ≠ q by omega), up_ne (show q + 2 ≠ q + 4 by omega), up_ne (show q + 2 ≠ q + 3 by omega), up_eq, up_ne (show q + 3 ≠ q by omega), up_ne (show q + 3 ≠ q + 4 by omega), up_eq, up_ne (show q + 4 ≠ q by omega), up_eq, up_ne (show q + 3 ≠ q + 2 by omega), up_ne (show q + 4 ≠ q + 3 by omega), up_ne (show q + 4 ≠ q + 2 by omega), up_ne (show 108 ≠ 99 by omega)]
    by_cases z : k = C
    · subst z
      rw [upd_eq, upd_eq, upd_eq, ea, eb, ec]
      exact ⟨⟨rfl, rfl, rfl⟩, ha, hb, hc⟩
    · rw [upd_ne z, upd_ne z, upd_ne z]
      exact h.cc k (by omega)
  · rw [up_ne (by omega), up_ne (by omega), up_ne (by omega), up_ne (by omega), up_ne (by omega)]
    exact h.tt
theorem sk_idd {T : Nat → Int32} {N i : Nat} (h : ltr T N i ≠ 32) : sk T N i = i := by
  unfold sk
  cases N - i with
  | zero => rfl
  | succ d => unfold skf; rw [if_neg h]
theorem ltr_lt {T : Nat → Int32} {N i : Nat} {c : Int32} (h : ltr T N i = c) (hc : c ≠ -1) : i < N := by
  unfold ltr at h
  by_cases z : i < N
  · exact z
  · rw [if_neg z] at h; exact absurd h.symm hc
/-- the end of a clause -/
def fw (x : Option (Int32 × HP)) : Option (Int32 × HP) := x.bind fun p10 => if p10.1 = 0 then some ((0 : Int32), p10.2) else ((f_Mo_takes p10.2 (59 : Int32)).bind fun p13 => if p13.1 = 0 then some ((0 : Int32), p13.2) else some ((1 : Int32), p13.2))
theorem fw_0 (hm : HP) : fw (some (0, hm)) = some (0, hm) := by
  unfold fw
  rw [Option.bind_some]
  dsimp only
  rw [if_pos rfl]
def OC (T : Nat → Int32) (N q : Nat) (hx0 hm0 : HP) (i : Nat) (x y : Option (Int32 × HP)) : Prop := ∃ hx' r hm', x = some (0, hx') ∧ y = some (r, hm') ∧ ((r = 1 ∧ ∃ i' P' C' T', i < i' ∧ PR T N q hx0 hm0 hx' hm' i' i' P' C' T') ∨ (r = 0 ∧ FT T N q hx0 hm0 hx' hm'))
theorem w_end {T : Nat → Int32} {N q : Nat} {hx0 hm0 hx hm : HP} {i i0 P C Tn : Nat} (h : PR T N q hx0 hm0 hx hm i i P C Tn) (hi : i0 ≤ i) : OC T N q hx0 hm0 i0 ((f_Re_readWord hx 59).bind fun p20 => some (0, p20.2)) (fw (some (1, hm))) := by
  obtain ⟨hx', r, hm', e1, e2, e3⟩ := p_word h 59 (by decide)
  unfold fw
  rw [e1, Option.bind_some, Option.bind_some]
  dsimp only
  rw [if_neg one_ne, e2, Option.bind_some]
  dsimp only
  rcases e3 with ⟨rfl, i', h1, h2⟩ | ⟨rfl, h1⟩
  · rw [if_neg one_ne]
    exact ⟨_, _, _, rfl, rfl, Or.inl ⟨rfl, i', _, _, _, by omega, h2⟩⟩
  · rw [if_pos rfl]
    exact ⟨_, _, _, rfl, rfl, Or.inr ⟨rfl, h1⟩⟩
theorem f_end {T : Nat → Int32} {N q : Nat} {hx0 hm0 hx hm : HP} {i0 : Nat} (h : FT T N q hx0 hm0 hx hm) : OC T N q hx0 hm0 i0 ((f_Re_readWord hx 59).bind fun p20 => some (0, p20.2)) (fw (some (0, hm))) := by
  obtain ⟨f, p, h1, h2, h3⟩ := h
  obtain ⟨hx', e1, e2⟩ := g_word h1 h2 59 (by decide)
  rw [e1, fw_0, Option.bind_some]
  exact ⟨_, _, _, rfl, rfl, Or.inr ⟨rfl, f, p, h1, e2, h3⟩⟩
def cpt (q n : Nat) (hx : HP) (x : Int32) : Option (Int32 × HP) := (f_Re_readNumber hx (999 : Int32)).bind fun p2 => ((f_Br_addPart p2.2 q p2.1).bind fun p4 => ((f_Re_skipBlanks p4.2).bind fun p6 => f_Re_readParts_L17 q (fun hp18 => ((f_Re_readWord hp18 (59 : Int32)).bind fun p20 => some (0, p20.2))) n p6.2 x))
theorem cpt_L (q n : Nat) (hx : HP) (x : Int32) : f_Re_readParts_L17 q (fun hp18 => ((f_Re_readWord hp18 (59 : Int32)).bind fun p20 => some (0, p20.2))) (n + 1) hx x = if (8 : Int32) ≤ x then ((f_Re_readWord hx (59 : Int32)).bind fun p20 => some (0, p20.2)) else if (hx 1 3) = 0 then ((f_Re_letter hx).bind fun p10 => if p10.1 = (44 : Int32) then cpt q n (up p10.2 1 4 ((p10.2 1 4) + (1 : Int32))) (x + 1) else ((f_Re_readWord p10.2 (59 : Int32)).bind fun p20 => some (0, p20.2))) else ((f_Re_readWord hx (59 : Int32)).bind fun p20 => some (0, p20.2)) := by
  rw [f_Re_readParts_L17]
  rfl
theorem g_parts {T : Nat → Int32} {N q : Nat} {hx0 hm0 hx hm : HP} {i0 : Nat} (h : FT T N q hx0 hm0 hx hm) (v x : Int32) (n : Nat) : OC T N q hx0 hm0 i0 ((f_Br_addPart hx q v).bind fun p4 => ((f_Re_skipBlanks p4.2).bind fun p6 => f_Re_readParts_L17 q (fun hp18 => ((f_Re_readWord hp18 (59 : Int32)).bind fun p20 => some (0, p20.2))) (n + 1) p6.2 x)) (fw (some (0, hm))) := by
  obtain ⟨f, p, h1, h2, h3⟩ := h
  obtain ⟨hx1, e1, g1⟩ := g_addPart h2 v
  obtain ⟨hx2, e2, g2⟩ := g_skip g1
  rw [e1, Option.bind_some]
  dsimp only
  rw [e2, Option.bind_some]
  dsimp only
  rw [cpt_L, if_neg (show ¬ hx2 1 3 = 0 by rw [g2.2.2.1.1]; exact h1), ite_self]
  exact f_end ⟨f, p, h1, g2, h3⟩
theorem p_partsL {T : Nat → Int32} {N q : Nat} {hx0 hm0 : HP} {C Tn i0 : Nat} (t0 : Tn = 0) : ∀ d n m hx hm i P, 8 - P ≤ d → d < n → d < m → P < 8 → i0 ≤ i → PR T N q hx0 hm0 hx hm i i P C Tn → OC T N q hx0 hm0 i0 (cpt q n hx (nI (P + 1))) (fw (f_Mo_takesBranch_L2 (fun hp16 => some ((1 : Int32), hp16)) m hm 1)) := by
  intro d
  induction d with
  | zero => intro n m hx hm i P hd hn hm' hP hi h; omega
  | succ d ih =>
    intro n m hx hm i P hd hn hmm hP hi h
    obtain ⟨n, rfl⟩ : ∃ k, n = k + 1 := ⟨n - 1, by omega⟩
    obtain ⟨m, rfl⟩ : ∃ k, m = k + 1 := ⟨m - 1, by omega⟩
    rw [f_Mo_takesBranch_L2, if_neg one_ne]
    unfold cpt
    obtain ⟨v, hx1, r, hm1, e1, e2, e3⟩ := p_num h (g := 999) (by decide)
    rw [e1, e2, Option.bind_some, Option.bind_some]
    dsimp only
    rcases e3 with ⟨rfl, i1, hi1, h1, ev, v0, v9, -⟩ | ⟨rfl, h1⟩
    · have q1 := h1.hq
      have em : up hm1 107 P v 99 17 = nI P := h1.mP
      rw [if_neg one_ne, if_pos (show inb (hm1 99 17) 8 = true by rw [h1.mP]; exact inb_n hP (by omega))]
      simp only [h1.mP, cl_n (show P < 2 ^ 31 by omega), ev]
      simp only [em, nI_s]
      rw [x_addPart v hP h1.xP, Option.bind_some]
      dsimp only
      have h2 := p_addPart h1 v0 (by exact v9) hP t0
      obtain ⟨hx3, e4, h3⟩ := p_skip h2
      obtain ⟨hm3, e5, h4, e13⟩ := p_here h3
      rw [e4, e5, Option.bind_some, Option.bind_some]
      dsimp only
      obtain ⟨s1, s2, s3⟩ := sk_spec T h1.rx.2.1
      generalize sk T N i1 = i2 at *
      rw [cpt_L, h4.x3, if_pos rfl, x_letter h4.rx, Option.bind_some]
      dsimp only
      by_cases c : ltr T N i2 = 44
      · rw [if_pos c, if_pos c]
        by_cases c8 : P = 7
        · subst c8
          rw [if_pos (show (8 : Int32) ≤ nI (7 + 1) by decide), if_pos (show hm3 99 17 = (8 : Int32) by rw [h4.mP]; decide)]
          unfold f_Mo_fails
          rw [Option.bind_some]
          dsimp only
          rw [rz_0, fw_0]
          obtain ⟨hx', g1, g2, g3⟩ := x_word h4.rx 59 (by decide)
          have sid := sk_idd (T := T) (N := N) (i := i2) (by rw [c]; decide)
          rw [sid] at g3
          have g4 := g3 (by rw [c]; decide)
          rw [h4.x3, h4.x2, fn_0, fp_0] at g4
          have y := M1.fail 1 (hm3 99 13) h4.mx.2.2.2.1
          rw [g1, Option.bind_some]
          refine ⟨_, _, _, rfl, rfl, Or.inr ⟨rfl, 1, nI i2, one_ne, h4.xg g4 s2, h4.mf.m1 y, rfl, ?_⟩⟩
          exact e13
        · rw [if_neg (by exact n_nle 8 (P + 1) (by omega) (by omega)), if_neg (show ¬ hm3 99 17 = (8 : Int32) by rw [h4.mP]; exact n_ne (P + 1) 8 (by omega) (by omega) (by omega)), nI_s]
          exact ih n m _ _ (i2 + 1) (P + 1) (by omega) (by omega) (by omega) (by omega) (by omega) (p_step h4 (ltr_lt c (by decide)))
      · rw [if_neg c, if_neg c]
        obtain ⟨m, rfl⟩ : ∃ k, m = k + 1 := ⟨m - 1, by omega⟩
        rw [f_Mo_takesBranch_L2, if_pos rfl, ite_self]
        have y := M1.up12 hm3 i2
        rw [h4.m5, h4.m6] at y
        have h5 := h4.m1 y s2
        have e12 : hm3 99 12 + 0 = nI i2 := by rw [h4.mx.2.2.2.1]; exact Int32.add_zero _
        rw [e12]
        exact w_end h5 (by omega)
    · rw [if_pos rfl]
      exact g_parts h1 v _ n
theorem p_parts {T : Nat → Int32} {N q : Nat} {hx0 hm0 hx hm : HP} {i C Tn : Nat} (t0 : Tn = 0) (h : PR T N q hx0 hm0 hx hm i i 0 C Tn) : OC T N q hx0 hm0 i (f_Re_readParts hx q) (fw (f_Mo_takesBranch hm)) :=
  p_partsL t0 8 FU FU hx hm i 0 (by omega) (FU_gt (by omega)) (FU_gt (by omega)) (by omega) (Nat.le_refl _) h
theorem fw_1 {T : Nat → Int32} {N q : Nat} {hx0 hm0 : HP} {i0 : Nat} {x y y' : Option (Int32 × HP)} (h : y = y') (k : OC T N q hx0 hm0 i0 x (fw y')) : OC T N q hx0 hm0 i0 x (fw y) := by rw [h]; exact k
theorem x_customer (hx : HP) (q : Nat) : f_Re_readCustomer hx q = (f_Re_readNumber hx 999).bind fun p2 => (f_Re_readNumber p2.2 99).bind fun p4 => (f_Re_readNumber p4.2 99).bind fun p6 => (f_Br_addCustomer p6.2 q p2.1 p4.1 p6.1).bind fun p8 => (f_Re_readWord p8.2 59).bind fun p10 => some (0, p10.2) := rfl
theorem g_cust3 {T : Nat → Int32} {N q : Nat} {hx0 hm0 hx hm : HP} {i0 : Nat} (h : FT T N q hx0 hm0 hx hm) (a b c : Int32) : OC T N q hx0 hm0 i0 ((f_Br_addCustomer hx q a b c).bind fun p8 => (f_Re_readWord p8.2 59).bind fun p10 => some (0, p10.2)) (fw (some (0, hm))) := by
  obtain ⟨f, p, h1, h2, h3⟩ := h
  obtain ⟨hx1, e1, g1⟩ := g_addCustomer h2 a b c
  rw [e1, Option.bind_some]
  exact f_end ⟨f, p, h1, g1, h3⟩
theorem g_cust2 {T : Nat → Int32} {N q : Nat} {hx0 hm0 hx hm : HP} {i0 : Nat} (h : FT T N q hx0 hm0 hx hm) (a b : Int32) : OC T N q hx0 hm0 i0 ((f_Re_readNumber hx 99).bind fun p6 => (f_Br_addCustomer p6.2 q a b p6.1).bind fun p8 => (f_Re_readWord p8.2 59).bind fun p10 => some (0, p10.2)) (fw (some (0, hm))) := by
  obtain ⟨f, p, h1, h2, h3⟩ := h
  obtain ⟨v, hx1, e1, g1⟩ := g_num h1 h2 99
  rw [e1, Option.bind_some]
  exact g_cust3 ⟨f, p, h1, g1, h3⟩ a b v
theorem g_cust1 {T : Nat → Int32} {N q : Nat} {hx0 hm0 hx hm : HP} {i0 : Nat} (h : FT T N q hx0 hm0 hx hm) (a : Int32) : OC T N q hx0 hm0 i0 ((f_Re_readNumber hx 99).bind fun p4 => (f_Re_readNumber p4.2 99).bind fun p6 => (f_Br_addCustomer p6.2 q a p4.1 p6.1).bind fun p8 => (f_Re_readWord p8.2 59).bind fun p10 => some (0, p10.2)) (fw (some (0, hm))) := by
  obtain ⟨f, p, h1, h2, h3⟩ := h
  obtain ⟨v, hx1, e1, g1⟩ := g_num h1 h2 99
  rw [e1, Option.bind_some]
  exact g_cust2 ⟨f, p, h1, g1, h3⟩ a v
theorem c3 : ∀ C, C < 5 → ∀ k, k < 3 → (3 : Int32) * nI C + nI k = nI (3 * C + k) := by decide
theorem m_c0 (K : HP → Option (Int32 × HP)) (m : Nat) (hm : HP) : f_Mo_takesCustomer_L2 K (m + 1) hm (nI 0) = (f_Mo_takesNumber hm 0 999).bind fun p4 => if p4.1 = 0 then some ((0 : Int32), p4.2) else (if inb ((3 : Int32) * (p4.2 99 19) + nI 0) 15 then f_Mo_takesCustomer_L2 K m (up p4.2 108 ((3 : Int32) * (p4.2 99 19) + nI 0).toNatClampNeg (p4.2 99 14)) (nI 0 + 1) else none) := by
  rw [f_Mo_takesCustomer_L2, if_neg (by decide), if_pos (show nI 0 = (0 : Int32) from rfl)]
theorem m_c1 (K : HP → Option (Int32 × HP)) (m k : Nat) (hk : k = 1 ∨ k = 2) (hm : HP) : f_Mo_takesCustomer_L2 K (m + 1) hm (nI k) = (f_Mo_takesNumber hm 0 99).bind fun p4 => if p4.1 = 0 then some ((0 : Int32), p4.2) else (if inb ((3 : Int32) * (p4.2 99 19) + nI k) 15 then f_Mo_takesCustomer_L2 K m (up p4.2 108 ((3 : Int32) * (p4.2 99 19) + nI k).toNatClampNeg (p4.2 99 14)) (nI k + 1) else none) := by
  rw [f_Mo_takesCustomer_L2, if_neg (by exact n_nle 3 k (by omega) (by omega)), if_neg (by exact n_ne k 0 (by omega) (by omega) (by omega))]
theorem p_customer {T : Nat → Int32} {N q : Nat} {hx0 hm0 hx hm : HP} {i P C Tn : Nat} (hC : C < 5) (h : PR T N q hx0 hm0 hx hm i i P C Tn) : OC T N q hx0 hm0 i (f_Re_readCustomer hx q) (fw (f_Mo_takesCustomer hm)) := by
  rw [x_customer]
  unfold f_Mo_takesCustomer
  obtain ⟨m, hm'⟩ : ∃ m, FU = m + 1 + 1 + 1 + 1 := ⟨2996, rfl⟩
  rw [hm']
  clear hm'
  rw [show (0 : Int32) = nI 0 from rfl, m_c0]
  obtain ⟨a, hx1, r, hm1, e1, e2, e3⟩ := p_num h (g := 999) (by decide)
  rw [e1, e2, Option.bind_some, Option.bind_some]
  dsimp only
  rcases e3 with ⟨rfl, i1, hi1, h1, ev, a0, a9, -⟩ | ⟨rfl, h1⟩
  · rw [if_neg one_ne, if_pos (show inb (3 * hm1 99 19 + nI 0) 15 = true by rw [h1.mC, c3 C hC 0 (by omega)]; exact inb_n (by omega) (by omega))]
    simp only [h1.mC, c3 C hC 0 (by omega), cl_n (show 3 * C + 0 < 2 ^ 31 by omega), ev, nI_s]
    have h1' := p_put h1 a (k := 3 * C + 0) (by omega)
    rw [m_c1 _ _ 1 (by omega)]
    obtain ⟨b, hx2, r, hm2, e1, e2, e3⟩ := p_num h1' (g := 99) (by decide)
    rw [e1, e2, Option.bind_some, Option.bind_some]
    dsimp only
    rcases e3 with ⟨rfl, i2, hi2, h2, ev2, b0, b9, f2⟩ | ⟨rfl, h2⟩
    · rw [if_neg one_ne, if_pos (show inb (3 * hm2 99 19 + nI 1) 15 = true by rw [h2.mC, c3 C hC 1 (by omega)]; exact inb_n (by omega) (by omega))]
      simp only [h2.mC, c3 C hC 1 (by omega), cl_n (show 3 * C + 1 < 2 ^ 31 by omega), ev2, nI_s]
      have h2' := p_put h2 b (k := 3 * C + 1) (by omega)
      rw [m_c1 _ _ 2 (by omega)]
      obtain ⟨c, hx3, r, hm3, e1, e2, e3⟩ := p_num h2' (g := 99) (by decide)
      rw [e1, e2, Option.bind_some, Option.bind_some]
      dsimp only
      rcases e3 with ⟨rfl, i3, hi3, h3, ev3, c0, c9, f3⟩ | ⟨rfl, h3⟩
      · rw [if_neg one_ne, if_pos (show inb (3 * hm3 99 19 + nI 2) 15 = true by rw [h3.mC, c3 C hC 2 (by omega)]; exact inb_n (by omega) (by omega))]
        simp only [h3.mC, c3 C hC 2 (by omega), cl_n (show 3 * C + 2 < 2 ^ 31 by omega), ev3, nI_s]
        have h3' := p_put h3 c (k := 3 * C + 2) (by omega)
        rw [f_Mo_takesCustomer_L2, if_pos (by decide), x_addCustomer a b c hC h3.xC, Option.bind_some]
        dsimp only
        have em : up hm3 108 (3 * C + 2) c 99 19 = nI C := h3.mC
        rw [em, nI_s]
        have k1 : up hm3 108 (3 * C + 2) c 108 (3 * C) = a := by rw [up_eq, upd_ne (by omega), f3 108 (by omega), up_eq, upd_ne (by omega), f2 108 (by omega), up_eq, Nat.add_zero, upd_eq]
        have k2 : up hm3 108 (3 * C + 2) c 108 (3 * C + 1) = b := by rw [up_eq, upd_ne (by omega), f3 108 (by omega), up_eq, upd_eq]
        have k3 : up hm3 108 (3 * C + 2) c 108 (3 * C + 2) = c := by rw [up_eq, upd_eq]
        exact w_end (p_addCustomer h3' k1 k2 k3 ⟨a0, a9⟩ ⟨b0, b9⟩ ⟨c0, c9⟩ hC) (by omega)
      · rw [if_pos rfl]
        exact g_cust3 h3 a b c
    · rw [if_pos rfl]
      exact g_cust2 h2 a b
  · rw [if_pos rfl]
    exact g_cust1 h1 a
theorem allp : ∀ P, P < 9 → ((1 : Int32) <<< (nI P &&& 31)) - 1 = nI (2 ^ P - 1) := by decide
theorem allp0 : ∀ P, P < 9 → 0 ≤ (nI (2 ^ P - 1)).toInt ∧ (nI (2 ^ P - 1)).toInt < (2 ^ P : Nat) := by decide
theorem p_task {T : Nat → Int32} {N q : Nat} {hx0 hm0 hx hm : HP} {i P C Tn : Nat} (hP : 1 ≤ P) (hT : Tn < 6) (h : PR T N q hx0 hm0 hx hm i i P C Tn) : OC T N q hx0 hm0 i ((f_Br_allParts hx q).bind fun p38 => (f_Re_readNumber p38.2 p38.1).bind fun p40 => (f_Br_addTask p40.2 q p40.1).bind fun p42 => (f_Re_readWord p42.2 59).bind fun p44 => some (0, p44.2)) (fw (f_Mo_takesTask hm)) := by
  have h8 := h.hP
  unfold f_Mo_takesTask
  rw [x_all h.xP, h.mP, allp P (by omega), Option.bind_some]
  dsimp only
  obtain ⟨g0, g1⟩ := allp0 P (by omega)
  obtain ⟨a, hx1, r, hm1, e1, e2, e3⟩ := p_num h (g := nI (2 ^ P - 1)) g0
  rw [e1, e2, Option.bind_some, Option.bind_some]
  dsimp only
  rcases e3 with ⟨rfl, i1, hi1, h1, ev, a0, a9, -⟩ | ⟨rfl, h1⟩
  · rw [if_neg one_ne, if_pos (show inb (hm1 99 21) 6 = true by rw [h1.mT]; exact inb_n hT (by omega))]
    have em : up hm1 109 Tn a 99 21 = nI Tn := h1.mT
    simp only [h1.mT, cl_n (show Tn < 2 ^ 31 by omega), ev]
    simp only [em, nI_s]
    rw [x_addTask a hT h1.xT, Option.bind_some]
    dsimp only
    obtain ⟨n, hn, hv⟩ := of_rg (n := 2 ^ P) a0 (by omega)
    exact w_end (p_addTask h1 hn hv hT hP) (by omega)
  · rw [if_pos rfl]
    obtain ⟨f, p, h1, h2, h3⟩ := h1
    obtain ⟨hx2, e3, k1⟩ := g_addTask h2 a
    rw [e3, Option.bind_some]
    exact f_end ⟨f, p, h1, k1, h3⟩
theorem OC.lt {T : Nat → Int32} {N q : Nat} {hx0 hm0 : HP} {i i0 : Nat} {x y : Option (Int32 × HP)} (h : OC T N q hx0 hm0 i x y) (hi : i0 ≤ i) : OC T N q hx0 hm0 i0 x y := by
  obtain ⟨hx', r, hm', e1, e2, e3⟩ := h
  refine ⟨hx', r, hm', e1, e2, ?_⟩
  rcases e3 with ⟨r1, i', P', C', T', h1, h2⟩ | k
  · exact Or.inl ⟨r1, i', P', C', T', by omega, h2⟩
  · exact Or.inr k
theorem OC.x0 {T : Nat → Int32} {N q : Nat} {hx0 hm0 : HP} {i : Nat} {x y : Option (Int32 × HP)} (h : OC T N q hx0 hm0 i x y) : OC T N q hx0 hm0 i (x.bind fun p => some (0, p.2)) y := by
  obtain ⟨hx', r, hm', e1, e2, e3⟩ := h
  rw [e1]
  exact ⟨hx', r, hm', rfl, e2, e3⟩
theorem OC.fail {T : Nat → Int32} {N q : Nat} {hx0 hm0 hx hm : HP} {i j i0 P C Tn : Nat} (h : PR T N q hx0 hm0 hx hm i j P C Tn) (h13 : hm 99 13 = nI i) {n : Int32} (hn : n ≠ 0) : OC T N q hx0 hm0 i0 ((f_Re_fail hx n (hx 1 4)).bind fun p => some (0, p.2)) ((f_Mo_fails hm n (hm 99 13)).bind fun p12 => rz p12.1 p12.2) := by
  obtain ⟨hx', hm', e1, e2, e3⟩ := p_fail h h13 hn
  rw [e1, e2]
  exact ⟨hx', 0, hm', rfl, rfl, Or.inr ⟨rfl, e3⟩⟩
theorem isT0 {hx : HP} {q : Nat} (h : hx q 5 = nI 0) : f_Br_isThere hx q = some (0, hx) := by
  unfold f_Br_isThere
  rw [h, if_pos (by decide)]
theorem isT1 {hx : HP} {q P : Nat} (h : hx q 5 = nI P) (h1 : 1 ≤ P) (h8 : P ≤ 8) : f_Br_isThere hx q = some (1, hx) := by
  unfold f_Br_isThere
  rw [h, if_neg (by exact n_nle P 0 (by omega) (by omega))]
theorem p_clause {T : Nat → Int32} {N q : Nat} {hx0 hm0 hx hm : HP} {i P C Tn : Nat} (h : PR T N q hx0 hm0 hx hm i i P C Tn) (h32 : ltr T N i ≠ 32) : OC T N q hx0 hm0 i (f_Re_readClause hx q) (f_Mo_takesClause hm) := by
  have hP := h.hP
  have hC := h.hC
  have hT := h.hT
  obtain ⟨hm1, e1, h1, e13⟩ := p_here h
  rw [sk_idd h32] at e1 h1 e13
  unfold f_Re_readClause f_Mo_takesClause
  rw [x_letter h.rx, e1, Option.bind_some, Option.bind_some]
  dsimp only
  by_cases z : P = 0
  · subst z
    rw [isT0 h.xP, if_pos (show hm1 99 17 ≤ 0 by rw [h1.mP]; decide), if_pos (show hm1 99 17 ≤ 0 by rw [h1.mP]; decide)]
    by_cases b : ltr T N i = 98
    · rw [if_pos b, if_pos b, Option.bind_some]
      dsimp only
      rw [if_pos rfl]
      exact (OC.lt (p_parts (h.p0 rfl) (p_step h1 (ltr_lt b (by decide)))) (by omega)).x0
    · rw [if_neg b, if_neg b, Option.bind_some]
      dsimp only
      rw [if_pos rfl]
      exact OC.fail h1 e13 one_ne
  · rw [isT1 h.xP (by omega) hP, if_neg (show ¬ hm1 99 17 ≤ 0 by rw [h1.mP]; exact n_nle P 0 (by omega) (by omega)), if_neg (show ¬ hm1 99 17 ≤ 0 by rw [h1.mP]; exact n_nle P 0 (by omega) (by omega))]
    by_cases b : ltr T N i = 98
    · rw [if_pos b, if_pos b, Option.bind_some]
      dsimp only
      rw [if_neg one_ne, isT1 h.xP (by omega) hP, Option.bind_some]
      dsimp only
      rw [if_neg one_ne, if_neg (by rw [b]; decide), if_neg (by rw [b]; decide)]
      exact OC.fail h1 e13 (by decide)
    · rw [if_neg b, if_neg b, Option.bind_some]
      dsimp only
      rw [if_neg one_ne]
      by_cases c : ltr T N i = 99
      · rw [if_pos c, if_pos c]
        by_cases c5 : C = 5
        · subst c5
          rw [if_pos (show (5 : Int32) ≤ hx q 6 by rw [h.xC]; decide), if_neg (by rw [c]; decide), if_pos (show hm1 99 19 = 5 by rw [h1.mC]; rfl)]
          exact OC.fail h1 e13 (by decide)
        · rw [if_neg (show ¬ (5 : Int32) ≤ hx q 6 by rw [h.xC]; exact n_nle 5 C (by omega) (by omega)), if_neg (show ¬ hm1 99 19 = 5 by rw [h1.mC]; exact n_ne C 5 c5 (by omega) (by omega))]
          exact (OC.lt (p_customer (by omega) (p_step h1 (ltr_lt c (by decide)))) (by omega)).x0
      · rw [if_neg c, if_neg c]
        by_cases t : ltr T N i = 116
        · rw [if_pos t, if_pos t]
          by_cases t6 : Tn = 6
          · subst t6
            rw [if_pos (show (6 : Int32) ≤ hx q 7 by rw [h.xT]; decide), if_pos (show hm1 99 21 = 6 by rw [h1.mT]; rfl)]
            exact OC.fail h1 e13 (by decide)
          · rw [if_neg (show ¬ (6 : Int32) ≤ hx q 7 by rw [h.xT]; exact n_nle 6 Tn (by omega) (by omega)), if_neg (show ¬ hm1 99 21 = 6 by rw [h1.mT]; exact n_ne Tn 6 t6 (by omega) (by omega))]
            exact OC.lt (p_task (by omega) (by omega) (p_step h1 (ltr_lt t (by decide)))) (by omega)
        · rw [if_neg t, if_neg t]
          exact OC.fail h1 e13 one_ne
theorem p_loop {T : Nat → Int32} {N q : Nat} {hx0 hm0 : HP} (hT : ∀ k, k < N → T k ≠ -1) (Kx : HP → Option (Int32 × HP)) (Km : HP → Int32 → Option (Int32 × HP)) : ∀ d n m hx hm i j k P C Tn, N - i ≤ d → d < n → d + 1 < m → k ≤ i → sk T N j = i → ltr T N i ≠ 32 → PR T N q hx0 hm0 hx hm i j P C Tn → ∃ hx' hm' r, f_Re_readInto_L25 q Kx n hx (nI k) = Kx hx' ∧ f_Mo_branch_L32 Km m hm 1 = Km hm' r ∧ ((r = 1 ∧ ∃ P C Tn, PR T N q hx0 hm0 hx' hm' N N P C Tn) ∨ (r = 0 ∧ FT T N q hx0 hm0 hx' hm')) := by
  intro d
  induction d with
  | zero =>
    intro n m hx hm i j k P C Tn hd hn hmm hk hs h32 h
    obtain ⟨n, rfl⟩ : ∃ x, n = x + 1 := ⟨n - 1, by omega⟩
    obtain ⟨m, rfl⟩ : ∃ x, m = x + 1 := ⟨m - 1, by omega⟩
    have hN := h.rx.1
    have hi := h.rx.2.1
    have iN : i = N := by omega
    obtain ⟨hm1, e1, h1, e13⟩ := p_here h
    rw [hs] at e1 h1
    rw [iN] at h1 e1
    rw [f_Re_readInto_L25, f_Mo_branch_L32, if_pos (show hx 1 1 ≤ hx 1 4 by rw [h.rx.2.2.1, h.rx.2.2.2.1]; exact n_le N i (by omega) (by omega)), ite_self, if_neg one_ne, e1, Option.bind_some]
    dsimp only
    rw [if_pos (by unfold ltr; rw [if_neg (by omega)])]
    exact ⟨_, _, _, rfl, rfl, Or.inl ⟨rfl, _, _, _, h1⟩⟩
  | succ d ih =>
    intro n m hx hm i j k P C Tn hd hn hmm hk hs h32 h
    obtain ⟨n, rfl⟩ : ∃ x, n = x + 1 := ⟨n - 1, by omega⟩
    obtain ⟨m, rfl⟩ : ∃ x, m = x + 1 := ⟨m - 1, by omega⟩
    have hN := h.rx.1
    have hi := h.rx.2.1
    obtain ⟨hm1, e1, h1, e13⟩ := p_here h
    rw [hs] at e1 h1
    rw [f_Re_readInto_L25, f_Mo_branch_L32, if_neg one_ne, e1, Option.bind_some]
    dsimp only
    by_cases iN : i = N
    · rw [if_pos (show hx 1 1 ≤ hx 1 4 by rw [h.rx.2.2.1, h.rx.2.2.2.1]; exact n_le N i (by omega) (by omega)), ite_self, if_pos (by unfold ltr; rw [if_neg (by omega)])]
      rw [iN] at h1
      exact ⟨_, _, _, rfl, rfl, Or.inl ⟨rfl, _, _, _, h1⟩⟩
    · rw [if_neg (by exact n_nle 240 k (by omega) (by omega)), if_neg (show ¬ hx 1 1 ≤ hx 1 4 by rw [h.rx.2.2.1, h.rx.2.2.2.1]; exact n_nle N i (by omega) (by omega)), if_pos h.x3, if_neg (by unfold ltr; rw [if_pos (by omega)]; exact hT i (by omega))]
      obtain ⟨hx2, r, hm2, f1, f2, f3⟩ := p_clause h1 h32
      rw [f1, f2, Option.bind_some, Option.bind_some]
      dsimp only
      rcases f3 with ⟨rfl, i2, P2, C2, T2, hi2, h2⟩ | ⟨rfl, h2⟩
      · obtain ⟨hx3, g1, h3⟩ := p_skip h2
        obtain ⟨s1, s2, s3⟩ := sk_spec T h2.rx.2.1
        rw [g1, Option.bind_some]
        dsimp only
        rw [nI_s]
        exact ih n m hx3 hm2 (sk T N i2) i2 (k + 1) P2 C2 T2 (by omega) (by omega) (by omega) (by omega) rfl s3 h3
      · obtain ⟨f, p, k1, k2, k3⟩ := h2
        obtain ⟨hx3, g1, h3⟩ := g_skip k2
        rw [g1, Option.bind_some]
        dsimp only
        obtain ⟨n, rfl⟩ : ∃ x, n = x + 1 := ⟨n - 1, by omega⟩
        obtain ⟨m, rfl⟩ : ∃ x, m = x + 1 := ⟨m - 1, by omega⟩
        rw [f_Re_readInto_L25, f_Mo_branch_L32, if_pos rfl, if_neg (show ¬ hx3 1 3 = 0 by rw [h3.2.2.1.1]; exact k1), ite_self, ite_self]
        exact ⟨_, _, _, rfl, rfl, Or.inr ⟨rfl, f, p, k1, h3, k3⟩⟩
