def BX2 (hx h1 : HP) (b b' C : Nat) : Prop := (∀ c, c ≠ 0 → c ≠ 1 → c ≠ 3 → c ≠ 4 → c ≠ 5 → c ≠ 6 → c ≠ 68 → c ≠ 86 → h1 c = hx c) ∧ (h1 0 8 = nI b' ∧ h1 0 9 = nI b ∧ h1 0 10 = hx 1 2 ∧ h1 0 11 = hx 0 11 ∧ h1 1 1 = 0 ∧ h1 3 2 = 0) ∧ (∀ c, c < 5 → h1 4 c = if c < C then hx (b' + 2) c else 0) ∧ (∀ k, k < 25 → h1 5 k = 0) ∧ (h1 6 1 = hx 6 1 ∧ h1 6 2 = 0) ∧ (h1 68 7 = 0 ∧ h1 68 8 = 0 ∧ h1 68 9 = 0 ∧ h1 68 10 = 0) ∧ ∀ j, j < 2 → h1 86 j = 0
theorem b_L85M (K : HP → Option (Int32 × HP)) (hp : HP) (M : Option (Int32 × HP) → Prop) (H : ∀ h : HP, (∀ c, c ≠ 86 → h c = hp c) ∧ (∀ j, j < 2 → h 86 j = 0) → M (K h)) : M (f_BA_branch_L85 K FU hp 0) := by
  obtain ⟨h, e, a⟩ := b_L85 K hp
  rw [e]
  exact H h a
theorem isBt {b : Nat} (h : b = 87 ∨ b = 93) : isB b = true := by
  rcases h with rfl | rfl <;> rfl
theorem x_branch1 {hp hx : HP} {b b' C : Nat} (hb : (b = 87 ∧ b' = 93) ∨ (b = 93 ∧ b' = 87)) (e9 : hp 0 9 = nI b') (eA : f_Re_readInto hp b' = some (hx 1 3, hx)) (z : hx 1 3 = 0) (x8 : hx 0 8 = nI b) (x9 : hx 0 9 = nI b') (xC : hx b' 6 = nI C) (hC : C ≤ 5) : ∃ h1, f_BA_branch hp = some (nI C, h1) ∧ BX2 hx h1 b b' C := by
  have k9 : (hp 0 9).toNatClampNeg = b' := by rw [e9]; exact cl_n (by omega)
  unfold f_BA_branch
  rw [if_pos (show isB (hp 0 9).toNatClampNeg = true by rw [k9]; exact isBt (by omega)), k9, eA, Option.bind_some]
  dsimp only
  rw [if_pos z]
  have j8 : (up (up hx 0 10 (hx 1 2)) 1 1 (0 : Int32) 0 8).toNatClampNeg = b := by
    show (hx 0 8).toNatClampNeg = b
    rw [x8]; exact cl_n (by omega)
  have j9 : (up (up hx 0 10 (hx 1 2)) 1 1 (0 : Int32) 0 9).toNatClampNeg = b' := by
    show (hx 0 9).toNatClampNeg = b'
    rw [x9]; exact cl_n (by omega)
  rw [if_pos (show isB (up (up hx 0 10 (hx 1 2)) 1 1 (0 : Int32) 0 8).toNatClampNeg = true by rw [j8]; exact isBt (by omega)), if_pos (show isB (up (up hx 0 10 (hx 1 2)) 1 1 (0 : Int32) 0 9).toNatClampNeg = true by rw [j9]; exact isBt (by omega))]
  simp only [j8, j9]
  have j3 : (up (up (up (up hx 0 10 (hx 1 2)) 1 1 (0 : Int32)) 0 8 (nI b')) 0 9 (nI b) 0 8).toNatClampNeg = b' := by
    show (nI b').toNatClampNeg = b'
    exact cl_n (by omega)
  rw [if_pos (show isB (up (up (up (up hx 0 10 (hx 1 2)) 1 1 (0 : Int32)) 0 8 (nI b')) 0 9 (nI b) 0 8).toNatClampNeg = true by rw [j3]; exact isBt (by omega)), j3]
  obtain ⟨h3, e3⟩ : ∃ h3, h3 = up (up (up (up hx 0 10 (hx 1 2)) 1 1 (0 : Int32)) 0 8 (nI b')) 0 9 (nI b) := ⟨_, rfl⟩
  rw [← e3]
  have o3 : ∀ c, c ≠ 0 → c ≠ 1 → h3 c = hx c := fun c h1 h2 => by rw [e3, up_ne h1, up_ne h1, up_ne h2, up_ne h1]
  obtain ⟨h4, e4, a1, a2, a3, a4⟩ := b_begin h3 (q := b') (C := C) (by omega) hC (by rw [o3 b' (by omega) (by omega)]; exact xC)
  rw [e4, Option.bind_some]
  unfold f_Pa_clear f_Sl_clear
  rw [Option.bind_some, Option.bind_some]
  dsimp only
  refine b_L85M _ _ (fun x => ∃ h1, x = some (nI C, h1) ∧ BX2 hx h1 b b' C) ?_
  intro h5 ⟨b1, b2⟩
  have o5 : ∀ c, c ≠ 0 → c ≠ 1 → c ≠ 3 → c ≠ 4 → c ≠ 5 → c ≠ 6 → c ≠ 68 → c ≠ 86 → h5 c = hx c := fun c h0 h1 h3 h4 h5 h6 h68 h86 => by rw [b1 c h86, up_ne h68, up_ne h68, up_ne h68, up_ne h68, up_ne h6, a1 c h3 h4 h5, o3 c h0 h1]
  have f0 : h5 0 = h3 0 := by rw [b1 0 (by omega), up_ne (by omega), up_ne (by omega), up_ne (by omega), up_ne (by omega), up_ne (by omega), a1 0 (by omega) (by omega) (by omega)]
  have f1 : h5 1 = h3 1 := by rw [b1 1 (by omega), up_ne (by omega), up_ne (by omega), up_ne (by omega), up_ne (by omega), up_ne (by omega), a1 1 (by omega) (by omega) (by omega)]
  have g8 : (h5 0 8).toNatClampNeg = b' := by rw [f0, e3]; exact j3
  rw [if_pos (show isB (h5 0 8).toNatClampNeg = true by rw [g8]; exact isBt (by omega)), g8, o5 b' (by omega) (by omega) (by omega) (by omega) (by omega) (by omega) (by omega) (by omega), xC]
  refine ⟨h5, rfl, o5, ⟨by rw [f0, e3]; rfl, by rw [f0, e3]; rfl, by rw [f0, e3]; rfl, by rw [f0, e3]; rfl, by rw [f1, e3]; rfl, ?_⟩, fun c hc => ?_, fun k hk => ?_, ⟨?_, ?_⟩, ⟨?_, ?_, ?_, ?_⟩, b2⟩
  · rw [b1 3 (by omega)]; exact a2
  · rw [b1 4 (by omega), ← o3 (b' + 2) (by omega) (by omega)]; exact a3 c hc
  · rw [b1 5 (by omega)]; exact a4 k hk
  · rw [b1 6 (by omega)]
    show h4 6 1 = _
    rw [a1 6 (by omega) (by omega) (by omega), o3 6 (by omega) (by omega)]
  · rw [b1 6 (by omega)]; rfl
  · rw [b1 68 (by omega)]; rfl
  · rw [b1 68 (by omega)]; rfl
  · rw [b1 68 (by omega)]; rfl
  · rw [b1 68 (by omega)]; rfl
theorem Rbr_cong2 (hp : HP) {hp' : HP} {b P Cn Tn : Nat} (h : ∀ q, (b ≤ q ∧ q ≤ b + 5) ∨ (102 ≤ q ∧ q ≤ 105) → hp' q = hp q) (h1 : hp' 99 3 = hp 99 3) (h2 : hp' 99 5 = hp 99 5) (h3 : hp' 99 8 = hp 99 8) (k : Rbr hp b P Cn Tn) : Rbr hp' b P Cn Tn := by
  unfold Rbr at *
  rw [h b (by omega), h (b + 1) (by omega), h (b + 3) (by omega), h (b + 4) (by omega), h (b + 5) (by omega), h 102 (by omega), h 103 (by omega), h 104 (by omega), h 105 (by omega), h1, h2, h3]
  exact k
theorem S_branch {hp : HP} (h : R hp) : Sim hp (fun x => f_BA_branch x) (fun x => f_Mo_branch x) := by
  obtain ⟨b, b', P, Cn, Tn, hr, ⟨N, hN, t1, t2, t3⟩, hbr, hst, him, hpa, hsl⟩ := h
  have hb := hr.1
  have hT : ∀ k, k < N → hp 106 k ≠ -1 := fun k hk e => by
    have := (t3 k hk).2.1
    rw [e] at this
    exact absurd this (by decide)
  have hq : b' = 87 ∨ b' = 93 := by omega
  obtain ⟨hx, hm0, r0, eA, -, h0⟩ := p_into (T := hp 106) (hx := hp) (hm := hp) hq hN hT t1 (fun j hj => (t3 j hj).1) t2 (fun _ _ => rfl) KM
  have xf : XF b' hp hx := by
    rcases h0 with ⟨-, P, C, Tn, k⟩ | ⟨-, f, p, -, k, -⟩
    · exact k.xf
    · exact k.2.2.2.2
  have k9 : (hp 0 9).toNatClampNeg = b' := by rw [hr.2.2.1]; exact cl_n (by omega)
  rcases h0 with ⟨-, P', C', Tn', k⟩ | ⟨-, f, p, hf, k, -⟩
  · -- the text is a branch
    obtain ⟨h1, e1, a1, ⟨a2, a3, a4, a5, a6, a7⟩, a8, a9, a10, a11, a12⟩ := x_branch1 (hp := hp) (hx := hx) (C := C') hb hr.2.2.1 eA k.x3 (by rw [xf.1 0 (by omega) (by omega)]; exact hr.2.1) (by rw [xf.1 0 (by omega) (by omega)]; exact hr.2.2.1) k.xC k.hC
    have o1 : ∀ c, 98 < c → h1 c = hp c := fun c hc => by rw [a1 c (by omega) (by omega) (by omega) (by omega) (by omega) (by omega) (by omega) (by omega)]; exact xf.1 c (by omega) (by omega)
    obtain ⟨hx', hm, r, eB, eM, h2⟩ := p_into (T := hp 106) (hx := hp) (hm := h1) hq hN hT t1 (fun j hj => (t3 j hj).1) (by rw [o1 99 (by omega)]; exact t2) (fun j _ => by rw [o1 106 (by omega)]) KM
    have ex : hx' = hx := by
      rw [eA] at eB
      injection eB with eB
      injection eB with _ eB
      exact eB.symm
    rw [ex] at h2
    rcases h2 with ⟨rfl, P2, C2, T2, m⟩ | ⟨rfl, f, p, hf, m, -⟩
    · have eC : C2 = C' := by
        have := m.xC
        rw [k.xC] at this
        have i1 := k.hC
        have i2 := m.hC
        exact ((nI_eq (by omega) (by omega)).mp this).symm
      subst eC
      obtain ⟨h3, e3, c1, ⟨c2, c3, c4, c5, c6, c7, c8, c9, c10, c11⟩, c12, c13, c14, c15, ⟨c16, c17⟩, c18, c19, c20⟩ := KM_1 m.hP m.hC m.hT m.mP m.mC m.mT
      refine ⟨nI C2, h1, h3, e1, ?_, ?_⟩
      · show f_Mo_branch h1 = _
        rw [m_branch_KM, eM, e3]
      · have o3 : ∀ c, c < 99 → h3 c = h1 c := fun c hc => by rw [c1 c (by omega)]; exact m.mf.1 c (by omega) (by omega) (by omega) (by omega)
        have ox : ∀ c, (b' ≤ c ∧ c ≤ b' + 5) → h3 c = hx c := fun c hc => by rw [o3 c (by omega)]; exact a1 c (by omega) (by omega) (by omega) (by omega) (by omega) (by omega) (by omega) (by omega)
        have mC := m.hC
        refine ⟨b', b, P2, C2, T2, ⟨by omega, by rw [o3 0 (by omega)]; exact a2, by rw [o3 0 (by omega)]; exact a3, by rw [o3 0 (by omega), a4, c11, m.m6, k.x2]⟩, ⟨0, by omega, by rw [o3 1 (by omega)]; exact a6, c2, fun i hi => by omega⟩, ⟨⟨m.hP, m.hC, m.hT⟩, ?_, ⟨c3, c4, c5⟩, fun k hk => ?_, fun c hc => ?_, fun t ht => ?_⟩, ⟨⟨?_, fun c hc => ?_, fun k hk => ?_, fun c d hc hd => ?_, fun c d hc hd _ => ?_⟩, ?_, ?_⟩, fun i hi => Or.inl ⟨?_, ?_⟩, ?_, ?_⟩
        · rw [ox b' (by omega)]; exact ⟨m.xP, m.xC, m.xT⟩
        · rw [ox (b' + 1) (by omega), c18 k hk]; exact m.pp k hk
        · rw [ox (b' + 3) (by omega), ox (b' + 4) (by omega), (c19 c hc).1, (c19 c hc).2]
          have q := m.cc c hc
          exact ⟨q.1.2.1, q.1.2.2, q.2.2.1, q.2.2.2⟩
        · rw [ox (b' + 5) (by omega), c20 t ht]; exact m.tt t ht
        · rw [o3 3 (by omega), a7]; exact c12.symm
        · rw [o3 4 (by omega), a8 c hc, Nat.zero_add, c13 c hc]
          by_cases z : c < C2
          · have q := m.cc c z
            rw [if_pos z, if_pos z, q.1.1]
            refine ⟨rfl, ?_⟩
            have i500 : (500 : Int32).toInt = 500 := rfl
            rw [sub_i (by rw [i500]; omega), i500]
            omega
          · rw [if_neg z, if_neg z]
            exact ⟨rfl, by decide, by decide⟩
        · rw [o3 5 (by omega), a9 k hk, Nat.zero_add, c14 k hk]
        · rw [o3 5 (by omega), a9 _ (by omega), a9 _ (by omega)]; rfl
        · rw [o3 5 (by omega), a9 _ (by omega)]
        · rw [o3 0 (by omega), a5, c15, m.mf.1 100 (by omega) (by omega) (by omega) (by omega), o1 100 (by omega), xf.1 0 (by omega) (by omega)]; exact hst.2.1
        · rw [c15, m.mf.1 100 (by omega) (by omega) (by omega) (by omega), o1 100 (by omega)]; exact hst.2.2
        · rw [o3 86 (by omega)]; exact a12 i hi
        · rcases (show i = 0 ∨ i = 1 by omega) with rfl | rfl
          · exact c16
          · exact c17
        · obtain ⟨nx, ct, g1, g2, g3, g4, g5, g6⟩ := hpa
          refine Rpa_0 g1 ?_ ?_ c10
          · rw [o3 6 (by omega), a10.1, xf.1 6 (by omega) (by omega)]; exact g3
          · rw [o3 6 (by omega)]; exact a10.2
        · refine ⟨0, 0, 0, 0, by omega, ?_, ⟨c6, c7, c8, c9⟩, fun i hi => by omega, fun i hi => by omega, fun i hi => by omega, fun i hi => by omega⟩
          rw [o3 68 (by omega)]; exact a11
    · exact absurd (m.2.2.1.1.symm.trans k.x3) hf
  · -- a fault
    have z : ¬ hx 1 3 = 0 := by rw [k.2.2.1.1]; exact hf
    have e1 : f_BA_branch hp = some ((-10 : Int32) - hx 1 3, up (up hx 0 10 (hx 1 2)) 1 1 (0 : Int32)) := by
      unfold f_BA_branch
      rw [if_pos (show isB (hp 0 9).toNatClampNeg = true by rw [k9]; exact isBt (by omega)), k9, eA, Option.bind_some]
      dsimp only
      rw [if_neg z]
    obtain ⟨h1, eh⟩ : ∃ h1, h1 = up (up hx 0 10 (hx 1 2)) 1 1 (0 : Int32) := ⟨_, rfl⟩
    rw [← eh] at e1
    have o1 : ∀ c, c ≠ 0 → c ≠ 1 → h1 c = hx c := fun c h0 h1 => by rw [eh, up_ne h1, up_ne h0]
    have o2 : ∀ c, c ≠ 0 → c ≠ 1 → (c < b' ∨ b' + 5 < c) → h1 c = hp c := fun c h0 h1 h2 => by rw [o1 c h0 h1]; exact xf.1 c h1 h2
    obtain ⟨hx', hm, r, eB, eM, h2⟩ := p_into (T := hp 106) (hx := hp) (hm := h1) hq hN hT t1 (fun j hj => (t3 j hj).1) (by rw [o2 99 (by omega) (by omega) (by omega)]; exact t2) (fun j _ => by rw [o2 106 (by omega) (by omega) (by omega)]) KM
    have ex : hx' = hx := by
      rw [eA] at eB
      injection eB with eB
      injection eB with _ eB
      exact eB.symm
    rw [ex] at h2
    rcases h2 with ⟨rfl, P2, C2, T2, m⟩ | ⟨rfl, f2, p2, hf2, m, mf, m5, m6⟩
    · exact absurd m.x3 z
    · refine ⟨(-10 : Int32) - hx 1 3, h1, up hm 99 11 0, e1, ?_, ?_⟩
      · show f_Mo_branch h1 = _
        rw [m_branch_KM, eM]
        unfold KM
        rw [if_pos rfl]
        have : up hm 99 11 (0 : Int32) 99 15 = hx 1 3 := by
          show hm 99 15 = _
          rw [m5, m.2.2.1.1]
        rw [this]
      · have o3 : ∀ c, c ≠ 0 → c ≠ 1 → c ≠ 99 → c ≠ 107 → c ≠ 108 → c ≠ 109 → (c < b' ∨ b' + 5 < c) → up hm 99 11 (0 : Int32) c = hp c := fun c i0 i1 i2 i3 i4 i5 i6 => by rw [up_ne i2, mf.1 c i2 i3 i4 i5]; exact o2 c i0 i1 i6
        have f0 : up hm 99 11 (0 : Int32) 0 = up hx 0 10 (hx 1 2) 0 := by rw [up_ne (by omega), mf.1 0 (by omega) (by omega) (by omega) (by omega), eh, up_ne (by omega)]
        have f9 : ∀ j, j < 11 ∨ 21 < j → up hm 99 11 (0 : Int32) 99 j = hp 99 j := fun j hj => by rw [up_eq, upd_ne (by omega), mf.2 j (by omega), o2 99 (by omega) (by omega) (by omega)]
        have x0 : hx 0 = hp 0 := xf.1 0 (by omega) (by omega)
        refine ⟨b, b', P, Cn, Tn, ⟨hb, by rw [f0]; show hx 0 8 = _; rw [x0]; exact hr.2.1, by rw [f0]; show hx 0 9 = _; rw [x0]; exact hr.2.2.1, ?_⟩, ⟨0, by omega, ?_, rfl, fun i hi => by omega⟩, Rbr_cong2 hp (fun q hq => o3 q (by omega) (by omega) (by omega) (by omega) (by omega) (by omega) (by omega)) (f9 3 (by omega)) (f9 5 (by omega)) (f9 8 (by omega)) hbr, Rst_cong hp (fun q hq => o3 q (by omega) (by omega) (by omega) (by omega) (by omega) (by omega) (by omega)) ?_ hst, Rim_cong hp (fun q hq => o3 q (by omega) (by omega) (by omega) (by omega) (by omega) (by omega) (by omega)) him, Rpa_cong hp (fun q hq => o3 q (by omega) (by omega) (by omega) (by omega) (by omega) (by omega) (by omega)) (f9 2 (by omega)) hpa, Rsl_cong hp (fun q hq => o3 q (by omega) (by omega) (by omega) (by omega) (by omega) (by omega) (by omega)) (f9 23 (by omega)) (f9 25 (by omega)) (f9 29 (by omega)) (f9 32 (by omega)) hsl⟩
        · rw [f0]
          show hx 1 2 = hm 99 16
          rw [m6, m.2.2.1.2]
        · rw [up_ne (by omega), mf.1 1 (by omega) (by omega) (by omega) (by omega), eh]; rfl
        · rw [f0]; show hx 0 11 = _; rw [x0]
