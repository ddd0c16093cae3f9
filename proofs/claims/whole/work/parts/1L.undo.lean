theorem rg_u {nx ct : Nat} (h1 : nx < 20) (h2 : 1 ≤ ct) (h3 : ct ≤ 20) : rg nx ct (ct - 1) = (nx + 19) % 20 := by
  unfold rg; omega
theorem rg_v {nx ct j : Nat} (h1 : nx < 20) (h3 : ct ≤ 20) (hj : j < ct - 1) : rg ((nx + 19) % 20) (ct - 1) j = rg nx ct j := by
  unfold rg; omega
theorem S_undo {hp : HP} (h : R hp) : Sim hp (fun x => f_BA_undo x) (fun x => f_Mo_undo x) := by
  have hR := h
  obtain ⟨b, b', P, Cn, Tn, hr, htx, hbr, hst, him, ⟨nx, ct, p1, p2, p3, p4, p5, p6⟩, hsl⟩ := h
  have hb := Rr_or hr
  by_cases hc : ct = 0
  · subst hc
    refine Sim.pure (-1000000003) ?_ ?_ hR
    · show f_BA_undo hp = _
      unfold f_BA_undo
      rw [if_pos (by rw [p4]; rfl)]
    · show f_Mo_undo hp = _
      unfold f_Mo_undo
      rw [if_pos (by rw [p5]; rfl)]
  · have hm20 : (nx + 19) % 20 < 20 := Nat.mod_lt _ (by decide)
    obtain ⟨hpc, c1, c2, c3, c4, c5⟩ := x_copy (up hp 6 1 (nI ((nx + 19) % 20))) (q0 := 3) (q1 := 7 + 1 + 3 * ((nx + 19) % 20)) (by omega)
    have e62 : hpc 6 2 = nI ct := by rw [c2 6 (by omega) (by omega) (by omega)]; exact p4
    have f0 : ∀ q, q ≠ 3 → q ≠ 4 → q ≠ 5 → q ≠ 6 → hpc q = hp q := fun q q3 q4 q5 q6 => by rw [c2 q q3 q4 q5, up_ap, if_neg q6]
    have dm : nI ct - (1 : Int32) = nI (ct - 1) := by
      show nI ct - nI 1 = _
      exact pk_sub (by omega)
    generalize hx : up hpc 6 2 (nI (ct - 1)) = hpx
    have fx : ∀ q, q ≠ 3 → q ≠ 4 → q ≠ 5 → q ≠ 6 → hpx q = hp q := fun q q3 q4 q5 q6 => by rw [← hx, up_ap, if_neg q6]; exact f0 q q3 q4 q5 q6
    have hx1 : f_BA_undo hp = some (nI (ct - 1), hpx) := by
      unfold f_BA_undo f_Pa_popInto
      rw [if_neg (by rw [p4]; exact n_ne ct 0 hc (by omega) (by omega)), if_neg (by rw [p4]; exact n_nle ct 0 (by omega) (by omega)), p3]
      have e1 : (nI nx + (20 : Int32) - (1 : Int32)) - (nI nx + (20 : Int32) - (1 : Int32)) / (20 : Int32) * (20 : Int32) = nI ((nx + 19) % 20) := by
        have e2 : nI nx + (20 : Int32) - (1 : Int32) = nI (nx + 19) := by
          show nI nx + nI 20 - nI 1 = _
          rw [nI_add, pk_sub (by omega)]
          congr 1
        rw [e2, rem20 (by omega)]
      rw [e1]
      have e3 : up hp 6 1 (nI ((nx + 19) % 20)) 6 1 = nI ((nx + 19) % 20) := rfl
      rw [e3, if_pos (inb_n (by omega) (by omega)), cl_n (by omega), if_pos (isS_ring _ hm20), c1, Option.bind_some, Option.bind_some]
      dsimp only
      rw [e62, dm, hx]
      have : hpx 6 2 = nI (ct - 1) := by rw [← hx]; rfl
      rw [this]
    have hW : ∀ j, hpx 100 j = hp 100 j := fun j => by rw [fx 100 (by omega) (by omega) (by omega) (by omega)]
    have e99 : ∀ j, hpx 99 j = hp 99 j := fun j => by rw [fx 99 (by omega) (by omega) (by omega) (by omega)]
    generalize hw2 : upd (cpb (hp 100) (96 + 32 * (ct - 1)) 0) 31 (hp 100 31) = w2
    have hm1 : f_Mo_undo hpx = some (nI (ct - 1), setc (up hpx 99 2 (nI (ct - 1))) 100 w2) := by
      unfold f_Mo_undo
      rw [if_neg (by rw [e99, p5]; exact n_ne ct 0 hc (by omega) (by omega)), e99, p5, dm]
      have e1 : up hpx 99 2 (nI (ct - 1)) 99 2 = nI (ct - 1) := rfl
      have e2 : (96 : Int32) + (32 : Int32) * nI (ct - 1) = nI (96 + 32 * (ct - 1)) := by
        show nI 96 + nI 32 * nI (ct - 1) = _
        rw [pk_mul, nI_add]
      rw [e1, e2, show (0 : Int32) = nI 0 from rfl, m_copy _ (a := 96 + 32 * (ct - 1)) (o := 0) (by omega) (by omega) (by omega), Option.bind_some]
      dsimp only
      rw [up_setc]
      have e3 : up hpx 99 2 (nI (ct - 1)) 100 = hp 100 := by
        show hpx 100 = _
        exact fx 100 (by omega) (by omega) (by omega) (by omega)
      rw [e3, hW, hw2]
      rfl
    have wlo : ∀ i, i < 31 → w2 i = hp 100 (96 + 32 * (ct - 1) + i) := by
      intro i hi
      rw [← hw2, upd_ap, if_neg (by omega)]
      unfold cpb
      rw [if_pos (by omega)]
      congr 1
    have whi : ∀ j, 32 ≤ j → w2 j = hp 100 j := by
      intro j hj
      rw [← hw2, upd_ap, if_neg (by omega)]
      unfold cpb
      rw [if_neg (by omega)]
    have w31 : w2 31 = hp 100 31 := by rw [← hw2, upd_ap, if_pos rfl]
    generalize hh2 : setc (up hpx 99 2 (nI (ct - 1))) 100 w2 = hp2
    have f2 : ∀ q, q ≠ 3 → q ≠ 4 → q ≠ 5 → q ≠ 6 → q ≠ 99 → q ≠ 100 → hp2 q = hp q := fun q q3 q4 q5 q6 q9 q10 => by
      rw [← hh2, setc_ap, if_neg q10, up_ap, if_neg q9]; exact fx q q3 q4 q5 q6
    have f2x : ∀ q, q ≠ 99 → q ≠ 100 → hp2 q = hpx q := fun q q9 q10 => by
      rw [← hh2, setc_ap, if_neg q10, up_ap, if_neg q9]
    have g99 : ∀ j, j ≠ 2 → hp2 99 j = hp 99 j := fun j hj => by
      rw [← hh2]
      show upd (hpx 99) 2 _ j = _
      rw [upd_ap, if_neg hj, e99]
    have g100 : hp2 100 = w2 := by rw [← hh2]; exact setc_at _ _ _
    refine ⟨nI (ct - 1), hpx, hp2, hx1, by rw [← hh2]; exact hm1, b, b', P, Cn, Tn, ?_, ?_, ?_, ?_, ?_, ?_, ?_⟩
    · have z : hp2 0 = hp 0 := f2 0 (by omega) (by omega) (by omega) (by omega) (by omega) (by omega)
      exact Rr_cong hp (by rw [z]) (by rw [z]) (by rw [z]) (g99 16 (by omega)) hr
    · have z : hp2 1 = hp 1 := f2 1 (by omega) (by omega) (by omega) (by omega) (by omega) (by omega)
      exact Rtx_cong hp ⟨f2 2 (by omega) (by omega) (by omega) (by omega) (by omega) (by omega), f2 106 (by omega) (by omega) (by omega) (by omega) (by omega) (by omega)⟩ (by rw [z]) (g99 11 (by omega)) htx
    · exact Rbr_cong hp hb (fun q hq => f2 q (by omega) (by omega) (by omega) (by omega) (by omega) (by omega)) (g99 3 (by omega)) (g99 5 (by omega)) (g99 8 (by omega)) hbr
    · refine ⟨?_, ?_, ?_⟩
      · have k := p6 (ct - 1) (by omega)
        rw [rg_u p1 (by omega) p2] at k
        rw [g100, f2x 3 (by omega) (by omega), f2x 4 (by omega) (by omega), f2x 5 (by omega) (by omega)]
        refine SE.cong ?_ (fun c hc => ?_) (fun k hk => ?_) (fun i hi => ?_) k
        · rw [← hx]
          show hpc 3 2 = _
          rw [c3, up_ap, if_neg (by omega)]
        · rw [← hx]
          show hpc 4 c = _
          have := c4 c hc
          rw [up_ap, if_neg (by omega)] at this
          rw [show 7 + 1 + 3 * ((nx + 19) % 20) + 1 = 9 + 3 * ((nx + 19) % 20) by omega] at this
          exact this
        · rw [← hx]
          show hpc 5 k = _
          have := c5 k hk
          rw [up_ap, if_neg (by omega)] at this
          rw [show 7 + 1 + 3 * ((nx + 19) % 20) + 2 = 10 + 3 * ((nx + 19) % 20) by omega] at this
          exact this
        · rw [Nat.zero_add]; exact wlo i hi
      · rw [g100, w31, f2 0 (by omega) (by omega) (by omega) (by omega) (by omega) (by omega)]; exact hst.2.1
      · rw [g100, w31]; exact hst.2.2
    · exact Rim_w (fun q hq => f2 q (by omega) (by omega) (by omega) (by omega) (by omega) (by omega)) (fun j j1 j2 => by rw [g100]; exact whi j j1) him
    · refine ⟨(nx + 19) % 20, ct - 1, hm20, by omega, ?_, ?_, ?_, fun j hj => ?_⟩
      · rw [f2x 6 (by omega) (by omega), ← hx]
        show hpc 6 1 = _
        rw [c2 6 (by omega) (by omega) (by omega)]; rfl
      · rw [f2x 6 (by omega) (by omega), ← hx]; rfl
      · rw [← hh2]; rfl
      · rw [rg_v p1 p2 hj]
        have hl := rg_lt nx ct j
        rw [f2 (8 + 3 * rg nx ct j) (by omega) (by omega) (by omega) (by omega) (by omega) (by omega), f2 (9 + 3 * rg nx ct j) (by omega) (by omega) (by omega) (by omega) (by omega) (by omega), f2 (10 + 3 * rg nx ct j) (by omega) (by omega) (by omega) (by omega) (by omega) (by omega), g100]
        exact SE.cong rfl (fun _ _ => rfl) (fun _ _ => rfl) (fun i hi => whi _ (by omega)) (p6 j (by omega))
    · exact Rsl_cong hp (fun q hq => f2 q (by omega) (by omega) (by omega) (by omega) (by omega) (by omega)) (g99 23 (by omega)) (g99 25 (by omega)) (g99 29 (by omega)) (g99 32 (by omega)) hsl
theorem Rpa_0 {hp : HP} {Cn nx : Nat} (h : nx < 20) (e1 : hp 6 1 = nI nx) (e2 : hp 6 2 = 0) (e3 : hp 99 2 = 0) : Rpa hp Cn := ⟨nx, 0, h, by omega, e1, e2, e3, fun j hj => by omega⟩
theorem S_keep {hp : HP} (h : R hp) (a : Int32) : Sim hp (fun x => f_BA_keep x a) (fun x => f_Mo_keep x a) := by
  have hR := h
  obtain ⟨b, b', P, Cn, Tn, hr, htx, hbr, hst, him, ⟨nx, ct, p1, p2, p3, p4, p5, p6⟩, hsl⟩ := h
  have hb := Rr_or hr
  rcases @wi_lit a 0 1 with ⟨e0, -⟩ | ⟨e0, h1, h2⟩
  · refine Sim.pure (-1000000001) ?_ ?_ hR
    · simp only [f_BA_keep, x_within, e0, Option.bind_some, if_true]
    · simp only [f_Mo_keep, m_in hp a 0 1 (A := 0) (B := 1) rfl rfl, e0, Option.bind_some, if_true]
  · rw [i0] at h1
    rw [i1] at h2
    obtain ⟨i, hi, rfl⟩ := of_rg (x := a) (n := 2) h1 (by omega)
    obtain ⟨hpc, c1, c2, c3, c4, c5⟩ := x_copy hp (q0 := 78 + 1 + 3 * i) (q1 := 3) (by omega)
    generalize hx : up (up (up hpc 85 i (hp 0 11)) 86 i 1) 6 2 0 = hpx
    have fx : ∀ q, q ≠ 6 → q ≠ 85 → q ≠ 86 → q ≠ 79 + 3 * i → q ≠ 80 + 3 * i → q ≠ 81 + 3 * i → hpx q = hp q := fun q a1 a2 a3 a4 a5 a6 => by
      rw [← hx, up_ap, if_neg a1, up_ap, if_neg a3, up_ap, if_neg a2]; exact c2 q (by omega) (by omega) (by omega)
    have hx1 : f_BA_keep hp (nI i) = some (1, hpx) := by
      unfold f_BA_keep f_Pa_clear
      rw [x_within, e0, Option.bind_some]
      dsimp only
      rw [if_neg one_ne, if_pos (inb_n (by omega) (by omega)), cl_n (by omega), if_pos (isS_img i hi), c1, Option.bind_some, Option.bind_some]
      dsimp only
      rw [c2 0 (by omega) (by omega) (by omega), bz_1, hx]
    generalize hw2 : cpb (hp 100) 0 (32 + 32 * i) = w2
    have e100 : hpx 100 = hp 100 := fx 100 (by omega) (by omega) (by omega) (by omega) (by omega) (by omega)
    have hm1 : f_Mo_keep hpx (nI i) = some (1, up (up (setc hpx 100 w2) 101 i 1) 99 2 0) := by
      unfold f_Mo_keep
      rw [m_in hpx (nI i) 0 1 (A := 0) (B := 1) rfl rfl, e0, Option.bind_some]
      dsimp only
      have e2 : (32 : Int32) + (32 : Int32) * nI i = nI (32 + 32 * i) := by
        show nI 32 + nI 32 * nI i = _
        rw [pk_mul, nI_add]
      rw [if_neg one_ne, e2, show (0 : Int32) = nI 0 from rfl, m_copy hpx (a := 0) (o := 32 + 32 * i) (by omega) (by omega) (by omega), Option.bind_some]
      dsimp only
      rw [if_pos (inb_n (by omega) (by omega)), cl_n (by omega), bz_1, e100, hw2]
    have wlo : ∀ j, j < 32 → w2 j = hp 100 j := by
      intro j hj
      rw [← hw2]; unfold cpb; rw [if_neg (by omega)]
    have whi : ∀ j, 96 ≤ j → w2 j = hp 100 j := by
      intro j hj
      rw [← hw2]; unfold cpb; rw [if_neg (by omega)]
    have wi1 : ∀ j, j < 32 → w2 (32 + 32 * i + j) = hp 100 j := by
      intro j hj
      rw [← hw2]; unfold cpb; rw [if_pos (by omega)]
      exact congrArg (hp 100) (by omega)
    have wi2 : ∀ i', i' < 2 → i' ≠ i → ∀ j, j < 32 → w2 (32 + 32 * i' + j) = hp 100 (32 + 32 * i' + j) := by
      intro i' h1 h2 j hj
      rw [← hw2]; unfold cpb; rw [if_neg (by omega)]
    generalize hh2 : up (up (setc hpx 100 w2) 101 i 1) 99 2 0 = hp2
    have f2x : ∀ q, q ≠ 99 → q ≠ 100 → q ≠ 101 → hp2 q = hpx q := fun q q9 q10 q11 => by
      rw [← hh2, up_ap, if_neg q9, up_ap, if_neg q11, setc_ap, if_neg q10]
    have g99 : ∀ j, j ≠ 2 → hp2 99 j = hp 99 j := fun j hj => by
      rw [← hh2]
      show upd (hpx 99) 2 _ j = _
      rw [upd_ap, if_neg hj, fx 99 (by omega) (by omega) (by omega) (by omega) (by omega) (by omega)]
    have g100 : hp2 100 = w2 := by
      rw [← hh2]
      show (setc hpx 100 w2) 100 = _
      exact setc_at _ _ _
    have g101 : hp2 101 = upd (hp 101) i 1 := by
      rw [← hh2]
      show upd (hpx 101) i 1 = _
      rw [fx 101 (by omega) (by omega) (by omega) (by omega) (by omega) (by omega)]
    refine ⟨1, hpx, hp2, hx1, by rw [← hh2]; exact hm1, b, b', P, Cn, Tn, ?_, ?_, ?_, ?_, ?_, ?_, ?_⟩
    · have z : hp2 0 = hp 0 := by rw [f2x 0 (by omega) (by omega) (by omega), fx 0 (by omega) (by omega) (by omega) (by omega) (by omega) (by omega)]
      exact Rr_cong hp (by rw [z]) (by rw [z]) (by rw [z]) (g99 16 (by omega)) hr
    · have z : ∀ q, q = 1 ∨ q = 2 ∨ q = 106 → hp2 q = hp q := fun q hq => by rw [f2x q (by omega) (by omega) (by omega), fx q (by omega) (by omega) (by omega) (by omega) (by omega) (by omega)]
      exact Rtx_cong hp ⟨z 2 (by omega), z 106 (by omega)⟩ (by rw [z 1 (by omega)]) (g99 11 (by omega)) htx
    · exact Rbr_cong hp hb (fun q hq => by rw [f2x q (by omega) (by omega) (by omega), fx q (by omega) (by omega) (by omega) (by omega) (by omega) (by omega)]) (g99 3 (by omega)) (g99 5 (by omega)) (g99 8 (by omega)) hbr
    · have z : ∀ q, q = 0 ∨ q = 3 ∨ q = 4 ∨ q = 5 → hp2 q = hp q := fun q hq => by rw [f2x q (by omega) (by omega) (by omega), fx q (by omega) (by omega) (by omega) (by omega) (by omega) (by omega)]
      refine ⟨?_, ?_, ?_⟩
      · rw [z 3 (by omega), z 4 (by omega), z 5 (by omega), g100]
        exact SE.cong rfl (fun _ _ => rfl) (fun _ _ => rfl) (fun i hi => wlo _ (by omega)) hst.1
      · rw [g100, wlo 31 (by omega), z 0 (by omega)]; exact hst.2.1
      · rw [g100, wlo 31 (by omega)]; exact hst.2.2
    · intro i' hi'
      by_cases e : i' = i
      · subst e
        refine Or.inr ⟨⟨?_, ?_⟩, ?_, ?_, ?_⟩
        · rw [f2x 86 (by omega) (by omega) (by omega), ← hx]
          show upd (hpc 86) i' 1 i' = 1
          rw [upd_ap, if_pos rfl]
        · rw [g101, upd_ap, if_pos rfl]
        · rw [f2x (79 + 3 * i') (by omega) (by omega) (by omega), f2x (80 + 3 * i') (by omega) (by omega) (by omega), f2x (81 + 3 * i') (by omega) (by omega) (by omega), g100]
          have fc : ∀ q, q ≠ 6 → q ≠ 85 → q ≠ 86 → hpx q = hpc q := fun q a1 a2 a3 => by rw [← hx, up_ap, if_neg a1, up_ap, if_neg a3, up_ap, if_neg a2]
          rw [fc (79 + 3 * i') (by omega) (by omega) (by omega), fc (80 + 3 * i') (by omega) (by omega) (by omega), fc (81 + 3 * i') (by omega) (by omega) (by omega)]
          refine SE.cong ?_ (fun c hc => ?_) (fun k hk => ?_) (fun j hj => ?_) hst.1
          · have := c3
            rw [show 78 + 1 + 3 * i' = 79 + 3 * i' by omega] at this
            exact this
          · have := c4 c hc
            rw [show 78 + 1 + 3 * i' + 1 = 80 + 3 * i' by omega] at this
            exact this
          · have := c5 k hk
            rw [show 78 + 1 + 3 * i' + 2 = 81 + 3 * i' by omega] at this
            exact this
          · rw [Nat.zero_add]; exact wi1 j (by omega)
        · have := wi1 31 (by omega)
          rw [show 32 + 32 * i' + 31 = 63 + 32 * i' by omega] at this
          rw [g100, this, f2x 85 (by omega) (by omega) (by omega), ← hx]
          show upd (hpc 85) i' (hp 0 11) i' = _
          rw [upd_ap, if_pos rfl]; exact hst.2.1
        · rw [f2x 85 (by omega) (by omega) (by omega), ← hx]
          show 0 ≤ (upd (hpc 85) i' (hp 0 11) i').toInt
          rw [upd_ap, if_pos rfl, hst.2.1]; exact hst.2.2
      · have fc : ∀ q, q = 79 + 3 * i' ∨ q = 80 + 3 * i' ∨ q = 81 + 3 * i' → hp2 q = hp q := fun q hq => by rw [f2x q (by omega) (by omega) (by omega), fx q (by omega) (by omega) (by omega) (by omega) (by omega) (by omega)]
        have e85 : hp2 85 i' = hp 85 i' := by
          rw [f2x 85 (by omega) (by omega) (by omega), ← hx]
          show upd (hpc 85) i (hp 0 11) i' = _
          rw [upd_ap, if_neg e, c2 85 (by omega) (by omega) (by omega)]
        have e86 : hp2 86 i' = hp 86 i' := by
          rw [f2x 86 (by omega) (by omega) (by omega), ← hx]
          show upd (hpc 86) i 1 i' = _
          rw [upd_ap, if_neg e, c2 86 (by omega) (by omega) (by omega)]
        rw [e85, e86, fc (79 + 3 * i') (by omega), fc (80 + 3 * i') (by omega), fc (81 + 3 * i') (by omega), g101, upd_ap, if_neg e, g100]
        have w63 := wi2 i' hi' e 31 (by omega)
        rw [show 32 + 32 * i' + 31 = 63 + 32 * i' by omega] at w63
        rw [w63]
        rcases him i' hi' with k | ⟨k1, k2, k3⟩
        · exact Or.inl k
        · exact Or.inr ⟨k1, SE.cong rfl (fun _ _ => rfl) (fun _ _ => rfl) (fun j hj => wi2 i' hi' e j (by omega)) k2, k3⟩
    · refine Rpa_0 p1 ?_ ?_ ?_
      · rw [f2x 6 (by omega) (by omega) (by omega), ← hx]
        show hpc 6 1 = _
        rw [c2 6 (by omega) (by omega) (by omega)]; exact p3
      · rw [f2x 6 (by omega) (by omega) (by omega), ← hx]; rfl
      · rw [← hh2]; rfl
    · exact Rsl_cong hp (fun q hq => by rw [f2x q (by omega) (by omega) (by omega), fx q (by omega) (by omega) (by omega) (by omega) (by omega) (by omega)]) (g99 23 (by omega)) (g99 25 (by omega)) (g99 29 (by omega)) (g99 32 (by omega)) hsl
theorem S_goBack {hp : HP} (h : R hp) (a : Int32) : Sim hp (fun x => f_BA_goBack x a) (fun x => f_Mo_goBack x a) := by
  have hR := h
  obtain ⟨b, b', P, Cn, Tn, hr, htx, hbr, hst, him, ⟨nx, ct, p1, p2, p3, p4, p5, p6⟩, hsl⟩ := h
  have hb := Rr_or hr
  rcases @wi_lit a 0 1 with ⟨e0, -⟩ | ⟨e0, h1, h2⟩
  · refine Sim.pure (-1000000001) ?_ ?_ hR
    · simp only [f_BA_goBack, x_within, e0, Option.bind_some, if_true]
    · simp only [f_Mo_goBack, m_in hp a 0 1 (A := 0) (B := 1) rfl rfl, e0, Option.bind_some, if_true]
  · rw [i0] at h1
    rw [i1] at h2
    obtain ⟨i, hi, rfl⟩ := of_rg (x := a) (n := 2) h1 (by omega)
    rcases him i hi with ⟨k1, k2⟩ | ⟨⟨k1, k2⟩, k3, k4, k5⟩
    · refine Sim.pure (-1000000003) ?_ ?_ hR
      · show f_BA_goBack hp (nI i) = _
        unfold f_BA_goBack
        rw [x_within, e0, Option.bind_some]
        dsimp only
        rw [if_neg one_ne, if_pos (inb_n (by omega) (by omega)), if_pos (by rw [cl_n (by omega)]; exact k1)]
      · show f_Mo_goBack hp (nI i) = _
        unfold f_Mo_goBack
        rw [m_in hp (nI i) 0 1 (A := 0) (B := 1) rfl rfl, e0, Option.bind_some]
        dsimp only
        rw [if_neg one_ne, if_pos (inb_n (by omega) (by omega)), if_pos (by rw [cl_n (by omega)]; exact k2)]
    · obtain ⟨hpc, c1, c2, c3, c4, c5⟩ := x_copy hp (q0 := 3) (q1 := 78 + 1 + 3 * i) (by omega)
      generalize hx : up (up hpc 0 11 (hp 85 i)) 6 2 0 = hpx
      have fx : ∀ q, q ≠ 6 → q ≠ 0 → q ≠ 3 → q ≠ 4 → q ≠ 5 → hpx q = hp q := fun q a1 a2 a3 a4 a5 => by
        rw [← hx, up_ap, if_neg a1, up_ap, if_neg a2]; exact c2 q (by omega) (by omega) (by omega)
      have hx1 : f_BA_goBack hp (nI i) = some (1, hpx) := by
        unfold f_BA_goBack f_Pa_clear
        rw [x_within, e0, Option.bind_some]
        dsimp only
        rw [if_neg one_ne, if_pos (inb_n (by omega) (by omega)), if_neg (by rw [cl_n (by omega), k1]; exact one_ne), cl_n (by omega), if_pos (isS_img i hi), c1, Option.bind_some, Option.bind_some]
        dsimp only
        rw [c2 85 (by omega) (by omega) (by omega), hx]
      generalize hw2 : cpb (hp 100) (32 + 32 * i) 0 = w2
      have e100 : hpx 100 = hp 100 := fx 100 (by omega) (by omega) (by omega) (by omega) (by omega)
      have hm1 : f_Mo_goBack hpx (nI i) = some (1, up (setc hpx 100 w2) 99 2 0) := by
        unfold f_Mo_goBack
        rw [m_in hpx (nI i) 0 1 (A := 0) (B := 1) rfl rfl, e0, Option.bind_some]
        dsimp only
        have e2 : (32 : Int32) + (32 : Int32) * nI i = nI (32 + 32 * i) := by
          show nI 32 + nI 32 * nI i = _
          rw [pk_mul, nI_add]
        rw [if_neg one_ne, if_pos (inb_n (by omega) (by omega)), if_neg (by rw [cl_n (by omega), fx 101 (by omega) (by omega) (by omega) (by omega) (by omega), k2]; exact one_ne), e2, show f_Mo_copy hpx (nI (32 + 32 * i)) 0 = _ from m_copy hpx (a := 32 + 32 * i) (o := 0) (by omega) (by omega) (by omega), Option.bind_some, e100, hw2]
      have wlo : ∀ j, j < 32 → w2 j = hp 100 (32 + 32 * i + j) := by
        intro j hj
        rw [← hw2]; unfold cpb; rw [if_pos (by omega)]
        exact congrArg (hp 100) (by omega)
      have whi : ∀ j, 32 ≤ j → w2 j = hp 100 j := by
        intro j hj
        rw [← hw2]; unfold cpb; rw [if_neg (by omega)]
      generalize hh2 : up (setc hpx 100 w2) 99 2 0 = hp2
      have f2x : ∀ q, q ≠ 99 → q ≠ 100 → hp2 q = hpx q := fun q q9 q10 => by
        rw [← hh2, up_ap, if_neg q9, setc_ap, if_neg q10]
      have f2 : ∀ q, q ≠ 99 → q ≠ 100 → q ≠ 6 → q ≠ 0 → q ≠ 3 → q ≠ 4 → q ≠ 5 → hp2 q = hp q := fun q q1 q2 q3 q4 q5 q6 q7 => by
        rw [f2x q q1 q2, fx q q3 q4 q5 q6 q7]
      have g99 : ∀ j, j ≠ 2 → hp2 99 j = hp 99 j := fun j hj => by
        rw [← hh2]
        show upd (hpx 99) 2 _ j = _
        rw [upd_ap, if_neg hj, fx 99 (by omega) (by omega) (by omega) (by omega) (by omega)]
      have g100 : hp2 100 = w2 := by
        rw [← hh2]
        show (setc hpx 100 w2) 100 = _
        exact setc_at _ _ _
      have g0 : ∀ j, j ≠ 11 → hp2 0 j = hp 0 j := fun j hj => by
        rw [f2x 0 (by omega) (by omega), ← hx]
        show upd (hpc 0) 11 _ j = _
        rw [upd_ap, if_neg hj, c2 0 (by omega) (by omega) (by omega)]
      refine ⟨1, hpx, hp2, hx1, by rw [← hh2]; exact hm1, b, b', P, Cn, Tn, ?_, ?_, ?_, ?_, ?_, ?_, ?_⟩
      · exact Rr_cong hp (g0 8 (by omega)) (g0 9 (by omega)) (g0 10 (by omega)) (g99 16 (by omega)) hr
      · exact Rtx_cong hp ⟨f2 2 (by omega) (by omega) (by omega) (by omega) (by omega) (by omega) (by omega), f2 106 (by omega) (by omega) (by omega) (by omega) (by omega) (by omega) (by omega)⟩ (by rw [f2 1 (by omega) (by omega) (by omega) (by omega) (by omega) (by omega) (by omega)]) (g99 11 (by omega)) htx
      · exact Rbr_cong hp hb (fun q hq => f2 q (by omega) (by omega) (by omega) (by omega) (by omega) (by omega) (by omega)) (g99 3 (by omega)) (g99 5 (by omega)) (g99 8 (by omega)) hbr
      · have z11 : hp2 0 11 = hp 85 i := by
          rw [f2x 0 (by omega) (by omega), ← hx]
          show upd (hpc 0) 11 (hp 85 i) 11 = _
          rw [upd_ap, if_pos rfl]
        have z31 : w2 31 = hp 85 i := by
          rw [wlo 31 (by omega), k4, show 32 + 32 * i + 31 = 63 + 32 * i by omega]
        refine ⟨?_, ?_, ?_⟩
        · rw [g100, f2x 3 (by omega) (by omega), f2x 4 (by omega) (by omega), f2x 5 (by omega) (by omega)]
          refine SE.cong ?_ (fun c hc => ?_) (fun k hk => ?_) (fun j hj => ?_) k3
          · rw [← hx]
            show hpc 3 2 = _
            rw [c3]
          · rw [← hx]
            show hpc 4 c = _
            have := c4 c hc
            rw [show 78 + 1 + 3 * i + 1 = 80 + 3 * i by omega] at this
            exact this
          · rw [← hx]
            show hpc 5 k = _
            have := c5 k hk
            rw [show 78 + 1 + 3 * i + 2 = 81 + 3 * i by omega] at this
            exact this
          · rw [Nat.zero_add]; exact wlo j (by omega)
        · rw [g100, z11, z31]
        · rw [g100, z31]; exact k5
      · exact Rim_w (fun q hq => f2 q (by omega) (by omega) (by omega) (by omega) (by omega) (by omega) (by omega)) (fun j j1 j2 => by rw [g100]; exact whi j j1) him
      · refine Rpa_0 p1 ?_ ?_ ?_
        · rw [f2x 6 (by omega) (by omega), ← hx]
          show hpc 6 1 = _
          rw [c2 6 (by omega) (by omega) (by omega)]; exact p3
        · rw [f2x 6 (by omega) (by omega), ← hx]; rfl
        · rw [← hh2]; rfl
      · exact Rsl_cong hp (fun q hq => f2 q (by omega) (by omega) (by omega) (by omega) (by omega) (by omega) (by omega)) (g99 23 (by omega)) (g99 25 (by omega)) (g99 29 (by omega)) (g99 32 (by omega)) hsl
