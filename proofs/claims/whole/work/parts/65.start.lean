/-! What the two constructors have made is a world of the relation. -/
def hp0 : HP := fun k j => if k = 0 then (if j = 8 then 87 else if j = 9 then 93 else if j = 10 then -1 else 0) else if k = 1 then (if j = 2 then -1 else 0) else if k = 99 then (if j = 16 then -1 else 0) else 0
theorem hp0_z {k : Nat} (h0 : k ≠ 0) (h1 : k ≠ 1) (h2 : k ≠ 99) (j : Nat) : hp0 k j = 0 := by
  unfold hp0
  rw [if_neg h0, if_neg h1, if_neg h2]
theorem SE0 {Cn : Nat} {mo : Int32} {ba de w : Nat → Int32} {o : Nat} (h1 : mo = 0) (h2 : ∀ j, ba j = 0) (h3 : ∀ j, de j = 0) (h4 : ∀ j, w j = 0) : SE Cn mo ba de w o := by
  refine ⟨by rw [h1, h4], fun c _ => ?_, fun k _ => by rw [h3, h4], fun c d _ _ => by rw [h3, h3]; rfl, fun c d _ _ _ => h3 _⟩
  rw [h2, h4]
  exact ⟨rfl, by decide, by decide⟩
theorem R_hp0 : R hp0 := by
  refine ⟨87, 93, 0, 0, 0, ⟨Or.inl ⟨rfl, rfl⟩, rfl, rfl, rfl⟩, ⟨0, by omega, rfl, rfl, fun i hi => by omega⟩, ⟨by omega, ⟨rfl, rfl, rfl⟩, ⟨rfl, rfl, rfl⟩, fun k hk => by omega, fun c hc => by omega, fun t ht => by omega⟩, ⟨SE0 rfl (hp0_z (by omega) (by omega) (by omega)) (hp0_z (by omega) (by omega) (by omega)) (hp0_z (by omega) (by omega) (by omega)), rfl, by decide⟩, fun i hi => Or.inl ⟨hp0_z (by omega) (by omega) (by omega) i, hp0_z (by omega) (by omega) (by omega) i⟩, Rpa_0 (nx := 0) (by omega) rfl rfl rfl, ⟨0, 0, 0, 0, by omega, ⟨rfl, rfl, rfl, rfl⟩, ⟨rfl, rfl, rfl, rfl⟩, fun i hi => by omega, fun i hi => by omega, fun i hi => by omega, fun i hi => by omega⟩⟩
theorem arrV_cong {c : ClassId} {N : Nat} {f g : Nat → Value} (h : ∀ j, j < N → f j = g j) : arrV c N f = arrV c N g := by
  unfold arrV
  congr 2
  funext j
  exact h j.val j.isLt
theorem ring_to {D : va_G} {H : Heap} {G : GT} {a N : Nat} {l : List Nat} {F : Nat → Nat} (h1 : va_at D classes (a, rgE G N l) H) (h : ∀ j, j < N → l[j]? = some (F j)) : va_at D classes (a, .inl (G.2.2.2.2, N, .inr (.inr (.inr (.inr (fun j => some (F j))))))) H := by
  have h2 : H[a]? = some (vp_cell G.2.2.2.2 (N, .inr (.inr (.inr (.inr (fun j => l[j]?)))))) := h1
  show H[a]? = some (vp_cell G.2.2.2.2 (N, .inr (.inr (.inr (.inr (fun j => some (F j)))))))
  rw [h2, vp_cell_q, vp_cell_q]
  congr 1
  exact arrV_cong (fun j hj => by show va_rf (l[j]?) = va_rf (some (F j)); rw [h j hj])
def adr (f g : Nat → Nat) : Nat → Nat := fun k => if k < 99 then f k else g (k - 99)
def GO (G : GT) (f g : Nat → Nat) : GT := (gD G, adr f g, G.2.2)
def FO (G : GT) (f g : Nat → Nat) (k : Nat) : Nat × va_E := (adr f g k, ent (GO G f g) hp0 k)
theorem wsO_FO (G : GT) (f g : Nat → Nat) : wsO (GO G f g) hp0 = (List.range 118).map (FO G f g) := rfl
theorem P_L {D : va_G} {w1 w2 : va_W} {H : Heap} (h : va_P D classes (w1 ++ w2) H) : va_P D classes w1 H := fun k q hk => h k q (by
  rw [List.getElem?_append_left (List.getElem?_eq_some_iff.mp hk).1]
  exact hk)
theorem P_R {D : va_G} {w1 w2 : va_W} {H : Heap} (h : va_P D classes (w1 ++ w2) H) : va_P D classes w2 H := fun k q hk => h (w1.length + k) q (by
  rw [List.getElem?_append_right (by omega), Nat.add_sub_cancel_left]
  exact hk)
theorem P_T {D : va_G} {x : Nat × va_E} {w : va_W} {H : Heap} (h : va_P D classes (x :: w) H) : va_P D classes w H := fun k q hk => h (k + 1) q hk
theorem P_1 {D : va_G} {x : Nat × va_E} {H : Heap} (h : va_at D classes x H) : va_P D classes [x] H := fun k q hk => by
  have a1 : k < 1 := (List.getElem?_eq_some_iff.mp hk).1
  have a2 : k = 0 := by omega
  subst a2
  cases hk
  exact h
theorem P_m {D : va_G} {F : Nat → Nat × va_E} {l1 l2 : List Nat} {H : Heap} (h1 : va_P D classes (l1.map F) H) (h2 : va_P D classes (l2.map F) H) : va_P D classes ((l1 ++ l2).map F) H := by
  rw [List.map_append]
  exact h1.app h2
theorem sSt {G : GT} {f g φ : Nat → Nat} {k : Nat} (e0 : φ 0 = adr f g k) (e1 : φ 1 = adr f g (k + 1)) (e2 : φ 2 = adr f g (k + 2)) (hk : sh k = (5, 0) ∧ sh (k + 1) = (20, 5) ∧ sh (k + 2) = (20, 25)) (hz : 3 ≤ k ∧ k + 2 < 99) : [k, k + 1, k + 2].map (FO G f g) = b_St G φ := by
  show [(adr f g k, ent (GO G f g) hp0 k), (adr f g (k + 1), ent (GO G f g) hp0 (k + 1)), (adr f g (k + 2), ent (GO G f g) hp0 (k + 2))] = _
  rw [ent_o _ _ (by omega) hk.1, ent_i _ _ hk.2.1, ent_i _ _ hk.2.2]
  have ef : flds (gA (GO G f g)) hp0 k 5 = [.ref (adr f g (k + 1)), .ref (adr f g (k + 2)), .int (hp0 k 2)] := rfl
  have z1 : hp0 (k + 1) = fun _ => 0 := funext (hp0_z (by omega) (by omega) (by omega))
  have z2 : hp0 (k + 2) = fun _ => 0 := funext (hp0_z (by omega) (by omega) (by omega))
  rw [ef, z1, z2, hp0_z (by omega) (by omega) (by omega)]
  unfold b_St
  rw [e0, e1, e2]
  rfl
/-- the numbers of the row's cells -/
def RS : Nat → List Nat
  | 0 => []
  | i + 1 => RS i ++ [8 + 3 * i, 8 + 3 * i + 1, 8 + 3 * i + 2]
theorem shS : ∀ i, i < 20 → sh (8 + 3 * i) = (5, 0) ∧ sh (8 + 3 * i + 1) = (20, 5) ∧ sh (8 + 3 * i + 2) = (20, 25) := by decide
theorem adr_f {f g : Nat → Nat} {k : Nat} (h : k < 99) : adr f g k = f k := by unfold adr; rw [if_pos h]
theorem sSB {G : GT} {f g : Nat → Nat} : ∀ i, i ≤ 20 → (RS i).map (FO G f g) = SB G (fun j => f (j + 2 + 6)) i
  | 0, _ => rfl
  | i + 1, h => by
    unfold RS SB
    rw [List.map_append, sSB i (by omega), sSt (φ := fun j => f (3 * i + j + 2 + 6)) ?_ ?_ ?_ (shS i (by omega)) (by omega)]
    · rw [adr_f (by omega)]; show f (3 * i + 0 + 2 + 6) = f (8 + 3 * i); congr 1; omega
    · rw [adr_f (by omega)]; show f (3 * i + 1 + 2 + 6) = f (8 + 3 * i + 1); congr 1; omega
    · rw [adr_f (by omega)]; show f (3 * i + 2 + 2 + 6) = f (8 + 3 * i + 2); congr 1; omega
theorem RS_all : [0] ++ (((((((((([1, 2] ++ [3, 4, 5]) ++ ([6] ++ ([7] ++ RS 20))) ++ [68, 69, 70, 71, 72, 73, 74, 75]) ++ [76, 77]) ++ [78]) ++ ([79, 80, 81] ++ [82, 83, 84])) ++ [85]) ++ [86]) ++ [87, 88, 89, 90, 91, 92]) ++ [93, 94, 95, 96, 97, 98]) ++ [99, 100, 101, 102, 103, 104, 105, 106, 107, 108, 109, 110, 111, 112, 113, 114, 115, 116, 117] = List.range 118 := by decide +kernel
set_option maxRecDepth 20000 in
set_option maxHeartbeats 4000000 in
theorem made_P {G : GT} {f g : Nat → Nat} {H : Heap} (h : va_P (gD G) classes (b_BA G f ++ b_Mo G g) H) : va_P (gD G) classes (wsO (GO G f g) hp0) H := by
  rw [wsO_FO, ← RS_all]
  have hMo : va_P (gD G) classes (b_Mo G g) H := P_R h
  have hB := P_L h
  unfold b_BA at hB
  have x0 := hB 0 _ rfl
  have t := P_T hB
  have hBr2 := P_R t
  have t := P_L t
  have hBr1 := P_R t
  have t := P_L t
  have h86 := P_R t
  have t := P_L t
  have h85 := P_R t
  have t := P_L t
  have hSt2 := P_R (P_R t)
  have hSt1 := P_L (P_R t)
  have t := P_L t
  have h78 := P_R t
  have t := P_L t
  have hPl := P_R t
  have t := P_L t
  have hSl := P_R t
  have t := P_L t
  have hPa := P_R t
  have t := P_L t
  have hSt := P_R t
  have hRe := P_L t
  unfold b_Pa at hPa
  have h6 := hPa 0 _ rfl
  have t := P_T hPa
  have hSB := P_R t
  have h7 := P_L t 0 _ rfl
  refine P_m (P_m (P_1 x0) (P_m (P_m (P_m (P_m (P_m (P_m (P_m (P_m (P_m (P_m hRe ?_) (P_m (P_1 h6) (P_m (P_1 (ring_to h7 ?_)) ?_))) hSl) hPl) (P_1 (ring_to (h78 0 _ rfl) ?_))) (P_m ?_ ?_)) h85) h86) hBr1) hBr2)) hMo
  · rw [sSt (φ := fun j => f (j + 3)) rfl rfl rfl (by decide) (by omega)]; exact hSt
  · intro j hj
    have hj : j < 20 := hj
    rw [RL_at _ 20 j hj]
    show some (f (3 * j + 2 + 6)) = some (adr f g (7 + 1 + 3 * j))
    rw [adr_f (by omega)]
    congr 2
    omega
  · rw [sSB 20 (by omega)]; exact hSB
  · intro j hj
    have hj : j < 2 := hj
    rcases (show j = 0 ∨ j = 1 by omega) with rfl | rfl
    · rfl
    · rfl
  · rw [sSt (φ := fun j => f (j + 79)) rfl rfl rfl (by decide) (by omega)]; exact hSt1
  · rw [sSt (φ := fun j => f (j + 82)) rfl rfl rfl (by decide) (by omega)]; exact hSt2
theorem E_m {F : Nat → Nat × va_E} {w1 w2 : va_W} {l1 l2 : List Nat} (h1 : w1.map Prod.fst = (l1.map F).map Prod.fst) (h2 : w2.map Prod.fst = (l2.map F).map Prod.fst) : (w1 ++ w2).map Prod.fst = ((l1 ++ l2).map F).map Prod.fst := by
  rw [List.map_append, List.map_append, List.map_append, h1, h2]
theorem E_c {F : Nat → Nat × va_E} {x : Nat × va_E} {w : va_W} {k : Nat} {l : List Nat} (h1 : x.1 = (F k).1) (h2 : w.map Prod.fst = (l.map F).map Prod.fst) : (x :: w).map Prod.fst = (([k] ++ l).map F).map Prod.fst := by
  rw [List.map_cons, h1, h2]
  rfl
set_option maxRecDepth 20000 in
set_option maxHeartbeats 4000000 in
theorem made_fst (G : GT) (f g : Nat → Nat) : (b_BA G f ++ b_Mo G g).map Prod.fst = (wsO (GO G f g) hp0).map Prod.fst := by
  rw [wsO_FO, ← RS_all]
  unfold b_BA b_Pa
  refine E_m (E_c rfl (E_m (E_m (E_m (E_m (E_m (E_m (E_m (E_m (E_m (E_m rfl rfl) (E_c rfl (E_m rfl ?_))) rfl) rfl) rfl) (E_m rfl rfl)) rfl) rfl) rfl) rfl)) rfl
  rw [sSB 20 (by omega)]
theorem D_fst {A : Nat → Prop} {ws ws' : va_W} (h : ws.map Prod.fst = ws'.map Prod.fst) (hD : va_D A ws) : va_D A ws' := by
  have key : ∀ (i : Nat) (q : Nat × va_E), ws'[i]? = some q → ∃ p : Nat × va_E, ws[i]? = some p ∧ p.1 = q.1 := by
    intro i q hq
    have e : (ws.map Prod.fst)[i]? = some q.1 := by rw [h, List.getElem?_map, hq]; rfl
    rw [List.getElem?_map] at e
    cases z : ws[i]? with
    | none => rw [z] at e; cases e
    | some p => rw [z] at e; exact ⟨p, rfl, Option.some.inj e⟩
  refine ⟨fun i j p q hi hj hpq => ?_, fun k q hk => ?_⟩
  · obtain ⟨p', a1, a2⟩ := key i p hi
    obtain ⟨q', b1, b2⟩ := key j q hj
    exact hD.1 i j p' q' a1 b1 (by rw [a2, b2, hpq])
  · obtain ⟨q', a1, a2⟩ := key k q hk
    rw [← a2]
    exact hD.2 k q' a1
theorem made_D {A : Nat → Prop} {G : GT} {f g : Nat → Nat} (h : va_D A (b_BA G f ++ b_Mo G g)) : va_D A (wsO (GO G f g) hp0) := D_fst (made_fst G f g) h
theorem made_GI {A : Nat → Prop} {G : GT} (h : va_D A (wsO G hp0)) : GI G ∧ ∀ k, k < NC → A (gA G k) :=
  ⟨fun i j hi hj e => h.1 i j _ _ (wsO_at G hp0 hi) (wsO_at G hp0 hj) e, fun k hk => h.2 k _ (wsO_at G hp0 hk)⟩
