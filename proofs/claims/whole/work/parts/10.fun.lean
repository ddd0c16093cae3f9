/-! For every method a function over the heap: what its bytecode does. Printed by wip/whole/walk.py. -/
def f_BA_within (hp : HP) (a0 : Int32) (a1 : Int32) (a2 : Int32) : Option (Int32 × HP) :=
  if a0 < a1 then
    some ((0 : Int32), hp)
  else
    if a2 < a0 then
      some ((0 : Int32), hp)
    else
      some ((1 : Int32), hp)
def f_Re_append (hp : HP) (a1 : Int32) : Option (Int32 × HP) :=
  if (240 : Int32) ≤ (hp 1 1) then
    some (0, hp)
  else
    (if inb (hp 1 1) 240 then some (0, (up (up hp 2 ((hp 1 1)).toNatClampNeg a1) 1 1 (((up hp 2 ((hp 1 1)).toNatClampNeg a1) 1 1) + (1 : Int32)))) else none)
def f_BA_feed (hp : HP) (a1 : Int32) : Option (Int32 × HP) :=
  ((f_BA_within hp a1 (0 : Int32) (255 : Int32)).bind fun p2 => if p2.1 = 0 then
    some ((-1000000002 : Int32), p2.2)
  else
    if (p2.2 1 1) < (240 : Int32) then
      ((f_Re_append p2.2 a1).bind fun p6 => some ((p6.2 1 1), p6.2))
    else
      some ((-1000000004 : Int32), p2.2))
def f_Br_clear (hp : HP) (q0 : Nat) : Option (Int32 × HP) :=
  some (0, (up (up (up hp q0 5 (0 : Int32)) q0 6 (0 : Int32)) q0 7 (0 : Int32)))
def f_Re_letter (hp : HP) : Option (Int32 × HP) :=
  if (hp 1 4) < 0 then
    some ((-1 : Int32), hp)
  else
    if (hp 1 1) ≤ (hp 1 4) then
      some ((-1 : Int32), hp)
    else
      if (240 : Int32) ≤ (hp 1 4) then
        some ((-1 : Int32), hp)
      else
        (if inb (hp 1 4) 240 then some ((hp 2 ((hp 1 4)).toNatClampNeg), hp) else none)
def f_Re_skipBlanks_L0 (K : HP → Option (Int32 × HP)) : Nat → HP → Option (Int32 × HP)
  | 0, _ => none
  | n + 1, hp =>
      if (hp 1 1) ≤ (hp 1 4) then
        K hp
      else
        ((f_Re_letter hp).bind fun p3 => if p3.1 = (32 : Int32) then
          f_Re_skipBlanks_L0 K n (up p3.2 1 4 ((p3.2 1 4) + (1 : Int32)))
        else
          K p3.2)
def f_Re_skipBlanks (hp : HP) : Option (Int32 × HP) :=
  f_Re_skipBlanks_L0 (fun hp5 =>
    some (0, hp5)) FU hp
def f_Br_isThere (hp : HP) (q0 : Nat) : Option (Int32 × HP) :=
  if (hp q0 5) ≤ 0 then
    some ((0 : Int32), hp)
  else
    some ((1 : Int32), hp)
def f_Re_isFigure (hp : HP) (a0 : Int32) : Option (Int32 × HP) :=
  if a0 < (48 : Int32) then
    some ((0 : Int32), hp)
  else
    if (57 : Int32) < a0 then
      some ((0 : Int32), hp)
    else
      some ((1 : Int32), hp)
def f_Re_fail (hp : HP) (a1 : Int32) (a2 : Int32) : Option (Int32 × HP) :=
  if (hp 1 3) = 0 then
    some (0, (up (up hp 1 3 a1) 1 2 a2))
  else
    some (0, hp)
def f_Re_readNumber_L11 (v1 : Int32) (v2 : Int32) (K : HP → Int32 → Option (Int32 × HP)) : Nat → HP → Int32 → Option (Int32 × HP)
  | 0, _, _ => none
  | n + 1, hp, x3 =>
      if (hp 1 1) ≤ (hp 1 4) then
        K hp x3
      else
        ((f_Re_letter hp).bind fun p5 => ((f_Re_isFigure p5.2 p5.1).bind fun p7 => if p7.1 = 0 then
          K p7.2 x3
        else
          if (3 : Int32) ≤ ((p7.2 1 4) - v2) then
            f_Re_readNumber_L11 v1 v2 K n (up p7.2 1 4 ((p7.2 1 4) + (1 : Int32))) x3
          else
            ((f_Re_letter p7.2).bind fun p11 => f_Re_readNumber_L11 v1 v2 K n (up p11.2 1 4 ((p11.2 1 4) + (1 : Int32))) (((x3 * (10 : Int32)) + p11.1) - (48 : Int32)))))
def f_Re_readNumber (hp : HP) (a1 : Int32) : Option (Int32 × HP) :=
  ((f_Re_skipBlanks hp).bind fun p2 => f_Re_readNumber_L11 a1 (p2.2 1 4) (fun hp13 w12 =>
    if (hp13 1 4) = (p2.2 1 4) then
      ((f_Re_fail hp13 (1 : Int32) (p2.2 1 4)).bind fun p16 => some (w12, p16.2))
    else
      if (3 : Int32) < ((hp13 1 4) - (p2.2 1 4)) then
        ((f_Re_fail hp13 (2 : Int32) (p2.2 1 4)).bind fun p19 => some (w12, p19.2))
      else
        if w12 ≤ a1 then
          some (w12, hp13)
        else
          ((f_Re_fail hp13 (2 : Int32) (p2.2 1 4)).bind fun p22 => some (w12, p22.2))) FU p2.2 (0 : Int32))
def f_Br_addPart (hp : HP) (q0 : Nat) (a1 : Int32) : Option (Int32 × HP) :=
  if (8 : Int32) ≤ (hp q0 5) then
    some (0, hp)
  else
    (if inb (hp q0 5) 8 then some (0, (up (up hp (q0 + 1) ((hp q0 5)).toNatClampNeg (a1 - (500 : Int32))) q0 5 (((up hp (q0 + 1) ((hp q0 5)).toNatClampNeg (a1 - (500 : Int32))) q0 5) + (1 : Int32)))) else none)
def f_Re_readWord (hp : HP) (a1 : Int32) : Option (Int32 × HP) :=
  ((f_Re_skipBlanks hp).bind fun p2 => ((f_Re_letter p2.2).bind fun p4 => if p4.1 = a1 then
    some (0, (up p4.2 1 4 ((p4.2 1 4) + (1 : Int32))))
  else
    ((f_Re_fail p4.2 (1 : Int32) (p4.2 1 4)).bind fun p7 => some (0, p7.2))))
def f_Re_readParts_L17 (q1 : Nat) (K : HP → Option (Int32 × HP)) : Nat → HP → Int32 → Option (Int32 × HP)
  | 0, _, _ => none
  | n + 1, hp, x2 =>
      if (8 : Int32) ≤ x2 then
        K hp
      else
        if (hp 1 3) = 0 then
          ((f_Re_letter hp).bind fun p10 => if p10.1 = (44 : Int32) then
            ((f_Re_readNumber (up p10.2 1 4 ((p10.2 1 4) + (1 : Int32))) (999 : Int32)).bind fun p13 => ((f_Br_addPart p13.2 q1 p13.1).bind fun p15 => ((f_Re_skipBlanks p15.2).bind fun p17 => f_Re_readParts_L17 q1 K n p17.2 (x2 + 1))))
          else
            K p10.2)
        else
          K hp
def f_Re_readParts (hp : HP) (q1 : Nat) : Option (Int32 × HP) :=
  ((f_Re_readNumber hp (999 : Int32)).bind fun p2 => ((f_Br_addPart p2.2 q1 p2.1).bind fun p4 => ((f_Re_skipBlanks p4.2).bind fun p6 => f_Re_readParts_L17 q1 (fun hp18 =>
    ((f_Re_readWord hp18 (59 : Int32)).bind fun p20 => some (0, p20.2))) FU p6.2 (1 : Int32))))
def f_Br_addCustomer (hp : HP) (q0 : Nat) (a1 : Int32) (a2 : Int32) (a3 : Int32) : Option (Int32 × HP) :=
  if (5 : Int32) ≤ (hp q0 6) then
    some (0, hp)
  else
    (if inb (hp q0 6) 5 then (if inb ((up hp (q0 + 2) ((hp q0 6)).toNatClampNeg (a1 - (500 : Int32))) q0 6) 5 then (if inb ((up (up hp (q0 + 2) ((hp q0 6)).toNatClampNeg (a1 - (500 : Int32))) (q0 + 3) (((up hp (q0 + 2) ((hp q0 6)).toNatClampNeg (a1 - (500 : Int32))) q0 6)).toNatClampNeg a2) q0 6) 5 then some (0, (up (up (up (up hp (q0 + 2) ((hp q0 6)).toNatClampNeg (a1 - (500 : Int32))) (q0 + 3) (((up hp (q0 + 2) ((hp q0 6)).toNatClampNeg (a1 - (500 : Int32))) q0 6)).toNatClampNeg a2) (q0 + 4) (((up (up hp (q0 + 2) ((hp q0 6)).toNatClampNeg (a1 - (500 : Int32))) (q0 + 3) (((up hp (q0 + 2) ((hp q0 6)).toNatClampNeg (a1 - (500 : Int32))) q0 6)).toNatClampNeg a2) q0 6)).toNatClampNeg a3) q0 6 (((up (up (up hp (q0 + 2) ((hp q0 6)).toNatClampNeg (a1 - (500 : Int32))) (q0 + 3) (((up hp (q0 + 2) ((hp q0 6)).toNatClampNeg (a1 - (500 : Int32))) q0 6)).toNatClampNeg a2) (q0 + 4) (((up (up hp (q0 + 2) ((hp q0 6)).toNatClampNeg (a1 - (500 : Int32))) (q0 + 3) (((up hp (q0 + 2) ((hp q0 6)).toNatClampNeg (a1 - (500 : Int32))) q0 6)).toNatClampNeg a2) q0 6)).toNatClampNeg a3) q0 6) + (1 : Int32)))) else none) else none) else none)
def f_Re_readCustomer (hp : HP) (q1 : Nat) : Option (Int32 × HP) :=
  ((f_Re_readNumber hp (999 : Int32)).bind fun p2 => ((f_Re_readNumber p2.2 (99 : Int32)).bind fun p4 => ((f_Re_readNumber p4.2 (99 : Int32)).bind fun p6 => ((f_Br_addCustomer p6.2 q1 p2.1 p4.1 p6.1).bind fun p8 => ((f_Re_readWord p8.2 (59 : Int32)).bind fun p10 => some (0, p10.2))))))
def f_Br_allParts (hp : HP) (q0 : Nat) : Option (Int32 × HP) :=
  some ((((1 : Int32) <<< ((hp q0 5) &&& 31)) - (1 : Int32)), hp)
def f_Br_addTask (hp : HP) (q0 : Nat) (a1 : Int32) : Option (Int32 × HP) :=
  if (6 : Int32) ≤ (hp q0 7) then
    some (0, hp)
  else
    (if inb (hp q0 7) 6 then some (0, (up (up hp (q0 + 5) ((hp q0 7)).toNatClampNeg a1) q0 7 (((up hp (q0 + 5) ((hp q0 7)).toNatClampNeg a1) q0 7) + (1 : Int32)))) else none)
def f_Re_readClause (hp : HP) (q1 : Nat) : Option (Int32 × HP) :=
  ((f_Re_letter hp).bind fun p2 => if p2.1 = (98 : Int32) then
    ((f_Br_isThere p2.2 q1).bind fun p5 => if p5.1 = 0 then
      ((f_Re_readParts (up p5.2 1 4 ((p5.2 1 4) + (1 : Int32))) q1).bind fun p8 => some (0, p8.2))
    else
      ((f_Br_isThere p5.2 q1).bind fun p10 => if p10.1 = 0 then
        ((f_Re_fail p10.2 (1 : Int32) (p10.2 1 4)).bind fun p13 => some (0, p13.2))
      else
        if p2.1 = (99 : Int32) then
          if (5 : Int32) ≤ (p10.2 q1 6) then
            if p2.1 = (116 : Int32) then
              if (6 : Int32) ≤ (p10.2 q1 7) then
                ((f_Re_fail p10.2 (3 : Int32) (p10.2 1 4)).bind fun p20 => some (0, p20.2))
              else
                ((f_Br_allParts (up p10.2 1 4 ((p10.2 1 4) + (1 : Int32))) q1).bind fun p22 => ((f_Re_readNumber p22.2 p22.1).bind fun p24 => ((f_Br_addTask p24.2 q1 p24.1).bind fun p26 => ((f_Re_readWord p26.2 (59 : Int32)).bind fun p28 => some (0, p28.2)))))
            else
              ((f_Re_fail p10.2 (3 : Int32) (p10.2 1 4)).bind fun p30 => some (0, p30.2))
          else
            ((f_Re_readCustomer (up p10.2 1 4 ((p10.2 1 4) + (1 : Int32))) q1).bind fun p32 => some (0, p32.2))
        else
          if p2.1 = (116 : Int32) then
            if (6 : Int32) ≤ (p10.2 q1 7) then
              ((f_Re_fail p10.2 (3 : Int32) (p10.2 1 4)).bind fun p36 => some (0, p36.2))
            else
              ((f_Br_allParts (up p10.2 1 4 ((p10.2 1 4) + (1 : Int32))) q1).bind fun p38 => ((f_Re_readNumber p38.2 p38.1).bind fun p40 => ((f_Br_addTask p40.2 q1 p40.1).bind fun p42 => ((f_Re_readWord p42.2 (59 : Int32)).bind fun p44 => some (0, p44.2)))))
          else
            ((f_Re_fail p10.2 (3 : Int32) (p10.2 1 4)).bind fun p46 => some (0, p46.2))))
  else
    ((f_Br_isThere p2.2 q1).bind fun p48 => if p48.1 = 0 then
      ((f_Re_fail p48.2 (1 : Int32) (p48.2 1 4)).bind fun p51 => some (0, p51.2))
    else
      if p2.1 = (99 : Int32) then
        if (5 : Int32) ≤ (p48.2 q1 6) then
          if p2.1 = (116 : Int32) then
            if (6 : Int32) ≤ (p48.2 q1 7) then
              ((f_Re_fail p48.2 (3 : Int32) (p48.2 1 4)).bind fun p59 => some (0, p59.2))
            else
              ((f_Br_allParts (up p48.2 1 4 ((p48.2 1 4) + (1 : Int32))) q1).bind fun p61 => ((f_Re_readNumber p61.2 p61.1).bind fun p63 => ((f_Br_addTask p63.2 q1 p63.1).bind fun p65 => ((f_Re_readWord p65.2 (59 : Int32)).bind fun p67 => some (0, p67.2)))))
          else
            ((f_Re_fail p48.2 (3 : Int32) (p48.2 1 4)).bind fun p69 => some (0, p69.2))
        else
          ((f_Re_readCustomer (up p48.2 1 4 ((p48.2 1 4) + (1 : Int32))) q1).bind fun p71 => some (0, p71.2))
      else
        if p2.1 = (116 : Int32) then
          if (6 : Int32) ≤ (p48.2 q1 7) then
            ((f_Re_fail p48.2 (3 : Int32) (p48.2 1 4)).bind fun p77 => some (0, p77.2))
          else
            ((f_Br_allParts (up p48.2 1 4 ((p48.2 1 4) + (1 : Int32))) q1).bind fun p79 => ((f_Re_readNumber p79.2 p79.1).bind fun p81 => ((f_Br_addTask p81.2 q1 p81.1).bind fun p83 => ((f_Re_readWord p83.2 (59 : Int32)).bind fun p85 => some (0, p85.2)))))
        else
          ((f_Re_fail p48.2 (1 : Int32) (p48.2 1 4)).bind fun p87 => some (0, p87.2))))
def f_Re_readInto_L25 (q1 : Nat) (K : HP → Option (Int32 × HP)) : Nat → HP → Int32 → Option (Int32 × HP)
  | 0, _, _ => none
  | n + 1, hp, x2 =>
      if (240 : Int32) ≤ x2 then
        K hp
      else
        if (hp 1 1) ≤ (hp 1 4) then
          K hp
        else
          if (hp 1 3) = 0 then
            ((f_Re_readClause hp q1).bind fun p9 => ((f_Re_skipBlanks p9.2).bind fun p11 => f_Re_readInto_L25 q1 K n p11.2 (x2 + 1)))
          else
            K hp
def f_Re_readInto (hp : HP) (q1 : Nat) : Option (Int32 × HP) :=
  ((f_Br_clear hp q1).bind fun p2 => ((f_Re_skipBlanks (up (up (up p2.2 1 4 (0 : Int32)) 1 3 (0 : Int32)) 1 2 (-1 : Int32))).bind fun p4 => f_Re_readInto_L25 q1 (fun hp12 =>
    some ((hp12 1 3), hp12)) FU p4.2 (0 : Int32)))
def f_St_begin_L2 (q0 : Nat) (q1 : Nat) (K : HP → Option (Int32 × HP)) : Nat → HP → Int32 → Option (Int32 × HP)
  | 0, _, _ => none
  | n + 1, hp, x2 =>
      if (5 : Int32) ≤ x2 then
        K hp
      else
        if (hp q1 6) ≤ x2 then
          (if inb x2 5 then f_St_begin_L2 q0 q1 K n (up hp (q0 + 1) (x2).toNatClampNeg (0 : Int32)) (x2 + 1) else none)
        else
          (if inb x2 5 then f_St_begin_L2 q0 q1 K n (up hp (q0 + 1) (x2).toNatClampNeg (hp (q1 + 2) (x2).toNatClampNeg)) (x2 + 1) else none)
def f_St_begin_L39 (q0 : Nat) (K : HP → Option (Int32 × HP)) : Nat → HP → Int32 → Option (Int32 × HP)
  | 0, _, _ => none
  | n + 1, hp, x2 =>
      if (25 : Int32) ≤ x2 then
        K hp
      else
        (if inb x2 25 then f_St_begin_L39 q0 K n (up hp (q0 + 2) (x2).toNatClampNeg (0 : Int32)) (x2 + 1) else none)
def f_St_begin (hp : HP) (q0 : Nat) (q1 : Nat) : Option (Int32 × HP) :=
  f_St_begin_L2 q0 q1 (fun hp5 =>
    f_St_begin_L39 q0 (fun hp8 =>
      some (0, (up hp8 q0 2 (0 : Int32)))) FU hp5 (0 : Int32)) FU hp (0 : Int32)
def f_Pa_clear (hp : HP) : Option (Int32 × HP) :=
  some (0, (up hp 6 2 (0 : Int32)))
def f_Sl_clear (hp : HP) : Option (Int32 × HP) :=
  some (0, (up (up (up (up hp 68 7 (0 : Int32)) 68 8 (0 : Int32)) 68 9 (0 : Int32)) 68 10 (0 : Int32)))
def f_BA_branch_L85 (K : HP → Option (Int32 × HP)) : Nat → HP → Int32 → Option (Int32 × HP)
  | 0, _, _ => none
  | n + 1, hp, x3 =>
      if (2 : Int32) ≤ x3 then
        K hp
      else
        (if inb x3 2 then f_BA_branch_L85 K n (up hp 86 (x3).toNatClampNeg (bz (0 : Int32))) (x3 + 1) else none)
def f_BA_branch (hp : HP) : Option (Int32 × HP) :=
  (if isB (hp 0 9).toNatClampNeg then ((f_Re_readInto hp (hp 0 9).toNatClampNeg).bind fun p3 => if p3.1 = 0 then
    (if isB ((up (up p3.2 0 10 (p3.2 1 2)) 1 1 (0 : Int32)) 0 8).toNatClampNeg then (if isB ((up (up p3.2 0 10 (p3.2 1 2)) 1 1 (0 : Int32)) 0 9).toNatClampNeg then (if isB ((up (up (up (up p3.2 0 10 (p3.2 1 2)) 1 1 (0 : Int32)) 0 8 (nI ((up (up p3.2 0 10 (p3.2 1 2)) 1 1 (0 : Int32)) 0 9).toNatClampNeg)) 0 9 (nI ((up (up p3.2 0 10 (p3.2 1 2)) 1 1 (0 : Int32)) 0 8).toNatClampNeg)) 0 8).toNatClampNeg then ((f_St_begin (up (up (up (up p3.2 0 10 (p3.2 1 2)) 1 1 (0 : Int32)) 0 8 (nI ((up (up p3.2 0 10 (p3.2 1 2)) 1 1 (0 : Int32)) 0 9).toNatClampNeg)) 0 9 (nI ((up (up p3.2 0 10 (p3.2 1 2)) 1 1 (0 : Int32)) 0 8).toNatClampNeg)) 3 ((up (up (up (up p3.2 0 10 (p3.2 1 2)) 1 1 (0 : Int32)) 0 8 (nI ((up (up p3.2 0 10 (p3.2 1 2)) 1 1 (0 : Int32)) 0 9).toNatClampNeg)) 0 9 (nI ((up (up p3.2 0 10 (p3.2 1 2)) 1 1 (0 : Int32)) 0 8).toNatClampNeg)) 0 8).toNatClampNeg).bind fun p9 => ((f_Pa_clear p9.2).bind fun p11 => ((f_Sl_clear p11.2).bind fun p13 => f_BA_branch_L85 (fun hp16 =>
      (if isB (hp16 0 8).toNatClampNeg then some ((hp16 (hp16 0 8).toNatClampNeg 6), hp16) else none)) FU p13.2 (0 : Int32)))) else none) else none) else none)
  else
    some (((-10 : Int32) - p3.1), (up (up p3.2 0 10 (p3.2 1 2)) 1 1 (0 : Int32)))) else none)
def f_BA_fault (hp : HP) : Option (Int32 × HP) :=
  some ((hp 0 10), hp)
def f_Br_partsAt_L4 (q0 : Nat) (v1 : Int32) (K : HP → Int32 → Option (Int32 × HP)) : Nat → HP → Int32 → Int32 → Option (Int32 × HP)
  | 0, _, _, _ => none
  | n + 1, hp, x2, x3 =>
      if (hp q0 5) ≤ x3 then
        K hp x2
      else
        (if inb x3 8 then if v1 < (hp (q0 + 1) (x3).toNatClampNeg) then
          f_Br_partsAt_L4 q0 v1 K n hp x2 (x3 + 1)
        else
          f_Br_partsAt_L4 q0 v1 K n hp (x2 ||| ((1 : Int32) <<< (x3 &&& 31))) (x3 + 1) else none)
def f_Br_partsAt (hp : HP) (q0 : Nat) (a1 : Int32) : Option (Int32 × HP) :=
  f_Br_partsAt_L4 q0 a1 (fun hp5 w4 =>
    some (w4, hp5)) FU hp (0 : Int32) (0 : Int32)
def f_BA_hats_L4 (K : HP → Int32 → Option (Int32 × HP)) : Nat → HP → Int32 → Int32 → Option (Int32 × HP)
  | 0, _, _, _ => none
  | n + 1, hp, x1, x2 =>
      (if isB (hp 0 8).toNatClampNeg then if (hp (hp 0 8).toNatClampNeg 6) ≤ x2 then
        K hp x1
      else
        (if inb x2 5 then ((f_Br_partsAt hp (hp 0 8).toNatClampNeg (hp 4 (x2).toNatClampNeg)).bind fun p5 => if p5.1 = 0 then
          f_BA_hats_L4 K n p5.2 (x1 ||| ((1 : Int32) <<< (x2 &&& 31))) (x2 + 1)
        else
          f_BA_hats_L4 K n p5.2 x1 (x2 + 1)) else none) else none)
def f_BA_hats (hp : HP) : Option (Int32 × HP) :=
  f_BA_hats_L4 (fun hp8 w7 =>
    some (w7, hp8)) FU hp (0 : Int32) (0 : Int32)
def f_St_debt (hp : HP) (q0 : Nat) (a1 : Int32) (a2 : Int32) : Option (Int32 × HP) :=
  (if inb ((a1 * (5 : Int32)) + a2) 25 then some ((hp (q0 + 2) (((a1 * (5 : Int32)) + a2)).toNatClampNeg), hp) else none)
def f_St_netOf_L4 (q0 : Nat) (v1 : Int32) (K : HP → Int32 → Option (Int32 × HP)) : Nat → HP → Int32 → Int32 → Option (Int32 × HP)
  | 0, _, _, _ => none
  | n + 1, hp, x2, x3 =>
      if (5 : Int32) ≤ x3 then
        K hp x2
      else
        ((f_St_debt hp q0 x3 v1).bind fun p3 => f_St_netOf_L4 q0 v1 K n p3.2 (x2 + p3.1) (x3 + 1))
def f_St_netOf (hp : HP) (q0 : Nat) (a1 : Int32) : Option (Int32 × HP) :=
  f_St_netOf_L4 q0 a1 (fun hp5 w4 =>
    some (w4, hp5)) FU hp (0 : Int32) (0 : Int32)
def f_BA_bounded (hp : HP) (a0 : Int32) : Option (Int32 × HP) :=
  some ((mx (-9999 : Int32) (mn (9999 : Int32) a0)), hp)
def f_BA_wholes_L4 (v1 : Int32) (K : HP → Int32 → Option (Int32 × HP)) : Nat → HP → Int32 → Int32 → Option (Int32 × HP)
  | 0, _, _, _ => none
  | n + 1, hp, x2, x3 =>
      (if isB (hp 0 8).toNatClampNeg then if (hp (hp 0 8).toNatClampNeg 6) ≤ x3 then
        K hp x2
      else
        (if inb x3 5 then if v1 = 0 then
          ((f_BA_bounded hp ((hp 4 (x3).toNatClampNeg) + (0 : Int32))).bind fun p6 => ((f_Br_partsAt p6.2 (hp 0 8).toNatClampNeg p6.1).bind fun p8 => (if isB (p8.2 0 8).toNatClampNeg then ((f_Br_allParts p8.2 (p8.2 0 8).toNatClampNeg).bind fun p11 => if p8.1 = p11.1 then
            f_BA_wholes_L4 v1 K n p11.2 (x2 ||| ((1 : Int32) <<< (x3 &&& 31))) (x3 + 1)
          else
            f_BA_wholes_L4 v1 K n p11.2 x2 (x3 + 1)) else none)))
        else
          ((f_St_netOf hp 3 x3).bind fun p14 => (if isB (p14.2 0 8).toNatClampNeg then ((f_BA_bounded p14.2 ((hp 4 (x3).toNatClampNeg) + p14.1)).bind fun p17 => ((f_Br_partsAt p17.2 (p14.2 0 8).toNatClampNeg p17.1).bind fun p19 => (if isB (p19.2 0 8).toNatClampNeg then ((f_Br_allParts p19.2 (p19.2 0 8).toNatClampNeg).bind fun p22 => if p19.1 = p22.1 then
            f_BA_wholes_L4 v1 K n p22.2 (x2 ||| ((1 : Int32) <<< (x3 &&& 31))) (x3 + 1)
          else
            f_BA_wholes_L4 v1 K n p22.2 x2 (x3 + 1)) else none))) else none)) else none) else none)
def f_BA_wholes (hp : HP) (a1 : Int32) : Option (Int32 × HP) :=
  f_BA_wholes_L4 a1 (fun hp25 w24 =>
    some (w24, hp25)) FU hp (0 : Int32) (0 : Int32)
def f_BA_cleared_L4 (K : HP → Int32 → Option (Int32 × HP)) : Nat → HP → Int32 → Int32 → Option (Int32 × HP)
  | 0, _, _, _ => none
  | n + 1, hp, x1, x2 =>
      (if isB (hp 0 8).toNatClampNeg then if (hp (hp 0 8).toNatClampNeg 6) ≤ x2 then
        K hp x1
      else
        ((f_St_netOf hp 3 x2).bind fun p4 => if 0 ≤ p4.1 then
          f_BA_cleared_L4 K n p4.2 x1 (x2 + 1)
        else
          f_BA_cleared_L4 K n p4.2 (x1 + 1) (x2 + 1)) else none)
def f_BA_cleared (hp : HP) : Option (Int32 × HP) :=
  f_BA_cleared_L4 (fun hp7 w6 =>
    some (w6, hp7)) FU hp (0 : Int32) (0 : Int32)
def f_BA_told (hp : HP) (a1 : Int32) : Option (Int32 × HP) :=
  if a1 = 0 then
    (if isB (hp 0 8).toNatClampNeg then some ((hp (hp 0 8).toNatClampNeg 5), hp) else none)
  else if a1 = 1 then
    (if isB (hp 0 8).toNatClampNeg then some ((hp (hp 0 8).toNatClampNeg 6), hp) else none)
  else if a1 = 2 then
    (if isB (hp 0 8).toNatClampNeg then some ((hp (hp 0 8).toNatClampNeg 7), hp) else none)
  else if a1 = 3 then
    some ((hp 1 1), hp)
  else if a1 = 4 then
    some ((hp 3 2), hp)
  else if a1 = 5 then
    ((f_BA_hats hp).bind fun p11 => some (p11.1, p11.2))
  else if a1 = 6 then
    ((f_BA_wholes hp (0 : Int32)).bind fun p14 => some (p14.1, p14.2))
  else if a1 = 7 then
    ((f_BA_cleared hp).bind fun p17 => some (p17.1, p17.2))
  else if a1 = 8 then
    ((f_BA_wholes hp (1 : Int32)).bind fun p20 => some (p20.1, p20.2))
  else if a1 = 9 then
    some ((hp 68 7), hp)
  else if a1 = 10 then
    some ((hp 68 8), hp)
  else if a1 = 11 then
    some ((hp 68 9), hp)
  else if a1 = 12 then
    some ((hp 68 10), hp)
  else if a1 = 13 then
    some ((hp 6 2), hp)
  else 
  some ((-1000000002 : Int32), hp)
def f_Br_hasPart (hp : HP) (q0 : Nat) (a1 : Int32) : Option (Int32 × HP) :=
  ((f_BA_within hp a1 (0 : Int32) ((hp q0 5) - (1 : Int32))).bind fun p2 => rz p2.1 p2.2)
def f_BA_part (hp : HP) (a1 : Int32) : Option (Int32 × HP) :=
  (if isB (hp 0 8).toNatClampNeg then ((f_Br_hasPart hp (hp 0 8).toNatClampNeg a1).bind fun p3 => if p3.1 = 0 then
    some ((-1000000001 : Int32), p3.2)
  else
    (if isB (p3.2 0 8).toNatClampNeg then (if inb a1 8 then some (((p3.2 ((p3.2 0 8).toNatClampNeg + 1) (a1).toNatClampNeg) + (500 : Int32)), p3.2) else none) else none)) else none)
def f_Br_hasCustomer (hp : HP) (q0 : Nat) (a1 : Int32) : Option (Int32 × HP) :=
  ((f_BA_within hp a1 (0 : Int32) ((hp q0 6) - (1 : Int32))).bind fun p2 => rz p2.1 p2.2)
def f_BA_customer (hp : HP) (a1 : Int32) (a2 : Int32) : Option (Int32 × HP) :=
  (if isB (hp 0 8).toNatClampNeg then ((f_Br_hasCustomer hp (hp 0 8).toNatClampNeg a1).bind fun p3 => if p3.1 = 0 then
    some ((-1000000001 : Int32), p3.2)
  else
    if a2 = 0 then
      (if inb a1 5 then some (((p3.2 4 (a1).toNatClampNeg) + (10000 : Int32)), p3.2) else none)
    else if a2 = 1 then
      (if isB (p3.2 0 8).toNatClampNeg then (if inb a1 5 then ((f_Br_partsAt p3.2 (p3.2 0 8).toNatClampNeg (p3.2 4 (a1).toNatClampNeg)).bind fun p11 => some (p11.1, p11.2)) else none) else none)
    else if a2 = 2 then
      (if isB (p3.2 0 8).toNatClampNeg then (if inb a1 5 then some ((p3.2 ((p3.2 0 8).toNatClampNeg + 3) (a1).toNatClampNeg), p3.2) else none) else none)
    else if a2 = 3 then
      (if isB (p3.2 0 8).toNatClampNeg then (if inb a1 5 then some ((p3.2 ((p3.2 0 8).toNatClampNeg + 4) (a1).toNatClampNeg), p3.2) else none) else none)
    else if a2 = 4 then
      ((f_St_netOf p3.2 3 a1).bind fun p20 => some ((p20.1 + (100000 : Int32)), p20.2))
    else 
    some ((-1000000002 : Int32), p3.2)) else none)
def f_BA_areTwo (hp : HP) (a1 : Int32) (a2 : Int32) : Option (Int32 × HP) :=
  (if isB (hp 0 8).toNatClampNeg then ((f_Br_hasCustomer hp (hp 0 8).toNatClampNeg a1).bind fun p3 => if p3.1 = 0 then
    some ((0 : Int32), p3.2)
  else
    (if isB (p3.2 0 8).toNatClampNeg then ((f_Br_hasCustomer p3.2 (p3.2 0 8).toNatClampNeg a2).bind fun p7 => if p7.1 = 0 then
      some ((0 : Int32), p7.2)
    else
      if a1 = a2 then
        some ((0 : Int32), p7.2)
      else
        some ((1 : Int32), p7.2)) else none)) else none)
def f_BA_owes (hp : HP) (a1 : Int32) (a2 : Int32) : Option (Int32 × HP) :=
  ((f_BA_areTwo hp a1 a2).bind fun p2 => if p2.1 = 0 then
    some ((-1000000001 : Int32), p2.2)
  else
    ((f_St_debt p2.2 3 a1 a2).bind fun p5 => some ((p5.1 + (100000 : Int32)), p5.2)))
def f_Br_hasTask (hp : HP) (q0 : Nat) (a1 : Int32) : Option (Int32 × HP) :=
  ((f_BA_within hp a1 (0 : Int32) ((hp q0 7) - (1 : Int32))).bind fun p2 => rz p2.1 p2.2)
def f_Br_needOf_L5 (q0 : Nat) (v1 : Int32) (K : HP → Int32 → Option (Int32 × HP)) : Nat → HP → Int32 → Int32 → Option (Int32 × HP)
  | 0, _, _, _ => none
  | n + 1, hp, x2, x3 =>
      if (hp q0 5) ≤ x3 then
        K hp x2
      else
        (if inb v1 6 then if (((hp (q0 + 5) (v1).toNatClampNeg) >>> (x3 &&& 31)) &&& (1 : Int32)) = (1 : Int32) then
          (if inb x3 8 then f_Br_needOf_L5 q0 v1 K n hp (mx x2 (hp (q0 + 1) (x3).toNatClampNeg)) (x3 + 1) else none)
        else
          f_Br_needOf_L5 q0 v1 K n hp x2 (x3 + 1) else none)
def f_Br_needOf (hp : HP) (q0 : Nat) (a1 : Int32) : Option (Int32 × HP) :=
  f_Br_needOf_L5 q0 a1 (fun hp6 w5 =>
    some (w5, hp6)) FU hp (-100000 : Int32) (0 : Int32)
def f_Br_isDoable (hp : HP) (q0 : Nat) (a1 : Int32) (a2 : Int32) : Option (Int32 × HP) :=
  ((f_Br_needOf hp q0 a1).bind fun p2 => if a2 < p2.1 then
    some ((0 : Int32), p2.2)
  else
    some ((1 : Int32), p2.2))
def f_BA_can (hp : HP) (a1 : Int32) (a2 : Int32) : Option (Int32 × HP) :=
  (if isB (hp 0 8).toNatClampNeg then ((f_Br_hasCustomer hp (hp 0 8).toNatClampNeg a1).bind fun p3 => if p3.1 = 0 then
    some ((-1000000001 : Int32), p3.2)
  else
    (if isB (p3.2 0 8).toNatClampNeg then ((f_Br_hasTask p3.2 (p3.2 0 8).toNatClampNeg a2).bind fun p7 => if p7.1 = 0 then
      some ((-1000000001 : Int32), p7.2)
    else
      (if isB (p7.2 0 8).toNatClampNeg then (if inb a1 5 then ((f_Br_isDoable p7.2 (p7.2 0 8).toNatClampNeg a2 (p7.2 4 (a1).toNatClampNeg)).bind fun p12 => if p12.1 = 0 then
        some ((0 : Int32), p12.2)
      else
        some ((1 : Int32), p12.2)) else none) else none)) else none)) else none)
def f_St_copyFrom (hp : HP) (q0 : Nat) (q1 : Nat) : Option (Int32 × HP) :=
  some (0, (up (setc (setc hp (q0 + 1) (va_cpy (hp (q1 + 1)) (hp (q0 + 1)) 0 0 5)) (q0 + 2) (va_cpy ((setc hp (q0 + 1) (va_cpy (hp (q1 + 1)) (hp (q0 + 1)) 0 0 5)) (q1 + 2)) ((setc hp (q0 + 1) (va_cpy (hp (q1 + 1)) (hp (q0 + 1)) 0 0 5)) (q0 + 2)) 0 0 25)) q0 2 ((setc (setc hp (q0 + 1) (va_cpy (hp (q1 + 1)) (hp (q0 + 1)) 0 0 5)) (q0 + 2) (va_cpy ((setc hp (q0 + 1) (va_cpy (hp (q1 + 1)) (hp (q0 + 1)) 0 0 5)) (q1 + 2)) ((setc hp (q0 + 1) (va_cpy (hp (q1 + 1)) (hp (q0 + 1)) 0 0 5)) (q0 + 2)) 0 0 25)) q1 2)))
def f_Pa_push (hp : HP) (q1 : Nat) : Option (Int32 × HP) :=
  (if inb (hp 6 1) 20 then (if isS (7 + 1 + 3 * ((hp 6 1)).toNatClampNeg) then ((f_St_copyFrom hp (7 + 1 + 3 * ((hp 6 1)).toNatClampNeg) q1).bind fun p4 => some (0, (up (up p4.2 6 1 (((p4.2 6 1) + (1 : Int32)) - ((p4.2 6 1) + (1 : Int32)) / (20 : Int32) * (20 : Int32))) 6 2 (mn (((up p4.2 6 1 (((p4.2 6 1) + (1 : Int32)) - ((p4.2 6 1) + (1 : Int32)) / (20 : Int32) * (20 : Int32))) 6 2) + (1 : Int32)) (20 : Int32))))) else none) else none)
def f_Br_afterMonth (hp : HP) (q0 : Nat) (a1 : Int32) (a2 : Int32) : Option (Int32 × HP) :=
  (if inb a1 5 then ((f_BA_bounded hp (a2 + (hp (q0 + 3) (a1).toNatClampNeg))).bind fun p3 => ((f_BA_bounded p3.2 (p3.1 - (p3.2 (q0 + 4) (a1).toNatClampNeg))).bind fun p5 => some (p5.1, p5.2))) else none)
def f_St_passMonth_L2 (q0 : Nat) (q1 : Nat) (K : HP → Option (Int32 × HP)) : Nat → HP → Int32 → Option (Int32 × HP)
  | 0, _, _ => none
  | n + 1, hp, x2 =>
      if (hp q1 6) ≤ x2 then
        K hp
      else
        (if inb x2 5 then ((f_Br_afterMonth hp q1 x2 (hp (q0 + 1) (x2).toNatClampNeg)).bind fun p4 => f_St_passMonth_L2 q0 q1 K n (up p4.2 (q0 + 1) (x2).toNatClampNeg p4.1) (x2 + 1)) else none)
def f_St_passMonth (hp : HP) (q0 : Nat) (q1 : Nat) : Option (Int32 × HP) :=
  f_St_passMonth_L2 q0 q1 (fun hp5 =>
    some (0, (up hp5 q0 2 ((hp5 q0 2) + (1 : Int32))))) FU hp (0 : Int32)
def f_BA_month_L55 (v1 : Int32) (K : HP → Option (Int32 × HP)) : Nat → HP → Int32 → Option (Int32 × HP)
  | 0, _, _ => none
  | n + 1, hp, x2 =>
      if v1 ≤ x2 then
        K hp
      else
        (if isB (hp 0 8).toNatClampNeg then ((f_St_passMonth hp 3 (hp 0 8).toNatClampNeg).bind fun p14 => f_BA_month_L55 v1 K n p14.2 (x2 + 1)) else none)
def f_BA_month (hp : HP) (a1 : Int32) : Option (Int32 × HP) :=
  ((f_BA_within hp a1 (1 : Int32) (60 : Int32)).bind fun p2 => if p2.1 = 0 then
    some ((-1000000002 : Int32), p2.2)
  else
    (if isB (p2.2 0 8).toNatClampNeg then ((f_Br_isThere p2.2 (p2.2 0 8).toNatClampNeg).bind fun p6 => if p6.1 = 0 then
      some ((-1000000003 : Int32), p6.2)
    else
      if (p6.2 3 2) ≤ (9000 : Int32) then
        ((f_Pa_push p6.2 3).bind fun p10 => f_BA_month_L55 a1 (fun hp15 =>
          some ((hp15 3 2), hp15)) FU p10.2 (0 : Int32))
      else
        some ((-1000000004 : Int32), p6.2)) else none))
def f_St_change (hp : HP) (q0 : Nat) (a1 : Int32) (a2 : Int32) : Option (Int32 × HP) :=
  (if inb a1 5 then ((f_BA_bounded hp ((hp (q0 + 1) (a1).toNatClampNeg) + a2)).bind fun p3 => some (0, (up p3.2 (q0 + 1) (a1).toNatClampNeg p3.1))) else none)
def f_BA_spend (hp : HP) (a1 : Int32) (a2 : Int32) : Option (Int32 × HP) :=
  (if isB (hp 0 8).toNatClampNeg then ((f_Br_hasCustomer hp (hp 0 8).toNatClampNeg a1).bind fun p3 => if p3.1 = 0 then
    some ((-1000000001 : Int32), p3.2)
  else
    ((f_BA_within p3.2 a2 (1 : Int32) (999 : Int32)).bind fun p6 => if p6.1 = 0 then
      some ((-1000000002 : Int32), p6.2)
    else
      ((f_Pa_push p6.2 3).bind fun p9 => ((f_St_change p9.2 3 a1 (-a2)).bind fun p11 => (if isB (p11.2 0 8).toNatClampNeg then (if inb a1 5 then ((f_Br_partsAt p11.2 (p11.2 0 8).toNatClampNeg (p11.2 4 (a1).toNatClampNeg)).bind fun p15 => some (p15.1, p15.2)) else none) else none))))) else none)
def f_St_hand (hp : HP) (q0 : Nat) (a1 : Int32) (a2 : Int32) (a3 : Int32) : Option (Int32 × HP) :=
  ((f_St_change hp q0 a1 (-a3)).bind fun p2 => ((f_St_change p2.2 q0 a2 a3).bind fun p4 => (if inb ((a1 * (5 : Int32)) + a2) 25 then (if inb ((a2 * (5 : Int32)) + a1) 25 then some (0, (up (up p4.2 (q0 + 2) (((a1 * (5 : Int32)) + a2)).toNatClampNeg ((p4.2 (q0 + 2) (((a1 * (5 : Int32)) + a2)).toNatClampNeg) - a3)) (q0 + 2) (((a2 * (5 : Int32)) + a1)).toNatClampNeg (((up p4.2 (q0 + 2) (((a1 * (5 : Int32)) + a2)).toNatClampNeg ((p4.2 (q0 + 2) (((a1 * (5 : Int32)) + a2)).toNatClampNeg) - a3)) (q0 + 2) (((a2 * (5 : Int32)) + a1)).toNatClampNeg) + a3))) else none) else none)))
def f_BA_lend (hp : HP) (a1 : Int32) (a2 : Int32) (a3 : Int32) : Option (Int32 × HP) :=
  ((f_BA_areTwo hp a1 a2).bind fun p2 => if p2.1 = 0 then
    some ((-1000000001 : Int32), p2.2)
  else
    ((f_BA_within p2.2 a3 (1 : Int32) (999 : Int32)).bind fun p5 => if p5.1 = 0 then
      some ((-1000000002 : Int32), p5.2)
    else
      ((f_St_debt p5.2 3 a2 a1).bind fun p8 => if (p8.1 + a3) ≤ (9999 : Int32) then
        ((f_Pa_push p8.2 3).bind fun p11 => ((f_St_hand p11.2 3 a1 a2 a3).bind fun p13 => (if isB (p13.2 0 8).toNatClampNeg then (if inb a2 5 then ((f_Br_partsAt p13.2 (p13.2 0 8).toNatClampNeg (p13.2 4 (a2).toNatClampNeg)).bind fun p17 => some (p17.1, p17.2)) else none) else none)))
      else
        some ((-1000000004 : Int32), p8.2))))
def f_BA_payBack (hp : HP) (a1 : Int32) (a2 : Int32) (a3 : Int32) : Option (Int32 × HP) :=
  ((f_BA_areTwo hp a1 a2).bind fun p2 => if p2.1 = 0 then
    some ((-1000000001 : Int32), p2.2)
  else
    ((f_BA_within p2.2 a3 (1 : Int32) (999 : Int32)).bind fun p5 => if p5.1 = 0 then
      some ((-1000000002 : Int32), p5.2)
    else
      ((f_St_debt p5.2 3 a1 a2).bind fun p8 => if a3 ≤ p8.1 then
        ((f_Pa_push p8.2 3).bind fun p11 => ((f_St_hand p11.2 3 a1 a2 a3).bind fun p13 => ((f_St_debt p13.2 3 a1 a2).bind fun p15 => some (p15.1, p15.2))))
      else
        some ((-1000000003 : Int32), p8.2))))
def f_BA_draw (hp : HP) (a1 : Int32) : Option (Int32 × HP) :=
  if a1 ≤ 0 then
    some ((0 : Int32), (up hp 0 11 ((((((hp 0 11)).toInt64 * (1103515245 : Int64)) + (12345 : Int64)) &&& (2147483647 : Int64))).toInt32))
  else
    (if a1 = 0 then none else some (((((up hp 0 11 ((((((hp 0 11)).toInt64 * (1103515245 : Int64)) + (12345 : Int64)) &&& (2147483647 : Int64))).toInt32) 0 11) / (65536 : Int32)) - (((up hp 0 11 ((((((hp 0 11)).toInt64 * (1103515245 : Int64)) + (12345 : Int64)) &&& (2147483647 : Int64))).toInt32) 0 11) / (65536 : Int32)) / a1 * a1), (up hp 0 11 ((((((hp 0 11)).toInt64 * (1103515245 : Int64)) + (12345 : Int64)) &&& (2147483647 : Int64))).toInt32)))
def f_BA_wager (hp : HP) : Option (Int32 × HP) :=
  (if isB (hp 0 8).toNatClampNeg then ((f_BA_draw hp (hp (hp 0 8).toNatClampNeg 6)).bind fun p3 => ((f_BA_draw p3.2 (100 : Int32)).bind fun p5 => ((f_BA_draw p5.2 (2 : Int32)).bind fun p7 => if p7.1 = 0 then
    ((f_St_change p7.2 3 p3.1 (-p5.1)).bind fun p10 => some (0, p10.2))
  else
    ((f_St_change p7.2 3 p3.1 p5.1).bind fun p12 => some (0, p12.2))))) else none)
def f_BA_drift_L49 (v1 : Int32) (K : HP → Option (Int32 × HP)) : Nat → HP → Int32 → Option (Int32 × HP)
  | 0, _, _ => none
  | n + 1, hp, x2 =>
      if v1 ≤ x2 then
        K hp
      else
        ((f_BA_wager hp).bind fun p16 => f_BA_drift_L49 v1 K n p16.2 (x2 + 1))
def f_BA_drift (hp : HP) (a1 : Int32) : Option (Int32 × HP) :=
  ((f_BA_within hp a1 (1 : Int32) (60 : Int32)).bind fun p2 => if p2.1 = 0 then
    some ((-1000000002 : Int32), p2.2)
  else
    (if isB (p2.2 0 8).toNatClampNeg then ((f_Br_isThere p2.2 (p2.2 0 8).toNatClampNeg).bind fun p6 => if p6.1 = 0 then
      some ((-1000000003 : Int32), p6.2)
    else
      ((f_Pa_push p6.2 3).bind fun p9 => (if isB (p9.2 0 8).toNatClampNeg then if (p9.2 (p9.2 0 8).toNatClampNeg 6) ≤ 0 then
        ((f_BA_hats p9.2).bind fun p13 => some (p13.1, p13.2))
      else
        f_BA_drift_L49 a1 (fun hp17 =>
          ((f_BA_hats hp17).bind fun p19 => some (p19.1, p19.2))) FU p9.2 (0 : Int32) else none))) else none))
def f_Pa_popInto (hp : HP) (q1 : Nat) : Option (Int32 × HP) :=
  if (hp 6 2) ≤ 0 then
    some (0, hp)
  else
    (if inb ((up hp 6 1 ((((hp 6 1) + (20 : Int32)) - (1 : Int32)) - (((hp 6 1) + (20 : Int32)) - (1 : Int32)) / (20 : Int32) * (20 : Int32))) 6 1) 20 then (if isS (7 + 1 + 3 * (((up hp 6 1 ((((hp 6 1) + (20 : Int32)) - (1 : Int32)) - (((hp 6 1) + (20 : Int32)) - (1 : Int32)) / (20 : Int32) * (20 : Int32))) 6 1)).toNatClampNeg) then ((f_St_copyFrom (up hp 6 1 ((((hp 6 1) + (20 : Int32)) - (1 : Int32)) - (((hp 6 1) + (20 : Int32)) - (1 : Int32)) / (20 : Int32) * (20 : Int32))) q1 (7 + 1 + 3 * (((up hp 6 1 ((((hp 6 1) + (20 : Int32)) - (1 : Int32)) - (((hp 6 1) + (20 : Int32)) - (1 : Int32)) / (20 : Int32) * (20 : Int32))) 6 1)).toNatClampNeg)).bind fun p5 => some (0, (up p5.2 6 2 ((p5.2 6 2) - (1 : Int32))))) else none) else none)
def f_BA_undo (hp : HP) : Option (Int32 × HP) :=
  if (hp 6 2) = 0 then
    some ((-1000000003 : Int32), hp)
  else
    ((f_Pa_popInto hp 3).bind fun p3 => some ((p3.2 6 2), p3.2))
def f_BA_hat_L26 (v1 : Int32) (K : HP → Option (Int32 × HP)) : Nat → HP → Int32 → Int32 → Option (Int32 × HP)
  | 0, _, _, _ => none
  | n + 1, hp, x2, x3 =>
      if (200 : Int32) < x3 then
        K hp
      else
        (if isB (hp 0 8).toNatClampNeg then ((f_Br_partsAt hp (hp 0 8).toNatClampNeg x2).bind fun p9 => if p9.1 = 0 then
          some (x3, p9.2)
        else
          (if isB (p9.2 0 8).toNatClampNeg then ((f_Br_afterMonth p9.2 (p9.2 0 8).toNatClampNeg v1 x2).bind fun p13 => f_BA_hat_L26 v1 K n p13.2 p13.1 (x3 + 1)) else none)) else none)
def f_BA_hat (hp : HP) (a1 : Int32) : Option (Int32 × HP) :=
  (if isB (hp 0 8).toNatClampNeg then ((f_Br_hasCustomer hp (hp 0 8).toNatClampNeg a1).bind fun p3 => if p3.1 = 0 then
    some ((-1000000001 : Int32), p3.2)
  else
    (if inb a1 5 then f_BA_hat_L26 a1 (fun hp14 =>
      some ((-1 : Int32), hp14)) FU p3.2 (p3.2 4 (a1).toNatClampNeg) (0 : Int32) else none)) else none)
def f_BA_able_L55 (v1 : Int32) (v2 : Int32) (v3 : Int32) (K : HP → Int32 → Option (Int32 × HP)) : Nat → HP → Int32 → Int32 → Int32 → Option (Int32 × HP)
  | 0, _, _, _, _ => none
  | n + 1, hp, x4, x5, x6 =>
      if v3 ≤ x6 then
        K hp x5
      else
        (if isB (hp 0 8).toNatClampNeg then ((f_Br_isDoable hp (hp 0 8).toNatClampNeg v2 x4).bind fun p16 => if p16.1 = 0 then
          (if isB (p16.2 0 8).toNatClampNeg then ((f_Br_afterMonth p16.2 (p16.2 0 8).toNatClampNeg v1 x4).bind fun p20 => f_BA_able_L55 v1 v2 v3 K n p20.2 p20.1 x5 (x6 + 1)) else none)
        else
          (if isB (p16.2 0 8).toNatClampNeg then ((f_Br_afterMonth p16.2 (p16.2 0 8).toNatClampNeg v1 x4).bind fun p23 => f_BA_able_L55 v1 v2 v3 K n p23.2 p23.1 (x5 + 1) (x6 + 1)) else none)) else none)
def f_BA_able (hp : HP) (a1 : Int32) (a2 : Int32) (a3 : Int32) : Option (Int32 × HP) :=
  (if isB (hp 0 8).toNatClampNeg then ((f_Br_hasCustomer hp (hp 0 8).toNatClampNeg a1).bind fun p3 => if p3.1 = 0 then
    some ((-1000000001 : Int32), p3.2)
  else
    (if isB (p3.2 0 8).toNatClampNeg then ((f_Br_hasTask p3.2 (p3.2 0 8).toNatClampNeg a2).bind fun p7 => if p7.1 = 0 then
      some ((-1000000001 : Int32), p7.2)
    else
      ((f_BA_within p7.2 a3 (1 : Int32) (60 : Int32)).bind fun p10 => if p10.1 = 0 then
        some ((-1000000002 : Int32), p10.2)
      else
        (if inb a1 5 then f_BA_able_L55 a1 a2 a3 (fun hp25 w24 =>
          some (w24, hp25)) FU p10.2 (p10.2 4 (a1).toNatClampNeg) (0 : Int32) (0 : Int32) else none))) else none)) else none)
def f_Sl_addSpending (hp : HP) (a1 : Int32) : Option (Int32 × HP) :=
  if (5 : Int32) ≤ (hp 68 7) then
    some (0, hp)
  else
    (if inb (hp 68 7) 5 then some (0, (up (up hp 69 ((hp 68 7)).toNatClampNeg a1) 68 7 (((up hp 69 ((hp 68 7)).toNatClampNeg a1) 68 7) + (1 : Int32)))) else none)
def f_BA_spending (hp : HP) (a1 : Int32) : Option (Int32 × HP) :=
  ((f_BA_within hp a1 (1 : Int32) (999 : Int32)).bind fun p2 => if p2.1 = 0 then
    some ((-1000000002 : Int32), p2.2)
  else
    if (p2.2 68 7) < (5 : Int32) then
      ((f_Sl_addSpending p2.2 a1).bind fun p6 => some ((p6.2 68 7), p6.2))
    else
      some ((-1000000004 : Int32), p2.2))
def f_Sl_addMust (hp : HP) (a1 : Int32) (a2 : Int32) : Option (Int32 × HP) :=
  if (4 : Int32) ≤ (hp 68 8) then
    some (0, hp)
  else
    (if inb (hp 68 8) 4 then (if inb ((up hp 70 ((hp 68 8)).toNatClampNeg a1) 68 8) 4 then some (0, (up (up (up hp 70 ((hp 68 8)).toNatClampNeg a1) 71 (((up hp 70 ((hp 68 8)).toNatClampNeg a1) 68 8)).toNatClampNeg a2) 68 8 (((up (up hp 70 ((hp 68 8)).toNatClampNeg a1) 71 (((up hp 70 ((hp 68 8)).toNatClampNeg a1) 68 8)).toNatClampNeg a2) 68 8) + (1 : Int32)))) else none) else none)
def f_BA_must (hp : HP) (a1 : Int32) (a2 : Int32) : Option (Int32 × HP) :=
  (if isB (hp 0 8).toNatClampNeg then ((f_Br_hasTask hp (hp 0 8).toNatClampNeg a1).bind fun p3 => if p3.1 = 0 then
    some ((-1000000001 : Int32), p3.2)
  else
    ((f_BA_within p3.2 a2 (0 : Int32) (3 : Int32)).bind fun p6 => if p6.1 = 0 then
      some ((-1000000002 : Int32), p6.2)
    else
      if (p6.2 68 8) < (4 : Int32) then
        ((f_Sl_addMust p6.2 a1 a2).bind fun p10 => some ((p10.2 68 8), p10.2))
      else
        some ((-1000000004 : Int32), p6.2))) else none)
def f_Sl_lastMustMonth_L4 (K : HP → Int32 → Option (Int32 × HP)) : Nat → HP → Int32 → Int32 → Option (Int32 × HP)
  | 0, _, _, _ => none
  | n + 1, hp, x1, x2 =>
      if (hp 68 8) ≤ x2 then
        K hp x1
      else
        (if inb x2 4 then f_Sl_lastMustMonth_L4 K n hp (mx x1 (hp 71 (x2).toNatClampNeg)) (x2 + 1) else none)
def f_Sl_lastMustMonth (hp : HP) : Option (Int32 × HP) :=
  f_Sl_lastMustMonth_L4 (fun hp4 w3 =>
    some (w3, hp4)) FU hp (-1 : Int32) (0 : Int32)
def f_Pl_give_L8 (v3 : Int32) (K : HP → Option (Int32 × HP)) : Nat → HP → Int32 → Int32 → Option (Int32 × HP)
  | 0, _, _, _ => none
  | n + 1, hp, x4, x5 =>
      if x5 < 0 then
        K hp
      else
        if v3 ≤ 0 then
          (if inb x5 5 then f_Pl_give_L8 v3 K n (up hp 77 (x5).toNatClampNeg (0 : Int32)) (0 : Int32) (x5 + (-1)) else none)
        else
          (if v3 = 0 then none else (if inb x5 5 then f_Pl_give_L8 v3 K n (up hp 77 (x5).toNatClampNeg (x4 - x4 / v3 * v3)) (x4 / v3) (x5 + (-1)) else none))
def f_Pl_give (hp : HP) (a1 : Int32) (a2 : Int32) (a3 : Int32) : Option (Int32 × HP) :=
  f_Pl_give_L8 a3 (fun hp8 =>
    some (0, hp8)) FU hp a1 (a2 - (1 : Int32))
def f_Pl_sumGivenTo_L5 (v1 : Int32) (K : HP → Int32 → Option (Int32 × HP)) : Nat → HP → Int32 → Int32 → Option (Int32 × HP)
  | 0, _, _, _ => none
  | n + 1, hp, x3, x4 =>
      if (hp 68 7) ≤ x4 then
        K hp x3
      else
        (if inb x4 5 then if (hp 77 (x4).toNatClampNeg) = v1 then
          f_Pl_sumGivenTo_L5 v1 K n hp (x3 + (hp 69 (x4).toNatClampNeg)) (x4 + 1)
        else
          f_Pl_sumGivenTo_L5 v1 K n hp x3 (x4 + 1) else none)
def f_Pl_sumGivenTo (hp : HP) (a1 : Int32) : Option (Int32 × HP) :=
  f_Pl_sumGivenTo_L5 a1 (fun hp5 w4 =>
    some (w4, hp5)) FU hp (0 : Int32) (0 : Int32)
def f_Pl_isAllDoable_L3 (v0 : Int32) (v1 : Int32) (q2 : Nat) (K : HP → Option (Int32 × HP)) : Nat → HP → Int32 → Option (Int32 × HP)
  | 0, _, _ => none
  | n + 1, hp, x4 =>
      if (hp 68 8) ≤ x4 then
        K hp
      else
        (if inb x4 4 then if (hp 71 (x4).toNatClampNeg) = v0 then
          ((f_Br_isDoable hp q2 (hp 70 (x4).toNatClampNeg) v1).bind fun p5 => if p5.1 = 0 then
            some ((0 : Int32), p5.2)
          else
            f_Pl_isAllDoable_L3 v0 v1 q2 K n p5.2 (x4 + 1))
        else
          f_Pl_isAllDoable_L3 v0 v1 q2 K n hp (x4 + 1) else none)
def f_Pl_isAllDoable (hp : HP) (a0 : Int32) (a1 : Int32) (q2 : Nat) : Option (Int32 × HP) :=
  f_Pl_isAllDoable_L3 a0 a1 q2 (fun hp7 =>
    some ((1 : Int32), hp7)) FU hp (0 : Int32)
def f_Pl_works_L7 (q1 : Nat) (v3 : Int32) (v5 : Int32) (K : HP → Option (Int32 × HP)) : Nat → HP → Int32 → Int32 → Option (Int32 × HP)
  | 0, _, _, _ => none
  | n + 1, hp, x6, x7 =>
      if v5 ≤ x7 then
        K hp
      else
        if x7 ≤ 0 then
          ((f_Pl_sumGivenTo hp x7).bind fun p4 => ((f_BA_bounded p4.2 (x6 - p4.1)).bind fun p6 => ((f_Pl_isAllDoable p6.2 x7 p6.1 q1).bind fun p8 => if p8.1 = 0 then
            some ((0 : Int32), p8.2)
          else
            f_Pl_works_L7 q1 v3 v5 K n p8.2 p6.1 (x7 + 1))))
        else
          ((f_Br_afterMonth hp q1 v3 x6).bind fun p11 => ((f_Pl_sumGivenTo p11.2 x7).bind fun p13 => ((f_BA_bounded p13.2 (p11.1 - p13.1)).bind fun p15 => ((f_Pl_isAllDoable p15.2 x7 p15.1 q1).bind fun p17 => if p17.1 = 0 then
            some ((0 : Int32), p17.2)
          else
            f_Pl_works_L7 q1 v3 v5 K n p17.2 p15.1 (x7 + 1)))))
def f_Pl_works (hp : HP) (q1 : Nat) (a3 : Int32) (a4 : Int32) (a5 : Int32) : Option (Int32 × HP) :=
  f_Pl_works_L7 q1 a3 a5 (fun hp19 =>
    some ((1 : Int32), hp19)) FU hp a4 (0 : Int32)
def f_Pl_find_L6 (q1 : Nat) (v3 : Int32) (v4 : Int32) (v5 : Int32) (K : HP → Int32 → Option (Int32 × HP)) : Nat → HP → Int32 → Int32 → Option (Int32 × HP)
  | 0, _, _, _ => none
  | n + 1, hp, x6, x7 =>
      if (hp 68 7) ≤ x7 then
        K hp x6
      else
        f_Pl_find_L6 q1 v3 v4 v5 K n hp (x6 * v5) (x7 + 1)
def f_Pl_find_L31 (q1 : Nat) (v3 : Int32) (v4 : Int32) (v5 : Int32) (v6 : Int32) (K : HP → Option (Int32 × HP)) : Nat → HP → Int32 → Option (Int32 × HP)
  | 0, _, _ => none
  | n + 1, hp, x7 =>
      if v6 ≤ x7 then
        K hp
      else
        ((f_Pl_give hp x7 (hp 68 7) v5).bind fun p6 => ((f_Pl_works p6.2 q1 v3 v4 v5).bind fun p8 => if p8.1 = 0 then
          f_Pl_find_L31 q1 v3 v4 v5 v6 K n p8.2 (x7 + 1)
        else
          some ((1 : Int32), p8.2)))
def f_Pl_find (hp : HP) (q1 : Nat) (a3 : Int32) (a4 : Int32) (a5 : Int32) : Option (Int32 × HP) :=
  f_Pl_find_L6 q1 a3 a4 a5 (fun hp3 w2 =>
    f_Pl_find_L31 q1 a3 a4 a5 w2 (fun hp10 =>
      some ((0 : Int32), hp10)) FU hp3 (0 : Int32)) FU hp (1 : Int32) (0 : Int32)
def f_BA_plan (hp : HP) (a1 : Int32) (a2 : Int32) (a3 : Int32) : Option (Int32 × HP) :=
  (if isB (hp 0 8).toNatClampNeg then ((f_Br_hasCustomer hp (hp 0 8).toNatClampNeg a1).bind fun p3 => if p3.1 = 0 then
    some ((-1000000001 : Int32), p3.2)
  else
    ((f_BA_within p3.2 a2 (1 : Int32) (4 : Int32)).bind fun p6 => if p6.1 = 0 then
      some ((-1000000002 : Int32), p6.2)
    else
      ((f_Sl_lastMustMonth p6.2).bind fun p9 => if p9.1 < a2 then
        (if isB (p9.2 0 8).toNatClampNeg then (if inb a1 5 then ((f_Pl_find p9.2 (p9.2 0 8).toNatClampNeg a1 (p9.2 4 (a1).toNatClampNeg) a2).bind fun p14 => if a3 = (-1 : Int32) then
          if p14.1 = 0 then
            some ((0 : Int32), p14.2)
          else
            some ((1 : Int32), p14.2)
        else
          if p14.1 = 0 then
            some ((-1 : Int32), p14.2)
          else
            ((f_BA_within p14.2 a3 (0 : Int32) ((p14.2 68 7) - (1 : Int32))).bind fun p19 => if p19.1 = 0 then
              some ((-1 : Int32), p19.2)
            else
              (if inb a3 5 then some ((p19.2 77 (a3).toNatClampNeg), p19.2) else none))) else none) else none)
      else
        some ((-1000000002 : Int32), p9.2)))) else none)
def f_BA_isDoableOnlyAsOne (hp : HP) (a1 : Int32) (a2 : Int32) (a3 : Int32) : Option (Int32 × HP) :=
  (if inb a2 5 then (if inb a3 5 then (if isB (hp 0 8).toNatClampNeg then ((f_Br_isDoable hp (hp 0 8).toNatClampNeg a1 (hp 4 (a2).toNatClampNeg)).bind fun p5 => if p5.1 = 0 then
    (if isB (p5.2 0 8).toNatClampNeg then ((f_Br_isDoable p5.2 (p5.2 0 8).toNatClampNeg a1 (hp 4 (a3).toNatClampNeg)).bind fun p9 => if p9.1 = 0 then
      (if isB (p9.2 0 8).toNatClampNeg then ((f_BA_bounded p9.2 ((hp 4 (a2).toNatClampNeg) + (hp 4 (a3).toNatClampNeg))).bind fun p13 => ((f_Br_isDoable p13.2 (p9.2 0 8).toNatClampNeg a1 p13.1).bind fun p15 => if p15.1 = 0 then
        some ((0 : Int32), p15.2)
      else
        some ((1 : Int32), p15.2))) else none)
    else
      some ((0 : Int32), p9.2)) else none)
  else
    some ((0 : Int32), p5.2)) else none) else none) else none)
def f_BA_asOne_L37 (v1 : Int32) (v2 : Int32) (v4 : Int32) (K : HP → Int32 → Option (Int32 × HP)) : Nat → HP → Int32 → Int32 → Option (Int32 × HP)
  | 0, _, _, _ => none
  | n + 1, hp, x3, x5 =>
      (if isB (hp 0 8).toNatClampNeg then if (hp (hp 0 8).toNatClampNeg 6) ≤ x5 then
        K hp x3
      else
        ((f_BA_isDoableOnlyAsOne hp v1 v4 x5).bind fun p10 => if p10.1 = 0 then
          f_BA_asOne_L37 v1 v2 v4 K n p10.2 x3 (x5 + 1)
        else
          if x3 = v2 then
            some ((((10 : Int32) * v4) + x5), p10.2)
          else
            f_BA_asOne_L37 v1 v2 v4 K n p10.2 (x3 + 1) (x5 + 1)) else none)
def f_BA_asOne_L19 (v1 : Int32) (v2 : Int32) (K : HP → Int32 → Option (Int32 × HP)) : Nat → HP → Int32 → Int32 → Option (Int32 × HP)
  | 0, _, _, _ => none
  | n + 1, hp, x3, x4 =>
      (if isB (hp 0 8).toNatClampNeg then if (hp (hp 0 8).toNatClampNeg 6) ≤ x4 then
        K hp x3
      else
        f_BA_asOne_L37 v1 v2 x4 (fun hp14 w13 =>
          f_BA_asOne_L19 v1 v2 K n hp14 w13 (x4 + 1)) FU hp x3 (x4 + (1 : Int32)) else none)
def f_BA_asOne (hp : HP) (a1 : Int32) (a2 : Int32) : Option (Int32 × HP) :=
  (if isB (hp 0 8).toNatClampNeg then ((f_Br_hasTask hp (hp 0 8).toNatClampNeg a1).bind fun p3 => if p3.1 = 0 then
    some ((-1000000001 : Int32), p3.2)
  else
    f_BA_asOne_L19 a1 a2 (fun hp16 w15 =>
      if a2 = (-1 : Int32) then
        some (w15, hp16)
      else
        some ((-1 : Int32), hp16)) FU p3.2 (0 : Int32) (0 : Int32)) else none)
def f_BA_loan (hp : HP) (a1 : Int32) (a2 : Int32) (a3 : Int32) : Option (Int32 × HP) :=
  (if isB (hp 0 8).toNatClampNeg then ((f_Br_hasCustomer hp (hp 0 8).toNatClampNeg a1).bind fun p3 => if p3.1 = 0 then
    some ((-1000000001 : Int32), p3.2)
  else
    (if isB (p3.2 0 8).toNatClampNeg then ((f_Br_hasTask p3.2 (p3.2 0 8).toNatClampNeg a2).bind fun p7 => if p7.1 = 0 then
      some ((-1000000001 : Int32), p7.2)
    else
      ((f_BA_within p7.2 a3 (0 : Int32) (1 : Int32)).bind fun p10 => if p10.1 = 0 then
        some ((-1000000002 : Int32), p10.2)
      else
        (if inb a1 5 then (if isB (p10.2 0 8).toNatClampNeg then ((f_Br_needOf p10.2 (p10.2 0 8).toNatClampNeg a2).bind fun p15 => if a3 = (1 : Int32) then
          if 0 ≤ ((p10.2 4 (a1).toNatClampNeg) - p15.1) then
            some ((mn ((p10.2 4 (a1).toNatClampNeg) - p15.1) (9999 : Int32)), p15.2)
          else
            some ((-1 : Int32), p15.2)
        else
          if ((p10.2 4 (a1).toNatClampNeg) - p15.1) < 0 then
            if (9999 : Int32) < (-((p10.2 4 (a1).toNatClampNeg) - p15.1)) then
              some ((-1 : Int32), p15.2)
            else
              some ((-((p10.2 4 (a1).toNatClampNeg) - p15.1)), p15.2)
          else
            some ((0 : Int32), p15.2)) else none) else none))) else none)) else none)
def f_Br_goneAheadOf_L4 (q0 : Nat) (v1 : Int32) (K : HP → Int32 → Option (Int32 × HP)) : Nat → HP → Int32 → Int32 → Option (Int32 × HP)
  | 0, _, _, _ => none
  | n + 1, hp, x2, x3 =>
      if (hp q0 5) ≤ x3 then
        K hp x2
      else
        (if inb x3 8 then (if inb v1 8 then if (hp (q0 + 1) (v1).toNatClampNeg) < (hp (q0 + 1) (x3).toNatClampNeg) then
          f_Br_goneAheadOf_L4 q0 v1 K n hp (x2 + 1) (x3 + 1)
        else
          if (hp (q0 + 1) (x3).toNatClampNeg) = (hp (q0 + 1) (v1).toNatClampNeg) then
            if v1 ≤ x3 then
              f_Br_goneAheadOf_L4 q0 v1 K n hp x2 (x3 + 1)
            else
              f_Br_goneAheadOf_L4 q0 v1 K n hp (x2 + 1) (x3 + 1)
          else
            f_Br_goneAheadOf_L4 q0 v1 K n hp x2 (x3 + 1) else none) else none)
def f_Br_goneAheadOf (hp : HP) (q0 : Nat) (a1 : Int32) : Option (Int32 × HP) :=
  f_Br_goneAheadOf_L4 q0 a1 (fun hp8 w7 =>
    some (w7, hp8)) FU hp (0 : Int32) (0 : Int32)
def f_BA_order_L2 (v1 : Int32) (K : HP → Option (Int32 × HP)) : Nat → HP → Int32 → Option (Int32 × HP)
  | 0, _, _ => none
  | n + 1, hp, x2 =>
      (if isB (hp 0 8).toNatClampNeg then if (hp (hp 0 8).toNatClampNeg 5) ≤ x2 then
        K hp
      else
        ((f_Br_goneAheadOf hp (hp 0 8).toNatClampNeg x2).bind fun p4 => if p4.1 = v1 then
          some (x2, p4.2)
        else
          f_BA_order_L2 v1 K n p4.2 (x2 + 1)) else none)
def f_BA_order (hp : HP) (a1 : Int32) : Option (Int32 × HP) :=
  f_BA_order_L2 a1 (fun hp6 =>
    some ((-1 : Int32), hp6)) FU hp (0 : Int32)
def f_BA_wage_L30 (v1 : Int32) (v2 : Int32) (K : HP → Int64 → Option (Int32 × HP)) : Nat → HP → Int64 → Int32 → Option (Int32 × HP)
  | 0, _, _, _ => none
  | n + 1, hp, x3, x5 =>
      if v1 ≤ x5 then
        K hp x3
      else
        f_BA_wage_L30 v1 v2 K n hp ((x3 * (((100 : Int32) - v2)).toInt64) / (100 : Int64)) (x5 + 1)
def f_BA_wage (hp : HP) (a1 : Int32) (a2 : Int32) : Option (Int32 × HP) :=
  ((f_BA_within hp a1 (0 : Int32) (60 : Int32)).bind fun p2 => if p2.1 = 0 then
    some ((-1000000002 : Int32), p2.2)
  else
    ((f_BA_within p2.2 a2 (0 : Int32) (100 : Int32)).bind fun p5 => if p5.1 = 0 then
      some ((-1000000002 : Int32), p5.2)
    else
      f_BA_wage_L30 a1 a2 (fun hp9 w8 =>
        some ((w8).toInt32, hp9)) FU p5.2 (1000000000 : Int64) (0 : Int32)))
def f_Sl_addSeen (hp : HP) (a1 : Int32) (a2 : Int32) : Option (Int32 × HP) :=
  if (8 : Int32) ≤ (hp 68 9) then
    some (0, hp)
  else
    (if inb (hp 68 9) 8 then (if inb ((up hp 72 ((hp 68 9)).toNatClampNeg a1) 68 9) 8 then some (0, (up (up (up hp 72 ((hp 68 9)).toNatClampNeg a1) 73 (((up hp 72 ((hp 68 9)).toNatClampNeg a1) 68 9)).toNatClampNeg (bz a2)) 68 9 (((up (up hp 72 ((hp 68 9)).toNatClampNeg a1) 73 (((up hp 72 ((hp 68 9)).toNatClampNeg a1) 68 9)).toNatClampNeg (bz a2)) 68 9) + (1 : Int32)))) else none) else none)
def f_BA_see (hp : HP) (a1 : Int32) (a2 : Int32) : Option (Int32 × HP) :=
  (if isB (hp 0 8).toNatClampNeg then ((f_Br_hasPart hp (hp 0 8).toNatClampNeg a1).bind fun p3 => if p3.1 = 0 then
    some ((-1000000001 : Int32), p3.2)
  else
    if (p3.2 68 9) < (8 : Int32) then
      ((f_Sl_addSeen p3.2 a1 a2).bind fun p7 => some ((p7.2 68 9), p7.2))
    else
      some ((-1000000004 : Int32), p3.2)) else none)
def f_Sl_leastSeen_L6 (q1 : Nat) (K : HP → Int32 → Option (Int32 × HP)) : Nat → HP → Int32 → Int32 → Option (Int32 × HP)
  | 0, _, _, _ => none
  | n + 1, hp, x2, x3 =>
      if (hp 68 9) ≤ x3 then
        K hp x2
      else
        (if inb x3 8 then if (hp 73 (x3).toNatClampNeg) = 0 then
          f_Sl_leastSeen_L6 q1 K n hp x2 (x3 + 1)
        else
          (if inb (hp 72 (x3).toNatClampNeg) 8 then f_Sl_leastSeen_L6 q1 K n hp (mx x2 (hp (q1 + 1) ((hp 72 (x3).toNatClampNeg)).toNatClampNeg)) (x3 + 1) else none) else none)
def f_Sl_leastSeen (hp : HP) (q1 : Nat) : Option (Int32 × HP) :=
  f_Sl_leastSeen_L6 q1 (fun hp6 w5 =>
    some (w5, hp6)) FU hp (-500 : Int32) (0 : Int32)
def f_Sl_greatestSeen_L6 (q1 : Nat) (K : HP → Int32 → Option (Int32 × HP)) : Nat → HP → Int32 → Int32 → Option (Int32 × HP)
  | 0, _, _, _ => none
  | n + 1, hp, x2, x3 =>
      if (hp 68 9) ≤ x3 then
        K hp x2
      else
        (if inb x3 8 then if (hp 73 (x3).toNatClampNeg) = 0 then
          (if inb (hp 72 (x3).toNatClampNeg) 8 then f_Sl_greatestSeen_L6 q1 K n hp (mn x2 ((hp (q1 + 1) ((hp 72 (x3).toNatClampNeg)).toNatClampNeg) - (1 : Int32))) (x3 + 1) else none)
        else
          f_Sl_greatestSeen_L6 q1 K n hp x2 (x3 + 1) else none)
def f_Sl_greatestSeen (hp : HP) (q1 : Nat) : Option (Int32 × HP) :=
  f_Sl_greatestSeen_L6 q1 (fun hp6 w5 =>
    some (w5, hp6)) FU hp (499 : Int32) (0 : Int32)
def f_BA_has (hp : HP) (a1 : Int32) : Option (Int32 × HP) :=
  ((f_BA_within hp a1 (0 : Int32) (2 : Int32)).bind fun p2 => if p2.1 = 0 then
    some ((-1000000002 : Int32), p2.2)
  else
    (if isB (p2.2 0 8).toNatClampNeg then ((f_Sl_leastSeen p2.2 (p2.2 0 8).toNatClampNeg).bind fun p6 => (if isB (p6.2 0 8).toNatClampNeg then ((f_Sl_greatestSeen p6.2 (p6.2 0 8).toNatClampNeg).bind fun p9 => if a1 = 0 then
      some ((mx (0 : Int32) ((p9.1 - p6.1) + (1 : Int32))), p9.2)
    else
      if (mx (0 : Int32) ((p9.1 - p6.1) + (1 : Int32))) = 0 then
        some ((-1 : Int32), p9.2)
      else
        if a1 = (1 : Int32) then
          some ((p6.1 + (10000 : Int32)), p9.2)
        else
          some ((p9.1 + (10000 : Int32)), p9.2)) else none)) else none))
def f_BA_look_L36 (v1 : Int32) (v2 : Int32) (K : HP → Int32 → Option (Int32 × HP)) : Nat → HP → Int32 → Int32 → Int32 → Option (Int32 × HP)
  | 0, _, _, _, _ => none
  | n + 1, hp, x3, x4, x5 =>
      (if isB (hp 0 8).toNatClampNeg then if (hp (hp 0 8).toNatClampNeg 5) ≤ x5 then
        K hp x3
      else
        (if inb x5 8 then if ((hp ((hp 0 8).toNatClampNeg + 1) (x5).toNatClampNeg) - v1) ≤ 0 then
          f_BA_look_L36 v1 v2 K n hp x3 x4 (x5 + 1)
        else
          if ((v2 - (hp ((hp 0 8).toNatClampNeg + 1) (x5).toNatClampNeg)) + (1 : Int32)) ≤ 0 then
            f_BA_look_L36 v1 v2 K n hp x3 x4 (x5 + 1)
          else
            if x4 ≤ (mx ((hp ((hp 0 8).toNatClampNeg + 1) (x5).toNatClampNeg) - v1) ((v2 - (hp ((hp 0 8).toNatClampNeg + 1) (x5).toNatClampNeg)) + (1 : Int32))) then
              f_BA_look_L36 v1 v2 K n hp x3 x4 (x5 + 1)
            else
              f_BA_look_L36 v1 v2 K n hp x5 (mx ((hp ((hp 0 8).toNatClampNeg + 1) (x5).toNatClampNeg) - v1) ((v2 - (hp ((hp 0 8).toNatClampNeg + 1) (x5).toNatClampNeg)) + (1 : Int32))) (x5 + 1) else none) else none)
def f_BA_look (hp : HP) : Option (Int32 × HP) :=
  (if isB (hp 0 8).toNatClampNeg then ((f_Sl_leastSeen hp (hp 0 8).toNatClampNeg).bind fun p3 => (if isB (p3.2 0 8).toNatClampNeg then ((f_Sl_greatestSeen p3.2 (p3.2 0 8).toNatClampNeg).bind fun p6 => f_BA_look_L36 p3.1 p6.1 (fun hp14 w13 =>
    some (w13, hp14)) FU p6.2 (-1 : Int32) ((p6.1 - p3.1) + (1 : Int32)) (0 : Int32)) else none)) else none)
def f_Sl_addEntry (hp : HP) (a1 : Int32) (a2 : Int32) : Option (Int32 × HP) :=
  if (15 : Int32) ≤ (hp 68 10) then
    some (0, hp)
  else
    (if inb (hp 68 10) 15 then (if inb ((up hp 74 ((hp 68 10)).toNatClampNeg a1) 68 10) 15 then some (0, (up (up (up hp 74 ((hp 68 10)).toNatClampNeg a1) 75 (((up hp 74 ((hp 68 10)).toNatClampNeg a1) 68 10)).toNatClampNeg a2) 68 10 (((up (up hp 74 ((hp 68 10)).toNatClampNeg a1) 75 (((up hp 74 ((hp 68 10)).toNatClampNeg a1) 68 10)).toNatClampNeg a2) 68 10) + (1 : Int32)))) else none) else none)
def f_BA_write (hp : HP) (a1 : Int32) (a2 : Int32) : Option (Int32 × HP) :=
  (if isB (hp 0 8).toNatClampNeg then ((f_Br_hasCustomer hp (hp 0 8).toNatClampNeg a1).bind fun p3 => if p3.1 = 0 then
    some ((-1000000001 : Int32), p3.2)
  else
    ((f_BA_within p3.2 a2 (0 : Int32) (20000 : Int32)).bind fun p6 => if p6.1 = 0 then
      some ((-1000000002 : Int32), p6.2)
    else
      if (p6.2 68 10) < (15 : Int32) then
        ((f_Sl_addEntry p6.2 a1 (a2 - (10000 : Int32))).bind fun p10 => some ((p10.2 68 10), p10.2))
      else
        some ((-1000000004 : Int32), p6.2))) else none)
def f_Sl_countAll (hp : HP) : Option (Int32 × HP) :=
  some (((((hp 68 7) + (hp 68 8)) + (hp 68 9)) + (hp 68 10)), hp)
def f_BA_tear (hp : HP) : Option (Int32 × HP) :=
  ((f_Sl_countAll hp).bind fun p2 => ((f_Sl_clear p2.2).bind fun p4 => some (p2.1, p4.2)))
def f_BA_judge_L2 (K : HP → Option (Int32 × HP)) : Nat → HP → Int32 → Option (Int32 × HP)
  | 0, _, _ => none
  | n + 1, hp, x1 =>
      if (hp 68 10) ≤ x1 then
        K hp
      else
        (if inb x1 15 then (if isB (hp 0 8).toNatClampNeg then ((f_Br_hasCustomer hp (hp 0 8).toNatClampNeg (hp 74 (x1).toNatClampNeg)).bind fun p5 => if p5.1 = 0 then
          f_BA_judge_L2 K n p5.2 (x1 + 1)
        else
          (if inb (hp 74 (x1).toNatClampNeg) 5 then if (p5.2 4 ((hp 74 (x1).toNatClampNeg)).toNatClampNeg) = (p5.2 75 (x1).toNatClampNeg) then
            f_BA_judge_L2 K n p5.2 (x1 + 1)
          else
            some (x1, p5.2) else none)) else none) else none)
def f_BA_judge (hp : HP) : Option (Int32 × HP) :=
  f_BA_judge_L2 (fun hp9 =>
    some ((-1 : Int32), hp9)) FU hp (0 : Int32)
def f_BA_seed (hp : HP) (a1 : Int32) : Option (Int32 × HP) :=
  if 0 ≤ a1 then
    some ((hp 0 11), (up hp 0 11 a1))
  else
    some ((-1000000002 : Int32), hp)
def f_BA_keep (hp : HP) (a1 : Int32) : Option (Int32 × HP) :=
  ((f_BA_within hp a1 (0 : Int32) (1 : Int32)).bind fun p2 => if p2.1 = 0 then
    some ((-1000000001 : Int32), p2.2)
  else
    (if inb a1 2 then (if isS (78 + 1 + 3 * (a1).toNatClampNeg) then ((f_St_copyFrom p2.2 (78 + 1 + 3 * (a1).toNatClampNeg) 3).bind fun p7 => ((f_Pa_clear (up (up p7.2 85 (a1).toNatClampNeg (p7.2 0 11)) 86 (a1).toNatClampNeg (bz (1 : Int32)))).bind fun p9 => some ((1 : Int32), p9.2))) else none) else none))
def f_BA_goBack (hp : HP) (a1 : Int32) : Option (Int32 × HP) :=
  ((f_BA_within hp a1 (0 : Int32) (1 : Int32)).bind fun p2 => if p2.1 = 0 then
    some ((-1000000001 : Int32), p2.2)
  else
    (if inb a1 2 then if (p2.2 86 (a1).toNatClampNeg) = 0 then
      some ((-1000000003 : Int32), p2.2)
    else
      (if isS (78 + 1 + 3 * (a1).toNatClampNeg) then ((f_St_copyFrom p2.2 3 (78 + 1 + 3 * (a1).toNatClampNeg)).bind fun p8 => ((f_Pa_clear (up p8.2 0 11 (p8.2 85 (a1).toNatClampNeg))).bind fun p10 => some ((1 : Int32), p10.2))) else none) else none))
def f_Mo_in (hp : HP) (a0 : Int64) (a1 : Int64) (a2 : Int64) : Option (Int32 × HP) :=
  if (lg_cmp a0 a1) < 0 then
    some ((0 : Int32), hp)
  else
    if 0 < (lg_cmp a0 a2) then
      some ((0 : Int32), hp)
    else
      some ((1 : Int32), hp)
def f_Mo_isIn (hp : HP) (a0 : Int32) (a1 : Int32) : Option (Int32 × HP) :=
  if ((a0 >>> (a1 &&& 31)) &&& (1 : Int32)) = (1 : Int32) then
    some ((1 : Int32), hp)
  else
    some ((0 : Int32), hp)
def f_Mo_copy_L2 (v1 : Int32) (v2 : Int32) (K : HP → Option (Int32 × HP)) : Nat → HP → Int32 → Option (Int32 × HP)
  | 0, _, _ => none
  | n + 1, hp, x3 =>
      if (32 : Int32) ≤ x3 then
        K hp
      else
        (if inb (v1 + x3) 736 then (if inb (v2 + x3) 736 then f_Mo_copy_L2 v1 v2 K n (up hp 100 ((v2 + x3)).toNatClampNeg (hp 100 ((v1 + x3)).toNatClampNeg)) (x3 + 1) else none) else none)
def f_Mo_copy (hp : HP) (a1 : Int32) (a2 : Int32) : Option (Int32 × HP) :=
  f_Mo_copy_L2 a1 a2 (fun hp4 =>
    some (0, hp4)) FU hp (0 : Int32)
def f_Mo_isPart (hp : HP) (a1 : Int32) : Option (Int32 × HP) :=
  ((f_Mo_in hp (a1).toInt64 (0 : Int64) (((hp 99 3) - (1 : Int32))).toInt64).bind fun p2 => rz p2.1 p2.2)
def f_Mo_isCustomer (hp : HP) (a1 : Int32) : Option (Int32 × HP) :=
  ((f_Mo_in hp (a1).toInt64 (0 : Int64) (((hp 99 5) - (1 : Int32))).toInt64).bind fun p2 => rz p2.1 p2.2)
def f_Mo_areTwo (hp : HP) (a1 : Int32) (a2 : Int32) : Option (Int32 × HP) :=
  ((f_Mo_isCustomer hp a1).bind fun p2 => if p2.1 = 0 then
    some ((0 : Int32), p2.2)
  else
    ((f_Mo_isCustomer p2.2 a2).bind fun p5 => if p5.1 = 0 then
      some ((0 : Int32), p5.2)
    else
      if a1 = a2 then
        some ((0 : Int32), p5.2)
      else
        some ((1 : Int32), p5.2)))
def f_Mo_isTask (hp : HP) (a1 : Int32) : Option (Int32 × HP) :=
  ((f_Mo_in hp (a1).toInt64 (0 : Int64) (((hp 99 8) - (1 : Int32))).toInt64).bind fun p2 => rz p2.1 p2.2)
def f_Mo_bounded (hp : HP) (a0 : Int32) : Option (Int32 × HP) :=
  if a0 ≤ (9999 : Int32) then
    if (-9999 : Int32) ≤ a0 then
      some (a0, hp)
    else
      some ((-9999 : Int32), hp)
  else
    some ((9999 : Int32), hp)
def f_Mo_feed (hp : HP) (a1 : Int32) : Option (Int32 × HP) :=
  ((f_Mo_in hp (a1).toInt64 (0 : Int64) (255 : Int64)).bind fun p2 => if p2.1 = 0 then
    some ((-1000000002 : Int32), p2.2)
  else
    if (p2.2 99 11) = (240 : Int32) then
      some ((-1000000004 : Int32), p2.2)
    else
      (if inb (p2.2 99 11) 240 then some (((up (up p2.2 106 ((p2.2 99 11)).toNatClampNeg a1) 99 11 (((up p2.2 106 ((p2.2 99 11)).toNatClampNeg a1) 99 11) + (1 : Int32))) 99 11), (up (up p2.2 106 ((p2.2 99 11)).toNatClampNeg a1) 99 11 (((up p2.2 106 ((p2.2 99 11)).toNatClampNeg a1) 99 11) + (1 : Int32)))) else none))
def f_Mo_letterAt (hp : HP) (a1 : Int32) : Option (Int32 × HP) :=
  if (hp 99 11) ≤ a1 then
    some ((-1 : Int32), hp)
  else
    (if inb a1 240 then some ((hp 106 (a1).toNatClampNeg), hp) else none)
def f_Mo_here_L0 (K : HP → Option (Int32 × HP)) : Nat → HP → Option (Int32 × HP)
  | 0, _ => none
  | n + 1, hp =>
      ((f_Mo_letterAt hp (hp 99 12)).bind fun p2 => if p2.1 = (32 : Int32) then
        f_Mo_here_L0 K n (up p2.2 99 12 ((p2.2 99 12) + (1 : Int32)))
      else
        K p2.2)
def f_Mo_here (hp : HP) : Option (Int32 × HP) :=
  f_Mo_here_L0 (fun hp4 =>
    ((f_Mo_letterAt (up hp4 99 13 (hp4 99 12)) ((up hp4 99 13 (hp4 99 12)) 99 12)).bind fun p6 => some (p6.1, p6.2))) FU hp
def f_Mo_fails (hp : HP) (a1 : Int32) (a2 : Int32) : Option (Int32 × HP) :=
  some ((0 : Int32), (up (up hp 99 15 a1) 99 16 a2))
def f_Mo_takes (hp : HP) (a1 : Int32) : Option (Int32 × HP) :=
  ((f_Mo_here hp).bind fun p2 => if p2.1 = a1 then
    some ((1 : Int32), (up p2.2 99 12 ((p2.2 99 12) + (1 : Int32))))
  else
    ((f_Mo_fails p2.2 (1 : Int32) (p2.2 99 13)).bind fun p5 => rz p5.1 p5.2))
def f_Mo_takesNumber_L32 (v1 : Int32) (v2 : Int32) (K : HP → Option (Int32 × HP)) : Nat → HP → Option (Int32 × HP)
  | 0, _ => none
  | n + 1, hp =>
      ((f_Mo_letterAt hp (hp 99 12)).bind fun p9 => ((f_Mo_in p9.2 (p9.1).toInt64 (48 : Int64) (57 : Int64)).bind fun p11 => if p11.1 = 0 then
        K p11.2
      else
        if (3 : Int32) ≤ ((p11.2 99 12) - (p11.2 99 13)) then
          f_Mo_takesNumber_L32 v1 v2 K n (up (up p11.2 99 14 (p11.2 99 14)) 99 12 (((up p11.2 99 14 (p11.2 99 14)) 99 12) + (1 : Int32)))
        else
          ((f_Mo_letterAt p11.2 (p11.2 99 12)).bind fun p15 => f_Mo_takesNumber_L32 v1 v2 K n (up (up p15.2 99 14 ((((10 : Int32) * (p11.2 99 14)) + p15.1) - (48 : Int32))) 99 12 (((up p15.2 99 14 ((((10 : Int32) * (p11.2 99 14)) + p15.1) - (48 : Int32))) 99 12) + (1 : Int32))))))
def f_Mo_takesNumber (hp : HP) (a1 : Int32) (a2 : Int32) : Option (Int32 × HP) :=
  ((f_Mo_here hp).bind fun p2 => ((f_Mo_in p2.2 (p2.1).toInt64 (48 : Int64) (57 : Int64)).bind fun p4 => if p4.1 = 0 then
    ((f_Mo_fails p4.2 (1 : Int32) (p4.2 99 13)).bind fun p7 => rz p7.1 p7.2)
  else
    f_Mo_takesNumber_L32 a1 a2 (fun hp16 =>
      if (4 : Int32) ≤ ((hp16 99 12) - (hp16 99 13)) then
        ((f_Mo_fails hp16 (2 : Int32) (hp16 99 13)).bind fun p19 => if p19.1 = 0 then
          some ((0 : Int32), p19.2)
        else
          some ((1 : Int32), p19.2))
      else
        ((f_Mo_in hp16 ((hp16 99 14)).toInt64 (a1).toInt64 (a2).toInt64).bind fun p22 => if p22.1 = 0 then
          ((f_Mo_fails p22.2 (2 : Int32) (p22.2 99 13)).bind fun p25 => if p25.1 = 0 then
            some ((0 : Int32), p25.2)
          else
            some ((1 : Int32), p25.2))
        else
          some ((1 : Int32), p22.2))) FU (up p4.2 99 14 (0 : Int32))))
def f_Mo_takesBranch_L2 (K : HP → Option (Int32 × HP)) : Nat → HP → Int32 → Option (Int32 × HP)
  | 0, _, _ => none
  | n + 1, hp, x1 =>
      if x1 = 0 then
        K hp
      else
        ((f_Mo_takesNumber hp (0 : Int32) (999 : Int32)).bind fun p3 => if p3.1 = 0 then
          some ((0 : Int32), p3.2)
        else
          (if inb (p3.2 99 17) 8 then ((f_Mo_here (up (up p3.2 107 ((p3.2 99 17)).toNatClampNeg (p3.2 99 14)) 99 17 (((up p3.2 107 ((p3.2 99 17)).toNatClampNeg (p3.2 99 14)) 99 17) + (1 : Int32)))).bind fun p7 => if p7.1 = (44 : Int32) then
            if (p7.2 99 17) = (8 : Int32) then
              ((f_Mo_fails p7.2 (1 : Int32) (p7.2 99 13)).bind fun p12 => rz p12.1 p12.2)
            else
              f_Mo_takesBranch_L2 K n (up p7.2 99 12 ((p7.2 99 12) + (1 : Int32))) (1 : Int32)
          else
            f_Mo_takesBranch_L2 K n (up p7.2 99 12 ((p7.2 99 12) + (0 : Int32))) (0 : Int32)) else none))
def f_Mo_takesBranch (hp : HP) : Option (Int32 × HP) :=
  f_Mo_takesBranch_L2 (fun hp16 =>
    some ((1 : Int32), hp16)) FU hp (1 : Int32)
def f_Mo_takesCustomer_L2 (K : HP → Option (Int32 × HP)) : Nat → HP → Int32 → Option (Int32 × HP)
  | 0, _, _ => none
  | n + 1, hp, x1 =>
      if (3 : Int32) ≤ x1 then
        K hp
      else
        if x1 = 0 then
          ((f_Mo_takesNumber hp (0 : Int32) (999 : Int32)).bind fun p4 => if p4.1 = 0 then
            some ((0 : Int32), p4.2)
          else
            (if inb (((3 : Int32) * (p4.2 99 19)) + x1) 15 then f_Mo_takesCustomer_L2 K n (up p4.2 108 ((((3 : Int32) * (p4.2 99 19)) + x1)).toNatClampNeg (p4.2 99 14)) (x1 + 1) else none))
        else
          ((f_Mo_takesNumber hp (0 : Int32) (99 : Int32)).bind fun p8 => if p8.1 = 0 then
            some ((0 : Int32), p8.2)
          else
            (if inb (((3 : Int32) * (p8.2 99 19)) + x1) 15 then f_Mo_takesCustomer_L2 K n (up p8.2 108 ((((3 : Int32) * (p8.2 99 19)) + x1)).toNatClampNeg (p8.2 99 14)) (x1 + 1) else none))
def f_Mo_takesCustomer (hp : HP) : Option (Int32 × HP) :=
  f_Mo_takesCustomer_L2 (fun hp11 =>
    some ((1 : Int32), (up hp11 99 19 ((hp11 99 19) + (1 : Int32))))) FU hp (0 : Int32)
def f_Mo_takesTask (hp : HP) : Option (Int32 × HP) :=
  ((f_Mo_takesNumber hp (0 : Int32) (((1 : Int32) <<< ((hp 99 17) &&& 31)) - (1 : Int32))).bind fun p2 => if p2.1 = 0 then
    some ((0 : Int32), p2.2)
  else
    (if inb (p2.2 99 21) 6 then some ((1 : Int32), (up (up p2.2 109 ((p2.2 99 21)).toNatClampNeg (p2.2 99 14)) 99 21 (((up p2.2 109 ((p2.2 99 21)).toNatClampNeg (p2.2 99 14)) 99 21) + (1 : Int32)))) else none))
def f_Mo_takesClause (hp : HP) : Option (Int32 × HP) :=
  ((f_Mo_here hp).bind fun p2 => if p2.1 = (98 : Int32) then
    if (p2.2 99 17) ≤ 0 then
      ((f_Mo_takesBranch (up p2.2 99 12 ((p2.2 99 12) + (1 : Int32)))).bind fun p10 => if p10.1 = 0 then
        some ((0 : Int32), p10.2)
      else
        ((f_Mo_takes p10.2 (59 : Int32)).bind fun p13 => if p13.1 = 0 then
          some ((0 : Int32), p13.2)
        else
          some ((1 : Int32), p13.2)))
    else
      ((f_Mo_fails p2.2 (3 : Int32) (p2.2 99 13)).bind fun p17 => rz p17.1 p17.2)
  else
    if (p2.2 99 17) ≤ 0 then
      ((f_Mo_fails p2.2 (1 : Int32) (p2.2 99 13)).bind fun p21 => rz p21.1 p21.2)
    else
      if p2.1 = (99 : Int32) then
        if (p2.2 99 19) = (5 : Int32) then
          ((f_Mo_fails p2.2 (3 : Int32) (p2.2 99 13)).bind fun p29 => rz p29.1 p29.2)
        else
          ((f_Mo_takesCustomer (up p2.2 99 12 ((p2.2 99 12) + (1 : Int32)))).bind fun p34 => if p34.1 = 0 then
            some ((0 : Int32), p34.2)
          else
            ((f_Mo_takes p34.2 (59 : Int32)).bind fun p37 => if p37.1 = 0 then
              some ((0 : Int32), p37.2)
            else
              some ((1 : Int32), p37.2)))
      else
        if p2.1 = (116 : Int32) then
          if (p2.2 99 21) = (6 : Int32) then
            ((f_Mo_fails p2.2 (3 : Int32) (p2.2 99 13)).bind fun p46 => rz p46.1 p46.2)
          else
            ((f_Mo_takesTask (up p2.2 99 12 ((p2.2 99 12) + (1 : Int32)))).bind fun p51 => if p51.1 = 0 then
              some ((0 : Int32), p51.2)
            else
              ((f_Mo_takes p51.2 (59 : Int32)).bind fun p54 => if p54.1 = 0 then
                some ((0 : Int32), p54.2)
              else
                some ((1 : Int32), p54.2)))
        else
          ((f_Mo_fails p2.2 (1 : Int32) (p2.2 99 13)).bind fun p58 => rz p58.1 p58.2))
def f_Mo_branch_L32 (K : HP → Int32 → Option (Int32 × HP)) : Nat → HP → Int32 → Option (Int32 × HP)
  | 0, _, _ => none
  | n + 1, hp, x1 =>
      if x1 = 0 then
        K hp x1
      else
        ((f_Mo_here hp).bind fun p3 => if p3.1 = (-1 : Int32) then
          K p3.2 x1
        else
          ((f_Mo_takesClause p3.2).bind fun p6 => f_Mo_branch_L32 K n p6.2 p6.1))
def f_Mo_branch_L79 (v2 : Int32) (K : HP → Option (Int32 × HP)) : Nat → HP → Int32 → Option (Int32 × HP)
  | 0, _, _ => none
  | n + 1, hp, x3 =>
      if (32 : Int32) ≤ x3 then
        K hp
      else
        (if inb x3 736 then f_Mo_branch_L79 v2 K n (up hp 100 (x3).toNatClampNeg (0 : Int32)) (x3 + 1) else none)
def f_Mo_branch_L132 (K : HP → Option (Int32 × HP)) : Nat → HP → Int32 → Option (Int32 × HP)
  | 0, _, _ => none
  | n + 1, hp, x3 =>
      if (hp 99 3) ≤ x3 then
        K hp
      else
        (if inb x3 8 then f_Mo_branch_L132 K n (up hp 102 (x3).toNatClampNeg (hp 107 (x3).toNatClampNeg)) (x3 + 1) else none)
def f_Mo_branch_L160 (K : HP → Option (Int32 × HP)) : Nat → HP → Int32 → Option (Int32 × HP)
  | 0, _, _ => none
  | n + 1, hp, x3 =>
      if (hp 99 5) ≤ x3 then
        K hp
      else
        (if inb ((3 : Int32) * x3) 15 then (if inb ((1 : Int32) + x3) 736 then (if inb (((3 : Int32) * x3) + (1 : Int32)) 15 then (if inb x3 5 then (if inb (((3 : Int32) * x3) + (2 : Int32)) 15 then f_Mo_branch_L160 K n (up (up (up hp 100 (((1 : Int32) + x3)).toNatClampNeg ((hp 108 (((3 : Int32) * x3)).toNatClampNeg) - (500 : Int32))) 103 (x3).toNatClampNeg ((up hp 100 (((1 : Int32) + x3)).toNatClampNeg ((hp 108 (((3 : Int32) * x3)).toNatClampNeg) - (500 : Int32))) 108 ((((3 : Int32) * x3) + (1 : Int32))).toNatClampNeg)) 104 (x3).toNatClampNeg ((up (up hp 100 (((1 : Int32) + x3)).toNatClampNeg ((hp 108 (((3 : Int32) * x3)).toNatClampNeg) - (500 : Int32))) 103 (x3).toNatClampNeg ((up hp 100 (((1 : Int32) + x3)).toNatClampNeg ((hp 108 (((3 : Int32) * x3)).toNatClampNeg) - (500 : Int32))) 108 ((((3 : Int32) * x3) + (1 : Int32))).toNatClampNeg)) 108 ((((3 : Int32) * x3) + (2 : Int32))).toNatClampNeg)) (x3 + 1) else none) else none) else none) else none) else none)
def f_Mo_branch_L228 (K : HP → Option (Int32 × HP)) : Nat → HP → Int32 → Option (Int32 × HP)
  | 0, _, _ => none
  | n + 1, hp, x3 =>
      if (hp 99 8) ≤ x3 then
        K hp
      else
        (if inb x3 6 then f_Mo_branch_L228 K n (up hp 105 (x3).toNatClampNeg (hp 109 (x3).toNatClampNeg)) (x3 + 1) else none)
def f_Mo_branch (hp : HP) : Option (Int32 × HP) :=
  f_Mo_branch_L32 (fun hp8 w7 =>
    if w7 = 0 then
      some (((-10 : Int32) - ((up hp8 99 11 (0 : Int32)) 99 15)), (up hp8 99 11 (0 : Int32)))
    else
      f_Mo_branch_L79 ((up hp8 99 11 (0 : Int32)) 100 31) (fun hp12 =>
        f_Mo_branch_L132 (fun hp15 =>
          f_Mo_branch_L160 (fun hp22 =>
            f_Mo_branch_L228 (fun hp25 =>
              some (((up (up (up (up (up (up (up hp25 99 23 (0 : Int32)) 99 25 (0 : Int32)) 99 29 (0 : Int32)) 99 32 (0 : Int32)) 99 2 (0 : Int32)) 101 0 (bz (0 : Int32))) 101 1 (bz (0 : Int32))) 99 5), (up (up (up (up (up (up (up hp25 99 23 (0 : Int32)) 99 25 (0 : Int32)) 99 29 (0 : Int32)) 99 32 (0 : Int32)) 99 2 (0 : Int32)) 101 0 (bz (0 : Int32))) 101 1 (bz (0 : Int32))))) FU hp22 (0 : Int32)) FU hp15 (0 : Int32)) FU (up (up (up (up hp12 100 31 ((up hp8 99 11 (0 : Int32)) 100 31)) 99 3 ((up hp12 100 31 ((up hp8 99 11 (0 : Int32)) 100 31)) 99 17)) 99 5 ((up (up hp12 100 31 ((up hp8 99 11 (0 : Int32)) 100 31)) 99 3 ((up hp12 100 31 ((up hp8 99 11 (0 : Int32)) 100 31)) 99 17)) 99 19)) 99 8 ((up (up (up hp12 100 31 ((up hp8 99 11 (0 : Int32)) 100 31)) 99 3 ((up hp12 100 31 ((up hp8 99 11 (0 : Int32)) 100 31)) 99 17)) 99 5 ((up (up hp12 100 31 ((up hp8 99 11 (0 : Int32)) 100 31)) 99 3 ((up hp12 100 31 ((up hp8 99 11 (0 : Int32)) 100 31)) 99 17)) 99 19)) 99 21)) (0 : Int32)) FU (up hp8 99 11 (0 : Int32)) (0 : Int32)) FU (up (up (up (up (up (up hp 99 12 (0 : Int32)) 99 15 (0 : Int32)) 99 16 (-1 : Int32)) 99 17 (0 : Int32)) 99 19 (0 : Int32)) 99 21 (0 : Int32)) (1 : Int32)
def f_Mo_fault (hp : HP) : Option (Int32 × HP) :=
  some ((hp 99 16), hp)
def f_Mo_thereBy_L4 (v1 : Int32) (K : HP → Int32 → Option (Int32 × HP)) : Nat → HP → Int32 → Int32 → Option (Int32 × HP)
  | 0, _, _, _ => none
  | n + 1, hp, x2, x3 =>
      if (hp 99 3) ≤ x3 then
        K hp x2
      else
        (if inb x3 8 then if v1 < ((hp 102 (x3).toNatClampNeg) - (500 : Int32)) then
          f_Mo_thereBy_L4 v1 K n hp (x2 ||| (0 : Int32)) (x3 + 1)
        else
          f_Mo_thereBy_L4 v1 K n hp (x2 ||| ((1 : Int32) <<< (x3 &&& 31))) (x3 + 1) else none)
def f_Mo_thereBy (hp : HP) (a1 : Int32) : Option (Int32 × HP) :=
  f_Mo_thereBy_L4 a1 (fun hp5 w4 =>
    some (w4, hp5)) FU hp (0 : Int32) (0 : Int32)
def f_Mo_thereOf (hp : HP) (a1 : Int32) : Option (Int32 × HP) :=
  (if inb ((1 : Int32) + a1) 736 then ((f_Mo_thereBy hp (hp 100 (((1 : Int32) + a1)).toNatClampNeg)).bind fun p3 => some (p3.1, p3.2)) else none)
def f_Mo_whole (hp : HP) : Option (Int32 × HP) :=
  some ((((1 : Int32) <<< ((hp 99 3) &&& 31)) - (1 : Int32)), hp)
def f_Mo_hats_L4 (K : HP → Int32 → Option (Int32 × HP)) : Nat → HP → Int32 → Int32 → Option (Int32 × HP)
  | 0, _, _, _ => none
  | n + 1, hp, x1, x2 =>
      if (hp 99 5) ≤ x2 then
        K hp x1
      else
        ((f_Mo_thereOf hp x2).bind fun p3 => if p3.1 = 0 then
          f_Mo_hats_L4 K n p3.2 (x1 ||| ((1 : Int32) <<< (x2 &&& 31))) (x2 + 1)
        else
          f_Mo_hats_L4 K n p3.2 (x1 ||| (0 : Int32)) (x2 + 1))
def f_Mo_hats (hp : HP) : Option (Int32 × HP) :=
  f_Mo_hats_L4 (fun hp6 w5 =>
    some (w5, hp6)) FU hp (0 : Int32) (0 : Int32)
def f_Mo_net_L4 (v1 : Int32) (K : HP → Int32 → Option (Int32 × HP)) : Nat → HP → Int32 → Int32 → Option (Int32 × HP)
  | 0, _, _, _ => none
  | n + 1, hp, x2, x3 =>
      if (hp 99 5) ≤ x3 then
        K hp x2
      else
        (if inb (((6 : Int32) + ((5 : Int32) * v1)) + x3) 736 then f_Mo_net_L4 v1 K n hp (x2 - (hp 100 ((((6 : Int32) + ((5 : Int32) * v1)) + x3)).toNatClampNeg)) (x3 + 1) else none)
def f_Mo_net (hp : HP) (a1 : Int32) : Option (Int32 × HP) :=
  f_Mo_net_L4 a1 (fun hp4 w3 =>
    some (w3, hp4)) FU hp (0 : Int32) (0 : Int32)
def f_Mo_wholes_L4 (v1 : Int32) (K : HP → Int32 → Option (Int32 × HP)) : Nat → HP → Int32 → Int32 → Option (Int32 × HP)
  | 0, _, _, _ => none
  | n + 1, hp, x2, x3 =>
      if (hp 99 5) ≤ x3 then
        K hp x2
      else
        (if inb ((1 : Int32) + x3) 736 then if v1 = 0 then
          ((f_Mo_thereBy hp ((hp 100 (((1 : Int32) + x3)).toNatClampNeg) + (0 : Int32))).bind fun p5 => ((f_Mo_whole p5.2).bind fun p7 => if p5.1 = p7.1 then
            f_Mo_wholes_L4 v1 K n p7.2 (x2 ||| ((1 : Int32) <<< (x3 &&& 31))) (x3 + 1)
          else
            f_Mo_wholes_L4 v1 K n p7.2 (x2 ||| (0 : Int32)) (x3 + 1)))
        else
          ((f_Mo_net hp x3).bind fun p10 => ((f_Mo_thereBy p10.2 ((hp 100 (((1 : Int32) + x3)).toNatClampNeg) + p10.1)).bind fun p12 => ((f_Mo_whole p12.2).bind fun p14 => if p12.1 = p14.1 then
            f_Mo_wholes_L4 v1 K n p14.2 (x2 ||| ((1 : Int32) <<< (x3 &&& 31))) (x3 + 1)
          else
            f_Mo_wholes_L4 v1 K n p14.2 (x2 ||| (0 : Int32)) (x3 + 1)))) else none)
def f_Mo_wholes (hp : HP) (a1 : Int32) : Option (Int32 × HP) :=
  f_Mo_wholes_L4 a1 (fun hp17 w16 =>
    some (w16, hp17)) FU hp (0 : Int32) (0 : Int32)
def f_Mo_cleared_L4 (K : HP → Int32 → Option (Int32 × HP)) : Nat → HP → Int32 → Int32 → Option (Int32 × HP)
  | 0, _, _, _ => none
  | n + 1, hp, x1, x2 =>
      if (hp 99 5) ≤ x2 then
        K hp x1
      else
        ((f_Mo_net hp x2).bind fun p3 => if 0 ≤ p3.1 then
          f_Mo_cleared_L4 K n p3.2 (x1 + (0 : Int32)) (x2 + 1)
        else
          f_Mo_cleared_L4 K n p3.2 (x1 + (1 : Int32)) (x2 + 1))
def f_Mo_cleared (hp : HP) : Option (Int32 × HP) :=
  f_Mo_cleared_L4 (fun hp6 w5 =>
    some (w5, hp6)) FU hp (0 : Int32) (0 : Int32)
def f_Mo_told (hp : HP) (a1 : Int32) : Option (Int32 × HP) :=
  if a1 = 0 then
    some ((hp 99 3), hp)
  else if a1 = 1 then
    some ((hp 99 5), hp)
  else if a1 = 2 then
    some ((hp 99 8), hp)
  else if a1 = 3 then
    some ((hp 99 11), hp)
  else if a1 = 4 then
    some ((hp 100 0), hp)
  else if a1 = 5 then
    ((f_Mo_hats hp).bind fun p8 => some (p8.1, p8.2))
  else if a1 = 6 then
    ((f_Mo_wholes hp (0 : Int32)).bind fun p11 => some (p11.1, p11.2))
  else if a1 = 7 then
    ((f_Mo_cleared hp).bind fun p14 => some (p14.1, p14.2))
  else if a1 = 8 then
    ((f_Mo_wholes hp (1 : Int32)).bind fun p17 => some (p17.1, p17.2))
  else if a1 = 9 then
    some ((hp 99 23), hp)
  else if a1 = 10 then
    some ((hp 99 25), hp)
  else if a1 = 11 then
    some ((hp 99 29), hp)
  else if a1 = 12 then
    some ((hp 99 32), hp)
  else if a1 = 13 then
    some ((hp 99 2), hp)
  else 
  some ((-1000000002 : Int32), hp)
def f_Mo_part (hp : HP) (a1 : Int32) : Option (Int32 × HP) :=
  ((f_Mo_isPart hp a1).bind fun p2 => if p2.1 = 0 then
    some ((-1000000001 : Int32), p2.2)
  else
    (if inb a1 8 then some ((p2.2 102 (a1).toNatClampNeg), p2.2) else none))
def f_Mo_customer (hp : HP) (a1 : Int32) (a2 : Int32) : Option (Int32 × HP) :=
  ((f_Mo_isCustomer hp a1).bind fun p2 => if p2.1 = 0 then
    some ((-1000000001 : Int32), p2.2)
  else
    if a2 = 0 then
      (if inb ((1 : Int32) + a1) 736 then some (((p2.2 100 (((1 : Int32) + a1)).toNatClampNeg) + (10000 : Int32)), p2.2) else none)
    else if a2 = 1 then
      ((f_Mo_thereOf p2.2 a1).bind fun p8 => some (p8.1, p8.2))
    else if a2 = 2 then
      (if inb a1 5 then some ((p2.2 103 (a1).toNatClampNeg), p2.2) else none)
    else if a2 = 3 then
      (if inb a1 5 then some ((p2.2 104 (a1).toNatClampNeg), p2.2) else none)
    else if a2 = 4 then
      ((f_Mo_net p2.2 a1).bind fun p15 => some ((p15.1 + (100000 : Int32)), p15.2))
    else 
    some ((-1000000002 : Int32), p2.2))
def f_Mo_owes (hp : HP) (a1 : Int32) (a2 : Int32) : Option (Int32 × HP) :=
  ((f_Mo_areTwo hp a1 a2).bind fun p2 => if p2.1 = 0 then
    some ((-1000000001 : Int32), p2.2)
  else
    (if inb (((6 : Int32) + ((5 : Int32) * a1)) + a2) 736 then some (((p2.2 100 ((((6 : Int32) + ((5 : Int32) * a1)) + a2)).toNatClampNeg) + (100000 : Int32)), p2.2) else none))
def f_Mo_canBy (hp : HP) (a1 : Int32) (a2 : Int32) : Option (Int32 × HP) :=
  (if inb a2 6 then ((f_Mo_thereBy hp a1).bind fun p3 => if ((hp 105 (a2).toNatClampNeg) &&& (p3.1 ^^^ (-1 : Int32))) = 0 then
    some ((1 : Int32), p3.2)
  else
    some ((0 : Int32), p3.2)) else none)
def f_Mo_can (hp : HP) (a1 : Int32) (a2 : Int32) : Option (Int32 × HP) :=
  ((f_Mo_isCustomer hp a1).bind fun p2 => if p2.1 = 0 then
    some ((-1000000001 : Int32), p2.2)
  else
    ((f_Mo_isTask p2.2 a2).bind fun p5 => if p5.1 = 0 then
      some ((-1000000001 : Int32), p5.2)
    else
      (if inb ((1 : Int32) + a1) 736 then ((f_Mo_canBy p5.2 (p5.2 100 (((1 : Int32) + a1)).toNatClampNeg) a2).bind fun p9 => if p9.1 = 0 then
        some ((0 : Int32), p9.2)
      else
        some ((1 : Int32), p9.2)) else none)))
def f_Mo_minds_L11 (K : HP → Option (Int32 × HP)) : Nat → HP → Int32 → Option (Int32 × HP)
  | 0, _, _ => none
  | n + 1, hp, x1 =>
      if (608 : Int32) ≤ x1 then
        K hp
      else
        (if inb (((96 : Int32) + x1) + (32 : Int32)) 736 then (if inb ((96 : Int32) + x1) 736 then f_Mo_minds_L11 K n (up hp 100 (((96 : Int32) + x1)).toNatClampNeg (hp 100 ((((96 : Int32) + x1) + (32 : Int32))).toNatClampNeg)) (x1 + 1) else none) else none)
def f_Mo_minds (hp : HP) : Option (Int32 × HP) :=
  if (hp 99 2) = (20 : Int32) then
    f_Mo_minds_L11 (fun hp5 =>
      ((f_Mo_copy (up hp5 99 2 ((hp5 99 2) - (1 : Int32))) (0 : Int32) ((96 : Int32) + ((32 : Int32) * ((up hp5 99 2 ((hp5 99 2) - (1 : Int32))) 99 2)))).bind fun p7 => some (0, (up p7.2 99 2 ((p7.2 99 2) + (1 : Int32)))))) FU hp (0 : Int32)
  else
    ((f_Mo_copy hp (0 : Int32) ((96 : Int32) + ((32 : Int32) * (hp 99 2)))).bind fun p9 => some (0, (up p9.2 99 2 ((p9.2 99 2) + (1 : Int32)))))
def f_Mo_undo (hp : HP) : Option (Int32 × HP) :=
  if (hp 99 2) = 0 then
    some ((-1000000003 : Int32), hp)
  else
    ((f_Mo_copy (up hp 99 2 ((hp 99 2) - (1 : Int32))) ((96 : Int32) + ((32 : Int32) * ((up hp 99 2 ((hp 99 2) - (1 : Int32))) 99 2))) (0 : Int32)).bind fun p3 => some (((up p3.2 100 31 (hp 100 31)) 99 2), (up p3.2 100 31 (hp 100 31))))
def f_Mo_behindMonth (hp : HP) (a1 : Int32) (a2 : Int32) : Option (Int32 × HP) :=
  (if inb a1 5 then ((f_Mo_bounded hp (a2 + (hp 103 (a1).toNatClampNeg))).bind fun p3 => ((f_Mo_bounded p3.2 (p3.1 - (p3.2 104 (a1).toNatClampNeg))).bind fun p5 => some (p5.1, p5.2))) else none)
def f_Mo_month_L53 (v1 : Int32) (v2 : Int32) (K : HP → Option (Int32 × HP)) : Nat → HP → Int32 → Option (Int32 × HP)
  | 0, _, _ => none
  | n + 1, hp, x3 =>
      if (hp 99 5) ≤ x3 then
        K hp
      else
        (if inb ((1 : Int32) + x3) 736 then ((f_Mo_behindMonth hp x3 (hp 100 (((1 : Int32) + x3)).toNatClampNeg)).bind fun p12 => f_Mo_month_L53 v1 v2 K n (up p12.2 100 (((1 : Int32) + x3)).toNatClampNeg p12.1) (x3 + 1)) else none)
def f_Mo_month_L46 (v1 : Int32) (K : HP → Option (Int32 × HP)) : Nat → HP → Int32 → Option (Int32 × HP)
  | 0, _, _ => none
  | n + 1, hp, x2 =>
      if v1 ≤ x2 then
        K hp
      else
        f_Mo_month_L53 v1 x2 (fun hp13 =>
          f_Mo_month_L46 v1 K n (up hp13 100 0 ((hp13 100 0) + (1 : Int32))) (x2 + 1)) FU hp (0 : Int32)
def f_Mo_month (hp : HP) (a1 : Int32) : Option (Int32 × HP) :=
  ((f_Mo_in hp (a1).toInt64 (1 : Int64) (60 : Int64)).bind fun p2 => if p2.1 = 0 then
    some ((-1000000002 : Int32), p2.2)
  else
    if (p2.2 99 3) = 0 then
      some ((-1000000003 : Int32), p2.2)
    else
      if (p2.2 100 0) ≤ (9000 : Int32) then
        ((f_Mo_minds p2.2).bind fun p7 => f_Mo_month_L46 a1 (fun hp14 =>
          some ((hp14 100 0), hp14)) FU p7.2 (0 : Int32))
      else
        some ((-1000000004 : Int32), p2.2))
def f_Mo_changes (hp : HP) (a1 : Int32) (a2 : Int32) : Option (Int32 × HP) :=
  (if inb ((1 : Int32) + a1) 736 then ((f_Mo_bounded hp ((hp 100 (((1 : Int32) + a1)).toNatClampNeg) + a2)).bind fun p3 => some (0, (up p3.2 100 (((1 : Int32) + a1)).toNatClampNeg p3.1))) else none)
def f_Mo_spend (hp : HP) (a1 : Int32) (a2 : Int32) : Option (Int32 × HP) :=
  ((f_Mo_isCustomer hp a1).bind fun p2 => if p2.1 = 0 then
    some ((-1000000001 : Int32), p2.2)
  else
    ((f_Mo_in p2.2 (a2).toInt64 (1 : Int64) (999 : Int64)).bind fun p5 => if p5.1 = 0 then
      some ((-1000000002 : Int32), p5.2)
    else
      ((f_Mo_minds p5.2).bind fun p8 => ((f_Mo_changes p8.2 a1 (-a2)).bind fun p10 => ((f_Mo_thereOf p10.2 a1).bind fun p12 => some (p12.1, p12.2))))))
def f_Mo_owesMore (hp : HP) (a1 : Int32) (a2 : Int32) (a3 : Int32) : Option (Int32 × HP) :=
  (if inb (((6 : Int32) + ((5 : Int32) * a1)) + a2) 736 then (if inb (((6 : Int32) + ((5 : Int32) * a2)) + a1) 736 then some (0, (up (up hp 100 ((((6 : Int32) + ((5 : Int32) * a1)) + a2)).toNatClampNeg ((hp 100 ((((6 : Int32) + ((5 : Int32) * a1)) + a2)).toNatClampNeg) + a3)) 100 ((((6 : Int32) + ((5 : Int32) * a2)) + a1)).toNatClampNeg (((up hp 100 ((((6 : Int32) + ((5 : Int32) * a1)) + a2)).toNatClampNeg ((hp 100 ((((6 : Int32) + ((5 : Int32) * a1)) + a2)).toNatClampNeg) + a3)) 100 ((((6 : Int32) + ((5 : Int32) * a2)) + a1)).toNatClampNeg) - a3))) else none) else none)
def f_Mo_lend (hp : HP) (a1 : Int32) (a2 : Int32) (a3 : Int32) : Option (Int32 × HP) :=
  ((f_Mo_areTwo hp a1 a2).bind fun p2 => if p2.1 = 0 then
    some ((-1000000001 : Int32), p2.2)
  else
    ((f_Mo_in p2.2 (a3).toInt64 (1 : Int64) (999 : Int64)).bind fun p5 => if p5.1 = 0 then
      some ((-1000000002 : Int32), p5.2)
    else
      (if inb (((6 : Int32) + ((5 : Int32) * a2)) + a1) 736 then if ((p5.2 100 ((((6 : Int32) + ((5 : Int32) * a2)) + a1)).toNatClampNeg) + a3) ≤ (9999 : Int32) then
        ((f_Mo_minds p5.2).bind fun p10 => ((f_Mo_changes p10.2 a1 (-a3)).bind fun p12 => ((f_Mo_changes p12.2 a2 a3).bind fun p14 => ((f_Mo_owesMore p14.2 a2 a1 a3).bind fun p16 => ((f_Mo_thereOf p16.2 a2).bind fun p18 => some (p18.1, p18.2))))))
      else
        some ((-1000000004 : Int32), p5.2) else none)))
def f_Mo_payBack (hp : HP) (a1 : Int32) (a2 : Int32) (a3 : Int32) : Option (Int32 × HP) :=
  ((f_Mo_areTwo hp a1 a2).bind fun p2 => if p2.1 = 0 then
    some ((-1000000001 : Int32), p2.2)
  else
    ((f_Mo_in p2.2 (a3).toInt64 (1 : Int64) (999 : Int64)).bind fun p5 => if p5.1 = 0 then
      some ((-1000000002 : Int32), p5.2)
    else
      (if inb (((6 : Int32) + ((5 : Int32) * a1)) + a2) 736 then if a3 ≤ (p5.2 100 ((((6 : Int32) + ((5 : Int32) * a1)) + a2)).toNatClampNeg) then
        ((f_Mo_minds p5.2).bind fun p10 => ((f_Mo_changes p10.2 a1 (-a3)).bind fun p12 => ((f_Mo_changes p12.2 a2 a3).bind fun p14 => ((f_Mo_owesMore p14.2 a1 a2 (-a3)).bind fun p16 => some ((p16.2 100 ((((6 : Int32) + ((5 : Int32) * a1)) + a2)).toNatClampNeg), p16.2)))))
      else
        some ((-1000000003 : Int32), p5.2) else none)))
def f_Mo_draw (hp : HP) (a1 : Int32) : Option (Int32 × HP) :=
  (if a1 = 0 then none else some (((((up hp 100 31 ((((((hp 100 31)).toInt64 * (1103515245 : Int64)) + (12345 : Int64)) - ((((hp 100 31)).toInt64 * (1103515245 : Int64)) + (12345 : Int64)) / (2147483648 : Int64) * (2147483648 : Int64))).toInt32) 100 31) / (65536 : Int32)) - (((up hp 100 31 ((((((hp 100 31)).toInt64 * (1103515245 : Int64)) + (12345 : Int64)) - ((((hp 100 31)).toInt64 * (1103515245 : Int64)) + (12345 : Int64)) / (2147483648 : Int64) * (2147483648 : Int64))).toInt32) 100 31) / (65536 : Int32)) / a1 * a1), (up hp 100 31 ((((((hp 100 31)).toInt64 * (1103515245 : Int64)) + (12345 : Int64)) - ((((hp 100 31)).toInt64 * (1103515245 : Int64)) + (12345 : Int64)) / (2147483648 : Int64) * (2147483648 : Int64))).toInt32)))
def f_Mo_drift_L31 (v1 : Int32) (K : HP → Option (Int32 × HP)) : Nat → HP → Int32 → Option (Int32 × HP)
  | 0, _, _ => none
  | n + 1, hp, x2 =>
      if v1 ≤ x2 then
        K hp
      else
        if (hp 99 5) ≤ 0 then
          K hp
        else
          ((f_Mo_draw hp (hp 99 5)).bind fun p10 => ((f_Mo_draw p10.2 (100 : Int32)).bind fun p12 => ((f_Mo_draw p12.2 (2 : Int32)).bind fun p14 => if p14.1 = 0 then
            ((f_Mo_changes p14.2 p10.1 (-p12.1)).bind fun p17 => f_Mo_drift_L31 v1 K n p17.2 (x2 + 1))
          else
            ((f_Mo_changes p14.2 p10.1 p12.1).bind fun p19 => f_Mo_drift_L31 v1 K n p19.2 (x2 + 1)))))
def f_Mo_drift (hp : HP) (a1 : Int32) : Option (Int32 × HP) :=
  ((f_Mo_in hp (a1).toInt64 (1 : Int64) (60 : Int64)).bind fun p2 => if p2.1 = 0 then
    some ((-1000000002 : Int32), p2.2)
  else
    if (p2.2 99 3) = 0 then
      some ((-1000000003 : Int32), p2.2)
    else
      ((f_Mo_minds p2.2).bind fun p6 => f_Mo_drift_L31 a1 (fun hp20 =>
        ((f_Mo_hats hp20).bind fun p22 => some (p22.1, p22.2))) FU p6.2 (0 : Int32)))
def f_Mo_hat_L22 (v1 : Int32) (K : HP → Option (Int32 × HP)) : Nat → HP → Int32 → Int32 → Option (Int32 × HP)
  | 0, _, _, _ => none
  | n + 1, hp, x2, x3 =>
      if (200 : Int32) < x3 then
        K hp
      else
        ((f_Mo_thereBy hp x2).bind fun p7 => if p7.1 = 0 then
          some (x3, p7.2)
        else
          ((f_Mo_behindMonth p7.2 v1 x2).bind fun p10 => f_Mo_hat_L22 v1 K n p10.2 p10.1 (x3 + 1)))
def f_Mo_hat (hp : HP) (a1 : Int32) : Option (Int32 × HP) :=
  ((f_Mo_isCustomer hp a1).bind fun p2 => if p2.1 = 0 then
    some ((-1000000001 : Int32), p2.2)
  else
    (if inb ((1 : Int32) + a1) 736 then f_Mo_hat_L22 a1 (fun hp11 =>
      some ((-1 : Int32), hp11)) FU p2.2 (p2.2 100 (((1 : Int32) + a1)).toNatClampNeg) (0 : Int32) else none))
def f_Mo_able_L50 (v1 : Int32) (v2 : Int32) (v3 : Int32) (K : HP → Int32 → Option (Int32 × HP)) : Nat → HP → Int32 → Int32 → Int32 → Option (Int32 × HP)
  | 0, _, _, _, _ => none
  | n + 1, hp, x4, x5, x6 =>
      if v3 ≤ x6 then
        K hp x5
      else
        ((f_Mo_canBy hp x4 v2).bind fun p13 => if p13.1 = 0 then
          ((f_Mo_behindMonth p13.2 v1 x4).bind fun p16 => f_Mo_able_L50 v1 v2 v3 K n p16.2 p16.1 (x5 + (0 : Int32)) (x6 + 1))
        else
          ((f_Mo_behindMonth p13.2 v1 x4).bind fun p18 => f_Mo_able_L50 v1 v2 v3 K n p18.2 p18.1 (x5 + (1 : Int32)) (x6 + 1)))
def f_Mo_able (hp : HP) (a1 : Int32) (a2 : Int32) (a3 : Int32) : Option (Int32 × HP) :=
  ((f_Mo_isCustomer hp a1).bind fun p2 => if p2.1 = 0 then
    some ((-1000000001 : Int32), p2.2)
  else
    ((f_Mo_isTask p2.2 a2).bind fun p5 => if p5.1 = 0 then
      some ((-1000000001 : Int32), p5.2)
    else
      ((f_Mo_in p5.2 (a3).toInt64 (1 : Int64) (60 : Int64)).bind fun p8 => if p8.1 = 0 then
        some ((-1000000002 : Int32), p8.2)
      else
        (if inb ((1 : Int32) + a1) 736 then f_Mo_able_L50 a1 a2 a3 (fun hp20 w19 =>
          some (w19, hp20)) FU p8.2 (p8.2 100 (((1 : Int32) + a1)).toNatClampNeg) (0 : Int32) (0 : Int32) else none))))
def f_Mo_spending (hp : HP) (a1 : Int32) : Option (Int32 × HP) :=
  ((f_Mo_in hp (a1).toInt64 (1 : Int64) (999 : Int64)).bind fun p2 => if p2.1 = 0 then
    some ((-1000000002 : Int32), p2.2)
  else
    if (p2.2 99 23) = (5 : Int32) then
      some ((-1000000004 : Int32), p2.2)
    else
      (if inb (p2.2 99 23) 5 then some (((up (up p2.2 110 ((p2.2 99 23)).toNatClampNeg a1) 99 23 (((up p2.2 110 ((p2.2 99 23)).toNatClampNeg a1) 99 23) + (1 : Int32))) 99 23), (up (up p2.2 110 ((p2.2 99 23)).toNatClampNeg a1) 99 23 (((up p2.2 110 ((p2.2 99 23)).toNatClampNeg a1) 99 23) + (1 : Int32)))) else none))
def f_Mo_must (hp : HP) (a1 : Int32) (a2 : Int32) : Option (Int32 × HP) :=
  ((f_Mo_isTask hp a1).bind fun p2 => if p2.1 = 0 then
    some ((-1000000001 : Int32), p2.2)
  else
    ((f_Mo_in p2.2 (a2).toInt64 (0 : Int64) (3 : Int64)).bind fun p5 => if p5.1 = 0 then
      some ((-1000000002 : Int32), p5.2)
    else
      if (p5.2 99 25) = (4 : Int32) then
        some ((-1000000004 : Int32), p5.2)
      else
        (if inb (p5.2 99 25) 4 then (if inb ((up p5.2 111 ((p5.2 99 25)).toNatClampNeg a1) 99 25) 4 then some (((up (up (up p5.2 111 ((p5.2 99 25)).toNatClampNeg a1) 112 (((up p5.2 111 ((p5.2 99 25)).toNatClampNeg a1) 99 25)).toNatClampNeg a2) 99 25 (((up (up p5.2 111 ((p5.2 99 25)).toNatClampNeg a1) 112 (((up p5.2 111 ((p5.2 99 25)).toNatClampNeg a1) 99 25)).toNatClampNeg a2) 99 25) + (1 : Int32))) 99 25), (up (up (up p5.2 111 ((p5.2 99 25)).toNatClampNeg a1) 112 (((up p5.2 111 ((p5.2 99 25)).toNatClampNeg a1) 99 25)).toNatClampNeg a2) 99 25 (((up (up p5.2 111 ((p5.2 99 25)).toNatClampNeg a1) 112 (((up p5.2 111 ((p5.2 99 25)).toNatClampNeg a1) 99 25)).toNatClampNeg a2) 99 25) + (1 : Int32)))) else none) else none)))
def f_Mo_isPlan_L21 (v1 : Int32) (v2 : Int32) (v4 : Int32) (K : HP → Int32 → Option (Int32 × HP)) : Nat → HP → Int32 → Int32 → Option (Int32 × HP)
  | 0, _, _, _ => none
  | n + 1, hp, x3, x5 =>
      if (hp 99 23) ≤ x5 then
        K hp x3
      else
        (if inb x5 5 then if (hp 113 (x5).toNatClampNeg) = v4 then
          ((f_Mo_bounded hp (x3 - (hp 110 (x5).toNatClampNeg))).bind fun p7 => f_Mo_isPlan_L21 v1 v2 v4 K n p7.2 p7.1 (x5 + 1))
        else
          f_Mo_isPlan_L21 v1 v2 v4 K n hp x3 (x5 + 1) else none)
def f_Mo_isPlan_L68 (v1 : Int32) (v2 : Int32) (v3 : Int32) (v4 : Int32) (K : HP → Option (Int32 × HP)) : Nat → HP → Int32 → Option (Int32 × HP)
  | 0, _, _ => none
  | n + 1, hp, x5 =>
      if (hp 99 25) ≤ x5 then
        K hp
      else
        (if inb x5 4 then if (hp 112 (x5).toNatClampNeg) = v4 then
          ((f_Mo_canBy hp v3 (hp 111 (x5).toNatClampNeg)).bind fun p14 => if p14.1 = 0 then
            some ((0 : Int32), p14.2)
          else
            f_Mo_isPlan_L68 v1 v2 v3 v4 K n p14.2 (x5 + 1))
        else
          f_Mo_isPlan_L68 v1 v2 v3 v4 K n hp (x5 + 1) else none)
def f_Mo_isPlan_L12 (v1 : Int32) (v2 : Int32) (K : HP → Option (Int32 × HP)) : Nat → HP → Int32 → Int32 → Option (Int32 × HP)
  | 0, _, _, _ => none
  | n + 1, hp, x3, x4 =>
      if v2 ≤ x4 then
        K hp
      else
        f_Mo_isPlan_L21 v1 v2 x4 (fun hp9 w8 =>
          f_Mo_isPlan_L68 v1 v2 w8 x4 (fun hp16 =>
            ((f_Mo_behindMonth hp16 v1 w8).bind fun p18 => f_Mo_isPlan_L12 v1 v2 K n p18.2 p18.1 (x4 + 1))) FU hp9 (0 : Int32)) FU hp x3 (0 : Int32)
def f_Mo_isPlan (hp : HP) (a1 : Int32) (a2 : Int32) : Option (Int32 × HP) :=
  (if inb ((1 : Int32) + a1) 736 then f_Mo_isPlan_L12 a1 a2 (fun hp19 =>
    some ((1 : Int32), hp19)) FU hp (hp 100 (((1 : Int32) + a1)).toNatClampNeg) (0 : Int32) else none)
def f_Mo_plan_L17 (v1 : Int32) (v2 : Int32) (v3 : Int32) (K : HP → Int32 → Option (Int32 × HP)) : Nat → HP → Int32 → Int32 → Option (Int32 × HP)
  | 0, _, _, _ => none
  | n + 1, hp, x4, x5 =>
      if (hp 99 25) ≤ x5 then
        K hp x4
      else
        if x4 = 0 then
          (if inb x5 4 then if (hp 112 (x5).toNatClampNeg) < v2 then
            f_Mo_plan_L17 v1 v2 v3 K n hp (0 : Int32) (x5 + 1)
          else
            f_Mo_plan_L17 v1 v2 v3 K n hp (1 : Int32) (x5 + 1) else none)
        else
          f_Mo_plan_L17 v1 v2 v3 K n hp (1 : Int32) (x5 + 1)
def f_Mo_plan_L81 (v1 : Int32) (v2 : Int32) (v3 : Int32) (K : HP → Int32 → Option (Int32 × HP)) : Nat → HP → Int32 → Int32 → Option (Int32 × HP)
  | 0, _, _, _ => none
  | n + 1, hp, x5, x6 =>
      if (hp 99 23) ≤ x6 then
        K hp x5
      else
        f_Mo_plan_L81 v1 v2 v3 K n hp (x5 * v2) (x6 + 1)
def f_Mo_plan_L124 (v1 : Int32) (v2 : Int32) (v3 : Int32) (v5 : Int32) (v6 : Int32) (K : HP → Option (Int32 × HP)) : Nat → HP → Int32 → Int32 → Option (Int32 × HP)
  | 0, _, _, _ => none
  | n + 1, hp, x7, x8 =>
      if x8 < 0 then
        K hp
      else
        (if v2 = 0 then none else (if inb x8 5 then f_Mo_plan_L124 v1 v2 v3 v5 v6 K n (up hp 113 (x8).toNatClampNeg (x7 - x7 / v2 * v2)) (x7 / v2) (x8 + (-1)) else none))
def f_Mo_plan_L105 (v1 : Int32) (v2 : Int32) (v3 : Int32) (v5 : Int32) (K : HP → Option (Int32 × HP)) : Nat → HP → Int32 → Option (Int32 × HP)
  | 0, _, _ => none
  | n + 1, hp, x6 =>
      if v5 ≤ x6 then
        K hp
      else
        f_Mo_plan_L124 v1 v2 v3 v5 x6 (fun hp21 =>
          ((f_Mo_isPlan hp21 v1 v2).bind fun p23 => if p23.1 = 0 then
            f_Mo_plan_L105 v1 v2 v3 v5 K n p23.2 (x6 + 1)
          else
            if v3 = (-1 : Int32) then
              some ((1 : Int32), p23.2)
            else
              ((f_Mo_in p23.2 (v3).toInt64 (0 : Int64) (((p23.2 99 23) - (1 : Int32))).toInt64).bind fun p27 => if p27.1 = 0 then
                some ((-1 : Int32), p27.2)
              else
                (if inb v3 5 then some ((p27.2 113 (v3).toNatClampNeg), p27.2) else none)))) FU hp x6 ((hp 99 23) - (1 : Int32))
def f_Mo_plan (hp : HP) (a1 : Int32) (a2 : Int32) (a3 : Int32) : Option (Int32 × HP) :=
  ((f_Mo_isCustomer hp a1).bind fun p2 => if p2.1 = 0 then
    some ((-1000000001 : Int32), p2.2)
  else
    f_Mo_plan_L17 a1 a2 a3 (fun hp9 w8 =>
      ((f_Mo_in hp9 (a2).toInt64 (1 : Int64) (4 : Int64)).bind fun p11 => if p11.1 = 0 then
        some ((-1000000002 : Int32), p11.2)
      else
        if w8 = 0 then
          f_Mo_plan_L81 a1 a2 a3 (fun hp16 w15 =>
            f_Mo_plan_L105 a1 a2 a3 w15 (fun hp30 =>
              if a3 = (-1 : Int32) then
                some ((0 : Int32), hp30)
              else
                some ((-1 : Int32), hp30)) FU hp16 (0 : Int32)) FU p11.2 (1 : Int32) (0 : Int32)
        else
          some ((-1000000002 : Int32), p11.2))) FU p2.2 (0 : Int32) (0 : Int32))
def f_Mo_asOne_L31 (v1 : Int32) (v2 : Int32) (v4 : Int32) (K : HP → Int32 → Option (Int32 × HP)) : Nat → HP → Int32 → Int32 → Option (Int32 × HP)
  | 0, _, _, _ => none
  | n + 1, hp, x3, x5 =>
      if (hp 99 5) ≤ x5 then
        K hp x3
      else
        (if inb ((1 : Int32) + v4) 736 then ((f_Mo_canBy hp (hp 100 (((1 : Int32) + v4)).toNatClampNeg) v1).bind fun p8 => if p8.1 = 0 then
          (if inb ((1 : Int32) + x5) 736 then ((f_Mo_canBy p8.2 (p8.2 100 (((1 : Int32) + x5)).toNatClampNeg) v1).bind fun p12 => if p12.1 = 0 then
            ((f_Mo_canBy p12.2 ((p12.2 100 (((1 : Int32) + v4)).toNatClampNeg) + (p12.2 100 (((1 : Int32) + x5)).toNatClampNeg)) v1).bind fun p16 => if p16.1 = 0 then
              f_Mo_asOne_L31 v1 v2 v4 K n p16.2 x3 (x5 + 1)
            else
              if x3 = v2 then
                some ((((10 : Int32) * v4) + x5), p16.2)
              else
                f_Mo_asOne_L31 v1 v2 v4 K n p16.2 (x3 + 1) (x5 + 1))
          else
            f_Mo_asOne_L31 v1 v2 v4 K n p12.2 x3 (x5 + 1)) else none)
        else
          f_Mo_asOne_L31 v1 v2 v4 K n p8.2 x3 (x5 + 1)) else none)
def f_Mo_asOne_L16 (v1 : Int32) (v2 : Int32) (K : HP → Int32 → Option (Int32 × HP)) : Nat → HP → Int32 → Int32 → Option (Int32 × HP)
  | 0, _, _, _ => none
  | n + 1, hp, x3, x4 =>
      if (hp 99 5) ≤ x4 then
        K hp x3
      else
        f_Mo_asOne_L31 v1 v2 x4 (fun hp22 w21 =>
          f_Mo_asOne_L16 v1 v2 K n hp22 w21 (x4 + 1)) FU hp x3 (x4 + (1 : Int32))
def f_Mo_asOne (hp : HP) (a1 : Int32) (a2 : Int32) : Option (Int32 × HP) :=
  ((f_Mo_isTask hp a1).bind fun p2 => if p2.1 = 0 then
    some ((-1000000001 : Int32), p2.2)
  else
    f_Mo_asOne_L16 a1 a2 (fun hp24 w23 =>
      if a2 = (-1 : Int32) then
        some (w23, hp24)
      else
        some ((-1 : Int32), hp24)) FU p2.2 (0 : Int32) (0 : Int32))
def f_Mo_loan_L39 (v1 : Int32) (v2 : Int32) (v3 : Int32) (K : HP → Int32 → Option (Int32 × HP)) : Nat → HP → Int32 → Int32 → Option (Int32 × HP)
  | 0, _, _, _ => none
  | n + 1, hp, x4, x5 =>
      if (hp 99 3) ≤ x5 then
        K hp x4
      else
        (if inb v2 6 then ((f_Mo_isIn hp (hp 105 (v2).toNatClampNeg) x5).bind fun p13 => if p13.1 = 0 then
          f_Mo_loan_L39 v1 v2 v3 K n p13.2 x4 (x5 + 1)
        else
          (if inb x5 8 then if ((p13.2 102 (x5).toNatClampNeg) - (500 : Int32)) ≤ x4 then
            f_Mo_loan_L39 v1 v2 v3 K n p13.2 x4 (x5 + 1)
          else
            f_Mo_loan_L39 v1 v2 v3 K n p13.2 ((p13.2 102 (x5).toNatClampNeg) - (500 : Int32)) (x5 + 1) else none)) else none)
def f_Mo_loan (hp : HP) (a1 : Int32) (a2 : Int32) (a3 : Int32) : Option (Int32 × HP) :=
  ((f_Mo_isCustomer hp a1).bind fun p2 => if p2.1 = 0 then
    some ((-1000000001 : Int32), p2.2)
  else
    ((f_Mo_isTask p2.2 a2).bind fun p5 => if p5.1 = 0 then
      some ((-1000000001 : Int32), p5.2)
    else
      ((f_Mo_in p5.2 (a3).toInt64 (0 : Int64) (1 : Int64)).bind fun p8 => if p8.1 = 0 then
        some ((-1000000002 : Int32), p8.2)
      else
        f_Mo_loan_L39 a1 a2 a3 (fun hp18 w17 =>
          (if inb ((1 : Int32) + a1) 736 then if a3 = 0 then
            if ((hp18 100 (((1 : Int32) + a1)).toNatClampNeg) - w17) < 0 then
              if (-((hp18 100 (((1 : Int32) + a1)).toNatClampNeg) - w17)) ≤ (9999 : Int32) then
                some ((-((hp18 100 (((1 : Int32) + a1)).toNatClampNeg) - w17)), hp18)
              else
                some ((-1 : Int32), hp18)
            else
              some ((0 : Int32), hp18)
          else
            if 0 ≤ ((hp18 100 (((1 : Int32) + a1)).toNatClampNeg) - w17) then
              if ((hp18 100 (((1 : Int32) + a1)).toNatClampNeg) - w17) ≤ (9999 : Int32) then
                some (((hp18 100 (((1 : Int32) + a1)).toNatClampNeg) - w17), hp18)
              else
                some ((9999 : Int32), hp18)
            else
              some ((-1 : Int32), hp18) else none)) FU p8.2 (-1000000 : Int32) (0 : Int32))))
def f_Mo_order_L27 (v1 : Int32) (v2 : Int32) (v4 : Int32) (K : HP → Int32 → Option (Int32 × HP)) : Nat → HP → Int32 → Int32 → Option (Int32 × HP)
  | 0, _, _, _ => none
  | n + 1, hp, x3, x5 =>
      if (hp 99 3) ≤ x5 then
        K hp x3
      else
        ((f_Mo_isIn hp v2 x5).bind fun p5 => if p5.1 = 0 then
          if x3 = (-1 : Int32) then
            f_Mo_order_L27 v1 v2 v4 K n p5.2 x5 (x5 + 1)
          else
            (if inb x5 8 then (if inb x3 8 then if (p5.2 102 (x5).toNatClampNeg) ≤ (p5.2 102 (x3).toNatClampNeg) then
              f_Mo_order_L27 v1 v2 v4 K n p5.2 x3 (x5 + 1)
            else
              f_Mo_order_L27 v1 v2 v4 K n p5.2 x5 (x5 + 1) else none) else none)
        else
          f_Mo_order_L27 v1 v2 v4 K n p5.2 x3 (x5 + 1))
def f_Mo_order_L7 (v1 : Int32) (K : HP → Int32 → Option (Int32 × HP)) : Nat → HP → Int32 → Int32 → Int32 → Option (Int32 × HP)
  | 0, _, _, _, _ => none
  | n + 1, hp, x2, x3, x4 =>
      if v1 < x4 then
        K hp x3
      else
        if (hp 99 3) ≤ x4 then
          K hp x3
        else
          f_Mo_order_L27 v1 x2 x4 (fun hp12 w11 =>
            f_Mo_order_L7 v1 K n hp12 (x2 ||| ((1 : Int32) <<< (w11 &&& 31))) w11 (x4 + 1)) FU hp (-1 : Int32) (0 : Int32)
def f_Mo_order (hp : HP) (a1 : Int32) : Option (Int32 × HP) :=
  f_Mo_order_L7 a1 (fun hp14 w13 =>
    ((f_Mo_in hp14 (a1).toInt64 (0 : Int64) (((hp14 99 3) - (1 : Int32))).toInt64).bind fun p16 => if p16.1 = 0 then
      some ((-1 : Int32), p16.2)
    else
      some (w13, p16.2))) FU hp (0 : Int32) (-1 : Int32) (0 : Int32)
def f_Mo_wage_L34 (v1 : Int32) (v2 : Int32) (K : HP → Int64 → Option (Int32 × HP)) : Nat → HP → Int64 → Int32 → Option (Int32 × HP)
  | 0, _, _, _ => none
  | n + 1, hp, x3, x5 =>
      if v1 ≤ x5 then
        K hp x3
      else
        f_Mo_wage_L34 v1 v2 K n hp ((x3 * (((100 : Int32) - v2)).toInt64) / (100 : Int64)) (x5 + 1)
def f_Mo_wage (hp : HP) (a1 : Int32) (a2 : Int32) : Option (Int32 × HP) :=
  ((f_Mo_in hp (a1).toInt64 (0 : Int64) (60 : Int64)).bind fun p2 => if p2.1 = 0 then
    some ((-1000000002 : Int32), p2.2)
  else
    ((f_Mo_in p2.2 (a2).toInt64 (0 : Int64) (100 : Int64)).bind fun p5 => if p5.1 = 0 then
      some ((-1000000002 : Int32), p5.2)
    else
      f_Mo_wage_L34 a1 a2 (fun hp9 w8 =>
        some ((w8).toInt32, hp9)) FU p5.2 (1000000000 : Int64) (0 : Int32)))
def f_Mo_see (hp : HP) (a1 : Int32) (a2 : Int32) : Option (Int32 × HP) :=
  ((f_Mo_isPart hp a1).bind fun p2 => if p2.1 = 0 then
    some ((-1000000001 : Int32), p2.2)
  else
    if (p2.2 99 29) = (8 : Int32) then
      some ((-1000000004 : Int32), p2.2)
    else
      (if inb (p2.2 99 29) 8 then (if inb ((up p2.2 114 ((p2.2 99 29)).toNatClampNeg a1) 99 29) 8 then some (((up (up (up p2.2 114 ((p2.2 99 29)).toNatClampNeg a1) 115 (((up p2.2 114 ((p2.2 99 29)).toNatClampNeg a1) 99 29)).toNatClampNeg (bz a2)) 99 29 (((up (up p2.2 114 ((p2.2 99 29)).toNatClampNeg a1) 115 (((up p2.2 114 ((p2.2 99 29)).toNatClampNeg a1) 99 29)).toNatClampNeg (bz a2)) 99 29) + (1 : Int32))) 99 29), (up (up (up p2.2 114 ((p2.2 99 29)).toNatClampNeg a1) 115 (((up p2.2 114 ((p2.2 99 29)).toNatClampNeg a1) 99 29)).toNatClampNeg (bz a2)) 99 29 (((up (up p2.2 114 ((p2.2 99 29)).toNatClampNeg a1) 115 (((up p2.2 114 ((p2.2 99 29)).toNatClampNeg a1) 99 29)).toNatClampNeg (bz a2)) 99 29) + (1 : Int32)))) else none) else none))
def f_Mo_isSeen_L4 (v1 : Int32) (K : HP → Int32 → Option (Int32 × HP)) : Nat → HP → Int32 → Int32 → Option (Int32 × HP)
  | 0, _, _, _ => none
  | n + 1, hp, x2, x3 =>
      if (hp 99 29) ≤ x3 then
        K hp x2
      else
        if x2 = 0 then
          f_Mo_isSeen_L4 v1 K n hp (0 : Int32) (x3 + 1)
        else
          (if inb x3 8 then (if inb (hp 114 (x3).toNatClampNeg) 8 then if v1 < ((hp 102 ((hp 114 (x3).toNatClampNeg)).toNatClampNeg) - (500 : Int32)) then
            if (0 : Int32) = (hp 115 (x3).toNatClampNeg) then
              f_Mo_isSeen_L4 v1 K n hp (1 : Int32) (x3 + 1)
            else
              f_Mo_isSeen_L4 v1 K n hp (0 : Int32) (x3 + 1)
          else
            if (1 : Int32) = (hp 115 (x3).toNatClampNeg) then
              f_Mo_isSeen_L4 v1 K n hp (1 : Int32) (x3 + 1)
            else
              f_Mo_isSeen_L4 v1 K n hp (0 : Int32) (x3 + 1) else none) else none)
def f_Mo_isSeen (hp : HP) (a1 : Int32) : Option (Int32 × HP) :=
  f_Mo_isSeen_L4 a1 (fun hp9 w8 =>
    rz w8 hp9) FU hp (1 : Int32) (0 : Int32)
def f_Mo_has_L27 (v1 : Int32) (K : HP → Int32 → Int32 → Int32 → Option (Int32 × HP)) : Nat → HP → Int32 → Int32 → Int32 → Int32 → Option (Int32 × HP)
  | 0, _, _, _, _, _ => none
  | n + 1, hp, x2, x3, x4, x5 =>
      if (500 : Int32) ≤ x5 then
        K hp x2 x3 x4
      else
        ((f_Mo_isSeen hp x5).bind fun p6 => if p6.1 = 0 then
          f_Mo_has_L27 v1 K n p6.2 x2 x3 x4 (x5 + 1)
        else
          if x2 = 0 then
            f_Mo_has_L27 v1 K n p6.2 (x2 + 1) (x5 + (10000 : Int32)) (x5 + (10000 : Int32)) (x5 + 1)
          else
            f_Mo_has_L27 v1 K n p6.2 (x2 + 1) x3 (x5 + (10000 : Int32)) (x5 + 1))
def f_Mo_has (hp : HP) (a1 : Int32) : Option (Int32 × HP) :=
  ((f_Mo_in hp (a1).toInt64 (0 : Int64) (2 : Int64)).bind fun p2 => if p2.1 = 0 then
    some ((-1000000002 : Int32), p2.2)
  else
    f_Mo_has_L27 a1 (fun hp12 w9 w10 w11 =>
      if a1 = 0 then
        some (w9, hp12)
      else
        if a1 = (1 : Int32) then
          some (w10, hp12)
        else
          some (w11, hp12)) FU p2.2 (0 : Int32) (-1 : Int32) (-1 : Int32) (-500 : Int32))
def f_Mo_look_L30 (v1 : Int32) (v2 : Int32) (v3 : Int32) (v4 : Int32) (K : HP → Int32 → Option (Int32 × HP)) : Nat → HP → Int32 → Int32 → Option (Int32 × HP)
  | 0, _, _, _ => none
  | n + 1, hp, x5, x6 =>
      if (500 : Int32) ≤ x6 then
        K hp x5
      else
        ((f_Mo_isSeen hp x6).bind fun p6 => if p6.1 = 0 then
          f_Mo_look_L30 v1 v2 v3 v4 K n p6.2 (x5 + (0 : Int32)) (x6 + 1)
        else
          (if inb v4 8 then if x6 < ((p6.2 102 (v4).toNatClampNeg) - (500 : Int32)) then
            f_Mo_look_L30 v1 v2 v3 v4 K n p6.2 (x5 + (0 : Int32)) (x6 + 1)
          else
            f_Mo_look_L30 v1 v2 v3 v4 K n p6.2 (x5 + (1 : Int32)) (x6 + 1) else none))
def f_Mo_look_L13 (v1 : Int32) (K : HP → Int32 → Option (Int32 × HP)) : Nat → HP → Int32 → Int32 → Int32 → Option (Int32 × HP)
  | 0, _, _, _, _ => none
  | n + 1, hp, x2, x3, x4 =>
      if (hp 99 3) ≤ x4 then
        K hp x2
      else
        f_Mo_look_L30 v1 x2 x3 x4 (fun hp11 w10 =>
          if w10 ≤ (v1 - w10) then
            if x3 ≤ (v1 - w10) then
              f_Mo_look_L13 v1 K n hp11 x2 x3 (x4 + 1)
            else
              f_Mo_look_L13 v1 K n hp11 x4 (v1 - w10) (x4 + 1)
          else
            if x3 ≤ w10 then
              f_Mo_look_L13 v1 K n hp11 x2 x3 (x4 + 1)
            else
              f_Mo_look_L13 v1 K n hp11 x4 w10 (x4 + 1)) FU hp (0 : Int32) (-500 : Int32)
def f_Mo_look (hp : HP) : Option (Int32 × HP) :=
  ((f_Mo_has hp (0 : Int32)).bind fun p2 => f_Mo_look_L13 p2.1 (fun hp20 w19 =>
    some (w19, hp20)) FU p2.2 (-1 : Int32) p2.1 (0 : Int32))
def f_Mo_write (hp : HP) (a1 : Int32) (a2 : Int32) : Option (Int32 × HP) :=
  ((f_Mo_isCustomer hp a1).bind fun p2 => if p2.1 = 0 then
    some ((-1000000001 : Int32), p2.2)
  else
    ((f_Mo_in p2.2 (a2).toInt64 (0 : Int64) (20000 : Int64)).bind fun p5 => if p5.1 = 0 then
      some ((-1000000002 : Int32), p5.2)
    else
      if (p5.2 99 32) = (15 : Int32) then
        some ((-1000000004 : Int32), p5.2)
      else
        (if inb (p5.2 99 32) 15 then (if inb ((up p5.2 116 ((p5.2 99 32)).toNatClampNeg a1) 99 32) 15 then some (((up (up (up p5.2 116 ((p5.2 99 32)).toNatClampNeg a1) 117 (((up p5.2 116 ((p5.2 99 32)).toNatClampNeg a1) 99 32)).toNatClampNeg a2) 99 32 (((up (up p5.2 116 ((p5.2 99 32)).toNatClampNeg a1) 117 (((up p5.2 116 ((p5.2 99 32)).toNatClampNeg a1) 99 32)).toNatClampNeg a2) 99 32) + (1 : Int32))) 99 32), (up (up (up p5.2 116 ((p5.2 99 32)).toNatClampNeg a1) 117 (((up p5.2 116 ((p5.2 99 32)).toNatClampNeg a1) 99 32)).toNatClampNeg a2) 99 32 (((up (up p5.2 116 ((p5.2 99 32)).toNatClampNeg a1) 117 (((up p5.2 116 ((p5.2 99 32)).toNatClampNeg a1) 99 32)).toNatClampNeg a2) 99 32) + (1 : Int32)))) else none) else none)))
def f_Mo_tear (hp : HP) : Option (Int32 × HP) :=
  some (((((hp 99 23) + (hp 99 25)) + (hp 99 29)) + (hp 99 32)), (up (up (up (up hp 99 23 (0 : Int32)) 99 25 (0 : Int32)) 99 29 (0 : Int32)) 99 32 (0 : Int32)))
def f_Mo_judge_L2 (K : HP → Option (Int32 × HP)) : Nat → HP → Int32 → Option (Int32 × HP)
  | 0, _, _ => none
  | n + 1, hp, x1 =>
      if (hp 99 32) ≤ x1 then
        K hp
      else
        (if inb x1 15 then (if inb ((1 : Int32) + (hp 116 (x1).toNatClampNeg)) 736 then if ((hp 100 (((1 : Int32) + (hp 116 (x1).toNatClampNeg))).toNatClampNeg) + (10000 : Int32)) = (hp 117 (x1).toNatClampNeg) then
          f_Mo_judge_L2 K n hp (x1 + 1)
        else
          some (x1, hp) else none) else none)
def f_Mo_judge (hp : HP) : Option (Int32 × HP) :=
  f_Mo_judge_L2 (fun hp5 =>
    some ((-1 : Int32), hp5)) FU hp (0 : Int32)
def f_Mo_seed (hp : HP) (a1 : Int32) : Option (Int32 × HP) :=
  if 0 ≤ a1 then
    some ((hp 100 31), (up hp 100 31 a1))
  else
    some ((-1000000002 : Int32), hp)
def f_Mo_keep (hp : HP) (a1 : Int32) : Option (Int32 × HP) :=
  ((f_Mo_in hp (a1).toInt64 (0 : Int64) (1 : Int64)).bind fun p2 => if p2.1 = 0 then
    some ((-1000000001 : Int32), p2.2)
  else
    ((f_Mo_copy p2.2 (0 : Int32) ((32 : Int32) + ((32 : Int32) * a1))).bind fun p5 => (if inb a1 2 then some ((1 : Int32), (up (up p5.2 101 (a1).toNatClampNeg (bz (1 : Int32))) 99 2 (0 : Int32))) else none)))
def f_Mo_goBack (hp : HP) (a1 : Int32) : Option (Int32 × HP) :=
  ((f_Mo_in hp (a1).toInt64 (0 : Int64) (1 : Int64)).bind fun p2 => if p2.1 = 0 then
    some ((-1000000001 : Int32), p2.2)
  else
    (if inb a1 2 then if (p2.2 101 (a1).toNatClampNeg) = 0 then
      some ((-1000000003 : Int32), p2.2)
    else
      ((f_Mo_copy p2.2 ((32 : Int32) + ((32 : Int32) * a1)) (0 : Int32)).bind fun p7 => some ((1 : Int32), (up p7.2 99 2 (0 : Int32)))) else none))
