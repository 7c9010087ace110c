/-! the functions -/
def fL_rule (N : Nat) (A : AH) (x1 : Int) (x2 : Int) : Option (Int × AH) :=
  obind (fX8_rule N A x1 x2) (fun p2 =>
  if p2.1 = 0 then
    bnd (sI p2.2.2 374 0 p2.2.1) (fun A8 =>
    some (0, A8))
  else
    if p2.1 = 1 then
      some (1, p2.2.2)
    else
      none)
def fL_tide (N : Nat) (A : AH) (x1 : Int) (x2 : Int) : Option (Int × AH) :=
  obind (fX8_tide N A x1 x2) (fun p2 =>
  if p2.1 = 0 then
    bnd (sI p2.2.2 374 0 p2.2.1) (fun A8 =>
    some (0, A8))
  else
    if p2.1 = 1 then
      some (1, p2.2.2)
    else
      none)
def fL_depth (N : Nat) (A : AH) (x1 : Int) : Option (Int × AH) :=
  obind (fX8_depth N A x1) (fun p2 =>
  if p2.1 = 0 then
    bnd (sI p2.2.2 374 0 p2.2.1) (fun A8 =>
    some (0, A8))
  else
    if p2.1 = 3 then
      some (1, p2.2.2)
    else
      none)
def fL_addPilot (N : Nat) (A : AH) (x1 : Int) : Option (Int × AH) :=
  obind (fX8_addPilot N A x1) (fun p2 =>
  if p2.1 = 0 then
    bnd (sI p2.2.2 374 0 p2.2.1) (fun A9 =>
    some (0, A9))
  else
    if p2.1 = 1 then
      some (1, p2.2.2)
    else
      if p2.1 = 2 then
        some (2, p2.2.2)
      else
        none)
def fL_addBoat (N : Nat) (A : AH) (x1 : Int) : Option (Int × AH) :=
  obind (fX8_addBoat N A x1) (fun p2 =>
  if p2.1 = 0 then
    bnd (sI p2.2.2 374 0 p2.2.1) (fun A9 =>
    some (0, A9))
  else
    if p2.1 = 1 then
      some (1, p2.2.2)
    else
      if p2.1 = 2 then
        some (2, p2.2.2)
      else
        none)
def fL_order (N : Nat) (A : AH) (x1 : Int) (x2 : Int) (x3 : Int) (x4 : Int) (x5 : Int) : Option (Int × AH) :=
  obind (fX8_order N A x1 x2 x3 x4 x5) (fun p2 =>
  if p2.1 = 0 then
    bnd (sI p2.2.2 374 0 p2.2.1) (fun A9 =>
    some (0, A9))
  else
    if p2.1 = 1 then
      some (1, p2.2.2)
    else
      if p2.1 = 2 then
        some (2, p2.2.2)
      else
        none)
def fL_orderOf (N : Nat) (A : AH) (x1 : Int) (x2 : Int) : Option (Int × AH) :=
  obind (fX8_orderOf N A x1 x2) (fun p2 =>
  if p2.1 = 0 then
    bnd (sI p2.2.2 374 0 p2.2.1) (fun A9 =>
    some (0, A9))
  else
    if p2.1 = 3 then
      some (1, p2.2.2)
    else
      if p2.1 = 1 then
        some (2, p2.2.2)
      else
        none)
def fL_window (N : Nat) (A : AH) (x1 : Int) (x2 : Int) : Option (Int × AH) :=
  obind (fX8_window N A x1 x2) (fun p2 =>
  if p2.1 = 0 then
    bnd (sI p2.2.2 374 0 p2.2.1) (fun A9 =>
    some (0, A9))
  else
    if p2.1 = 3 then
      some (1, p2.2.2)
    else
      if p2.1 = 6 then
        some (2, p2.2.2)
      else
        none)
def fL_hinders (N : Nat) (A : AH) (x1 : Int) (x2 : Int) (x3 : Int) : Option (Int × AH) :=
  obind (fX8_hinders N A x1 x2 x3) (fun p2 =>
  if p2.1 = 0 then
    bnd (sI p2.2.2 374 0 p2.2.1) (fun A8 =>
    some (0, A8))
  else
    if p2.1 = 3 then
      some (1, p2.2.2)
    else
      none)
def fL_plan (N : Nat) (A : AH) (x1 : Int) (x2 : Int) (x3 : Int) : Option (Int × AH) :=
  obind (fX8_plan N A x1 x2 x3) (fun p2 =>
  if p2.1 = 0 then
    bnd (sI p2.2.2 374 0 p2.2.1) (fun A9 =>
    some (0, A9))
  else
    if p2.1 = 3 then
      some (1, p2.2.2)
    else
      if p2.1 = 5 then
        some (2, p2.2.2)
      else
        none)
def fL_run (N : Nat) (A : AH) (x1 : Int) (x2 : Int) (x3 : Int) : Option (Int × AH) :=
  obind (fX8_run N A x1 x2 x3) (fun p2 =>
  if p2.1 = 0 then
    bnd (sI p2.2.2 374 0 p2.2.1) (fun A10 =>
    some (0, A10))
  else
    if p2.1 = 3 then
      some (1, p2.2.2)
    else
      if p2.1 = 1 then
        some (2, p2.2.2)
      else
        if p2.1 = 5 then
          some (3, p2.2.2)
        else
          none)
def fL_serving (N : Nat) (A : AH) (x1 : Int) (x2 : Int) : Option (Int × AH) :=
  obind (fX8_serving N A x1 x2) (fun p2 =>
  if p2.1 = 0 then
    bnd (sI p2.2.2 374 0 p2.2.1) (fun A10 =>
    some (0, A10))
  else
    if p2.1 = 3 then
      some (1, p2.2.2)
    else
      if p2.1 = 1 then
        some (2, p2.2.2)
      else
        if p2.1 = 6 then
          some (3, p2.2.2)
        else
          none)
def fL_serve (N : Nat) (A : AH) (x1 : Int) : Option (Int × AH) :=
  obind (fX8_serve N A x1) (fun p2 =>
  if p2.1 = 0 then
    bnd (sI p2.2.2 374 0 p2.2.1) (fun A9 =>
    some (0, A9))
  else
    if p2.1 = 3 then
      some (1, p2.2.2)
    else
      if p2.1 = 5 then
        some (2, p2.2.2)
      else
        none)
def fL_release (N : Nat) (A : AH) (x1 : Int) : Option (Int × AH) :=
  obind (fX8_release N A x1) (fun p2 =>
  if p2.1 = 0 then
    bnd (sI p2.2.2 374 0 p2.2.1) (fun A9 =>
    some (0, A9))
  else
    if p2.1 = 3 then
      some (1, p2.2.2)
    else
      if p2.1 = 5 then
        some (2, p2.2.2)
      else
        none)
def fL_putOff (N : Nat) (A : AH) (x1 : Int) (x2 : Int) : Option (Int × AH) :=
  obind (fX8_putOff N A x1 x2) (fun p2 =>
  if p2.1 = 0 then
    bnd (sI p2.2.2 374 0 p2.2.1) (fun A10 =>
    some (0, A10))
  else
    if p2.1 = 3 then
      some (1, p2.2.2)
    else
      if p2.1 = 1 then
        some (2, p2.2.2)
      else
        if p2.1 = 5 then
          some (3, p2.2.2)
        else
          none)
def fL_urgent (N : Nat) (A : AH) (x1 : Int) : Option (Int × AH) :=
  obind (fX8_urgent N A x1) (fun p2 =>
  if p2.1 = 0 then
    bnd (sI p2.2.2 374 0 p2.2.1) (fun A8 =>
    some (0, A8))
  else
    if p2.1 = 6 then
      some (1, p2.2.2)
    else
      none)
def fL_pilot (N : Nat) (A : AH) (x1 : Int) (x2 : Int) : Option (Int × AH) :=
  obind (fX8_pilot N A x1 x2) (fun p2 =>
  if p2.1 = 0 then
    bnd (sI p2.2.2 374 0 p2.2.1) (fun A9 =>
    some (0, A9))
  else
    if p2.1 = 3 then
      some (1, p2.2.2)
    else
      if p2.1 = 1 then
        some (2, p2.2.2)
      else
        none)
def fL_planOf (N : Nat) (A : AH) (x1 : Int) (x2 : Int) (x3 : Int) : Option (Int × AH) :=
  obind (fX8_planOf N A x1 x2 x3) (fun p2 =>
  if p2.1 = 0 then
    bnd (sI p2.2.2 374 0 p2.2.1) (fun A10 =>
    some (0, A10))
  else
    if p2.1 = 3 then
      some (1, p2.2.2)
    else
      if p2.1 = 6 then
        some (2, p2.2.2)
      else
        if p2.1 = 1 then
          some (3, p2.2.2)
        else
          none)
def fL_place (N : Nat) (A : AH) (x1 : Int) (x2 : Int) : Option (Int × AH) :=
  obind (fX8_place N A x1 x2) (fun p2 =>
  if p2.1 = 0 then
    bnd (sI p2.2.2 374 0 p2.2.1) (fun A8 =>
    some (0, A8))
  else
    if p2.1 = 3 then
      some (1, p2.2.2)
    else
      none)
def fL_placeAgain (N : Nat) (A : AH) (x1 : Int) (x2 : Int) : Option (Int × AH) :=
  obind (fX8_placeAgain N A x1 x2) (fun p2 =>
  if p2.1 = 0 then
    bnd (sI p2.2.2 374 0 p2.2.1) (fun A8 =>
    some (0, A8))
  else
    if p2.1 = 3 then
      some (1, p2.2.2)
    else
      none)
def fL_boat (N : Nat) (A : AH) (x1 : Int) (x2 : Int) : Option (Int × AH) :=
  obind (fX8_boat N A x1 x2) (fun p2 =>
  if p2.1 = 0 then
    bnd (sI p2.2.2 374 0 p2.2.1) (fun A9 =>
    some (0, A9))
  else
    if p2.1 = 3 then
      some (1, p2.2.2)
    else
      if p2.1 = 1 then
        some (2, p2.2.2)
      else
        none)
def fL_pass (N : Nat) (A : AH) (x1 : Int) : Option (Int × AH) :=
  obind (fX8_pass N A x1) (fun p2 =>
  if p2.1 = 0 then
    bnd (sI p2.2.2 374 0 p2.2.1) (fun A9 =>
    some (0, A9))
  else
    if p2.1 = 1 then
      some (1, p2.2.2)
    else
      if p2.1 = 2 then
        some (2, p2.2.2)
      else
        none)
def fL_number (N : Nat) (A : AH) (x1 : Int) : Option (Int × AH) :=
  obind (fX8_number N A x1) (fun p2 =>
  if p2.1 = 0 then
    bnd (sI p2.2.2 374 0 p2.2.1) (fun A8 =>
    some (0, A8))
  else
    if p2.1 = 1 then
      some (1, p2.2.2)
    else
      none)
def fL_meanWait (N : Nat) (A : AH) : Option (Int × AH) :=
  obind (fX8_meanWait N A ) (fun p2 =>
  if p2.1 = 0 then
    bnd (sD p2.2.2 p2.2.1) (fun A8 =>
    some (0, A8))
  else
    if p2.1 = 4 then
      some (1, p2.2.2)
    else
      none)
def fL_share (N : Nat) (A : AH) (x1 : Int) : Option (Int × AH) :=
  obind (fX8_share N A x1) (fun p2 =>
  if p2.1 = 0 then
    chk ((FP.f2d p2.2.1) &&& 0x7fffffffffffffff ≤ 0x7ff0000000000000) (
    bnd (sD p2.2.2 (FP.f2d p2.2.1)) (fun A10 =>
    some (0, A10)))
  else
    if p2.1 = 3 then
      some (1, p2.2.2)
    else
      if p2.1 = 4 then
        some (2, p2.2.2)
      else
        none)
def fL_feed (N : Nat) (A : AH) (x1 : Int) : Option (Int × AH) :=
  obind (fX8_feed N A x1) (fun p2 =>
  if p2.1 = 0 then
    bnd (sI p2.2.2 374 0 p2.2.1) (fun A8 =>
    some (0, A8))
  else
    if p2.1 = 2 then
      some (1, p2.2.2)
    else
      none)
def fL_read (N : Nat) (A : AH) : Option (Int × AH) :=
  obind (fX8_read N A ) (fun p2 =>
  if p2.1 = 0 then
    bnd (sI p2.2.2 374 0 p2.2.1) (fun A9 =>
    some (0, A9))
  else
    if p2.1 = 1 then
      some (1, p2.2.2)
    else
      if p2.1 = 5 then
        some (2, p2.2.2)
      else
        none)
def fL_faultPosition (N : Nat) (A : AH) : Option (Int × AH) :=
  obind (fX8_faultPosition N A ) (fun p2 =>
  if p2.1 = 0 then
    bnd (sI p2.2.2 374 0 p2.2.1) (fun A8 =>
    some (0, A8))
  else
    if p2.1 = 6 then
      some (1, p2.2.2)
    else
      none)
def fL_refusal (N : Nat) (A : AH) (x1 : Int) : Option (Int × AH) :=
  obind (fX8_refusal N A x1) (fun p2 =>
  if p2.1 = 0 then
    bnd (sI p2.2.2 374 0 p2.2.1) (fun A8 =>
    some (0, A8))
  else
    if p2.1 = 6 then
      some (1, p2.2.2)
    else
      none)
def fL_undo (N : Nat) (A : AH) : Option (Int × AH) :=
  obind (fX8_undo N A ) (fun p2 =>
  if p2.1 = 0 then
    bnd (sI p2.2.2 374 0 p2.2.1) (fun A8 =>
    some (0, A8))
  else
    if p2.1 = 2 then
      some (1, p2.2.2)
    else
      none)
def fL_restoreSnapshot (N : Nat) (A : AH) : Option (Int × AH) :=
  obind (fX8_restoreSnapshot N A ) (fun p2 =>
  if p2.1 = 0 then
    bnd (sI p2.2.2 374 0 p2.2.1) (fun A8 =>
    some (0, A8))
  else
    if p2.1 = 2 then
      some (1, p2.2.2)
    else
      none)
def fL_law_2098 (N : Nat) (L : Int) (xs : Nat → Int) (k28 : AH → Int → Option (Int × AH)) (A : AH) (x5 : Int) (x6 : Int) (xs1 : Int) : Option (Int × AH) :=
  chk (xs1 = 0 ∨ xs1 = 1) (
  obind (fX9_refusal N A xs1) (fun p3 =>
  obind (fX9_thrown N p3.2 ) (fun z7 =>
  if z7 = x6 then
    if x6 = 0 then
      if (icmp (gI p3.2 374 0) p3.1) = 0 then
        bnd (wrap (x5 + 6)) (fun u15 =>
        k28 p3.2 u15)
      else
        some (0, p3.2)
    else
      bnd (wrap (x5 + 6)) (fun u12 =>
      k28 p3.2 u12)
  else
    some (0, p3.2))))
def fL_law_2077 (N : Nat) (L : Int) (xs : Nat → Int) (k28 : AH → Int → Option (Int × AH)) (A : AH) (x5 : Int) (xs1 : Int) : Option (Int × AH) :=
  chk (xs1 = 0 ∨ xs1 = 1) (
  obind (fL_refusal N A xs1) (fun p3 =>
  chk (0 ≤ (wrap (x5 + 1)) ∧ (wrap (x5 + 1)) < L) (
  if (xs (wrap (x5 + 1)).toNat) = 0 then
    fL_law_2098 N L xs k28 p3.2 x5 p3.1 0
  else
    fL_law_2098 N L xs k28 p3.2 x5 p3.1 1)))
def fL_law_562 (N : Nat) (L : Int) (xs : Nat → Int) (k28 : AH → Int → Option (Int × AH)) (A : AH) (x5 : Int) (x6 : Int) (xs1 : Int) (xs2 : Int) : Option (Int × AH) :=
  chk (0 ≤ (wrap (x5 + 3)) ∧ (wrap (x5 + 3)) < L) (
  chk (0 ≤ (wrap (x5 + 4)) ∧ (wrap (x5 + 4)) < L) (
  chk (0 ≤ (wrap (x5 + 5)) ∧ (wrap (x5 + 5)) < L) (
  chk (xs2 = 0 ∨ xs2 = 1) (
  obind (fX9_order N A xs1 xs2 (xs (wrap (x5 + 3)).toNat) (xs (wrap (x5 + 4)).toNat) (xs (wrap (x5 + 5)).toNat)) (fun p6 =>
  obind (fX9_thrown N p6.2 ) (fun z10 =>
  if z10 = x6 then
    if x6 = 0 then
      if (icmp (gI p6.2 374 0) p6.1) = 0 then
        bnd (wrap (x5 + 6)) (fun u18 =>
        k28 p6.2 u18)
      else
        some (0, p6.2)
    else
      bnd (wrap (x5 + 6)) (fun u15 =>
      k28 p6.2 u15)
  else
    some (0, p6.2)))))))
def fL_law_517 (N : Nat) (L : Int) (xs : Nat → Int) (k28 : AH → Int → Option (Int × AH)) (A : AH) (x5 : Int) (xs1 : Int) (xs2 : Int) : Option (Int × AH) :=
  chk (0 ≤ (wrap (x5 + 3)) ∧ (wrap (x5 + 3)) < L) (
  chk (0 ≤ (wrap (x5 + 4)) ∧ (wrap (x5 + 4)) < L) (
  chk (0 ≤ (wrap (x5 + 5)) ∧ (wrap (x5 + 5)) < L) (
  chk (xs2 = 0 ∨ xs2 = 1) (
  obind (fL_order N A xs1 xs2 (xs (wrap (x5 + 3)).toNat) (xs (wrap (x5 + 4)).toNat) (xs (wrap (x5 + 5)).toNat)) (fun p6 =>
  chk (0 ≤ (wrap (x5 + 1)) ∧ (wrap (x5 + 1)) < L) (
  chk (0 ≤ (wrap (x5 + 2)) ∧ (wrap (x5 + 2)) < L) (
  if (xs (wrap (x5 + 2)).toNat) = 0 then
    fL_law_562 N L xs k28 p6.2 x5 p6.1 (xs (wrap (x5 + 1)).toNat) 0
  else
    fL_law_562 N L xs k28 p6.2 x5 p6.1 (xs (wrap (x5 + 1)).toNat) 1)))))))
def fL_law_28 (N : Nat) (L : Int) (xs : Nat → Int) : Nat → AH → Int → Option (Int × AH)
  | 0, _, _ => none
  | n + 1, A, x5 =>
    if (wrap (L - 6)) < x5 then
      some (1, A)
    else
      chk (0 ≤ x5 ∧ x5 < L) (
      if (iAnd (xs x5.toNat) 63) = 0 then
        chk (0 ≤ (wrap (x5 + 1)) ∧ (wrap (x5 + 1)) < L) (
        chk (0 ≤ (wrap (x5 + 2)) ∧ (wrap (x5 + 2)) < L) (
        obind (fL_rule N A (xs (wrap (x5 + 1)).toNat) (xs (wrap (x5 + 2)).toNat)) (fun p7 =>
        chk (0 ≤ (wrap (x5 + 1)) ∧ (wrap (x5 + 1)) < L) (
        chk (0 ≤ (wrap (x5 + 2)) ∧ (wrap (x5 + 2)) < L) (
        obind (fX9_rule N p7.2 (xs (wrap (x5 + 1)).toNat) (xs (wrap (x5 + 2)).toNat)) (fun p13 =>
        obind (fX9_thrown N p13.2 ) (fun z17 =>
        if z17 = p7.1 then
          if p7.1 = 0 then
            if (icmp (gI p13.2 374 0) p13.1) = 0 then
              bnd (wrap (x5 + 6)) (fun u25 =>
              fL_law_28 N L xs n p13.2 u25)
            else
              some (0, p13.2)
          else
            bnd (wrap (x5 + 6)) (fun u22 =>
            fL_law_28 N L xs n p13.2 u22)
        else
          some (0, p13.2))))))))
      else
      if (iAnd (xs x5.toNat) 63) = 1 then
        chk (0 ≤ (wrap (x5 + 1)) ∧ (wrap (x5 + 1)) < L) (
        chk (0 ≤ (wrap (x5 + 2)) ∧ (wrap (x5 + 2)) < L) (
        obind (fL_tide N A (xs (wrap (x5 + 1)).toNat) (xs (wrap (x5 + 2)).toNat)) (fun p30 =>
        chk (0 ≤ (wrap (x5 + 1)) ∧ (wrap (x5 + 1)) < L) (
        chk (0 ≤ (wrap (x5 + 2)) ∧ (wrap (x5 + 2)) < L) (
        obind (fX9_tide N p30.2 (xs (wrap (x5 + 1)).toNat) (xs (wrap (x5 + 2)).toNat)) (fun p36 =>
        obind (fX9_thrown N p36.2 ) (fun z40 =>
        if z40 = p30.1 then
          if p30.1 = 0 then
            if (icmp (gI p36.2 374 0) p36.1) = 0 then
              bnd (wrap (x5 + 6)) (fun u48 =>
              fL_law_28 N L xs n p36.2 u48)
            else
              some (0, p36.2)
          else
            bnd (wrap (x5 + 6)) (fun u45 =>
            fL_law_28 N L xs n p36.2 u45)
        else
          some (0, p36.2))))))))
      else
      if (iAnd (xs x5.toNat) 63) = 2 then
        chk (0 ≤ (wrap (x5 + 1)) ∧ (wrap (x5 + 1)) < L) (
        obind (fL_depth N A (xs (wrap (x5 + 1)).toNat)) (fun p52 =>
        chk (0 ≤ (wrap (x5 + 1)) ∧ (wrap (x5 + 1)) < L) (
        obind (fX9_depth N p52.2 (xs (wrap (x5 + 1)).toNat)) (fun p57 =>
        obind (fX9_thrown N p57.2 ) (fun z61 =>
        if z61 = p52.1 then
          if p52.1 = 0 then
            if (icmp (gI p57.2 374 0) p57.1) = 0 then
              bnd (wrap (x5 + 6)) (fun u69 =>
              fL_law_28 N L xs n p57.2 u69)
            else
              some (0, p57.2)
          else
            bnd (wrap (x5 + 6)) (fun u66 =>
            fL_law_28 N L xs n p57.2 u66)
        else
          some (0, p57.2))))))
      else
      if (iAnd (xs x5.toNat) 63) = 3 then
        chk (0 ≤ (wrap (x5 + 1)) ∧ (wrap (x5 + 1)) < L) (
        obind (fL_addPilot N A (xs (wrap (x5 + 1)).toNat)) (fun p73 =>
        chk (0 ≤ (wrap (x5 + 1)) ∧ (wrap (x5 + 1)) < L) (
        obind (fX9_addPilot N p73.2 (xs (wrap (x5 + 1)).toNat)) (fun p78 =>
        obind (fX9_thrown N p78.2 ) (fun z82 =>
        if z82 = p73.1 then
          if p73.1 = 0 then
            if (icmp (gI p78.2 374 0) p78.1) = 0 then
              bnd (wrap (x5 + 6)) (fun u90 =>
              fL_law_28 N L xs n p78.2 u90)
            else
              some (0, p78.2)
          else
            bnd (wrap (x5 + 6)) (fun u87 =>
            fL_law_28 N L xs n p78.2 u87)
        else
          some (0, p78.2))))))
      else
      if (iAnd (xs x5.toNat) 63) = 4 then
        chk (0 ≤ (wrap (x5 + 1)) ∧ (wrap (x5 + 1)) < L) (
        obind (fL_addBoat N A (xs (wrap (x5 + 1)).toNat)) (fun p94 =>
        chk (0 ≤ (wrap (x5 + 1)) ∧ (wrap (x5 + 1)) < L) (
        obind (fX9_addBoat N p94.2 (xs (wrap (x5 + 1)).toNat)) (fun p99 =>
        obind (fX9_thrown N p99.2 ) (fun z103 =>
        if z103 = p94.1 then
          if p94.1 = 0 then
            if (icmp (gI p99.2 374 0) p99.1) = 0 then
              bnd (wrap (x5 + 6)) (fun u111 =>
              fL_law_28 N L xs n p99.2 u111)
            else
              some (0, p99.2)
          else
            bnd (wrap (x5 + 6)) (fun u108 =>
            fL_law_28 N L xs n p99.2 u108)
        else
          some (0, p99.2))))))
      else
      if (iAnd (xs x5.toNat) 63) = 5 then
        chk (0 ≤ (wrap (x5 + 1)) ∧ (wrap (x5 + 1)) < L) (
        chk (0 ≤ (wrap (x5 + 2)) ∧ (wrap (x5 + 2)) < L) (
        if (xs (wrap (x5 + 2)).toNat) = 0 then
          fL_law_517 N L xs (fun A x5 => fL_law_28 N L xs n A x5) A x5 (xs (wrap (x5 + 1)).toNat) 0
        else
          fL_law_517 N L xs (fun A x5 => fL_law_28 N L xs n A x5) A x5 (xs (wrap (x5 + 1)).toNat) 1))
      else
      if (iAnd (xs x5.toNat) 63) = 6 then
        chk (0 ≤ (wrap (x5 + 1)) ∧ (wrap (x5 + 1)) < L) (
        chk (0 ≤ (wrap (x5 + 2)) ∧ (wrap (x5 + 2)) < L) (
        obind (fL_orderOf N A (xs (wrap (x5 + 1)).toNat) (xs (wrap (x5 + 2)).toNat)) (fun p120 =>
        chk (0 ≤ (wrap (x5 + 1)) ∧ (wrap (x5 + 1)) < L) (
        chk (0 ≤ (wrap (x5 + 2)) ∧ (wrap (x5 + 2)) < L) (
        obind (fX9_orderOf N p120.2 (xs (wrap (x5 + 1)).toNat) (xs (wrap (x5 + 2)).toNat)) (fun p126 =>
        obind (fX9_thrown N p126.2 ) (fun z130 =>
        if z130 = p120.1 then
          if p120.1 = 0 then
            if (icmp (gI p126.2 374 0) p126.1) = 0 then
              bnd (wrap (x5 + 6)) (fun u138 =>
              fL_law_28 N L xs n p126.2 u138)
            else
              some (0, p126.2)
          else
            bnd (wrap (x5 + 6)) (fun u135 =>
            fL_law_28 N L xs n p126.2 u135)
        else
          some (0, p126.2))))))))
      else
      if (iAnd (xs x5.toNat) 63) = 7 then
        chk (0 ≤ (wrap (x5 + 1)) ∧ (wrap (x5 + 1)) < L) (
        chk (0 ≤ (wrap (x5 + 2)) ∧ (wrap (x5 + 2)) < L) (
        obind (fL_window N A (xs (wrap (x5 + 1)).toNat) (xs (wrap (x5 + 2)).toNat)) (fun p143 =>
        chk (0 ≤ (wrap (x5 + 1)) ∧ (wrap (x5 + 1)) < L) (
        chk (0 ≤ (wrap (x5 + 2)) ∧ (wrap (x5 + 2)) < L) (
        obind (fX9_window N p143.2 (xs (wrap (x5 + 1)).toNat) (xs (wrap (x5 + 2)).toNat)) (fun p149 =>
        obind (fX9_thrown N p149.2 ) (fun z153 =>
        if z153 = p143.1 then
          if p143.1 = 0 then
            if (icmp (gI p149.2 374 0) p149.1) = 0 then
              bnd (wrap (x5 + 6)) (fun u161 =>
              fL_law_28 N L xs n p149.2 u161)
            else
              some (0, p149.2)
          else
            bnd (wrap (x5 + 6)) (fun u158 =>
            fL_law_28 N L xs n p149.2 u158)
        else
          some (0, p149.2))))))))
      else
      if (iAnd (xs x5.toNat) 63) = 8 then
        chk (0 ≤ (wrap (x5 + 1)) ∧ (wrap (x5 + 1)) < L) (
        chk (0 ≤ (wrap (x5 + 2)) ∧ (wrap (x5 + 2)) < L) (
        chk (0 ≤ (wrap (x5 + 3)) ∧ (wrap (x5 + 3)) < L) (
        obind (fL_hinders N A (xs (wrap (x5 + 1)).toNat) (xs (wrap (x5 + 2)).toNat) (xs (wrap (x5 + 3)).toNat)) (fun p167 =>
        chk (0 ≤ (wrap (x5 + 1)) ∧ (wrap (x5 + 1)) < L) (
        chk (0 ≤ (wrap (x5 + 2)) ∧ (wrap (x5 + 2)) < L) (
        chk (0 ≤ (wrap (x5 + 3)) ∧ (wrap (x5 + 3)) < L) (
        obind (fX9_hinders N p167.2 (xs (wrap (x5 + 1)).toNat) (xs (wrap (x5 + 2)).toNat) (xs (wrap (x5 + 3)).toNat)) (fun p174 =>
        obind (fX9_thrown N p174.2 ) (fun z178 =>
        if z178 = p167.1 then
          if p167.1 = 0 then
            if (icmp (gI p174.2 374 0) p174.1) = 0 then
              bnd (wrap (x5 + 6)) (fun u186 =>
              fL_law_28 N L xs n p174.2 u186)
            else
              some (0, p174.2)
          else
            bnd (wrap (x5 + 6)) (fun u183 =>
            fL_law_28 N L xs n p174.2 u183)
        else
          some (0, p174.2))))))))))
      else
      if (iAnd (xs x5.toNat) 63) = 9 then
        chk (0 ≤ (wrap (x5 + 1)) ∧ (wrap (x5 + 1)) < L) (
        chk (0 ≤ (wrap (x5 + 2)) ∧ (wrap (x5 + 2)) < L) (
        chk (0 ≤ (wrap (x5 + 3)) ∧ (wrap (x5 + 3)) < L) (
        obind (fL_plan N A (xs (wrap (x5 + 1)).toNat) (xs (wrap (x5 + 2)).toNat) (xs (wrap (x5 + 3)).toNat)) (fun p192 =>
        chk (0 ≤ (wrap (x5 + 1)) ∧ (wrap (x5 + 1)) < L) (
        chk (0 ≤ (wrap (x5 + 2)) ∧ (wrap (x5 + 2)) < L) (
        chk (0 ≤ (wrap (x5 + 3)) ∧ (wrap (x5 + 3)) < L) (
        obind (fX9_plan N p192.2 (xs (wrap (x5 + 1)).toNat) (xs (wrap (x5 + 2)).toNat) (xs (wrap (x5 + 3)).toNat)) (fun p199 =>
        obind (fX9_thrown N p199.2 ) (fun z203 =>
        if z203 = p192.1 then
          if p192.1 = 0 then
            if (icmp (gI p199.2 374 0) p199.1) = 0 then
              bnd (wrap (x5 + 6)) (fun u211 =>
              fL_law_28 N L xs n p199.2 u211)
            else
              some (0, p199.2)
          else
            bnd (wrap (x5 + 6)) (fun u208 =>
            fL_law_28 N L xs n p199.2 u208)
        else
          some (0, p199.2))))))))))
      else
      if (iAnd (xs x5.toNat) 63) = 10 then
        chk (0 ≤ (wrap (x5 + 1)) ∧ (wrap (x5 + 1)) < L) (
        chk (0 ≤ (wrap (x5 + 2)) ∧ (wrap (x5 + 2)) < L) (
        chk (0 ≤ (wrap (x5 + 3)) ∧ (wrap (x5 + 3)) < L) (
        obind (fL_run N A (xs (wrap (x5 + 1)).toNat) (xs (wrap (x5 + 2)).toNat) (xs (wrap (x5 + 3)).toNat)) (fun p217 =>
        chk (0 ≤ (wrap (x5 + 1)) ∧ (wrap (x5 + 1)) < L) (
        chk (0 ≤ (wrap (x5 + 2)) ∧ (wrap (x5 + 2)) < L) (
        chk (0 ≤ (wrap (x5 + 3)) ∧ (wrap (x5 + 3)) < L) (
        obind (fX9_run N p217.2 (xs (wrap (x5 + 1)).toNat) (xs (wrap (x5 + 2)).toNat) (xs (wrap (x5 + 3)).toNat)) (fun p224 =>
        obind (fX9_thrown N p224.2 ) (fun z228 =>
        if z228 = p217.1 then
          if p217.1 = 0 then
            if (icmp (gI p224.2 374 0) p224.1) = 0 then
              bnd (wrap (x5 + 6)) (fun u236 =>
              fL_law_28 N L xs n p224.2 u236)
            else
              some (0, p224.2)
          else
            bnd (wrap (x5 + 6)) (fun u233 =>
            fL_law_28 N L xs n p224.2 u233)
        else
          some (0, p224.2))))))))))
      else
      if (iAnd (xs x5.toNat) 63) = 11 then
        chk (0 ≤ (wrap (x5 + 1)) ∧ (wrap (x5 + 1)) < L) (
        chk (0 ≤ (wrap (x5 + 2)) ∧ (wrap (x5 + 2)) < L) (
        obind (fL_serving N A (xs (wrap (x5 + 1)).toNat) (xs (wrap (x5 + 2)).toNat)) (fun p241 =>
        chk (0 ≤ (wrap (x5 + 1)) ∧ (wrap (x5 + 1)) < L) (
        chk (0 ≤ (wrap (x5 + 2)) ∧ (wrap (x5 + 2)) < L) (
        obind (fX9_serving N p241.2 (xs (wrap (x5 + 1)).toNat) (xs (wrap (x5 + 2)).toNat)) (fun p247 =>
        obind (fX9_thrown N p247.2 ) (fun z251 =>
        if z251 = p241.1 then
          if p241.1 = 0 then
            if (icmp (gI p247.2 374 0) p247.1) = 0 then
              bnd (wrap (x5 + 6)) (fun u259 =>
              fL_law_28 N L xs n p247.2 u259)
            else
              some (0, p247.2)
          else
            bnd (wrap (x5 + 6)) (fun u256 =>
            fL_law_28 N L xs n p247.2 u256)
        else
          some (0, p247.2))))))))
      else
      if (iAnd (xs x5.toNat) 63) = 12 then
        chk (0 ≤ (wrap (x5 + 1)) ∧ (wrap (x5 + 1)) < L) (
        obind (fL_serve N A (xs (wrap (x5 + 1)).toNat)) (fun p263 =>
        chk (0 ≤ (wrap (x5 + 1)) ∧ (wrap (x5 + 1)) < L) (
        obind (fX9_serve N p263.2 (xs (wrap (x5 + 1)).toNat)) (fun p268 =>
        obind (fX9_thrown N p268.2 ) (fun z272 =>
        if z272 = p263.1 then
          if p263.1 = 0 then
            if (icmp (gI p268.2 374 0) p268.1) = 0 then
              bnd (wrap (x5 + 6)) (fun u280 =>
              fL_law_28 N L xs n p268.2 u280)
            else
              some (0, p268.2)
          else
            bnd (wrap (x5 + 6)) (fun u277 =>
            fL_law_28 N L xs n p268.2 u277)
        else
          some (0, p268.2))))))
      else
      if (iAnd (xs x5.toNat) 63) = 13 then
        obind (fX8_serveAll N A ) (fun p283 =>
        obind (fX9_serveAll N p283.2 ) (fun p287 =>
        if p283.1 = p287.1 then
          bnd (wrap (x5 + 6)) (fun u291 =>
          fL_law_28 N L xs n p287.2 u291)
        else
          some (0, p287.2)))
      else
      if (iAnd (xs x5.toNat) 63) = 14 then
        chk (0 ≤ (wrap (x5 + 1)) ∧ (wrap (x5 + 1)) < L) (
        obind (fL_release N A (xs (wrap (x5 + 1)).toNat)) (fun p295 =>
        chk (0 ≤ (wrap (x5 + 1)) ∧ (wrap (x5 + 1)) < L) (
        obind (fX9_release N p295.2 (xs (wrap (x5 + 1)).toNat)) (fun p300 =>
        obind (fX9_thrown N p300.2 ) (fun z304 =>
        if z304 = p295.1 then
          if p295.1 = 0 then
            if (icmp (gI p300.2 374 0) p300.1) = 0 then
              bnd (wrap (x5 + 6)) (fun u312 =>
              fL_law_28 N L xs n p300.2 u312)
            else
              some (0, p300.2)
          else
            bnd (wrap (x5 + 6)) (fun u309 =>
            fL_law_28 N L xs n p300.2 u309)
        else
          some (0, p300.2))))))
      else
      if (iAnd (xs x5.toNat) 63) = 15 then
        chk (0 ≤ (wrap (x5 + 1)) ∧ (wrap (x5 + 1)) < L) (
        chk (0 ≤ (wrap (x5 + 2)) ∧ (wrap (x5 + 2)) < L) (
        obind (fL_putOff N A (xs (wrap (x5 + 1)).toNat) (xs (wrap (x5 + 2)).toNat)) (fun p317 =>
        chk (0 ≤ (wrap (x5 + 1)) ∧ (wrap (x5 + 1)) < L) (
        chk (0 ≤ (wrap (x5 + 2)) ∧ (wrap (x5 + 2)) < L) (
        obind (fX9_putOff N p317.2 (xs (wrap (x5 + 1)).toNat) (xs (wrap (x5 + 2)).toNat)) (fun p323 =>
        obind (fX9_thrown N p323.2 ) (fun z327 =>
        if z327 = p317.1 then
          if p317.1 = 0 then
            if (icmp (gI p323.2 374 0) p323.1) = 0 then
              bnd (wrap (x5 + 6)) (fun u335 =>
              fL_law_28 N L xs n p323.2 u335)
            else
              some (0, p323.2)
          else
            bnd (wrap (x5 + 6)) (fun u332 =>
            fL_law_28 N L xs n p323.2 u332)
        else
          some (0, p323.2))))))))
      else
      if (iAnd (xs x5.toNat) 63) = 16 then
        chk (0 ≤ (wrap (x5 + 1)) ∧ (wrap (x5 + 1)) < L) (
        obind (fL_urgent N A (xs (wrap (x5 + 1)).toNat)) (fun p339 =>
        chk (0 ≤ (wrap (x5 + 1)) ∧ (wrap (x5 + 1)) < L) (
        obind (fX9_urgent N p339.2 (xs (wrap (x5 + 1)).toNat)) (fun p344 =>
        obind (fX9_thrown N p344.2 ) (fun z348 =>
        if z348 = p339.1 then
          if p339.1 = 0 then
            if (icmp (gI p344.2 374 0) p344.1) = 0 then
              bnd (wrap (x5 + 6)) (fun u356 =>
              fL_law_28 N L xs n p344.2 u356)
            else
              some (0, p344.2)
          else
            bnd (wrap (x5 + 6)) (fun u353 =>
            fL_law_28 N L xs n p344.2 u353)
        else
          some (0, p344.2))))))
      else
      if (iAnd (xs x5.toNat) 63) = 17 then
        chk (0 ≤ (wrap (x5 + 1)) ∧ (wrap (x5 + 1)) < L) (
        chk (0 ≤ (wrap (x5 + 2)) ∧ (wrap (x5 + 2)) < L) (
        obind (fL_pilot N A (xs (wrap (x5 + 1)).toNat) (xs (wrap (x5 + 2)).toNat)) (fun p361 =>
        chk (0 ≤ (wrap (x5 + 1)) ∧ (wrap (x5 + 1)) < L) (
        chk (0 ≤ (wrap (x5 + 2)) ∧ (wrap (x5 + 2)) < L) (
        obind (fX9_pilot N p361.2 (xs (wrap (x5 + 1)).toNat) (xs (wrap (x5 + 2)).toNat)) (fun p367 =>
        obind (fX9_thrown N p367.2 ) (fun z371 =>
        if z371 = p361.1 then
          if p361.1 = 0 then
            if (icmp (gI p367.2 374 0) p367.1) = 0 then
              bnd (wrap (x5 + 6)) (fun u379 =>
              fL_law_28 N L xs n p367.2 u379)
            else
              some (0, p367.2)
          else
            bnd (wrap (x5 + 6)) (fun u376 =>
            fL_law_28 N L xs n p367.2 u376)
        else
          some (0, p367.2))))))))
      else
      if (iAnd (xs x5.toNat) 63) = 18 then
        chk (0 ≤ (wrap (x5 + 1)) ∧ (wrap (x5 + 1)) < L) (
        chk (0 ≤ (wrap (x5 + 2)) ∧ (wrap (x5 + 2)) < L) (
        chk (0 ≤ (wrap (x5 + 3)) ∧ (wrap (x5 + 3)) < L) (
        obind (fL_planOf N A (xs (wrap (x5 + 1)).toNat) (xs (wrap (x5 + 2)).toNat) (xs (wrap (x5 + 3)).toNat)) (fun p385 =>
        chk (0 ≤ (wrap (x5 + 1)) ∧ (wrap (x5 + 1)) < L) (
        chk (0 ≤ (wrap (x5 + 2)) ∧ (wrap (x5 + 2)) < L) (
        chk (0 ≤ (wrap (x5 + 3)) ∧ (wrap (x5 + 3)) < L) (
        obind (fX9_planOf N p385.2 (xs (wrap (x5 + 1)).toNat) (xs (wrap (x5 + 2)).toNat) (xs (wrap (x5 + 3)).toNat)) (fun p392 =>
        obind (fX9_thrown N p392.2 ) (fun z396 =>
        if z396 = p385.1 then
          if p385.1 = 0 then
            if (icmp (gI p392.2 374 0) p392.1) = 0 then
              bnd (wrap (x5 + 6)) (fun u404 =>
              fL_law_28 N L xs n p392.2 u404)
            else
              some (0, p392.2)
          else
            bnd (wrap (x5 + 6)) (fun u401 =>
            fL_law_28 N L xs n p392.2 u401)
        else
          some (0, p392.2))))))))))
      else
      if (iAnd (xs x5.toNat) 63) = 19 then
        chk (0 ≤ (wrap (x5 + 1)) ∧ (wrap (x5 + 1)) < L) (
        chk (0 ≤ (wrap (x5 + 2)) ∧ (wrap (x5 + 2)) < L) (
        obind (fL_place N A (xs (wrap (x5 + 1)).toNat) (xs (wrap (x5 + 2)).toNat)) (fun p409 =>
        chk (0 ≤ (wrap (x5 + 1)) ∧ (wrap (x5 + 1)) < L) (
        chk (0 ≤ (wrap (x5 + 2)) ∧ (wrap (x5 + 2)) < L) (
        obind (fX9_place N p409.2 (xs (wrap (x5 + 1)).toNat) (xs (wrap (x5 + 2)).toNat)) (fun p415 =>
        obind (fX9_thrown N p415.2 ) (fun z419 =>
        if z419 = p409.1 then
          if p409.1 = 0 then
            if (icmp (gI p415.2 374 0) p415.1) = 0 then
              bnd (wrap (x5 + 6)) (fun u427 =>
              fL_law_28 N L xs n p415.2 u427)
            else
              some (0, p415.2)
          else
            bnd (wrap (x5 + 6)) (fun u424 =>
            fL_law_28 N L xs n p415.2 u424)
        else
          some (0, p415.2))))))))
      else
      if (iAnd (xs x5.toNat) 63) = 20 then
        chk (0 ≤ (wrap (x5 + 1)) ∧ (wrap (x5 + 1)) < L) (
        chk (0 ≤ (wrap (x5 + 2)) ∧ (wrap (x5 + 2)) < L) (
        obind (fL_placeAgain N A (xs (wrap (x5 + 1)).toNat) (xs (wrap (x5 + 2)).toNat)) (fun p432 =>
        chk (0 ≤ (wrap (x5 + 1)) ∧ (wrap (x5 + 1)) < L) (
        chk (0 ≤ (wrap (x5 + 2)) ∧ (wrap (x5 + 2)) < L) (
        obind (fX9_placeAgain N p432.2 (xs (wrap (x5 + 1)).toNat) (xs (wrap (x5 + 2)).toNat)) (fun p438 =>
        obind (fX9_thrown N p438.2 ) (fun z442 =>
        if z442 = p432.1 then
          if p432.1 = 0 then
            if (icmp (gI p438.2 374 0) p438.1) = 0 then
              bnd (wrap (x5 + 6)) (fun u450 =>
              fL_law_28 N L xs n p438.2 u450)
            else
              some (0, p438.2)
          else
            bnd (wrap (x5 + 6)) (fun u447 =>
            fL_law_28 N L xs n p438.2 u447)
        else
          some (0, p438.2))))))))
      else
      if (iAnd (xs x5.toNat) 63) = 21 then
        chk (0 ≤ (wrap (x5 + 1)) ∧ (wrap (x5 + 1)) < L) (
        chk (0 ≤ (wrap (x5 + 2)) ∧ (wrap (x5 + 2)) < L) (
        obind (fL_boat N A (xs (wrap (x5 + 1)).toNat) (xs (wrap (x5 + 2)).toNat)) (fun p455 =>
        chk (0 ≤ (wrap (x5 + 1)) ∧ (wrap (x5 + 1)) < L) (
        chk (0 ≤ (wrap (x5 + 2)) ∧ (wrap (x5 + 2)) < L) (
        obind (fX9_boat N p455.2 (xs (wrap (x5 + 1)).toNat) (xs (wrap (x5 + 2)).toNat)) (fun p461 =>
        obind (fX9_thrown N p461.2 ) (fun z465 =>
        if z465 = p455.1 then
          if p455.1 = 0 then
            if (icmp (gI p461.2 374 0) p461.1) = 0 then
              bnd (wrap (x5 + 6)) (fun u473 =>
              fL_law_28 N L xs n p461.2 u473)
            else
              some (0, p461.2)
          else
            bnd (wrap (x5 + 6)) (fun u470 =>
            fL_law_28 N L xs n p461.2 u470)
        else
          some (0, p461.2))))))))
      else
      if (iAnd (xs x5.toNat) 63) = 22 then
        chk (0 ≤ (wrap (x5 + 1)) ∧ (wrap (x5 + 1)) < L) (
        obind (fL_pass N A (xs (wrap (x5 + 1)).toNat)) (fun p477 =>
        chk (0 ≤ (wrap (x5 + 1)) ∧ (wrap (x5 + 1)) < L) (
        obind (fX9_pass N p477.2 (xs (wrap (x5 + 1)).toNat)) (fun p482 =>
        obind (fX9_thrown N p482.2 ) (fun z486 =>
        if z486 = p477.1 then
          if p477.1 = 0 then
            if (icmp (gI p482.2 374 0) p482.1) = 0 then
              bnd (wrap (x5 + 6)) (fun u494 =>
              fL_law_28 N L xs n p482.2 u494)
            else
              some (0, p482.2)
          else
            bnd (wrap (x5 + 6)) (fun u491 =>
            fL_law_28 N L xs n p482.2 u491)
        else
          some (0, p482.2))))))
      else
      if (iAnd (xs x5.toNat) 63) = 23 then
        chk (0 ≤ (wrap (x5 + 1)) ∧ (wrap (x5 + 1)) < L) (
        obind (fL_number N A (xs (wrap (x5 + 1)).toNat)) (fun p498 =>
        chk (0 ≤ (wrap (x5 + 1)) ∧ (wrap (x5 + 1)) < L) (
        obind (fX9_number N p498.2 (xs (wrap (x5 + 1)).toNat)) (fun p503 =>
        obind (fX9_thrown N p503.2 ) (fun z507 =>
        if z507 = p498.1 then
          if p498.1 = 0 then
            if (icmp (gI p503.2 374 0) p503.1) = 0 then
              bnd (wrap (x5 + 6)) (fun u515 =>
              fL_law_28 N L xs n p503.2 u515)
            else
              some (0, p503.2)
          else
            bnd (wrap (x5 + 6)) (fun u512 =>
            fL_law_28 N L xs n p503.2 u512)
        else
          some (0, p503.2))))))
      else
      if (iAnd (xs x5.toNat) 63) = 24 then
        obind (fL_meanWait N A ) (fun p518 =>
        obind (fX9_meanWait N p518.2 ) (fun p522 =>
        obind (fX9_thrown N p522.2 ) (fun z526 =>
        if z526 = p518.1 then
          if p518.1 = 0 then
            if ((Op.cmpValue (FP.dcmp (hDb p522.2) p522.1) .l).toInt) = 0 then
              bnd (wrap (x5 + 6)) (fun u533 =>
              fL_law_28 N L xs n p522.2 u533)
            else
              if ((Op.cmpValue (FP.dcmp (hDb p522.2) (hDb p522.2)) .l).toInt) = 0 then
                some (0, p522.2)
              else
                if ((Op.cmpValue (FP.dcmp p522.1 p522.1) .l).toInt) = 0 then
                  some (0, p522.2)
                else
                  bnd (wrap (x5 + 6)) (fun u536 =>
                  fL_law_28 N L xs n p522.2 u536)
          else
            bnd (wrap (x5 + 6)) (fun u531 =>
            fL_law_28 N L xs n p522.2 u531)
        else
          some (0, p522.2))))
      else
      if (iAnd (xs x5.toNat) 63) = 25 then
        chk (0 ≤ (wrap (x5 + 1)) ∧ (wrap (x5 + 1)) < L) (
        obind (fL_share N A (xs (wrap (x5 + 1)).toNat)) (fun p540 =>
        chk (0 ≤ (wrap (x5 + 1)) ∧ (wrap (x5 + 1)) < L) (
        obind (fX9_share N p540.2 (xs (wrap (x5 + 1)).toNat)) (fun p545 =>
        obind (fX9_thrown N p545.2 ) (fun z549 =>
        if z549 = p540.1 then
          if p540.1 = 0 then
            chk ((FP.f2d p545.1) &&& 0x7fffffffffffffff ≤ 0x7ff0000000000000) (
            if ((Op.cmpValue (FP.dcmp (hDb p545.2) (FP.f2d p545.1)) .l).toInt) = 0 then
              bnd (wrap (x5 + 6)) (fun u557 =>
              fL_law_28 N L xs n p545.2 u557)
            else
              if ((Op.cmpValue (FP.dcmp (hDb p545.2) (hDb p545.2)) .l).toInt) = 0 then
                some (0, p545.2)
              else
                if ((Op.cmpValue (FP.fcmp p545.1 p545.1) .l).toInt) = 0 then
                  some (0, p545.2)
                else
                  bnd (wrap (x5 + 6)) (fun u560 =>
                  fL_law_28 N L xs n p545.2 u560))
          else
            bnd (wrap (x5 + 6)) (fun u554 =>
            fL_law_28 N L xs n p545.2 u554)
        else
          some (0, p545.2))))))
      else
      if (iAnd (xs x5.toNat) 63) = 26 then
        chk (0 ≤ (wrap (x5 + 1)) ∧ (wrap (x5 + 1)) < L) (
        obind (fL_feed N A ((xs (wrap (x5 + 1)).toNat) % 65536)) (fun p564 =>
        chk (0 ≤ (wrap (x5 + 1)) ∧ (wrap (x5 + 1)) < L) (
        obind (fX9_feed N p564.2 ((xs (wrap (x5 + 1)).toNat) % 65536)) (fun p569 =>
        obind (fX9_thrown N p569.2 ) (fun z573 =>
        if z573 = p564.1 then
          if p564.1 = 0 then
            if (icmp (gI p569.2 374 0) p569.1) = 0 then
              bnd (wrap (x5 + 6)) (fun u581 =>
              fL_law_28 N L xs n p569.2 u581)
            else
              some (0, p569.2)
          else
            bnd (wrap (x5 + 6)) (fun u578 =>
            fL_law_28 N L xs n p569.2 u578)
        else
          some (0, p569.2))))))
      else
      if (iAnd (xs x5.toNat) 63) = 27 then
        obind (fL_read N A ) (fun p584 =>
        obind (fX9_read N p584.2 ) (fun p588 =>
        obind (fX9_thrown N p588.2 ) (fun z592 =>
        if z592 = p584.1 then
          if p584.1 = 0 then
            if (icmp (gI p588.2 374 0) p588.1) = 0 then
              bnd (wrap (x5 + 6)) (fun u600 =>
              fL_law_28 N L xs n p588.2 u600)
            else
              some (0, p588.2)
          else
            bnd (wrap (x5 + 6)) (fun u597 =>
            fL_law_28 N L xs n p588.2 u597)
        else
          some (0, p588.2))))
      else
      if (iAnd (xs x5.toNat) 63) = 28 then
        obind (fL_faultPosition N A ) (fun p603 =>
        obind (fX9_faultPosition N p603.2 ) (fun p607 =>
        obind (fX9_thrown N p607.2 ) (fun z611 =>
        if z611 = p603.1 then
          if p603.1 = 0 then
            if (icmp (gI p607.2 374 0) p607.1) = 0 then
              bnd (wrap (x5 + 6)) (fun u619 =>
              fL_law_28 N L xs n p607.2 u619)
            else
              some (0, p607.2)
          else
            bnd (wrap (x5 + 6)) (fun u616 =>
            fL_law_28 N L xs n p607.2 u616)
        else
          some (0, p607.2))))
      else
      if (iAnd (xs x5.toNat) 63) = 29 then
        chk (0 ≤ (wrap (x5 + 1)) ∧ (wrap (x5 + 1)) < L) (
        if (xs (wrap (x5 + 1)).toNat) = 0 then
          fL_law_2077 N L xs (fun A x5 => fL_law_28 N L xs n A x5) A x5 0
        else
          fL_law_2077 N L xs (fun A x5 => fL_law_28 N L xs n A x5) A x5 1)
      else
      if (iAnd (xs x5.toNat) 63) = 30 then
        obind (fL_undo N A ) (fun p625 =>
        obind (fX9_undo N p625.2 ) (fun p629 =>
        obind (fX9_thrown N p629.2 ) (fun z633 =>
        if z633 = p625.1 then
          if p625.1 = 0 then
            if (icmp (gI p629.2 374 0) p629.1) = 0 then
              bnd (wrap (x5 + 6)) (fun u641 =>
              fL_law_28 N L xs n p629.2 u641)
            else
              some (0, p629.2)
          else
            bnd (wrap (x5 + 6)) (fun u638 =>
            fL_law_28 N L xs n p629.2 u638)
        else
          some (0, p629.2))))
      else
      if (iAnd (xs x5.toNat) 63) = 31 then
        obind (fX8_saveSnapshot N A ) (fun p644 =>
        obind (fX9_saveSnapshot N p644.2 ) (fun p648 =>
        if p644.1 = p648.1 then
          bnd (wrap (x5 + 6)) (fun u652 =>
          fL_law_28 N L xs n p648.2 u652)
        else
          some (0, p648.2)))
      else
      if (iAnd (xs x5.toNat) 63) = 32 then
        obind (fL_restoreSnapshot N A ) (fun p655 =>
        obind (fX9_restoreSnapshot N p655.2 ) (fun p659 =>
        obind (fX9_thrown N p659.2 ) (fun z663 =>
        if z663 = p655.1 then
          if p655.1 = 0 then
            if (icmp (gI p659.2 374 0) p659.1) = 0 then
              bnd (wrap (x5 + 6)) (fun u671 =>
              fL_law_28 N L xs n p659.2 u671)
            else
              some (0, p659.2)
          else
            bnd (wrap (x5 + 6)) (fun u668 =>
            fL_law_28 N L xs n p659.2 u668)
        else
          some (0, p659.2))))
      else
      bnd (wrap (x5 + 6)) (fun u672 =>
      fL_law_28 N L xs n A u672))
