/-! the functions -/
def fX9_thrown (N : Nat) (A : AH) : Option (Int) :=
  some (gI A 349 0)
def fX9_fails (N : Nat) (A : AH) (x1 : Int) : Option (Int × AH) :=
  bnd (sI A 349 0 x1) (fun A1 =>
  some (0, A1))
def fX9_isBetween (N : Nat) (A : AH) (x0 : Int) (x1 : Int) (x2 : Int) : Option (Int) :=
  if x0 < x1 then
    some 0
  else
    if x2 < x0 then
      some 0
    else
      some 1
def fX9_isHour (N : Nat) (A : AH) (x0 : Int) : Option (Int) :=
  obind (fX9_isBetween N A x0 0 999) (fun z2 =>
  some z2)
def fX9_bits_4 (N : Nat) (A : AH) (x0 : Int) : Nat → Int → Int → Option (Int)
  | 0, _, _ => none
  | n + 1, x1, x2 =>
    if 6 ≤ x2 then
      some x1
    else
      bnd (wrap (x1 + (iAnd (iShr x0 x2) 1))) (fun u2 =>
      bnd (wrap (x2 + 1)) (fun u3 =>
      fX9_bits_4 N A x0 n u2 u3))
def fX9_bits (N : Nat) (A : AH) (x0 : Int) : Option (Int) :=
  fX9_bits_4 N A x0 N 0 0
def fX9_isPilot (N : Nat) (A : AH) (x1 : Int) : Option (Int) :=
  if x1 < 0 then
    some 0
  else
    if (gI A 349 20) ≤ x1 then
      some 0
    else
      some 1
def fX9_isBoat (N : Nat) (A : AH) (x1 : Int) : Option (Int) :=
  if x1 < 0 then
    some 0
  else
    if (gI A 349 21) ≤ x1 then
      some 0
    else
      some 1
def fX9_isOrder (N : Nat) (A : AH) (x1 : Int) : Option (Int) :=
  if x1 < 0 then
    some 0
  else
    if (gI A 349 22) ≤ x1 then
      some 0
    else
      some 1
def fX9_packed (N : Nat) (A : AH) (x0 : Int) (x1 : Int) (x2 : Int) (x3 : Int) (x4 : Int) : Option (Int) :=
  some (iOr (iOr (iOr (iOr x0 (iShl x1 10)) (iShl x2 13)) (iShl x3 19)) (iShl x4 20))
def fX9_hourOf (N : Nat) (A : AH) (x0 : Int) : Option (Int) :=
  some (iAnd x0 1023)
def fX9_endOf (N : Nat) (A : AH) (x0 : Int) : Option (Int) :=
  some (wrap ((iAnd x0 1023) + (iAnd (iShr x0 10) 7)))
def fX9_has (N : Nat) (A : AH) (x0 : Int) (x1 : Int) : Option (Int) :=
  if (iAnd (iShr x0 (wrap (13 + x1))) 1) = 1 then
    some 1
  else
    some 0
def fX9_toOf (N : Nat) (A : AH) (x0 : Int) : Option (Int) :=
  some (iAnd (iShr x0 19) 1)
def fX9_boatOf (N : Nat) (A : AH) (x0 : Int) : Option (Int) :=
  some (iShr x0 20)
def fX9_length (N : Nat) (A : AH) (x1 : Int) : Option (Int) :=
  chk (0 ≤ x1 ∧ x1 < 16) (
  some (wrap ((gI A 352 x1.toNat) + 2)))
def fX9_end (N : Nat) (A : AH) (x1 : Int) : Option (Int) :=
  chk (0 ≤ x1 ∧ x1 < 16) (
  obind (fX9_length N A x1) (fun z4 =>
  some (wrap ((gI A 359 x1.toNat) + z4))))
def fX9_hasTrip (N : Nat) (A : AH) (x1 : Int) : Option (Int) :=
  chk (0 ≤ x1 ∧ x1 < 16) (
  if (gI A 357 x1.toNat) = 1 then
    some 1
  else
    chk (0 ≤ x1 ∧ x1 < 16) (
    if (gI A 357 x1.toNat) = 2 then
      some 1
    else
      some 0))
def fX9_isTripOf (N : Nat) (A : AH) (x1 : Int) (x2 : Int) : Option (Int) :=
  obind (fX9_hasTrip N A x1) (fun z2 =>
  if z2 = 0 then
    some 0
  else
    chk (0 ≤ x1 ∧ x1 < 16) (
    if (gI A 358 x1.toNat) = x2 then
      some 1
    else
      some 0))
def fX9_startOf (N : Nat) (A : AH) (x1 : Int) : Option (Int) :=
  chk (0 ≤ x1 ∧ x1 < 16) (
  if (gI A 353 x1.toNat) = 1 then
    some 0
  else
    some 1)
def fX9_goalOf (N : Nat) (A : AH) (x1 : Int) : Option (Int) :=
  chk (0 ≤ x1 ∧ x1 < 16) (
  some (gI A 353 x1.toNat))
def fX9_depthAt (N : Nat) (A : AH) (x1 : Int) : Option (Int) :=
  chk (0 ≤ (Int.tmod x1 12) ∧ (Int.tmod x1 12) < 12) (
  some (wrap ((gI A 350 3) + (gI A 351 (Int.tmod x1 12).toNat))))
def fX9_isDeep_2 (N : Nat) (A : AH) (x1 : Int) (x2 : Int) : Nat → Int → Option (Int)
  | 0, _ => none
  | n + 1, x3 =>
    obind (fX9_length N A x1) (fun z2 =>
    if z2 ≤ x3 then
      some 1
    else
      obind (fX9_depthAt N A (wrap (x2 + x3))) (fun z7 =>
      chk (0 ≤ x1 ∧ x1 < 16) (
      if (gI A 354 x1.toNat) ≤ z7 then
        bnd (wrap (x3 + 1)) (fun u13 =>
        fX9_isDeep_2 N A x1 x2 n u13)
      else
        some 0)))
def fX9_isDeep (N : Nat) (A : AH) (x1 : Int) (x2 : Int) : Option (Int) :=
  fX9_isDeep_2 N A x1 x2 N 0
def fX9_looks (N : Nat) (A : AH) (x1 : Int) (x2 : Int) : Option (AH) :=
  if (gI A 349 24) < x1 then
    bnd (sI A 349 24 x1) (fun A3 =>
    bnd (sI A3 349 25 x2) (fun A4 =>
    some A4))
  else
    some A
def fX9_findLast_51 (N : Nat) (x1 : Int) : Nat → AH → Int → Option (AH)
  | 0, _, _ => none
  | n + 1, A, x2 =>
    if (gI A 349 23) ≤ x2 then
      some A
    else
      chk (0 ≤ x2 ∧ x2 < 2703) (
      obind (fX9_has N A (gI A 367 x2.toNat) x1) (fun z6 =>
      if z6 = 0 then
        bnd (wrap (x2 + 1)) (fun u10 =>
        fX9_findLast_51 N x1 n A u10)
      else
        chk (0 ≤ x2 ∧ x2 < 2703) (
        obind (fX9_endOf N A (gI A 367 x2.toNat)) (fun z14 =>
        chk (0 ≤ x2 ∧ x2 < 2703) (
        obind (fX9_toOf N A (gI A 367 x2.toNat)) (fun z20 =>
        obind (fX9_looks N A z14 z20) (fun p24 =>
        bnd (wrap (x2 + 1)) (fun u27 =>
        fX9_findLast_51 N x1 n p24 u27))))))))
def fX9_findLast_12 (N : Nat) (x1 : Int) : Nat → AH → Int → Option (AH)
  | 0, _, _ => none
  | n + 1, A, x2 =>
    if (gI A 349 22) ≤ x2 then
      fX9_findLast_51 N x1 N A 0
    else
      obind (fX9_isTripOf N A x2 x1) (fun z4 =>
      if z4 = 0 then
        bnd (wrap (x2 + 1)) (fun u8 =>
        fX9_findLast_12 N x1 n A u8)
      else
        obind (fX9_end N A x2) (fun z10 =>
        obind (fX9_goalOf N A x2) (fun z14 =>
        obind (fX9_looks N A z10 z14) (fun p18 =>
        bnd (wrap (x2 + 1)) (fun u21 =>
        fX9_findLast_12 N x1 n p18 u21)))))
def fX9_findLast (N : Nat) (A : AH) (x1 : Int) : Option (AH) :=
  bnd (sI A 349 24 0) (fun A1 =>
  bnd (sI A1 349 25 0) (fun A2 =>
  fX9_findLast_12 N x1 N A2 0))
def fX9_isNight (N : Nat) (A : AH) (x0 : Int) : Option (Int) :=
  if 6 ≤ (Int.tmod x0 24) then
    some 0
  else
    some 1
def fX9_isInNight_7 (N : Nat) (A : AH) (x1 : Int) : Nat → Int → Option (Int)
  | 0, _ => none
  | n + 1, x2 =>
    obind (fX9_end N A x1) (fun z2 =>
    if z2 ≤ x2 then
      some 0
    else
      obind (fX9_isNight N A x2) (fun z7 =>
      if z7 = 0 then
        bnd (wrap (x2 + 1)) (fun u11 =>
        fX9_isInNight_7 N A x1 n u11)
      else
        some 1))
def fX9_isInNight (N : Nat) (A : AH) (x1 : Int) : Option (Int) :=
  chk (0 ≤ x1 ∧ x1 < 16) (
  bnd (gI A 359 x1.toNat) (fun u3 =>
  fX9_isInNight_7 N A x1 N u3))
def fX9_restedFrom_4 (N : Nat) (A : AH) (x1 : Int) : Nat → Int → Int → Option (Int)
  | 0, _, _ => none
  | n + 1, x2, x3 =>
    if (gI A 349 22) ≤ x3 then
      if 0 ≤ x2 then
        obind (fX9_end N A x2) (fun z5 =>
        obind (fX9_isInNight N A x2) (fun z10 =>
        if z10 = 0 then
          some (wrap ((wrap (z5 + (gI A 350 0))) + 0))
        else
          some (wrap ((wrap (z5 + (gI A 350 0))) + (gI A 350 4)))))
      else
        some 0
    else
      obind (fX9_isTripOf N A x3 x1) (fun z16 =>
      if z16 = 0 then
        bnd (wrap (x3 + 1)) (fun u20 =>
        fX9_restedFrom_4 N A x1 n x2 u20)
      else
        if x2 < 0 then
          bnd (wrap (x3 + 1)) (fun u22 =>
          fX9_restedFrom_4 N A x1 n x3 u22)
        else
          chk (0 ≤ x3 ∧ x3 < 16) (
          chk (0 ≤ x2 ∧ x2 < 16) (
          if (gI A 359 x3.toNat) ≤ (gI A 359 x2.toNat) then
            bnd (wrap (x3 + 1)) (fun u28 =>
            fX9_restedFrom_4 N A x1 n x2 u28)
          else
            bnd (wrap (x3 + 1)) (fun u29 =>
            fX9_restedFrom_4 N A x1 n x3 u29))))
def fX9_restedFrom (N : Nat) (A : AH) (x1 : Int) : Option (Int) :=
  fX9_restedFrom_4 N A x1 N (-1) 0
def fX9_whyNot (N : Nat) (A : AH) (x1 : Int) (x2 : Int) (x3 : Int) (x4 : Int) (x5 : Int) : Option (Int) :=
  chk (0 ≤ x1 ∧ x1 < 16) (
  if (gI A 357 x1.toNat) = 0 then
    if x3 < (gI A 349 19) then
      some 2
    else
      chk (0 ≤ x1 ∧ x1 < 16) (
      chk (0 ≤ x1 ∧ x1 < 16) (
      obind (fX9_isBetween N A x3 (gI A 355 x1.toNat) (gI A 356 x1.toNat)) (fun z11 =>
      if z11 = 0 then
        some 2
      else
        obind (fX9_isDeep N A x1 x3) (fun z16 =>
        if z16 = 0 then
          some 3
        else
          chk (0 ≤ x2 ∧ x2 < 6) (
          chk (0 ≤ x1 ∧ x1 < 16) (
          if (gI A 352 x1.toNat) ≤ (gI A 361 x2.toNat) then
            if x4 ≤ x3 then
              obind (fX9_startOf N A x1) (fun z27 =>
              if x5 = z27 then
                obind (fX9_restedFrom N A x2) (fun z32 =>
                if z32 ≤ x3 then
                  some 0
                else
                  some 7)
              else
                some 6)
            else
              some 5
          else
            some 4))))))
  else
    some 1)
def fX9_whyNotTrip (N : Nat) (A : AH) (x1 : Int) (x2 : Int) (x3 : Int) : Option (Int × AH) :=
  obind (fX9_findLast N A x2) (fun p2 =>
  obind (fX9_whyNot N p2 x1 x2 x3 (gI p2 349 24) (gI p2 349 25)) (fun z8 =>
  some (z8, p2)))
def fX9_placeOfBoat (N : Nat) (A : AH) (x1 : Int) : Option (Int) :=
  chk (0 ≤ x1 ∧ x1 < 3) (
  some (Int.tmod (gI A 365 x1.toNat) 2))
def fX9_whyNotRun_89 (N : Nat) (x1 : Int) (x3 : Int) : Nat → AH → Int → Option (Int × AH)
  | 0, _, _ => none
  | n + 1, A, x4 =>
    if (gI A 349 20) ≤ x4 then
      some (0, A)
    else
      if (iAnd (iShr x3 x4) 1) = 0 then
        bnd (wrap (x4 + 1)) (fun u15 =>
        fX9_whyNotRun_89 N x1 x3 n A u15)
      else
        obind (fX9_findLast N A x4) (fun p5 =>
        obind (fX9_placeOfBoat N p5 x1) (fun z10 =>
        if (gI p5 349 25) = z10 then
          bnd (wrap (x4 + 1)) (fun u14 =>
          fX9_whyNotRun_89 N x1 x3 n p5 u14)
        else
          some (11, p5)))
def fX9_whyNotRun_42 (N : Nat) (x1 : Int) (x2 : Int) (x3 : Int) : Nat → AH → Int → Option (Int × AH)
  | 0, _, _ => none
  | n + 1, A, x4 =>
    if (gI A 349 20) ≤ x4 then
      fX9_whyNotRun_89 N x1 x3 N A 0
    else
      if (iAnd (iShr x3 x4) 1) = 0 then
        bnd (wrap (x4 + 1)) (fun u11 =>
        fX9_whyNotRun_42 N x1 x2 x3 n A u11)
      else
        obind (fX9_findLast N A x4) (fun p5 =>
        if (gI p5 349 24) ≤ x2 then
          bnd (wrap (x4 + 1)) (fun u10 =>
          fX9_whyNotRun_42 N x1 x2 x3 n p5 u10)
        else
          some (10, p5))
def fX9_whyNotRun (N : Nat) (A : AH) (x1 : Int) (x2 : Int) (x3 : Int) : Option (Int × AH) :=
  if (gI A 349 19) ≤ x2 then
    chk (0 ≤ x1 ∧ x1 < 3) (
    if (gI A 366 x1.toNat) ≤ x2 then
      obind (fX9_bits N A x3) (fun z7 =>
      chk (0 ≤ x1 ∧ x1 < 3) (
      if z7 ≤ (gI A 364 x1.toNat) then
        fX9_whyNotRun_42 N x1 x2 x3 N A 0
      else
        some (9, A)))
    else
      some (8, A))
  else
    some (2, A)
def fX9_goes (N : Nat) (A : AH) (x1 : Int) (x2 : Int) (x3 : Int) : Option (Int × AH) :=
  bnd (gI A 350 1) (fun u2 =>
  obind (fX9_placeOfBoat N A x1) (fun z5 =>
  obind (fX9_packed N A x2 u2 x3 (wrap (1 - z5)) x1) (fun z9 =>
  chk (0 ≤ (gI A 349 23) ∧ (gI A 349 23) < 2703) (
  bnd (sI A 367 (gI A 349 23).toNat z9) (fun A13 =>
  bnd (sI A13 349 23 (wrap ((gI A13 349 23) + 1))) (fun A15 =>
  chk (0 ≤ x1 ∧ x1 < 3) (
  chk (0 ≤ x1 ∧ x1 < 3) (
  bnd (sI A15 365 x1.toNat (wrap ((gI A15 365 x1.toNat) + 1))) (fun A19 =>
  chk (0 ≤ x1 ∧ x1 < 3) (
  bnd (sI A19 366 x1.toNat (wrap (x2 + u2))) (fun A21 =>
  some ((wrap (x2 + u2)), A21))))))))))))
def fX9_plans (N : Nat) (A : AH) (x1 : Int) (x2 : Int) (x3 : Int) : Option (AH) :=
  chk (0 ≤ x1 ∧ x1 < 16) (
  bnd (sI A 357 x1.toNat 1) (fun A2 =>
  chk (0 ≤ x1 ∧ x1 < 16) (
  bnd (sI A2 358 x1.toNat x2) (fun A4 =>
  chk (0 ≤ x1 ∧ x1 < 16) (
  bnd (sI A4 359 x1.toNat x3) (fun A6 =>
  some A6))))))
def fX9_finds (N : Nat) (A : AH) (x1 : Int) (x2 : Int) (x3 : Int) : Option (Int × AH) :=
  bnd (sI A 349 26 x1) (fun A1 =>
  bnd (sI A1 349 27 x2) (fun A2 =>
  bnd (sI A2 349 28 x3) (fun A3 =>
  some (1, A3))))
def fX9_canRide (N : Nat) (A : AH) (x1 : Int) (x2 : Int) (x3 : Int) (x4 : Int) : Option (Int × AH) :=
  bnd (wrap (x3 - (gI A 350 1))) (fun u2 =>
  if u2 < 0 then
    some (0, A)
  else
    obind (fX9_whyNotRun N A x4 u2 (iShl 1 x2)) (fun p5 =>
    if p5.1 = 0 then
      obind (fX9_placeOfBoat N p5.2 x4) (fun z10 =>
      obind (fX9_whyNot N p5.2 x1 x2 x3 x3 (wrap (1 - z10))) (fun z14 =>
      if z14 = 0 then
        some (1, p5.2)
      else
        some (0, p5.2)))
    else
      some (0, p5.2)))
def fX9_findsAt_47 (N : Nat) (k36 : AH → Int → Option (Int × AH)) (x1 : Int) (x2 : Int) (x3 : Int) : Nat → AH → Int → Option (Int × AH)
  | 0, _, _ => none
  | n + 1, A, x4 =>
    if (gI A 349 21) ≤ x4 then
      bnd (wrap (x3 + 1)) (fun u3 =>
      k36 A u3)
    else
      obind (fX9_canRide N A x1 x3 x2 x4) (fun p5 =>
      if p5.1 = 0 then
        bnd (wrap (x4 + 1)) (fun u9 =>
        fX9_findsAt_47 N k36 x1 x2 x3 n p5.2 u9)
      else
        obind (fX9_finds N p5.2 x2 x3 x4) (fun p11 =>
        some (p11.1, p11.2)))
def fX9_findsAt_36 (N : Nat) (x1 : Int) (x2 : Int) : Nat → AH → Int → Option (Int × AH)
  | 0, _, _ => none
  | n + 1, A, x3 =>
    if (gI A 349 20) ≤ x3 then
      some (0, A)
    else
      fX9_findsAt_47 N (fun A x3 => fX9_findsAt_36 N x1 x2 n A x3) x1 x2 x3 N A 0
def fX9_findsAt_2 (N : Nat) (x1 : Int) (x2 : Int) : Nat → AH → Int → Option (Int × AH)
  | 0, _, _ => none
  | n + 1, A, x3 =>
    if (gI A 349 20) ≤ x3 then
      fX9_findsAt_36 N x1 x2 N A 0
    else
      obind (fX9_whyNotTrip N A x1 x3 x2) (fun p4 =>
      if p4.1 = 0 then
        obind (fX9_finds N p4.2 x2 x3 (-1)) (fun p10 =>
        some (p10.1, p10.2))
      else
        bnd (wrap (x3 + 1)) (fun u8 =>
        fX9_findsAt_2 N x1 x2 n p4.2 u8))
def fX9_findsAt (N : Nat) (A : AH) (x1 : Int) (x2 : Int) : Option (Int × AH) :=
  fX9_findsAt_2 N x1 x2 N A 0
def fX9_canServe_38 (N : Nat) (x1 : Int) : Nat → AH → Int → Option (Int × AH)
  | 0, _, _ => none
  | n + 1, A, x2 =>
    chk (0 ≤ x1 ∧ x1 < 16) (
    if (gI A 356 x1.toNat) < x2 then
      some (0, A)
    else
      obind (fX9_isDeep N A x1 x2) (fun z5 =>
      if z5 = 0 then
        bnd (wrap (x2 + 1)) (fun u9 =>
        fX9_canServe_38 N x1 n A u9)
      else
        obind (fX9_findsAt N A x1 x2) (fun p11 =>
        if p11.1 = 0 then
          bnd (wrap (x2 + 1)) (fun u15 =>
          fX9_canServe_38 N x1 n p11.2 u15)
        else
          some (1, p11.2))))
def fX9_canServe (N : Nat) (A : AH) (x1 : Int) : Option (Int × AH) :=
  chk (0 ≤ x1 ∧ x1 < 16) (
  if (gI A 357 x1.toNat) = 0 then
    chk (0 ≤ x1 ∧ x1 < 16) (
    if (gI A 355 x1.toNat) ≤ (gI A 349 19) then
      bnd (gI A 349 19) (fun u9 =>
      fX9_canServe_38 N x1 N A u9)
    else
      chk (0 ≤ x1 ∧ x1 < 16) (
      bnd (gI A 355 x1.toNat) (fun u12 =>
      fX9_canServe_38 N x1 N A u12)))
  else
    some (0, A))
def fX9_serves_36 (N : Nat) (A : AH) (x1 : Int) (xs0 : Int) : Option (Int × AH) :=
  obind (fX9_plans N A x1 (gI A 349 27) (gI A 349 26)) (fun p4 =>
  if xs0 ≤ (gI p4 349 26) then
    some ((gI p4 349 26), p4)
  else
    some (xs0, p4))
def fX9_serves (N : Nat) (A : AH) (x1 : Int) : Option (Int × AH) :=
  if 0 ≤ (gI A 349 28) then
    obind (fX9_goes N A (gI A 349 28) (wrap ((gI A 349 26) - (gI A 350 1))) (iShl 1 (gI A 349 27))) (fun p8 =>
    fX9_serves_36 N p8.2 x1 p8.1)
  else
    fX9_serves_36 N A x1 0
def fX9_makesRoom_12 (N : Nat) : Nat → AH → Int → Option (AH)
  | 0, _, _ => none
  | n + 1, A, x1 =>
    if 20272 ≤ x1 then
      bnd (sI A 349 41 (wrap ((gI A 349 41) - 1))) (fun A3 =>
      some A3)
    else
      chk (0 ≤ (wrap (x1 + 2896)) ∧ (wrap (x1 + 2896)) < 23168) (
      chk (0 ≤ x1 ∧ x1 < 23168) (
      bnd (sI A 371 x1.toNat (gI A 371 (wrap (x1 + 2896)).toNat)) (fun A7 =>
      bnd (wrap (x1 + 1)) (fun u8 =>
      fX9_makesRoom_12 N n A7 u8))))
def fX9_makesRoom (N : Nat) (A : AH) : Option (AH) :=
  if 8 ≤ (gI A 349 41) then
    fX9_makesRoom_12 N N A 0
  else
    some A
def fX9_moves_36 (N : Nat) (k2 : AH → Int → Option (AH)) (A : AH) (y1 : Nat) (y2 : Nat) (x3 : Int) : Option (AH) :=
  bnd (sI A 349 42 (wrap ((gI A 349 42) + 1))) (fun A2 =>
  bnd (wrap (x3 + 1)) (fun u3 =>
  k2 A2 u3))
def fX9_moves_2 (N : Nat) (y1 : Nat) (y2 : Nat) : Nat → AH → Int → Option (AH)
  | 0, _, _ => none
  | n + 1, A, x3 =>
    if (jal (kd y1) : Int) ≤ x3 then
      some A
    else
      if (gI A 349 44) = 0 then
        chk (0 ≤ (gI A 349 42) ∧ (gI A 349 42) < (jal (kd y2) : Int)) (
        chk (0 ≤ x3 ∧ x3 < (jal (kd y1) : Int)) (
        bnd (sI A y1 x3.toNat (gI A y2 (gI A 349 42).toNat)) (fun A8 =>
        fX9_moves_36 N (fun A x3 => fX9_moves_2 N y1 y2 n A x3) A8 y1 y2 x3)))
      else
        chk (0 ≤ x3 ∧ x3 < (jal (kd y1) : Int)) (
        chk (0 ≤ (gI A 349 42) ∧ (gI A 349 42) < (jal (kd y2) : Int)) (
        bnd (sI A y2 (gI A 349 42).toNat (gI A y1 x3.toNat)) (fun A13 =>
        fX9_moves_36 N (fun A x3 => fX9_moves_2 N y1 y2 n A x3) A13 y1 y2 x3)))
def fX9_moves (N : Nat) (A : AH) (y1 : Nat) (y2 : Nat) : Option (AH) :=
  fX9_moves_2 N y1 y2 N A 0
def fX9_move_17 (N : Nat) (A : AH) (y2 : Nat) (xs0 : Int) : Option (Int × AH) :=
  chk (0 ≤ (gI A 349 42) ∧ (gI A 349 42) < (jal (kd y2) : Int)) (
  bnd (sI A y2 (gI A 349 42).toNat xs0) (fun A3 =>
  bnd (sI A3 349 42 (wrap ((gI A3 349 42) + 1))) (fun A5 =>
  some (xs0, A5))))
def fX9_move (N : Nat) (A : AH) (x1 : Int) (y2 : Nat) : Option (Int × AH) :=
  if (gI A 349 44) = 0 then
    chk (0 ≤ (gI A 349 42) ∧ (gI A 349 42) < (jal (kd y2) : Int)) (
    fX9_move_17 N A y2 (gI A y2 (gI A 349 42).toNat))
  else
    fX9_move_17 N A y2 x1
def fX9_passAll (N : Nat) (A : AH) (y1 : Nat) (x2 : Int) (x3 : Int) : Option (AH) :=
  bnd (sI A 349 44 x3) (fun A1 =>
  bnd (sI A1 349 42 x2) (fun A2 =>
  obind (fX9_moves N A2 350 y1) (fun p4 =>
  obind (fX9_moves N p4 351 y1) (fun p8 =>
  obind (fX9_moves N p8 352 y1) (fun p12 =>
  obind (fX9_moves N p12 353 y1) (fun p16 =>
  obind (fX9_moves N p16 354 y1) (fun p20 =>
  obind (fX9_moves N p20 355 y1) (fun p24 =>
  obind (fX9_moves N p24 356 y1) (fun p28 =>
  obind (fX9_moves N p28 357 y1) (fun p32 =>
  obind (fX9_moves N p32 358 y1) (fun p36 =>
  obind (fX9_moves N p36 359 y1) (fun p40 =>
  obind (fX9_moves N p40 360 y1) (fun p44 =>
  obind (fX9_moves N p44 361 y1) (fun p48 =>
  obind (fX9_moves N p48 362 y1) (fun p52 =>
  obind (fX9_moves N p52 363 y1) (fun p56 =>
  obind (fX9_moves N p56 364 y1) (fun p60 =>
  obind (fX9_moves N p60 365 y1) (fun p64 =>
  obind (fX9_moves N p64 366 y1) (fun p68 =>
  obind (fX9_moves N p68 367 y1) (fun p72 =>
  obind (fX9_move N p72 (gI p72 349 19) y1) (fun p77 =>
  bnd (sI p77.2 349 19 p77.1) (fun A80 =>
  obind (fX9_move N A80 (gI A80 349 20) y1) (fun p83 =>
  bnd (sI p83.2 349 20 p83.1) (fun A86 =>
  obind (fX9_move N A86 (gI A86 349 21) y1) (fun p89 =>
  bnd (sI p89.2 349 21 p89.1) (fun A92 =>
  obind (fX9_move N A92 (gI A92 349 22) y1) (fun p95 =>
  bnd (sI p95.2 349 22 p95.1) (fun A98 =>
  obind (fX9_move N A98 (gI A98 349 23) y1) (fun p101 =>
  bnd (sI p101.2 349 23 p101.1) (fun A104 =>
  some A104))))))))))))))))))))))))))))))
def fX9_remembers (N : Nat) (A : AH) : Option (AH) :=
  if (gI A 349 45) = 0 then
    obind (fX9_makesRoom N A ) (fun p4 =>
    obind (fX9_passAll N p4 371 (wrap (2896 * (gI p4 349 41))) 1) (fun p9 =>
    bnd (sI p9 349 41 (wrap ((gI p9 349 41) + 1))) (fun A13 =>
    some A13)))
  else
    some A
def fX9_rule (N : Nat) (A : AH) (x1 : Int) (x2 : Int) : Option (Int × AH) :=
  obind (fX9_isBetween N A x1 0 4) (fun z2 =>
  if z2 = 0 then
    obind (fX9_fails N A 1) (fun p7 =>
    some (p7.1, p7.2))
  else
    chk (0 ≤ x1 ∧ x1 < 5) (
    chk (0 ≤ x1 ∧ x1 < 5) (
    obind (fX9_isBetween N A x2 (stA 4 x1) (stA 5 x1)) (fun z15 =>
    if z15 = 0 then
      obind (fX9_fails N A 1) (fun p30 =>
      some (p30.1, p30.2))
    else
      bnd (sI A 349 0 0) (fun A19 =>
      obind (fX9_remembers N A19 ) (fun p21 =>
      chk (0 ≤ x1 ∧ x1 < 5) (
      bnd (gI p21 350 x1.toNat) (fun u26 =>
      chk (0 ≤ x1 ∧ x1 < 5) (
      bnd (sI p21 350 x1.toNat x2) (fun A28 =>
      some (u26, A28)))))))))))
def fX9_tide (N : Nat) (A : AH) (x1 : Int) (x2 : Int) : Option (Int × AH) :=
  obind (fX9_isBetween N A x1 0 11) (fun z2 =>
  if z2 = 0 then
    obind (fX9_fails N A 1) (fun p7 =>
    some (p7.1, p7.2))
  else
    obind (fX9_isBetween N A x2 0 9) (fun z11 =>
    if z11 = 0 then
      obind (fX9_fails N A 1) (fun p26 =>
      some (p26.1, p26.2))
    else
      bnd (sI A 349 0 0) (fun A15 =>
      obind (fX9_remembers N A15 ) (fun p17 =>
      chk (0 ≤ x1 ∧ x1 < 12) (
      bnd (gI p17 351 x1.toNat) (fun u22 =>
      chk (0 ≤ x1 ∧ x1 < 12) (
      bnd (sI p17 351 x1.toNat x2) (fun A24 =>
      some (u22, A24)))))))))
def fX9_depth (N : Nat) (A : AH) (x1 : Int) : Option (Int × AH) :=
  obind (fX9_isHour N A x1) (fun z2 =>
  if z2 = 0 then
    obind (fX9_fails N A 1) (fun p12 =>
    some (p12.1, p12.2))
  else
    bnd (sI A 349 0 0) (fun A6 =>
    obind (fX9_depthAt N A6 x1) (fun z8 =>
    some (z8, A6))))
def fX9_addPilot (N : Nat) (A : AH) (x1 : Int) : Option (Int × AH) :=
  obind (fX9_isBetween N A x1 1 4) (fun z2 =>
  if z2 = 0 then
    obind (fX9_fails N A 1) (fun p28 =>
    some (p28.1, p28.2))
  else
    if (gI A 349 20) = 6 then
      obind (fX9_fails N A 2) (fun p24 =>
      some (p24.1, p24.2))
    else
      bnd (sI A 349 0 0) (fun A8 =>
      obind (fX9_remembers N A8 ) (fun p10 =>
      bnd (gI p10 349 20) (fun u14 =>
      chk (0 ≤ u14 ∧ u14 < 6) (
      bnd (sI p10 361 u14.toNat x1) (fun A16 =>
      chk (0 ≤ u14 ∧ u14 < 6) (
      bnd (sI A16 362 u14.toNat 0) (fun A18 =>
      chk (0 ≤ u14 ∧ u14 < 6) (
      bnd (sI A18 363 u14.toNat 0) (fun A20 =>
      bnd (sI A20 349 20 (wrap ((gI A20 349 20) + 1))) (fun A22 =>
      some (u14, A22))))))))))))
def fX9_addBoat (N : Nat) (A : AH) (x1 : Int) : Option (Int × AH) :=
  obind (fX9_isBetween N A x1 1 4) (fun z2 =>
  if z2 = 0 then
    obind (fX9_fails N A 1) (fun p28 =>
    some (p28.1, p28.2))
  else
    if (gI A 349 21) = 3 then
      obind (fX9_fails N A 2) (fun p24 =>
      some (p24.1, p24.2))
    else
      bnd (sI A 349 0 0) (fun A8 =>
      obind (fX9_remembers N A8 ) (fun p10 =>
      bnd (gI p10 349 21) (fun u14 =>
      chk (0 ≤ u14 ∧ u14 < 3) (
      bnd (sI p10 364 u14.toNat x1) (fun A16 =>
      chk (0 ≤ u14 ∧ u14 < 3) (
      bnd (sI A16 365 u14.toNat 0) (fun A18 =>
      chk (0 ≤ u14 ∧ u14 < 3) (
      bnd (sI A18 366 u14.toNat 0) (fun A20 =>
      bnd (sI A20 349 21 (wrap ((gI A20 349 21) + 1))) (fun A22 =>
      some (u14, A22))))))))))))
def fX9_order_102 (N : Nat) (A : AH) (x3 : Int) (x4 : Int) (x5 : Int) (x6 : Int) (xs1 : Int) (xs2 : Int) : Option (Int × AH) :=
  chk (0 ≤ xs1 ∧ xs1 < 16) (
  bnd (sI A 353 xs1.toNat xs2) (fun A2 =>
  chk (0 ≤ x6 ∧ x6 < 16) (
  bnd (sI A2 354 x6.toNat x3) (fun A4 =>
  chk (0 ≤ x6 ∧ x6 < 16) (
  bnd (sI A4 355 x6.toNat x4) (fun A6 =>
  chk (0 ≤ x6 ∧ x6 < 16) (
  bnd (sI A6 356 x6.toNat x5) (fun A8 =>
  chk (0 ≤ x6 ∧ x6 < 16) (
  bnd (sI A8 357 x6.toNat 0) (fun A10 =>
  chk (0 ≤ x6 ∧ x6 < 16) (
  bnd (sI A10 360 x6.toNat 0) (fun A12 =>
  bnd (sI A12 349 22 (wrap ((gI A12 349 22) + 1))) (fun A14 =>
  some (x6, A14))))))))))))))
def fX9_order (N : Nat) (A : AH) (x1 : Int) (x2 : Int) (x3 : Int) (x4 : Int) (x5 : Int) : Option (Int × AH) :=
  obind (fX9_isBetween N A x1 1 4) (fun z2 =>
  if z2 = 0 then
    obind (fX9_fails N A 1) (fun p7 =>
    some (p7.1, p7.2))
  else
    obind (fX9_isBetween N A x3 1 30) (fun z11 =>
    if z11 = 0 then
      obind (fX9_fails N A 1) (fun p16 =>
      some (p16.1, p16.2))
    else
      if x4 < (gI A 349 19) then
        obind (fX9_fails N A 1) (fun p22 =>
        some (p22.1, p22.2))
      else
        if x5 < x4 then
          obind (fX9_fails N A 1) (fun p27 =>
          some (p27.1, p27.2))
        else
          if x5 ≤ 900 then
            if (gI A 349 22) = 16 then
              obind (fX9_fails N A 2) (fun p44 =>
              some (p44.1, p44.2))
            else
              bnd (sI A 349 0 0) (fun A33 =>
              obind (fX9_remembers N A33 ) (fun p35 =>
              bnd (gI p35 349 22) (fun u39 =>
              chk (0 ≤ u39 ∧ u39 < 16) (
              bnd (sI p35 352 u39.toNat x1) (fun A41 =>
              if x2 = 0 then
                fX9_order_102 N A41 x3 x4 x5 u39 u39 0
              else
                fX9_order_102 N A41 x3 x4 x5 u39 u39 1)))))
          else
            obind (fX9_fails N A 1) (fun p48 =>
            some (p48.1, p48.2))))
def fX9_windowHours_9 (N : Nat) (A : AH) (x1 : Int) : Nat → Int → Int → Option (Int)
  | 0, _, _ => none
  | n + 1, x2, x3 =>
    chk (0 ≤ x1 ∧ x1 < 16) (
    if (gI A 356 x1.toNat) < x3 then
      some x2
    else
      obind (fX9_isDeep N A x1 x3) (fun z5 =>
      if z5 = 0 then
        bnd (wrap (x2 + 0)) (fun u9 =>
        bnd (wrap (x3 + 1)) (fun u10 =>
        fX9_windowHours_9 N A x1 n u9 u10))
      else
        bnd (wrap (x2 + 1)) (fun u11 =>
        bnd (wrap (x3 + 1)) (fun u12 =>
        fX9_windowHours_9 N A x1 n u11 u12))))
def fX9_windowHours (N : Nat) (A : AH) (x1 : Int) : Option (Int) :=
  chk (0 ≤ x1 ∧ x1 < 16) (
  bnd (gI A 355 x1.toNat) (fun u3 =>
  fX9_windowHours_9 N A x1 N 0 u3))
def fX9_orderOf (N : Nat) (A : AH) (x1 : Int) (x2 : Int) : Option (Int × AH) :=
  obind (fX9_isOrder N A x1) (fun z2 =>
  if z2 = 0 then
    obind (fX9_fails N A 1) (fun p68 =>
    some (p68.1, p68.2))
  else
    obind (fX9_isBetween N A x2 0 10) (fun z7 =>
    if z7 = 0 then
      obind (fX9_fails N A 2) (fun p64 =>
      some (p64.1, p64.2))
    else
      bnd (sI A 349 0 0) (fun A11 =>
      if x2 = 0 then
        chk (0 ≤ x1 ∧ x1 < 16) (
        some ((gI A11 352 x1.toNat), A11))
      else
      if x2 = 1 then
        chk (0 ≤ x1 ∧ x1 < 16) (
        some ((gI A11 353 x1.toNat), A11))
      else
      if x2 = 2 then
        chk (0 ≤ x1 ∧ x1 < 16) (
        some ((gI A11 354 x1.toNat), A11))
      else
      if x2 = 3 then
        chk (0 ≤ x1 ∧ x1 < 16) (
        some ((gI A11 355 x1.toNat), A11))
      else
      if x2 = 4 then
        chk (0 ≤ x1 ∧ x1 < 16) (
        some ((gI A11 356 x1.toNat), A11))
      else
      if x2 = 5 then
        chk (0 ≤ x1 ∧ x1 < 16) (
        some ((gI A11 357 x1.toNat), A11))
      else
      if x2 = 6 then
        obind (fX9_hasTrip N A11 x1) (fun z32 =>
        if z32 = 0 then
          some ((-1), A11)
        else
          chk (0 ≤ x1 ∧ x1 < 16) (
          some ((gI A11 358 x1.toNat), A11)))
      else
      if x2 = 7 then
        obind (fX9_hasTrip N A11 x1) (fun z40 =>
        if z40 = 0 then
          some ((-1), A11)
        else
          chk (0 ≤ x1 ∧ x1 < 16) (
          some ((gI A11 359 x1.toNat), A11)))
      else
      if x2 = 8 then
        obind (fX9_hasTrip N A11 x1) (fun z48 =>
        if z48 = 0 then
          some ((-1), A11)
        else
          obind (fX9_end N A11 x1) (fun z53 =>
          some (z53, A11)))
      else
      if x2 = 9 then
        chk (0 ≤ x1 ∧ x1 < 16) (
        some ((gI A11 360 x1.toNat), A11))
      else
      obind (fX9_windowHours N A11 x1) (fun z60 =>
      some (z60, A11)))))
def fX9_window_67 (N : Nat) (A : AH) (x1 : Int) (x3 : Int) : Option (Int × AH) :=
  chk (0 ≤ x1 ∧ x1 < 16) (
  if x3 ≤ (gI A 356 x1.toNat) then
    bnd (sI A 349 0 0) (fun A4 =>
    some (x3, A4))
  else
    obind (fX9_fails N A 2) (fun p6 =>
    some (p6.1, p6.2)))
def fX9_window_42 (N : Nat) (x1 : Int) : Nat → AH → Int → Option (Int × AH)
  | 0, _, _ => none
  | n + 1, A, x3 =>
    chk (0 ≤ x1 ∧ x1 < 16) (
    if (gI A 356 x1.toNat) < x3 then
      fX9_window_67 N A x1 x3
    else
      obind (fX9_isDeep N A x1 x3) (fun z5 =>
      if z5 = 0 then
        bnd (wrap (x3 + 1)) (fun u9 =>
        fX9_window_42 N x1 n A u9)
      else
        fX9_window_67 N A x1 x3))
def fX9_window (N : Nat) (A : AH) (x1 : Int) (x2 : Int) : Option (Int × AH) :=
  obind (fX9_isOrder N A x1) (fun z2 =>
  if z2 = 0 then
    obind (fX9_fails N A 1) (fun p7 =>
    some (p7.1, p7.2))
  else
    obind (fX9_isHour N A x2) (fun z11 =>
    if z11 = 0 then
      obind (fX9_fails N A 1) (fun p22 =>
      some (p22.1, p22.2))
    else
      chk (0 ≤ x1 ∧ x1 < 16) (
      if x2 ≤ (gI A 355 x1.toNat) then
        chk (0 ≤ x1 ∧ x1 < 16) (
        bnd (gI A 355 x1.toNat) (fun u20 =>
        fX9_window_42 N x1 N A u20))
      else
        fX9_window_42 N x1 N A x2)))
def fX9_refuses_12 (N : Nat) (A : AH) (x1 : Int) (x2 : Int) : Option (Int × AH) :=
  bnd (sI A 349 29 x1) (fun A1 =>
  obind (fX9_fails N A1 x2) (fun p3 =>
  some (p3.1, p3.2)))
def fX9_refuses (N : Nat) (A : AH) (x1 : Int) (x2 : Int) : Option (Int × AH) :=
  if (gI A 349 45) = 0 then
    bnd (sI A 349 30 0) (fun A3 =>
    fX9_refuses_12 N A3 x1 x2)
  else
    fX9_refuses_12 N A x1 x2
def fX9_hinders (N : Nat) (A : AH) (x1 : Int) (x2 : Int) (x3 : Int) : Option (Int × AH) :=
  obind (fX9_isOrder N A x1) (fun z2 =>
  if z2 = 0 then
    obind (fX9_fails N A 1) (fun p7 =>
    some (p7.1, p7.2))
  else
    obind (fX9_isPilot N A x2) (fun z11 =>
    if z11 = 0 then
      obind (fX9_fails N A 1) (fun p16 =>
      some (p16.1, p16.2))
    else
      obind (fX9_isHour N A x3) (fun z20 =>
      if z20 = 0 then
        obind (fX9_fails N A 1) (fun p30 =>
        some (p30.1, p30.2))
      else
        bnd (sI A 349 0 0) (fun A24 =>
        obind (fX9_whyNotTrip N A24 x1 x2 x3) (fun p26 =>
        some (p26.1, p26.2))))))
def fX9_plan (N : Nat) (A : AH) (x1 : Int) (x2 : Int) (x3 : Int) : Option (Int × AH) :=
  obind (fX9_isOrder N A x1) (fun z2 =>
  if z2 = 0 then
    obind (fX9_fails N A 1) (fun p7 =>
    some (p7.1, p7.2))
  else
    obind (fX9_isPilot N A x2) (fun z11 =>
    if z11 = 0 then
      obind (fX9_fails N A 1) (fun p16 =>
      some (p16.1, p16.2))
    else
      obind (fX9_isHour N A x3) (fun z20 =>
      if z20 = 0 then
        obind (fX9_fails N A 1) (fun p47 =>
        some (p47.1, p47.2))
      else
        obind (fX9_whyNotTrip N A x1 x2 x3) (fun p25 =>
        if p25.1 ≤ 0 then
          bnd (sI p25.2 349 0 0) (fun A29 =>
          obind (fX9_remembers N A29 ) (fun p31 =>
          obind (fX9_plans N p31 x1 x2 x3) (fun p35 =>
          obind (fX9_end N p35 x1) (fun z39 =>
          some (z39, p35)))))
        else
          obind (fX9_refuses N p25.2 p25.1 2) (fun p43 =>
          some (p43.1, p43.2))))))
def fX9_run (N : Nat) (A : AH) (x1 : Int) (x2 : Int) (x3 : Int) : Option (Int × AH) :=
  obind (fX9_isBoat N A x1) (fun z2 =>
  if z2 = 0 then
    obind (fX9_fails N A 1) (fun p7 =>
    some (p7.1, p7.2))
  else
    obind (fX9_isBetween N A x2 0 900) (fun z11 =>
    if z11 = 0 then
      obind (fX9_fails N A 1) (fun p40 =>
      some (p40.1, p40.2))
    else
      if (iShr x3 (gI A 349 20)) = 0 then
        obind (fX9_whyNotRun N A x1 x2 x3) (fun p18 =>
        if p18.1 ≤ 0 then
          bnd (sI p18.2 349 0 0) (fun A22 =>
          obind (fX9_remembers N A22 ) (fun p24 =>
          obind (fX9_goes N p24 x1 x2 x3) (fun p28 =>
          some (p28.1, p28.2))))
        else
          obind (fX9_refuses N p18.2 p18.1 3) (fun p32 =>
          some (p32.1, p32.2)))
      else
        obind (fX9_fails N A 2) (fun p36 =>
        some (p36.1, p36.2))))
def fX9_serving (N : Nat) (A : AH) (x1 : Int) (x2 : Int) : Option (Int × AH) :=
  obind (fX9_isOrder N A x1) (fun z2 =>
  if z2 = 0 then
    obind (fX9_fails N A 1) (fun p31 =>
    some (p31.1, p31.2))
  else
    obind (fX9_isBetween N A x2 0 2) (fun z7 =>
    if z7 = 0 then
      obind (fX9_fails N A 2) (fun p27 =>
      some (p27.1, p27.2))
    else
      obind (fX9_canServe N A x1) (fun p12 =>
      if p12.1 = 0 then
        obind (fX9_fails N p12.2 3) (fun p23 =>
        some (p23.1, p23.2))
      else
        bnd (sI p12.2 349 0 0) (fun A16 =>
        if x2 = 0 then
          some ((gI A16 349 26), A16)
        else
          if x2 = 1 then
            some ((gI A16 349 27), A16)
          else
            some ((gI A16 349 28), A16)))))
def fX9_serve (N : Nat) (A : AH) (x1 : Int) : Option (Int × AH) :=
  obind (fX9_isOrder N A x1) (fun z2 =>
  if z2 = 0 then
    obind (fX9_fails N A 1) (fun p32 =>
    some (p32.1, p32.2))
  else
    chk (0 ≤ x1 ∧ x1 < 16) (
    if (gI A 357 x1.toNat) = 0 then
      obind (fX9_canServe N A x1) (fun p10 =>
      if p10.1 = 0 then
        obind (fX9_refuses N p10.2 12 2) (fun p24 =>
        some (p24.1, p24.2))
      else
        bnd (sI p10.2 349 0 0) (fun A14 =>
        obind (fX9_remembers N A14 ) (fun p16 =>
        obind (fX9_serves N p16 x1) (fun p20 =>
        some (p20.1, p20.2)))))
    else
      obind (fX9_refuses N A 1 2) (fun p28 =>
      some (p28.1, p28.2))))
def fX9_isAhead (N : Nat) (A : AH) (x1 : Int) (x2 : Int) : Option (Int) :=
  chk (0 ≤ x1 ∧ x1 < 16) (
  chk (0 ≤ x2 ∧ x2 < 16) (
  if (gI A 356 x1.toNat) = (gI A 356 x2.toNat) then
    chk (0 ≤ x1 ∧ x1 < 16) (
    chk (0 ≤ x2 ∧ x2 < 16) (
    if (gI A 355 x1.toNat) = (gI A 355 x2.toNat) then
      if x2 ≤ x1 then
        some 0
      else
        some 1
    else
      chk (0 ≤ x1 ∧ x1 < 16) (
      chk (0 ≤ x2 ∧ x2 < 16) (
      if (gI A 355 x2.toNat) ≤ (gI A 355 x1.toNat) then
        some 0
      else
        some 1))))
  else
    chk (0 ≤ x1 ∧ x1 < 16) (
    chk (0 ≤ x2 ∧ x2 < 16) (
    if (gI A 356 x2.toNat) ≤ (gI A 356 x1.toNat) then
      some 0
    else
      some 1))))
def fX9_nextUrgent_34 (N : Nat) (k4 : Int → Int → Option (Int)) (A : AH) (x1 : Int) (x2 : Int) (x3 : Int) : Option (Int) :=
  if x2 < 0 then
    bnd (wrap (x3 + 1)) (fun u2 =>
    k4 x3 u2)
  else
    obind (fX9_isAhead N A x3 x2) (fun z4 =>
    if z4 = 0 then
      bnd (wrap (x3 + 1)) (fun u8 =>
      k4 x2 u8)
    else
      bnd (wrap (x3 + 1)) (fun u9 =>
      k4 x3 u9))
def fX9_nextUrgent_4 (N : Nat) (A : AH) (x1 : Int) : Nat → Int → Int → Option (Int)
  | 0, _, _ => none
  | n + 1, x2, x3 =>
    if (gI A 349 22) ≤ x3 then
      some x2
    else
      chk (0 ≤ x3 ∧ x3 < 16) (
      if (gI A 357 x3.toNat) = 0 then
        if x1 < 0 then
          fX9_nextUrgent_34 N (fun x2 x3 => fX9_nextUrgent_4 N A x1 n x2 x3) A x1 x2 x3
        else
          obind (fX9_isAhead N A x1 x3) (fun z9 =>
          if z9 = 0 then
            bnd (wrap (x3 + 1)) (fun u13 =>
            fX9_nextUrgent_4 N A x1 n x2 u13)
          else
            fX9_nextUrgent_34 N (fun x2 x3 => fX9_nextUrgent_4 N A x1 n x2 x3) A x1 x2 x3)
      else
        bnd (wrap (x3 + 1)) (fun u6 =>
        fX9_nextUrgent_4 N A x1 n x2 u6))
def fX9_nextUrgent (N : Nat) (A : AH) (x1 : Int) : Option (Int) :=
  fX9_nextUrgent_4 N A x1 N (-1) 0
def fX9_serveAll_43 (N : Nat) (k17 : AH → Int → Int → Option (Int × AH)) (A : AH) (x2 : Int) (xs0 : Int) (xs1 : Int) : Option (Int × AH) :=
  bnd (wrap (xs0 + xs1)) (fun u1 =>
  obind (fX9_nextUrgent N A x2) (fun z3 =>
  k17 A u1 z3))
def fX9_serveAll_17 (N : Nat) : Nat → AH → Int → Int → Option (Int × AH)
  | 0, _, _, _ => none
  | n + 1, A, x1, x2 =>
    if x2 < 0 then
      some (x1, A)
    else
      obind (fX9_canServe N A x2) (fun p3 =>
      if p3.1 = 0 then
        fX9_serveAll_43 N (fun A x1 x2 => fX9_serveAll_17 N n A x1 x2) p3.2 x2 x1 0
      else
        obind (fX9_serves N p3.2 x2) (fun p8 =>
        if p8.1 < 0 then
          fX9_serveAll_43 N (fun A x1 x2 => fX9_serveAll_17 N n A x1 x2) p8.2 x2 x1 0
        else
          fX9_serveAll_43 N (fun A x1 x2 => fX9_serveAll_17 N n A x1 x2) p8.2 x2 x1 1))
def fX9_serveAll (N : Nat) (A : AH) : Option (Int × AH) :=
  bnd (sI A 349 0 0) (fun A1 =>
  obind (fX9_remembers N A1 ) (fun p3 =>
  obind (fX9_nextUrgent N p3 (-1)) (fun z7 =>
  fX9_serveAll_17 N N p3 0 z7)))
def fX9_release_37 (N : Nat) (A : AH) : Option (Int × AH) :=
  obind (fX9_refuses N A 13 2) (fun p2 =>
  some (p2.1, p2.2))
def fX9_release (N : Nat) (A : AH) (x1 : Int) : Option (Int × AH) :=
  obind (fX9_isOrder N A x1) (fun z2 =>
  if z2 = 0 then
    obind (fX9_fails N A 1) (fun p39 =>
    some (p39.1, p39.2))
  else
    chk (0 ≤ x1 ∧ x1 < 16) (
    if (gI A 357 x1.toNat) = 1 then
      chk (0 ≤ x1 ∧ x1 < 16) (
      if (gI A 349 19) < (gI A 359 x1.toNat) then
        chk (0 ≤ x1 ∧ x1 < 16) (
        obind (fX9_findLast N A (gI A 358 x1.toNat)) (fun p16 =>
        obind (fX9_end N p16 x1) (fun z21 =>
        if (gI p16 349 24) = z21 then
          bnd (sI p16 349 0 0) (fun A25 =>
          obind (fX9_remembers N A25 ) (fun p27 =>
          chk (0 ≤ x1 ∧ x1 < 16) (
          bnd (sI p27 357 x1.toNat 0) (fun A31 =>
          chk (0 ≤ x1 ∧ x1 < 16) (
          some ((gI A31 358 x1.toNat), A31))))))
        else
          obind (fX9_refuses N p16 14 2) (fun p35 =>
          some (p35.1, p35.2)))))
      else
        fX9_release_37 N A )
    else
      fX9_release_37 N A ))
def fX9_putOff_106 (N : Nat) (A : AH) (x1 : Int) (xs1 : Int) (xs2 : Int) : Option (Int × AH) :=
  chk (0 ≤ xs1 ∧ xs1 < 16) (
  bnd (sI A 356 xs1.toNat xs2) (fun A2 =>
  chk (0 ≤ x1 ∧ x1 < 16) (
  chk (0 ≤ x1 ∧ x1 < 16) (
  bnd (sI A2 360 x1.toNat (wrap ((gI A2 360 x1.toNat) + 1))) (fun A6 =>
  chk (0 ≤ x1 ∧ x1 < 16) (
  some ((gI A6 356 x1.toNat), A6)))))))
def fX9_putOff (N : Nat) (A : AH) (x1 : Int) (x2 : Int) : Option (Int × AH) :=
  obind (fX9_isOrder N A x1) (fun z2 =>
  if z2 = 0 then
    obind (fX9_fails N A 1) (fun p40 =>
    some (p40.1, p40.2))
  else
    obind (fX9_isBetween N A x2 1 48) (fun z7 =>
    if z7 = 0 then
      obind (fX9_fails N A 2) (fun p36 =>
      some (p36.1, p36.2))
    else
      chk (0 ≤ x1 ∧ x1 < 16) (
      if (gI A 357 x1.toNat) = 0 then
        chk (0 ≤ x1 ∧ x1 < 16) (
        if (gI A 360 x1.toNat) = 2 then
          obind (fX9_refuses N A 15 3) (fun p28 =>
          some (p28.1, p28.2))
        else
          bnd (sI A 349 0 0) (fun A17 =>
          obind (fX9_remembers N A17 ) (fun p19 =>
          chk (0 ≤ x1 ∧ x1 < 16) (
          if (wrap ((gI p19 356 x1.toNat) + x2)) ≤ 900 then
            chk (0 ≤ x1 ∧ x1 < 16) (
            fX9_putOff_106 N p19 x1 x1 (wrap ((gI p19 356 x1.toNat) + x2)))
          else
            fX9_putOff_106 N p19 x1 x1 900))))
      else
        obind (fX9_refuses N A 1 3) (fun p32 =>
        some (p32.1, p32.2)))))
def fX9_urgent_39 (N : Nat) (A : AH) (x2 : Int) : Option (Int × AH) :=
  if 0 ≤ x2 then
    bnd (sI A 349 0 0) (fun A2 =>
    some (x2, A2))
  else
    obind (fX9_fails N A 1) (fun p4 =>
    some (p4.1, p4.2))
def fX9_urgent_18 (N : Nat) (x1 : Int) : Nat → AH → Int → Int → Option (Int × AH)
  | 0, _, _, _ => none
  | n + 1, A, x2, x3 =>
    if x1 ≤ x3 then
      fX9_urgent_39 N A x2
    else
      if x2 < 0 then
        fX9_urgent_39 N A x2
      else
        obind (fX9_nextUrgent N A x2) (fun z4 =>
        bnd (wrap (x3 + 1)) (fun u7 =>
        fX9_urgent_18 N x1 n A z4 u7))
def fX9_urgent (N : Nat) (A : AH) (x1 : Int) : Option (Int × AH) :=
  if 0 ≤ x1 then
    obind (fX9_nextUrgent N A (-1)) (fun z3 =>
    fX9_urgent_18 N x1 N A z3 0)
  else
    obind (fX9_fails N A 1) (fun p7 =>
    some (p7.1, p7.2))
def fX9_tripHours_4 (N : Nat) (A : AH) (x1 : Int) : Nat → Int → Int → Option (Int)
  | 0, _, _ => none
  | n + 1, x2, x3 =>
    if (gI A 349 22) ≤ x3 then
      some x2
    else
      obind (fX9_isTripOf N A x3 x1) (fun z4 =>
      if z4 = 0 then
        bnd (wrap (x2 + 0)) (fun u8 =>
        bnd (wrap (x3 + 1)) (fun u9 =>
        fX9_tripHours_4 N A x1 n u8 u9))
      else
        obind (fX9_length N A x3) (fun z11 =>
        bnd (wrap (x2 + z11)) (fun u14 =>
        bnd (wrap (x3 + 1)) (fun u15 =>
        fX9_tripHours_4 N A x1 n u14 u15))))
def fX9_tripHours (N : Nat) (A : AH) (x1 : Int) : Option (Int) :=
  fX9_tripHours_4 N A x1 N 0 0
def fX9_trips_4 (N : Nat) (A : AH) (x1 : Int) : Nat → Int → Int → Option (Int)
  | 0, _, _ => none
  | n + 1, x2, x3 =>
    if (gI A 349 22) ≤ x3 then
      some x2
    else
      obind (fX9_isTripOf N A x3 x1) (fun z4 =>
      if z4 = 0 then
        bnd (wrap (x2 + 0)) (fun u8 =>
        bnd (wrap (x3 + 1)) (fun u9 =>
        fX9_trips_4 N A x1 n u8 u9))
      else
        bnd (wrap (x2 + 1)) (fun u10 =>
        bnd (wrap (x3 + 1)) (fun u11 =>
        fX9_trips_4 N A x1 n u10 u11)))
def fX9_trips (N : Nat) (A : AH) (x1 : Int) : Option (Int) :=
  fX9_trips_4 N A x1 N 0 0
def fX9_rides_4 (N : Nat) (A : AH) (x1 : Int) : Nat → Int → Int → Option (Int)
  | 0, _, _ => none
  | n + 1, x2, x3 =>
    if (gI A 349 23) ≤ x3 then
      some x2
    else
      chk (0 ≤ x3 ∧ x3 < 2703) (
      obind (fX9_has N A (gI A 367 x3.toNat) x1) (fun z6 =>
      if z6 = 0 then
        bnd (wrap (x2 + 0)) (fun u10 =>
        bnd (wrap (x3 + 1)) (fun u11 =>
        fX9_rides_4 N A x1 n u10 u11))
      else
        bnd (wrap (x2 + 1)) (fun u12 =>
        bnd (wrap (x3 + 1)) (fun u13 =>
        fX9_rides_4 N A x1 n u12 u13))))
def fX9_rides (N : Nat) (A : AH) (x1 : Int) : Option (Int) :=
  fX9_rides_4 N A x1 N 0 0
def fX9_freeOf (N : Nat) (A : AH) (x1 : Int) : Option (Int × AH) :=
  obind (fX9_findLast N A x1) (fun p2 =>
  some ((gI p2 349 24), p2))
def fX9_pilot (N : Nat) (A : AH) (x1 : Int) (x2 : Int) : Option (Int × AH) :=
  obind (fX9_isPilot N A x1) (fun z2 =>
  if z2 = 0 then
    obind (fX9_fails N A 1) (fun p49 =>
    some (p49.1, p49.2))
  else
    obind (fX9_isBetween N A x2 0 6) (fun z7 =>
    if z7 = 0 then
      obind (fX9_fails N A 2) (fun p45 =>
      some (p45.1, p45.2))
    else
      bnd (sI A 349 0 0) (fun A11 =>
      if x2 = 0 then
        chk (0 ≤ x1 ∧ x1 < 6) (
        some ((gI A11 361 x1.toNat), A11))
      else
      if x2 = 1 then
        chk (0 ≤ x1 ∧ x1 < 6) (
        some ((gI A11 362 x1.toNat), A11))
      else
      if x2 = 2 then
        chk (0 ≤ x1 ∧ x1 < 6) (
        some ((gI A11 363 x1.toNat), A11))
      else
      if x2 = 3 then
        obind (fX9_trips N A11 x1) (fun z23 =>
        obind (fX9_rides N A11 x1) (fun z27 =>
        some ((wrap (z23 + z27)), A11)))
      else
      if x2 = 4 then
        obind (fX9_freeOf N A11 x1) (fun p32 =>
        some (p32.1, p32.2))
      else
      if x2 = 5 then
        obind (fX9_restedFrom N A11 x1) (fun z37 =>
        some (z37, A11))
      else
      obind (fX9_tripHours N A11 x1) (fun z41 =>
      some (z41, A11)))))
def fX9_nextOf_57 (N : Nat) (k8 : Int → Int → Int → Option (Int)) (A : AH) (x1 : Int) (x2 : Int) (x5 : Int) : Option (Int) :=
  chk (0 ≤ x5 ∧ x5 < 16) (
  bnd (gI A 359 x5.toNat) (fun u3 =>
  bnd (wrap (x5 + 1)) (fun u4 =>
  k8 x5 u3 u4)))
def fX9_nextOf_137 (N : Nat) (k78 : Int → Int → Int → Option (Int)) (A : AH) (x1 : Int) (x2 : Int) (x5 : Int) : Option (Int) :=
  bnd (wrap (16 + x5)) (fun u1 =>
  chk (0 ≤ x5 ∧ x5 < 2703) (
  obind (fX9_hourOf N A (gI A 367 x5.toNat)) (fun z5 =>
  bnd (wrap (x5 + 1)) (fun u8 =>
  k78 u1 z5 u8))))
def fX9_nextOf_78 (N : Nat) (A : AH) (x1 : Int) (x2 : Int) : Nat → Int → Int → Int → Option (Int)
  | 0, _, _, _ => none
  | n + 1, x3, x4, x5 =>
    if (gI A 349 23) ≤ x5 then
      some x3
    else
      chk (0 ≤ x5 ∧ x5 < 2703) (
      obind (fX9_has N A (gI A 367 x5.toNat) x1) (fun z6 =>
      if z6 = 0 then
        bnd (wrap (x5 + 1)) (fun u10 =>
        fX9_nextOf_78 N A x1 x2 n x3 x4 u10)
      else
        chk (0 ≤ x5 ∧ x5 < 2703) (
        obind (fX9_hourOf N A (gI A 367 x5.toNat)) (fun z14 =>
        if z14 < x2 then
          bnd (wrap (x5 + 1)) (fun u18 =>
          fX9_nextOf_78 N A x1 x2 n x3 x4 u18)
        else
          if x3 < 0 then
            fX9_nextOf_137 N (fun x3 x4 x5 => fX9_nextOf_78 N A x1 x2 n x3 x4 x5) A x1 x2 x5
          else
            chk (0 ≤ x5 ∧ x5 < 2703) (
            obind (fX9_hourOf N A (gI A 367 x5.toNat)) (fun z23 =>
            if z23 < x4 then
              fX9_nextOf_137 N (fun x3 x4 x5 => fX9_nextOf_78 N A x1 x2 n x3 x4 x5) A x1 x2 x5
            else
              bnd (wrap (x5 + 1)) (fun u27 =>
              fX9_nextOf_78 N A x1 x2 n x3 x4 u27)))))))
def fX9_nextOf_8 (N : Nat) (A : AH) (x1 : Int) (x2 : Int) : Nat → Int → Int → Int → Option (Int)
  | 0, _, _, _ => none
  | n + 1, x3, x4, x5 =>
    if (gI A 349 22) ≤ x5 then
      fX9_nextOf_78 N A x1 x2 N x3 x4 0
    else
      obind (fX9_isTripOf N A x5 x1) (fun z4 =>
      if z4 = 0 then
        bnd (wrap (x5 + 1)) (fun u8 =>
        fX9_nextOf_8 N A x1 x2 n x3 x4 u8)
      else
        chk (0 ≤ x5 ∧ x5 < 16) (
        if (gI A 359 x5.toNat) < x2 then
          bnd (wrap (x5 + 1)) (fun u12 =>
          fX9_nextOf_8 N A x1 x2 n x3 x4 u12)
        else
          if x3 < 0 then
            fX9_nextOf_57 N (fun x3 x4 x5 => fX9_nextOf_8 N A x1 x2 n x3 x4 x5) A x1 x2 x5
          else
            chk (0 ≤ x5 ∧ x5 < 16) (
            if (gI A 359 x5.toNat) < x4 then
              fX9_nextOf_57 N (fun x3 x4 x5 => fX9_nextOf_8 N A x1 x2 n x3 x4 x5) A x1 x2 x5
            else
              bnd (wrap (x5 + 1)) (fun u17 =>
              fX9_nextOf_8 N A x1 x2 n x3 x4 u17))))
def fX9_nextOf (N : Nat) (A : AH) (x1 : Int) (x2 : Int) : Option (Int) :=
  fX9_nextOf_8 N A x1 x2 N (-1) 0 0
def fX9_beginOf (N : Nat) (A : AH) (x1 : Int) : Option (Int) :=
  if 16 ≤ x1 then
    chk (0 ≤ (wrap (x1 - 16)) ∧ (wrap (x1 - 16)) < 2703) (
    obind (fX9_hourOf N A (gI A 367 (wrap (x1 - 16)).toNat)) (fun z5 =>
    some z5))
  else
    chk (0 ≤ x1 ∧ x1 < 16) (
    some (gI A 359 x1.toNat))
def fX9_ofTrip (N : Nat) (A : AH) (x1 : Int) (x2 : Int) : Option (Int) :=
  if x2 = 0 then
    some 0
  else
    if x2 = 1 then
      chk (0 ≤ x1 ∧ x1 < 16) (
      some (gI A 359 x1.toNat))
    else
      if x2 = 2 then
        obind (fX9_end N A x1) (fun z10 =>
        some z10)
      else
        if x2 = 3 then
          some x1
        else
          obind (fX9_goalOf N A x1) (fun z6 =>
          some z6)
def fX9_ofRide (N : Nat) (A : AH) (x1 : Int) (x2 : Int) : Option (Int) :=
  if x2 = 0 then
    some 1
  else
    if x2 = 1 then
      obind (fX9_hourOf N A x1) (fun z18 =>
      some z18)
    else
      if x2 = 2 then
        obind (fX9_endOf N A x1) (fun z14 =>
        some z14)
      else
        if x2 = 3 then
          obind (fX9_boatOf N A x1) (fun z10 =>
          some z10)
        else
          obind (fX9_toOf N A x1) (fun z6 =>
          some z6)
def fX9_planOf_65 (N : Nat) (A : AH) (x3 : Int) (x4 : Int) : Option (Int × AH) :=
  if 0 ≤ x4 then
    obind (fX9_isBetween N A x3 0 4) (fun z3 =>
    if z3 = 0 then
      obind (fX9_fails N A 3) (fun p20 =>
      some (p20.1, p20.2))
    else
      bnd (sI A 349 0 0) (fun A7 =>
      if 16 ≤ x4 then
        chk (0 ≤ (wrap (x4 - 16)) ∧ (wrap (x4 - 16)) < 2703) (
        obind (fX9_ofRide N A7 (gI A7 367 (wrap (x4 - 16)).toNat) x3) (fun z12 =>
        some (z12, A7)))
      else
        obind (fX9_ofTrip N A7 x4 x3) (fun z16 =>
        some (z16, A7))))
  else
    obind (fX9_fails N A 2) (fun p24 =>
    some (p24.1, p24.2))
def fX9_planOf_33 (N : Nat) (x1 : Int) (x2 : Int) (x3 : Int) : Nat → AH → Int → Int → Option (Int × AH)
  | 0, _, _, _ => none
  | n + 1, A, x4, x5 =>
    if x2 ≤ x5 then
      fX9_planOf_65 N A x3 x4
    else
      if x4 < 0 then
        fX9_planOf_65 N A x3 x4
      else
        obind (fX9_beginOf N A x4) (fun z4 =>
        obind (fX9_nextOf N A x1 (wrap (z4 + 1))) (fun z8 =>
        bnd (wrap (x5 + 1)) (fun u11 =>
        fX9_planOf_33 N x1 x2 x3 n A z8 u11)))
def fX9_planOf (N : Nat) (A : AH) (x1 : Int) (x2 : Int) (x3 : Int) : Option (Int × AH) :=
  obind (fX9_isPilot N A x1) (fun z2 =>
  if z2 = 0 then
    obind (fX9_fails N A 1) (fun p12 =>
    some (p12.1, p12.2))
  else
    if 0 ≤ x2 then
      obind (fX9_nextOf N A x1 0) (fun z8 =>
      fX9_planOf_33 N x1 x2 x3 N A z8 0)
    else
      fX9_planOf_33 N x1 x2 x3 N A (-1) 0)
def fX9_placeAt_92 (N : Nat) (A : AH) (x1 : Int) (x2 : Int) : Nat → Int → Int → Int → Option (Int)
  | 0, _, _, _ => none
  | n + 1, x3, x4, x5 =>
    if (gI A 349 23) ≤ x5 then
      some x3
    else
      chk (0 ≤ x5 ∧ x5 < 2703) (
      obind (fX9_hourOf N A (gI A 367 x5.toNat)) (fun z6 =>
      chk (0 ≤ x5 ∧ x5 < 2703) (
      obind (fX9_has N A (gI A 367 x5.toNat) x1) (fun z12 =>
      if z12 = 0 then
        bnd (wrap (x5 + 1)) (fun u16 =>
        fX9_placeAt_92 N A x1 x2 n x3 x4 u16)
      else
        if x2 < z6 then
          bnd (wrap (x5 + 1)) (fun u18 =>
          fX9_placeAt_92 N A x1 x2 n x3 x4 u18)
        else
          if x4 ≤ z6 then
            chk (0 ≤ x5 ∧ x5 < 2703) (
            obind (fX9_endOf N A (gI A 367 x5.toNat)) (fun z23 =>
            if z23 ≤ x2 then
              chk (0 ≤ x5 ∧ x5 < 2703) (
              obind (fX9_toOf N A (gI A 367 x5.toNat)) (fun z30 =>
              bnd (wrap (x5 + 1)) (fun u33 =>
              fX9_placeAt_92 N A x1 x2 n z30 z6 u33)))
            else
              bnd (wrap (x5 + 1)) (fun u34 =>
              fX9_placeAt_92 N A x1 x2 n (-1) z6 u34)))
          else
            bnd (wrap (x5 + 1)) (fun u35 =>
            fX9_placeAt_92 N A x1 x2 n x3 x4 u35)))))
def fX9_placeAt_8 (N : Nat) (A : AH) (x1 : Int) (x2 : Int) : Nat → Int → Int → Int → Option (Int)
  | 0, _, _, _ => none
  | n + 1, x3, x4, x5 =>
    if (gI A 349 22) ≤ x5 then
      fX9_placeAt_92 N A x1 x2 N x3 x4 0
    else
      obind (fX9_isTripOf N A x5 x1) (fun z4 =>
      if z4 = 0 then
        bnd (wrap (x5 + 1)) (fun u8 =>
        fX9_placeAt_8 N A x1 x2 n x3 x4 u8)
      else
        chk (0 ≤ x5 ∧ x5 < 16) (
        if x2 < (gI A 359 x5.toNat) then
          bnd (wrap (x5 + 1)) (fun u12 =>
          fX9_placeAt_8 N A x1 x2 n x3 x4 u12)
        else
          chk (0 ≤ x5 ∧ x5 < 16) (
          if x4 ≤ (gI A 359 x5.toNat) then
            chk (0 ≤ x5 ∧ x5 < 16) (
            bnd (gI A 359 x5.toNat) (fun u18 =>
            obind (fX9_end N A x5) (fun z20 =>
            if z20 ≤ x2 then
              obind (fX9_goalOf N A x5) (fun z25 =>
              bnd (wrap (x5 + 1)) (fun u28 =>
              fX9_placeAt_8 N A x1 x2 n z25 u18 u28))
            else
              bnd (wrap (x5 + 1)) (fun u29 =>
              fX9_placeAt_8 N A x1 x2 n (-1) u18 u29))))
          else
            bnd (wrap (x5 + 1)) (fun u30 =>
            fX9_placeAt_8 N A x1 x2 n x3 x4 u30))))
def fX9_placeAt (N : Nat) (A : AH) (x1 : Int) (x2 : Int) : Option (Int) :=
  fX9_placeAt_8 N A x1 x2 N 0 (-1) 0
def fX9_place (N : Nat) (A : AH) (x1 : Int) (x2 : Int) : Option (Int × AH) :=
  obind (fX9_isPilot N A x1) (fun z2 =>
  if z2 = 0 then
    obind (fX9_fails N A 1) (fun p7 =>
    some (p7.1, p7.2))
  else
    obind (fX9_isHour N A x2) (fun z11 =>
    if z11 = 0 then
      obind (fX9_fails N A 1) (fun p21 =>
      some (p21.1, p21.2))
    else
      bnd (sI A 349 0 0) (fun A15 =>
      obind (fX9_placeAt N A15 x1 x2) (fun z17 =>
      some (z17, A15)))))
def fX9_placeAgain_119 (N : Nat) (k36 : AH → Int → Int → Option (Int × AH)) (A : AH) (x1 : Int) (x2 : Int) (x5 : Int) (xs0 : Int) : Option (Int × AH) :=
  obind (fX9_nextOf N A x1 x5) (fun z2 =>
  k36 A xs0 z2)
def fX9_placeAgain_80 (N : Nat) (k36 : AH → Int → Int → Option (Int × AH)) (A : AH) (x1 : Int) (x2 : Int) (x4 : Int) (xs0 : Int) : Option (Int × AH) :=
  if xs0 ≤ x2 then
    if 16 ≤ x4 then
      chk (0 ≤ (wrap (x4 - 16)) ∧ (wrap (x4 - 16)) < 2703) (
      obind (fX9_toOf N A (gI A 367 (wrap (x4 - 16)).toNat)) (fun z6 =>
      fX9_placeAgain_119 N k36 A x1 x2 xs0 z6))
    else
      obind (fX9_goalOf N A x4) (fun z10 =>
      fX9_placeAgain_119 N k36 A x1 x2 xs0 z10)
  else
    some ((-1), A)
def fX9_placeAgain_36 (N : Nat) (x1 : Int) (x2 : Int) : Nat → AH → Int → Int → Option (Int × AH)
  | 0, _, _, _ => none
  | n + 1, A, x3, x4 =>
    if x4 < 0 then
      some (x3, A)
    else
      obind (fX9_beginOf N A x4) (fun z3 =>
      if x2 < z3 then
        some (x3, A)
      else
        if 16 ≤ x4 then
          chk (0 ≤ (wrap (x4 - 16)) ∧ (wrap (x4 - 16)) < 2703) (
          obind (fX9_endOf N A (gI A 367 (wrap (x4 - 16)).toNat)) (fun z11 =>
          fX9_placeAgain_80 N (fun A x3 x4 => fX9_placeAgain_36 N x1 x2 n A x3 x4) A x1 x2 x4 z11))
        else
          obind (fX9_end N A x4) (fun z15 =>
          fX9_placeAgain_80 N (fun A x3 x4 => fX9_placeAgain_36 N x1 x2 n A x3 x4) A x1 x2 x4 z15))
def fX9_placeAgain (N : Nat) (A : AH) (x1 : Int) (x2 : Int) : Option (Int × AH) :=
  obind (fX9_isPilot N A x1) (fun z2 =>
  if z2 = 0 then
    obind (fX9_fails N A 1) (fun p7 =>
    some (p7.1, p7.2))
  else
    obind (fX9_isHour N A x2) (fun z11 =>
    if z11 = 0 then
      obind (fX9_fails N A 1) (fun p21 =>
      some (p21.1, p21.2))
    else
      bnd (sI A 349 0 0) (fun A15 =>
      obind (fX9_nextOf N A15 x1 0) (fun z17 =>
      fX9_placeAgain_36 N x1 x2 N A15 0 z17))))
def fX9_ridesOn_4 (N : Nat) (A : AH) (x1 : Int) : Nat → Int → Int → Option (Int)
  | 0, _, _ => none
  | n + 1, x2, x3 =>
    if (gI A 349 23) ≤ x3 then
      some x2
    else
      chk (0 ≤ x3 ∧ x3 < 2703) (
      obind (fX9_boatOf N A (gI A 367 x3.toNat)) (fun z6 =>
      if z6 = x1 then
        chk (0 ≤ x3 ∧ x3 < 2703) (
        obind (fX9_bits N A (iAnd (iShr (gI A 367 x3.toNat) 13) 63)) (fun z15 =>
        bnd (wrap (x2 + z15)) (fun u18 =>
        bnd (wrap (x3 + 1)) (fun u19 =>
        fX9_ridesOn_4 N A x1 n u18 u19))))
      else
        bnd (wrap (x2 + 0)) (fun u10 =>
        bnd (wrap (x3 + 1)) (fun u11 =>
        fX9_ridesOn_4 N A x1 n u10 u11))))
def fX9_ridesOn (N : Nat) (A : AH) (x1 : Int) : Option (Int) :=
  fX9_ridesOn_4 N A x1 N 0 0
def fX9_boat (N : Nat) (A : AH) (x1 : Int) (x2 : Int) : Option (Int × AH) :=
  obind (fX9_isBoat N A x1) (fun z2 =>
  if z2 = 0 then
    obind (fX9_fails N A 1) (fun p35 =>
    some (p35.1, p35.2))
  else
    obind (fX9_isBetween N A x2 0 4) (fun z7 =>
    if z7 = 0 then
      obind (fX9_fails N A 2) (fun p31 =>
      some (p31.1, p31.2))
    else
      bnd (sI A 349 0 0) (fun A11 =>
      if x2 = 0 then
        chk (0 ≤ x1 ∧ x1 < 3) (
        some ((gI A11 364 x1.toNat), A11))
      else
        if x2 = 1 then
          chk (0 ≤ x1 ∧ x1 < 3) (
          some ((gI A11 365 x1.toNat), A11))
        else
          if x2 = 2 then
            obind (fX9_placeOfBoat N A11 x1) (fun z23 =>
            some (z23, A11))
          else
            if x2 = 3 then
              chk (0 ≤ x1 ∧ x1 < 3) (
              some ((gI A11 366 x1.toNat), A11))
            else
              obind (fX9_ridesOn N A11 x1) (fun z17 =>
              some (z17, A11)))))
def fX9_isOver (N : Nat) (A : AH) (x1 : Int) : Option (AH) :=
  chk (0 ≤ x1 ∧ x1 < 16) (
  bnd (gI A 358 x1.toNat) (fun u3 =>
  chk (0 ≤ x1 ∧ x1 < 16) (
  bnd (sI A 357 x1.toNat 2) (fun A5 =>
  chk (0 ≤ u3 ∧ u3 < 6) (
  chk (0 ≤ u3 ∧ u3 < 6) (
  bnd (sI A5 363 u3.toNat (wrap ((gI A5 363 u3.toNat) + 1))) (fun A9 =>
  chk (0 ≤ x1 ∧ x1 < 16) (
  chk (0 ≤ u3 ∧ u3 < 6) (
  if (gI A9 352 x1.toNat) = (gI A9 361 u3.toNat) then
    chk (0 ≤ u3 ∧ u3 < 6) (
    chk (0 ≤ u3 ∧ u3 < 6) (
    bnd (sI A9 362 u3.toNat (wrap ((gI A9 362 u3.toNat) + 1))) (fun A18 =>
    chk (0 ≤ u3 ∧ u3 < 6) (
    if (gI A18 361 u3.toNat) = 4 then
      some A18
    else
      chk (0 ≤ u3 ∧ u3 < 6) (
      if (gI A18 350 2) ≤ (gI A18 362 u3.toNat) then
        chk (0 ≤ u3 ∧ u3 < 6) (
        chk (0 ≤ u3 ∧ u3 < 6) (
        bnd (sI A18 361 u3.toNat (wrap ((gI A18 361 u3.toNat) + 1))) (fun A29 =>
        chk (0 ≤ u3 ∧ u3 < 6) (
        bnd (sI A29 362 u3.toNat 0) (fun A31 =>
        some A31)))))
      else
        some A18)))))
  else
    some A9)))))))))
def fX9_nextOver_4 (N : Nat) (A : AH) : Nat → Int → Int → Option (Int)
  | 0, _, _ => none
  | n + 1, x1, x2 =>
    if (gI A 349 22) ≤ x2 then
      some x1
    else
      chk (0 ≤ x2 ∧ x2 < 16) (
      if (gI A 357 x2.toNat) = 1 then
        obind (fX9_end N A x2) (fun z8 =>
        if (gI A 349 19) < z8 then
          bnd (wrap (x2 + 1)) (fun u13 =>
          fX9_nextOver_4 N A n x1 u13)
        else
          if x1 < 0 then
            bnd (wrap (x2 + 1)) (fun u15 =>
            fX9_nextOver_4 N A n x2 u15)
          else
            obind (fX9_end N A x2) (fun z17 =>
            obind (fX9_end N A x1) (fun z21 =>
            if z21 ≤ z17 then
              bnd (wrap (x2 + 1)) (fun u25 =>
              fX9_nextOver_4 N A n x1 u25)
            else
              bnd (wrap (x2 + 1)) (fun u26 =>
              fX9_nextOver_4 N A n x2 u26))))
      else
        bnd (wrap (x2 + 1)) (fun u6 =>
        fX9_nextOver_4 N A n x1 u6))
def fX9_nextOver (N : Nat) (A : AH) : Option (Int) :=
  fX9_nextOver_4 N A N (-1) 0
def fX9_passes_36 (N : Nat) : Nat → AH → Int → Int → Option (Int × AH)
  | 0, _, _, _ => none
  | n + 1, A, x2, x3 =>
    if (gI A 349 22) ≤ x3 then
      some (x2, A)
    else
      chk (0 ≤ x3 ∧ x3 < 16) (
      if (gI A 357 x3.toNat) = 0 then
        chk (0 ≤ x3 ∧ x3 < 16) (
        if (gI A 356 x3.toNat) < (gI A 349 19) then
          chk (0 ≤ x3 ∧ x3 < 16) (
          bnd (sI A 357 x3.toNat 3) (fun A12 =>
          bnd (wrap (x2 + 1)) (fun u13 =>
          bnd (wrap (x3 + 1)) (fun u14 =>
          fX9_passes_36 N n A12 u13 u14))))
        else
          bnd (wrap (x3 + 1)) (fun u15 =>
          fX9_passes_36 N n A x2 u15))
      else
        bnd (wrap (x3 + 1)) (fun u6 =>
        fX9_passes_36 N n A x2 u6))
def fX9_passes_15 (N : Nat) : Nat → AH → Int → Option (Int × AH)
  | 0, _, _ => none
  | n + 1, A, x2 =>
    if x2 < 0 then
      fX9_passes_36 N N A 0 0
    else
      obind (fX9_isOver N A x2) (fun p3 =>
      obind (fX9_nextOver N p3 ) (fun z7 =>
      fX9_passes_15 N n p3 z7))
def fX9_passes (N : Nat) (A : AH) (x1 : Int) : Option (Int × AH) :=
  bnd (sI A 349 19 (wrap ((gI A 349 19) + x1))) (fun A2 =>
  obind (fX9_nextOver N A2 ) (fun z4 =>
  fX9_passes_15 N N A2 z4))
def fX9_pass (N : Nat) (A : AH) (x1 : Int) : Option (Int × AH) :=
  obind (fX9_isBetween N A x1 0 48) (fun z2 =>
  if z2 = 0 then
    obind (fX9_fails N A 1) (fun p22 =>
    some (p22.1, p22.2))
  else
    if (wrap ((gI A 349 19) + x1)) ≤ 999 then
      bnd (sI A 349 0 0) (fun A8 =>
      obind (fX9_remembers N A8 ) (fun p10 =>
      obind (fX9_passes N p10 x1) (fun p14 =>
      some (p14.1, p14.2))))
    else
      obind (fX9_fails N A 2) (fun p18 =>
      some (p18.1, p18.2)))
def fX9_inState_4 (N : Nat) (A : AH) (x1 : Int) : Nat → Int → Int → Option (Int)
  | 0, _, _ => none
  | n + 1, x2, x3 =>
    if (gI A 349 22) ≤ x3 then
      some x2
    else
      chk (0 ≤ x3 ∧ x3 < 16) (
      if (gI A 357 x3.toNat) = x1 then
        bnd (wrap (x2 + 1)) (fun u8 =>
        bnd (wrap (x3 + 1)) (fun u9 =>
        fX9_inState_4 N A x1 n u8 u9))
      else
        bnd (wrap (x2 + 0)) (fun u6 =>
        bnd (wrap (x3 + 1)) (fun u7 =>
        fX9_inState_4 N A x1 n u6 u7)))
def fX9_inState (N : Nat) (A : AH) (x1 : Int) : Option (Int) :=
  fX9_inState_4 N A x1 N 0 0
def fX9_overPilots_4 (N : Nat) (A : AH) (x1 : Int) : Nat → Int → Int → Option (Int)
  | 0, _, _ => none
  | n + 1, x2, x3 =>
    if (gI A 349 20) ≤ x3 then
      some x2
    else
      if x1 = 8 then
        obind (fX9_rides N A x3) (fun z22 =>
        bnd (wrap (x2 + z22)) (fun u25 =>
        bnd (wrap (x3 + 1)) (fun u26 =>
        fX9_overPilots_4 N A x1 n u25 u26)))
      else
        if x1 = 9 then
          obind (fX9_tripHours N A x3) (fun z16 =>
          bnd (wrap (x2 + z16)) (fun u19 =>
          bnd (wrap (x3 + 1)) (fun u20 =>
          fX9_overPilots_4 N A x1 n u19 u20)))
        else
          obind (fX9_placeAt N A x3 (gI A 349 19)) (fun z7 =>
          if 0 ≤ z7 then
            bnd (wrap (x2 + 0)) (fun u11 =>
            bnd (wrap (x3 + 1)) (fun u12 =>
            fX9_overPilots_4 N A x1 n u11 u12))
          else
            bnd (wrap (x2 + 1)) (fun u13 =>
            bnd (wrap (x3 + 1)) (fun u14 =>
            fX9_overPilots_4 N A x1 n u13 u14)))
def fX9_overPilots (N : Nat) (A : AH) (x1 : Int) : Option (Int) :=
  fX9_overPilots_4 N A x1 N 0 0
def fX9_allPutOffs_4 (N : Nat) (A : AH) : Nat → Int → Int → Option (Int)
  | 0, _, _ => none
  | n + 1, x1, x2 =>
    if (gI A 349 22) ≤ x2 then
      some x1
    else
      chk (0 ≤ x2 ∧ x2 < 16) (
      bnd (wrap (x1 + (gI A 360 x2.toNat))) (fun u5 =>
      bnd (wrap (x2 + 1)) (fun u6 =>
      fX9_allPutOffs_4 N A n u5 u6)))
def fX9_allPutOffs (N : Nat) (A : AH) : Option (Int) :=
  fX9_allPutOffs_4 N A N 0 0
def fX9_number_38 (N : Nat) (A : AH) (x1 : Int) : Option (Int × AH) :=
  bnd (sI A 349 0 0) (fun A1 =>
  if x1 < 30 then
    if x1 < 20 then
      if x1 = 0 then
        obind (fX9_inState N A1 x1) (fun z6 =>
        some (z6, A1))
      else
      if x1 = 1 then
        obind (fX9_inState N A1 x1) (fun z11 =>
        some (z11, A1))
      else
      if x1 = 2 then
        obind (fX9_inState N A1 x1) (fun z16 =>
        some (z16, A1))
      else
      if x1 = 3 then
        obind (fX9_inState N A1 x1) (fun z21 =>
        some (z21, A1))
      else
      if x1 = 4 then
        some ((gI A1 349 19), A1)
      else
      if x1 = 5 then
        some ((gI A1 349 20), A1)
      else
      if x1 = 6 then
        some ((gI A1 349 21), A1)
      else
      if x1 = 7 then
        some ((gI A1 349 23), A1)
      else
      if x1 = 8 then
        obind (fX9_overPilots N A1 x1) (fun z34 =>
        some (z34, A1))
      else
      if x1 = 9 then
        obind (fX9_overPilots N A1 x1) (fun z39 =>
        some (z39, A1))
      else
      if x1 = 10 then
        obind (fX9_allPutOffs N A1 ) (fun z44 =>
        some (z44, A1))
      else
      if x1 = 11 then
        obind (fX9_overPilots N A1 x1) (fun z49 =>
        some (z49, A1))
      else
      if x1 = 12 then
        some ((gI A1 349 41), A1)
      else
      some ((gI A1 349 34), A1)
    else
      chk (0 ≤ (wrap (x1 - 20)) ∧ (wrap (x1 - 20)) < 5) (
      some ((gI A1 350 (wrap (x1 - 20)).toNat), A1))
  else
    chk (0 ≤ (wrap (x1 - 30)) ∧ (wrap (x1 - 30)) < 12) (
    some ((gI A1 351 (wrap (x1 - 30)).toNat), A1)))
def fX9_number (N : Nat) (A : AH) (x1 : Int) : Option (Int × AH) :=
  obind (fX9_isBetween N A x1 0 13) (fun z2 =>
  if z2 = 0 then
    obind (fX9_isBetween N A x1 20 24) (fun z7 =>
    if z7 = 0 then
      obind (fX9_isBetween N A x1 30 41) (fun z12 =>
      if z12 = 0 then
        obind (fX9_fails N A 1) (fun p17 =>
        some (p17.1, p17.2))
      else
        fX9_number_38 N A x1)
    else
      fX9_number_38 N A x1)
  else
    fX9_number_38 N A x1)
def fX9_meanWait_60 (N : Nat) (A : AH) (x1 : Int) (x2 : Int) (xs1 : Int) : Option (UInt64 × AH) :=
  bnd (sI A 349 0 xs1) (fun A1 =>
  if x2 = 0 then
    some (FP.dconst0, A1)
  else
    chk ((FP.ddiv (FP.i2d (Int32.ofInt x1)) (FP.i2d (Int32.ofInt x2))) &&& 0x7fffffffffffffff ≤ 0x7ff0000000000000) (
    some ((FP.ddiv (FP.i2d (Int32.ofInt x1)) (FP.i2d (Int32.ofInt x2))), A1)))
def fX9_meanWait_6 (N : Nat) : Nat → AH → Int → Int → Int → Option (UInt64 × AH)
  | 0, _, _, _, _ => none
  | n + 1, A, x1, x2, x3 =>
    if (gI A 349 22) ≤ x3 then
      if x2 = 0 then
        fX9_meanWait_60 N A x1 x2 1
      else
        fX9_meanWait_60 N A x1 x2 0
    else
      obind (fX9_hasTrip N A x3) (fun z5 =>
      if z5 = 0 then
        bnd (wrap (x3 + 1)) (fun u16 =>
        fX9_meanWait_6 N n A x1 x2 u16)
      else
        chk (0 ≤ x3 ∧ x3 < 16) (
        chk (0 ≤ x3 ∧ x3 < 16) (
        bnd (wrap (x1 + (wrap ((gI A 359 x3.toNat) - (gI A 355 x3.toNat))))) (fun u13 =>
        bnd (wrap (x2 + 1)) (fun u14 =>
        bnd (wrap (x3 + 1)) (fun u15 =>
        fX9_meanWait_6 N n A u13 u14 u15))))))
def fX9_meanWait (N : Nat) (A : AH) : Option (UInt64 × AH) :=
  fX9_meanWait_6 N N A 0 0 0
def fX9_hoursBefore_4 (N : Nat) (A : AH) (x1 : Int) : Nat → Int → Int → Option (Int)
  | 0, _, _ => none
  | n + 1, x2, x3 =>
    if (gI A 349 22) ≤ x3 then
      some x2
    else
      obind (fX9_isTripOf N A x3 x1) (fun z4 =>
      if z4 = 0 then
        bnd (wrap (x3 + 1)) (fun u8 =>
        fX9_hoursBefore_4 N A x1 n x2 u8)
      else
        chk (0 ≤ x3 ∧ x3 < 16) (
        if (gI A 359 x3.toNat) < (gI A 349 19) then
          obind (fX9_end N A x3) (fun z14 =>
          if (gI A 349 19) ≤ z14 then
            chk (0 ≤ x3 ∧ x3 < 16) (
            bnd (wrap (x2 + (wrap ((gI A 349 19) - (gI A 359 x3.toNat))))) (fun u22 =>
            bnd (wrap (x3 + 1)) (fun u23 =>
            fX9_hoursBefore_4 N A x1 n u22 u23)))
          else
            obind (fX9_length N A x3) (fun z25 =>
            bnd (wrap (x2 + z25)) (fun u28 =>
            bnd (wrap (x3 + 1)) (fun u29 =>
            fX9_hoursBefore_4 N A x1 n u28 u29))))
        else
          bnd (wrap (x3 + 1)) (fun u30 =>
          fX9_hoursBefore_4 N A x1 n x2 u30)))
def fX9_hoursBefore (N : Nat) (A : AH) (x1 : Int) : Option (Int) :=
  fX9_hoursBefore_4 N A x1 N 0 0
def fX9_share_25 (N : Nat) (A : AH) (x1 : Int) (xs1 : Int) : Option (UInt32 × AH) :=
  bnd (sI A 349 0 xs1) (fun A1 =>
  if (gI A1 349 0) ≤ 0 then
    obind (fX9_hoursBefore N A1 x1) (fun z5 =>
    chk ((FP.fdiv (FP.i2f (Int32.ofInt z5)) (FP.i2f (Int32.ofInt (gI A1 349 19)))) &&& 0x7fffffff ≤ 0x7f800000) (
    some ((FP.fdiv (FP.i2f (Int32.ofInt z5)) (FP.i2f (Int32.ofInt (gI A1 349 19)))), A1)))
  else
    some (FP.fconst0, A1))
def fX9_share (N : Nat) (A : AH) (x1 : Int) : Option (UInt32 × AH) :=
  obind (fX9_isPilot N A x1) (fun z2 =>
  if z2 = 0 then
    fX9_share_25 N A x1 1
  else
    if (gI A 349 19) = 0 then
      fX9_share_25 N A x1 2
    else
      fX9_share_25 N A x1 0)
def fX9_feed (N : Nat) (A : AH) (x1 : Int) : Option (Int × AH) :=
  if (gI A 349 34) = 60 then
    obind (fX9_fails N A 1) (fun p11 =>
    some (p11.1, p11.2))
  else
    bnd (sI A 349 0 0) (fun A3 =>
    chk (0 ≤ (gI A3 349 34) ∧ (gI A3 349 34) < 60) (
    bnd (sI A3 368 (gI A3 349 34).toNat x1) (fun A6 =>
    bnd (sI A6 349 34 (wrap ((gI A6 349 34) + 1))) (fun A8 =>
    some ((gI A8 349 34), A8)))))
def fX9_sign (N : Nat) (A : AH) : Option (Int) :=
  if (gI A 349 34) ≤ (gI A 349 35) then
    some (-1)
  else
    chk (0 ≤ (gI A 349 35) ∧ (gI A 349 35) < 60) (
    some (gI A 368 (gI A 349 35).toNat))
def fX9_skips (N : Nat) (A : AH) (x1 : Int) : Option (Int × AH) :=
  obind (fX9_sign N A ) (fun z2 =>
  if z2 = x1 then
    bnd (sI A 349 35 (wrap ((gI A 349 35) + 1))) (fun A7 =>
    some (1, A7))
  else
    some (0, A))
def fX9_takesNumber_68 (N : Nat) (A : AH) (x1 : Int) (x2 : Int) : Option (Int × AH) :=
  chk (0 ≤ (wrap ((wrap (4 * (gI A 349 36))) + x1)) ∧ (wrap ((wrap (4 * (gI A 349 36))) + x1)) < 120) (
  bnd (sI A 370 (wrap ((wrap (4 * (gI A 349 36))) + x1)).toNat x2) (fun A3 =>
  some (1, A3)))
def fX9_takesNumber_20 (N : Nat) (x1 : Int) : Nat → AH → Int → Int → Option (Int × AH)
  | 0, _, _, _ => none
  | n + 1, A, x2, x3 =>
    if 3 ≤ x3 then
      fX9_takesNumber_68 N A x1 x2
    else
      obind (fX9_sign N A ) (fun z3 =>
      obind (fX9_isBetween N A z3 48 57) (fun z7 =>
      if z7 = 0 then
        fX9_takesNumber_68 N A x1 x2
      else
        obind (fX9_sign N A ) (fun z12 =>
        bnd (wrap ((wrap ((wrap (10 * x2)) + z12)) - 48)) (fun u15 =>
        bnd (sI A 349 35 (wrap ((gI A 349 35) + 1))) (fun A17 =>
        bnd (wrap (x3 + 1)) (fun u18 =>
        fX9_takesNumber_20 N x1 n A17 u15 u18))))))
def fX9_takesNumber (N : Nat) (A : AH) (x1 : Int) : Option (Int × AH) :=
  obind (fX9_sign N A ) (fun z2 =>
  obind (fX9_isBetween N A z2 48 57) (fun z6 =>
  if z6 = 0 then
    some (0, A)
  else
    fX9_takesNumber_20 N x1 N A 0 0))
def fX9_takesShip_48 (N : Nat) (A : AH) : Option (Int × AH) :=
  chk (0 ≤ (gI A 349 35) ∧ (gI A 349 35) < 60) (
  chk (0 ≤ (gI A 349 36) ∧ (gI A 349 36) < 30) (
  chk (0 ≤ (gI A 368 (gI A 349 35).toNat) ∧ (gI A 368 (gI A 349 35).toNat) < 65536) (
  bnd (sI A 369 (gI A 349 36).toNat (gI A 368 (gI A 349 35).toNat)) (fun A7 =>
  bnd (sI A7 349 35 (wrap ((gI A7 349 35) + 1))) (fun A9 =>
  obind (fX9_takesNumber N A9 1) (fun p11 =>
  if p11.1 = 0 then
    some (0, p11.2)
  else
    obind (fX9_skips N p11.2 64) (fun p16 =>
    if p16.1 = 0 then
      some (0, p16.2)
    else
      obind (fX9_takesNumber N p16.2 2) (fun p21 =>
      if p21.1 = 0 then
        some (0, p21.2)
      else
        obind (fX9_skips N p21.2 45) (fun p26 =>
        if p26.1 = 0 then
          some (0, p26.2)
        else
          obind (fX9_takesNumber N p26.2 3) (fun p31 =>
          if p31.1 = 0 then
            some (0, p31.2)
          else
            some (1, p31.2)))))))))))
def fX9_takesShip (N : Nat) (A : AH) : Option (Int × AH) :=
  obind (fX9_sign N A ) (fun z3 =>
  chk (0 ≤ (wrap (4 * (gI A 349 36))) ∧ (wrap (4 * (gI A 349 36))) < 120) (
  bnd (sI A 370 (wrap (4 * (gI A 349 36))).toNat (wrap (z3 - 48))) (fun A7 =>
  bnd (sI A7 349 35 (wrap ((gI A7 349 35) + 1))) (fun A9 =>
  obind (fX9_sign N A9 ) (fun z11 =>
  if z11 = 105 then
    fX9_takesShip_48 N A9 
  else
    obind (fX9_sign N A9 ) (fun z16 =>
    if z16 = 111 then
      fX9_takesShip_48 N A9 
    else
      some (0, A9)))))))
def fX9_takesItem_106 (N : Nat) (A : AH) : Option (Int × AH) :=
  bnd (sI A 349 36 (wrap ((gI A 349 36) + 1))) (fun A2 =>
  some (1, A2))
def fX9_takesItem_45 (N : Nat) (A : AH) (x1 : Int) : Option (Int × AH) :=
  chk (0 ≤ (gI A 349 35) ∧ (gI A 349 35) < 60) (
  chk (0 ≤ (gI A 349 36) ∧ (gI A 349 36) < 30) (
  chk (0 ≤ (gI A 368 (gI A 349 35).toNat) ∧ (gI A 368 (gI A 349 35).toNat) < 65536) (
  bnd (sI A 369 (gI A 349 36).toNat (gI A 368 (gI A 349 35).toNat)) (fun A7 =>
  bnd (sI A7 349 35 (wrap ((gI A7 349 35) + 1))) (fun A9 =>
  obind (fX9_takesNumber N A9 0) (fun p11 =>
  if p11.1 = 0 then
    some (0, p11.2)
  else
    if x1 = 100 then
      obind (fX9_skips N p11.2 43) (fun p17 =>
      if p17.1 = 0 then
        some (0, p17.2)
      else
        obind (fX9_takesNumber N p17.2 1) (fun p22 =>
        if p22.1 = 0 then
          some (0, p22.2)
        else
          fX9_takesItem_106 N p22.2 ))
    else
      fX9_takesItem_106 N p11.2 ))))))
def fX9_takesItem (N : Nat) (A : AH) : Option (Int × AH) :=
  obind (fX9_sign N A ) (fun z2 =>
  obind (fX9_isBetween N A z2 49 52) (fun z6 =>
  if z6 = 0 then
    if z2 = 115 then
      fX9_takesItem_45 N A z2
    else
      if z2 = 100 then
        fX9_takesItem_45 N A z2
      else
        if z2 = 119 then
          fX9_takesItem_45 N A z2
        else
          some (0, A)
  else
    obind (fX9_takesShip N A ) (fun p14 =>
    if p14.1 = 0 then
      some (0, p14.2)
    else
      fX9_takesItem_106 N p14.2 )))
def fX9_takesText_10 (N : Nat) : Nat → AH → Option (Int × AH)
  | 0, _ => none
  | n + 1, A =>
    obind (fX9_takesItem N A ) (fun p2 =>
    if p2.1 = 0 then
      some (0, p2.2)
    else
      obind (fX9_skips N p2.2 59) (fun p7 =>
      if p7.1 = 0 then
        if (gI p7.2 349 35) = (gI p7.2 349 34) then
          some (1, p7.2)
        else
          some (0, p7.2)
      else
        fX9_takesText_10 N n p7.2 ))
def fX9_takesText (N : Nat) (A : AH) : Option (Int × AH) :=
  bnd (sI A 349 35 0) (fun A1 =>
  bnd (sI A1 349 36 0) (fun A2 =>
  fX9_takesText_10 N N A2 ))
def fX9_does_168 (N : Nat) (A : AH) (xs0 : Int) : Option (Int × AH) :=
  if xs0 = 0 then
    some (20, A)
  else
    some ((gI A 349 29), A)
def fX9_does_148 (N : Nat) (A : AH) (x4 : Int) : Option (Int × AH) :=
  if x4 = 100 then
    if (gI A 349 0) = 3 then
      fX9_does_168 N A 1
    else
      fX9_does_168 N A 0
  else
    fX9_does_168 N A 0
def fX9_does_112 (N : Nat) (A : AH) (x4 : Int) (xs0 : Int) : Option (Int × AH) :=
  if (gI A 349 0) = 0 then
    if 0 ≤ xs0 then
      some (0, A)
    else
      some (20, A)
  else
    if x4 = 115 then
      if (gI A 349 0) = 2 then
        fX9_does_168 N A 1
      else
        fX9_does_148 N A x4
    else
      fX9_does_148 N A x4
def fX9_does_88 (N : Nat) (A : AH) (x1 : Int) (x3 : Int) (x4 : Int) (xs1 : Int) (xs2 : Int) : Option (Int × AH) :=
  chk (0 ≤ (wrap ((wrap (4 * x1)) + 2)) ∧ (wrap ((wrap (4 * x1)) + 2)) < 120) (
  chk (0 ≤ (wrap ((wrap (4 * x1)) + 3)) ∧ (wrap ((wrap (4 * x1)) + 3)) < 120) (
  chk (xs2 = 0 ∨ xs2 = 1) (
  obind (fX9_order N A xs1 xs2 x3 (gI A 370 (wrap ((wrap (4 * x1)) + 2)).toNat) (gI A 370 (wrap ((wrap (4 * x1)) + 3)).toNat)) (fun p7 =>
  fX9_does_112 N p7.2 x4 p7.1))))
def fX9_does (N : Nat) (A : AH) (x1 : Int) : Option (Int × AH) :=
  chk (0 ≤ (wrap (4 * x1)) ∧ (wrap (4 * x1)) < 120) (
  bnd (gI A 370 (wrap (4 * x1)).toNat) (fun u3 =>
  chk (0 ≤ (wrap ((wrap (4 * x1)) + 1)) ∧ (wrap ((wrap (4 * x1)) + 1)) < 120) (
  bnd (gI A 370 (wrap ((wrap (4 * x1)) + 1)).toNat) (fun u6 =>
  chk (0 ≤ x1 ∧ x1 < 30) (
  bnd (gI A 369 x1.toNat) (fun u9 =>
  if u9 = 115 then
    obind (fX9_serve N A u3) (fun p23 =>
    fX9_does_112 N p23.2 u9 p23.1)
  else
    if u9 = 100 then
      obind (fX9_putOff N A u3 u6) (fun p19 =>
      fX9_does_112 N p19.2 u9 p19.1)
    else
      if u9 = 119 then
        obind (fX9_pass N A u3) (fun p15 =>
        fX9_does_112 N p15.2 u9 p15.1)
      else
        if u9 = 111 then
          fX9_does_88 N A x1 u6 u9 u3 1
        else
          fX9_does_88 N A x1 u6 u9 u3 0))))))
def fX9_read_120 (N : Nat) : Nat → AH → Int → Option (Int × AH)
  | 0, _, _ => none
  | n + 1, A, x4 =>
    if 2896 ≤ x4 then
      bnd (sI A 349 41 (wrap ((gI A 349 41) + 1))) (fun A3 =>
      some ((gI A3 349 36), A3))
    else
      chk (0 ≤ x4 ∧ x4 < 2896) (
      chk (0 ≤ (wrap ((wrap (2896 * (gI A 349 41))) + x4)) ∧ (wrap ((wrap (2896 * (gI A 349 41))) + x4)) < 23168) (
      bnd (sI A 371 (wrap ((wrap (2896 * (gI A 349 41))) + x4)).toNat (gI A 373 x4.toNat)) (fun A9 =>
      bnd (wrap (x4 + 1)) (fun u10 =>
      fX9_read_120 N n A9 u10))))
def fX9_read_71 (N : Nat) (A : AH) (x2 : Int) (x3 : Int) : Option (Int × AH) :=
  bnd (sI A 349 45 0) (fun A1 =>
  if x2 ≤ 0 then
    bnd (sI A1 349 0 0) (fun A3 =>
    obind (fX9_makesRoom N A3 ) (fun p5 =>
    fX9_read_120 N N p5 0))
  else
    obind (fX9_passAll N A1 373 0 0) (fun p9 =>
    bnd (sI p9 349 29 x2) (fun A12 =>
    bnd (sI A12 349 30 (wrap (x3 - 1))) (fun A13 =>
    obind (fX9_fails N A13 2) (fun p15 =>
    some (p15.1, p15.2))))))
def fX9_read_47 (N : Nat) : Nat → AH → Int → Int → Option (Int × AH)
  | 0, _, _, _ => none
  | n + 1, A, x2, x3 =>
    if (gI A 349 36) ≤ x3 then
      fX9_read_71 N A x2 x3
    else
      if x2 = 0 then
        obind (fX9_does N A x3) (fun p5 =>
        bnd (wrap (x3 + 1)) (fun u8 =>
        fX9_read_47 N n p5.2 p5.1 u8))
      else
        fX9_read_71 N A x2 x3
def fX9_read (N : Nat) (A : AH) : Option (Int × AH) :=
  obind (fX9_takesText N A ) (fun p2 =>
  bnd (sI p2.2 349 34 0) (fun A5 =>
  if p2.1 = 0 then
    bnd (sI A5 349 37 (gI A5 349 35)) (fun A13 =>
    obind (fX9_fails N A13 1) (fun p15 =>
    some (p15.1, p15.2)))
  else
    obind (fX9_passAll N A5 373 0 1) (fun p8 =>
    bnd (sI p8 349 45 1) (fun A11 =>
    fX9_read_47 N N A11 0 0))))
def fX9_faultPosition (N : Nat) (A : AH) : Option (Int × AH) :=
  if 0 ≤ (gI A 349 37) then
    bnd (sI A 349 0 0) (fun A3 =>
    some ((gI A3 349 37), A3))
  else
    obind (fX9_fails N A 1) (fun p6 =>
    some (p6.1, p6.2))
def fX9_refusal (N : Nat) (A : AH) (x1 : Int) : Option (Int × AH) :=
  if (gI A 349 29) = 0 then
    obind (fX9_fails N A 1) (fun p8 =>
    some (p8.1, p8.2))
  else
    bnd (sI A 349 0 0) (fun A3 =>
    if x1 = 0 then
      some ((gI A3 349 30), A3)
    else
      some ((gI A3 349 29), A3))
def fX9_undo (N : Nat) (A : AH) : Option (Int × AH) :=
  if (gI A 349 41) = 0 then
    obind (fX9_fails N A 1) (fun p13 =>
    some (p13.1, p13.2))
  else
    bnd (sI A 349 0 0) (fun A3 =>
    bnd (sI A3 349 41 (wrap ((gI A3 349 41) - 1))) (fun A5 =>
    obind (fX9_passAll N A5 371 (wrap (2896 * (gI A5 349 41))) 0) (fun p8 =>
    some ((gI p8 349 41), p8))))
def fX9_saveSnapshot (N : Nat) (A : AH) : Option (Int × AH) :=
  bnd (sI A 349 0 0) (fun A1 =>
  bnd (sI A1 349 43 1) (fun A2 =>
  obind (fX9_passAll N A2 372 0 1) (fun p4 =>
  some ((gI p4 349 22), p4))))
def fX9_restoreSnapshot (N : Nat) (A : AH) : Option (Int × AH) :=
  if (gI A 349 43) = 0 then
    obind (fX9_fails N A 1) (fun p11 =>
    some (p11.1, p11.2))
  else
    bnd (sI A 349 0 0) (fun A3 =>
    obind (fX9_passAll N A3 372 0 0) (fun p5 =>
    bnd (sI p5 349 41 0) (fun A8 =>
    some ((gI A8 349 22), A8))))
