/-! the functions -/
def fX8_rule (N : Nat) (A : AH) (x1 : Int) (x2 : Int) : Option (Nat × Int × AH) :=
  if x1 < 0 then
    some (1, 0, nX A)
  else
    if x1 < 5 then
      chk (0 ≤ x1 ∧ x1 < 5) (
      if x2 < (stA 0 x1) then
        some (1, 0, nX A)
      else
        chk (0 ≤ x1 ∧ x1 < 5) (
        if x2 ≤ (stA 1 x1) then
          obind (fX1_add N A 2) (fun p10 =>
          chk (0 ≤ x1 ∧ x1 < 5) (
          bnd (gI p10 (2 + 1) x1.toNat) (fun u15 =>
          chk (0 ≤ x1 ∧ x1 < 5) (
          bnd (sI p10 (2 + 1) x1.toNat x2) (fun A17 =>
          some (0, u15, A17))))))
        else
          some (1, 0, nX A)))
    else
      some (1, 0, nX A)
def fX8_tide (N : Nat) (A : AH) (x1 : Int) (x2 : Int) : Option (Nat × Int × AH) :=
  if x1 < 0 then
    some (1, 0, nX A)
  else
    if x1 < 12 then
      if x2 < 0 then
        some (1, 0, nX A)
      else
        if x2 ≤ 9 then
          obind (fX1_add N A 2) (fun p6 =>
          chk (0 ≤ x1 ∧ x1 < 12) (
          bnd (gI p6 (2 + 2) x1.toNat) (fun u11 =>
          chk (0 ≤ x1 ∧ x1 < 12) (
          bnd (sI p6 (2 + 2) x1.toNat x2) (fun A13 =>
          some (0, u11, A13))))))
        else
          some (1, 0, nX A)
    else
      some (1, 0, nX A)
def fX8_requireHour (N : Nat) (A : AH) (x0 : Int) : Option (Nat × AH) :=
  if x0 < 0 then
    some (3, nX A)
  else
    if x0 < 1000 then
      some (0, A)
    else
      some (3, nX A)
def fX8_depth (N : Nat) (A : AH) (x1 : Int) : Option (Nat × Int × AH) :=
  obind (fX8_requireHour N A x1) (fun p2 =>
  if p2.1 = 0 then
    obind (fX5_depthAt N p2.2 2 x1) (fun z8 =>
    some (0, z8, p2.2))
  else some (p2.1, 0, p2.2))
def fX8_addPilot (N : Nat) (A : AH) (x1 : Int) : Option (Nat × Int × AH) :=
  if x1 < 1 then
    some (1, 0, nX A)
  else
    if x1 ≤ 4 then
      if (gI A 2 7) < 6 then
        obind (fX1_add N A 2) (fun p6 =>
        obind (fX5_makePilot N p6 2 x1) (fun p10 =>
        some (0, p10.1, p10.2)))
      else
        some (2, 0, nX A)
    else
      some (1, 0, nX A)
def fX8_addBoat (N : Nat) (A : AH) (x1 : Int) : Option (Nat × Int × AH) :=
  if x1 < 1 then
    some (1, 0, nX A)
  else
    if x1 ≤ 4 then
      if (gI A 2 8) < 3 then
        obind (fX1_add N A 2) (fun p6 =>
        obind (fX5_makeBoat N p6 2 x1) (fun p10 =>
        some (0, p10.1, p10.2)))
      else
        some (2, 0, nX A)
    else
      some (1, 0, nX A)
def fX8_order_73 (N : Nat) (A : AH) (x3 : Int) (x4 : Int) (x5 : Int) (ys0 : Nat) (xs1 : Int) (xs2 : Int) : Option (Nat × Int × AH) :=
  obind (fX5_makeOrder N A ys0 xs1 xs2 x3 x4 x5) (fun p2 =>
  some (0, p2.1, p2.2))
def fX8_order (N : Nat) (A : AH) (x1 : Int) (x2 : Int) (x3 : Int) (x4 : Int) (x5 : Int) : Option (Nat × Int × AH) :=
  obind (fX5_isOrder N A 2 x1 x3 x4 x5) (fun z2 =>
  if z2 = 0 then
    some (1, 0, nX A)
  else
    if (gI A 2 6) < 16 then
      obind (fX1_add N A 2) (fun p9 =>
      if x2 = 0 then
        fX8_order_73 N p9 x3 x4 x5 2 x1 0
      else
        fX8_order_73 N p9 x3 x4 x5 2 x1 1)
    else
      some (2, 0, nX A))
def fX8_requireOrder (N : Nat) (A : AH) (x1 : Int) : Option (Nat × AH) :=
  obind (fX5_hasOrder N A 2 x1) (fun z2 =>
  if z2 = 0 then
    some (3, nX A)
  else
    some (0, A))
def fX8_orderOf (N : Nat) (A : AH) (x1 : Int) (x2 : Int) : Option (Nat × Int × AH) :=
  obind (fX8_requireOrder N A x1) (fun p2 =>
  if p2.1 = 0 then
    chk (0 ≤ x1 ∧ x1 < 16) (
    if x2 = 0 then
      some (0, (gI p2.2 (2 + 6 + x1.toNat) 0), p2.2)
    else
    if x2 = 1 then
      some (0, (gI p2.2 (2 + 6 + x1.toNat) 1), p2.2)
    else
    if x2 = 2 then
      some (0, (gI p2.2 (2 + 6 + x1.toNat) 2), p2.2)
    else
    if x2 = 3 then
      some (0, (gI p2.2 (2 + 6 + x1.toNat) 3), p2.2)
    else
    if x2 = 4 then
      some (0, (gI p2.2 (2 + 6 + x1.toNat) 4), p2.2)
    else
    if x2 = 5 then
      some (0, (gI p2.2 (2 + 6 + x1.toNat) 5), p2.2)
    else
    if x2 = 6 then
      some (0, (gI p2.2 (2 + 6 + x1.toNat) 6), p2.2)
    else
    if x2 = 7 then
      some (0, (gI p2.2 (2 + 6 + x1.toNat) 7), p2.2)
    else
    if x2 = 8 then
      some (0, (gI p2.2 (2 + 6 + x1.toNat) 8), p2.2)
    else
    if x2 = 9 then
      some (0, (gI p2.2 (2 + 6 + x1.toNat) 9), p2.2)
    else
    if x2 = 10 then
      obind (fX5_hoursOfWindow N p2.2 2 (2 + 6 + x1.toNat)) (fun z31 =>
      some (0, z31, p2.2))
    else
    some (1, 0, nX p2.2))
  else some (p2.1, 0, p2.2))
def fX8_window (N : Nat) (A : AH) (x1 : Int) (x2 : Int) : Option (Nat × Int × AH) :=
  obind (fX8_requireOrder N A x1) (fun p2 =>
  if p2.1 = 0 then
    obind (fX8_requireHour N p2.2 x2) (fun p8 =>
    if p8.1 = 0 then
      chk (0 ≤ x1 ∧ x1 < 16) (
      obind (fX5_firstOfWindow N p8.2 2 (2 + 6 + x1.toNat) x2) (fun z16 =>
      if z16 = (-1) then
        some (6, 0, nX p8.2)
      else
        some (0, z16, p8.2)))
    else some (p8.1, 0, p8.2))
  else some (p2.1, 0, p2.2))
def fX8_requirePilot (N : Nat) (A : AH) (x1 : Int) : Option (Nat × AH) :=
  obind (fX5_hasPilot N A 2 x1) (fun z2 =>
  if z2 = 0 then
    some (3, nX A)
  else
    some (0, A))
def fX8_hinders (N : Nat) (A : AH) (x1 : Int) (x2 : Int) (x3 : Int) : Option (Nat × Int × AH) :=
  obind (fX8_requireOrder N A x1) (fun p2 =>
  if p2.1 = 0 then
    obind (fX8_requirePilot N p2.2 x2) (fun p8 =>
    if p8.1 = 0 then
      obind (fX8_requireHour N p8.2 x3) (fun p14 =>
      if p14.1 = 0 then
        chk (0 ≤ x1 ∧ x1 < 16) (
        chk (0 ≤ x2 ∧ x2 < 6) (
        obind (fX5_reasonAgainstTrip N p14.2 2 (2 + 6 + x1.toNat) (2 + 22 + x2.toNat) x3) (fun z24 =>
        some (0, z24, p14.2))))
      else some (p14.1, 0, p14.2))
    else some (p8.1, 0, p8.2))
  else some (p2.1, 0, p2.2))
def fX8_keepRefusal (N : Nat) (A : AH) (x1 : Int) (x2 : Int) : Option (AH) :=
  bnd (sI A 1 8 x1) (fun A1 =>
  bnd (sI A1 1 9 x2) (fun A2 =>
  some A2))
def fX8_refuseFor (N : Nat) (A : AH) (x1 : Int) : Option (Nat × AH) :=
  if x1 = 0 then
    some (0, A)
  else
    obind (fX8_keepRefusal N A x1 0) (fun p3 =>
    some (5, nX p3))
def fX8_plan (N : Nat) (A : AH) (x1 : Int) (x2 : Int) (x3 : Int) : Option (Nat × Int × AH) :=
  obind (fX8_requireOrder N A x1) (fun p2 =>
  if p2.1 = 0 then
    obind (fX8_requirePilot N p2.2 x2) (fun p8 =>
    if p8.1 = 0 then
      obind (fX8_requireHour N p8.2 x3) (fun p14 =>
      if p14.1 = 0 then
        chk (0 ≤ x1 ∧ x1 < 16) (
        chk (0 ≤ x2 ∧ x2 < 6) (
        obind (fX5_reasonAgainstTrip N p14.2 2 (2 + 6 + x1.toNat) (2 + 22 + x2.toNat) x3) (fun z24 =>
        obind (fX8_refuseFor N p14.2 z24) (fun p28 =>
        if p28.1 = 0 then
          obind (fX1_add N p28.2 2) (fun p34 =>
          obind (fX5_addTrip N p34 2 x1 x2 x3) (fun p38 =>
          chk (0 ≤ x1 ∧ x1 < 16) (
          some (0, (gI p38 (2 + 6 + x1.toNat) 8), p38))))
        else some (p28.1, 0, p28.2)))))
      else some (p14.1, 0, p14.2))
    else some (p8.1, 0, p8.2))
  else some (p2.1, 0, p2.2))
def fX8_run (N : Nat) (A : AH) (x1 : Int) (x2 : Int) (x3 : Int) : Option (Nat × Int × AH) :=
  obind (fX5_hasBoat N A 2 x1) (fun z2 =>
  if z2 = 0 then
    some (3, 0, nX A)
  else
    if x2 < 0 then
      some (3, 0, nX A)
    else
      if x2 ≤ 900 then
        if (iShr x3 (gI A 2 7)) = 0 then
          chk (0 ≤ x1 ∧ x1 < 3) (
          obind (fX5_reasonAgainstRun N A 2 (2 + 28 + x1.toNat) x2 x3) (fun z13 =>
          obind (fX8_refuseFor N A z13) (fun p17 =>
          if p17.1 = 0 then
            obind (fX1_add N p17.2 2) (fun p23 =>
            obind (fX5_addRun N p23 2 x1 x2 x3) (fun p27 =>
            chk (0 ≤ x1 ∧ x1 < 3) (
            some (0, (gI p27 (2 + 28 + x1.toNat) 3), p27))))
          else some (p17.1, 0, p17.2))))
        else
          some (1, 0, nX A)
      else
        some (3, 0, nX A))
def fX8_serving (N : Nat) (A : AH) (x1 : Int) (x2 : Int) : Option (Nat × Int × AH) :=
  obind (fX8_requireOrder N A x1) (fun p2 =>
  if p2.1 = 0 then
    if x2 < 0 then
      some (1, 0, nX p2.2)
    else
      if x2 ≤ 2 then
        obind (fX5_reasonAgainstServing N p2.2 2 x1) (fun p10 =>
        if p10.1 = 0 then
          if x2 = 0 then
            some (0, (gI p10.2 347 0), p10.2)
          else
            if x2 = 1 then
              some (0, (gI p10.2 347 1), p10.2)
            else
              some (0, (gI p10.2 347 2), p10.2)
        else
          some (6, 0, nX p10.2))
      else
        some (1, 0, nX p2.2)
  else some (p2.1, 0, p2.2))
def fX8_serve (N : Nat) (A : AH) (x1 : Int) : Option (Nat × Int × AH) :=
  obind (fX8_requireOrder N A x1) (fun p2 =>
  if p2.1 = 0 then
    obind (fX5_reasonAgainstServing N p2.2 2 x1) (fun p8 =>
    obind (fX8_refuseFor N p8.2 p8.1) (fun p12 =>
    if p12.1 = 0 then
      obind (fX1_add N p12.2 2) (fun p18 =>
      obind (fX5_take N p18 2 x1) (fun p22 =>
      some (0, (gI p22 347 0), p22)))
    else some (p12.1, 0, p12.2)))
  else some (p2.1, 0, p2.2))
def fX8_serveAll_27 (N : Nat) (x1 : Int) : Nat → AH → Int → Int → Option (Int × AH)
  | 0, _, _, _ => none
  | n + 1, A, x2, x3 =>
    if x1 ≤ x3 then
      some (x2, A)
    else
      chk (0 ≤ x3 ∧ x3 < 16) (
      obind (fX5_reasonAgainstServing N A 2 (gI A 348 x3.toNat)) (fun p5 =>
      if p5.1 = 0 then
        chk (0 ≤ x3 ∧ x3 < 16) (
        obind (fX5_take N p5.2 2 (gI p5.2 348 x3.toNat)) (fun p13 =>
        bnd (wrap (x2 + 1)) (fun u16 =>
        bnd (wrap (x3 + 1)) (fun u17 =>
        fX8_serveAll_27 N x1 n p13 u16 u17))))
      else
        bnd (wrap (x3 + 1)) (fun u9 =>
        fX8_serveAll_27 N x1 n p5.2 x2 u9)))
def fX8_serveAll (N : Nat) (A : AH) : Option (Int × AH) :=
  obind (fX1_add N A 2) (fun p2 =>
  obind (fX5_lineUp N p2 2 348) (fun p6 =>
  fX8_serveAll_27 N p6.1 N p6.2 0 0))
def fX8_release (N : Nat) (A : AH) (x1 : Int) : Option (Nat × Int × AH) :=
  obind (fX8_requireOrder N A x1) (fun p2 =>
  if p2.1 = 0 then
    obind (fX5_reasonAgainstRelease N p2.2 2 x1) (fun z8 =>
    obind (fX8_refuseFor N p2.2 z8) (fun p12 =>
    if p12.1 = 0 then
      obind (fX1_add N p12.2 2) (fun p18 =>
      chk (0 ≤ x1 ∧ x1 < 16) (
      bnd (gI p18 (2 + 6 + x1.toNat) 6) (fun u24 =>
      obind (fX5_removeTrip N p18 2 x1) (fun p26 =>
      some (0, u24, p26)))))
    else some (p12.1, 0, p12.2)))
  else some (p2.1, 0, p2.2))
def fX8_canPutOffBy (N : Nat) (A : AH) (x0 : Int) : Option (Int) :=
  if x0 < 1 then
    some 0
  else
    if 48 < x0 then
      some 0
    else
      some 1
def fX8_putOff (N : Nat) (A : AH) (x1 : Int) (x2 : Int) : Option (Nat × Int × AH) :=
  obind (fX8_requireOrder N A x1) (fun p2 =>
  if p2.1 = 0 then
    obind (fX8_canPutOffBy N p2.2 x2) (fun z8 =>
    if z8 = 0 then
      some (1, 0, nX p2.2)
    else
      chk (0 ≤ x1 ∧ x1 < 16) (
      obind (fX3_reasonAgainstDelay N p2.2 (2 + 6 + x1.toNat)) (fun z15 =>
      obind (fX8_refuseFor N p2.2 z15) (fun p19 =>
      if p19.1 = 0 then
        obind (fX1_add N p19.2 2) (fun p25 =>
        obind (fX3_delay N p25 (2 + 6 + x1.toNat) x2) (fun p29 =>
        some (0, (gI p29 (2 + 6 + x1.toNat) 4), p29)))
      else some (p19.1, 0, p19.2)))))
  else some (p2.1, 0, p2.2))
def fX8_urgent (N : Nat) (A : AH) (x1 : Int) : Option (Nat × Int × AH) :=
  obind (fX5_lineUp N A 2 348) (fun p2 =>
  if x1 < 0 then
    some (6, 0, nX p2.2)
  else
    if x1 < p2.1 then
      chk (0 ≤ x1 ∧ x1 < 16) (
      some (0, (gI p2.2 348 x1.toNat), p2.2))
    else
      some (6, 0, nX p2.2))
def fX8_pilot (N : Nat) (A : AH) (x1 : Int) (x2 : Int) : Option (Nat × Int × AH) :=
  obind (fX8_requirePilot N A x1) (fun p2 =>
  if p2.1 = 0 then
    chk (0 ≤ x1 ∧ x1 < 6) (
    if x2 = 0 then
      some (0, (gI p2.2 (2 + 22 + x1.toNat) 0), p2.2)
    else
    if x2 = 1 then
      some (0, (gI p2.2 (2 + 22 + x1.toNat) 1), p2.2)
    else
    if x2 = 2 then
      obind (fX5_tripsDone N p2.2 2 x1) (fun z15 =>
      some (0, z15, p2.2))
    else
    if x2 = 3 then
      obind (fX4_legs N p2.2 (2 + 22 + x1.toNat)) (fun z20 =>
      some (0, z20, p2.2))
    else
    if x2 = 4 then
      obind (fX4_freeFrom N p2.2 (2 + 22 + x1.toNat)) (fun z25 =>
      some (0, z25, p2.2))
    else
    if x2 = 5 then
      obind (fX5_restedFrom N p2.2 2 (2 + 22 + x1.toNat)) (fun z30 =>
      some (0, z30, p2.2))
    else
    if x2 = 6 then
      obind (fX4_tripHours N p2.2 (2 + 22 + x1.toNat) 1000) (fun z35 =>
      some (0, z35, p2.2))
    else
    some (1, 0, nX p2.2))
  else some (p2.1, 0, p2.2))
def fX8_planOf (N : Nat) (A : AH) (x1 : Int) (x2 : Int) (x3 : Int) : Option (Nat × Int × AH) :=
  obind (fX8_requirePilot N A x1) (fun p2 =>
  if p2.1 = 0 then
    chk (0 ≤ x1 ∧ x1 < 6) (
    obind (fX4_legAt N p2.2 (2 + 22 + x1.toNat) x2) (fun z10 =>
    if z10 = 0 then
      some (6, 0, nX p2.2)
    else
      if x3 = 0 then
        some (0, (gI p2.2 z10 2), p2.2)
      else
      if x3 = 1 then
        some (0, (gI p2.2 z10 4), p2.2)
      else
      if x3 = 2 then
        some (0, (gI p2.2 z10 5), p2.2)
      else
      if x3 = 3 then
        some (0, (gI p2.2 z10 3), p2.2)
      else
      if x3 = 4 then
        some (0, (gI p2.2 z10 6), p2.2)
      else
      some (1, 0, nX p2.2)))
  else some (p2.1, 0, p2.2))
def fX8_place (N : Nat) (A : AH) (x1 : Int) (x2 : Int) : Option (Nat × Int × AH) :=
  obind (fX8_requirePilot N A x1) (fun p2 =>
  if p2.1 = 0 then
    obind (fX8_requireHour N p2.2 x2) (fun p8 =>
    if p8.1 = 0 then
      chk (0 ≤ x1 ∧ x1 < 6) (
      obind (fX4_placeAt N p8.2 (2 + 22 + x1.toNat) x2) (fun z16 =>
      some (0, z16, p8.2)))
    else some (p8.1, 0, p8.2))
  else some (p2.1, 0, p2.2))
def fX8_placeAgain (N : Nat) (A : AH) (x1 : Int) (x2 : Int) : Option (Nat × Int × AH) :=
  obind (fX8_requirePilot N A x1) (fun p2 =>
  if p2.1 = 0 then
    obind (fX8_requireHour N p2.2 x2) (fun p8 =>
    if p8.1 = 0 then
      chk (0 ≤ x1 ∧ x1 < 6) (
      obind (fX4_placeHourByHour N p8.2 (2 + 22 + x1.toNat) x2) (fun z16 =>
      some (0, z16, p8.2)))
    else some (p8.1, 0, p8.2))
  else some (p2.1, 0, p2.2))
def fX8_boat (N : Nat) (A : AH) (x1 : Int) (x2 : Int) : Option (Nat × Int × AH) :=
  obind (fX5_hasBoat N A 2 x1) (fun z2 =>
  if z2 = 0 then
    some (3, 0, nX A)
  else
    chk (0 ≤ x1 ∧ x1 < 3) (
    if x2 = 0 then
      some (0, (gI A (2 + 28 + x1.toNat) 0), A)
    else
    if x2 = 1 then
      some (0, (gI A (2 + 28 + x1.toNat) 1), A)
    else
    if x2 = 2 then
      some (0, (gI A (2 + 28 + x1.toNat) 2), A)
    else
    if x2 = 3 then
      some (0, (gI A (2 + 28 + x1.toNat) 3), A)
    else
    if x2 = 4 then
      some (0, (gI A (2 + 28 + x1.toNat) 4), A)
    else
    some (1, 0, nX A)))
def fX8_canPassBy (N : Nat) (A : AH) (x0 : Int) : Option (Int) :=
  if x0 < 0 then
    some 0
  else
    if 48 < x0 then
      some 0
    else
      some 1
def fX8_pass (N : Nat) (A : AH) (x1 : Int) : Option (Nat × Int × AH) :=
  obind (fX8_canPassBy N A x1) (fun z2 =>
  if z2 = 0 then
    some (1, 0, nX A)
  else
    if (wrap ((gI A 2 5) + x1)) < 1000 then
      obind (fX1_add N A 2) (fun p9 =>
      obind (fX5_advance N p9 2 x1) (fun p13 =>
      some (0, p13.1, p13.2)))
    else
      some (2, 0, nX A))
def fX8_number_68 (N : Nat) (A : AH) (x1 : Int) : Option (Nat × Int × AH) :=
  if x1 = 4 then
    some (0, (gI A 2 5), A)
  else
  if x1 = 5 then
    some (0, (gI A 2 7), A)
  else
  if x1 = 6 then
    some (0, (gI A 2 8), A)
  else
  if x1 = 7 then
    obind (fX5_allRuns N A 2) (fun z9 =>
    some (0, z9, A))
  else
  if x1 = 8 then
    obind (fX5_allRides N A 2) (fun z14 =>
    some (0, z14, A))
  else
  if x1 = 9 then
    obind (fX5_allTripHours N A 2) (fun z19 =>
    some (0, z19, A))
  else
  if x1 = 10 then
    obind (fX5_allPutOffs N A 2) (fun z24 =>
    some (0, z24, A))
  else
  if x1 = 11 then
    obind (fX5_pilotsUnderWay N A 2) (fun z29 =>
    some (0, z29, A))
  else
  if x1 = 12 then
    some (0, (gI A 64 2), A)
  else
  if x1 = 13 then
    some (0, (gI A 345 1), A)
  else
  some (1, 0, nX A)
def fX8_number_43 (N : Nat) (A : AH) (x1 : Int) : Option (Nat × Int × AH) :=
  if x1 < 30 then
    fX8_number_68 N A x1
  else
    if 42 ≤ x1 then
      fX8_number_68 N A x1
    else
      chk (0 ≤ (wrap (x1 - 30)) ∧ (wrap (x1 - 30)) < 12) (
      some (0, (gI A (2 + 2) (wrap (x1 - 30)).toNat), A))
def fX8_number_18 (N : Nat) (A : AH) (x1 : Int) : Option (Nat × Int × AH) :=
  if x1 < 20 then
    fX8_number_43 N A x1
  else
    if 25 ≤ x1 then
      fX8_number_43 N A x1
    else
      chk (0 ≤ (wrap (x1 - 20)) ∧ (wrap (x1 - 20)) < 5) (
      some (0, (gI A (2 + 1) (wrap (x1 - 20)).toNat), A))
def fX8_number (N : Nat) (A : AH) (x1 : Int) : Option (Nat × Int × AH) :=
  if x1 < 0 then
    fX8_number_18 N A x1
  else
    if 3 < x1 then
      fX8_number_18 N A x1
    else
      obind (fX5_ordersIn N A 2 x1) (fun z4 =>
      some (0, z4, A))
def fX8_meanWait (N : Nat) (A : AH) : Option (Nat × UInt64 × AH) :=
  obind (fX5_ordersIn N A 2 1) (fun z2 =>
  obind (fX5_ordersIn N A 2 2) (fun z6 =>
  bnd (wrap (z2 + z6)) (fun u9 =>
  if u9 = 0 then
    some (4, 0, nX A)
  else
    obind (fX5_allWaits N A 2) (fun z12 =>
    chk ((FP.ddiv (FP.i2d (Int32.ofInt z12)) (FP.i2d (Int32.ofInt u9))) &&& 0x7fffffffffffffff ≤ 0x7ff0000000000000) (
    some (0, (FP.ddiv (FP.i2d (Int32.ofInt z12)) (FP.i2d (Int32.ofInt u9))), A))))))
def fX8_share (N : Nat) (A : AH) (x1 : Int) : Option (Nat × UInt32 × AH) :=
  obind (fX8_requirePilot N A x1) (fun p2 =>
  if p2.1 = 0 then
    if (gI p2.2 2 5) = 0 then
      some (4, 0, nX p2.2)
    else
      chk (0 ≤ x1 ∧ x1 < 6) (
      obind (fX4_tripHours N p2.2 (2 + 22 + x1.toNat) (gI p2.2 2 5)) (fun z13 =>
      chk ((FP.fdiv (FP.i2f (Int32.ofInt z13)) (FP.i2f (Int32.ofInt (gI p2.2 2 5)))) &&& 0x7fffffff ≤ 0x7f800000) (
      some (0, (FP.fdiv (FP.i2f (Int32.ofInt z13)) (FP.i2f (Int32.ofInt (gI p2.2 2 5)))), p2.2))))
  else some (p2.1, 0, p2.2))
def fX8_feed (N : Nat) (A : AH) (x1 : Int) : Option (Nat × Int × AH) :=
  if (gI A 345 1) < 60 then
    obind (fX6_append N A x1) (fun p4 =>
    some (0, (gI p4 345 1), p4))
  else
    some (2, 0, nX A)
def fX8_carryOutServe (N : Nat) (A : AH) (x1 : Int) : Option (Int × AH) :=
  obind (fX5_hasOrder N A 2 x1) (fun z2 =>
  if z2 = 0 then
    some (20, A)
  else
    obind (fX5_reasonAgainstServing N A 2 x1) (fun p7 =>
    if p7.1 = 0 then
      obind (fX5_take N p7.2 2 x1) (fun p12 =>
      some (p7.1, p12))
    else
      some (p7.1, p7.2)))
def fX8_carryOutPutOff (N : Nat) (A : AH) (x1 : Int) (x2 : Int) : Option (Int × AH) :=
  obind (fX5_hasOrder N A 2 x1) (fun z2 =>
  if z2 = 0 then
    some (20, A)
  else
    obind (fX8_canPutOffBy N A x2) (fun z7 =>
    if z7 = 0 then
      some (20, A)
    else
      chk (0 ≤ x1 ∧ x1 < 16) (
      obind (fX3_reasonAgainstDelay N A (2 + 6 + x1.toNat)) (fun z14 =>
      if z14 = 0 then
        chk (0 ≤ x1 ∧ x1 < 16) (
        obind (fX3_delay N A (2 + 6 + x1.toNat) x2) (fun p21 =>
        some (z14, p21)))
      else
        some (z14, A)))))
def fX8_carryOutPass (N : Nat) (A : AH) (x1 : Int) : Option (Int × AH) :=
  obind (fX8_canPassBy N A x1) (fun z2 =>
  if z2 = 0 then
    some (20, A)
  else
    if (wrap ((gI A 2 5) + x1)) < 1000 then
      obind (fX5_advance N A 2 x1) (fun p9 =>
      some (0, p9.2))
    else
      some (20, A))
def fX8_carryOutOrder (N : Nat) (A : AH) (x1 : Int) : Option (Int × AH) :=
  obind (fX5_isOrder N A 2 (gI A 345 4) (gI A 345 5) (gI A 345 6) (gI A 345 7)) (fun z6 =>
  if z6 = 0 then
    some (20, A)
  else
    if (gI A 2 6) < 16 then
      obind (fX5_makeOrder N A 2 (gI A 345 4) x1 (gI A 345 5) (gI A 345 6) (gI A 345 7)) (fun p17 =>
      some (0, p17.2))
    else
      some (20, A))
def fX8_read_208 (N : Nat) (A : AH) (x1 : Int) (x2 : Int) (x3 : Int) : Option (Nat × Int × AH) :=
  obind (fX6_clear N A ) (fun p2 =>
  if x2 = 0 then
    obind (fX1_commit N p2 ) (fun p7 =>
    some (0, x1, p7))
  else
    obind (fX1_takeBack N p2 2) (fun p11 =>
    obind (fX8_keepRefusal N p11 x2 x3) (fun p15 =>
    some (5, 0, nX p15))))
def fX8_read_66 (N : Nat) (x1 : Int) : Nat → AH → Int → Int → Int → Option (Nat × Int × AH)
  | 0, _, _, _, _ => none
  | n + 1, A, x2, x3, x4 =>
    if x1 ≤ x4 then
      fX8_read_208 N A x1 x2 x3
    else
      if x2 = 0 then
        obind (fX6_nextItem N A ) (fun p4 =>
        if (gI p4 345 3) = 100 then
          obind (fX8_carryOutPutOff N p4 (gI p4 345 5) (gI p4 345 6)) (fun p12 =>
          bnd (wrap (x4 + 1)) (fun u15 =>
          fX8_read_66 N x1 n p12.2 p12.1 x4 u15))
        else
        if (gI p4 345 3) = 115 then
          obind (fX8_carryOutServe N p4 (gI p4 345 5)) (fun p19 =>
          bnd (wrap (x4 + 1)) (fun u22 =>
          fX8_read_66 N x1 n p19.2 p19.1 x4 u22))
        else
        if (gI p4 345 3) = 119 then
          obind (fX8_carryOutPass N p4 (gI p4 345 5)) (fun p26 =>
          bnd (wrap (x4 + 1)) (fun u29 =>
          fX8_read_66 N x1 n p26.2 p26.1 x4 u29))
        else
        if (gI p4 345 3) = 111 then
          obind (fX8_carryOutOrder N p4 1) (fun p38 =>
          bnd (wrap (x4 + 1)) (fun u41 =>
          fX8_read_66 N x1 n p38.2 p38.1 x4 u41))
        else
          obind (fX8_carryOutOrder N p4 0) (fun p33 =>
          bnd (wrap (x4 + 1)) (fun u36 =>
          fX8_read_66 N x1 n p33.2 p33.1 x4 u36)))
      else
        fX8_read_208 N A x1 x2 x3
def fX8_read (N : Nat) (A : AH) : Option (Nat × Int × AH) :=
  obind (fX6_countItems N A ) (fun p2 =>
  if p2.1 = 0 then
    bnd (sI p2.2 1 7 (gI p2.2 345 2)) (fun A15 =>
    obind (fX6_clear N A15 ) (fun p17 =>
    some (1, 0, nX p17)))
  else
    obind (fX1_prepare N p2.2 2) (fun p7 =>
    obind (fX6_rewind N p7 ) (fun p11 =>
    fX8_read_66 N p2.1 N p11 0 0 0)))
def fX8_faultPosition (N : Nat) (A : AH) : Option (Nat × Int × AH) :=
  if (gI A 1 7) = (-1) then
    some (6, 0, nX A)
  else
    some (0, (gI A 1 7), A)
def fX8_refusal (N : Nat) (A : AH) (x1 : Int) : Option (Nat × Int × AH) :=
  if (gI A 1 8) = 0 then
    some (6, 0, nX A)
  else
    if x1 = 0 then
      some (0, (gI A 1 9), A)
    else
      some (0, (gI A 1 8), A)
def fX8_undo (N : Nat) (A : AH) : Option (Nat × Int × AH) :=
  if (gI A 64 2) = 0 then
    some (2, 0, nX A)
  else
    obind (fX1_stepBack N A 2) (fun p4 =>
    some (0, (gI p4 64 2), p4))
def fX8_saveSnapshot (N : Nat) (A : AH) : Option (Int × AH) :=
  obind (fX5_copyFrom N A 33 2) (fun p2 =>
  bnd (sI p2 1 6 1) (fun A5 =>
  some ((gI A5 2 6), A5)))
def fX8_restoreSnapshot (N : Nat) (A : AH) : Option (Nat × Int × AH) :=
  if (gI A 1 6) = 0 then
    some (2, 0, nX A)
  else
    obind (fX5_copyFrom N A 2 33) (fun p4 =>
    bnd (sI p4 64 2 0) (fun A7 =>
    some (0, (gI A7 2 6), A7)))
