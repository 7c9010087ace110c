/-! the functions -/
def fX5_copyFrom_125 (N : Nat) (y0 : Nat) (y1 : Nat) : Nat → AH → Int → Option (AH)
  | 0, _, _ => none
  | n + 1, A, x2 =>
    if (gI A y0 8) ≤ x2 then
      some A
    else
      chk (0 ≤ x2 ∧ x2 < 3) (
      chk (0 ≤ x2 ∧ x2 < 3) (
      obind (fX0_copyFrom N A (y0 + 28 + x2.toNat) (y1 + 28 + x2.toNat)) (fun p8 =>
      bnd (wrap (x2 + 1)) (fun u11 =>
      fX5_copyFrom_125 N y0 y1 n p8 u11))))
def fX5_copyFrom_94 (N : Nat) (y0 : Nat) (y1 : Nat) : Nat → AH → Int → Option (AH)
  | 0, _, _ => none
  | n + 1, A, x2 =>
    if (gI A y0 7) ≤ x2 then
      fX5_copyFrom_125 N y0 y1 N A 0
    else
      chk (0 ≤ x2 ∧ x2 < 6) (
      chk (0 ≤ x2 ∧ x2 < 6) (
      obind (fX4_copyFrom N A (y0 + 22 + x2.toNat) (y1 + 22 + x2.toNat)) (fun p8 =>
      bnd (wrap (x2 + 1)) (fun u11 =>
      fX5_copyFrom_94 N y0 y1 n p8 u11))))
def fX5_copyFrom_63 (N : Nat) (y0 : Nat) (y1 : Nat) : Nat → AH → Int → Option (AH)
  | 0, _, _ => none
  | n + 1, A, x2 =>
    if (gI A y0 6) ≤ x2 then
      fX5_copyFrom_94 N y0 y1 N A 0
    else
      chk (0 ≤ x2 ∧ x2 < 16) (
      chk (0 ≤ x2 ∧ x2 < 16) (
      obind (fX3_copyFrom N A (y0 + 6 + x2.toNat) (y1 + 6 + x2.toNat)) (fun p8 =>
      bnd (wrap (x2 + 1)) (fun u11 =>
      fX5_copyFrom_63 N y0 y1 n p8 u11))))
def fX5_copyFrom (N : Nat) (A : AH) (y0 : Nat) (y1 : Nat) : Option (AH) :=
  bnd (sI A y0 5 (gI A y1 5)) (fun A2 =>
  bnd (sI A2 y0 6 (gI A2 y1 6)) (fun A4 =>
  bnd (sI A4 y0 7 (gI A4 y1 7)) (fun A6 =>
  bnd (sI A6 y0 8 (gI A6 y1 8)) (fun A8 =>
  bnd (cpI A8 (y1 + 1) (y0 + 1) 5) (fun A9 =>
  bnd (cpI A9 (y1 + 2) (y0 + 2) 12) (fun A10 =>
  fX5_copyFrom_63 N y0 y1 N A10 0))))))
def fX5_hasOrder (N : Nat) (A : AH) (y0 : Nat) (x1 : Int) : Option (Int) :=
  if x1 < 0 then
    some 0
  else
    if (gI A y0 6) ≤ x1 then
      some 0
    else
      some 1
def fX5_hasPilot (N : Nat) (A : AH) (y0 : Nat) (x1 : Int) : Option (Int) :=
  if x1 < 0 then
    some 0
  else
    if (gI A y0 7) ≤ x1 then
      some 0
    else
      some 1
def fX5_hasBoat (N : Nat) (A : AH) (y0 : Nat) (x1 : Int) : Option (Int) :=
  if x1 < 0 then
    some 0
  else
    if (gI A y0 8) ≤ x1 then
      some 0
    else
      some 1
def fX5_makePilot (N : Nat) (A : AH) (y0 : Nat) (x1 : Int) : Option (Int × AH) :=
  bnd (gI A y0 7) (fun u2 =>
  if 6 ≤ u2 then
    some (u2, A)
  else
    chk (0 ≤ u2 ∧ u2 < 6) (
    obind (fX4_start N A (y0 + 22 + u2.toNat) x1) (fun p7 =>
    bnd (sI p7 y0 7 (wrap ((gI p7 y0 7) + 1))) (fun A11 =>
    some (u2, A11)))))
def fX5_makeBoat (N : Nat) (A : AH) (y0 : Nat) (x1 : Int) : Option (Int × AH) :=
  bnd (gI A y0 8) (fun u2 =>
  if 3 ≤ u2 then
    some (u2, A)
  else
    chk (0 ≤ u2 ∧ u2 < 3) (
    obind (fX0_start N A (y0 + 28 + u2.toNat) x1) (fun p7 =>
    bnd (sI p7 y0 8 (wrap ((gI p7 y0 8) + 1))) (fun A11 =>
    some (u2, A11)))))
def fX5_isOrder (N : Nat) (A : AH) (y0 : Nat) (x1 : Int) (x2 : Int) (x3 : Int) (x4 : Int) : Option (Int) :=
  if x1 < 1 then
    some 0
  else
    if 4 < x1 then
      some 0
    else
      if x2 < 1 then
        some 0
      else
        if 30 < x2 then
          some 0
        else
          if x3 < (gI A y0 5) then
            some 0
          else
            if x4 < x3 then
              some 0
            else
              if 900 < x4 then
                some 0
              else
                some 1
def fX5_makeOrder (N : Nat) (A : AH) (y0 : Nat) (x1 : Int) (x2 : Int) (x3 : Int) (x4 : Int) (x5 : Int) : Option (Int × AH) :=
  bnd (gI A y0 6) (fun u2 =>
  if 16 ≤ u2 then
    some (u2, A)
  else
    chk (0 ≤ u2 ∧ u2 < 16) (
    obind (fX3_start N A (y0 + 6 + u2.toNat) x1 x2 x3 x4 x5) (fun p7 =>
    bnd (sI p7 y0 6 (wrap ((gI p7 y0 6) + 1))) (fun A11 =>
    some (u2, A11)))))
def fX5_depthAt (N : Nat) (A : AH) (y0 : Nat) (x1 : Int) : Option (Int) :=
  obind (fJ9_floorMod_7cf53 N A x1 12) (fun z3 =>
  chk (0 ≤ z3 ∧ z3 < 12) (
  some (wrap ((gI A (y0 + 1) 3) + (gI A (y0 + 2) z3.toNat)))))
def fX5_isDeepEnough_10 (N : Nat) (A : AH) (y0 : Nat) (y1 : Nat) (x3 : Int) : Nat → Int → Option (Int)
  | 0, _ => none
  | n + 1, x4 =>
    if x3 ≤ x4 then
      some 1
    else
      obind (fX5_depthAt N A y0 x4) (fun z3 =>
      if (gI A y1 2) ≤ z3 then
        bnd (wrap (x4 + 1)) (fun u8 =>
        fX5_isDeepEnough_10 N A y0 y1 x3 n u8)
      else
        some 0)
def fX5_isDeepEnough (N : Nat) (A : AH) (y0 : Nat) (y1 : Nat) (x2 : Int) : Option (Int) :=
  obind (fX3_tripHours N A y1) (fun z2 =>
  bnd (wrap (x2 + z2)) (fun u5 =>
  fX5_isDeepEnough_10 N A y0 y1 u5 N x2))
def fX5_firstOfWindow_27 (N : Nat) (A : AH) (y0 : Nat) (y1 : Nat) (x4 : Int) : Nat → Int → Option (Int)
  | 0, _ => none
  | n + 1, x5 =>
    if x4 < x5 then
      some (-1)
    else
      obind (fX5_isDeepEnough N A y0 y1 x5) (fun z3 =>
      if z3 = 0 then
        bnd (wrap (x5 + 1)) (fun u7 =>
        fX5_firstOfWindow_27 N A y0 y1 x4 n u7)
      else
        some x5)
def fX5_firstOfWindow (N : Nat) (A : AH) (y0 : Nat) (y1 : Nat) (x2 : Int) : Option (Int) :=
  bnd (max x2 (gI A y1 3)) (fun u2 =>
  bnd (min (gI A y1 4) (wrap ((wrap (u2 + 12)) - 1))) (fun u4 =>
  fX5_firstOfWindow_27 N A y0 y1 u4 N u2))
def fX5_hoursOfWindow_7 (N : Nat) (A : AH) (y0 : Nat) (y1 : Nat) : Nat → Int → Int → Option (Int)
  | 0, _, _ => none
  | n + 1, x2, x3 =>
    if (gI A y1 4) < x3 then
      some x2
    else
      obind (fX5_isDeepEnough N A y0 y1 x3) (fun z4 =>
      if z4 = 0 then
        bnd (wrap (x3 + 1)) (fun u8 =>
        fX5_hoursOfWindow_7 N A y0 y1 n x2 u8)
      else
        bnd (wrap (x2 + 1)) (fun u9 =>
        bnd (wrap (x3 + 1)) (fun u10 =>
        fX5_hoursOfWindow_7 N A y0 y1 n u9 u10)))
def fX5_hoursOfWindow (N : Nat) (A : AH) (y0 : Nat) (y1 : Nat) : Option (Int) :=
  bnd (gI A y1 3) (fun u2 =>
  fX5_hoursOfWindow_7 N A y0 y1 N 0 u2)
def fX5_restedFrom (N : Nat) (A : AH) (y0 : Nat) (y1 : Nat) : Option (Int) :=
  obind (fX4_lastTrip N A y1) (fun z2 =>
  if z2 = 0 then
    some 0
  else
    obind (fX2_touchesNight N A z2) (fun z9 =>
    if z9 = 0 then
      some (wrap ((wrap ((gI A z2 5) + (gI A (y0 + 1) 0))) + 0))
    else
      some (wrap ((wrap ((gI A z2 5) + (gI A (y0 + 1) 0))) + (gI A (y0 + 1) 4)))))
def fX5_reasonAgainstTrip (N : Nat) (A : AH) (y0 : Nat) (y1 : Nat) (y2 : Nat) (x3 : Int) : Option (Int) :=
  if (gI A y1 5) = 0 then
    if x3 < (gI A y0 5) then
      some 2
    else
      if x3 < (gI A y1 3) then
        some 2
      else
        if x3 ≤ (gI A y1 4) then
          obind (fX5_isDeepEnough N A y0 y1 x3) (fun z10 =>
          if z10 = 0 then
            some 3
          else
            if (gI A y1 0) ≤ (gI A y2 0) then
              obind (fX4_freeFrom N A y2) (fun z18 =>
              if z18 ≤ x3 then
                obind (fX4_lastGoal N A y2) (fun z23 =>
                obind (fX3_origin N A y1) (fun z27 =>
                if z23 = z27 then
                  obind (fX5_restedFrom N A y0 y2) (fun z32 =>
                  if z32 ≤ x3 then
                    some 0
                  else
                    some 7)
                else
                  some 6))
              else
                some 5)
            else
              some 4)
        else
          some 2
  else
    some 1
def fX5_addTrip (N : Nat) (A : AH) (y0 : Nat) (x1 : Int) (x2 : Int) (x3 : Int) : Option (AH) :=
  obind (fX5_hasOrder N A y0 x1) (fun z2 =>
  if z2 = 0 then
    some A
  else
    obind (fX5_hasPilot N A y0 x2) (fun z7 =>
    if z7 = 0 then
      some A
    else
      chk (0 ≤ x1 ∧ x1 < 16) (
      obind (fX3_setPlanned N A (y0 + 6 + x1.toNat) x2 x3) (fun p14 =>
      chk (0 ≤ x2 ∧ x2 < 6) (
      obind (fX3_goal N p14 (y0 + 6 + x1.toNat)) (fun z21 =>
      obind (fX4_add N p14 (y0 + 22 + x2.toNat) 0 x1 x3 (gI p14 (y0 + 6 + x1.toNat) 8) z21) (fun p25 =>
      some p25)))))))
def fX5_reasonAgainstRelease (N : Nat) (A : AH) (y0 : Nat) (x1 : Int) : Option (Int) :=
  obind (fX5_hasOrder N A y0 x1) (fun z2 =>
  if z2 = 0 then
    some 13
  else
    chk (0 ≤ x1 ∧ x1 < 16) (
    if (gI A (y0 + 6 + x1.toNat) 5) = 1 then
      chk (0 ≤ x1 ∧ x1 < 16) (
      if (gI A y0 5) < (gI A (y0 + 6 + x1.toNat) 7) then
        chk (0 ≤ x1 ∧ x1 < 16) (
        bnd (gI A (y0 + 6 + x1.toNat) 6) (fun u18 =>
        obind (fX5_hasPilot N A y0 u18) (fun z20 =>
        if z20 = 0 then
          some 14
        else
          chk (0 ≤ u18 ∧ u18 < 6) (
          obind (fX4_endsWithTripFor N A (y0 + 22 + u18.toNat) x1) (fun z27 =>
          if z27 = 0 then
            some 14
          else
            some 0)))))
      else
        some 13)
    else
      some 13))
def fX5_removeTrip (N : Nat) (A : AH) (y0 : Nat) (x1 : Int) : Option (AH) :=
  obind (fX5_hasOrder N A y0 x1) (fun z2 =>
  if z2 = 0 then
    some A
  else
    chk (0 ≤ x1 ∧ x1 < 16) (
    obind (fX5_hasPilot N A y0 (gI A (y0 + 6 + x1.toNat) 6)) (fun z10 =>
    if z10 = 0 then
      some A
    else
      chk (0 ≤ x1 ∧ x1 < 16) (
      chk (0 ≤ (gI A (y0 + 6 + x1.toNat) 6) ∧ (gI A (y0 + 6 + x1.toNat) 6) < 6) (
      obind (fX4_removeLast N A (y0 + 22 + (gI A (y0 + 6 + x1.toNat) 6).toNat)) (fun p20 =>
      chk (0 ≤ x1 ∧ x1 < 16) (
      obind (fX3_setOpen N p20 (y0 + 6 + x1.toNat)) (fun p26 =>
      some p26))))))))
def fX5_isRider (N : Nat) (A : AH) (x0 : Int) (x1 : Int) : Option (Int) :=
  if (iAnd (iShr x0 x1) 1) = 0 then
    some 0
  else
    some 1
def fX5_reasonAgainstRun_82 (N : Nat) (A : AH) (y0 : Nat) (y1 : Nat) (x3 : Int) : Nat → Int → Option (Int)
  | 0, _ => none
  | n + 1, x4 =>
    if (gI A y0 7) ≤ x4 then
      some 0
    else
      obind (fX5_isRider N A x3 x4) (fun z4 =>
      if z4 = 0 then
        bnd (wrap (x4 + 1)) (fun u8 =>
        fX5_reasonAgainstRun_82 N A y0 y1 x3 n u8)
      else
        chk (0 ≤ x4 ∧ x4 < 6) (
        obind (fX4_lastGoal N A (y0 + 22 + x4.toNat)) (fun z12 =>
        if z12 = (gI A y1 2) then
          bnd (wrap (x4 + 1)) (fun u17 =>
          fX5_reasonAgainstRun_82 N A y0 y1 x3 n u17)
        else
          some 11)))
def fX5_reasonAgainstRun_38 (N : Nat) (A : AH) (y0 : Nat) (y1 : Nat) (x2 : Int) (x3 : Int) : Nat → Int → Option (Int)
  | 0, _ => none
  | n + 1, x4 =>
    if (gI A y0 7) ≤ x4 then
      fX5_reasonAgainstRun_82 N A y0 y1 x3 N 0
    else
      obind (fX5_isRider N A x3 x4) (fun z4 =>
      if z4 = 0 then
        bnd (wrap (x4 + 1)) (fun u8 =>
        fX5_reasonAgainstRun_38 N A y0 y1 x2 x3 n u8)
      else
        chk (0 ≤ x4 ∧ x4 < 6) (
        obind (fX4_freeFrom N A (y0 + 22 + x4.toNat)) (fun z12 =>
        if z12 ≤ x2 then
          bnd (wrap (x4 + 1)) (fun u16 =>
          fX5_reasonAgainstRun_38 N A y0 y1 x2 x3 n u16)
        else
          some 10)))
def fX5_reasonAgainstRun (N : Nat) (A : AH) (y0 : Nat) (y1 : Nat) (x2 : Int) (x3 : Int) : Option (Int) :=
  if (gI A y0 5) ≤ x2 then
    if (gI A y1 3) ≤ x2 then
      obind (fJ6_bitCount_0f7a4 N A x3) (fun z6 =>
      if z6 ≤ (gI A y1 0) then
        fX5_reasonAgainstRun_38 N A y0 y1 x2 x3 N 0
      else
        some 9)
    else
      some 8
  else
    some 2
def fX5_addRun_30 (N : Nat) (y0 : Nat) (x1 : Int) (x2 : Int) (x3 : Int) (y4 : Nat) (x5 : Int) : Nat → AH → Int → Option (AH)
  | 0, _, _ => none
  | n + 1, A, x6 =>
    if (gI A y0 7) ≤ x6 then
      obind (fX0_goal N A y4) (fun z4 =>
      bnd (sI A y4 2 z4) (fun A7 =>
      bnd (sI A7 y4 3 x5) (fun A8 =>
      bnd (sI A8 y4 1 (wrap ((gI A8 y4 1) + 1))) (fun A10 =>
      some A10))))
    else
      obind (fX5_isRider N A x3 x6) (fun z12 =>
      if z12 = 0 then
        bnd (wrap (x6 + 1)) (fun u16 =>
        fX5_addRun_30 N y0 x1 x2 x3 y4 x5 n A u16)
      else
        chk (0 ≤ x6 ∧ x6 < 6) (
        obind (fX0_goal N A y4) (fun z20 =>
        obind (fX4_add N A (y0 + 22 + x6.toNat) 1 x1 x2 x5 z20) (fun p24 =>
        bnd (sI p24 y4 4 (wrap ((gI p24 y4 4) + 1))) (fun A28 =>
        bnd (wrap (x6 + 1)) (fun u29 =>
        fX5_addRun_30 N y0 x1 x2 x3 y4 x5 n A28 u29))))))
def fX5_addRun (N : Nat) (A : AH) (y0 : Nat) (x1 : Int) (x2 : Int) (x3 : Int) : Option (AH) :=
  obind (fX5_hasBoat N A y0 x1) (fun z2 =>
  if z2 = 0 then
    some A
  else
    chk (0 ≤ x1 ∧ x1 < 3) (
    bnd (wrap (x2 + (gI A (y0 + 1) 1))) (fun u9 =>
    fX5_addRun_30 N y0 x1 x2 x3 (y0 + 28 + x1.toNat) u9 N A 0)))
def fX5_fromWithoutRide (N : Nat) (A : AH) (y0 : Nat) (y1 : Nat) (y2 : Nat) : Option (Int) :=
  if (gI A y2 0) < (gI A y1 0) then
    some 5000
  else
    obind (fX4_lastGoal N A y2) (fun z5 =>
    obind (fX3_origin N A y1) (fun z9 =>
    if z5 = z9 then
      obind (fX4_freeFrom N A y2) (fun z14 =>
      obind (fX5_restedFrom N A y0 y2) (fun z18 =>
      some (max z14 z18)))
    else
      some 5000))
def fX5_fromWithRide (N : Nat) (A : AH) (y0 : Nat) (y1 : Nat) (y2 : Nat) (y3 : Nat) : Option (Int) :=
  if (gI A y2 0) < (gI A y1 0) then
    some 5000
  else
    obind (fX4_lastGoal N A y2) (fun z5 =>
    if z5 = (gI A y3 2) then
      obind (fX0_goal N A y3) (fun z11 =>
      obind (fX3_origin N A y1) (fun z15 =>
      if z11 = z15 then
        obind (fX4_freeFrom N A y2) (fun z21 =>
        bnd (max (gI A y0 5) (max z21 (gI A y3 3))) (fun u25 =>
        obind (fX5_restedFrom N A y0 y2) (fun z28 =>
        some (max (wrap (u25 + (gI A (y0 + 1) 1))) z28))))
      else
        some 5000))
    else
      some 5000)
def fX5_fromAnyWay_33 (N : Nat) (A : AH) (k6 : Int → Int → Option (Int)) (y0 : Nat) (y1 : Nat) (x3 : Int) : Nat → Int → Int → Option (Int)
  | 0, _, _ => none
  | n + 1, x2, x4 =>
    if (gI A y0 8) ≤ x4 then
      bnd (wrap (x3 + 1)) (fun u3 =>
      k6 x2 u3)
    else
      chk (0 ≤ x3 ∧ x3 < 6) (
      chk (0 ≤ x4 ∧ x4 < 3) (
      obind (fX5_fromWithRide N A y0 y1 (y0 + 22 + x3.toNat) (y0 + 28 + x4.toNat)) (fun z9 =>
      bnd (min x2 z9) (fun u12 =>
      bnd (wrap (x4 + 1)) (fun u13 =>
      fX5_fromAnyWay_33 N A k6 y0 y1 x3 n u12 u13)))))
def fX5_fromAnyWay_6 (N : Nat) (A : AH) (y0 : Nat) (y1 : Nat) : Nat → Int → Int → Option (Int)
  | 0, _, _ => none
  | n + 1, x2, x3 =>
    if (gI A y0 7) ≤ x3 then
      some x2
    else
      chk (0 ≤ x3 ∧ x3 < 6) (
      obind (fX5_fromWithoutRide N A y0 y1 (y0 + 22 + x3.toNat)) (fun z6 =>
      bnd (min x2 z6) (fun u9 =>
      fX5_fromAnyWay_33 N A (fun x2 x3 => fX5_fromAnyWay_6 N A y0 y1 n x2 x3) y0 y1 x3 N u9 0)))
def fX5_fromAnyWay (N : Nat) (A : AH) (y0 : Nat) (y1 : Nat) : Option (Int) :=
  fX5_fromAnyWay_6 N A y0 y1 N 5000 0
def fX5_chooseWay_59 (N : Nat) (k47 : AH → Int → Option (Int × AH)) (y0 : Nat) (y1 : Nat) (x2 : Int) (x4 : Int) : Nat → AH → Int → Option (Int × AH)
  | 0, _, _ => none
  | n + 1, A, x5 =>
    if (gI A y0 8) ≤ x5 then
      bnd (wrap (x4 + 1)) (fun u3 =>
      k47 A u3)
    else
      chk (0 ≤ x4 ∧ x4 < 6) (
      chk (0 ≤ x5 ∧ x5 < 3) (
      obind (fX5_fromWithRide N A y0 y1 (y0 + 22 + x4.toNat) (y0 + 28 + x5.toNat)) (fun z9 =>
      if x2 < z9 then
        bnd (wrap (x5 + 1)) (fun u13 =>
        fX5_chooseWay_59 N k47 y0 y1 x2 x4 n A u13)
      else
        obind (fX7_set N A x2 x4 x5) (fun p15 =>
        some (1, p15)))))
def fX5_chooseWay_47 (N : Nat) (y0 : Nat) (y1 : Nat) (x2 : Int) : Nat → AH → Int → Option (Int × AH)
  | 0, _, _ => none
  | n + 1, A, x4 =>
    if (gI A y0 7) ≤ x4 then
      some (0, A)
    else
      fX5_chooseWay_59 N (fun A x4 => fX5_chooseWay_47 N y0 y1 x2 n A x4) y0 y1 x2 x4 N A 0
def fX5_chooseWay_3 (N : Nat) (y0 : Nat) (y1 : Nat) (x2 : Int) : Nat → AH → Int → Option (Int × AH)
  | 0, _, _ => none
  | n + 1, A, x4 =>
    if (gI A y0 7) ≤ x4 then
      fX5_chooseWay_47 N y0 y1 x2 N A 0
    else
      chk (0 ≤ x4 ∧ x4 < 6) (
      obind (fX5_fromWithoutRide N A y0 y1 (y0 + 22 + x4.toNat)) (fun z6 =>
      if x2 < z6 then
        bnd (wrap (x4 + 1)) (fun u10 =>
        fX5_chooseWay_3 N y0 y1 x2 n A u10)
      else
        obind (fX7_set N A x2 x4 (-1)) (fun p12 =>
        some (1, p12))))
def fX5_chooseWay (N : Nat) (A : AH) (y0 : Nat) (y1 : Nat) (x2 : Int) : Option (Int × AH) :=
  fX5_chooseWay_3 N y0 y1 x2 N A 0
def fX5_reasonAgainstServing (N : Nat) (A : AH) (y0 : Nat) (x1 : Int) : Option (Int × AH) :=
  obind (fX5_hasOrder N A y0 x1) (fun z2 =>
  if z2 = 0 then
    some (1, A)
  else
    chk (0 ≤ x1 ∧ x1 < 16) (
    if (gI A (y0 + 6 + x1.toNat) 5) = 0 then
      chk (0 ≤ x1 ∧ x1 < 16) (
      obind (fX5_fromAnyWay N A y0 (y0 + 6 + x1.toNat)) (fun z14 =>
      obind (fX5_firstOfWindow N A y0 (y0 + 6 + x1.toNat) (max (gI A y0 5) z14)) (fun z18 =>
      if z18 = (-1) then
        some (12, A)
      else
        obind (fX5_chooseWay N A y0 (y0 + 6 + x1.toNat) z18) (fun p23 =>
        if p23.1 = 0 then
          some (12, p23.2)
        else
          some (0, p23.2)))))
    else
      some (1, A)))
def fX5_take_33 (N : Nat) (A : AH) (y0 : Nat) (x1 : Int) : Option (AH) :=
  obind (fX5_addTrip N A y0 x1 (gI A 347 1) (gI A 347 0)) (fun p4 =>
  some p4)
def fX5_take (N : Nat) (A : AH) (y0 : Nat) (x1 : Int) : Option (AH) :=
  if (gI A 347 2) = (-1) then
    fX5_take_33 N A y0 x1
  else
    obind (fX5_addRun N A y0 (gI A 347 2) (wrap ((gI A 347 0) - (gI A (y0 + 1) 1))) (iShl 1 (gI A 347 1))) (fun p8 =>
    fX5_take_33 N p8 y0 x1)
def fX5_lineUp_33 (N : Nat) (k4 : AH → Int → Int → Option (Int × AH)) (y0 : Nat) (y1 : Nat) (x2 : Int) (x3 : Int) : Nat → AH → Int → Option (Int × AH)
  | 0, _, _ => none
  | n + 1, A, x4 =>
    if x4 ≤ 0 then
      chk (0 ≤ x4 ∧ x4 < (jal (kd y1) : Int)) (
      bnd (sI A y1 x4.toNat x3) (fun A3 =>
      bnd (wrap (x2 + 1)) (fun u4 =>
      bnd (wrap (x3 + 1)) (fun u5 =>
      k4 A3 u4 u5))))
    else
      chk (0 ≤ x3 ∧ x3 < 16) (
      chk (0 ≤ (wrap (x4 - 1)) ∧ (wrap (x4 - 1)) < (jal (kd y1) : Int)) (
      chk (0 ≤ (gI A y1 (wrap (x4 - 1)).toNat) ∧ (gI A y1 (wrap (x4 - 1)).toNat) < 16) (
      obind (fX3_isMoreUrgentThan N A (y0 + 6 + x3.toNat) (y0 + 6 + (gI A y1 (wrap (x4 - 1)).toNat).toNat)) (fun z13 =>
      if z13 = 0 then
        chk (0 ≤ x4 ∧ x4 < (jal (kd y1) : Int)) (
        bnd (sI A y1 x4.toNat x3) (fun A18 =>
        bnd (wrap (x2 + 1)) (fun u19 =>
        bnd (wrap (x3 + 1)) (fun u20 =>
        k4 A18 u19 u20))))
      else
        chk (0 ≤ (wrap (x4 - 1)) ∧ (wrap (x4 - 1)) < (jal (kd y1) : Int)) (
        chk (0 ≤ x4 ∧ x4 < (jal (kd y1) : Int)) (
        bnd (sI A y1 x4.toNat (gI A y1 (wrap (x4 - 1)).toNat)) (fun A24 =>
        bnd (wrap (x4 + (-1))) (fun u25 =>
        fX5_lineUp_33 N k4 y0 y1 x2 x3 n A24 u25))))))))
def fX5_lineUp_4 (N : Nat) (y0 : Nat) (y1 : Nat) : Nat → AH → Int → Int → Option (Int × AH)
  | 0, _, _, _ => none
  | n + 1, A, x2, x3 =>
    if (gI A y0 6) ≤ x3 then
      some (x2, A)
    else
      if (jal (kd y1) : Int) ≤ x2 then
        some (x2, A)
      else
        chk (0 ≤ x3 ∧ x3 < 16) (
        if (gI A (y0 + 6 + x3.toNat) 5) = 0 then
          fX5_lineUp_33 N (fun A x2 x3 => fX5_lineUp_4 N y0 y1 n A x2 x3) y0 y1 x2 x3 N A x2
        else
          bnd (wrap (x3 + 1)) (fun u8 =>
          fX5_lineUp_4 N y0 y1 n A x2 u8))
def fX5_lineUp (N : Nat) (A : AH) (y0 : Nat) (y1 : Nat) : Option (Int × AH) :=
  fX5_lineUp_4 N y0 y1 N A 0 0
def fX5_firstEnded_4 (N : Nat) (A : AH) (y0 : Nat) : Nat → Nat → Int → Option (Nat)
  | 0, _, _ => none
  | n + 1, y1, x2 =>
    if (gI A y0 6) ≤ x2 then
      some y1
    else
      chk (0 ≤ x2 ∧ x2 < 16) (
      if (gI A (y0 + 6 + x2.toNat) 5) = 1 then
        chk (0 ≤ x2 ∧ x2 < 16) (
        if (gI A y0 5) < (gI A (y0 + 6 + x2.toNat) 8) then
          bnd (wrap (x2 + 1)) (fun u13 =>
          fX5_firstEnded_4 N A y0 n y1 u13)
        else
          if y1 = 0 then
            chk (0 ≤ x2 ∧ x2 < 16) (
            bnd (wrap (x2 + 1)) (fun u17 =>
            fX5_firstEnded_4 N A y0 n (y0 + 6 + x2.toNat) u17))
          else
            chk (0 ≤ x2 ∧ x2 < 16) (
            if (gI A y1 8) ≤ (gI A (y0 + 6 + x2.toNat) 8) then
              bnd (wrap (x2 + 1)) (fun u23 =>
              fX5_firstEnded_4 N A y0 n y1 u23)
            else
              chk (0 ≤ x2 ∧ x2 < 16) (
              bnd (wrap (x2 + 1)) (fun u26 =>
              fX5_firstEnded_4 N A y0 n (y0 + 6 + x2.toNat) u26))))
      else
        bnd (wrap (x2 + 1)) (fun u7 =>
        fX5_firstEnded_4 N A y0 n y1 u7))
def fX5_firstEnded (N : Nat) (A : AH) (y0 : Nat) : Option (Nat) :=
  fX5_firstEnded_4 N A y0 N 0 0
def fX5_finish (N : Nat) (A : AH) (y0 : Nat) (y1 : Nat) : Option (AH) :=
  bnd (sI A y1 5 2) (fun A1 =>
  obind (fX5_hasPilot N A1 y0 (gI A1 y1 6)) (fun z4 =>
  if z4 = 0 then
    some A1
  else
    chk (0 ≤ (gI A1 y1 6) ∧ (gI A1 y1 6) < 6) (
    obind (fX4_credit N A1 (y0 + 22 + (gI A1 y1 6).toNat) (gI A1 y1 0) (gI A1 (y0 + 1) 2)) (fun p14 =>
    some p14))))
def fX5_advance_44 (N : Nat) (y0 : Nat) : Nat → AH → Int → Int → Option (Int × AH)
  | 0, _, _, _ => none
  | n + 1, A, x2, x3 =>
    if (gI A y0 6) ≤ x3 then
      some (x2, A)
    else
      chk (0 ≤ x3 ∧ x3 < 16) (
      if (gI A (y0 + 6 + x3.toNat) 5) = 0 then
        chk (0 ≤ x3 ∧ x3 < 16) (
        if (gI A y0 5) ≤ (gI A (y0 + 6 + x3.toNat) 4) then
          bnd (wrap (x3 + 1)) (fun u13 =>
          fX5_advance_44 N y0 n A x2 u13)
        else
          chk (0 ≤ x3 ∧ x3 < 16) (
          bnd (sI A (y0 + 6 + x3.toNat) 5 3) (fun A16 =>
          bnd (wrap (x2 + 1)) (fun u17 =>
          bnd (wrap (x3 + 1)) (fun u18 =>
          fX5_advance_44 N y0 n A16 u17 u18)))))
      else
        bnd (wrap (x3 + 1)) (fun u7 =>
        fX5_advance_44 N y0 n A x2 u7))
def fX5_advance_12 (N : Nat) (y0 : Nat) : Nat → AH → Int → Option (Int × AH)
  | 0, _, _ => none
  | n + 1, A, x2 =>
    if (gI A y0 6) ≤ x2 then
      fX5_advance_44 N y0 N A 0 0
    else
      obind (fX5_firstEnded N A y0) (fun z4 =>
      if z4 = 0 then
        bnd (wrap (x2 + 1)) (fun u8 =>
        fX5_advance_12 N y0 n A u8)
      else
        obind (fX5_finish N A y0 z4) (fun p10 =>
        bnd (wrap (x2 + 1)) (fun u13 =>
        fX5_advance_12 N y0 n p10 u13)))
def fX5_advance (N : Nat) (A : AH) (y0 : Nat) (x1 : Int) : Option (Int × AH) :=
  bnd (sI A y0 5 (wrap ((gI A y0 5) + x1))) (fun A2 =>
  fX5_advance_12 N y0 N A2 0)
def fX5_ordersIn_4 (N : Nat) (A : AH) (y0 : Nat) (x1 : Int) : Nat → Int → Int → Option (Int)
  | 0, _, _ => none
  | n + 1, x2, x3 =>
    if (gI A y0 6) ≤ x3 then
      some x2
    else
      chk (0 ≤ x3 ∧ x3 < 16) (
      if (gI A (y0 + 6 + x3.toNat) 5) = x1 then
        bnd (wrap (x2 + 1)) (fun u8 =>
        bnd (wrap (x3 + 1)) (fun u9 =>
        fX5_ordersIn_4 N A y0 x1 n u8 u9))
      else
        bnd (wrap (x3 + 1)) (fun u7 =>
        fX5_ordersIn_4 N A y0 x1 n x2 u7))
def fX5_ordersIn (N : Nat) (A : AH) (y0 : Nat) (x1 : Int) : Option (Int) :=
  fX5_ordersIn_4 N A y0 x1 N 0 0
def fX5_tripsDone_4 (N : Nat) (A : AH) (y0 : Nat) (x1 : Int) : Nat → Int → Int → Option (Int)
  | 0, _, _ => none
  | n + 1, x2, x3 =>
    if (gI A y0 6) ≤ x3 then
      some x2
    else
      chk (0 ≤ x3 ∧ x3 < 16) (
      if (gI A (y0 + 6 + x3.toNat) 5) = 2 then
        chk (0 ≤ x3 ∧ x3 < 16) (
        if (gI A (y0 + 6 + x3.toNat) 6) = x1 then
          bnd (wrap (x2 + 1)) (fun u13 =>
          bnd (wrap (x3 + 1)) (fun u14 =>
          fX5_tripsDone_4 N A y0 x1 n u13 u14))
        else
          bnd (wrap (x3 + 1)) (fun u12 =>
          fX5_tripsDone_4 N A y0 x1 n x2 u12))
      else
        bnd (wrap (x3 + 1)) (fun u7 =>
        fX5_tripsDone_4 N A y0 x1 n x2 u7))
def fX5_tripsDone (N : Nat) (A : AH) (y0 : Nat) (x1 : Int) : Option (Int) :=
  fX5_tripsDone_4 N A y0 x1 N 0 0
def fX5_allRuns_4 (N : Nat) (A : AH) (y0 : Nat) : Nat → Int → Int → Option (Int)
  | 0, _, _ => none
  | n + 1, x1, x2 =>
    if (gI A y0 8) ≤ x2 then
      some x1
    else
      chk (0 ≤ x2 ∧ x2 < 3) (
      bnd (wrap (x1 + (gI A (y0 + 28 + x2.toNat) 1))) (fun u6 =>
      bnd (wrap (x2 + 1)) (fun u7 =>
      fX5_allRuns_4 N A y0 n u6 u7)))
def fX5_allRuns (N : Nat) (A : AH) (y0 : Nat) : Option (Int) :=
  fX5_allRuns_4 N A y0 N 0 0
def fX5_allRides_4 (N : Nat) (A : AH) (y0 : Nat) : Nat → Int → Int → Option (Int)
  | 0, _, _ => none
  | n + 1, x1, x2 =>
    if (gI A y0 8) ≤ x2 then
      some x1
    else
      chk (0 ≤ x2 ∧ x2 < 3) (
      bnd (wrap (x1 + (gI A (y0 + 28 + x2.toNat) 4))) (fun u6 =>
      bnd (wrap (x2 + 1)) (fun u7 =>
      fX5_allRides_4 N A y0 n u6 u7)))
def fX5_allRides (N : Nat) (A : AH) (y0 : Nat) : Option (Int) :=
  fX5_allRides_4 N A y0 N 0 0
def fX5_allTripHours_4 (N : Nat) (A : AH) (y0 : Nat) : Nat → Int → Int → Option (Int)
  | 0, _, _ => none
  | n + 1, x1, x2 =>
    if (gI A y0 6) ≤ x2 then
      some x1
    else
      chk (0 ≤ x2 ∧ x2 < 16) (
      obind (fX3_hasTrip N A (y0 + 6 + x2.toNat)) (fun z6 =>
      if z6 = 0 then
        bnd (wrap (x2 + 1)) (fun u10 =>
        fX5_allTripHours_4 N A y0 n x1 u10)
      else
        chk (0 ≤ x2 ∧ x2 < 16) (
        obind (fX3_tripHours N A (y0 + 6 + x2.toNat)) (fun z14 =>
        bnd (wrap (x1 + z14)) (fun u17 =>
        bnd (wrap (x2 + 1)) (fun u18 =>
        fX5_allTripHours_4 N A y0 n u17 u18))))))
def fX5_allTripHours (N : Nat) (A : AH) (y0 : Nat) : Option (Int) :=
  fX5_allTripHours_4 N A y0 N 0 0
def fX5_allWaits_4 (N : Nat) (A : AH) (y0 : Nat) : Nat → Int → Int → Option (Int)
  | 0, _, _ => none
  | n + 1, x1, x2 =>
    if (gI A y0 6) ≤ x2 then
      some x1
    else
      chk (0 ≤ x2 ∧ x2 < 16) (
      obind (fX3_hasTrip N A (y0 + 6 + x2.toNat)) (fun z6 =>
      if z6 = 0 then
        bnd (wrap (x2 + 1)) (fun u10 =>
        fX5_allWaits_4 N A y0 n x1 u10)
      else
        chk (0 ≤ x2 ∧ x2 < 16) (
        chk (0 ≤ x2 ∧ x2 < 16) (
        bnd (wrap (x1 + (wrap ((gI A (y0 + 6 + x2.toNat) 7) - (gI A (y0 + 6 + x2.toNat) 3))))) (fun u17 =>
        bnd (wrap (x2 + 1)) (fun u18 =>
        fX5_allWaits_4 N A y0 n u17 u18))))))
def fX5_allWaits (N : Nat) (A : AH) (y0 : Nat) : Option (Int) :=
  fX5_allWaits_4 N A y0 N 0 0
def fX5_allPutOffs_4 (N : Nat) (A : AH) (y0 : Nat) : Nat → Int → Int → Option (Int)
  | 0, _, _ => none
  | n + 1, x1, x2 =>
    if (gI A y0 6) ≤ x2 then
      some x1
    else
      chk (0 ≤ x2 ∧ x2 < 16) (
      bnd (wrap (x1 + (gI A (y0 + 6 + x2.toNat) 9))) (fun u6 =>
      bnd (wrap (x2 + 1)) (fun u7 =>
      fX5_allPutOffs_4 N A y0 n u6 u7)))
def fX5_allPutOffs (N : Nat) (A : AH) (y0 : Nat) : Option (Int) :=
  fX5_allPutOffs_4 N A y0 N 0 0
def fX5_pilotsUnderWay_4 (N : Nat) (A : AH) (y0 : Nat) : Nat → Int → Int → Option (Int)
  | 0, _, _ => none
  | n + 1, x1, x2 =>
    if (gI A y0 7) ≤ x2 then
      some x1
    else
      chk (0 ≤ x2 ∧ x2 < 6) (
      obind (fX4_placeAt N A (y0 + 22 + x2.toNat) (gI A y0 5)) (fun z7 =>
      if z7 = (-1) then
        bnd (wrap (x1 + 1)) (fun u12 =>
        bnd (wrap (x2 + 1)) (fun u13 =>
        fX5_pilotsUnderWay_4 N A y0 n u12 u13))
      else
        bnd (wrap (x2 + 1)) (fun u11 =>
        fX5_pilotsUnderWay_4 N A y0 n x1 u11)))
def fX5_pilotsUnderWay (N : Nat) (A : AH) (y0 : Nat) : Option (Int) :=
  fX5_pilotsUnderWay_4 N A y0 N 0 0
