/-! the functions -/
def fX4_copyFrom (N : Nat) (A : AH) (y0 : Nat) (y1 : Nat) : Option (AH) :=
  bnd (sI A y0 0 (gI A y1 0)) (fun A2 =>
  bnd (sI A2 y0 1 (gI A2 y1 1)) (fun A4 =>
  bnd (sP A4 y0 2 (gP A4 y1 2)) (fun A6 =>
  some A6)))
def fX4_start (N : Nat) (A : AH) (y0 : Nat) (x1 : Int) : Option (AH) :=
  bnd (sI A y0 0 x1) (fun A1 =>
  bnd (sI A1 y0 1 0) (fun A2 =>
  bnd (sP A2 y0 2 0) (fun A3 =>
  some A3)))
def fX4_add (N : Nat) (A : AH) (y0 : Nat) (x1 : Int) (x2 : Int) (x3 : Int) (x4 : Int) (x5 : Int) : Option (AH) :=
  bnd (hN A) (fun q2 =>
  bnd (nC A 2 7) (fun A1 =>
  obind (fX2_init N A1 q2 (gP A1 y0 2) x1 x2 x3 x4 x5) (fun p5 =>
  bnd (sP p5 y0 2 q2) (fun A8 =>
  some A8))))
def fX4_removeLast (N : Nat) (A : AH) (y0 : Nat) : Option (AH) :=
  if (gP A y0 2) = 0 then
    some A
  else
    bnd (sP A y0 2 (gP A (gP A y0 2) 0)) (fun A5 =>
    some A5)
def fX4_credit (N : Nat) (A : AH) (y0 : Nat) (x1 : Int) (x2 : Int) : Option (AH) :=
  if x1 = (gI A y0 0) then
    bnd (sI A y0 1 (wrap ((gI A y0 1) + 1))) (fun A4 =>
    if (gI A4 y0 1) < x2 then
      some A4
    else
      if 4 ≤ (gI A4 y0 0) then
        some A4
      else
        bnd (sI A4 y0 0 (wrap ((gI A4 y0 0) + 1))) (fun A10 =>
        bnd (sI A10 y0 1 0) (fun A11 =>
        some A11)))
  else
    some A
def fX4_legs (N : Nat) (A : AH) (y0 : Nat) : Option (Int) :=
  if (gP A y0 2) = 0 then
    some 0
  else
    some (wrap ((gI A (gP A y0 2) 1) + 1))
def fX4_freeFrom (N : Nat) (A : AH) (y0 : Nat) : Option (Int) :=
  if (gP A y0 2) = 0 then
    some 0
  else
    some (gI A (gP A y0 2) 5)
def fX4_lastGoal (N : Nat) (A : AH) (y0 : Nat) : Option (Int) :=
  if (gP A y0 2) = 0 then
    some 0
  else
    some (gI A (gP A y0 2) 6)
def fX4_legAt_5 (N : Nat) (A : AH) (x1 : Int) : Nat → Nat → Option (Nat)
  | 0, _ => none
  | n + 1, y2 =>
    if y2 = 0 then
      some 0
    else
      if (gI A y2 1) = x1 then
        some y2
      else
        fX4_legAt_5 N A x1 n (gP A y2 0)
def fX4_legAt (N : Nat) (A : AH) (y0 : Nat) (x1 : Int) : Option (Nat) :=
  fX4_legAt_5 N A x1 N (gP A y0 2)
def fX4_lastTrip_5 (N : Nat) (A : AH) : Nat → Nat → Option (Nat)
  | 0, _ => none
  | n + 1, y1 =>
    if y1 = 0 then
      some 0
    else
      if (gI A y1 2) = 0 then
        some y1
      else
        fX4_lastTrip_5 N A n (gP A y1 0)
def fX4_lastTrip (N : Nat) (A : AH) (y0 : Nat) : Option (Nat) :=
  fX4_lastTrip_5 N A N (gP A y0 2)
def fX4_endsWithTripFor (N : Nat) (A : AH) (y0 : Nat) (x1 : Int) : Option (Int) :=
  if (gP A y0 2) = 0 then
    some 0
  else
    if (gI A (gP A y0 2) 2) = 0 then
      if (gI A (gP A y0 2) 3) = x1 then
        some 1
      else
        some 0
    else
      some 0
def fX4_tripHours_7 (N : Nat) (A : AH) (x1 : Int) : Nat → Int → Nat → Option (Int)
  | 0, _, _ => none
  | n + 1, x2, y3 =>
    if y3 = 0 then
      some x2
    else
      if (gI A y3 2) = 0 then
        if x1 ≤ (gI A y3 4) then
          fX4_tripHours_7 N A x1 n x2 (gP A y3 0)
        else
          bnd (wrap (x2 + (wrap ((min (gI A y3 5) x1) - (gI A y3 4))))) (fun u10 =>
          fX4_tripHours_7 N A x1 n u10 (gP A y3 0))
      else
        fX4_tripHours_7 N A x1 n x2 (gP A y3 0)
def fX4_tripHours (N : Nat) (A : AH) (y0 : Nat) (x1 : Int) : Option (Int) :=
  fX4_tripHours_7 N A x1 N 0 (gP A y0 2)
def fX4_placeAt_5 (N : Nat) (A : AH) (x1 : Int) : Nat → Nat → Option (Int)
  | 0, _ => none
  | n + 1, y2 =>
    if y2 = 0 then
      some 0
    else
      if x1 < (gI A y2 5) then
        if x1 < (gI A y2 4) then
          fX4_placeAt_5 N A x1 n (gP A y2 0)
        else
          some (-1)
      else
        some (gI A y2 6)
def fX4_placeAt (N : Nat) (A : AH) (y0 : Nat) (x1 : Int) : Option (Int) :=
  fX4_placeAt_5 N A x1 N (gP A y0 2)
def fX4_placeHourByHour_46 (N : Nat) (k11 : Int → Nat → Int → Option (Int)) (A : AH) (y0 : Nat) (x1 : Int) (x2 : Int) (y3 : Nat) (x4 : Int) : Option (Int) :=
  if y3 = 0 then
    bnd (wrap (x4 + 1)) (fun u2 =>
    k11 x2 y3 u2)
  else
    if (gI A y3 4) = x4 then
      bnd (wrap (x4 + 1)) (fun u6 =>
      k11 (-1) y3 u6)
    else
      bnd (wrap (x4 + 1)) (fun u5 =>
      k11 x2 y3 u5)
def fX4_placeHourByHour_11 (N : Nat) (A : AH) (y0 : Nat) (x1 : Int) : Nat → Int → Nat → Int → Option (Int)
  | 0, _, _, _ => none
  | n + 1, x2, y3, x4 =>
    if x1 < x4 then
      some x2
    else
      if y3 = 0 then
        fX4_placeHourByHour_46 N (fun x2 y3 x4 => fX4_placeHourByHour_11 N A y0 x1 n x2 y3 x4) A y0 x1 x2 y3 x4
      else
        if (gI A y3 5) = x4 then
          bnd (gI A y3 6) (fun u6 =>
          obind (fX4_legAt N A y0 (wrap ((gI A y3 1) + 1))) (fun z9 =>
          fX4_placeHourByHour_46 N (fun x2 y3 x4 => fX4_placeHourByHour_11 N A y0 x1 n x2 y3 x4) A y0 x1 u6 z9 x4))
        else
          fX4_placeHourByHour_46 N (fun x2 y3 x4 => fX4_placeHourByHour_11 N A y0 x1 n x2 y3 x4) A y0 x1 x2 y3 x4
def fX4_placeHourByHour (N : Nat) (A : AH) (y0 : Nat) (x1 : Int) : Option (Int) :=
  obind (fX4_legAt N A y0 0) (fun z2 =>
  fX4_placeHourByHour_11 N A y0 x1 N 0 z2 0)
