/-! the functions -/
def fX0_start (N : Nat) (A : AH) (y0 : Nat) (x1 : Int) : Option (AH) :=
  bnd (sI A y0 0 x1) (fun A1 =>
  bnd (sI A1 y0 1 0) (fun A2 =>
  bnd (sI A2 y0 2 0) (fun A3 =>
  bnd (sI A3 y0 3 0) (fun A4 =>
  bnd (sI A4 y0 4 0) (fun A5 =>
  some A5)))))
def fX0_copyFrom (N : Nat) (A : AH) (y0 : Nat) (y1 : Nat) : Option (AH) :=
  bnd (sI A y0 0 (gI A y1 0)) (fun A2 =>
  bnd (sI A2 y0 1 (gI A2 y1 1)) (fun A4 =>
  bnd (sI A4 y0 2 (gI A4 y1 2)) (fun A6 =>
  bnd (sI A6 y0 3 (gI A6 y1 3)) (fun A8 =>
  bnd (sI A8 y0 4 (gI A8 y1 4)) (fun A10 =>
  some A10)))))
def fX0_goal (N : Nat) (A : AH) (y0 : Nat) : Option (Int) :=
  if (gI A y0 2) = 0 then
    some 1
  else
    some 0
def fX3_copyFrom (N : Nat) (A : AH) (y0 : Nat) (y1 : Nat) : Option (AH) :=
  bnd (sI A y0 0 (gI A y1 0)) (fun A2 =>
  bnd (sI A2 y0 1 (gI A2 y1 1)) (fun A4 =>
  bnd (sI A4 y0 2 (gI A4 y1 2)) (fun A6 =>
  bnd (sI A6 y0 3 (gI A6 y1 3)) (fun A8 =>
  bnd (sI A8 y0 4 (gI A8 y1 4)) (fun A10 =>
  bnd (sI A10 y0 5 (gI A10 y1 5)) (fun A12 =>
  bnd (sI A12 y0 6 (gI A12 y1 6)) (fun A14 =>
  bnd (sI A14 y0 7 (gI A14 y1 7)) (fun A16 =>
  bnd (sI A16 y0 8 (gI A16 y1 8)) (fun A18 =>
  bnd (sI A18 y0 9 (gI A18 y1 9)) (fun A20 =>
  some A20))))))))))
def fX2_init_24 (N : Nat) (A : AH) (y0 : Nat) (x2 : Int) (x3 : Int) (x4 : Int) (x5 : Int) (x6 : Int) (ys0 : Nat) (xs1 : Int) : Option (AH) :=
  bnd (sI A ys0 1 xs1) (fun A1 =>
  bnd (sI A1 y0 2 x2) (fun A2 =>
  bnd (sI A2 y0 3 x3) (fun A3 =>
  bnd (sI A3 y0 4 x4) (fun A4 =>
  bnd (sI A4 y0 5 x5) (fun A5 =>
  bnd (sI A5 y0 6 x6) (fun A6 =>
  some A6))))))
def fX2_init (N : Nat) (A : AH) (y0 : Nat) (y1 : Nat) (x2 : Int) (x3 : Int) (x4 : Int) (x5 : Int) (x6 : Int) : Option (AH) :=
  bnd (sP A y0 0 y1) (fun A1 =>
  if y1 = 0 then
    fX2_init_24 N A1 y0 x2 x3 x4 x5 x6 y0 0
  else
    fX2_init_24 N A1 y0 x2 x3 x4 x5 x6 y0 (wrap ((gI A1 y1 1) + 1)))
def fX2_touchesNight_5 (N : Nat) (A : AH) (y0 : Nat) : Nat → Int → Option (Int)
  | 0, _ => none
  | n + 1, x1 =>
    if (gI A y0 5) ≤ x1 then
      some 0
    else
      if 6 ≤ (Int.tmod x1 24) then
        bnd (wrap (x1 + 1)) (fun u4 =>
        fX2_touchesNight_5 N A y0 n u4)
      else
        some 1
def fX2_touchesNight (N : Nat) (A : AH) (y0 : Nat) : Option (Int) :=
  bnd (gI A y0 4) (fun u2 =>
  fX2_touchesNight_5 N A y0 N u2)
def fX3_setOpen (N : Nat) (A : AH) (y0 : Nat) : Option (AH) :=
  bnd (sI A y0 5 0) (fun A1 =>
  bnd (sI A1 y0 6 (-1)) (fun A2 =>
  bnd (sI A2 y0 7 (-1)) (fun A3 =>
  bnd (sI A3 y0 8 (-1)) (fun A4 =>
  some A4))))
def fX3_start (N : Nat) (A : AH) (y0 : Nat) (x1 : Int) (x2 : Int) (x3 : Int) (x4 : Int) (x5 : Int) : Option (AH) :=
  bnd (sI A y0 0 x1) (fun A1 =>
  bnd (sI A1 y0 1 x2) (fun A2 =>
  bnd (sI A2 y0 2 x3) (fun A3 =>
  bnd (sI A3 y0 3 x4) (fun A4 =>
  bnd (sI A4 y0 4 x5) (fun A5 =>
  bnd (sI A5 y0 9 0) (fun A6 =>
  obind (fX3_setOpen N A6 y0) (fun p8 =>
  some p8)))))))
def fX3_tripHours (N : Nat) (A : AH) (y0 : Nat) : Option (Int) :=
  some (wrap ((gI A y0 0) + 2))
def fX3_setPlanned (N : Nat) (A : AH) (y0 : Nat) (x1 : Int) (x2 : Int) : Option (AH) :=
  bnd (sI A y0 5 1) (fun A1 =>
  bnd (sI A1 y0 6 x1) (fun A2 =>
  bnd (sI A2 y0 7 x2) (fun A3 =>
  obind (fX3_tripHours N A3 y0) (fun z5 =>
  bnd (sI A3 y0 8 (wrap (x2 + z5))) (fun A8 =>
  some A8)))))
def fX3_origin (N : Nat) (A : AH) (y0 : Nat) : Option (Int) :=
  if (gI A y0 1) = 1 then
    some 0
  else
    some 1
def fX3_goal (N : Nat) (A : AH) (y0 : Nat) : Option (Int) :=
  if (gI A y0 1) = 1 then
    some 1
  else
    some 0
def fX3_hasTrip (N : Nat) (A : AH) (y0 : Nat) : Option (Int) :=
  if (gI A y0 5) = 1 then
    some 1
  else
    if (gI A y0 5) = 2 then
      some 1
    else
      some 0
def fX3_reasonAgainstDelay (N : Nat) (A : AH) (y0 : Nat) : Option (Int) :=
  if (gI A y0 5) = 0 then
    if (gI A y0 9) < 2 then
      some 0
    else
      some 15
  else
    some 1
def fX3_delay (N : Nat) (A : AH) (y0 : Nat) (x1 : Int) : Option (AH) :=
  bnd (sI A y0 4 (min 900 (wrap ((gI A y0 4) + x1)))) (fun A2 =>
  bnd (sI A2 y0 9 (wrap ((gI A2 y0 9) + 1))) (fun A4 =>
  some A4))
def fX3_isMoreUrgentThan (N : Nat) (A : AH) (y0 : Nat) (y1 : Nat) : Option (Int) :=
  if (gI A y0 4) = (gI A y1 4) then
    if (gI A y1 3) ≤ (gI A y0 3) then
      some 0
    else
      some 1
  else
    if (gI A y1 4) ≤ (gI A y0 4) then
      some 0
    else
      some 1
def fX7_set (N : Nat) (A : AH) (x1 : Int) (x2 : Int) (x3 : Int) : Option (AH) :=
  bnd (sI A 347 0 x1) (fun A1 =>
  bnd (sI A1 347 1 x2) (fun A2 =>
  bnd (sI A2 347 2 x3) (fun A3 =>
  some A3)))
