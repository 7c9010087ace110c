/-! the functions -/
def fX6_append (N : Nat) (A : AH) (x1 : Int) : Option (AH) :=
  if 60 ≤ (gI A 345 1) then
    some A
  else
    chk (0 ≤ (gI A 345 1) ∧ (gI A 345 1) < 60) (
    bnd (sI A 346 (gI A 345 1).toNat x1) (fun A5 =>
    bnd (sI A5 345 1 (wrap ((gI A5 345 1) + 1))) (fun A7 =>
    some A7)))
def fX6_clear (N : Nat) (A : AH) : Option (AH) :=
  bnd (sI A 345 1 0) (fun A1 =>
  some A1)
def fX6_rewind (N : Nat) (A : AH) : Option (AH) :=
  bnd (sI A 345 2 0) (fun A1 =>
  some A1)
def fX6_peek (N : Nat) (A : AH) : Option (Int) :=
  if (gI A 345 2) < 0 then
    some 0
  else
    if (gI A 345 1) ≤ (gI A 345 2) then
      some 0
    else
      chk (0 ≤ (gI A 345 2) ∧ (gI A 345 2) < 60) (
      chk (0 ≤ (gI A 346 (gI A 345 2).toNat) ∧ (gI A 346 (gI A 345 2).toNat) < 65536) (
      some (gI A 346 (gI A 345 2).toNat)))
def fX6_accept (N : Nat) (A : AH) (x1 : Int) : Option (Int × AH) :=
  obind (fX6_peek N A ) (fun z2 =>
  if z2 = x1 then
    bnd (sI A 345 2 (wrap ((gI A 345 2) + 1))) (fun A7 =>
    some (1, A7))
  else
    some (0, A))
def fX6_isDigit (N : Nat) (A : AH) (x0 : Int) : Option (Int) :=
  if x0 < 48 then
    some 0
  else
    if 57 < x0 then
      some 0
    else
      some 1
def fX6_readNumber_4 (N : Nat) : Nat → AH → Int → Int → Option (Int × AH)
  | 0, _, _, _ => none
  | n + 1, A, x1, x2 =>
    if 3 ≤ x2 then
      some (x1, A)
    else
      obind (fX6_peek N A ) (fun z3 =>
      obind (fX6_isDigit N A z3) (fun z7 =>
      if z7 = 0 then
        some (x1, A)
      else
        obind (fX6_peek N A ) (fun z12 =>
        bnd (wrap ((wrap ((max x1 0) * 10)) + (wrap (z12 - 48)))) (fun u15 =>
        bnd (sI A 345 2 (wrap ((gI A 345 2) + 1))) (fun A17 =>
        bnd (wrap (x2 + 1)) (fun u18 =>
        fX6_readNumber_4 N n A17 u15 u18))))))
def fX6_readNumber (N : Nat) (A : AH) : Option (Int × AH) :=
  fX6_readNumber_4 N N A (-1) 0
def fX6_readOrder_28 (N : Nat) (A : AH) : Option (Int × AH) :=
  obind (fX6_readNumber N A ) (fun p2 =>
  bnd (sI p2.2 345 5 p2.1) (fun A5 =>
  if (gI A5 345 5) = (-1) then
    some (0, A5)
  else
    obind (fX6_accept N A5 64) (fun p9 =>
    if p9.1 = 0 then
      some (0, p9.2)
    else
      obind (fX6_readNumber N p9.2 ) (fun p14 =>
      bnd (sI p14.2 345 6 p14.1) (fun A17 =>
      if (gI A17 345 6) = (-1) then
        some (0, A17)
      else
        obind (fX6_accept N A17 45) (fun p21 =>
        if p21.1 = 0 then
          some (0, p21.2)
        else
          obind (fX6_readNumber N p21.2 ) (fun p26 =>
          bnd (sI p26.2 345 7 p26.1) (fun A29 =>
          if (gI A29 345 7) = (-1) then
            some (0, A29)
          else
            some (1, A29)))))))))
def fX6_readOrder (N : Nat) (A : AH) : Option (Int × AH) :=
  obind (fX6_peek N A ) (fun z2 =>
  bnd (sI A 345 3 z2) (fun A5 =>
  obind (fX6_accept N A5 105) (fun p7 =>
  if p7.1 = 0 then
    obind (fX6_accept N p7.2 111) (fun p12 =>
    if p12.1 = 0 then
      some (0, p12.2)
    else
      fX6_readOrder_28 N p12.2 )
  else
    fX6_readOrder_28 N p7.2 )))
def fX6_readItem_60 (N : Nat) (A : AH) (x1 : Int) : Option (Int × AH) :=
  bnd (sI A 345 2 (wrap ((gI A 345 2) + 1))) (fun A2 =>
  chk (0 ≤ x1 ∧ x1 < 65536) (
  bnd (sI A2 345 3 x1) (fun A3 =>
  obind (fX6_readNumber N A3 ) (fun p6 =>
  bnd (sI p6.2 345 5 p6.1) (fun A9 =>
  if x1 = 100 then
    if (gI A9 345 5) = (-1) then
      some (0, A9)
    else
      obind (fX6_accept N A9 43) (fun p14 =>
      if p14.1 = 0 then
        some (0, p14.2)
      else
        obind (fX6_readNumber N p14.2 ) (fun p19 =>
        bnd (sI p19.2 345 6 p19.1) (fun A22 =>
        if (gI A22 345 6) = (-1) then
          some (0, A22)
        else
          some (1, A22))))
  else
    if (gI A9 345 5) = (-1) then
      some (0, A9)
    else
      some (1, A9))))))
def fX6_readItem_40 (N : Nat) (A : AH) (x1 : Int) : Option (Int × AH) :=
  if x1 = 115 then
    fX6_readItem_60 N A x1
  else
    if x1 = 100 then
      fX6_readItem_60 N A x1
    else
      if x1 = 119 then
        fX6_readItem_60 N A x1
      else
        some (0, A)
def fX6_readItem (N : Nat) (A : AH) : Option (Int × AH) :=
  obind (fX6_peek N A ) (fun z2 =>
  if z2 < 49 then
    fX6_readItem_40 N A z2
  else
    if 52 < z2 then
      fX6_readItem_40 N A z2
    else
      bnd (sI A 345 2 (wrap ((gI A 345 2) + 1))) (fun A8 =>
      bnd (sI A8 345 4 (wrap (z2 - 48))) (fun A9 =>
      obind (fX6_readOrder N A9 ) (fun p11 =>
      some (p11.1, p11.2)))))
def fX6_countItems_6 (N : Nat) : Nat → AH → Int → Option (Int × AH)
  | 0, _, _ => none
  | n + 1, A, x1 =>
    if 60 < x1 then
      some (0, A)
    else
      obind (fX6_readItem N A ) (fun p3 =>
      if p3.1 = 0 then
        some (0, p3.2)
      else
        obind (fX6_accept N p3.2 59) (fun p8 =>
        if p8.1 = 0 then
          if (gI p8.2 345 2) = (gI p8.2 345 1) then
            some (x1, p8.2)
          else
            some (0, p8.2)
        else
          bnd (wrap (x1 + 1)) (fun u12 =>
          fX6_countItems_6 N n p8.2 u12)))
def fX6_countItems (N : Nat) (A : AH) : Option (Int × AH) :=
  obind (fX6_rewind N A ) (fun p2 =>
  fX6_countItems_6 N N p2 1)
def fX6_nextItem (N : Nat) (A : AH) : Option (AH) :=
  obind (fX6_accept N A 59) (fun p2 =>
  obind (fX6_readItem N p2.2 ) (fun p6 =>
  some p6.2))
