/-! the functions -/
def fJ9_floorMod_7cf53 (N : Nat) (A : AH) (x0 : Int) (x1 : Int) : Option (Int) :=
  chk (0 < x1) (
  bnd (Int.tmod x0 x1) (fun u2 =>
  if 0 ≤ (iXor x0 x1) then
    some u2
  else
    if u2 = 0 then
      some u2
    else
      some (wrap (u2 + x1))))
def fJ6_bitCount_0f7a4 (N : Nat) (A : AH) (x0 : Int) : Option (Int) :=
  bnd (wrap (x0 - (iAnd (iUshr x0 1) 1431655765))) (fun u1 =>
  bnd (wrap ((iAnd u1 858993459) + (iAnd (iUshr u1 2) 858993459))) (fun u2 =>
  bnd (iAnd (wrap (u2 + (iUshr u2 4))) 252645135) (fun u3 =>
  bnd (wrap (u3 + (iUshr u3 8))) (fun u4 =>
  bnd (wrap (u4 + (iUshr u4 16))) (fun u5 =>
  some (iAnd u5 63))))))
