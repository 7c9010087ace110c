/-! the functions -/
def fX1_prepare (N : Nat) (A : AH) (y1 : Nat) : Option (AH) :=
  chk (0 ≤ (gI A 64 1) ∧ (gI A 64 1) < 9) (
  obind (fX5_copyFrom N A (66 + 31 * (gI A 64 1).toNat) y1) (fun p5 =>
  some p5))
def fX1_commit_20 (N : Nat) (A : AH) (xs1 : Int) : Option (AH) :=
  bnd (sI A 64 1 xs1) (fun A1 =>
  bnd (sI A1 64 2 (min 8 (wrap ((gI A1 64 2) + 1)))) (fun A3 =>
  some A3))
def fX1_commit (N : Nat) (A : AH) : Option (AH) :=
  if (gI A 64 1) = 8 then
    fX1_commit_20 N A 0
  else
    fX1_commit_20 N A (wrap ((gI A 64 1) + 1))
def fX1_add (N : Nat) (A : AH) (y1 : Nat) : Option (AH) :=
  obind (fX1_prepare N A y1) (fun p2 =>
  obind (fX1_commit N p2 ) (fun p6 =>
  some p6))
def fX1_takeBack (N : Nat) (A : AH) (y1 : Nat) : Option (AH) :=
  chk (0 ≤ (gI A 64 1) ∧ (gI A 64 1) < 9) (
  obind (fX5_copyFrom N A y1 (66 + 31 * (gI A 64 1).toNat)) (fun p5 =>
  some p5))
def fX1_stepBack_19 (N : Nat) (A : AH) (y1 : Nat) (xs1 : Int) : Option (AH) :=
  bnd (sI A 64 1 xs1) (fun A1 =>
  bnd (sI A1 64 2 (wrap ((gI A1 64 2) - 1))) (fun A3 =>
  obind (fX1_takeBack N A3 y1) (fun p5 =>
  some p5)))
def fX1_stepBack (N : Nat) (A : AH) (y1 : Nat) : Option (AH) :=
  if (gI A 64 1) = 0 then
    fX1_stepBack_19 N A y1 8
  else
    fX1_stepBack_19 N A y1 (wrap ((gI A 64 1) - 1))
