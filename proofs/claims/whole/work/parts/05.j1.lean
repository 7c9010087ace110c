/-! ints as mathematical integers; the abstract heap -/
def inR (z : Int) : Prop := -2147483648 ≤ z ∧ z ≤ 2147483647
def wrap (z : Int) : Int := (z + 2147483648) % 4294967296 - 2147483648
theorem wrap_inR (z : Int) : inR (wrap z) := by unfold inR wrap; omega
theorem wrap_eq {z : Int} (h1 : -2147483648 ≤ z) (h2 : z ≤ 2147483647) : wrap z = z := by unfold wrap; omega
theorem wrap_of {z : Int} (h : inR z) : wrap z = z := wrap_eq h.1 h.2
theorem wrap_bmod (z : Int) : wrap z = z.bmod (2 ^ 32) := by
  rw [Int.bmod_def]
  unfold wrap
  have e : ((2 ^ 32 : Nat) : Int) = 4294967296 := by decide
  rw [e]
  split <;> omega
abbrev vI (z : Int) : Value := .int (Int32.ofInt z)
theorem i32_toInt (z : Int) : (Int32.ofInt z).toInt = wrap z := by rw [Int32.toInt_ofInt, wrap_bmod]
theorem i32_toInt' {z : Int} (h : inR z) : (Int32.ofInt z).toInt = z := by rw [i32_toInt, wrap_of h]
theorem i32_of (x : Int32) : Int32.ofInt x.toInt = x := Int32.ofInt_toInt x
theorem i32_inR (x : Int32) : inR x.toInt := by
  have h := wrap_inR x.toInt
  rw [← i32_toInt, i32_of] at h
  exact h
theorem i32_wrap (z : Int) : Int32.ofInt (wrap z) = Int32.ofInt z := by
  apply Int32.toInt_inj.mp
  rw [i32_toInt, i32_toInt, wrap_of (wrap_inR z)]
theorem i32_eq {x : Int32} {z : Int} (h : x.toInt = wrap z) : Int32.ofInt (wrap z) = x := by
  apply Int32.toInt_inj.mp
  rw [i32_toInt, wrap_of (wrap_inR z), h]
theorem wrap_add (x y : Int) : wrap (wrap x + wrap y) = wrap (x + y) := by unfold wrap; omega
theorem wrap_sub (x y : Int) : wrap (wrap x - wrap y) = wrap (x - y) := by unfold wrap; omega
theorem wrap_mul (x y : Int) : wrap (wrap x * wrap y) = wrap (x * y) := by
  rw [wrap_bmod, wrap_bmod, wrap_bmod, wrap_bmod, Int.mul_bmod_bmod, Int.bmod_mul_bmod]
theorem i32_add (x y : Int) : Int32.ofInt x + Int32.ofInt y = Int32.ofInt (wrap (x + y)) := by
  refine (i32_eq ?_).symm
  rw [Int32.toInt_add, ← wrap_bmod, i32_toInt, i32_toInt, wrap_add]
theorem i32_sub (x y : Int) : Int32.ofInt x - Int32.ofInt y = Int32.ofInt (wrap (x - y)) := by
  refine (i32_eq ?_).symm
  rw [Int32.toInt_sub, ← wrap_bmod, i32_toInt, i32_toInt, wrap_sub]
theorem i32_mul (x y : Int) : Int32.ofInt x * Int32.ofInt y = Int32.ofInt (wrap (x * y)) := by
  refine (i32_eq ?_).symm
  rw [Int32.toInt_mul, ← wrap_bmod, i32_toInt, i32_toInt, wrap_mul]
theorem tmod_inR {x : Int} (y : Int) (hx : inR x) : inR (x.tmod y) := by
  have h1 := Int.natAbs_tmod x y
  have h2 : x.natAbs % y.natAbs ≤ x.natAbs := Nat.mod_le _ _
  have h3 : 0 ≤ x → 0 ≤ x.tmod y := fun h => Int.tmod_nonneg y h
  have h4 : x ≤ 0 → x.tmod y ≤ 0 := fun h => by
    have := Int.tmod_nonneg y (a := -x) (by omega)
    rw [Int.neg_tmod] at this
    omega
  unfold inR at hx ⊢
  omega
theorem i32_rem {x y : Int} (hx : inR x) (hy : inR y) (h0 : 0 < y) : Int32.ofInt x - Int32.ofInt x / Int32.ofInt y * Int32.ofInt y = Int32.ofInt (x.tmod y) := by
  apply Int32.toInt_inj.mp
  have hne : Int32.ofInt y ≠ -1 := fun e => by
    have h := congrArg Int32.toInt e
    rw [i32_toInt' hy] at h
    have h1 : (-1 : Int32).toInt = -1 := by decide
    omega
  have e : x.tdiv y * y = x - x.tmod y := by
    have h := Int.tmod_add_mul_tdiv x y
    rw [Int.mul_comm] at h
    omega
  rw [Int32.toInt_sub, ← wrap_bmod, Int32.toInt_mul, ← wrap_bmod, Int32.toInt_div_of_ne_right _ _ hne, i32_toInt' hx, i32_toInt' hy, e, i32_toInt' (tmod_inR y hx)]
  have hm := tmod_inR y hx
  unfold inR at hx hm
  unfold wrap
  omega
theorem i32_lt {x y : Int} (hx : inR x) (hy : inR y) : Int32.ofInt x < Int32.ofInt y ↔ x < y := by rw [Int32.lt_iff_toInt_lt, i32_toInt' hx, i32_toInt' hy]
theorem i32_le {x y : Int} (hx : inR x) (hy : inR y) : Int32.ofInt x ≤ Int32.ofInt y ↔ x ≤ y := by rw [Int32.le_iff_toInt_le, i32_toInt' hx, i32_toInt' hy]
theorem i32_eq_iff {x y : Int} (hx : inR x) (hy : inR y) : Int32.ofInt x = Int32.ofInt y ↔ x = y := by
  rw [← Int32.toInt_inj, i32_toInt' hx, i32_toInt' hy]
theorem i32_zero : (0 : Int32) = Int32.ofInt 0 := by decide
theorem inR_lit (z : Int) (h : (decide (-2147483648 ≤ z) && decide (z ≤ 2147483647)) = true) : inR z := by simpa [inR] using h
theorem inR_0 : inR 0 := inR_lit 0 rfl
/-- bit operations through Int32 -/
def iAnd (x y : Int) : Int := (Int32.ofInt x &&& Int32.ofInt y).toInt
def iOr (x y : Int) : Int := (Int32.ofInt x ||| Int32.ofInt y).toInt
def iShl (x y : Int) : Int := (Int32.ofInt x <<< (Int32.ofInt y &&& 31)).toInt
def iShr (x y : Int) : Int := (Int32.ofInt x >>> (Int32.ofInt y &&& 31)).toInt
theorem iAnd_inR (x y : Int) : inR (iAnd x y) := i32_inR _
theorem iOr_inR (x y : Int) : inR (iOr x y) := i32_inR _
theorem iShl_inR (x y : Int) : inR (iShl x y) := i32_inR _
theorem iShr_inR (x y : Int) : inR (iShr x y) := i32_inR _
/-- indices -/
theorem i32_idx {z : Int} (h : inR z) (h0 : 0 ≤ z) : (Int32.ofInt z).toNatClampNeg = z.toNat := by
  show (Int32.ofInt z).toInt.toNat = z.toNat
  rw [i32_toInt' h]
theorem i32_in {z : Int} {n : Nat} (h : inR z) (h0 : 0 ≤ z) (h1 : z < (n : Int)) : vp_in (Int32.ofInt z) n := by
  unfold vp_in
  rw [i32_idx h h0, i32_zero, i32_lt h inR_0]
  omega
/-! the abstract heap: how many cells and slots, ints, references, kinds of new cells, the double -/
abbrev AH : Type := (Nat × Nat) × (Nat → Nat → Int) × (Nat → Nat → Nat) × (Nat → Nat) × UInt64
def hN (A : AH) : Nat := A.1.1
def hSl (A : AH) : Nat := A.1.2
def gI (A : AH) (a k : Nat) : Int := A.2.1 a k
def gP (A : AH) (a k : Nat) : Nat := A.2.2.1 a k
def gK (A : AH) (a : Nat) : Nat := A.2.2.2.1 a
def hDb (A : AH) : UInt64 := A.2.2.2.2
def sI (A : AH) (a k : Nat) (v : Int) : AH := (A.1, (fun b j => if b = a ∧ j = k then v else A.2.1 b j), A.2.2)
def sP (A : AH) (a k q : Nat) : AH := (A.1, A.2.1, (fun b j => if b = a ∧ j = k then q else A.2.2.1 b j), A.2.2.2)
def sD (A : AH) (x : UInt64) : AH := (A.1, A.2.1, A.2.2.1, A.2.2.2.1, x)
/-- a new cell of a kind with so many slots, all of it blank -/
def nC (A : AH) (kd n : Nat) : AH := ((hN A + 1, hSl A + n), (fun b j => if b = hN A then 0 else A.2.1 b j), (fun b j => if b = hN A then 0 else A.2.2.1 b j), (fun b => if b = hN A then kd else A.2.2.2.1 b), A.2.2.2.2)
/-- a new exception -/
abbrev nX (A : AH) : AH := nC A 99 6
theorem gI_sI (A : AH) (a k : Nat) (v : Int) (b j : Nat) : gI (sI A a k v) b j = if b = a ∧ j = k then v else gI A b j := rfl
theorem gI_sI_self (A : AH) (a k : Nat) (v : Int) : gI (sI A a k v) a k = v := by simp [gI_sI]
theorem gI_sI_ne {A : AH} {a k : Nat} {v : Int} {b j : Nat} (h : ¬ (b = a ∧ j = k)) : gI (sI A a k v) b j = gI A b j := by rw [gI_sI, if_neg h]
theorem gP_sI (A : AH) (a k : Nat) (v : Int) (b j : Nat) : gP (sI A a k v) b j = gP A b j := rfl
theorem gK_sI (A : AH) (a k : Nat) (v : Int) (b : Nat) : gK (sI A a k v) b = gK A b := rfl
theorem hN_sI (A : AH) (a k : Nat) (v : Int) : hN (sI A a k v) = hN A := rfl
theorem hSl_sI (A : AH) (a k : Nat) (v : Int) : hSl (sI A a k v) = hSl A := rfl
theorem hDb_sI (A : AH) (a k : Nat) (v : Int) : hDb (sI A a k v) = hDb A := rfl
theorem gP_sP (A : AH) (a k q b j : Nat) : gP (sP A a k q) b j = if b = a ∧ j = k then q else gP A b j := rfl
theorem gP_sP_self (A : AH) (a k q : Nat) : gP (sP A a k q) a k = q := by simp [gP_sP]
theorem gP_sP_ne {A : AH} {a k q b j : Nat} (h : ¬ (b = a ∧ j = k)) : gP (sP A a k q) b j = gP A b j := by rw [gP_sP, if_neg h]
theorem gI_sP (A : AH) (a k q b j : Nat) : gI (sP A a k q) b j = gI A b j := rfl
theorem gK_sP (A : AH) (a k q b : Nat) : gK (sP A a k q) b = gK A b := rfl
theorem hN_sP (A : AH) (a k q : Nat) : hN (sP A a k q) = hN A := rfl
theorem hSl_sP (A : AH) (a k q : Nat) : hSl (sP A a k q) = hSl A := rfl
theorem hDb_sP (A : AH) (a k q : Nat) : hDb (sP A a k q) = hDb A := rfl
theorem gI_sD (A : AH) (x : UInt64) (b j : Nat) : gI (sD A x) b j = gI A b j := rfl
theorem gP_sD (A : AH) (x : UInt64) (b j : Nat) : gP (sD A x) b j = gP A b j := rfl
theorem gK_sD (A : AH) (x : UInt64) (b : Nat) : gK (sD A x) b = gK A b := rfl
theorem hN_sD (A : AH) (x : UInt64) : hN (sD A x) = hN A := rfl
theorem hSl_sD (A : AH) (x : UInt64) : hSl (sD A x) = hSl A := rfl
theorem hDb_sD (A : AH) (x : UInt64) : hDb (sD A x) = x := rfl
theorem gI_nC (A : AH) (kd n b j : Nat) : gI (nC A kd n) b j = if b = hN A then 0 else gI A b j := rfl
theorem gP_nC (A : AH) (kd n b j : Nat) : gP (nC A kd n) b j = if b = hN A then 0 else gP A b j := rfl
theorem gK_nC (A : AH) (kd n b : Nat) : gK (nC A kd n) b = if b = hN A then kd else gK A b := rfl
theorem hN_nC (A : AH) (kd n : Nat) : hN (nC A kd n) = hN A + 1 := rfl
theorem hSl_nC (A : AH) (kd n : Nat) : hSl (nC A kd n) = hSl A + n := rfl
theorem hDb_nC (A : AH) (kd n : Nat) : hDb (nC A kd n) = hDb A := rfl
/-! kinds by address: 0 Boat 1 History 2 Leg 3 Order 4 Pilot 5 Roster 6 Text 7 Way 8 PilotRoster 9 PilotRosterModel; from 10 on arrays -/
def kRos (j : Nat) : Nat := if j < 6 then (if j = 0 then 5 else j + 10) else if j < 22 then 3 else if j < 28 then 4 else 0
def kd (a : Nat) : Nat :=
  if a = 0 then 99 else if a = 1 then 8 else if a < 64 then kRos ((a - 2) % 31) else if a = 64 then 1 else if a = 65 then 16 else if a < 345 then kRos ((a - 66) % 31)
  else if a = 345 then 6 else if a = 346 then 17 else if a = 347 then 7 else if a = 348 then 18 else if a = 349 then 9 else if a < 374 then a - 330 else if a = 374 then 60 else if a = 375 then 61 else 99
def jD : Nat := 376
def kdA (A : AH) (a : Nat) : Nat := if a < 376 then kd a else gK A a
/-- how many fields an object's kind has -/
def jfn (K : Nat) : Nat := [5, 3, 7, 10, 3, 9, 8, 3, 10, 46].getD K 0
/-- is a field a reference -/
def jfr (K k : Nat) : Bool :=
  if K = 1 then k == 0 else if K = 2 then k == 0 else if K = 4 then k == 2 else if K = 5 then decide (k < 5) else if K = 6 then k == 0 else if K = 8 then decide (k < 6)
  else if K = 9 then decide (1 ≤ k ∧ k ≤ 18 ∨ 31 ≤ k ∧ k ≤ 33 ∨ 38 ≤ k ∧ k ≤ 40) else false
/-- an array's length -/
def jal (K : Nat) : Nat :=
  if K < 20 then [5, 12, 16, 6, 3, 9, 60, 16].getD (K - 11) 0
  else if K < 44 then [5, 12, 16, 16, 16, 16, 16, 16, 16, 16, 16, 6, 6, 6, 3, 3, 3, 2703, 60, 30, 120, 23168, 2896, 2896].getD (K - 20) 0 else 1
/-- what an array holds: 0 int, 1 char, 2 long, 3 double, 4 Order, 5 Pilot, 6 Boat, 7 Roster -/
def jek (K : Nat) : Nat := if K = 17 then 1 else if K = 38 then 1 else if K = 39 then 1 else if K = 60 then 2 else if K = 61 then 3 else if K = 13 then 4 else if K = 14 then 5 else if K = 15 then 6 else if K = 16 then 7 else 0
/-- where the references lead that never change; 0: none of them -/
def lay (a k : Nat) : Nat :=
  let K := kd a
  if K = 8 then [2, 33, 64, 345, 347, 348].getD k 0
  else if K = 1 then (if k = 0 then 65 else 0)
  else if K = 5 then (if k < 5 then a + 1 + k else 0)
  else if K = 6 then (if k = 0 then 346 else 0)
  else if K = 9 then (if 1 ≤ k ∧ k ≤ 18 then 349 + k else if 31 ≤ k ∧ k ≤ 33 then 337 + k else if 38 ≤ k ∧ k ≤ 40 then 333 + k else 0)
  else if K = 13 then (if k < 16 then a + 3 + k else 0)
  else if K = 14 then (if k < 6 then a + 18 + k else 0)
  else if K = 15 then (if k < 3 then a + 23 + k else 0)
  else if K = 16 then (if k < 9 then 66 + 31 * k else 0)
  else 0
def LAY (A : AH) : Prop := ∀ a k, a < 376 → lay a k ≠ 0 → gP A a k = lay a k
def isLeg (A : AH) (q : Nat) : Prop := 376 ≤ q ∧ q < hN A ∧ gK A q = 2
def LV (A : AH) (q : Nat) : Prop := q = 0 ∨ isLeg A q
def WFA (A : AH) : Prop := 376 ≤ hN A ∧ LAY A ∧ (∀ a k, inR (gI A a k)) ∧ ∀ a k, (kd a = 4 ∧ k = 2 ∧ a < 376 ∨ 376 ≤ a ∧ k = 0) → LV A (gP A a k)
def XT (A B : AH) : Prop := hN A ≤ hN B ∧ hSl A ≤ hSl B ∧ ∀ a, a < hN A → gK B a = gK A a
theorem XT.rf (A : AH) : XT A A := ⟨Nat.le_refl _, Nat.le_refl _, fun _ _ => rfl⟩
theorem XT.tr {A B C : AH} (h1 : XT A B) (h2 : XT B C) : XT A C := ⟨Nat.le_trans h1.1 h2.1, Nat.le_trans h1.2.1 h2.2.1, fun a h => (h2.2.2 a (Nat.lt_of_lt_of_le h h1.1)).trans (h1.2.2 a h)⟩
theorem XT_sI (A : AH) (a k : Nat) (v : Int) : XT A (sI A a k v) := XT.rf A
theorem XT_sP (A : AH) (a k q : Nat) : XT A (sP A a k q) := XT.rf A
theorem XT_sD (A : AH) (x : UInt64) : XT A (sD A x) := XT.rf A
theorem XT_nC (A : AH) (kd n : Nat) : XT A (nC A kd n) := ⟨Nat.le_succ _, Nat.le_add_right _ _, fun a h => by rw [gK_nC, if_neg (Nat.ne_of_lt h)]⟩
theorem isLeg.xt {A B : AH} {q : Nat} (h : isLeg A q) (x : XT A B) : isLeg B q := ⟨h.1, Nat.lt_of_lt_of_le h.2.1 x.1, by rw [x.2.2 q h.2.1]; exact h.2.2⟩
theorem LV.xt {A B : AH} {q : Nat} (h : LV A q) (x : XT A B) : LV B q := h.imp id (fun h => h.xt x)
theorem WFA_sI {A : AH} (w : WFA A) (a k : Nat) {v : Int} (hv : inR v) : WFA (sI A a k v) :=
  ⟨w.1, w.2.1, fun b j => by rw [gI_sI]; split; exact hv; exact w.2.2.1 b j, w.2.2.2⟩
theorem WFA_sD {A : AH} (w : WFA A) (x : UInt64) : WFA (sD A x) := w
theorem WFA_nC {A : AH} (w : WFA A) (K n : Nat) : WFA (nC A K n) := by
  have h376 := w.1
  refine ⟨Nat.le_succ_of_le w.1, fun a k h h2 => ?_, fun b j => ?_, fun a k h => ?_⟩
  · rw [gP_nC, if_neg (by omega)]
    exact w.2.1 a k h h2
  · rw [gI_nC]
    split
    · exact inR_0
    · exact w.2.2.1 b j
  · rw [gP_nC]
    split
    · exact Or.inl rfl
    · exact (w.2.2.2 a k h).xt (XT_nC A K n)
/-- a reference that may change is set -/
theorem WFA_sP {A : AH} (w : WFA A) {a k q : Nat} (h : kd a = 4 ∧ k = 2 ∧ a < 376 ∨ 376 ≤ a ∧ k = 0) (hq : LV A q) : WFA (sP A a k q) := by
  refine ⟨w.1, fun b j hb hl => ?_, w.2.2.1, fun b j hb => ?_⟩
  · rw [gP_sP, if_neg]
    · exact w.2.1 b j hb hl
    · rintro ⟨rfl, rfl⟩
      rcases h with ⟨h1, -, -⟩ | ⟨h1, -⟩
      · apply hl
        unfold lay
        simp [h1]
      · omega
  · show LV A (gP (sP A a k q) b j)
    rw [gP_sP]
    split
    · exact hq
    · exact w.2.2.2 b j hb
