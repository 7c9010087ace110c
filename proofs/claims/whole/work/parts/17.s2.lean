/-! the model's row: M j i is the place i of its array j (0 rules 1 heights 2 size 3 outward 4 draught 5 earliest 6 latest 7 state 8 pilotOf 9 begin 10 putOffs 11 licence 12 tripsIn 13 tripsDone 14 room 15 runsOf 16 freeFrom 17 runs), M 18: now, pilots, boats, orders, runMany -/
abbrev MR : Type := Nat → Nat → Int
def mvA (A : AH) : MR := fun j i => if j < 18 then gI A (350 + j) i else if j = 18 ∧ i < 5 then gI A 349 (19 + i) else 0
abbrev tripM (M : MR) (o : Nat) : Prop := M 7 o = 1 ∨ M 7 o = 2
/-- all, how many, the first, the sum of f over k places from x on -/
def allF (f : Int → Bool) : Nat → Int → Bool
  | 0, _ => true
  | k + 1, x => f x && allF f k (x + 1)
def cntF (f : Int → Bool) : Nat → Int → Int
  | 0, _ => 0
  | k + 1, x => (if f x then 1 else 0) + cntF f k (x + 1)
def sumF (f : Int → Int) : Nat → Int → Int
  | 0, _ => 0
  | k + 1, x => f x + sumF f k (x + 1)
def fstF (f : Int → Bool) : Nat → Int → Int
  | 0, _ => -1
  | k + 1, x => if f x then x else fstF f k (x + 1)
def b2i (b : Bool) : Int := if b then 1 else 0
theorem allF_iff {f : Int → Bool} : ∀ {k : Nat} {x : Int}, allF f k x = true ↔ ∀ h, x ≤ h → h < x + k → f h = true
  | 0, x => by simp [allF]; intro h h1 h2; omega
  | k + 1, x => by
    rw [allF, Bool.and_eq_true, allF_iff]
    constructor
    · rintro ⟨h1, h2⟩ h h3 h4
      by_cases e : h = x
      · rw [e]; exact h1
      · exact h2 h (by omega) (by omega)
    · intro h
      exact ⟨h x (by omega) (by omega), fun t h1 h2 => h t (by omega) (by omega)⟩
def depM (M : MR) (h : Int) : Int := M 0 3 + M 1 (h % 12).toNat
def deepM (M : MR) (o : Nat) (h : Int) : Bool := allF (fun t => decide (M 4 o ≤ depM M t)) (M 2 o + 2).toNat h
/-- what an order's numbers are -/
def MO (M : MR) (o : Nat) : Prop := (1 ≤ M 2 o ∧ M 2 o ≤ 4) ∧ (M 3 o = 0 ∨ M 3 o = 1) ∧ (1 ≤ M 4 o ∧ M 4 o ≤ 30) ∧ (0 ≤ M 5 o ∧ M 5 o ≤ M 6 o ∧ M 6 o ≤ 900) ∧ (0 ≤ M 7 o ∧ M 7 o ≤ 3) ∧ (0 ≤ M 10 o ∧ M 10 o ≤ 2) ∧ (tripM M o → (0 ≤ M 8 o ∧ M 8 o < M 18 1) ∧ 0 ≤ M 9 o ∧ M 9 o ≤ 900)
def MRu (M : MR) : Prop := (0 ≤ M 0 0 ∧ M 0 0 ≤ 24) ∧ (1 ≤ M 0 1 ∧ M 0 1 ≤ 6) ∧ (1 ≤ M 0 2 ∧ M 0 2 ≤ 9) ∧ (1 ≤ M 0 3 ∧ M 0 3 ≤ 30) ∧ (0 ≤ M 0 4 ∧ M 0 4 ≤ 12) ∧ ∀ k, k < 12 → 0 ≤ M 1 k ∧ M 1 k ≤ 9
def MC (M : MR) : Prop := (0 ≤ M 18 0 ∧ M 18 0 ≤ 999) ∧ (0 ≤ M 18 1 ∧ M 18 1 ≤ 6) ∧ (0 ≤ M 18 2 ∧ M 18 2 ≤ 3) ∧ (0 ≤ M 18 3 ∧ M 18 3 ≤ 16) ∧ (0 ≤ M 18 4 ∧ M 18 4 ≤ 2703)
/-- the program's order at y is the model's o -/
def PO (A : AH) (y : Nat) (M : MR) (o : Nat) : Prop := gI A y 0 = M 2 o ∧ gI A y 1 = M 3 o ∧ gI A y 2 = M 4 o ∧ gI A y 3 = M 5 o ∧ gI A y 4 = M 6 o ∧ gI A y 5 = M 7 o ∧ gI A y 9 = M 10 o ∧ gI A y 6 = (if tripM M o then M 8 o else -1) ∧ gI A y 7 = (if tripM M o then M 9 o else -1) ∧ gI A y 8 = (if tripM M o then M 9 o + M 2 o + 2 else -1)
/-- rules and tides -/
def PT (A : AH) (r : Nat) (M : MR) : Prop := (∀ k, k < 5 → gI A (r + 1) k = M 0 k) ∧ ∀ k, k < 12 → gI A (r + 2) k = M 1 k
theorem MRu.dep {M : MR} (h : MRu M) (t : Int) : 1 ≤ depM M t ∧ depM M t ≤ 39 := by
  obtain ⟨-, -, -, h4, -, h6⟩ := h
  have := h6 (t % 12).toNat (by omega)
  unfold depM
  omega
theorem msb_ofInt {x : Int} (h0 : 0 ≤ x) (hx : inR x) : (Int32.ofInt x).toBitVec.msb = false := by
  rw [BitVec.msb_eq_toInt]
  have : (Int32.ofInt x).toBitVec.toInt = x := i32_toInt' hx
  rw [this]
  simp
  exact h0
theorem iXor_nn {x y : Int} (hx : 0 ≤ x) (hx2 : inR x) (hy : 0 ≤ y) (hy2 : inR y) : 0 ≤ iXor x y := by
  have h : (Int32.ofInt x ^^^ Int32.ofInt y).toBitVec.msb = false := by
    show ((Int32.ofInt x).toBitVec ^^^ (Int32.ofInt y).toBitVec).msb = false
    rw [BitVec.msb_xor, msb_ofInt hx hx2, msb_ofInt hy hy2]
    rfl
  rw [BitVec.msb_eq_toInt, decide_eq_false_iff_not] at h
  have e : iXor x y = (Int32.ofInt x ^^^ Int32.ofInt y).toBitVec.toInt := rfl
  rw [e]
  exact Int.not_lt.mp h
theorem X5_depthAt {N : Nat} {A : AH} {r : Nat} {M : MR} (hT : PT A r M) (hM : MRu M) {h : Int} (h0 : 0 ≤ h) (hr : inR h) : fX5_depthAt N A r h = some (depM M h) := by
  have e : Int.tmod h 12 = h % 12 := Int.tmod_eq_emod_of_nonneg h0
  unfold fX5_depthAt fJ9_floorMod_7cf53
  rw [chk_pos _ (by decide), bnd_eq, if_pos (iXor_nn h0 hr (by decide) (inR_lit _ rfl)), obind_some, chk_pos _ (by rw [e]; omega), e, hT.1 3 (by decide), hT.2 _ (by omega)]
  have := hM.dep h
  rw [wrap_eq]
  · rfl
  · unfold depM at this; omega
  · unfold depM at this; omega
theorem X5_isDeep10 {N : Nat} {A : AH} {r y o : Nat} {M : MR} (hT : PT A r M) (hM : MRu M) (hO : gI A y 2 = M 4 o) {e : Int} (he : e ≤ 100000) : ∀ {k n : Nat} {x : Int}, x + k = e → 0 ≤ x → k < n → fX5_isDeepEnough_10 N A r y e n x = some (b2i (allF (fun t => decide (M 4 o ≤ depM M t)) k x))
  | 0, n, x, h, h0, hn => by
    match n, hn with
    | n + 1, _ =>
      rw [fX5_isDeepEnough_10, if_pos (by omega)]
      rfl
  | k + 1, n, x, h, h0, hn => by
    match n, hn with
    | n + 1, hn =>
      rw [fX5_isDeepEnough_10, if_neg (by omega), X5_depthAt hT hM h0 ⟨by omega, by omega⟩, obind_some, hO, allF]
      by_cases hd : M 4 o ≤ depM M x
      · rw [if_pos hd, bnd_eq, wrap_eq (by omega) (by omega), X5_isDeep10 (k := k) hT hM hO he (by omega) (by omega) (by omega)]
        simp [hd]
      · rw [if_neg hd]
        simp [hd, b2i]
theorem X5_isDeep {N : Nat} {A : AH} {r y o : Nat} {M : MR} (hN : 10 ≤ N) (hT : PT A r M) (hM : MRu M) (hP : PO A y M o) (hO : MO M o) {h : Int} (h0 : 0 ≤ h) (h1 : h ≤ 10000) : fX5_isDeepEnough N A r y h = some (b2i (deepM M o h)) := by
  obtain ⟨o1, -⟩ := hO
  unfold fX5_isDeepEnough fX3_tripHours
  rw [obind_some, hP.1, bnd_eq, wrap_eq (z := M 2 o + 2) (by omega) (by omega), wrap_eq (by omega) (by omega)]
  exact X5_isDeep10 hT hM hP.2.2.1 (by omega) (by omega) h0 (by omega)
