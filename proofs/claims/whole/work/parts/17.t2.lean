/-! what the reference's calls change: its row, and what they leave -/
def updM (M : MR) (a b : Nat) (v : Int) : MR := fun j i => if j = a ∧ i = b then v else M j i
theorem updM_self (M : MR) (a b : Nat) (v : Int) : updM M a b v a b = v := by simp [updM]
theorem updM_ne {M : MR} {a b : Nat} {v : Int} {j i : Nat} (h : ¬ (j = a ∧ i = b)) : updM M a b v j i = M j i := by simp only [updM]; rw [if_neg h]
theorem mvA_sIr (A : AH) {a j i : Nat} {v : Int} (ha : a = 350 + j) (hj : j < 18) : mvA (sI A a i v) = updM (mvA A) j i v := by
  subst ha
  funext j' i'
  unfold mvA updM
  simp only [gI_sI]
  by_cases h1 : j' < 18
  · rw [if_pos h1, if_pos h1]
    by_cases h2 : j' = j ∧ i' = i
    · rw [if_pos h2, if_pos (by omega)]
    · rw [if_neg h2, if_neg (by omega)]
  · rw [if_neg h1, if_neg h1, if_neg (show ¬ (j' = j ∧ i' = i) by omega)]
    by_cases h2 : j' = 18 ∧ i' < 5
    · rw [if_pos h2, if_pos h2, if_neg (by omega)]
    · rw [if_neg h2, if_neg h2]
theorem mvA_sI9 (A : AH) {k i : Nat} {v : Int} (hk : k = 19 + i) (hi : i < 5) : mvA (sI A 349 k v) = updM (mvA A) 18 i v := by
  subst hk
  funext j' i'
  unfold mvA updM
  simp only [gI_sI]
  by_cases h1 : j' < 18
  · rw [if_pos h1, if_pos h1, if_neg (by omega), if_neg (by omega)]
  · rw [if_neg h1, if_neg h1]
    by_cases h2 : j' = 18 ∧ i' < 5
    · rw [if_pos h2, if_pos h2]
      by_cases h3 : i' = i
      · rw [if_pos (by simp [h3]), if_pos ⟨h2.1, h3⟩]
      · rw [if_neg (by omega), if_neg (by omega)]
    · rw [if_neg h2, if_neg h2, if_neg (by omega)]
/-- B is A but for the ints at the places S -/
def FQ (S : Nat → Nat → Prop) (A B : AH) : Prop := B.1 = A.1 ∧ B.2.2 = A.2.2 ∧ ∀ a k, ¬ S a k → gI B a k = gI A a k
theorem FQ.rf {S : Nat → Nat → Prop} (A : AH) : FQ S A A := ⟨rfl, rfl, fun _ _ _ => rfl⟩
theorem FQ.tr {S : Nat → Nat → Prop} {A B C : AH} (h : FQ S A B) (h2 : FQ S B C) : FQ S A C := ⟨h2.1.trans h.1, h2.2.1.trans h.2.1, fun a k q => (h2.2.2 a k q).trans (h.2.2 a k q)⟩
theorem FQ.mono {S S' : Nat → Nat → Prop} {A B : AH} (h : FQ S A B) (hs : ∀ a k, S a k → S' a k) : FQ S' A B := ⟨h.1, h.2.1, fun a k q => h.2.2 a k (fun z => q (hs a k z))⟩
theorem FQ_sI {S : Nat → Nat → Prop} (A : AH) {a k : Nat} {v : Int} (h : S a k) : FQ S A (sI A a k v) := ⟨rfl, rfl, fun b j q => by
  rw [gI_sI, if_neg]
  rintro ⟨rfl, rfl⟩
  exact q h⟩
theorem FQ.set {S : Nat → Nat → Prop} {A B : AH} (h : FQ S A B) {a k : Nat} {v : Int} (hs : S a k) : FQ S A (sI B a k v) := h.tr (FQ_sI B hs)
theorem FQ.eP {S : Nat → Nat → Prop} {A B : AH} (h : FQ S A B) (a k : Nat) : gP B a k = gP A a k := by
  unfold gP
  rw [h.2.1]
theorem FQ.eN {S : Nat → Nat → Prop} {A B : AH} (h : FQ S A B) : hN B = hN A := by
  unfold hN
  rw [h.1]
/-- the reference's scratch; its row and scratch; all that is the reference's -/
def SS (a k : Nat) : Prop := a = 349 ∧ 24 ≤ k ∧ k ≤ 28
def SC (a k : Nat) : Prop := (350 ≤ a ∧ a ≤ 367) ∨ a = 349 ∧ 19 ≤ k ∧ k ≤ 28
def SR (a k : Nat) : Prop := (350 ≤ a ∧ a ≤ 367) ∨ a = 349 ∧ 19 ≤ k ∧ k ≤ 23
theorem SR_SC (a k : Nat) (h : SR a k) : SC a k := by unfold SR at h; unfold SC; omega
def SM (a k : Nat) : Prop := 349 ≤ a ∧ a ≤ 373
theorem SS_SC (a k : Nat) (h : SS a k) : SC a k := by unfold SS at h; unfold SC; omega
theorem SS_SM (a k : Nat) (h : SS a k) : SM a k := by unfold SS at h; unfold SM; omega
theorem SC_SM (a k : Nat) (h : SC a k) : SM a k := by unfold SC at h; unfold SM; omega
theorem FQ.ev {A B : AH} (h : FQ SS A B) : mvA B = mvA A := by
  funext j i
  unfold mvA
  split
  · exact h.2.2 _ _ (by unfold SS; omega)
  · split
    · exact h.2.2 _ _ (by unfold SS; omega)
    · rfl
theorem FQ_setL (A : AH) (c : Int × Int) : FQ SS A (setL A c) := ((FQ.rf A).set (by unfold SS; omega)).set (by unfold SS; omega)
/-! why a run is refused -/
def whyRunM (M : MR) (b : Nat) (h set : Int) : Int :=
  if h < M 18 0 then 2 else if h < M 16 b then 8 else if M 14 b < bitsM set then 9
  else if anyN (fun p => bitF set p && decide (h < freM M p)) (M 18 1).toNat 0 = true then 10
  else if anyN (fun p => bitF set p && decide (goaM M p ≠ M 15 b % 2)) (M 18 1).toNat 0 = true then 11 else 0
theorem X9_placeOfBoat {N : Nat} {A : AH} {b : Nat} (hb : b < 3) (h : 0 ≤ mvA A 15 b) : fX9_placeOfBoat N A b = some (mvA A 15 b % 2) := by
  unfold fX9_placeOfBoat
  rw [chk_pos _ (by omega), show gI A 365 (b : Int).toNat = mvA A 15 b from rfl, Int.tmod_eq_emod_of_nonneg h]
theorem bit0 {x : Int} {p : Nat} : iAnd (iShr x (p : Int)) 1 = 0 ↔ bitF x p = false := by
  unfold bitF
  rcases iAnd1_01 (iShr x (p : Int)) with h | h <;> simp [h]
abbrev MOs (M : MR) : Prop := ∀ o : Nat, (o : Int) < M 18 3 → MO M o
theorem X9_whyRun89 {N : Nat} {b : Nat} {set : Int} (hN : 3000 ≤ N) (hb : b < 3) : ∀ {k n a : Nat} {A : AH}, MC (mvA A) → MOs (mvA A) → 0 ≤ mvA A 15 b → (a : Int) + k = mvA A 18 1 → k < n → ∃ B, fX9_whyNotRun_89 N b set n A a = some (if anyN (fun p => bitF set p && decide (goaM (mvA A) p ≠ mvA A 15 b % 2)) k a = true then 11 else 0, B) ∧ FQ SS A B
  | 0, n, a, A, hC, hO, h0, h, hn => by
    match n, hn with
    | n + 1, _ =>
      refine ⟨A, ?_, FQ.rf A⟩
      rw [fX9_whyNotRun_89, show gI A 349 20 = mvA A 18 1 from rfl, if_pos (by omega)]
      rfl
  | k + 1, n, a, A, hC, hO, h0, h, hn => by
    have c1 := hC.2.1
    have ea : wrap ((a : Int) + 1) = ((a + 1 : Nat) : Int) := wrap_eq (by omega) (by omega)
    match n, hn with
    | n + 1, hn =>
      rw [fX9_whyNotRun_89, show gI A 349 20 = mvA A 18 1 from rfl, if_neg (by omega), anyN]
      by_cases hb0 : bitF set a = true
      · have hb1 : ¬ iAnd (iShr set (a : Int)) 1 = 0 := fun z => by rw [bit0.mp z] at hb0; cases hb0
        rw [if_neg hb1, X9_findLastM hN hC hO, obind_some, X9_placeOfBoat hb (by rw [mvA_setL]; exact h0), obind_some, setL_25, mvA_setL]
        by_cases hg : (lastM (mvA A) a).2 = mvA A 15 b % 2
        · obtain ⟨B, e, f⟩ := X9_whyRun89 (N := N) (b := b) (set := set) hN hb (k := k) (n := n) (a := a + 1) (A := setL A (lastM (mvA A) a)) (by rw [mvA_setL]; exact hC) (by rw [mvA_setL]; exact hO) (by rw [mvA_setL]; exact h0) (by rw [mvA_setL]; omega) (by omega)
          refine ⟨B, ?_, (FQ_setL A _).tr f⟩
          rw [mvA_setL] at e
          rw [if_pos hg, bnd_eq, ea, e]
          have : goaM (mvA A) a = mvA A 15 b % 2 := hg
          simp [this]
        · refine ⟨setL A (lastM (mvA A) a), ?_, FQ_setL A _⟩
          have : ¬ goaM (mvA A) a = mvA A 15 b % 2 := hg
          rw [if_neg hg]
          simp [hb0, this]
      · obtain ⟨B, e, f⟩ := X9_whyRun89 (N := N) (b := b) (set := set) hN hb (k := k) (n := n) (a := a + 1) (A := A) hC hO h0 (by omega) (by omega)
        refine ⟨B, ?_, f⟩
        rw [if_pos (bit0.mpr (Bool.not_eq_true _ |>.mp hb0)), bnd_eq, ea, e]
        simp [hb0]
theorem X9_whyRun42 {N : Nat} {b : Nat} {set hh : Int} (hN : 3000 ≤ N) (hb : b < 3) : ∀ {k n a : Nat} {A : AH}, MC (mvA A) → MOs (mvA A) → 0 ≤ mvA A 15 b → (a : Int) + k = mvA A 18 1 → k < n → ∃ B, fX9_whyNotRun_42 N b hh set n A a = some (if anyN (fun p => bitF set p && decide (hh < freM (mvA A) p)) k a = true then 10 else if anyN (fun p => bitF set p && decide (goaM (mvA A) p ≠ mvA A 15 b % 2)) (mvA A 18 1).toNat 0 = true then 11 else 0, B) ∧ FQ SS A B
  | 0, n, a, A, hC, hO, h0, h, hn => by
    have c1 := hC.2.1
    match n, hn with
    | n + 1, _ =>
      obtain ⟨B, e, f⟩ := X9_whyRun89 (N := N) (b := b) (set := set) hN hb (k := (mvA A 18 1).toNat) (n := N) (a := 0) (A := A) hC hO h0 (by omega) (by omega)
      refine ⟨B, ?_, f⟩
      rw [fX9_whyNotRun_42, show gI A 349 20 = mvA A 18 1 from rfl, if_pos (by omega)]
      exact e
  | k + 1, n, a, A, hC, hO, h0, h, hn => by
    have c1 := hC.2.1
    have ea : wrap ((a : Int) + 1) = ((a + 1 : Nat) : Int) := wrap_eq (by omega) (by omega)
    match n, hn with
    | n + 1, hn =>
      rw [fX9_whyNotRun_42, show gI A 349 20 = mvA A 18 1 from rfl, if_neg (by omega), anyN]
      by_cases hb0 : bitF set a = true
      · have hb1 : ¬ iAnd (iShr set (a : Int)) 1 = 0 := fun z => by rw [bit0.mp z] at hb0; cases hb0
        rw [if_neg hb1, X9_findLastM hN hC hO, obind_some, setL_24]
        by_cases hg : (lastM (mvA A) a).1 ≤ hh
        · obtain ⟨B, e, f⟩ := X9_whyRun42 (N := N) (b := b) (set := set) (hh := hh) hN hb (k := k) (n := n) (a := a + 1) (A := setL A (lastM (mvA A) a)) (by rw [mvA_setL]; exact hC) (by rw [mvA_setL]; exact hO) (by rw [mvA_setL]; exact h0) (by rw [mvA_setL]; omega) (by omega)
          refine ⟨B, ?_, (FQ_setL A _).tr f⟩
          rw [mvA_setL] at e
          rw [if_pos hg, bnd_eq, ea, e]
          have : ¬ hh < freM (mvA A) a := Int.not_lt.mpr hg
          simp [this]
        · refine ⟨setL A (lastM (mvA A) a), ?_, FQ_setL A _⟩
          have : hh < freM (mvA A) a := Int.not_le.mp hg
          rw [if_neg hg]
          simp [hb0, this]
      · obtain ⟨B, e, f⟩ := X9_whyRun42 (N := N) (b := b) (set := set) (hh := hh) hN hb (k := k) (n := n) (a := a + 1) (A := A) hC hO h0 (by omega) (by omega)
        refine ⟨B, ?_, f⟩
        rw [if_pos (bit0.mpr (Bool.not_eq_true _ |>.mp hb0)), bnd_eq, ea, e]
        simp [hb0]
theorem X9_whyNotRun {N : Nat} {A : AH} {b : Nat} {h set : Int} (hN : 3000 ≤ N) (hb : b < 3) (hC : MC (mvA A)) (hO : MOs (mvA A)) (h0 : 0 ≤ mvA A 15 b) : ∃ B, fX9_whyNotRun N A b h set = some (whyRunM (mvA A) b h set, B) ∧ FQ SS A B := by
  have c1 := hC.2.1
  unfold fX9_whyNotRun whyRunM
  rw [show gI A 349 19 = mvA A 18 0 from rfl, show gI A 366 (b : Int).toNat = mvA A 16 b from rfl, show gI A 364 (b : Int).toNat = mvA A 14 b from rfl]
  by_cases h1 : h < mvA A 18 0
  · exact ⟨A, by rw [if_neg (by omega), if_pos h1], FQ.rf A⟩
  · rw [if_pos (show mvA A 18 0 ≤ h by omega), if_neg h1, chk_pos _ (show 0 ≤ (b : Int) ∧ (b : Int) < 3 by omega)]
    by_cases h2 : h < mvA A 16 b
    · exact ⟨A, by rw [if_neg (by omega), if_pos h2], FQ.rf A⟩
    · rw [if_pos (show mvA A 16 b ≤ h by omega), if_neg h2, X9_bits (by omega), obind_some, chk_pos _ (show 0 ≤ (b : Int) ∧ (b : Int) < 3 by omega)]
      by_cases h3 : mvA A 14 b < bitsM set
      · exact ⟨A, by rw [if_neg (by omega), if_pos h3], FQ.rf A⟩
      · rw [if_pos (show bitsM set ≤ mvA A 14 b by omega), if_neg h3]
        exact X9_whyRun42 hN hb (a := 0) hC hO h0 (by omega) (by omega)
/-! a run is made, a trip is planned -/
def goM (M : MR) (b : Nat) (h set : Int) : MR := updM (updM (updM (updM M 17 (M 18 4).toNat (pkM h (M 0 1) set (1 - M 15 b % 2) b)) 18 4 (M 18 4 + 1)) 15 b (M 15 b + 1)) 16 b (h + M 0 1)
def plM (M : MR) (o : Nat) (p h : Int) : MR := updM (updM (updM M 7 o 1) 8 o p) 9 o h
theorem X9_plans {N : Nat} {A : AH} {o : Nat} {p h : Int} (ho : o < 16) : ∃ B, fX9_plans N A o p h = some B ∧ mvA B = plM (mvA A) o p h ∧ FQ SR A B := by
  unfold fX9_plans
  simp only [bnd_eq]
  rw [ck16 ho, ck16 ho, ck16 ho, Int.toNat_natCast]
  refine ⟨_, rfl, ?_, (((FQ.rf A).set (by unfold SR; omega)).set (by unfold SR; omega)).set (by unfold SR; omega)⟩
  rw [mvA_sIr _ (j := 9) rfl (by decide), mvA_sIr _ (j := 8) rfl (by decide), mvA_sIr _ (j := 7) rfl (by decide)]
  rfl
theorem X9_goes {N : Nat} {A : AH} {b : Nat} {h set : Int} (hb : b < 3) (hR : MRu (mvA A)) (h0 : 0 ≤ mvA A 15 b ∧ mvA A 15 b ≤ 900) (hm : 0 ≤ mvA A 18 4 ∧ mvA A 18 4 < 2703) (hh : 0 ≤ h ∧ h ≤ 900) : ∃ B, fX9_goes N A b h set = some (h + mvA A 0 1, B) ∧ mvA B = goM (mvA A) b h set ∧ FQ SR A B := by
  have r1 := hR.2.1
  unfold fX9_goes fX9_packed
  simp only [bnd_eq]
  rw [X9_placeOfBoat hb h0.1, obind_some, obind_some, show gI A 349 23 = mvA A 18 4 from rfl, chk_pos _ hm]
  rw [chk_pos _ (by omega), chk_pos _ (by omega), chk_pos _ (by omega), show gI A 350 1 = mvA A 0 1 from rfl, wrap_eq (z := h + mvA A 0 1) (by omega) (by omega), wrap_eq (z := 1 - mvA A 15 b % 2) (by omega) (by omega), Int.toNat_natCast]
  refine ⟨_, rfl, ?_, ((((FQ.rf A).set (by unfold SR; omega)).set (by unfold SR; omega)).set (by unfold SR; omega)).set (by unfold SR; omega)⟩
  rw [mvA_sIr _ (j := 16) rfl (by decide), mvA_sIr _ (j := 15) rfl (by decide), mvA_sI9 _ (i := 4) rfl (by decide), mvA_sIr _ (j := 17) rfl (by decide)]
  have e1 : gI (sI A 367 (mvA A 18 4).toNat (iOr (iOr (iOr (iOr h (iShl (mvA A 0 1) 10)) (iShl set 13)) (iShl (1 - mvA A 15 b % 2) 19)) (iShl b 20))) 349 23 = mvA A 18 4 := by
    rw [gI_sI, if_neg (by omega)]
    rfl
  rw [e1, gI_sI, if_neg (by omega), gI_sI, if_neg (by omega), show gI A 365 b = mvA A 15 b from rfl, wrap_eq (by omega) (by omega), wrap_eq (by omega) (by omega)]
  rfl
