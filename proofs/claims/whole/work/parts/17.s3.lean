/-! windows -/
theorem depM_12 (M : MR) (t : Int) : depM M (t + 12) = depM M t := by
  unfold depM
  rw [show (t + 12) % 12 = t % 12 by omega]
theorem deepM_12 (M : MR) (o : Nat) (h : Int) : deepM M o (h + 12) = deepM M o h := by
  unfold deepM
  have : ∀ (k : Nat) (x : Int), allF (fun t => decide (M 4 o ≤ depM M t)) k (x + 12) = allF (fun t => decide (M 4 o ≤ depM M t)) k x := by
    intro k
    induction k with
    | zero => intro x; rfl
    | succ k ih =>
      intro x
      rw [allF, allF, depM_12, show x + 12 + 1 = x + 1 + 12 by omega, ih]
  exact this _ _
theorem fstF_range {f : Int → Bool} : ∀ {k : Nat} {x : Int}, fstF f k x = -1 ∨ (x ≤ fstF f k x ∧ fstF f k x < x + k ∧ f (fstF f k x) = true)
  | 0, x => Or.inl rfl
  | k + 1, x => by
    rw [fstF]
    by_cases h : f x = true
    · rw [if_pos h]
      exact Or.inr ⟨by omega, by omega, h⟩
    · rw [if_neg h]
      rcases fstF_range (f := f) (k := k) (x := x + 1) with e | ⟨e1, e2, e3⟩
      · exact Or.inl e
      · exact Or.inr ⟨by omega, by omega, e3⟩
theorem fstF_none {f : Int → Bool} : ∀ {k : Nat} {x : Int}, 0 ≤ x → (fstF f k x = -1 ↔ ∀ h, x ≤ h → h < x + k → f h = false)
  | 0, x, _ => by simp [fstF]; intro h h1 h2; omega
  | k + 1, x, h0 => by
    rw [fstF]
    by_cases h : f x = true
    · rw [if_pos h]
      constructor
      · intro e; omega
      · intro e
        have := e x (by omega) (by omega)
        rw [h] at this
        cases this
    · rw [if_neg h, fstF_none (by omega)]
      constructor
      · intro e t h1 h2
        by_cases ht : t = x
        · rw [ht]; simpa using h
        · exact e t (by omega) (by omega)
      · intro e t h1 h2
        exact e t (by omega) (by omega)
/-- what has 12 as a period is found in 12 places or never -/
theorem fstF_12 {f : Int → Bool} (hf : ∀ h, f (h + 12) = f h) {k : Nat} {x : Int} (h0 : 0 ≤ x) (hk : 12 ≤ k) : fstF f k x = fstF f 12 x := by
  have split : ∀ (a b : Nat) (x : Int), 0 ≤ x → fstF f (a + b) x = if fstF f a x = -1 then fstF f b (x + a) else fstF f a x := by
    intro a
    induction a with
    | zero => intro b x _; simp [fstF]
    | succ a ih =>
      intro b x hx
      rw [show a + 1 + b = (a + b) + 1 by omega, fstF, fstF]
      by_cases h : f x = true
      · rw [if_pos h, if_pos h, if_neg (by omega)]
      · rw [if_neg h, if_neg h, ih b (x + 1) (by omega), show x + 1 + (a : Int) = x + ((a + 1 : Nat) : Int) by omega]
  rw [show k = 12 + (k - 12) by omega, split 12 (k - 12) x h0]
  by_cases h : fstF f 12 x = -1
  · rw [if_pos h, h]
    have hn := (fstF_none h0).mp h
    refine (fstF_none (by omega)).mpr (fun t h1 h2 => ?_)
    have all : ∀ (m : Nat) (t : Int), x ≤ t → t < x + 12 * (m + 1) → f t = false := by
      intro m
      induction m with
      | zero => intro t h1 h2; exact hn t h1 (by omega)
      | succ m ih =>
        intro t h1 h2
        by_cases ht : t < x + 12
        · exact hn t h1 (by omega)
        · have := ih (t - 12) (by omega) (by omega)
          rw [← hf (t - 12)] at this
          rw [show t - 12 + 12 = t by omega] at this
          exact this
    exact all (t - x).toNat t (by omega) (by omega)
  · rw [if_neg h]
/-- the first hour of an order's window from x on, or -1 -/
def firstW (M : MR) (o : Nat) (x : Int) : Int := fstF (deepM M o) (M 6 o - x + 1).toNat x
theorem X5_firstW27 {N : Nat} {A : AH} {r y o : Nat} {M : MR} (hN : 10 ≤ N) (hT : PT A r M) (hM : MRu M) (hP : PO A y M o) (hO : MO M o) {e : Int} (he : e ≤ 5000) : ∀ {k n : Nat} {x : Int}, (x + k = e + 1 ∨ k = 0 ∧ e < x) → 0 ≤ x → x ≤ 6000 → k < n → fX5_firstOfWindow_27 N A r y e n x = some (fstF (deepM M o) k x)
  | 0, n, x, h, h0, h6, hn => by
    match n, hn with
    | n + 1, _ =>
      rw [fX5_firstOfWindow_27, if_pos (by omega)]
      rfl
  | k + 1, n, x, h, h0, h6, hn => by
    match n, hn with
    | n + 1, hn =>
      rw [fX5_firstOfWindow_27, if_neg (by omega), X5_isDeep hN hT hM hP hO h0 (by omega), obind_some, fstF]
      by_cases hd : deepM M o x = true
      · rw [hd, if_neg (by decide), if_pos rfl]
      · rw [if_neg hd, Bool.not_eq_true _ |>.mp hd, if_pos (by decide), bnd_eq, wrap_eq (by omega) (by omega), X5_firstW27 (k := k) hN hT hM hP hO he (by omega) (by omega) (by omega) (by omega)]
theorem X5_firstOfWindow {N : Nat} {A : AH} {r y o : Nat} {M : MR} (hN : 20 ≤ N) (hT : PT A r M) (hM : MRu M) (hP : PO A y M o) (hO : MO M o) {x : Int} (h0 : 0 ≤ x) (h1 : x ≤ 5000) : fX5_firstOfWindow N A r y x = some (firstW M o (max x (M 5 o))) := by
  have h2 := hO.2.2.2.1
  unfold fX5_firstOfWindow
  rw [bnd_eq, bnd_eq, hP.2.2.2.1, hP.2.2.2.2.1]
  obtain ⟨u, hu⟩ : ∃ u, u = max x (M 5 o) := ⟨_, rfl⟩
  rw [← hu]
  have hu0 : 0 ≤ u ∧ u ≤ 5000 := by omega
  rw [wrap_eq (z := u + 12) (by omega) (by omega), wrap_eq (by omega) (by omega)]
  rw [X5_firstW27 (k := (min (M 6 o) (u + 12 - 1) - u + 1).toNat) (by omega) hT hM hP hO (by omega) (by omega) (by omega) (by omega) (by omega)]
  unfold firstW
  by_cases hk : 12 ≤ (M 6 o - u + 1).toNat
  · rw [fstF_12 (deepM_12 M o) hu0.1 hk]
    congr 2
    omega
  · congr 2
    omega
/-- the hours of the window -/
theorem X5_hoursW7 {N : Nat} {A : AH} {r y o : Nat} {M : MR} (hN : 10 ≤ N) (hT : PT A r M) (hM : MRu M) (hP : PO A y M o) (hO : MO M o) : ∀ {k n : Nat} {x acc : Int}, (x + k = M 6 o + 1) → 0 ≤ x → 0 ≤ acc → acc ≤ 10000 → acc + k ≤ 10000 → k < n → fX5_hoursOfWindow_7 N A r y n acc x = some (acc + cntF (deepM M o) k x)
  | 0, n, x, acc, h, h0, ha, hb, hc, hn => by
    match n, hn with
    | n + 1, _ =>
      rw [fX5_hoursOfWindow_7, hP.2.2.2.2.1, if_pos (by omega)]
      simp [cntF]
  | k + 1, n, x, acc, h, h0, ha, hb, hc, hn => by
    have h2 := hO.2.2.2.1
    match n, hn with
    | n + 1, hn =>
      rw [fX5_hoursOfWindow_7, hP.2.2.2.2.1, if_neg (by omega), X5_isDeep hN hT hM hP hO h0 (by omega), obind_some, cntF]
      by_cases hd : deepM M o x = true
      · rw [hd, if_neg (by decide), if_pos rfl, bnd_eq, bnd_eq, wrap_eq (z := acc + 1) (by omega) (by omega), wrap_eq (by omega) (by omega), X5_hoursW7 (k := k) hN hT hM hP hO (by omega) (by omega) (by omega) (by omega) (by omega) (by omega)]
        congr 1
        omega
      · rw [if_neg hd, Bool.not_eq_true _ |>.mp hd, if_pos (by decide), bnd_eq, wrap_eq (by omega) (by omega), X5_hoursW7 (k := k) hN hT hM hP hO (by omega) (by omega) (by omega) (by omega) (by omega) (by omega)]
        congr 1
        omega
theorem X5_hoursOfWindow {N : Nat} {A : AH} {r y o : Nat} {M : MR} (hN : 1000 ≤ N) (hT : PT A r M) (hM : MRu M) (hP : PO A y M o) (hO : MO M o) : fX5_hoursOfWindow N A r y = some (cntF (deepM M o) (M 6 o - M 5 o + 1).toNat (M 5 o)) := by
  have h2 := hO.2.2.2.1
  unfold fX5_hoursOfWindow
  rw [bnd_eq, hP.2.2.2.1, X5_hoursW7 (k := (M 6 o - M 5 o + 1).toNat) (by omega) hT hM hP hO (by omega) (by omega) (by omega) (by omega) (by omega) (by omega)]
  congr 1
  omega
