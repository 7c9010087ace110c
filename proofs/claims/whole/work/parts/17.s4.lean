/-! the model's pure functions -/
theorem ck16 {β : Type} {o : Nat} (h : o < 16) (K : Option β) : chk (0 ≤ (o : Int) ∧ (o : Int) < 16) K = K := chk_pos K ⟨by omega, by omega⟩
theorem X9_length {N : Nat} {A : AH} {o : Nat} (ho : o < 16) (hO : MO (mvA A) o) : fX9_length N A o = some (mvA A 2 o + 2) := by
  obtain ⟨o1, -⟩ := hO
  unfold fX9_length
  rw [ck16 ho, show gI A 352 (o : Int).toNat = mvA A 2 o from rfl, wrap_eq (by omega) (by omega)]
/-- when an order's trip ends -/
def endM (M : MR) (o : Nat) : Int := M 9 o + M 2 o + 2
theorem X9_end {N : Nat} {A : AH} {o : Nat} (ho : o < 16) (hO : MO (mvA A) o) (ht : tripM (mvA A) o) : fX9_end N A o = some (endM (mvA A) o) := by
  unfold fX9_end
  rw [ck16 ho, X9_length ho hO, obind_some, show gI A 359 (o : Int).toNat = mvA A 9 o from rfl]
  obtain ⟨o1, -, -, -, -, -, o7⟩ := hO
  have := o7 ht
  rw [wrap_eq (by omega) (by omega)]
  unfold endM
  congr 1
  omega
theorem X9_hasTrip {N : Nat} {A : AH} {o : Nat} (ho : o < 16) : fX9_hasTrip N A o = some (b2i (decide (tripM (mvA A) o))) := by
  unfold fX9_hasTrip
  rw [ck16 ho, ck16 ho, show gI A 357 (o : Int).toNat = mvA A 7 o from rfl]
  by_cases h1 : mvA A 7 o = 1
  · simp [h1, b2i]
  · by_cases h2 : mvA A 7 o = 2 <;> simp [h1, h2, b2i]
/-- an order is a trip of a pilot -/
def tofM (M : MR) (o : Nat) (p : Int) : Bool := decide (tripM M o) && decide (M 8 o = p)
theorem X9_isTripOf {N : Nat} {A : AH} {o : Nat} {p : Int} (ho : o < 16) : fX9_isTripOf N A o p = some (b2i (tofM (mvA A) o p)) := by
  unfold fX9_isTripOf
  rw [X9_hasTrip ho, obind_some]
  unfold tofM
  by_cases h : tripM (mvA A) o
  · rw [decide_eq_true h, if_neg (by decide), ck16 ho, show gI A 358 (o : Int).toNat = mvA A 8 o from rfl]
    by_cases h2 : mvA A 8 o = p <;> simp [h2, b2i]
  · rw [decide_eq_false h, if_pos (by decide)]
    rfl
def startM (M : MR) (o : Nat) : Int := if M 3 o = 1 then 0 else 1
theorem X9_startOf {N : Nat} {A : AH} {o : Nat} (ho : o < 16) : fX9_startOf N A o = some (startM (mvA A) o) := by
  unfold fX9_startOf startM
  rw [ck16 ho, show gI A 353 (o : Int).toNat = mvA A 3 o from rfl]
  split <;> rfl
theorem X9_goalOf {N : Nat} {A : AH} {o : Nat} (ho : o < 16) : fX9_goalOf N A o = some (mvA A 3 o) := by
  unfold fX9_goalOf
  rw [ck16 ho]
  rfl
theorem X9_depthAt {N : Nat} {A : AH} (hM : MRu (mvA A)) {h : Int} (h0 : 0 ≤ h) : fX9_depthAt N A h = some (depM (mvA A) h) := by
  have e : Int.tmod h 12 = h % 12 := Int.tmod_eq_emod_of_nonneg h0
  unfold fX9_depthAt
  have := hM.dep h
  rw [e, chk_pos _ (by omega), show gI A 350 3 = mvA A 0 3 from rfl, show gI A 351 (h % 12).toNat = mvA A 1 (h % 12).toNat from rfl]
  unfold depM at this
  rw [wrap_eq (by omega) (by omega)]
  rfl
theorem X9_isDeep2 {N : Nat} {A : AH} {o : Nat} (ho : o < 16) (hM : MRu (mvA A)) (hO : MO (mvA A) o) {h : Int} (h0 : 0 ≤ h) (h1 : h ≤ 10000) : ∀ {k n : Nat} {x : Int}, x + k = mvA A 2 o + 2 → 0 ≤ x → k < n → fX9_isDeep_2 N A o h n x = some (b2i (allF (fun t => decide (mvA A 4 o ≤ depM (mvA A) t)) k (h + x)))
  | 0, n, x, e, hx, hn => by
    match n, hn with
    | n + 1, _ =>
      rw [fX9_isDeep_2, X9_length ho hO, obind_some, if_pos (by omega)]
      rfl
  | k + 1, n, x, e, hx, hn => by
    have o1 := hO.1
    match n, hn with
    | n + 1, hn =>
      rw [fX9_isDeep_2, X9_length ho hO, obind_some, if_neg (by omega), wrap_eq (z := h + x) (by omega) (by omega), X9_depthAt hM (by omega), obind_some, ck16 ho, allF, show gI A 354 (o : Int).toNat = mvA A 4 o from rfl]
      by_cases hd : mvA A 4 o ≤ depM (mvA A) (h + x)
      · rw [if_pos hd, bnd_eq, wrap_eq (by omega) (by omega), X9_isDeep2 (k := k) ho hM hO h0 h1 (by omega) (by omega) (by omega), show h + (x + 1) = h + x + 1 by omega]
        simp [hd]
      · rw [if_neg hd]
        simp [hd, b2i]
theorem X9_isDeep {N : Nat} {A : AH} {o : Nat} (hN : 10 ≤ N) (ho : o < 16) (hM : MRu (mvA A)) (hO : MO (mvA A) o) {h : Int} (h0 : 0 ≤ h) (h1 : h ≤ 10000) : fX9_isDeep N A o h = some (b2i (deepM (mvA A) o h)) := by
  have o1 := hO.1
  unfold fX9_isDeep
  rw [X9_isDeep2 (k := (mvA A 2 o + 2).toNat) ho hM hO h0 h1 (by omega) (by omega) (by omega)]
  rw [show h + 0 = h by omega]
  rfl
theorem X9_windowHours9 {N : Nat} {A : AH} {o : Nat} (hN : 10 ≤ N) (ho : o < 16) (hM : MRu (mvA A)) (hO : MO (mvA A) o) : ∀ {k n : Nat} {x acc : Int}, x + k = mvA A 6 o + 1 → 0 ≤ x → 0 ≤ acc → acc + k ≤ 10000 → k < n → fX9_windowHours_9 N A o n acc x = some (acc + cntF (deepM (mvA A) o) k x)
  | 0, n, x, acc, h, h0, ha, hc, hn => by
    match n, hn with
    | n + 1, _ =>
      rw [fX9_windowHours_9, ck16 ho, show gI A 356 (o : Int).toNat = mvA A 6 o from rfl, if_pos (by omega)]
      simp [cntF]
  | k + 1, n, x, acc, h, h0, ha, hc, hn => by
    have h2 := hO.2.2.2.1
    match n, hn with
    | n + 1, hn =>
      rw [fX9_windowHours_9, ck16 ho, show gI A 356 (o : Int).toNat = mvA A 6 o from rfl, if_neg (by omega), X9_isDeep hN ho hM hO h0 (by omega), obind_some, cntF]
      by_cases hd : deepM (mvA A) o x = true
      · rw [hd, if_neg (by decide), if_pos rfl]
        simp only [bnd_eq]
        rw [wrap_eq (z := acc + 1) (by omega) (by omega), wrap_eq (by omega) (by omega), X9_windowHours9 (k := k) hN ho hM hO (by omega) (by omega) (by omega) (by omega) (by omega)]
        congr 1
        omega
      · rw [if_neg hd, Bool.not_eq_true _ |>.mp hd, if_pos (by decide)]
        simp only [bnd_eq]
        rw [wrap_eq (z := acc + 0) (by omega) (by omega), wrap_eq (by omega) (by omega), X9_windowHours9 (k := k) hN ho hM hO (by omega) (by omega) (by omega) (by omega) (by omega)]
        congr 1
        omega
theorem X9_windowHours {N : Nat} {A : AH} {o : Nat} (hN : 1000 ≤ N) (ho : o < 16) (hM : MRu (mvA A)) (hO : MO (mvA A) o) : fX9_windowHours N A o = some (cntF (deepM (mvA A) o) (mvA A 6 o - mvA A 5 o + 1).toNat (mvA A 5 o)) := by
  have h2 := hO.2.2.2.1
  unfold fX9_windowHours
  rw [ck16 ho, bnd_eq, show gI A 355 (o : Int).toNat = mvA A 5 o from rfl, X9_windowHours9 (k := (mvA A 6 o - mvA A 5 o + 1).toNat) (by omega) ho hM hO (by omega) (by omega) (by omega) (by omega) (by omega)]
  congr 1
  omega
