/-! why a trip is refused -/
def whyM (M : MR) (o p : Nat) (h f g r : Int) : Int :=
  if M 7 o = 0 then (if h < M 18 0 ∨ h < M 5 o ∨ M 6 o < h then 2 else if deepM M o h = true then (if M 2 o ≤ M 11 p then (if f ≤ h then (if g = startM M o then (if r ≤ h then 0 else 7) else 6) else 5) else 4) else 3) else 1
/-- the program's pilot at y is the model's p, L the legs -/
def PP (A : AH) (y : Nat) (M : MR) (p : Nat) (L : List LG) : Prop := gI A y 0 = M 11 p ∧ gI A y 1 = M 12 p ∧ CH A (gP A y 2) L
theorem X3_origin {N : Nat} {A : AH} {y o : Nat} {M : MR} (hP : PO A y M o) : fX3_origin N A y = some (startM M o) := by
  unfold fX3_origin startM
  rw [hP.2.1]
  split <;> rfl
theorem X3_goal {N : Nat} {A : AH} {y o : Nat} {M : MR} (hP : PO A y M o) (hO : MO M o) : fX3_goal N A y = some (M 3 o) := by
  unfold fX3_goal
  rw [hP.2.1]
  rcases hO.2.1 with h | h <;> rw [h] <;> rfl
theorem X5_reasonTrip {N : Nat} {A : AH} {r y z o p : Nat} {M : MR} {L : List LG} {q : Int} (hN : 5000 ≤ N) (hLN : L.length < N) (hT : PT A r M) (hM : MRu M) (hnow : gI A r 5 = M 18 0) (hC : MC M) (hP : PO A y M o) (hO : MO M o) (hPP : PP A z M p L) (hL : PL M q L) {h : Int} : fX5_reasonAgainstTrip N A r y z h = some (whyM M o p h (frees L) (goals L) (restL M L)) := by
  have c0 := hC.1
  have o4 := hO.2.2.2.1
  unfold fX5_reasonAgainstTrip whyM
  rw [hP.2.2.2.2.2.1]
  by_cases h7 : M 7 o = 0
  · rw [if_pos h7, if_pos h7, hnow, hP.2.2.2.1, hP.2.2.2.2.1]
    by_cases h1 : h < M 18 0
    · rw [if_pos h1, if_pos (Or.inl h1)]
    · rw [if_neg h1]
      by_cases h2 : h < M 5 o
      · rw [if_pos h2, if_pos (Or.inr (Or.inl h2))]
      · rw [if_neg h2]
        by_cases h3 : h ≤ M 6 o
        · rw [if_pos h3, if_neg (show ¬ (h < M 18 0 ∨ h < M 5 o ∨ M 6 o < h) by omega), X5_isDeep (by omega) hT hM hP hO (by omega) (by omega), obind_some]
          by_cases hd : deepM M o h = true
          · rw [hd, if_neg (by decide), if_pos rfl, hP.1, hPP.1]
            by_cases h4 : M 2 o ≤ M 11 p
            · rw [if_pos h4, if_pos h4, X4_freeFrom hPP.2.2, obind_some]
              by_cases h5 : frees L ≤ h
              · rw [if_pos h5, if_pos h5, X4_lastGoal hPP.2.2, obind_some, X3_origin hP, obind_some]
                by_cases h6 : goals L = startM M o
                · rw [if_pos h6, if_pos h6, X5_restedFrom hN hLN hT hM hPP.2.2 hL, obind_some]
                  by_cases h8 : restL M L ≤ h
                  · rw [if_pos h8, if_pos h8]
                  · rw [if_neg h8, if_neg h8]
                · rw [if_neg h6, if_neg h6]
              · rw [if_neg h5, if_neg h5]
            · rw [if_neg h4, if_neg h4]
          · rw [Bool.not_eq_true _ |>.mp hd, if_pos (by decide), if_neg (by decide)]
        · rw [if_neg h3, if_pos (show h < M 18 0 ∨ h < M 5 o ∨ M 6 o < h by omega)]
  · rw [if_neg h7, if_neg h7]
theorem X9_isBetween {N : Nat} {A : AH} {x a b : Int} : fX9_isBetween N A x a b = some (b2i (decide (a ≤ x) && decide (x ≤ b))) := by
  unfold fX9_isBetween
  by_cases h1 : x < a
  · rw [if_pos h1]
    simp [show ¬ a ≤ x by omega, b2i]
  · rw [if_neg h1]
    by_cases h2 : b < x
    · rw [if_pos h2]
      simp [show ¬ x ≤ b by omega, b2i]
    · rw [if_neg h2]
      simp [show a ≤ x by omega, show x ≤ b by omega, b2i]
theorem X9_whyNot {N : Nat} {A : AH} {o p : Nat} (hN : 20 ≤ N) (ho : o < 16) (hp : p < 6) (hR : MRu (mvA A)) (hC : MC (mvA A)) (hOs : ∀ o : Nat, (o : Int) < mvA A 18 3 → MO (mvA A) o) (hO : MO (mvA A) o) {h f g : Int} : fX9_whyNot N A o p h f g = some (whyM (mvA A) o p h f g (rstM (mvA A) p)) := by
  have c0 := hC.1
  have o4 := hO.2.2.2.1
  unfold fX9_whyNot whyM
  rw [ck16 ho, show gI A 357 (o : Int).toNat = mvA A 7 o from rfl]
  by_cases h7 : mvA A 7 o = 0
  · rw [if_pos h7, if_pos h7, show gI A 349 19 = mvA A 18 0 from rfl]
    by_cases h1 : h < mvA A 18 0
    · rw [if_pos h1, if_pos (Or.inl h1)]
    · rw [if_neg h1, ck16 ho, ck16 ho, X9_isBetween, obind_some, show gI A 355 (o : Int).toNat = mvA A 5 o from rfl, show gI A 356 (o : Int).toNat = mvA A 6 o from rfl]
      by_cases h2 : mvA A 5 o ≤ h ∧ h ≤ mvA A 6 o
      · rw [decide_eq_true h2.1, decide_eq_true h2.2, if_neg (by decide), if_neg (show ¬ (h < mvA A 18 0 ∨ h < mvA A 5 o ∨ mvA A 6 o < h) by omega), X9_isDeep (by omega) ho hR hO (by omega) (by omega), obind_some]
        by_cases hd : deepM (mvA A) o h = true
        · rw [hd, if_neg (by decide), if_pos rfl, chk_pos _ (by omega), ck16 ho, show gI A 352 (o : Int).toNat = mvA A 2 o from rfl, show gI A 361 (p : Int).toNat = mvA A 11 p from rfl]
          by_cases h4 : mvA A 2 o ≤ mvA A 11 p
          · rw [if_pos h4, if_pos h4]
            by_cases h5 : f ≤ h
            · rw [if_pos h5, if_pos h5, X9_startOf ho, obind_some]
              by_cases h6 : g = startM (mvA A) o
              · rw [if_pos h6, if_pos h6, X9_restedM hN hR hC hOs, obind_some]
                by_cases h8 : rstM (mvA A) p ≤ h
                · rw [if_pos h8, if_pos h8]
                · rw [if_neg h8, if_neg h8]
              · rw [if_neg h6, if_neg h6]
            · rw [if_neg h5, if_neg h5]
          · rw [if_neg h4, if_neg h4]
        · rw [Bool.not_eq_true _ |>.mp hd, if_pos (by decide), if_neg (by decide)]
      · have e : (decide (mvA A 5 o ≤ h) && decide (h ≤ mvA A 6 o)) = false := by
          rw [← Bool.decide_and]
          exact decide_eq_false h2
        rw [e, if_pos (by decide), if_pos (by omega)]
  · rw [if_neg h7, if_neg h7]
def whyT (M : MR) (o p : Nat) (h : Int) : Int := whyM M o p h (freM M p) (goaM M p) (rstM M p)
theorem X9_whyNotTrip {N : Nat} {A : AH} {o p : Nat} (hN : 3000 ≤ N) (ho : o < 16) (hp : p < 6) (hR : MRu (mvA A)) (hC : MC (mvA A)) (hOs : ∀ o : Nat, (o : Int) < mvA A 18 3 → MO (mvA A) o) (hO : MO (mvA A) o) {h : Int} : fX9_whyNotTrip N A o p h = some (whyT (mvA A) o p h, setL A (lastM (mvA A) p)) := by
  unfold fX9_whyNotTrip
  rw [X9_findLastM hN hC hOs, obind_some, setL_24, setL_25, X9_whyNot (by omega) ho hp (by rw [mvA_setL]; exact hR) (by rw [mvA_setL]; exact hC) (by rw [mvA_setL]; exact hOs) (by rw [mvA_setL]; exact hO), obind_some, mvA_setL]
  rfl
theorem PL.why {M : MR} {o p : Nat} {L : List LG} (h : PL M p L) {t : Int} : whyM M o p t (frees L) (goals L) (restL M L) = whyT M o p t := by
  unfold whyT
  rw [h.fre, h.goa, h.rst]
