/-! calls: what they tell of orders and windows -/
theorem op_orderOf {N : Nat} {A C : AH} {x1 x2 : Int} (hN : 25000 ≤ N) (h : INV A C) : STEP [(3, 1), (1, 2)] (fX8_orderOf N A x1 x2) (fX9_orderOf N C x1 x2) A C := by
  unfold fX8_orderOf fX9_orderOf
  rw [X8_order h.2.1, X9_isOrder, obind_some]
  by_cases h1 : 0 ≤ x1 ∧ x1 < mvA C 18 3
  · obtain ⟨o, rfl⟩ : ∃ o : Nat, x1 = o := ⟨x1.toNat, by omega⟩
    have ho := h1.2
    have h16 := h.1.o16 ho
    have hO := h.2.1.2.2.1 o ho
    have hM := h.1.2.2.1 o ho
    have e : mvA (sI C 349 0 0) = mvA C := mvA_thr C 0
    have em : ∀ j, j < 18 → gI (sI C 349 0 0) (350 + j) o = mvA C j o := fun j hj => by
      rw [← e]
      unfold mvA
      rw [if_pos hj]
    rw [if_pos h1, decide_eq_true h1, obind_some, if_pos rfl, if_neg b2t', X9_isBetween, bt_in, obind_some, ck16 h16]
    dsimp only
    rw [show 2 + 6 + (o : Int).toNat = 2 + 6 + o by omega]
    have fin : ∀ v : Int, STEP [(3, 1), (1, 2)] (some (0, v, A)) (some (v, sI C 349 0 0)) A C := fun v => STEP.query h (FX.rf A) (by omega) (FQ_thr C 0) (gI_thr C 0)
    by_cases h2 : 0 ≤ x2 ∧ x2 ≤ 10
    · rw [decide_eq_true h2, if_neg b2t', bnd_eq]
      have hx : x2 = 0 ∨ x2 = 1 ∨ x2 = 2 ∨ x2 = 3 ∨ x2 = 4 ∨ x2 = 5 ∨ x2 = 6 ∨ x2 = 7 ∨ x2 = 8 ∨ x2 = 9 ∨ x2 = 10 := by omega
      rcases hx with hx | hx | hx | hx | hx | hx | hx | hx | hx | hx | hx <;> subst hx
      · rw [if_pos rfl, if_pos rfl, ck16 h16, Int.toNat_natCast, em 2 (by decide), hO.1]
        exact fin _
      · rw [if_neg (by decide), if_pos rfl, if_neg (by decide), if_pos rfl, ck16 h16, Int.toNat_natCast, em 3 (by decide), hO.2.1]
        exact fin _
      · rw [if_neg (by decide), if_neg (by decide), if_pos rfl, if_neg (by decide), if_neg (by decide), if_pos rfl, ck16 h16, Int.toNat_natCast, em 4 (by decide), hO.2.2.1]
        exact fin _
      · rw [if_neg (by decide), if_neg (by decide), if_neg (by decide), if_pos rfl, if_neg (by decide), if_neg (by decide), if_neg (by decide), if_pos rfl, ck16 h16, Int.toNat_natCast, em 5 (by decide), hO.2.2.2.1]
        exact fin _
      · rw [if_neg (by decide), if_neg (by decide), if_neg (by decide), if_neg (by decide), if_pos rfl, if_neg (by decide), if_neg (by decide), if_neg (by decide), if_neg (by decide), if_pos rfl, ck16 h16, Int.toNat_natCast, em 6 (by decide), hO.2.2.2.2.1]
        exact fin _
      · rw [if_neg (by decide), if_neg (by decide), if_neg (by decide), if_neg (by decide), if_neg (by decide), if_pos rfl, if_neg (by decide), if_neg (by decide), if_neg (by decide), if_neg (by decide), if_neg (by decide), if_pos rfl, ck16 h16, Int.toNat_natCast, em 7 (by decide), hO.2.2.2.2.2.1]
        exact fin _
      · rw [if_neg (by decide), if_neg (by decide), if_neg (by decide), if_neg (by decide), if_neg (by decide), if_neg (by decide), if_pos rfl, if_neg (by decide), if_neg (by decide), if_neg (by decide), if_neg (by decide), if_neg (by decide), if_neg (by decide), if_pos rfl, X9_hasTrip h16, obind_some, e, hO.2.2.2.2.2.2.2.1]
        by_cases ht : tripM (mvA C) o
        · rw [decide_eq_true ht, if_neg b2t', if_pos ht, ck16 h16, Int.toNat_natCast, em 8 (by decide)]
          exact fin _
        · rw [decide_eq_false ht, if_pos b2f', if_neg ht]
          exact fin _
      · rw [if_neg (by decide), if_neg (by decide), if_neg (by decide), if_neg (by decide), if_neg (by decide), if_neg (by decide), if_neg (by decide), if_pos rfl, if_neg (by decide), if_neg (by decide), if_neg (by decide), if_neg (by decide), if_neg (by decide), if_neg (by decide), if_neg (by decide), if_pos rfl, X9_hasTrip h16, obind_some, e, hO.2.2.2.2.2.2.2.2.1]
        by_cases ht : tripM (mvA C) o
        · rw [decide_eq_true ht, if_neg b2t', if_pos ht, ck16 h16, Int.toNat_natCast, em 9 (by decide)]
          exact fin _
        · rw [decide_eq_false ht, if_pos b2f', if_neg ht]
          exact fin _
      · rw [if_neg (by decide), if_neg (by decide), if_neg (by decide), if_neg (by decide), if_neg (by decide), if_neg (by decide), if_neg (by decide), if_neg (by decide), if_pos rfl, if_neg (by decide), if_neg (by decide), if_neg (by decide), if_neg (by decide), if_neg (by decide), if_neg (by decide), if_neg (by decide), if_neg (by decide), if_pos rfl, X9_hasTrip h16, obind_some, e, hO.2.2.2.2.2.2.2.2.2]
        by_cases ht : tripM (mvA C) o
        · rw [decide_eq_true ht, if_neg b2t', if_pos ht, X9_end h16 (by rw [e]; exact hM) (by rw [e]; exact ht), obind_some, e]
          exact fin _
        · rw [decide_eq_false ht, if_pos b2f', if_neg ht]
          exact fin _
      · rw [if_neg (by decide), if_neg (by decide), if_neg (by decide), if_neg (by decide), if_neg (by decide), if_neg (by decide), if_neg (by decide), if_neg (by decide), if_neg (by decide), if_pos rfl, if_neg (by decide), if_neg (by decide), if_neg (by decide), if_neg (by decide), if_neg (by decide), if_neg (by decide), if_neg (by decide), if_neg (by decide), if_neg (by decide), if_pos rfl, ck16 h16, Int.toNat_natCast, em 10 (by decide), hO.2.2.2.2.2.2.1]
        exact fin _
      · rw [if_neg (by decide), if_neg (by decide), if_neg (by decide), if_neg (by decide), if_neg (by decide), if_neg (by decide), if_neg (by decide), if_neg (by decide), if_neg (by decide), if_neg (by decide), if_pos rfl, if_neg (by decide), if_neg (by decide), if_neg (by decide), if_neg (by decide), if_neg (by decide), if_neg (by decide), if_neg (by decide), if_neg (by decide), if_neg (by decide), if_neg (by decide), X5_hoursOfWindow (by omega) h.2.1.1 h.1.1 hO hM, obind_some, X9_windowHours (by omega) h16 (by rw [e]; exact h.1.1) (by rw [e]; exact hM), obind_some, e]
        exact fin _
    · rw [decide_eq_false h2, if_pos b2f', X9_fails, obind_some, if_neg (by omega), if_neg (by omega), if_neg (by omega), if_neg (by omega), if_neg (by omega), if_neg (by omega), if_neg (by omega), if_neg (by omega), if_neg (by omega), if_neg (by omega), if_neg (by omega)]
      exact STEP.throw h (FX.rf A) (by omega) (FQ_thr C 2) (gI_thr C 2) (by simp)
  · rw [if_neg h1, decide_eq_false h1, obind_some, if_neg (n3 _), if_pos b2f', X9_fails, obind_some]
    exact STEP.throw h (FX.rf A) (by omega) (FQ_thr C 1) (gI_thr C 1) (by simp)
theorem X9_window42 {N : Nat} {A : AH} {o : Nat} (hN : 3000 ≤ N) (ho : o < 16) (hM : MRu (mvA A)) (hO : MO (mvA A) o) : ∀ {k n : Nat} {x : Int}, (x + k = mvA A 6 o + 1 ∨ k = 0 ∧ mvA A 6 o < x) → 0 ≤ x → x ≤ 5000 → k < n → fX9_window_42 N o n A x = if fstF (deepM (mvA A) o) k x = -1 then some (0, sI A 349 0 2) else some (fstF (deepM (mvA A) o) k x, sI A 349 0 0)
  | 0, n, x, h, h0, h5, hn => by
    match n, hn with
    | n + 1, _ =>
      rw [fX9_window_42, ck16 ho, show gI A 356 (o : Int).toNat = mvA A 6 o from rfl, if_pos (by omega), if_pos (show fstF (deepM (mvA A) o) 0 x = -1 from rfl)]
      unfold fX9_window_67
      rw [ck16 ho, show gI A 356 (o : Int).toNat = mvA A 6 o from rfl, if_neg (by omega), X9_fails, obind_some]
  | k + 1, n, x, h, h0, h5, hn => by
    have h2 := hO.2.2.2.1
    have ex : Unit → wrap (x + 1) = x + 1 := fun _ => wrap_eq (by omega) (by omega)
    match n, hn with
    | n + 1, hn =>
      rw [fX9_window_42, ck16 ho, show gI A 356 (o : Int).toNat = mvA A 6 o from rfl, if_neg (by omega), X9_isDeep (by omega) ho hM hO h0 (by omega), obind_some, fstF]
      by_cases hd : deepM (mvA A) o x = true
      · rw [hd, if_neg b2t', if_pos rfl, if_neg (by omega)]
        unfold fX9_window_67
        rw [ck16 ho, show gI A 356 (o : Int).toNat = mvA A 6 o from rfl, if_pos (by omega), bnd_eq]
      · rw [if_neg hd, Bool.not_eq_true _ |>.mp hd, if_pos b2f', bnd_eq, ex ()]
        exact X9_window42 hN ho hM hO (by omega) (by omega) (by omega) (Nat.lt_of_succ_lt_succ hn)
theorem op_window {N : Nat} {A C : AH} {x1 x2 : Int} (hN : 25000 ≤ N) (h : INV A C) : STEP [(3, 1), (6, 2)] (fX8_window N A x1 x2) (fX9_window N C x1 x2) A C := by
  unfold fX8_window fX9_window
  have thr := STEP.throw (cs := [(3, 1), (6, 2)]) (k := 3) (c := 1) (w := 0) h (FX.rf A) (by omega) (FQ_thr C 1) (gI_thr C 1) (by simp)
  rw [X8_order h.2.1, X9_isOrder, obind_some]
  by_cases h1 : 0 ≤ x1 ∧ x1 < mvA C 18 3
  · obtain ⟨o, rfl⟩ : ∃ o : Nat, x1 = o := ⟨x1.toNat, by omega⟩
    have ho := h1.2
    have h16 := h.1.o16 ho
    have hO := h.2.1.2.2.1 o ho
    have hM := h.1.2.2.1 o ho
    have h2 := hM.2.2.2.1
    rw [if_pos h1, decide_eq_true h1, obind_some, if_pos rfl, if_neg b2t', X9_isHour, obind_some]
    dsimp only
    rw [X8_hour]
    by_cases h3 : 0 ≤ x2 ∧ x2 ≤ 999
    · rw [if_pos h3, decide_eq_true h3, obind_some, if_pos rfl, if_neg b2t', ck16 h16, ck16 h16, ck16 h16]
      dsimp only
      rw [show 2 + 6 + (o : Int).toNat = 2 + 6 + o by omega, X5_firstOfWindow (by omega) h.2.1.1 h.1.1 hO hM (by omega) (by omega), obind_some, show gI C 355 (o : Int).toNat = mvA C 5 o from rfl]
      have e : (if x2 ≤ mvA C 5 o then bnd (mvA C 5 o) (fun u20 => fX9_window_42 N o N C u20) else fX9_window_42 N o N C x2) = fX9_window_42 N o N C (max x2 (mvA C 5 o)) := by
        by_cases q : x2 ≤ mvA C 5 o
        · rw [if_pos q, bnd_eq, show max x2 (mvA C 5 o) = mvA C 5 o by omega]
        · rw [if_neg q, show max x2 (mvA C 5 o) = x2 by omega]
      rw [e, X9_window42 (k := (mvA C 6 o - max x2 (mvA C 5 o) + 1).toNat) (by omega) h16 h.1.1 hM (by omega) (by omega) (by omega) (by omega)]
      unfold firstW
      by_cases q : fstF (deepM (mvA C) o) (mvA C 6 o - max x2 (mvA C 5 o) + 1).toNat (max x2 (mvA C 5 o)) = -1
      · rw [if_pos q, if_pos q]
        exact STEP.throw h (FX.rf A) (by omega) (FQ_thr C 2) (gI_thr C 2) (by simp)
      · rw [if_neg q, if_neg q]
        exact STEP.query h (FX.rf A) (by omega) (FQ_thr C 0) (gI_thr C 0)
    · rw [if_neg h3, decide_eq_false h3, obind_some, if_neg (n3 _), if_pos b2f', X9_fails, obind_some]
      exact thr
  · rw [if_neg h1, decide_eq_false h1, obind_some, if_neg (n3 _), if_pos b2f', X9_fails, obind_some]
    exact thr
theorem op_hinders {N : Nat} {A C : AH} {x1 x2 x3 : Int} (hN : 25000 ≤ N) (h : INV A C) : STEP [(3, 1)] (fX8_hinders N A x1 x2 x3) (fX9_hinders N C x1 x2 x3) A C := by
  unfold fX8_hinders fX9_hinders
  have thr := STEP.throw (cs := [(3, 1)]) (k := 3) (c := 1) (w := 0) h (FX.rf A) (by omega) (FQ_thr C 1) (gI_thr C 1) (by simp)
  rw [X8_order h.2.1, X9_isOrder, obind_some]
  by_cases h1 : 0 ≤ x1 ∧ x1 < mvA C 18 3
  · obtain ⟨o, rfl⟩ : ∃ o : Nat, x1 = o := ⟨x1.toNat, by omega⟩
    have ho := h1.2
    have h16 := h.1.o16 ho
    have hO := h.2.1.2.2.1 o ho
    have hM := h.1.2.2.1 o ho
    rw [if_pos h1, decide_eq_true h1, obind_some, if_pos rfl, if_neg b2t', X9_isPilot, obind_some]
    dsimp only
    rw [X8_pilot h.2.1]
    by_cases h2 : 0 ≤ x2 ∧ x2 < mvA C 18 1
    · obtain ⟨p, rfl⟩ : ∃ p : Nat, x2 = p := ⟨x2.toNat, by omega⟩
      have hp := h2.2
      have hp6 := h.1.p6 hp
      obtain ⟨L, l1, l2⟩ := h.2.1.2.2.2.1 p hp
      rw [if_pos h2, decide_eq_true h2, obind_some, if_pos rfl, if_neg b2t', X9_isHour, obind_some]
      dsimp only
      rw [X8_hour]
      by_cases h3 : 0 ≤ x3 ∧ x3 ≤ 999
      · have e : mvA (sI C 349 0 0) = mvA C := mvA_thr C 0
        rw [if_pos h3, decide_eq_true h3, obind_some, if_pos rfl, if_neg b2t', ck16 h16, ck6 hp6]
        dsimp only
        rw [show 2 + 6 + (o : Int).toNat = 2 + 6 + o by omega, show 2 + 22 + (p : Int).toNat = 2 + 22 + p by omega, X5_reasonTrip (by omega) (by have := l2.len h.1.2.1; omega) h.2.1.1 h.1.1 h.2.1.2.1.1 h.1.2.1 hO hM l1 l2, obind_some, l2.why, bnd_eq, X9_whyNotTrip (by omega) h16 hp6 (by rw [e]; exact h.1.1) (by rw [e]; exact h.1.2.1) (by rw [e]; exact h.1.2.2.1) (by rw [e]; exact hM), obind_some, e]
        exact STEP.query h (FX.rf A) (by omega) ((FQ_thr C 0).tr ((FQ_setL _ _).mono SS_ST)) (by rw [gI_setL (by omega), gI_thr])
      · rw [if_neg h3, decide_eq_false h3, obind_some, if_neg (n3 _), if_pos b2f', X9_fails, obind_some]
        exact thr
    · rw [if_neg h2, decide_eq_false h2, obind_some, if_neg (n3 _), if_pos b2f', X9_fails, obind_some]
      exact thr
  · rw [if_neg h1, decide_eq_false h1, obind_some, if_neg (n3 _), if_pos b2f', X9_fails, obind_some]
    exact thr
