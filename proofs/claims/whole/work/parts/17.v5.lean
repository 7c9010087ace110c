/-! calls: numbers, means, shares, what is kept -/
theorem X8_number68 {N : Nat} {A : AH} {x : Int} (h : x < 0 ∨ 3 < x) (h2 : x < 20 ∨ 25 ≤ x) (h3 : x < 30 ∨ 42 ≤ x) : fX8_number N A x = fX8_number_68 N A x := by
  have e2 : fX8_number_43 N A x = fX8_number_68 N A x := by
    unfold fX8_number_43
    by_cases q : x < 30
    · rw [if_pos q]
    · rw [if_neg q, if_pos (by omega)]
  have e1 : fX8_number_18 N A x = fX8_number_68 N A x := by
    unfold fX8_number_18
    by_cases q : x < 20
    · rw [if_pos q, e2]
    · rw [if_neg q, if_pos (by omega), e2]
  unfold fX8_number
  by_cases q : x < 0
  · rw [if_pos q, e1]
  · rw [if_neg q, if_pos (by omega), e1]
theorem sum_count {M : MR} (w : Int) (k : Nat) : 0 ≤ sumN (fun o => if M 7 o = w then (1 : Int) else 0) k 0 ∧ sumN (fun o => if M 7 o = w then (1 : Int) else 0) k 0 ≤ 1 * (k : Int) := sumN_nn (fun i _ _ => by
  show 0 ≤ (if M 7 i = w then (1 : Int) else 0) ∧ (if M 7 i = w then (1 : Int) else 0) ≤ 1
  split <;> decide)
theorem op_number {N : Nat} {A C : AH} {x1 : Int} (hN : 25000 ≤ N) (h : INV A C) : STEP [(1, 1)] (fX8_number N A x1) (fX9_number N C x1) A C := by
  have c1 := h.1.2.1.2.1
  have c2 := h.1.2.1.2.2.1
  have c3 := h.1.2.1.2.2.2.1
  have c4 := h.1.2.1.2.2.2.2
  have e : mvA (sI C 349 0 0) = mvA C := mvA_thr C 0
  have hGe : GD (mvA (sI C 349 0 0)) := by rw [e]; exact h.1
  have fin : ∀ v : Int, STEP [(1, 1)] (some (0, v, A)) (some (v, sI C 349 0 0)) A C := fun v => STEP.query h (FX.rf A) (by omega) (FQ_thr C 0) (gI_thr C 0)
  have m38 : ((0 ≤ x1 ∧ x1 ≤ 13) ∨ (20 ≤ x1 ∧ x1 ≤ 24) ∨ (30 ≤ x1 ∧ x1 ≤ 41)) → fX9_number N C x1 = fX9_number_38 N C x1 := by
    intro q
    unfold fX9_number
    rw [X9_isBetween, bt_in, obind_some, X9_isBetween, bt_in, obind_some, X9_isBetween, bt_in, obind_some]
    by_cases q1 : 0 ≤ x1 ∧ x1 ≤ 13
    · rw [decide_eq_true q1, if_neg b2t']
    · rw [decide_eq_false q1, if_pos b2f']
      by_cases q2 : 20 ≤ x1 ∧ x1 ≤ 24
      · rw [decide_eq_true q2, if_neg b2t']
      · rw [decide_eq_false q2, if_pos b2f', decide_eq_true (show 30 ≤ x1 ∧ x1 ≤ 41 by omega), if_neg b2t']
  by_cases hA : 0 ≤ x1 ∧ x1 ≤ 3
  · rw [m38 (by omega)]
    have q1 := X5_ordersIn4 (N := N) (w := x1) h.1 h.2.1 (k := (mvA C 18 3).toNat) (n := N) (a := 0) (acc := 0) (nat0 c3.1) (by omega) inR_0
    have q2 := X9_inState4 (N := N) (A := sI C 349 0 0) (w := x1) hGe (k := (mvA C 18 3).toNat) (n := N) (a := 0) (acc := 0) (by rw [e]; exact nat0 c3.1) (by omega) inR_0
    rw [e] at q2
    have q1' : fX5_ordersIn N A 2 x1 = _ := q1
    have q2' : fX9_inState N (sI C 349 0 0) x1 = _ := q2
    unfold fX8_number fX9_number_38
    rw [if_neg (by omega), if_neg (by omega), bnd_eq, if_pos (by omega), if_pos (by omega), q1', obind_some]
    have hx : x1 = 0 ∨ x1 = 1 ∨ x1 = 2 ∨ x1 = 3 := by omega
    rcases hx with hx | hx | hx | hx <;> subst hx
    · rw [if_pos rfl, q2', obind_some]; exact fin _
    · rw [if_neg (by decide), if_pos rfl, q2', obind_some]; exact fin _
    · rw [if_neg (by decide), if_neg (by decide), if_pos rfl, q2', obind_some]; exact fin _
    · rw [if_neg (by decide), if_neg (by decide), if_neg (by decide), if_pos rfl, q2', obind_some]; exact fin _
  · by_cases hC : 20 ≤ x1 ∧ x1 ≤ 24
    · rw [m38 (by omega)]
      unfold fX8_number fX8_number_18 fX9_number_38
      obtain ⟨i, hi⟩ : ∃ i : Nat, x1 = 20 + i := ⟨(x1 - 20).toNat, by omega⟩
      have ew : wrap (x1 - 20) = (i : Int) := by rw [wrap_eq (by omega) (by omega)]; omega
      have er : gI (sI C 349 0 0) 350 i = mvA C 0 i := by rw [← e]; rfl
      rw [if_neg (by omega), if_pos (by omega), if_neg (by omega), if_neg (by omega), ew, chk_pos _ (by omega), bnd_eq, if_pos (by omega), if_neg (by omega), chk_pos _ (by omega), Int.toNat_natCast, er, show (2 + 1 : Nat) = 2 + 1 from rfl, h.2.1.1.1 i (by omega)]
      exact fin _
    · by_cases hD : 30 ≤ x1 ∧ x1 ≤ 41
      · rw [m38 (by omega)]
        unfold fX8_number fX8_number_18 fX8_number_43 fX9_number_38
        obtain ⟨i, hi⟩ : ∃ i : Nat, x1 = 30 + i := ⟨(x1 - 30).toNat, by omega⟩
        have ew : wrap (x1 - 30) = (i : Int) := by rw [wrap_eq (by omega) (by omega)]; omega
        have er : gI (sI C 349 0 0) 351 i = mvA C 1 i := by rw [← e]; rfl
        rw [if_neg (by omega), if_pos (by omega), if_neg (by omega), if_pos (by omega), if_neg (by omega), if_neg (by omega), ew, chk_pos _ (by omega), bnd_eq, if_neg (by omega), chk_pos _ (by omega), Int.toNat_natCast, er, h.2.1.1.2 i (by omega)]
        exact fin _
      · rw [X8_number68 (by omega) (by omega) (by omega)]
        unfold fX8_number_68
        by_cases hB : 4 ≤ x1 ∧ x1 ≤ 13
        · rw [m38 (by omega)]
          unfold fX9_number_38
          rw [bnd_eq, if_pos (show x1 < 30 by omega), if_pos (show x1 < 20 by omega)]
          have hpl : ∀ p : Nat, (p : Int) < mvA C 18 1 → placeM (mvA C) p (mvA C 18 0) = -1 ∨ 0 ≤ placeM (mvA C) p (mvA C 18 0) := fun p hp => by
            obtain ⟨L, l1, l2⟩ := h.2.1.2.2.2.1 p hp
            rw [l2.place]
            exact place_rng h.1 l2
          have ov : ∀ w : Int, fX9_overPilots N (sI C 349 0 0) w = some (wrap (sumN (fun p => ovM (mvA C) w p) (mvA C 18 1).toNat 0)) := fun w => by
            have q := X9_over4 (N := N) (A := sI C 349 0 0) (w := w) (by omega) hGe (by rw [e]; exact hpl) (k := (mvA C 18 1).toNat) (n := N) (a := 0) (acc := 0) (by rw [e]; exact nat0 c1.1) (by omega) inR_0
            rw [e, wz] at q
            exact q
          have hx : x1 = 4 ∨ x1 = 5 ∨ x1 = 6 ∨ x1 = 7 ∨ x1 = 8 ∨ x1 = 9 ∨ x1 = 10 ∨ x1 = 11 ∨ x1 = 12 ∨ x1 = 13 := by omega
          rcases hx with hx | hx | hx | hx | hx | hx | hx | hx | hx | hx <;> subst hx
          · rw [if_pos rfl, if_neg (by decide), if_neg (by decide), if_neg (by decide), if_neg (by decide), if_pos rfl, h.2.1.2.1.1, show gI (sI C 349 0 0) 349 19 = mvA C 18 0 from by rw [← e]; rfl]
            exact fin _
          · rw [if_neg (by decide), if_pos rfl, if_neg (by decide), if_neg (by decide), if_neg (by decide), if_neg (by decide), if_neg (by decide), if_pos rfl, h.2.1.2.1.2.2.1, show gI (sI C 349 0 0) 349 20 = mvA C 18 1 from by rw [← e]; rfl]
            exact fin _
          · rw [if_neg (by decide), if_neg (by decide), if_pos rfl, if_neg (by decide), if_neg (by decide), if_neg (by decide), if_neg (by decide), if_neg (by decide), if_neg (by decide), if_pos rfl, h.2.1.2.1.2.2.2, show gI (sI C 349 0 0) 349 21 = mvA C 18 2 from by rw [← e]; rfl]
            exact fin _
          · have q : fX5_allRuns N A 2 = some (mvA C 18 4) := by
              refine (X5_allRuns4 (N := N) h.1 h.2.1 (k := (mvA C 18 2).toNat) (n := N) (a := 0) (acc := 0) (nat0 c2.1) (by omega) inR_0).trans ?_
              rw [wz, show sumN (fun b => mvA C 15 b) (mvA C 18 2).toNat 0 = mvA C 18 4 from h.1.2.2.2.2.2.1.symm, wrap_eq (by omega) (by omega)]
            rw [if_neg (by decide), if_neg (by decide), if_neg (by decide), if_pos rfl, q, obind_some, if_neg (by decide), if_neg (by decide), if_neg (by decide), if_neg (by decide), if_neg (by decide), if_neg (by decide), if_neg (by decide), if_pos rfl, show gI (sI C 349 0 0) 349 23 = mvA C 18 4 from by rw [← e]; rfl]
            exact fin _
          · have q : fX5_allRides N A 2 = some (wrap (sumN (fun p => ovM (mvA C) 8 p) (mvA C 18 1).toNat 0)) := by
              refine (X5_allRides4 (N := N) h.1 h.2.1 (k := (mvA C 18 2).toNat) (n := N) (a := 0) (acc := 0) (nat0 c2.1) (by omega) inR_0).trans ?_
              rw [wz, rides_all h.1]
              rfl
            rw [if_neg (by decide), if_neg (by decide), if_neg (by decide), if_neg (by decide), if_pos rfl, q, obind_some, if_neg (by decide), if_neg (by decide), if_neg (by decide), if_neg (by decide), if_neg (by decide), if_neg (by decide), if_neg (by decide), if_neg (by decide), if_pos rfl, ov, obind_some]
            exact fin _
          · have q : fX5_allTripHours N A 2 = some (wrap (sumN (fun p => ovM (mvA C) 9 p) (mvA C 18 1).toNat 0)) := by
              refine (X5_allTripHours4 (N := N) h.1 h.2.1 (k := (mvA C 18 3).toNat) (n := N) (a := 0) (acc := 0) (nat0 c3.1) (by omega) inR_0).trans ?_
              rw [wz, hours_all h.1]
              rfl
            rw [if_neg (by decide), if_neg (by decide), if_neg (by decide), if_neg (by decide), if_neg (by decide), if_pos rfl, q, obind_some, if_neg (by decide), if_neg (by decide), if_neg (by decide), if_neg (by decide), if_neg (by decide), if_neg (by decide), if_neg (by decide), if_neg (by decide), if_neg (by decide), if_pos rfl, ov, obind_some]
            exact fin _
          · have q : fX5_allPutOffs N A 2 = _ := X5_allPutOffs4 (N := N) h.1 h.2.1 (k := (mvA C 18 3).toNat) (n := N) (a := 0) (acc := 0) (nat0 c3.1) (by omega) inR_0
            have q2 := X9_allPutOffs4 (N := N) (A := sI C 349 0 0) hGe (k := (mvA C 18 3).toNat) (n := N) (a := 0) (acc := 0) (by rw [e]; exact nat0 c3.1) (by omega) inR_0
            rw [e] at q2
            have q2' : fX9_allPutOffs N (sI C 349 0 0) = _ := q2
            rw [if_neg (by decide), if_neg (by decide), if_neg (by decide), if_neg (by decide), if_neg (by decide), if_neg (by decide), if_pos rfl, q, obind_some, if_neg (by decide), if_neg (by decide), if_neg (by decide), if_neg (by decide), if_neg (by decide), if_neg (by decide), if_neg (by decide), if_neg (by decide), if_neg (by decide), if_neg (by decide), if_pos rfl, q2', obind_some]
            exact fin _
          · have q : fX5_pilotsUnderWay N A 2 = some (wrap (sumN (fun p => ovM (mvA C) 11 p) (mvA C 18 1).toNat 0)) := by
              refine (X5_underWay4 (N := N) (by omega) h.1 h.2.1 (k := (mvA C 18 1).toNat) (n := N) (a := 0) (acc := 0) (nat0 c1.1) (by omega) inR_0).trans ?_
              rw [wz]
              rfl
            rw [if_neg (by decide), if_neg (by decide), if_neg (by decide), if_neg (by decide), if_neg (by decide), if_neg (by decide), if_neg (by decide), if_pos rfl, q, obind_some, if_neg (by decide), if_neg (by decide), if_neg (by decide), if_neg (by decide), if_neg (by decide), if_neg (by decide), if_neg (by decide), if_neg (by decide), if_neg (by decide), if_neg (by decide), if_neg (by decide), if_pos rfl, ov, obind_some]
            exact fin _
          · obtain ⟨f, c, r1, r2, r3, r4, r5⟩ := h.2.2.1.ring
            rw [if_neg (by decide), if_neg (by decide), if_neg (by decide), if_neg (by decide), if_neg (by decide), if_neg (by decide), if_neg (by decide), if_neg (by decide), if_pos rfl, r4, if_neg (by decide), if_neg (by decide), if_neg (by decide), if_neg (by decide), if_neg (by decide), if_neg (by decide), if_neg (by decide), if_neg (by decide), if_neg (by decide), if_neg (by decide), if_neg (by decide), if_neg (by decide), if_pos rfl, gI_sI, if_neg (by omega), r5]
            exact fin _
          · rw [if_neg (by decide), if_neg (by decide), if_neg (by decide), if_neg (by decide), if_neg (by decide), if_neg (by decide), if_neg (by decide), if_neg (by decide), if_neg (by decide), if_pos rfl, h.2.2.2.2.1.1, if_neg (by decide), if_neg (by decide), if_neg (by decide), if_neg (by decide), if_neg (by decide), if_neg (by decide), if_neg (by decide), if_neg (by decide), if_neg (by decide), if_neg (by decide), if_neg (by decide), if_neg (by decide), if_neg (by decide), gI_sI, if_neg (by omega)]
            exact fin _
        · rw [if_neg (by omega), if_neg (by omega), if_neg (by omega), if_neg (by omega), if_neg (by omega), if_neg (by omega), if_neg (by omega), if_neg (by omega), if_neg (by omega), if_neg (by omega)]
          unfold fX9_number
          rw [X9_isBetween, bt_in, obind_some, X9_isBetween, bt_in, obind_some, X9_isBetween, bt_in, obind_some, decide_eq_false (show ¬ (0 ≤ x1 ∧ x1 ≤ 13) by omega), if_pos b2f', decide_eq_false hC, if_pos b2f', decide_eq_false hD, if_pos b2f', X9_fails, obind_some]
          exact STEP.throw h (FX.rf A) (by omega) (FQ_thr C 1) (gI_thr C 1) (by simp)
/-! means and shares -/
theorem X9_mean6 {N : Nat} {A : AH} (hG : GD (mvA A)) : ∀ {k n a : Nat} {s c : Int}, (a : Int) + k = mvA A 18 3 → k < n → inR s → (0 ≤ c ∧ c ≤ a) → fX9_meanWait_6 N n A s c a = (if c + sumN (fun o => if tripM (mvA A) o then 1 else 0) k a = 0 then fX9_meanWait_60 N A (wrap (s + sumN (fun o => if tripM (mvA A) o then mvA A 9 o - mvA A 5 o else 0) k a)) (c + sumN (fun o => if tripM (mvA A) o then 1 else 0) k a) 1 else fX9_meanWait_60 N A (wrap (s + sumN (fun o => if tripM (mvA A) o then mvA A 9 o - mvA A 5 o else 0) k a)) (c + sumN (fun o => if tripM (mvA A) o then 1 else 0) k a) 0)
  | 0, n, a, s, c, h, hn, hr, hc => by
    match n, hn with
    | n + 1, _ =>
      rw [fX9_meanWait_6, show gI A 349 22 = mvA A 18 3 from rfl, if_pos (ge_z h), sumN, sumN, Int.add_zero, Int.add_zero, wrap_of hr]
  | k + 1, n, a, s, c, h, hn, hr, hc => by
    have ha := lt_sc h
    have h16 := hG.o16 ha
    have ea : Unit → wrap ((a : Int) + 1) = ((a + 1 : Nat) : Int) := fun _ => wrap_eq (by omega) (by omega)
    have ec : Unit → wrap (c + 1) = c + 1 := fun _ => wrap_eq (by omega) (by omega)
    match n, hn with
    | n + 1, hn =>
      rw [fX9_meanWait_6, show gI A 349 22 = mvA A 18 3 from rfl, if_neg (Int.not_le.mpr ha), X9_hasTrip h16, obind_some, sumN, sumN]
      by_cases ht : tripM (mvA A) a
      · have ih := X9_mean6 (N := N) hG (k := k) (n := n) (a := a + 1) (s := wrap (s + wrap (mvA A 9 a - mvA A 5 a))) (c := c + 1) (by rw [sc_cast]; exact h) (Nat.lt_of_succ_lt_succ hn) (wrap_inR _) (by omega)
        rw [decide_eq_true ht, if_neg b2t', if_pos ht, if_pos ht, ck16 h16, ck16 h16, show gI A 359 (a : Int).toNat = mvA A 9 a from rfl, show gI A 355 (a : Int).toNat = mvA A 5 a from rfl]
        simp only [bnd_eq]
        rw [ea (), ec (), ih, wrap_addw, wrap_wadd, Int.add_assoc, Int.add_assoc]
      · have ih := X9_mean6 (N := N) hG (k := k) (n := n) (a := a + 1) (s := s) (c := c) (by rw [sc_cast]; exact h) (Nat.lt_of_succ_lt_succ hn) hr (by omega)
        rw [decide_eq_false ht, if_pos b2f', if_neg ht, if_neg ht, bnd_eq, ea (), ih, Int.zero_add, Int.zero_add]
def STEPD (cs : List (Nat × Int)) (r8 : Option (Nat × UInt64 × AH)) (r9 : Option (UInt64 × AH)) (A C : AH) : Prop :=
  ∃ (k : Nat) (v : UInt64) (A' : AH) (w : UInt64) (C' : AH), r8 = some (k, v, A') ∧ r9 = some (w, C') ∧ ((k = 0 ∧ gI C' 349 0 = 0 ∧ v = w) ∨ (k, gI C' 349 0) ∈ cs) ∧ FX 430 XA A A' ∧ FQ SM C C' ∧ INV A' C'
theorem op_meanWait {N : Nat} {A C : AH} (hN : 25000 ≤ N) (h : INV A C) : STEPD [(4, 1)] (fX8_meanWait N A) (fX9_meanWait N C) A C := by
  have c3 := h.1.2.1.2.2.2.1
  have q1 := X5_ordersIn4 (N := N) (w := 1) h.1 h.2.1 (k := (mvA C 18 3).toNat) (n := N) (a := 0) (acc := 0) (nat0 c3.1) (by omega) inR_0
  have q2 := X5_ordersIn4 (N := N) (w := 2) h.1 h.2.1 (k := (mvA C 18 3).toNat) (n := N) (a := 0) (acc := 0) (nat0 c3.1) (by omega) inR_0
  have q3 := X5_allWaits4 (N := N) h.1 h.2.1 (k := (mvA C 18 3).toNat) (n := N) (a := 0) (acc := 0) (nat0 c3.1) (by omega) inR_0
  have q4 := X9_mean6 (N := N) (A := C) h.1 (k := (mvA C 18 3).toNat) (n := N) (a := 0) (s := 0) (c := 0) (nat0 c3.1) (by omega) inR_0 (by omega)
  have s1 := sum_count (M := mvA C) 1 (mvA C 18 3).toNat
  have s2 := sum_count (M := mvA C) 2 (mvA C 18 3).toNat
  have sT : sumN (fun o => if tripM (mvA C) o then 1 else 0) (mvA C 18 3).toNat 0 = sumN (fun o => if mvA C 7 o = 1 then 1 else 0) (mvA C 18 3).toNat 0 + sumN (fun o => if mvA C 7 o = 2 then 1 else 0) (mvA C 18 3).toNat 0 := by
    rw [← sumN_add]
    refine sumN_congr (fun i _ _ => ?_)
    by_cases e1 : mvA C 7 i = 1
    · rw [if_pos (Or.inl e1), if_pos e1, if_neg (by omega)]
      rfl
    · by_cases e2 : mvA C 7 i = 2
      · rw [if_pos (Or.inr e2), if_neg e1, if_pos e2]
        rfl
      · rw [if_neg (fun z => z.elim e1 e2), if_neg e1, if_neg e2]
        rfl
  have q1' : fX5_ordersIn N A 2 1 = _ := q1
  have q2' : fX5_ordersIn N A 2 2 = _ := q2
  have q3' : fX5_allWaits N A 2 = _ := q3
  have q4' : fX9_meanWait N C = _ := q4
  rw [wz] at q1' q2' q3' q4'
  rw [Int.zero_add] at q4'
  rw [wrap_eq (by omega) (by omega)] at q1' q2'
  unfold fX8_meanWait
  rw [q1', obind_some, q2', obind_some, q4']
  obtain ⟨T, hT⟩ : ∃ T : Nat, sumN (fun o => if tripM (mvA C) o then (1 : Int) else 0) (mvA C 18 3).toNat 0 = T := ⟨(sumN (fun o => if tripM (mvA C) o then (1 : Int) else 0) (mvA C 18 3).toNat 0).toNat, by omega⟩
  have sTT : 0 ≤ sumN (fun o => if tripM (mvA C) o then (1 : Int) else 0) (mvA C 18 3).toNat 0 ∧ sumN (fun o => if tripM (mvA C) o then (1 : Int) else 0) (mvA C 18 3).toNat 0 ≤ 1 * ((mvA C 18 3).toNat : Int) := sumN_nn (fun i _ _ => by
    show 0 ≤ (if tripM (mvA C) i then (1 : Int) else 0) ∧ (if tripM (mvA C) i then (1 : Int) else 0) ≤ 1
    split <;> decide)
  have hT16 : T ≤ 16 := by omega
  rw [hT]
  rw [hT] at sT
  rw [bnd_eq, ← sT, wrap_eq (by omega) (by omega)]
  generalize sumN (fun o => if tripM (mvA C) o then mvA C 9 o - mvA C 5 o else 0) (mvA C 18 3).toNat 0 = W at q3' ⊢
  unfold fX9_meanWait_60
  by_cases e : (T : Int) = 0
  · rw [if_pos e, if_pos e, bnd_eq, if_pos e]
    have x := FX_nX A (S := XQ) h.2.2.2.2.2.2.2
    exact ⟨4, 0, nX A, FP.dconst0, sI C 349 0 1, rfl, rfl, Or.inr (by rw [gI_thr]; simp), x.mono (by omega) (fun a _ q => XQ_XA a q), (FQ_thr C 1).mono ST_SM, h.query x (FQ_thr C 1)⟩
  · have hn := ddiv_num (x := wrap W) (n := T) (wrap_inR _) (by omega) (by omega)
    rw [if_neg e, if_neg e, bnd_eq, if_neg e, q3', obind_some, chk_pos _ hn, chk_pos _ hn]
    exact ⟨0, _, A, _, sI C 349 0 0, rfl, rfl, Or.inl ⟨rfl, gI_thr C 0, rfl⟩, (FX.rf A).mono (by omega) (fun _ _ q => q), (FQ_thr C 0).mono ST_SM, h.query (FX.rf A) (FQ_thr C 0)⟩
def STEPF (cs : List (Nat × Int)) (r8 : Option (Nat × UInt32 × AH)) (r9 : Option (UInt32 × AH)) (A C : AH) : Prop :=
  ∃ (k : Nat) (v : UInt32) (A' : AH) (w : UInt32) (C' : AH), r8 = some (k, v, A') ∧ r9 = some (w, C') ∧ ((k = 0 ∧ gI C' 349 0 = 0 ∧ v = w ∧ FP.f2d v &&& 0x7fffffffffffffff ≤ 0x7ff0000000000000) ∨ (k, gI C' 349 0) ∈ cs) ∧ FX 430 XA A A' ∧ FQ SM C C' ∧ INV A' C'
theorem op_share {N : Nat} {A C : AH} {x1 : Int} (hN : 25000 ≤ N) (h : INV A C) : STEPF [(3, 1), (4, 2)] (fX8_share N A x1) (fX9_share N C x1) A C := by
  have c0 := h.1.2.1.1
  have c3 := h.1.2.1.2.2.2.1
  have x := FX_nX A (S := XQ) h.2.2.2.2.2.2.2
  have thr : ∀ (k : Nat) (c : Int), (k, c) ∈ [((3 : Nat), (1 : Int)), (4, 2)] → c ≠ 0 → 0 ≤ c → STEPF [(3, 1), (4, 2)] (some (k, 0, nX A)) (fX9_share_25 N C x1 c) A C := by
    intro k c hk hc hc2
    unfold fX9_share_25
    rw [bnd_eq, gI_thr, if_neg (by omega)]
    exact ⟨k, 0, nX A, FP.fconst0, sI C 349 0 c, rfl, rfl, Or.inr (by rw [gI_thr]; exact hk), x.mono (by omega) (fun a _ q => XQ_XA a q), (FQ_thr C c).mono ST_SM, h.query x (FQ_thr C c)⟩
  unfold fX8_share fX9_share
  rw [X8_pilot h.2.1, X9_isPilot, obind_some, show gI C 349 19 = mvA C 18 0 from rfl]
  by_cases h1 : 0 ≤ x1 ∧ x1 < mvA C 18 1
  · obtain ⟨p, rfl⟩ : ∃ p : Nat, x1 = p := ⟨x1.toNat, by omega⟩
    have hp := h1.2
    have hp6 := h.1.p6 hp
    obtain ⟨L, l1, l2⟩ := h.2.1.2.2.2.1 p hp
    have hlen := l2.len h.1.2.1
    rw [if_pos h1, decide_eq_true h1, obind_some, if_pos rfl, if_neg b2t']
    dsimp only
    rw [h.2.1.2.1.1]
    by_cases h0 : mvA C 18 0 = 0
    · rw [if_pos h0, if_pos h0]
      exact thr 4 2 (by simp) (by decide) (by decide)
    · have e : mvA (sI C 349 0 0) = mvA C := mvA_thr C 0
      have hGe : GD (mvA (sI C 349 0 0)) := by rw [e]; exact h.1
      have q1 := X9_hoursBefore4 (N := N) (A := sI C 349 0 0) (p := p) hGe (k := (mvA C 18 3).toNat) (n := N) (a := 0) (acc := 0) (by rw [e]; exact nat0 c3.1) (by omega) inR_0
      rw [e, ← l2.hours] at q1
      have q1' : fX9_hoursBefore N (sI C 349 0 0) p = _ := q1
      obtain ⟨T, hT⟩ : ∃ T : Nat, mvA C 18 0 = T := ⟨(mvA C 18 0).toNat, by omega⟩
      have hn := fdiv_num (x := wrap (0 + (L.map (tripH (mvA C 18 0))).sum)) (n := T) (wrap_inR _) (by omega) (by omega)
      rw [← hT] at hn
      rw [if_neg h0, if_neg h0, ck6 hp6, show 2 + 22 + (p : Int).toNat = 2 + 22 + p by omega]
      unfold fX4_tripHours fX9_share_25
      rw [X4_tripHours7 l1.2.2 (by omega) inR_0, obind_some, bnd_eq, gI_thr, if_pos (Int.le_refl 0), q1', obind_some, show gI (sI C 349 0 0) 349 19 = mvA C 18 0 from by rw [← e]; rfl, chk_pos _ hn.1, chk_pos _ hn.1]
      exact ⟨0, _, A, _, sI C 349 0 0, rfl, rfl, Or.inl ⟨rfl, gI_thr C 0, rfl, hn.2⟩, (FX.rf A).mono (by omega) (fun _ _ q => q), (FQ_thr C 0).mono ST_SM, h.query (FX.rf A) (FQ_thr C 0)⟩
  · rw [if_neg h1, decide_eq_false h1, obind_some, if_neg (n3 _), if_pos b2f']
    exact thr 3 1 (by simp) (by decide) (by decide)
theorem op_faultPosition {N : Nat} {A C : AH} (h : INV A C) : STEP [(6, 1)] (fX8_faultPosition N A) (fX9_faultPosition N C) A C := by
  obtain ⟨k1, k2, k3, k4⟩ := h.2.2.2.2.2.1
  unfold fX8_faultPosition fX9_faultPosition
  rw [k1]
  by_cases e : gI C 349 37 = -1
  · rw [if_pos e, if_neg (by omega), X9_fails, obind_some]
    exact STEP.throw h (FX.rf A) (by omega) (FQ_thr C 1) (gI_thr C 1) (by simp)
  · rw [if_neg e, if_pos (by omega), bnd_eq, gI_sI, if_neg (by omega)]
    exact STEP.query h (FX.rf A) (by omega) (FQ_thr C 0) (gI_thr C 0)
theorem op_refusal {N : Nat} {A C : AH} {x1 : Int} (h : INV A C) : STEP [(6, 1)] (fX8_refusal N A x1) (fX9_refusal N C x1) A C := by
  obtain ⟨k1, k2, k3, k4⟩ := h.2.2.2.2.2.1
  unfold fX8_refusal fX9_refusal
  rw [k2, k3]
  by_cases e : gI C 349 29 = 0
  · rw [if_pos e, if_pos e, X9_fails, obind_some]
    exact STEP.throw h (FX.rf A) (by omega) (FQ_thr C 1) (gI_thr C 1) (by simp)
  · rw [if_neg e, if_neg e, bnd_eq, show gI (sI C 349 0 0) 349 30 = gI C 349 30 from by rw [gI_sI, if_neg (by omega)], show gI (sI C 349 0 0) 349 29 = gI C 349 29 from by rw [gI_sI, if_neg (by omega)]]
    by_cases e2 : x1 = 0
    · rw [if_pos e2, if_pos e2]
      exact STEP.query h (FX.rf A) (by omega) (FQ_thr C 0) (gI_thr C 0)
    · rw [if_neg e2, if_neg e2]
      exact STEP.query h (FX.rf A) (by omega) (FQ_thr C 0) (gI_thr C 0)
