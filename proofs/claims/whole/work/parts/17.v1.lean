/-! accounts: sums -/
theorem X3_hasTrip {N : Nat} {A : AH} {y o : Nat} {M : MR} (hO : PO A y M o) : fX3_hasTrip N A y = some (b2i (decide (tripM M o))) := by
  unfold fX3_hasTrip
  rw [hO.2.2.2.2.2.1]
  by_cases h1 : M 7 o = 1
  · rw [if_pos h1, decide_eq_true (Or.inl h1)]; rfl
  · rw [if_neg h1]
    by_cases h2 : M 7 o = 2
    · rw [if_pos h2, decide_eq_true (Or.inr h2)]; rfl
    · rw [if_neg h2, decide_eq_false (fun z => z.elim h1 h2)]; rfl
theorem X5_ordersIn4 {N : Nat} {A : AH} {r : Nat} {M : MR} {w : Int} (hG : GD M) (hP : RP A r M) : ∀ {k n a : Nat} {acc : Int}, (a : Int) + k = M 18 3 → k < n → inR acc → fX5_ordersIn_4 N A r w n acc a = some (wrap (acc + sumN (fun o => if M 7 o = w then 1 else 0) k a))
  | 0, n, a, acc, h, hn, hr => by
    match n, hn with
    | n + 1, _ =>
      rw [fX5_ordersIn_4, hP.2.1.2.1, if_pos (ge_z h), sumN, Int.add_zero, wrap_of hr]
  | k + 1, n, a, acc, h, hn, hr => by
    have ha := lt_sc h
    have h16 := hG.o16 ha
    have hO := hP.2.2.1 a ha
    have ea : Unit → wrap ((a : Int) + 1) = ((a + 1 : Nat) : Int) := fun _ => wrap_eq (by omega) (by omega)
    match n, hn with
    | n + 1, hn =>
      have ih := fun (acc : Int) (hr : inR acc) => X5_ordersIn4 (N := N) (w := w) hG hP (k := k) (n := n) (a := a + 1) (acc := acc) (by rw [sc_cast]; exact h) (Nat.lt_of_succ_lt_succ hn) hr
      rw [fX5_ordersIn_4, hP.2.1.2.1, if_neg (Int.not_le.mpr ha), sumN]
      rw [ck16 h16, Int.toNat_natCast, hO.2.2.2.2.2.1]
      by_cases e : M 7 a = w
      · rw [if_pos e, if_pos e]
        simp only [bnd_eq]
        rw [ea ()]
        rw [ih _ (wrap_inR _), wrap_wadd, Int.add_assoc]
      · rw [if_neg e, if_neg e, bnd_eq, ea (), ih _ hr, Int.zero_add]
theorem X5_tripsDone4 {N : Nat} {A : AH} {r : Nat} {M : MR} {p : Nat} (hG : GD M) (hP : RP A r M) : ∀ {k n a : Nat} {acc : Int}, (a : Int) + k = M 18 3 → k < n → inR acc → fX5_tripsDone_4 N A r p n acc a = some (wrap (acc + sumN (fun o => if M 7 o = 2 ∧ M 8 o = (p : Int) then 1 else 0) k a))
  | 0, n, a, acc, h, hn, hr => by
    match n, hn with
    | n + 1, _ =>
      rw [fX5_tripsDone_4, hP.2.1.2.1, if_pos (ge_z h), sumN, Int.add_zero, wrap_of hr]
  | k + 1, n, a, acc, h, hn, hr => by
    have ha := lt_sc h
    have h16 := hG.o16 ha
    have hO := hP.2.2.1 a ha
    have ea : Unit → wrap ((a : Int) + 1) = ((a + 1 : Nat) : Int) := fun _ => wrap_eq (by omega) (by omega)
    match n, hn with
    | n + 1, hn =>
      have ih := fun (acc : Int) (hr : inR acc) => X5_tripsDone4 (N := N) (p := p) hG hP (k := k) (n := n) (a := a + 1) (acc := acc) (by rw [sc_cast]; exact h) (Nat.lt_of_succ_lt_succ hn) hr
      rw [fX5_tripsDone_4, hP.2.1.2.1, if_neg (Int.not_le.mpr ha), sumN]
      rw [ck16 h16, ck16 h16, Int.toNat_natCast, hO.2.2.2.2.2.1]
      by_cases e : M 7 a = 2
      · have h8 := hO.2.2.2.2.2.2.2.1
        rw [if_pos (Or.inr e)] at h8
        rw [if_pos e, h8]
        by_cases e2 : M 8 a = (p : Int)
        · rw [if_pos e2, if_pos ⟨e, e2⟩]
          simp only [bnd_eq]
          rw [ea ()]
          rw [ih _ (wrap_inR _), wrap_wadd, Int.add_assoc]
        · rw [if_neg e2, if_neg (fun z => e2 z.2), bnd_eq, ea (), ih _ hr, Int.zero_add]
      · rw [if_neg e, if_neg (fun z => e z.1), bnd_eq, ea (), ih _ hr, Int.zero_add]
theorem X5_allRuns4 {N : Nat} {A : AH} {r : Nat} {M : MR} (hG : GD M) (hP : RP A r M) : ∀ {k n a : Nat} {acc : Int}, (a : Int) + k = M 18 2 → k < n → inR acc → fX5_allRuns_4 N A r n acc a = some (wrap (acc + sumN (fun b => M 15 b) k a))
  | 0, n, a, acc, h, hn, hr => by
    match n, hn with
    | n + 1, _ =>
      rw [fX5_allRuns_4, hP.2.1.2.2.2, if_pos (ge_z h), sumN, Int.add_zero, wrap_of hr]
  | k + 1, n, a, acc, h, hn, hr => by
    have ha := lt_sc h
    have h3 := hG.b3 ha
    have hB := hP.2.2.2.2 a ha
    have ea : Unit → wrap ((a : Int) + 1) = ((a + 1 : Nat) : Int) := fun _ => wrap_eq (by omega) (by omega)
    match n, hn with
    | n + 1, hn =>
      have ih := fun (acc : Int) (hr : inR acc) => X5_allRuns4 (N := N) hG hP (k := k) (n := n) (a := a + 1) (acc := acc) (by rw [sc_cast]; exact h) (Nat.lt_of_succ_lt_succ hn) hr
      rw [fX5_allRuns_4, hP.2.1.2.2.2, if_neg (Int.not_le.mpr ha), sumN]
      rw [chk_pos _ (by omega), Int.toNat_natCast, hB.2.1]
      simp only [bnd_eq]
      rw [ea ()]
      rw [ih _ (wrap_inR _), wrap_wadd, Int.add_assoc]
theorem X5_allRides4 {N : Nat} {A : AH} {r : Nat} {M : MR} (hG : GD M) (hP : RP A r M) : ∀ {k n a : Nat} {acc : Int}, (a : Int) + k = M 18 2 → k < n → inR acc → fX5_allRides_4 N A r n acc a = some (wrap (acc + sumN (fun b => ridesM M b) k a))
  | 0, n, a, acc, h, hn, hr => by
    match n, hn with
    | n + 1, _ =>
      rw [fX5_allRides_4, hP.2.1.2.2.2, if_pos (ge_z h), sumN, Int.add_zero, wrap_of hr]
  | k + 1, n, a, acc, h, hn, hr => by
    have ha := lt_sc h
    have h3 := hG.b3 ha
    have hB := hP.2.2.2.2 a ha
    have ea : Unit → wrap ((a : Int) + 1) = ((a + 1 : Nat) : Int) := fun _ => wrap_eq (by omega) (by omega)
    match n, hn with
    | n + 1, hn =>
      have ih := fun (acc : Int) (hr : inR acc) => X5_allRides4 (N := N) hG hP (k := k) (n := n) (a := a + 1) (acc := acc) (by rw [sc_cast]; exact h) (Nat.lt_of_succ_lt_succ hn) hr
      rw [fX5_allRides_4, hP.2.1.2.2.2, if_neg (Int.not_le.mpr ha), sumN]
      rw [chk_pos _ (by omega), Int.toNat_natCast, hB.2.2.2.2]
      simp only [bnd_eq]
      rw [ea ()]
      rw [ih _ (wrap_inR _), wrap_wadd, Int.add_assoc]
theorem X5_allTripHours4 {N : Nat} {A : AH} {r : Nat} {M : MR} (hG : GD M) (hP : RP A r M) : ∀ {k n a : Nat} {acc : Int}, (a : Int) + k = M 18 3 → k < n → inR acc → fX5_allTripHours_4 N A r n acc a = some (wrap (acc + sumN (fun o => if tripM M o then M 2 o + 2 else 0) k a))
  | 0, n, a, acc, h, hn, hr => by
    match n, hn with
    | n + 1, _ =>
      rw [fX5_allTripHours_4, hP.2.1.2.1, if_pos (ge_z h), sumN, Int.add_zero, wrap_of hr]
  | k + 1, n, a, acc, h, hn, hr => by
    have ha := lt_sc h
    have h16 := hG.o16 ha
    have hO := hP.2.2.1 a ha
    have eT : fX3_hasTrip N A (r + 6 + a) = some (b2i (decide (tripM M a))) := X3_hasTrip hO
    have o1 := (hG.2.2.1 a ha).1
    have ea : Unit → wrap ((a : Int) + 1) = ((a + 1 : Nat) : Int) := fun _ => wrap_eq (by omega) (by omega)
    match n, hn with
    | n + 1, hn =>
      have ih := fun (acc : Int) (hr : inR acc) => X5_allTripHours4 (N := N) hG hP (k := k) (n := n) (a := a + 1) (acc := acc) (by rw [sc_cast]; exact h) (Nat.lt_of_succ_lt_succ hn) hr
      rw [fX5_allTripHours_4, hP.2.1.2.1, if_neg (Int.not_le.mpr ha), sumN]
      rw [ck16 h16, ck16 h16, Int.toNat_natCast, eT, obind_some]
      by_cases e : tripM M a
      · unfold fX3_tripHours
        rw [decide_eq_true e, if_neg b2t', if_pos e, obind_some, hO.1, wrap_eq (z := M 2 a + 2) (by omega) (by omega)]
        simp only [bnd_eq]
        rw [ea ()]
        rw [ih _ (wrap_inR _), wrap_wadd, Int.add_assoc]
      · rw [decide_eq_false e, if_pos b2f', if_neg e, bnd_eq, ea (), ih _ hr, Int.zero_add]
theorem X5_allWaits4 {N : Nat} {A : AH} {r : Nat} {M : MR} (hG : GD M) (hP : RP A r M) : ∀ {k n a : Nat} {acc : Int}, (a : Int) + k = M 18 3 → k < n → inR acc → fX5_allWaits_4 N A r n acc a = some (wrap (acc + sumN (fun o => if tripM M o then M 9 o - M 5 o else 0) k a))
  | 0, n, a, acc, h, hn, hr => by
    match n, hn with
    | n + 1, _ =>
      rw [fX5_allWaits_4, hP.2.1.2.1, if_pos (ge_z h), sumN, Int.add_zero, wrap_of hr]
  | k + 1, n, a, acc, h, hn, hr => by
    have ha := lt_sc h
    have h16 := hG.o16 ha
    have hO := hP.2.2.1 a ha
    have eT : fX3_hasTrip N A (r + 6 + a) = some (b2i (decide (tripM M a))) := X3_hasTrip hO
    have o1 := (hG.2.2.1 a ha).1
    have ea : Unit → wrap ((a : Int) + 1) = ((a + 1 : Nat) : Int) := fun _ => wrap_eq (by omega) (by omega)
    match n, hn with
    | n + 1, hn =>
      have ih := fun (acc : Int) (hr : inR acc) => X5_allWaits4 (N := N) hG hP (k := k) (n := n) (a := a + 1) (acc := acc) (by rw [sc_cast]; exact h) (Nat.lt_of_succ_lt_succ hn) hr
      rw [fX5_allWaits_4, hP.2.1.2.1, if_neg (Int.not_le.mpr ha), sumN]
      rw [ck16 h16, ck16 h16, ck16 h16, Int.toNat_natCast, eT, obind_some]
      by_cases e : tripM M a
      · have h7 := hO.2.2.2.2.2.2.2.2.1
        rw [if_pos e] at h7
        rw [decide_eq_true e, if_neg b2t', if_pos e, h7, hO.2.2.2.1]
        simp only [bnd_eq]
        rw [wrap_addw, ea (), ih _ (wrap_inR _), wrap_wadd, Int.add_assoc]
      · rw [decide_eq_false e, if_pos b2f', if_neg e, bnd_eq, ea (), ih _ hr, Int.zero_add]
theorem X5_allPutOffs4 {N : Nat} {A : AH} {r : Nat} {M : MR} (hG : GD M) (hP : RP A r M) : ∀ {k n a : Nat} {acc : Int}, (a : Int) + k = M 18 3 → k < n → inR acc → fX5_allPutOffs_4 N A r n acc a = some (wrap (acc + sumN (fun o => M 10 o) k a))
  | 0, n, a, acc, h, hn, hr => by
    match n, hn with
    | n + 1, _ =>
      rw [fX5_allPutOffs_4, hP.2.1.2.1, if_pos (ge_z h), sumN, Int.add_zero, wrap_of hr]
  | k + 1, n, a, acc, h, hn, hr => by
    have ha := lt_sc h
    have h16 := hG.o16 ha
    have hO := hP.2.2.1 a ha
    have ea : Unit → wrap ((a : Int) + 1) = ((a + 1 : Nat) : Int) := fun _ => wrap_eq (by omega) (by omega)
    match n, hn with
    | n + 1, hn =>
      have ih := fun (acc : Int) (hr : inR acc) => X5_allPutOffs4 (N := N) hG hP (k := k) (n := n) (a := a + 1) (acc := acc) (by rw [sc_cast]; exact h) (Nat.lt_of_succ_lt_succ hn) hr
      rw [fX5_allPutOffs_4, hP.2.1.2.1, if_neg (Int.not_le.mpr ha), sumN]
      rw [ck16 h16, Int.toNat_natCast, hO.2.2.2.2.2.2.1]
      simp only [bnd_eq]
      rw [ea ()]
      rw [ih _ (wrap_inR _), wrap_wadd, Int.add_assoc]
theorem X9_inState4 {N : Nat} {A : AH} {w : Int} (hG : GD (mvA A)) : ∀ {k n a : Nat} {acc : Int}, (a : Int) + k = mvA A 18 3 → k < n → inR acc → fX9_inState_4 N A w n acc a = some (wrap (acc + sumN (fun o => if mvA A 7 o = w then 1 else 0) k a))
  | 0, n, a, acc, h, hn, hr => by
    match n, hn with
    | n + 1, _ =>
      rw [fX9_inState_4, show gI A 349 22 = mvA A 18 3 from rfl, if_pos (ge_z h), sumN, Int.add_zero, wrap_of hr]
  | k + 1, n, a, acc, h, hn, hr => by
    have ha := lt_sc h
    have h16 := hG.o16 ha
    have hO := hG.2.2.1 a ha
    have o1 := hO.1
    have ea : Unit → wrap ((a : Int) + 1) = ((a + 1 : Nat) : Int) := fun _ => wrap_eq (by omega) (by omega)
    match n, hn with
    | n + 1, hn =>
      have ih := fun (acc : Int) (hr : inR acc) => X9_inState4 (N := N) (w := w) hG (k := k) (n := n) (a := a + 1) (acc := acc) (by rw [sc_cast]; exact h) (Nat.lt_of_succ_lt_succ hn) hr
      rw [fX9_inState_4, show gI A 349 22 = mvA A 18 3 from rfl, if_neg (Int.not_le.mpr ha), sumN]
      rw [ck16 h16, show gI A 357 (a : Int).toNat = mvA A 7 a from rfl]
      by_cases e : mvA A 7 a = w
      · rw [if_pos e, if_pos e]
        simp only [bnd_eq]
        rw [ea ()]
        rw [ih _ (wrap_inR _), wrap_wadd, Int.add_assoc]
      · rw [if_neg e, if_neg e]
        simp only [bnd_eq]
        rw [ea ()]
        rw [ih _ (wrap_inR _), wrap_wadd, Int.add_assoc]
theorem X9_tripHours4 {N : Nat} {A : AH} {p : Int} (hG : GD (mvA A)) : ∀ {k n a : Nat} {acc : Int}, (a : Int) + k = mvA A 18 3 → k < n → inR acc → fX9_tripHours_4 N A p n acc a = some (wrap (acc + sumN (fun o => if tofM (mvA A) o p = true then mvA A 2 o + 2 else 0) k a))
  | 0, n, a, acc, h, hn, hr => by
    match n, hn with
    | n + 1, _ =>
      rw [fX9_tripHours_4, show gI A 349 22 = mvA A 18 3 from rfl, if_pos (ge_z h), sumN, Int.add_zero, wrap_of hr]
  | k + 1, n, a, acc, h, hn, hr => by
    have ha := lt_sc h
    have h16 := hG.o16 ha
    have hO := hG.2.2.1 a ha
    have o1 := hO.1
    have ea : Unit → wrap ((a : Int) + 1) = ((a + 1 : Nat) : Int) := fun _ => wrap_eq (by omega) (by omega)
    match n, hn with
    | n + 1, hn =>
      have ih := fun (acc : Int) (hr : inR acc) => X9_tripHours4 (N := N) (p := p) hG (k := k) (n := n) (a := a + 1) (acc := acc) (by rw [sc_cast]; exact h) (Nat.lt_of_succ_lt_succ hn) hr
      rw [fX9_tripHours_4, show gI A 349 22 = mvA A 18 3 from rfl, if_neg (Int.not_le.mpr ha), sumN]
      rw [X9_isTripOf h16, obind_some]
      by_cases e : tofM (mvA A) a p = true
      · rw [e, if_neg b2t', if_pos rfl, X9_length h16 hO, obind_some]
        simp only [bnd_eq]
        rw [ea ()]
        rw [ih _ (wrap_inR _), wrap_wadd, Int.add_assoc]
      · rw [Bool.not_eq_true _ |>.mp e, if_pos b2f', if_neg (by decide)]
        simp only [bnd_eq]
        rw [ea ()]
        rw [ih _ (wrap_inR _), wrap_wadd, Int.add_assoc]
theorem X9_trips4 {N : Nat} {A : AH} {p : Int} (hG : GD (mvA A)) : ∀ {k n a : Nat} {acc : Int}, (a : Int) + k = mvA A 18 3 → k < n → inR acc → fX9_trips_4 N A p n acc a = some (wrap (acc + sumN (fun o => if tofM (mvA A) o p = true then 1 else 0) k a))
  | 0, n, a, acc, h, hn, hr => by
    match n, hn with
    | n + 1, _ =>
      rw [fX9_trips_4, show gI A 349 22 = mvA A 18 3 from rfl, if_pos (ge_z h), sumN, Int.add_zero, wrap_of hr]
  | k + 1, n, a, acc, h, hn, hr => by
    have ha := lt_sc h
    have h16 := hG.o16 ha
    have hO := hG.2.2.1 a ha
    have o1 := hO.1
    have ea : Unit → wrap ((a : Int) + 1) = ((a + 1 : Nat) : Int) := fun _ => wrap_eq (by omega) (by omega)
    match n, hn with
    | n + 1, hn =>
      have ih := fun (acc : Int) (hr : inR acc) => X9_trips4 (N := N) (p := p) hG (k := k) (n := n) (a := a + 1) (acc := acc) (by rw [sc_cast]; exact h) (Nat.lt_of_succ_lt_succ hn) hr
      rw [fX9_trips_4, show gI A 349 22 = mvA A 18 3 from rfl, if_neg (Int.not_le.mpr ha), sumN]
      rw [X9_isTripOf h16, obind_some]
      by_cases e : tofM (mvA A) a p = true
      · rw [e, if_neg b2t', if_pos rfl]
        simp only [bnd_eq]
        rw [ea ()]
        rw [ih _ (wrap_inR _), wrap_wadd, Int.add_assoc]
      · rw [Bool.not_eq_true _ |>.mp e, if_pos b2f', if_neg (by decide)]
        simp only [bnd_eq]
        rw [ea ()]
        rw [ih _ (wrap_inR _), wrap_wadd, Int.add_assoc]
theorem X9_rides4 {N : Nat} {A : AH} {p : Int} (hG : GD (mvA A)) : ∀ {k n a : Nat} {acc : Int}, (a : Int) + k = mvA A 18 4 → k < n → inR acc → fX9_rides_4 N A p n acc a = some (wrap (acc + sumN (fun o => if hasR (mvA A 17 o) p = true then 1 else 0) k a))
  | 0, n, a, acc, h, hn, hr => by
    match n, hn with
    | n + 1, _ =>
      rw [fX9_rides_4, show gI A 349 23 = mvA A 18 4 from rfl, if_pos (ge_z h), sumN, Int.add_zero, wrap_of hr]
  | k + 1, n, a, acc, h, hn, hr => by
    have ha := lt_sc h
    have c5 := hG.2.1.2.2.2.2
    have ea : Unit → wrap ((a : Int) + 1) = ((a + 1 : Nat) : Int) := fun _ => wrap_eq (by omega) (by omega)
    match n, hn with
    | n + 1, hn =>
      have ih := fun (acc : Int) (hr : inR acc) => X9_rides4 (N := N) (p := p) hG (k := k) (n := n) (a := a + 1) (acc := acc) (by rw [sc_cast]; exact h) (Nat.lt_of_succ_lt_succ hn) hr
      rw [fX9_rides_4, show gI A 349 23 = mvA A 18 4 from rfl, if_neg (Int.not_le.mpr ha), sumN]
      rw [chk_pos _ (by omega), X9_has, obind_some, show gI A 367 (a : Int).toNat = mvA A 17 a from rfl]
      by_cases e : hasR (mvA A 17 a) p = true
      · rw [e, if_neg b2t', if_pos rfl]
        simp only [bnd_eq]
        rw [ea ()]
        rw [ih _ (wrap_inR _), wrap_wadd, Int.add_assoc]
      · rw [Bool.not_eq_true _ |>.mp e, if_pos b2f', if_neg (by decide)]
        simp only [bnd_eq]
        rw [ea ()]
        rw [ih _ (wrap_inR _), wrap_wadd, Int.add_assoc]
theorem X9_ridesOn4 {N : Nat} {A : AH} {b : Nat} (hN : 10 ≤ N) (hG : GD (mvA A)) : ∀ {k n a : Nat} {acc : Int}, (a : Int) + k = mvA A 18 4 → k < n → inR acc → fX9_ridesOn_4 N A b n acc a = some (wrap (acc + sumN (fun k => if boatR (mvA A 17 k) = (b : Int) then bitsM (iAnd (iShr (mvA A 17 k) 13) 63) else 0) k a))
  | 0, n, a, acc, h, hn, hr => by
    match n, hn with
    | n + 1, _ =>
      rw [fX9_ridesOn_4, show gI A 349 23 = mvA A 18 4 from rfl, if_pos (ge_z h), sumN, Int.add_zero, wrap_of hr]
  | k + 1, n, a, acc, h, hn, hr => by
    have ha := lt_sc h
    have c5 := hG.2.1.2.2.2.2
    have ea : Unit → wrap ((a : Int) + 1) = ((a + 1 : Nat) : Int) := fun _ => wrap_eq (by omega) (by omega)
    match n, hn with
    | n + 1, hn =>
      have ih := fun (acc : Int) (hr : inR acc) => X9_ridesOn4 (N := N) (b := b) hN hG (k := k) (n := n) (a := a + 1) (acc := acc) (by rw [sc_cast]; exact h) (Nat.lt_of_succ_lt_succ hn) hr
      rw [fX9_ridesOn_4, show gI A 349 23 = mvA A 18 4 from rfl, if_neg (Int.not_le.mpr ha), sumN]
      unfold fX9_boatOf
      rw [chk_pos _ (by omega), obind_some, show gI A 367 (a : Int).toNat = mvA A 17 a from rfl, chk_pos _ (by omega)]
      by_cases e : boatR (mvA A 17 a) = (b : Int)
      · have e' : iShr (mvA A 17 a) 20 = (b : Int) := e
        rw [if_pos e', if_pos e, X9_bits hN, obind_some]
        simp only [bnd_eq]
        rw [ea ()]
        rw [ih _ (wrap_inR _), wrap_wadd, Int.add_assoc]
      · have e' : ¬ iShr (mvA A 17 a) 20 = (b : Int) := e
        rw [if_neg e', if_neg e]
        simp only [bnd_eq]
        rw [ea ()]
        rw [ih _ (wrap_inR _), wrap_wadd, Int.add_assoc]
theorem X9_allPutOffs4 {N : Nat} {A : AH} (hG : GD (mvA A)) : ∀ {k n a : Nat} {acc : Int}, (a : Int) + k = mvA A 18 3 → k < n → inR acc → fX9_allPutOffs_4 N A n acc a = some (wrap (acc + sumN (fun o => mvA A 10 o) k a))
  | 0, n, a, acc, h, hn, hr => by
    match n, hn with
    | n + 1, _ =>
      rw [fX9_allPutOffs_4, show gI A 349 22 = mvA A 18 3 from rfl, if_pos (ge_z h), sumN, Int.add_zero, wrap_of hr]
  | k + 1, n, a, acc, h, hn, hr => by
    have ha := lt_sc h
    have h16 := hG.o16 ha
    have hO := hG.2.2.1 a ha
    have o1 := hO.1
    have ea : Unit → wrap ((a : Int) + 1) = ((a + 1 : Nat) : Int) := fun _ => wrap_eq (by omega) (by omega)
    match n, hn with
    | n + 1, hn =>
      have ih := fun (acc : Int) (hr : inR acc) => X9_allPutOffs4 (N := N) hG (k := k) (n := n) (a := a + 1) (acc := acc) (by rw [sc_cast]; exact h) (Nat.lt_of_succ_lt_succ hn) hr
      rw [fX9_allPutOffs_4, show gI A 349 22 = mvA A 18 3 from rfl, if_neg (Int.not_le.mpr ha), sumN]
      rw [ck16 h16, show gI A 360 (a : Int).toNat = mvA A 10 a from rfl]
      simp only [bnd_eq]
      rw [ea ()]
      rw [ih _ (wrap_inR _), wrap_wadd, Int.add_assoc]
theorem X9_hoursBefore4 {N : Nat} {A : AH} {p : Int} (hG : GD (mvA A)) : ∀ {k n a : Nat} {acc : Int}, (a : Int) + k = mvA A 18 3 → k < n → inR acc → fX9_hoursBefore_4 N A p n acc a = some (wrap (acc + sumN (fun o => if tofM (mvA A) o p = true then tripH (mvA A 18 0) (legT (mvA A) o) else 0) k a))
  | 0, n, a, acc, h, hn, hr => by
    match n, hn with
    | n + 1, _ =>
      rw [fX9_hoursBefore_4, show gI A 349 22 = mvA A 18 3 from rfl, if_pos (ge_z h), sumN, Int.add_zero, wrap_of hr]
  | k + 1, n, a, acc, h, hn, hr => by
    have ha := lt_sc h
    have h16 := hG.o16 ha
    have hO := hG.2.2.1 a ha
    have o1 := hO.1
    have ea : Unit → wrap ((a : Int) + 1) = ((a + 1 : Nat) : Int) := fun _ => wrap_eq (by omega) (by omega)
    match n, hn with
    | n + 1, hn =>
      have ih := fun (acc : Int) (hr : inR acc) => X9_hoursBefore4 (N := N) (p := p) hG (k := k) (n := n) (a := a + 1) (acc := acc) (by rw [sc_cast]; exact h) (Nat.lt_of_succ_lt_succ hn) hr
      rw [fX9_hoursBefore_4, show gI A 349 22 = mvA A 18 3 from rfl, if_neg (Int.not_le.mpr ha), sumN]
      rw [X9_isTripOf h16, obind_some]
      by_cases e : tofM (mvA A) a p = true
      · have ht : tripM (mvA A) a := by
          unfold tofM at e
          rw [Bool.and_eq_true] at e
          exact of_decide_eq_true e.1
        have o7 := hO.2.2.2.2.2.2 ht
        have c0 := hG.2.1.1
        have eE : endM (mvA A) a = mvA A 9 a + mvA A 2 a + 2 := rfl
        have eH : tripH (mvA A 18 0) (legT (mvA A) a) = if mvA A 9 a < mvA A 18 0 then min (endM (mvA A) a) (mvA A 18 0) - mvA A 9 a else 0 := by
          unfold tripH
          by_cases q : mvA A 9 a < mvA A 18 0
          · rw [if_pos q, if_pos ⟨rfl, q⟩]
            rfl
          · rw [if_neg q, if_neg (fun z => q z.2)]
        rw [e, if_neg b2t', if_pos rfl, ck16 h16, ck16 h16, show gI A 359 (a : Int).toNat = mvA A 9 a from rfl, show gI A 349 19 = mvA A 18 0 from rfl, eH]
        by_cases q : mvA A 9 a < mvA A 18 0
        · rw [if_pos q, if_pos q, X9_end h16 hO ht, obind_some]
          by_cases q2 : mvA A 18 0 ≤ endM (mvA A) a
          · rw [if_pos q2, wrap_eq (z := mvA A 18 0 - mvA A 9 a) (by omega) (by omega)]
            simp only [bnd_eq]
            rw [ea (), ih _ (wrap_inR _), wrap_wadd, Int.add_assoc, show min (endM (mvA A) a) (mvA A 18 0) = mvA A 18 0 by omega]
          · rw [if_neg q2, X9_length h16 hO, obind_some]
            simp only [bnd_eq]
            rw [ea (), ih _ (wrap_inR _), wrap_wadd, Int.add_assoc, show min (endM (mvA A) a) (mvA A 18 0) - mvA A 9 a = mvA A 2 a + 2 by omega]
        · rw [if_neg q, if_neg q, bnd_eq, ea (), ih _ hr, Int.zero_add]
      · rw [Bool.not_eq_true _ |>.mp e, if_pos b2f', if_neg (by decide), bnd_eq, ea (), ih _ hr, Int.zero_add]
