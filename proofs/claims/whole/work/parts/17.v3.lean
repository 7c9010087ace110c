/-! calls: what they tell of pilots, boats, numbers -/
theorem tripOf_rng {M : MR} {o : Nat} {p : Int} (hG : GD M) (ho : (o : Int) < M 18 3) (h : tofM M o p = true) : tripM M o ∧ M 8 o = p ∧ (0 ≤ M 9 o ∧ M 9 o ≤ 900) := by
  unfold tofM at h
  rw [Bool.and_eq_true] at h
  have ht := of_decide_eq_true h.1
  exact ⟨ht, of_decide_eq_true h.2, ((hG.2.2.1 o ho).2.2.2.2.2.2 ht).2⟩
theorem PL.len_sum {M : MR} {p : Int} {L : List LG} (h : PL M p L) : (L.length : Int) = sumN (fun o => if tofM M o p = true then 1 else 0) (M 18 3).toNat 0 + sumN (fun k => if hasR (M 17 k) p = true then 1 else 0) (M 18 4).toNat 0 := by
  rw [_root_.Jvm.Pilot.@@N@@.len_sum, perm_sum _ h.1, items_sum]
theorem PL.hours {M : MR} {p : Int} {L : List LG} (h : PL M p L) (b : Int) : (L.map (tripH b)).sum = sumN (fun o => if tofM M o p = true then tripH b (legT M o) else 0) (M 18 3).toNat 0 := by
  rw [perm_sum _ h.1, items_sum]
  have e : sumN (fun k => if hasR (M 17 k) p = true then tripH b (legR M k) else 0) (M 18 4).toNat 0 = 0 := sumN_z (fun k _ _ => by
    have : tripH b (legR M k) = 0 := by
      unfold tripH
      rw [if_neg]
      rintro ⟨q, -⟩
      exact absurd q (by show ¬ ((1 : Int) = 0); decide)
    rw [this]
    split <;> rfl)
  rw [e, Int.add_zero]
theorem tripH_all {M : MR} {o : Nat} {p b : Int} (hG : GD M) (ho : (o : Int) < M 18 3) (h : tofM M o p = true) (hb : 906 ≤ b) : tripH b (legT M o) = M 2 o + 2 := by
  obtain ⟨-, -, h9⟩ := tripOf_rng hG ho h
  have o1 := (hG.2.2.1 o ho).1
  have eE : lgE (legT M o) = M 9 o + M 2 o + 2 := rfl
  have eB : lgB (legT M o) = M 9 o := rfl
  unfold tripH
  rw [if_pos ⟨rfl, by omega⟩, eE, eB]
  omega
theorem PL.hours_all {M : MR} {p : Int} {L : List LG} (hG : GD M) (h : PL M p L) {b : Int} (hb : 906 ≤ b) : (L.map (tripH b)).sum = sumN (fun o => if tofM M o p = true then M 2 o + 2 else 0) (M 18 3).toNat 0 := by
  have c3 := hG.2.1.2.2.2.1
  rw [h.hours]
  refine sumN_congr (fun o _ ho => ?_)
  by_cases e : tofM M o p = true
  · rw [if_pos e, if_pos e, tripH_all hG (by omega) e hb]
  · rw [if_neg e, if_neg e]
theorem wz {x : Int} : wrap (0 + x) = wrap x := by rw [Int.zero_add]
theorem op_pilot {N : Nat} {A C : AH} {x1 x2 : Int} (hN : 25000 ≤ N) (h : INV A C) : STEP [(3, 1), (1, 2)] (fX8_pilot N A x1 x2) (fX9_pilot N C x1 x2) A C := by
  unfold fX8_pilot fX9_pilot
  rw [X8_pilot h.2.1, X9_isPilot, obind_some]
  by_cases h1 : 0 ≤ x1 ∧ x1 < mvA C 18 1
  · obtain ⟨p, rfl⟩ : ∃ p : Nat, x1 = p := ⟨x1.toNat, by omega⟩
    have hp := h1.2
    have hp6 := h.1.p6 hp
    have c3 := h.1.2.1.2.2.2.1
    have c4 := h.1.2.1.2.2.2.2
    obtain ⟨L, l1, l2⟩ := h.2.1.2.2.2.1 p hp
    have hlen := l2.len h.1.2.1
    have e : mvA (sI C 349 0 0) = mvA C := mvA_thr C 0
    have em : ∀ j, j < 18 → gI (sI C 349 0 0) (350 + j) p = mvA C j p := fun j hj => by
      rw [← e]
      unfold mvA
      rw [if_pos hj]
    have hGe : GD (mvA (sI C 349 0 0)) := by rw [e]; exact h.1
    rw [if_pos h1, decide_eq_true h1, obind_some, if_pos rfl, if_neg b2t', X9_isBetween, bt_in, obind_some, ck6 hp6]
    dsimp only
    rw [show 2 + 22 + (p : Int).toNat = 2 + 22 + p by omega]
    have fin : ∀ v : Int, STEP [(3, 1), (1, 2)] (some (0, v, A)) (some (v, sI C 349 0 0)) A C := fun v => STEP.query h (FX.rf A) (by omega) (FQ_thr C 0) (gI_thr C 0)
    by_cases h2 : 0 ≤ x2 ∧ x2 ≤ 6
    · rw [decide_eq_true h2, if_neg b2t', bnd_eq]
      have hx : x2 = 0 ∨ x2 = 1 ∨ x2 = 2 ∨ x2 = 3 ∨ x2 = 4 ∨ x2 = 5 ∨ x2 = 6 := by omega
      rcases hx with hx | hx | hx | hx | hx | hx | hx <;> subst hx
      · rw [if_pos rfl, if_pos rfl, ck6 hp6, Int.toNat_natCast, em 11 (by decide), l1.1]
        exact fin _
      · rw [if_neg (by decide), if_pos rfl, if_neg (by decide), if_pos rfl, ck6 hp6, Int.toNat_natCast, em 12 (by decide), l1.2.1]
        exact fin _
      · rw [if_neg (by decide), if_neg (by decide), if_pos rfl, if_neg (by decide), if_neg (by decide), if_pos rfl, ck6 hp6, Int.toNat_natCast, em 13 (by decide)]
        unfold fX5_tripsDone
        have q := X5_tripsDone4 (N := N) (p := p) h.1 h.2.1 (k := (mvA C 18 3).toNat) (n := N) (a := 0) (acc := 0) (nat0 c3.1) (by omega) inR_0
        have q2 := (h.1.2.2.2.1 p hp).2
        have hb : 0 ≤ doneM (mvA C) p ∧ doneM (mvA C) p ≤ 1 * ((mvA C 18 3).toNat : Int) := sumN_nn (fun i _ _ => by split <;> decide)
        unfold doneM at q2 hb
        rw [q2]
        have q' : fX5_tripsDone_4 N A 2 p N 0 0 = some (sumN (fun o => if mvA C 7 o = 2 ∧ mvA C 8 o = (p : Int) then 1 else 0) (mvA C 18 3).toNat 0) := by
          refine q.trans ?_
          rw [wz, wrap_eq (by omega) (by omega)]
        rw [q', obind_some]
        exact fin _
      · rw [if_neg (by decide), if_neg (by decide), if_neg (by decide), if_pos rfl, if_neg (by decide), if_neg (by decide), if_neg (by decide), if_pos rfl, X4_legs l1.2.2, obind_some]
        have q1 := X9_trips4 (N := N) (A := sI C 349 0 0) (p := p) hGe (k := (mvA C 18 3).toNat) (n := N) (a := 0) (acc := 0) (by rw [e]; exact nat0 c3.1) (by omega) inR_0
        have q2 := X9_rides4 (N := N) (A := sI C 349 0 0) (p := p) hGe (k := (mvA C 18 4).toNat) (n := N) (a := 0) (acc := 0) (by rw [e]; exact nat0 c4.1) (by omega) inR_0
        rw [e] at q1 q2
        unfold fX9_trips fX9_rides
        have q1' : fX9_trips_4 N (sI C 349 0 0) p N 0 0 = _ := q1
        have q2' : fX9_rides_4 N (sI C 349 0 0) p N 0 0 = _ := q2
        rw [q1', obind_some, q2', obind_some, wz, wz, wrap_add, ← l2.len_sum]
        exact fin _
      · rw [if_neg (by decide), if_neg (by decide), if_neg (by decide), if_neg (by decide), if_pos rfl, if_neg (by decide), if_neg (by decide), if_neg (by decide), if_neg (by decide), if_pos rfl, X4_freeFrom l1.2.2, obind_some]
        unfold fX9_freeOf
        rw [X9_findLastM (by omega) hGe.2.1 hGe.2.2.1, obind_some, setL_24, e, obind_some, ← l2.fre]
        exact STEP.query h (FX.rf A) (by omega) ((FQ_thr C 0).tr ((FQ_setL _ _).mono SS_ST)) (by rw [gI_setL (by omega), gI_thr])
      · rw [if_neg (by decide), if_neg (by decide), if_neg (by decide), if_neg (by decide), if_neg (by decide), if_pos rfl, if_neg (by decide), if_neg (by decide), if_neg (by decide), if_neg (by decide), if_neg (by decide), if_pos rfl, X5_restedFrom (by omega) (by omega) h.2.1.1 h.1.1 l1.2.2 l2, obind_some, X9_restedM (by omega) hGe.1 hGe.2.1 hGe.2.2.1, obind_some, e, l2.rst]
        exact fin _
      · rw [if_neg (by decide), if_neg (by decide), if_neg (by decide), if_neg (by decide), if_neg (by decide), if_neg (by decide), if_pos rfl, if_neg (by decide), if_neg (by decide), if_neg (by decide), if_neg (by decide), if_neg (by decide), if_neg (by decide)]
        have q1 := X9_tripHours4 (N := N) (A := sI C 349 0 0) (p := p) hGe (k := (mvA C 18 3).toNat) (n := N) (a := 0) (acc := 0) (by rw [e]; exact nat0 c3.1) (by omega) inR_0
        rw [e] at q1
        unfold fX9_tripHours fX4_tripHours
        have q1' : fX9_tripHours_4 N (sI C 349 0 0) p N 0 0 = _ := q1
        rw [X4_tripHours7 l1.2.2 (by omega) inR_0, obind_some, q1', obind_some, l2.hours_all h.1 (by decide)]
        exact fin _
    · rw [decide_eq_false h2, if_pos b2f', X9_fails, obind_some, if_neg (by omega), if_neg (by omega), if_neg (by omega), if_neg (by omega), if_neg (by omega), if_neg (by omega), if_neg (by omega)]
      exact STEP.throw h (FX.rf A) (by omega) (FQ_thr C 2) (gI_thr C 2) (by simp)
  · rw [if_neg h1, decide_eq_false h1, obind_some, if_neg (n3 _), if_pos b2f', X9_fails, obind_some]
    exact STEP.throw h (FX.rf A) (by omega) (FQ_thr C 1) (gI_thr C 1) (by simp)
theorem op_boat {N : Nat} {A C : AH} {x1 x2 : Int} (hN : 25000 ≤ N) (h : INV A C) : STEP [(3, 1), (1, 2)] (fX8_boat N A x1 x2) (fX9_boat N C x1 x2) A C := by
  unfold fX8_boat fX9_boat
  rw [X5_hasBoat h.2.1, X9_isBoat, obind_some, obind_some]
  by_cases h1 : 0 ≤ x1 ∧ x1 < mvA C 18 2
  · obtain ⟨b, rfl⟩ : ∃ b : Nat, x1 = b := ⟨x1.toNat, by omega⟩
    have hb := h1.2
    have hb3 := h.1.b3 hb
    have c4 := h.1.2.1.2.2.2.2
    have hB := h.2.1.2.2.2.2 b hb
    have hb2 := (h.1.2.2.2.2.1 b hb).2
    have e : mvA (sI C 349 0 0) = mvA C := mvA_thr C 0
    have em : ∀ j, j < 18 → gI (sI C 349 0 0) (350 + j) b = mvA C j b := fun j hj => by
      rw [← e]
      unfold mvA
      rw [if_pos hj]
    have hGe : GD (mvA (sI C 349 0 0)) := by rw [e]; exact h.1
    have ck3 : ∀ {β : Type} (K : Option β), chk (0 ≤ (b : Int) ∧ (b : Int) < 3) K = K := fun K => chk_pos K (by omega)
    rw [decide_eq_true h1, if_neg b2t', if_neg b2t', X9_isBetween, bt_in, obind_some, ck3, show 2 + 28 + (b : Int).toNat = 2 + 28 + b by omega]
    have fin : ∀ v : Int, STEP [(3, 1), (1, 2)] (some (0, v, A)) (some (v, sI C 349 0 0)) A C := fun v => STEP.query h (FX.rf A) (by omega) (FQ_thr C 0) (gI_thr C 0)
    by_cases h2 : 0 ≤ x2 ∧ x2 ≤ 4
    · rw [decide_eq_true h2, if_neg b2t', bnd_eq]
      have hx : x2 = 0 ∨ x2 = 1 ∨ x2 = 2 ∨ x2 = 3 ∨ x2 = 4 := by omega
      rcases hx with hx | hx | hx | hx | hx <;> subst hx
      · rw [if_pos rfl, if_pos rfl, ck3, Int.toNat_natCast, em 14 (by decide), hB.1]
        exact fin _
      · rw [if_neg (by decide), if_pos rfl, if_neg (by decide), if_pos rfl, ck3, Int.toNat_natCast, em 15 (by decide), hB.2.1]
        exact fin _
      · rw [if_neg (by decide), if_neg (by decide), if_pos rfl, if_neg (by decide), if_neg (by decide), if_pos rfl, X9_placeOfBoat hb3 (by rw [e]; exact hb2.1), obind_some, e, hB.2.2.1]
        exact fin _
      · rw [if_neg (by decide), if_neg (by decide), if_neg (by decide), if_pos rfl, if_neg (by decide), if_neg (by decide), if_neg (by decide), if_pos rfl, ck3, Int.toNat_natCast, em 16 (by decide), hB.2.2.2.1]
        exact fin _
      · rw [if_neg (by decide), if_neg (by decide), if_neg (by decide), if_neg (by decide), if_pos rfl, if_neg (by decide), if_neg (by decide), if_neg (by decide), if_neg (by decide), hB.2.2.2.2]
        have q1 := X9_ridesOn4 (N := N) (A := sI C 349 0 0) (b := b) (by omega) hGe (k := (mvA C 18 4).toNat) (n := N) (a := 0) (acc := 0) (by rw [e]; exact nat0 c4.1) (by omega) inR_0
        rw [e] at q1
        have hr := ridesM_rng (b := b) h.1.2.1
        have q1' : fX9_ridesOn N (sI C 349 0 0) b = some (ridesM (mvA C) b) := by
          refine q1.trans ?_
          rw [wz]
          unfold ridesM at hr ⊢
          rw [wrap_eq (by omega) (by omega)]
        rw [q1', obind_some]
        exact fin _
    · rw [decide_eq_false h2, if_pos b2f', X9_fails, obind_some, if_neg (by omega), if_neg (by omega), if_neg (by omega), if_neg (by omega), if_neg (by omega)]
      exact STEP.throw h (FX.rf A) (by omega) (FQ_thr C 2) (gI_thr C 2) (by simp)
  · rw [decide_eq_false h1, if_pos b2f', if_pos b2f', X9_fails, obind_some]
    exact STEP.throw h (FX.rf A) (by omega) (FQ_thr C 1) (gI_thr C 1) (by simp)
/-! sums over all pilots -/
theorem sum_pil {M : MR} (P : Nat) (v : Int) (x : Int) (hx : 0 ≤ x ∧ x < P) : sumN (fun p => if x = (p : Int) then v else 0) P 0 = v := by
  rw [sumN_congr (f := fun i => if i = x.toNat then v else 0) (fun i _ _ => by
    by_cases e : x = (i : Int)
    · rw [if_pos e, if_pos (by omega)]
    · rw [if_neg e, if_neg (by omega)])]
  exact sumN_one (by omega) (by omega)
/-- the rides of all boats are those of all pilots -/
theorem rides_all {M : MR} (hG : GD M) : sumN (fun b => ridesM M b) (M 18 2).toNat 0 = sumN (fun p => sumN (fun k => if hasR (M 17 k) (p : Nat) = true then 1 else 0) (M 18 4).toNat 0) (M 18 1).toNat 0 := by
  have c1 := hG.2.1.2.1
  have c2 := hG.2.1.2.2.1
  have c4 := hG.2.1.2.2.2.2
  unfold ridesM
  refine (sumN_swap (fun b k => if boatR (M 17 k) = ((b : Nat) : Int) then bitsM (iAnd (iShr (M 17 k) 13) 63) else 0) _ _ _ _).trans ?_
  refine Eq.trans ?_ (sumN_swap (fun p k => if hasR (M 17 k) ((p : Nat) : Int) = true then (1 : Int) else 0) _ _ _ _).symm
  refine sumN_congr (fun k _ hk => ?_)
  obtain ⟨hh, len, set, to, b, e, q1, q2, q3, q4, q5⟩ := hG.2.2.2.2.2.2 k (by omega)
  have hb3 := hG.b3 q5
  rw [e, boatR_pk (by omega) (by omega) q3.1 q4 hb3, setR_pk (by omega) (by omega) q3.1 q4 hb3]
  rw [sum_pil (M := M) (M 18 2).toNat (bitsM set) b (by omega), ← bits_P q3.1 (P := (M 18 1).toNat) (by omega) q3.2]
  exact sumN_congr (fun p _ hp => by rw [hasR_pk (by omega) (by omega) q3.1 q4 hb3 (by omega)])
/-- the hours of all trips -/
theorem hours_all {M : MR} (hG : GD M) : sumN (fun o => if tripM M o then M 2 o + 2 else 0) (M 18 3).toNat 0 = sumN (fun p => sumN (fun o => if tofM M o (p : Nat) = true then M 2 o + 2 else 0) (M 18 3).toNat 0) (M 18 1).toNat 0 := by
  have c1 := hG.2.1.2.1
  have c3 := hG.2.1.2.2.2.1
  rw [sumN_swap]
  refine sumN_congr (fun o _ ho => ?_)
  by_cases ht : tripM M o
  · obtain ⟨h8, -⟩ := trip_of hG (by omega) ht
    rw [if_pos ht]
    rw [sumN_congr (f := fun p => if M 8 o = (p : Int) then M 2 o + 2 else 0) (fun p _ _ => ?_), sum_pil (M := M) (M 18 1).toNat (M 2 o + 2) (M 8 o) (by omega)]
    unfold tofM
    by_cases e : M 8 o = (p : Int)
    · rw [if_pos e, decide_eq_true ht, decide_eq_true e]
      rfl
    · rw [if_neg e, decide_eq_false e, Bool.and_false, if_neg (by decide)]
  · rw [if_neg ht]
    refine (sumN_z (fun p _ _ => ?_)).symm
    unfold tofM
    rw [decide_eq_false ht, Bool.false_and, if_neg (by decide)]
theorem goal_rng {M : MR} {p : Int} {L : List LG} (hG : GD M) (h : PL M p L) {x : LG} (hx : x ∈ L) : 0 ≤ lgG x := by
  have c3 := hG.2.1.2.2.2.1
  rcases List.mem_append.mp (h.1.mem_iff.mp hx) with hi | hi
  · obtain ⟨o, ho, -, q⟩ := mem_tripsL.mp hi
    rw [← q]
    show 0 ≤ M 3 o
    have := (hG.2.2.1 o (by omega)).2.1
    omega
  · obtain ⟨k, -, -, q⟩ := mem_ridesL.mp hi
    rw [← q]
    show 0 ≤ iAnd (iShr (M 17 k) 19) 1
    rcases iAnd1_01 (iShr (M 17 k) 19) with z | z <;> rw [z] <;> decide
theorem place_rng {M : MR} {p : Int} {L : List LG} (hG : GD M) (h : PL M p L) {t : Int} : placeL t L = -1 ∨ 0 ≤ placeL t L := by
  rw [placeL_find (fun x hx => (h.2.2 x hx).1)]
  cases hf : L.find? (fun x => decide (lgB x ≤ t)) with
  | none => exact Or.inr (Int.le_refl 0)
  | some x =>
    have hx := goal_rng hG h (List.mem_of_find?_eq_some hf)
    show (if lgE x ≤ t then lgG x else -1) = -1 ∨ 0 ≤ (if lgE x ≤ t then lgG x else -1)
    split
    · exact Or.inr hx
    · exact Or.inl rfl
theorem X5_underWay4 {N : Nat} {A : AH} {r : Nat} {M : MR} (hN : 3000 ≤ N) (hG : GD M) (hP : RP A r M) : ∀ {k n a : Nat} {acc : Int}, (a : Int) + k = M 18 1 → k < n → inR acc → fX5_pilotsUnderWay_4 N A r n acc a = some (wrap (acc + sumN (fun p => if placeM M p (M 18 0) = -1 then 1 else 0) k a))
  | 0, n, a, acc, h, hn, hr => by
    match n, hn with
    | n + 1, _ =>
      rw [fX5_pilotsUnderWay_4, hP.2.1.2.2.1, if_pos (ge_z h), sumN, Int.add_zero, wrap_of hr]
  | k + 1, n, a, acc, h, hn, hr => by
    have ha := lt_sc h
    have h6 := hG.p6 ha
    obtain ⟨L, l1, l2⟩ := hP.2.2.2.1 a ha
    have hlen := l2.len hG.2.1
    have ea : Unit → wrap ((a : Int) + 1) = ((a + 1 : Nat) : Int) := fun _ => wrap_eq (by omega) (by omega)
    match n, hn with
    | n + 1, hn =>
      have ih := fun (acc : Int) (hr : inR acc) => X5_underWay4 hN hG hP (k := k) (n := n) (a := a + 1) (acc := acc) (by rw [sc_cast]; exact h) (Nat.lt_of_succ_lt_succ hn) hr
      rw [fX5_pilotsUnderWay_4, hP.2.1.2.2.1, if_neg (Int.not_le.mpr ha), sumN, ck6 h6, Int.toNat_natCast, X4_placeAt l1.2.2 (by omega), obind_some, hP.2.1.1, l2.place]
      by_cases e : placeL (M 18 0) L = -1
      · rw [if_pos e, if_pos e]
        simp only [bnd_eq]
        rw [ea (), ih _ (wrap_inR _), wrap_wadd, Int.add_assoc]
      · rw [if_neg e, if_neg e, bnd_eq, ea (), ih _ hr, Int.zero_add]
def ovM (M : MR) (w : Int) (p : Nat) : Int := if w = 8 then sumN (fun k => if hasR (M 17 k) p = true then 1 else 0) (M 18 4).toNat 0 else if w = 9 then sumN (fun o => if tofM M o p = true then M 2 o + 2 else 0) (M 18 3).toNat 0 else if placeM M p (M 18 0) = -1 then 1 else 0
theorem X9_over4 {N : Nat} {A : AH} {w : Int} (hN : 3000 ≤ N) (hG : GD (mvA A)) (hpl : ∀ p : Nat, (p : Int) < mvA A 18 1 → placeM (mvA A) p (mvA A 18 0) = -1 ∨ 0 ≤ placeM (mvA A) p (mvA A 18 0)) : ∀ {k n a : Nat} {acc : Int}, (a : Int) + k = mvA A 18 1 → k < n → inR acc → fX9_overPilots_4 N A w n acc a = some (wrap (acc + sumN (fun p => ovM (mvA A) w p) k a))
  | 0, n, a, acc, h, hn, hr => by
    match n, hn with
    | n + 1, _ =>
      rw [fX9_overPilots_4, show gI A 349 20 = mvA A 18 1 from rfl, if_pos (ge_z h), sumN, Int.add_zero, wrap_of hr]
  | k + 1, n, a, acc, h, hn, hr => by
    have ha := lt_sc h
    have h6 := hG.p6 ha
    have c3 := hG.2.1.2.2.2.1
    have c4 := hG.2.1.2.2.2.2
    have ea : Unit → wrap ((a : Int) + 1) = ((a + 1 : Nat) : Int) := fun _ => wrap_eq (by omega) (by omega)
    match n, hn with
    | n + 1, hn =>
      have ih := fun (acc : Int) (hr : inR acc) => X9_over4 (w := w) hN hG hpl (k := k) (n := n) (a := a + 1) (acc := acc) (by rw [sc_cast]; exact h) (Nat.lt_of_succ_lt_succ hn) hr
      rw [fX9_overPilots_4, show gI A 349 20 = mvA A 18 1 from rfl, if_neg (Int.not_le.mpr ha), sumN]
      unfold ovM
      by_cases e8 : w = 8
      · have q : fX9_rides N A a = _ := X9_rides4 (N := N) (A := A) (p := a) hG (k := (mvA A 18 4).toNat) (n := N) (a := 0) (acc := 0) (nat0 c4.1) (by omega) inR_0
        rw [if_pos e8, if_pos e8, q, obind_some, wz]
        simp only [bnd_eq]
        rw [wrap_addw, ea (), ih _ (wrap_inR _), wrap_wadd, Int.add_assoc]
        unfold ovM
        rfl
      · rw [if_neg e8, if_neg e8]
        by_cases e9 : w = 9
        · have q : fX9_tripHours N A a = _ := X9_tripHours4 (N := N) (A := A) (p := a) hG (k := (mvA A 18 3).toNat) (n := N) (a := 0) (acc := 0) (nat0 c3.1) (by omega) inR_0
          rw [if_pos e9, if_pos e9, q, obind_some, wz]
          simp only [bnd_eq]
          rw [wrap_addw, ea (), ih _ (wrap_inR _), wrap_wadd, Int.add_assoc]
          unfold ovM
          rfl
        · rw [if_neg e9, if_neg e9, X9_placeAt hN hG, obind_some, show gI A 349 19 = mvA A 18 0 from rfl]
          rcases hpl a ha with q | q
          · rw [if_neg (by omega), if_pos q]
            simp only [bnd_eq]
            rw [ea (), ih _ (wrap_inR _), wrap_wadd, Int.add_assoc]
            unfold ovM
            rfl
          · rw [if_pos q, if_neg (by omega)]
            simp only [bnd_eq]
            rw [ea (), ih _ (wrap_inR _), wrap_wadd, Int.add_assoc]
            unfold ovM
            rfl
