/-! refusals -/
def refC (C : AH) (w code : Int) : AH := sI (sI (sI C 349 30 0) 349 29 w) 349 0 code
def refA (A : AH) (w : Int) : AH := sI (sI A 1 8 w) 1 9 0
theorem X8_refuse {N : Nat} {A : AH} {w : Int} : fX8_refuseFor N A w = if w = 0 then some (0, A) else some (5, nX (refA A w)) := rfl
theorem X9_refuses {N : Nat} {C : AH} {w code : Int} (h : gI C 349 45 = 0) : fX9_refuses N C w code = some (0, refC C w code) := by
  unfold fX9_refuses
  rw [if_pos h]
  rfl
theorem INV.refuse {A A1 C C1 : AH} {m : Nat} {w code : Int} (h : INV A C) (ha : FX m XQ A A1) (hc : FQ ST C C1) : INV (refA A1 w) (refC C1 w code) := by
  obtain ⟨h1, h2, h3, h4, h5, h6, h7, h8⟩ := h.query ha hc
  have xa : FX 0 (fun a => a = 1) A1 (refA A1 w) := (FX_sI A1 (S := fun a => a = 1) (by omega) rfl).tr (FX_sI _ (by omega) rfl)
  have fc : FQ (fun a k => a = 349 ∧ (k = 30 ∨ k = 29 ∨ k = 0)) C1 (refC C1 w code) := ((FQ_sI C1 (S := fun a k => a = 349 ∧ (k = 30 ∨ k = 29 ∨ k = 0)) (by omega)).set (by omega)).set (by omega)
  have ev : mvA (refC C1 w code) = mvA C1 := fc.evs (fun a k q => by omega)
  refine ⟨by rw [ev]; exact h1, by rw [ev]; exact h2.fx h1 xa (fun a q1 q2 => by omega), (h3.cls xa (fun a q1 q2 => by omega)).mdl fc (fun a k q => by omega), (h4.cls xa (fun a q1 q2 => by omega) (by unfold refA; rw [gI_sI, if_neg (by omega), gI_sI, if_neg (by omega)])).mdl fc (fun a k q => by omega), (h5.cls xa (by omega)).mdl fc (fun a k q => by omega), ?_, ?_, Nat.le_trans h8 xa.1.1⟩
  · obtain ⟨k1, k2, k3, k4⟩ := h6
    unfold KE refA refC
    refine ⟨?_, ?_, ?_, ?_⟩
    · rw [gI_sI, if_neg (by omega), gI_sI, if_neg (by omega), gI_sI, if_neg (by omega), gI_sI, if_neg (by omega), gI_sI, if_neg (by omega)]
      exact k1
    · rw [gI_sI, if_neg (by omega), gI_sI, if_pos ⟨rfl, rfl⟩, gI_sI, if_neg (by omega), gI_sI, if_pos ⟨rfl, rfl⟩]
    · rw [gI_sI, if_pos ⟨rfl, rfl⟩, gI_sI, if_neg (by omega), gI_sI, if_neg (by omega), gI_sI, if_pos ⟨rfl, rfl⟩]
    · rw [gI_sI, if_neg (by omega), gI_sI, if_neg (by omega), gI_sI, if_neg (by omega)]
      exact k4
  · rw [fc.2.2 349 45 (by omega)]
    exact h7
theorem STEP.refuse {cs : List (Nat × Int)} {A A1 C C1 : AH} {m : Nat} {w code : Int} (h : INV A C) (ha : FX m XQ A A1) (hm : m ≤ 400) (hc : FQ ST C C1) (hk : (5, code) ∈ cs) : STEP cs (some (5, 0, nX (refA A1 w))) (some (0, refC C1 w code)) A C := by
  have hi := h.refuse (w := w) (code := code) ha hc
  have xa : FX 0 XA A1 (refA A1 w) := (FX_sI A1 (S := XA) (by omega) (by unfold XA; omega)).tr (FX_sI _ (by omega) (by unfold XA; omega))
  have fc : FQ SM C1 (refC C1 w code) := ((FQ_sI C1 (S := SM) (by unfold SM; omega)).set (by unfold SM; omega)).set (by unfold SM; omega)
  have xn : FX 1 XQ (refA A1 w) (nX (refA A1 w)) := FX_nX _ hi.2.2.2.2.2.2.2
  have ht : gI (refC C1 w code) 349 0 = code := by
    unfold refC
    rw [gI_sI, if_pos ⟨rfl, rfl⟩]
  refine ⟨5, 0, nX (refA A1 w), 0, refC C1 w code, rfl, rfl, Or.inr (by rw [ht]; exact hk), (((ha.mono (Nat.le_refl m) (fun a _ q => XQ_XA a q)).tr xa).tr (xn.mono (Nat.le_refl 1) (fun a _ q => XQ_XA a q))).mono (by omega) (fun _ _ q => q), (hc.mono ST_SM).tr fc, hi.query xn (FQ.rf _)⟩
theorem whyM_nn {M : MR} {o p : Nat} {h f g r : Int} : 0 ≤ whyM M o p h f g r := by
  unfold whyM
  split
  · split
    · decide
    · split
      · split
        · split
          · split
            · split <;> decide
            · decide
          · decide
        · decide
      · decide
  · decide
theorem whyM_0 {M : MR} {o p : Nat} {h f g r : Int} (e : whyM M o p h f g r = 0) : M 7 o = 0 ∧ (M 18 0 ≤ h ∧ M 5 o ≤ h ∧ h ≤ M 6 o) ∧ f ≤ h := by
  unfold whyM at e
  by_cases h7 : M 7 o = 0
  · rw [if_pos h7] at e
    by_cases h1 : h < M 18 0 ∨ h < M 5 o ∨ M 6 o < h
    · rw [if_pos h1] at e
      exact absurd e (by decide)
    · rw [if_neg h1] at e
      refine ⟨h7, by omega, ?_⟩
      split at e
      · split at e
        · split at e
          · assumption
          · exact absurd e (by decide)
        · exact absurd e (by decide)
      · exact absurd e (by decide)
  · rw [if_neg h7] at e
    exact absurd e (by decide)
/-! planning -/
theorem op_plan {N : Nat} {A C : AH} {x1 x2 x3 : Int} (hN0 : 25000 ≤ N) (h : INV A C) : STEP [(3, 1), (5, 2)] (fX8_plan N A x1 x2 x3) (fX9_plan N C x1 x2 x3) A C := by
  unfold fX8_plan fX9_plan
  have thr := STEP.throw (cs := [(3, 1), (5, 2)]) (k := 3) (c := 1) (w := 0) h (FX.rf A) (by omega) (FQ_thr C 1) (gI_thr C 1) (by simp)
  rw [X8_order h.2.1, X9_isOrder, obind_some]
  by_cases h1 : 0 ≤ x1 ∧ x1 < mvA C 18 3
  · obtain ⟨o, rfl⟩ : ∃ o : Nat, x1 = o := ⟨x1.toNat, by omega⟩
    have ho := h1.2
    have h16 := h.1.o16 ho
    have hO := h.2.1.2.2.1 o ho
    have hM := h.1.2.2.1 o ho
    rw [if_pos h1, decide_eq_true h1, obind_some, if_pos rfl, if_neg b2t', X9_isPilot, obind_some]
    dsimp only
    rw [X8_pilot h.2.1]
    by_cases h2 : 0 ≤ x2 ∧ x2 < mvA C 18 1
    · obtain ⟨p, rfl⟩ : ∃ p : Nat, x2 = p := ⟨x2.toNat, by omega⟩
      have hp := h2.2
      have hp6 := h.1.p6 hp
      obtain ⟨L, l1, l2⟩ := h.2.1.2.2.2.1 p hp
      rw [if_pos h2, decide_eq_true h2, obind_some, if_pos rfl, if_neg b2t', X9_isHour, obind_some]
      dsimp only
      rw [X8_hour]
      by_cases h3 : 0 ≤ x3 ∧ x3 ≤ 999
      · rw [if_pos h3, decide_eq_true h3, obind_some, if_pos rfl, if_neg b2t', ck16 h16, ck6 hp6]
        dsimp only
        rw [show 2 + 6 + (o : Int).toNat = 2 + 6 + o by omega, show 2 + 22 + (p : Int).toNat = 2 + 22 + p by omega, X5_reasonTrip (by omega) (by have := l2.len h.1.2.1; omega) h.2.1.1 h.1.1 h.2.1.2.1.1 h.1.2.1 hO hM l1 l2, obind_some, l2.why, X9_whyNotTrip (by omega) h16 hp6 h.1.1 h.1.2.1 h.1.2.2.1 hM, obind_some, X8_refuse]
        have hnn : 0 ≤ whyT (mvA C) o p x3 := whyM_nn
        have fs : FQ ST C (setL C (lastM (mvA C) p)) := (FQ_setL C _).mono SS_ST
        by_cases hw : whyT (mvA C) o p x3 = 0
        · rw [if_pos hw, obind_some, if_pos rfl, if_pos (show whyT (mvA C) o p x3 ≤ 0 by omega), bnd_eq]
          dsimp only
          obtain ⟨w7, w1, w2⟩ := whyM_0 hw
          have h6 := hM.2.2.2.1
          have hh : 0 ≤ x3 ∧ x3 ≤ 900 := by omega
          have fs2 := fs.tr (FQ_thr (setL C (lastM (mvA C) p)) 0)
          obtain ⟨A2, a1, a2, a3, a4⟩ := h.add (N := N) (by omega) (FX.rf A)
          obtain ⟨C2, c1, c2, c3⟩ := h.rem (N := N) hN0 fs2
          obtain ⟨B, b1, b2, b3, b4⟩ := X5_addTrip (N := N) (p := p) (h := x3) a4 (by omega) h.1 a3 ho hp w7 hh w2
          obtain ⟨D, d1, d2, d3⟩ := X9_plans (N := N) (A := C2) (o := o) (p := p) (h := x3) h16
          have hGD := h.1.plM ho hp hh w7
          rw [c3] at d2
          rw [a1, obind_some, b1, obind_some, ck16 h16, b4, c1, obind_some, d1, obind_some, X9_end h16 (by rw [d2]; exact hGD.2.2.1 o (by rw [plM_j (Or.inr (by decide))]; exact ho)) (by rw [d2]; exact Or.inl plM_7), obind_some, d2]
          have ee : endM (plM (mvA C) o p x3) o = x3 + mvA C 2 o + 2 := by
            unfold endM
            rw [plM_9, plM_j (Or.inl (by decide))]
          rw [ee]
          exact STEP.change h (CHX.of (FX.rf A) a2 b3 b2) (by omega) ⟨_, C2, fs2, c2, d3.mono SR_SRT⟩ d2 hGD (by rw [d3.2.2 349 0 (by unfold SR; omega), c2.fq.2.2 349 0 (by unfold SH; omega), gI_thr])
        · rw [if_neg hw, obind_some, if_neg (n5 _), if_neg (show ¬ whyT (mvA C) o p x3 ≤ 0 by omega)]
          dsimp only
          rw [X9_refuses (by rw [fs.2.2 349 45 (by unfold ST; omega)]; exact h.2.2.2.2.2.2.1), obind_some]
          exact STEP.refuse h (FX.rf A) (by omega) fs (by simp)
      · rw [if_neg h3, decide_eq_false h3, obind_some, if_neg (n3 _), if_pos b2f', X9_fails, obind_some]
        exact thr
    · rw [if_neg h2, decide_eq_false h2, obind_some, if_neg (n3 _), if_pos b2f', X9_fails, obind_some]
      exact thr
  · rw [if_neg h1, decide_eq_false h1, obind_some, if_neg (n3 _), if_pos b2f', X9_fails, obind_some]
    exact thr
/-! runs -/
theorem X5_run82 {N : Nat} {A : AH} {r b : Nat} {set : Int} {M : MR} (hG : GD M) (hP : RP A r M) (hb : (b : Int) < M 18 2) : ∀ {k n a : Nat}, (a : Int) + k = M 18 1 → k < n → fX5_reasonAgainstRun_82 N A r (r + 28 + b) set n a = some (if anyN (fun p => bitF set p && decide (goaM M p ≠ M 15 b % 2)) k a = true then 11 else 0)
  | 0, n, a, h, hn => by
    match n, hn with
    | n + 1, _ =>
      rw [fX5_reasonAgainstRun_82, hP.2.1.2.2.1, if_pos (ge_z h)]
      rfl
  | k + 1, n, a, h, hn => by
    have ha := lt_sc h
    have h6 := hG.p6 ha
    have hB := hP.2.2.2.2 b hb
    have ea : Unit → wrap ((a : Int) + 1) = ((a + 1 : Nat) : Int) := fun _ => wrap_eq (by omega) (by omega)
    match n, hn with
    | n + 1, hn =>
      have ih := X5_run82 (N := N) (set := set) hG hP hb (k := k) (n := n) (a := a + 1) (by rw [sc_cast]; exact h) (Nat.lt_of_succ_lt_succ hn)
      rw [fX5_reasonAgainstRun_82, hP.2.1.2.2.1, if_neg (Int.not_le.mpr ha), isRider_bit, obind_some, anyN]
      by_cases hbit : bitF set a = true
      · obtain ⟨L, l1, l2⟩ := hP.2.2.2.1 a ha
        rw [hbit, if_neg b2t', ck6 h6, Int.toNat_natCast, X4_lastGoal l1.2.2, obind_some, hB.2.2.1, ← l2.goa, Bool.true_and]
        by_cases hg : goaM M a = M 15 b % 2
        · rw [if_pos hg, bnd_eq, ea (), ih, decide_eq_false (fun z => z hg), Bool.false_or]
        · rw [if_neg hg, decide_eq_true hg, Bool.true_or, if_pos rfl]
      · rw [Bool.not_eq_true _ |>.mp hbit, if_pos b2f', bnd_eq, ea (), ih, Bool.false_and, Bool.false_or]
theorem X5_run38 {N : Nat} {A : AH} {r b : Nat} {set hh : Int} {M : MR} (hN : 100 ≤ N) (hG : GD M) (hP : RP A r M) (hb : (b : Int) < M 18 2) : ∀ {k n a : Nat}, (a : Int) + k = M 18 1 → k < n → fX5_reasonAgainstRun_38 N A r (r + 28 + b) hh set n a = some (if anyN (fun p => bitF set p && decide (hh < freM M p)) k a = true then 10 else if anyN (fun p => bitF set p && decide (goaM M p ≠ M 15 b % 2)) (M 18 1).toNat 0 = true then 11 else 0)
  | 0, n, a, h, hn => by
    have c1 := hG.2.1.2.1
    match n, hn with
    | n + 1, _ =>
      rw [fX5_reasonAgainstRun_38, hP.2.1.2.2.1, if_pos (ge_z h)]
      exact X5_run82 (a := 0) hG hP hb (nat0 c1.1) (by omega)
  | k + 1, n, a, h, hn => by
    have ha := lt_sc h
    have h6 := hG.p6 ha
    have ea : Unit → wrap ((a : Int) + 1) = ((a + 1 : Nat) : Int) := fun _ => wrap_eq (by omega) (by omega)
    match n, hn with
    | n + 1, hn =>
      have ih := X5_run38 (N := N) (set := set) (hh := hh) hN hG hP hb (k := k) (n := n) (a := a + 1) (by rw [sc_cast]; exact h) (Nat.lt_of_succ_lt_succ hn)
      rw [fX5_reasonAgainstRun_38, hP.2.1.2.2.1, if_neg (Int.not_le.mpr ha), isRider_bit, obind_some, anyN]
      by_cases hbit : bitF set a = true
      · obtain ⟨L, l1, l2⟩ := hP.2.2.2.1 a ha
        rw [hbit, if_neg b2t', ck6 h6, Int.toNat_natCast, X4_freeFrom l1.2.2, obind_some, ← l2.fre, Bool.true_and]
        by_cases hg : freM M a ≤ hh
        · rw [if_pos hg, bnd_eq, ea (), ih, decide_eq_false (show ¬ hh < freM M a by omega), Bool.false_or]
        · rw [if_neg hg, decide_eq_true (show hh < freM M a by omega), Bool.true_or, if_pos rfl]
      · rw [Bool.not_eq_true _ |>.mp hbit, if_pos b2f', bnd_eq, ea (), ih, Bool.false_and, Bool.false_or]
theorem X5_reasonRun {N : Nat} {A : AH} {r b s : Nat} {h : Int} {M : MR} (hN : 100 ≤ N) (hG : GD M) (hP : RP A r M) (hb : (b : Int) < M 18 2) (hs : s < 64) : fX5_reasonAgainstRun N A r (r + 28 + b) h s = some (whyRunM M b h s) := by
  have c1 := hG.2.1.2.1
  have hB := hP.2.2.2.2 b hb
  unfold fX5_reasonAgainstRun whyRunM
  rw [hP.2.1.1, hB.2.2.2.1, hB.1]
  by_cases h1 : h < M 18 0
  · rw [if_neg (by omega), if_pos h1]
  · rw [if_pos (show M 18 0 ≤ h by omega), if_neg h1]
    by_cases h2 : h < M 16 b
    · rw [if_neg (by omega), if_pos h2]
    · rw [if_pos (show M 16 b ≤ h by omega), if_neg h2, J6_bitCount hs, obind_some]
      by_cases h3 : M 14 b < bitsM s
      · rw [if_neg (by omega), if_pos h3]
      · rw [if_pos (show bitsM s ≤ M 14 b by omega), if_neg h3]
        exact X5_run38 (a := 0) hN hG hP hb (nat0 c1.1) (by omega)
theorem whyRun_0 {M : MR} {b : Nat} {h set : Int} (hC : MC M) (e : whyRunM M b h set = 0) : M 18 0 ≤ h ∧ M 16 b ≤ h ∧ ∀ p : Nat, (p : Int) < M 18 1 → bitF set p = true → freM M p ≤ h := by
  have c1 := hC.2.1
  unfold whyRunM at e
  by_cases h1 : h < M 18 0
  · rw [if_pos h1] at e; exact absurd e (by decide)
  · rw [if_neg h1] at e
    by_cases h2 : h < M 16 b
    · rw [if_pos h2] at e; exact absurd e (by decide)
    · rw [if_neg h2] at e
      by_cases h3 : M 14 b < bitsM set
      · rw [if_pos h3] at e; exact absurd e (by decide)
      · rw [if_neg h3] at e
        by_cases h4 : anyN (fun p => bitF set p && decide (h < freM M p)) (M 18 1).toNat 0 = true
        · rw [if_pos h4] at e; exact absurd e (by decide)
        · refine ⟨by omega, by omega, fun p hp hb => ?_⟩
          by_cases q : freM M p ≤ h
          · exact q
          · exact absurd (anyN_iff.mpr ⟨p, by omega, by rw [Bool.and_eq_true]; exact ⟨hb, decide_eq_true (by omega)⟩⟩) h4
theorem whyRun_nn {M : MR} {b : Nat} {h set : Int} : 0 ≤ whyRunM M b h set := by
  unfold whyRunM
  split
  · decide
  · split
    · decide
    · split
      · decide
      · split
        · decide
        · split <;> decide
theorem iShr_zero {x : Int} {P : Nat} (hx : inR x) (hP : P ≤ 6) (h : iShr x (P : Int) = 0) : ∃ s : Nat, x = s ∧ s < 64 ∧ s < 2 ^ P := by
  have e : iShr x (P : Int) = x / (2 ^ P : Int) := by
    unfold iShr
    rw [i32_nI, pk_shr _ _ P (s_l32 P (by omega)), i32_toInt' hx, Int.shiftRight_eq_div_pow]
    rfl
  rw [e] at h
  obtain rfl | rfl | rfl | rfl | rfl | rfl | rfl : P = 0 ∨ P = 1 ∨ P = 2 ∨ P = 3 ∨ P = 4 ∨ P = 5 ∨ P = 6 := by omega
  all_goals
    simp only [Int.reducePow] at h
    refine ⟨x.toNat, by omega, by omega, ?_⟩
    simp only [Nat.reducePow]
    omega
theorem op_run {N : Nat} {A C : AH} {x1 x2 x3 : Int} (hN0 : 25000 ≤ N) (h : INV A C) (hx3 : inR x3) : STEP [(3, 1), (1, 2), (5, 3)] (fX8_run N A x1 x2 x3) (fX9_run N C x1 x2 x3) A C := by
  unfold fX8_run fX9_run
  have thr := STEP.throw (cs := [(3, 1), (1, 2), (5, 3)]) (k := 3) (c := 1) (w := 0) h (FX.rf A) (by omega) (FQ_thr C 1) (gI_thr C 1) (by simp)
  rw [X5_hasBoat h.2.1, X9_isBoat, obind_some, obind_some]
  by_cases h1 : 0 ≤ x1 ∧ x1 < mvA C 18 2
  · obtain ⟨b, rfl⟩ : ∃ b : Nat, x1 = b := ⟨x1.toNat, by omega⟩
    have hb := h1.2
    have hb3 := h.1.b3 hb
    have c1 := h.1.2.1.2.1
    have hB := (h.1.2.2.2.2.1 b hb).2
    rw [decide_eq_true h1, if_neg b2t', if_neg b2t', X9_isBetween, bt_in, obind_some]
    by_cases h2 : 0 ≤ x2 ∧ x2 ≤ 900
    · rw [decide_eq_true h2, if_neg b2t', if_neg (by omega), if_pos h2.2, h.2.1.2.1.2.2.1, show gI C 349 20 = mvA C 18 1 from rfl]
      obtain ⟨P, eP⟩ : ∃ P : Nat, mvA C 18 1 = (P : Int) := ⟨(mvA C 18 1).toNat, by omega⟩
      by_cases h3 : iShr x3 (mvA C 18 1) = 0
      · rw [if_pos h3, if_pos h3, chk_pos _ (by omega)]
        rw [eP] at h3
        obtain ⟨s, rfl, hs1, hs2⟩ := iShr_zero hx3 (by omega) h3
        obtain ⟨C1, e1, f1⟩ := X9_whyNotRun (N := N) (A := C) (b := b) (h := x2) (set := (s : Int)) (by omega) hb3 h.1.2.1 h.1.2.2.1 hB.1
        have fs : FQ ST C C1 := f1.mono SS_ST
        have hnn : 0 ≤ whyRunM (mvA C) b x2 s := whyRun_nn
        rw [show 2 + 28 + (b : Int).toNat = 2 + 28 + b by omega, X5_reasonRun (by omega) h.1 h.2.1 hb hs1, obind_some, e1, obind_some, X8_refuse]
        by_cases hw : whyRunM (mvA C) b x2 s = 0
        · rw [if_pos hw, obind_some, if_pos rfl, if_pos (show whyRunM (mvA C) b x2 s ≤ 0 by omega), bnd_eq]
          dsimp only
          obtain ⟨w1, w2, w3⟩ := whyRun_0 h.1.2.1 hw
          have hn : NR (mvA C) b x2 s := ⟨hb, h2, w2, hs1, by rw [eP, Int.toNat_natCast]; exact hs2⟩
          have hroom := h.1.room hb (by omega)
          have hm := h.1.2.1.2.2.2.2
          have fs2 := fs.tr (FQ_thr C1 0)
          obtain ⟨A2, a1, a2, a3, a4⟩ := h.add (N := N) (by omega) (FX.rf A)
          obtain ⟨C2, c1, c2, c3⟩ := h.rem (N := N) hN0 fs2
          obtain ⟨B, b1, b2, b3⟩ := X5_addRun (N := N) (r := 2) (h := x2) (by omega) a4 (by omega) h.1 a3 hn w3
          obtain ⟨D, d1, d2, d3⟩ := X9_goes (N := N) (A := C2) (b := b) (h := x2) (set := (s : Int)) hb3 (by rw [c3]; exact h.1.1) (by rw [c3]; exact ⟨hB.1, hroom.1⟩) (by rw [c3]; exact ⟨hm.1, hroom.2⟩) h2
          rw [c3] at d1 d2
          have bf : gI B (2 + 28 + b) 3 = x2 + mvA C 0 1 := by
            rw [(b2.2.2.2.2 b (by rw [goM_18 (by decide)]; exact hb)).2.2.2.1, goM_16]
          rw [a1, obind_some, b1, obind_some, chk_pos _ (by omega), bf, c1, obind_some, d1, obind_some]
          exact STEP.change h (CHX.of (FX.rf A) a2 b3 b2) (by omega) ⟨_, C2, fs2, c2, d3.mono SR_SRT⟩ d2 (h.1.goM hn) (by
            show gI D 349 0 = 0
            rw [d3.2.2 349 0 (by unfold SR; omega), c2.fq.2.2 349 0 (by unfold SH; omega), gI_thr])
        · rw [if_neg hw, obind_some, if_neg (n5 _), if_neg (show ¬ whyRunM (mvA C) b x2 s ≤ 0 by omega)]
          dsimp only
          rw [X9_refuses (by rw [fs.2.2 349 45 (by unfold ST; omega)]; exact h.2.2.2.2.2.2.1), obind_some]
          exact STEP.refuse h (FX.rf A) (by omega) fs (by simp)
      · rw [if_neg h3, if_neg h3, X9_fails, obind_some]
        exact STEP.throw h (FX.rf A) (by omega) (FQ_thr C 2) (gI_thr C 2) (by simp)
    · rw [decide_eq_false h2, if_pos b2f', X9_fails, obind_some]
      by_cases h4 : x2 < 0
      · rw [if_pos h4]
        exact thr
      · rw [if_neg h4, if_neg (by omega)]
        exact thr
  · rw [decide_eq_false h1, if_pos b2f', if_pos b2f', X9_fails, obind_some]
    exact thr
