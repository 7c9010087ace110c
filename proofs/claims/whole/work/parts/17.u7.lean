/-! calls: pilots, boats, orders, windows -/
theorem n1 (A : AH) : ¬ ((1 : Nat), A).1 = 0 := by show ¬ (1 : Nat) = 0; decide
theorem n3 (A : AH) : ¬ ((3 : Nat), A).1 = 0 := by show ¬ (3 : Nat) = 0; decide
theorem n5 (A : AH) : ¬ ((5 : Nat), A).1 = 0 := by show ¬ (5 : Nat) = 0; decide
theorem X8_hour {N : Nat} {A : AH} {x : Int} : fX8_requireHour N A x = if 0 ≤ x ∧ x ≤ 999 then some (0, A) else some (3, nX A) := by
  unfold fX8_requireHour
  by_cases h : 0 ≤ x ∧ x ≤ 999
  · rw [if_pos h, if_neg (by omega), if_pos (by omega)]
  · rw [if_neg h]
    by_cases h2 : x < 0
    · rw [if_pos h2]
    · rw [if_neg h2, if_neg (by omega)]
theorem X8_order {N : Nat} {A : AH} {M : MR} (hP : RP A 2 M) {x : Int} : fX8_requireOrder N A x = if 0 ≤ x ∧ x < M 18 3 then some (0, A) else some (3, nX A) := by
  unfold fX8_requireOrder
  rw [X5_hasOrder hP, obind_some]
  by_cases h : 0 ≤ x ∧ x < M 18 3
  · rw [if_pos h, decide_eq_true h, if_neg b2t']
  · rw [if_neg h, decide_eq_false h, if_pos b2f']
theorem X8_pilot {N : Nat} {A : AH} {M : MR} (hP : RP A 2 M) {x : Int} : fX8_requirePilot N A x = if 0 ≤ x ∧ x < M 18 1 then some (0, A) else some (3, nX A) := by
  unfold fX8_requirePilot
  rw [X5_hasPilot hP, obind_some]
  by_cases h : 0 ≤ x ∧ x < M 18 1
  · rw [if_pos h, decide_eq_true h, if_neg b2t']
  · rw [if_neg h, decide_eq_false h, if_pos b2f']
theorem X9_isOrder {N : Nat} {A : AH} {x : Int} : fX9_isOrder N A x = some (b2i (decide (0 ≤ x ∧ x < mvA A 18 3))) := by
  unfold fX9_isOrder
  rw [X5_has (N := 0), show gI A 349 22 = mvA A 18 3 from rfl]
  by_cases h : 0 ≤ x ∧ x < mvA A 18 3
  · rw [if_pos h, decide_eq_true h]; rfl
  · rw [if_neg h, decide_eq_false h]; rfl
theorem X9_isPilot {N : Nat} {A : AH} {x : Int} : fX9_isPilot N A x = some (b2i (decide (0 ≤ x ∧ x < mvA A 18 1))) := by
  unfold fX9_isPilot
  rw [X5_has (N := 0), show gI A 349 20 = mvA A 18 1 from rfl]
  by_cases h : 0 ≤ x ∧ x < mvA A 18 1
  · rw [if_pos h, decide_eq_true h]; rfl
  · rw [if_neg h, decide_eq_false h]; rfl
theorem X9_isBoat {N : Nat} {A : AH} {x : Int} : fX9_isBoat N A x = some (b2i (decide (0 ≤ x ∧ x < mvA A 18 2))) := by
  unfold fX9_isBoat
  rw [X5_has (N := 0), show gI A 349 21 = mvA A 18 2 from rfl]
  by_cases h : 0 ≤ x ∧ x < mvA A 18 2
  · rw [if_pos h, decide_eq_true h]; rfl
  · rw [if_neg h, decide_eq_false h]; rfl
theorem X9_isHour {N : Nat} {A : AH} {x : Int} : fX9_isHour N A x = some (b2i (decide (0 ≤ x ∧ x ≤ 999))) := by
  unfold fX9_isHour
  rw [X9_isBetween, bt_in, obind_some]
theorem op_depth {N : Nat} {A C : AH} {x1 : Int} (h : INV A C) : STEP [(3, 1)] (fX8_depth N A x1) (fX9_depth N C x1) A C := by
  unfold fX8_depth fX9_depth
  rw [X8_hour, X9_isHour, obind_some]
  by_cases h1 : 0 ≤ x1 ∧ x1 ≤ 999
  · have e : mvA (sI C 349 0 0) = mvA C := mvA_thr C 0
    rw [if_pos h1, decide_eq_true h1, obind_some, if_pos rfl, if_neg b2t', bnd_eq, X9_depthAt (by rw [e]; exact h.1.1) h1.1, obind_some, e]
    dsimp only
    rw [X5_depthAt h.2.1.1 h.1.1 h1.1 ⟨by omega, by omega⟩, obind_some]
    exact STEP.query h (FX.rf A) (by omega) (FQ_thr C 0) (gI_thr C 0)
  · rw [if_neg h1, decide_eq_false h1, obind_some, if_neg (n3 _), if_pos b2f', X9_fails, obind_some]
    exact STEP.throw h (FX.rf A) (by omega) (FQ_thr C 1) (gI_thr C 1) (by simp)
theorem op_addPilot {N : Nat} {A C : AH} {x1 : Int} (hN : 25000 ≤ N) (h : INV A C) : STEP [(1, 1), (2, 2)] (fX8_addPilot N A x1) (fX9_addPilot N C x1) A C := by
  unfold fX8_addPilot fX9_addPilot
  rw [X9_isBetween, bt_in, obind_some]
  by_cases h1 : 1 ≤ x1 ∧ x1 ≤ 4
  · have c1 := h.1.2.1.2.1
    rw [decide_eq_true h1, if_neg b2t', if_neg (by omega), if_pos h1.2, h.2.1.2.1.2.2.1, show gI C 349 20 = mvA C 18 1 from rfl]
    by_cases h2 : mvA C 18 1 < 6
    · rw [if_pos h2, if_neg (by omega), bnd_eq]
      obtain ⟨A2, a1, a2, a3, a4⟩ := h.add (N := N) (by omega) (FX.rf A)
      obtain ⟨C2, c1, c2, c3⟩ := h.rem (N := N) hN (FQ_thr C 0)
      obtain ⟨B, b1, b2, b3⟩ := X5_makePilot (N := N) (v := x1) (by omega) h.1 a3 h2
      rw [a1, obind_some, b1, obind_some, c1, obind_some]
      obtain ⟨P, eP⟩ : ∃ P : Nat, mvA C 18 1 = (P : Int) := ⟨(mvA C 18 1).toNat, by omega⟩
      have v1 : gI C2 349 20 = P := by
        rw [← eP, ← c3]
        rfl
      have hp : P < 6 := by omega
      simp only [bnd_eq]
      rw [v1, ck6 hp, ck6 hp, ck6 hp, Int.toNat_natCast]
      rw [show gI (sI (sI (sI C2 361 P x1) 362 P 0) 363 P 0) 349 20 = (P : Int) from by rw [gI_sI, if_neg (by omega), gI_sI, if_neg (by omega), gI_sI, if_neg (by omega), v1], wrap_eq (by omega) (by omega)]
      rw [eP]
      refine STEP.change h (M' := mkP (mvA C) x1) (CHX.of (FX.rf A) a2 b3 b2) (by omega) ⟨_, C2, FQ_thr C 0, c2, ((((FQ.rf C2).set (by unfold SRT; omega)).set (by unfold SRT; omega)).set (by unfold SRT; omega)).set (by unfold SRT; omega)⟩ ?_ (h.1.mkP h2 h1) ?_
      · rw [mvA_sI9 _ (i := 1) rfl (by decide), mvA_sIr _ (j := 13) rfl (by decide), mvA_sIr _ (j := 12) rfl (by decide), mvA_sIr _ (j := 11) rfl (by decide), c3]
        unfold mkP
        rw [eP, Int.toNat_natCast]
      · rw [gI_sI, if_neg (by omega), gI_sI, if_neg (by omega), gI_sI, if_neg (by omega), gI_sI, if_neg (by omega), c2.fq.2.2 349 0 (by unfold SH; omega), gI_thr]
    · rw [if_neg h2, if_pos (by omega), X9_fails, obind_some]
      exact STEP.throw h (FX.rf A) (by omega) (FQ_thr C 2) (gI_thr C 2) (by simp)
  · have thr := STEP.throw (cs := [(1, 1), (2, 2)]) (k := 1) (c := 1) (w := 0) h (FX.rf A) (by omega) (FQ_thr C 1) (gI_thr C 1) (by simp)
    rw [decide_eq_false h1, if_pos b2f', X9_fails, obind_some]
    by_cases h3 : x1 < 1
    · rw [if_pos h3]
      exact thr
    · rw [if_neg h3, if_neg (by omega)]
      exact thr
theorem op_addBoat {N : Nat} {A C : AH} {x1 : Int} (hN : 25000 ≤ N) (h : INV A C) : STEP [(1, 1), (2, 2)] (fX8_addBoat N A x1) (fX9_addBoat N C x1) A C := by
  unfold fX8_addBoat fX9_addBoat
  rw [X9_isBetween, bt_in, obind_some]
  by_cases h1 : 1 ≤ x1 ∧ x1 ≤ 4
  · have c1 := h.1.2.1.2.2.1
    rw [decide_eq_true h1, if_neg b2t', if_neg (by omega), if_pos h1.2, h.2.1.2.1.2.2.2, show gI C 349 21 = mvA C 18 2 from rfl]
    by_cases h2 : mvA C 18 2 < 3
    · rw [if_pos h2, if_neg (by omega), bnd_eq]
      obtain ⟨A2, a1, a2, a3, a4⟩ := h.add (N := N) (by omega) (FX.rf A)
      obtain ⟨C2, c1, c2, c3⟩ := h.rem (N := N) hN (FQ_thr C 0)
      obtain ⟨B, b1, b2, b3⟩ := X5_makeBoat (N := N) (v := x1) (by omega) h.1 a3 h2
      rw [a1, obind_some, b1, obind_some, c1, obind_some]
      obtain ⟨P, eP⟩ : ∃ P : Nat, mvA C 18 2 = (P : Int) := ⟨(mvA C 18 2).toNat, by omega⟩
      have v1 : gI C2 349 21 = P := by
        rw [← eP, ← c3]
        rfl
      have hp : P < 3 := by omega
      simp only [bnd_eq]
      rw [v1, chk_pos _ (by omega), chk_pos _ (by omega), chk_pos _ (by omega), Int.toNat_natCast]
      rw [show gI (sI (sI (sI C2 364 P x1) 365 P 0) 366 P 0) 349 21 = (P : Int) from by rw [gI_sI, if_neg (by omega), gI_sI, if_neg (by omega), gI_sI, if_neg (by omega), v1], wrap_eq (by omega) (by omega)]
      rw [eP]
      refine STEP.change h (M' := mkB (mvA C) x1) (CHX.of (FX.rf A) a2 b3 b2) (by omega) ⟨_, C2, FQ_thr C 0, c2, ((((FQ.rf C2).set (by unfold SRT; omega)).set (by unfold SRT; omega)).set (by unfold SRT; omega)).set (by unfold SRT; omega)⟩ ?_ (h.1.mkB h2 h1) ?_
      · rw [mvA_sI9 _ (i := 2) rfl (by decide), mvA_sIr _ (j := 16) rfl (by decide), mvA_sIr _ (j := 15) rfl (by decide), mvA_sIr _ (j := 14) rfl (by decide), c3]
        unfold mkB
        rw [eP, Int.toNat_natCast]
      · rw [gI_sI, if_neg (by omega), gI_sI, if_neg (by omega), gI_sI, if_neg (by omega), gI_sI, if_neg (by omega), c2.fq.2.2 349 0 (by unfold SH; omega), gI_thr]
    · rw [if_neg h2, if_pos (by omega), X9_fails, obind_some]
      exact STEP.throw h (FX.rf A) (by omega) (FQ_thr C 2) (gI_thr C 2) (by simp)
  · have thr := STEP.throw (cs := [(1, 1), (2, 2)]) (k := 1) (c := 1) (w := 0) h (FX.rf A) (by omega) (FQ_thr C 1) (gI_thr C 1) (by simp)
    rw [decide_eq_false h1, if_pos b2f', X9_fails, obind_some]
    by_cases h3 : x1 < 1
    · rw [if_pos h3]
      exact thr
    · rw [if_neg h3, if_neg (by omega)]
      exact thr
theorem X5_isOrder {N : Nat} {A : AH} {r : Nat} {M : MR} (hP : RP A r M) {s t e l : Int} : fX5_isOrder N A r s t e l = some (b2i (decide ((1 ≤ s ∧ s ≤ 4) ∧ (1 ≤ t ∧ t ≤ 30) ∧ M 18 0 ≤ e ∧ e ≤ l ∧ l ≤ 900))) := by
  unfold fX5_isOrder
  rw [hP.2.1.1]
  by_cases h : (1 ≤ s ∧ s ≤ 4) ∧ (1 ≤ t ∧ t ≤ 30) ∧ M 18 0 ≤ e ∧ e ≤ l ∧ l ≤ 900
  · rw [decide_eq_true h, if_neg (by omega), if_neg (by omega), if_neg (by omega), if_neg (by omega), if_neg (by omega), if_neg (by omega), if_neg (by omega)]
    rfl
  · rw [decide_eq_false h]
    by_cases h1 : s < 1
    · rw [if_pos h1]; rfl
    · rw [if_neg h1]
      by_cases h2 : 4 < s
      · rw [if_pos h2]; rfl
      · rw [if_neg h2]
        by_cases h3 : t < 1
        · rw [if_pos h3]; rfl
        · rw [if_neg h3]
          by_cases h4 : 30 < t
          · rw [if_pos h4]; rfl
          · rw [if_neg h4]
            by_cases h5 : e < M 18 0
            · rw [if_pos h5]; rfl
            · rw [if_neg h5]
              by_cases h6 : l < e
              · rw [if_pos h6]; rfl
              · rw [if_neg h6, if_pos (by omega)]; rfl
/-- the reference's order, in quiet too -/
theorem X9_order {N : Nat} {C : AH} {x1 x2 x3 x4 x5 : Int} (hN : 25000 ≤ N) (hG : GD (mvA C)) (hq : CQ C) :
    (¬ ordOk (mvA C) x1 x3 x4 x5 ∧ fX9_order N C x1 x2 x3 x4 x5 = some (0, sI C 349 0 1)) ∨ (ordOk (mvA C) x1 x3 x4 x5 ∧ mvA C 18 3 = 16 ∧ fX9_order N C x1 x2 x3 x4 x5 = some (0, sI C 349 0 2)) ∨
    (ordOk (mvA C) x1 x3 x4 x5 ∧ mvA C 18 3 < 16 ∧ ∃ B, fX9_order N C x1 x2 x3 x4 x5 = some (mvA C 18 3, B) ∧ CHG C B ∧ gI B 349 0 = 0 ∧ mvA B = mkO (mvA C) x1 (if x2 = 0 then 0 else 1) x3 x4 x5) := by
  have c3 := hG.2.1.2.2.2.1
  unfold fX9_order
  rw [X9_isBetween, bt_in, obind_some, X9_isBetween, bt_in, obind_some, show gI C 349 19 = mvA C 18 0 from rfl, show gI C 349 22 = mvA C 18 3 from rfl]
  unfold ordOk
  by_cases h1 : 1 ≤ x1 ∧ x1 ≤ 4
  · rw [decide_eq_true h1, if_neg b2t']
    by_cases h2 : 1 ≤ x3 ∧ x3 ≤ 30
    · rw [decide_eq_true h2, if_neg b2t']
      by_cases h3 : x4 < mvA C 18 0
      · rw [if_pos h3]
        exact Or.inl ⟨by omega, rfl⟩
      · rw [if_neg h3]
        by_cases h4 : x5 < x4
        · rw [if_pos h4]
          exact Or.inl ⟨by omega, rfl⟩
        · rw [if_neg h4]
          by_cases h5 : x5 ≤ 900
          · rw [if_pos h5]
            by_cases h6 : mvA C 18 3 = 16
            · rw [if_pos h6]
              exact Or.inr (Or.inl ⟨by omega, h6, rfl⟩)
            · rw [if_neg h6]
              right
              right
              refine ⟨by omega, by omega, ?_⟩
              obtain ⟨C2, c1, c2⟩ := X9_rem (N := N) (A := sI C 349 0 0) hN (hq.fq (FQ_thr C 0) (fun a k q => by unfold ST at q; omega))
              have c3 : mvA C2 = mvA C := c2.ev.trans (mvA_thr C 0)
              obtain ⟨O, eO⟩ : ∃ O : Nat, mvA C 18 3 = (O : Int) := ⟨(mvA C 18 3).toNat, by omega⟩
              have v1 : gI C2 349 22 = O := by
                rw [← eO, ← c3]
                rfl
              have h16 : O < 16 := by omega
              rw [bnd_eq, c1, obind_some, bnd_eq, v1, ck16 h16, bnd_eq, Int.toNat_natCast]
              have key : ∀ d : Int, ∃ B, fX9_order_102 N (sI C2 352 O x1) x3 x4 x5 O O d = some ((O : Int), B) ∧ FQ SRT C2 B ∧ mvA B = mkO (mvA C) x1 d x3 x4 x5 := by
                intro d
                unfold fX9_order_102
                simp only [bnd_eq]
                rw [ck16 h16, ck16 h16, ck16 h16, ck16 h16, ck16 h16, ck16 h16, Int.toNat_natCast]
                rw [show gI (sI (sI (sI (sI (sI (sI (sI C2 352 O x1) 353 O d) 354 O x3) 355 O x4) 356 O x5) 357 O 0) 360 O 0) 349 22 = (O : Int) from by rw [gI_sI, if_neg (by omega), gI_sI, if_neg (by omega), gI_sI, if_neg (by omega), gI_sI, if_neg (by omega), gI_sI, if_neg (by omega), gI_sI, if_neg (by omega), gI_sI, if_neg (by omega), v1], wrap_eq (by omega) (by omega)]
                refine ⟨_, rfl, ((((((((FQ.rf C2).set (by unfold SRT; omega)).set (by unfold SRT; omega)).set (by unfold SRT; omega)).set (by unfold SRT; omega)).set (by unfold SRT; omega)).set (by unfold SRT; omega)).set (by unfold SRT; omega)).set (by unfold SRT; omega), ?_⟩
                rw [mvA_sI9 _ (i := 3) rfl (by decide), mvA_sIr _ (j := 10) rfl (by decide), mvA_sIr _ (j := 7) rfl (by decide), mvA_sIr _ (j := 6) rfl (by decide), mvA_sIr _ (j := 5) rfl (by decide), mvA_sIr _ (j := 4) rfl (by decide), mvA_sIr _ (j := 3) rfl (by decide), mvA_sIr _ (j := 2) rfl (by decide), c3]
                unfold mkO
                rw [eO, Int.toNat_natCast]
              have fin : ∀ d : Int, ∃ B, fX9_order_102 N (sI C2 352 O x1) x3 x4 x5 O O d = some (mvA C 18 3, B) ∧ CHG C B ∧ gI B 349 0 = 0 ∧ mvA B = mkO (mvA C) x1 d x3 x4 x5 := by
                intro d
                obtain ⟨B, b1, b2, b3⟩ := key d
                have b4 : gI B 349 0 = 0 := by
                  have : gI B 349 0 = gI C2 349 0 := by
                    unfold fX9_order_102 at b1
                    simp only [bnd_eq] at b1
                    rw [ck16 h16, ck16 h16, ck16 h16, ck16 h16, ck16 h16, ck16 h16, Int.toNat_natCast] at b1
                    cases b1
                    simp only [gI_sI]
                    rw [if_neg (by omega), if_neg (by omega), if_neg (by omega), if_neg (by omega), if_neg (by omega), if_neg (by omega), if_neg (by omega), if_neg (by omega)]
                  rw [this, c2.fq.2.2 349 0 (by unfold SH; omega), gI_thr]
                exact ⟨B, by rw [eO]; exact b1, ⟨_, C2, FQ_thr C 0, c2, b2⟩, b4, b3⟩
              by_cases h7 : x2 = 0
              · rw [if_pos h7, if_pos h7]
                exact fin 0
              · rw [if_neg h7, if_neg h7]
                exact fin 1
          · rw [if_neg h5]
            exact Or.inl ⟨by omega, rfl⟩
    · rw [decide_eq_false h2, if_pos b2f']
      exact Or.inl ⟨by omega, rfl⟩
  · rw [decide_eq_false h1, if_pos b2f']
    exact Or.inl ⟨by omega, rfl⟩
theorem op_order {N : Nat} {A C : AH} {x1 x2 x3 x4 x5 : Int} (hN : 25000 ≤ N) (h : INV A C) : STEP [(1, 1), (2, 2)] (fX8_order N A x1 x2 x3 x4 x5) (fX9_order N C x1 x2 x3 x4 x5) A C := by
  have c3 := h.1.2.1.2.2.2.1
  unfold fX8_order
  rw [X5_isOrder h.2.1, obind_some, h.2.1.2.1.2.1]
  rcases X9_order (x1 := x1) (x2 := x2) (x3 := x3) (x4 := x4) (x5 := x5) hN h.1 h.cq with ⟨q1, q2⟩ | ⟨q1, q2, q3⟩ | ⟨q1, q2, B9, q3, q4, q5, q6⟩
  · rw [decide_eq_false (show ¬ ((1 ≤ x1 ∧ x1 ≤ 4) ∧ (1 ≤ x3 ∧ x3 ≤ 30) ∧ mvA C 18 0 ≤ x4 ∧ x4 ≤ x5 ∧ x5 ≤ 900) from q1), if_pos b2f', q2]
    exact STEP.throw h (FX.rf A) (by omega) (FQ_thr C 1) (gI_thr C 1) (by simp)
  · rw [decide_eq_true (show ((1 ≤ x1 ∧ x1 ≤ 4) ∧ (1 ≤ x3 ∧ x3 ≤ 30) ∧ mvA C 18 0 ≤ x4 ∧ x4 ≤ x5 ∧ x5 ≤ 900) from q1), if_neg b2t', if_neg (by omega), q3]
    exact STEP.throw h (FX.rf A) (by omega) (FQ_thr C 2) (gI_thr C 2) (by simp)
  · rw [decide_eq_true (show ((1 ≤ x1 ∧ x1 ≤ 4) ∧ (1 ≤ x3 ∧ x3 ≤ 30) ∧ mvA C 18 0 ≤ x4 ∧ x4 ≤ x5 ∧ x5 ≤ 900) from q1), if_neg b2t', if_pos q2, q3]
    obtain ⟨A2, a1, a2, a3, a4⟩ := h.add (N := N) (by omega) (FX.rf A)
    rw [a1, obind_some]
    unfold fX8_order_73
    by_cases h7 : x2 = 0
    · rw [if_pos h7] at q6 ⊢
      obtain ⟨B, b1, b2, b3⟩ := X5_makeOrder (N := N) (s := x1) (d := 0) (t := x3) (e := x4) (l := x5) (by omega) h.1 a3 q2
      rw [b1, obind_some]
      exact STEP.change h (CHX.of (FX.rf A) a2 b3 b2) (by omega) q4 q6 (h.1.mkO q2 (Or.inl rfl) q1) q5
    · rw [if_neg h7] at q6 ⊢
      obtain ⟨B, b1, b2, b3⟩ := X5_makeOrder (N := N) (s := x1) (d := 1) (t := x3) (e := x4) (l := x5) (by omega) h.1 a3 q2
      rw [b1, obind_some]
      exact STEP.change h (CHX.of (FX.rf A) a2 b3 b2) (by omega) q4 q6 (h.1.mkO q2 (Or.inr rfl) q1) q5
