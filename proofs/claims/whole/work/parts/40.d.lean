/-! a step of the law's loop -/
theorem law_step {N n : Nat} {L x5 : Int} {xs : Nat → Int} {A : AH} (hN0 : 25000 ≤ N) (hx : 0 ≤ x5 ∧ x5 + 6 ≤ L) (hL : L ≤ 3072) (hxs : ∀ k, inR (xs k)) (h : INV A A) : ∃ B, BN 430 A B ∧ INV B B ∧ fL_law_28 N L xs (n + 1) A x5 = fL_law_28 N L xs n B (x5 + 6) := by
  have h5 : 0 ≤ x5 ∧ x5 ≤ 4000 := by omega
  have w1 : wrap (x5 + 1) = x5 + 1 := wrap_eq (by omega) (by omega)
  have w2 : wrap (x5 + 2) = x5 + 2 := wrap_eq (by omega) (by omega)
  have w3 : wrap (x5 + 3) = x5 + 3 := wrap_eq (by omega) (by omega)
  have w6 : wrap (L - 6) = L - 6 := wrap_eq (by omega) (by omega)
  have c1 : ∀ {β : Type} (K : Option β), chk (0 ≤ x5 + 1 ∧ x5 + 1 < L) K = K := fun K => chk_pos K ⟨by clear w1 w2 w3 w6; omega, by clear w1 w2 w3 w6; omega⟩
  have c2 : ∀ {β : Type} (K : Option β), chk (0 ≤ x5 + 2 ∧ x5 + 2 < L) K = K := fun K => chk_pos K ⟨by clear w1 w2 w3 w6; omega, by clear w1 w2 w3 w6; omega⟩
  have c3 : ∀ {β : Type} (K : Option β), chk (0 ≤ x5 + 3 ∧ x5 + 3 < L) K = K := fun K => chk_pos K ⟨by clear w1 w2 w3 w6; omega, by clear w1 w2 w3 w6; omega⟩
  have c0 : ∀ {β : Type} (K : Option β), chk (0 ≤ x5 ∧ x5 < L) K = K := fun K => chk_pos K ⟨by clear w1 w2 w3 w6; omega, by clear w1 w2 w3 w6; omega⟩
  have k0 : ∀ {β : Type} (K : Option β), chk ((0 : Int) = 0 ∨ (0 : Int) = 1) K = K := fun K => chk_pos K (Or.inl rfl)
  have k1 : ∀ {β : Type} (K : Option β), chk ((1 : Int) = 0 ∨ (1 : Int) = 1) K = K := fun K => chk_pos K (Or.inr rfl)
  have l6 : ¬ L - 6 < x5 := by clear w1 w2 w3 w6; omega
  rw [fL_law_28, w6, if_neg l6, c0]
  by_cases q0 : iAnd (xs x5.toNat) 63 = 0
  · rw [if_pos q0]
    rw [w1, w2]
    simp only [c1, c2]
    rw [wL_rule]
    exact one_call (N := N) (f9 := fun D => fX9_rule N D (xs (x5 + 1).toNat) (xs (x5 + 2).toNat)) (K := fun A x => fL_law_28 N L xs n A x) gc_2 h (fun D hD => op_rule (N := N) (x1 := xs (x5 + 1).toNat) (x2 := xs (x5 + 2).toNat) hN0 hD) h5
  · rw [if_neg q0]
    by_cases q1 : iAnd (xs x5.toNat) 63 = 1
    · rw [if_pos q1]
      rw [w1, w2]
      simp only [c1, c2]
      rw [wL_tide]
      exact one_call (N := N) (f9 := fun D => fX9_tide N D (xs (x5 + 1).toNat) (xs (x5 + 2).toNat)) (K := fun A x => fL_law_28 N L xs n A x) gc_2 h (fun D hD => op_tide (N := N) (x1 := xs (x5 + 1).toNat) (x2 := xs (x5 + 2).toNat) hN0 hD) h5
    · rw [if_neg q1]
      by_cases q2 : iAnd (xs x5.toNat) 63 = 2
      · rw [if_pos q2]
        rw [w1]
        simp only [c1]
        rw [wL_depth]
        exact one_call (N := N) (f9 := fun D => fX9_depth N D (xs (x5 + 1).toNat)) (K := fun A x => fL_law_28 N L xs n A x) gc_10 h (fun D hD => op_depth (N := N) (x1 := xs (x5 + 1).toNat) hD) h5
      · rw [if_neg q2]
        by_cases q3 : iAnd (xs x5.toNat) 63 = 3
        · rw [if_pos q3]
          rw [w1]
          simp only [c1]
          rw [wL_addPilot]
          exact one_call (N := N) (f9 := fun D => fX9_addPilot N D (xs (x5 + 1).toNat)) (K := fun A x => fL_law_28 N L xs n A x) gc_0 h (fun D hD => op_addPilot (N := N) (x1 := xs (x5 + 1).toNat) hN0 hD) h5
        · rw [if_neg q3]
          by_cases q4 : iAnd (xs x5.toNat) 63 = 4
          · rw [if_pos q4]
            rw [w1]
            simp only [c1]
            rw [wL_addBoat]
            exact one_call (N := N) (f9 := fun D => fX9_addBoat N D (xs (x5 + 1).toNat)) (K := fun A x => fL_law_28 N L xs n A x) gc_0 h (fun D hD => op_addBoat (N := N) (x1 := xs (x5 + 1).toNat) hN0 hD) h5
          · rw [if_neg q4]
            by_cases q5 : iAnd (xs x5.toNat) 63 = 5
            · rw [if_pos q5]
              have w4' : wrap (x5 + 4) = x5 + 4 := wrap_eq (by omega) (by omega)
              have w5' : wrap (x5 + 5) = x5 + 5 := wrap_eq (by omega) (by omega)
              have c4 : ∀ {β : Type} (K : Option β), chk (0 ≤ x5 + 4 ∧ x5 + 4 < L) K = K := fun K => chk_pos K ⟨by clear w1 w2 w3 w6 w4' w5'; omega, by clear w1 w2 w3 w6 w4' w5'; omega⟩
              have c5 : ∀ {β : Type} (K : Option β), chk (0 ≤ x5 + 5 ∧ x5 + 5 < L) K = K := fun K => chk_pos K ⟨by clear w1 w2 w3 w6 w4' w5'; omega, by clear w1 w2 w3 w6 w4' w5'; omega⟩
              unfold fL_law_517 fL_law_562
              rw [w1, w2, w3, w4', w5']
              simp only [↓k0, ↓k1, c1, c2, c3, c4, c5]
              by_cases z : xs (x5 + 2).toNat = 0
              · simp only [if_pos z]
                rw [wL_order]
                exact one_call (N := N) (f9 := fun D => fX9_order N D (xs (x5 + 1).toNat) 0 (xs (x5 + 3).toNat) (xs (x5 + 4).toNat) (xs (x5 + 5).toNat)) (K := fun A x => fL_law_28 N L xs n A x) gc_0 h (fun D hD => op_order (N := N) hN0 hD) h5
              · simp only [if_neg z]
                rw [wL_order]
                exact one_call (N := N) (f9 := fun D => fX9_order N D (xs (x5 + 1).toNat) 1 (xs (x5 + 3).toNat) (xs (x5 + 4).toNat) (xs (x5 + 5).toNat)) (K := fun A x => fL_law_28 N L xs n A x) gc_0 h (fun D hD => op_order (N := N) hN0 hD) h5
            · rw [if_neg q5]
              by_cases q6 : iAnd (xs x5.toNat) 63 = 6
              · rw [if_pos q6]
                rw [w1, w2]
                simp only [c1, c2]
                rw [wL_orderOf]
                exact one_call (N := N) (f9 := fun D => fX9_orderOf N D (xs (x5 + 1).toNat) (xs (x5 + 2).toNat)) (K := fun A x => fL_law_28 N L xs n A x) gc_6 h (fun D hD => op_orderOf (N := N) (x1 := xs (x5 + 1).toNat) (x2 := xs (x5 + 2).toNat) hN0 hD) h5
              · rw [if_neg q6]
                by_cases q7 : iAnd (xs x5.toNat) 63 = 7
                · rw [if_pos q7]
                  rw [w1, w2]
                  simp only [c1, c2]
                  rw [wL_window]
                  exact one_call (N := N) (f9 := fun D => fX9_window N D (xs (x5 + 1).toNat) (xs (x5 + 2).toNat)) (K := fun A x => fL_law_28 N L xs n A x) gc_9 h (fun D hD => op_window (N := N) (x1 := xs (x5 + 1).toNat) (x2 := xs (x5 + 2).toNat) hN0 hD) h5
                · rw [if_neg q7]
                  by_cases q8 : iAnd (xs x5.toNat) 63 = 8
                  · rw [if_pos q8]
                    rw [w1, w2, w3]
                    simp only [c1, c2, c3]
                    rw [wL_hinders]
                    exact one_call (N := N) (f9 := fun D => fX9_hinders N D (xs (x5 + 1).toNat) (xs (x5 + 2).toNat) (xs (x5 + 3).toNat)) (K := fun A x => fL_law_28 N L xs n A x) gc_10 h (fun D hD => op_hinders (N := N) (x1 := xs (x5 + 1).toNat) (x2 := xs (x5 + 2).toNat) (x3 := xs (x5 + 3).toNat) hN0 hD) h5
                  · rw [if_neg q8]
                    by_cases q9 : iAnd (xs x5.toNat) 63 = 9
                    · rw [if_pos q9]
                      rw [w1, w2, w3]
                      simp only [c1, c2, c3]
                      rw [wL_plan]
                      exact one_call (N := N) (f9 := fun D => fX9_plan N D (xs (x5 + 1).toNat) (xs (x5 + 2).toNat) (xs (x5 + 3).toNat)) (K := fun A x => fL_law_28 N L xs n A x) gc_7 h (fun D hD => op_plan (N := N) (x1 := xs (x5 + 1).toNat) (x2 := xs (x5 + 2).toNat) (x3 := xs (x5 + 3).toNat) hN0 hD) h5
                    · rw [if_neg q9]
                      by_cases q10 : iAnd (xs x5.toNat) 63 = 10
                      · rw [if_pos q10]
                        rw [w1, w2, w3]
                        simp only [c1, c2, c3]
                        rw [wL_run]
                        exact one_call (N := N) (f9 := fun D => fX9_run N D (xs (x5 + 1).toNat) (xs (x5 + 2).toNat) (xs (x5 + 3).toNat)) (K := fun A x => fL_law_28 N L xs n A x) gc_4 h (fun D hD => op_run (N := N) (x1 := xs (x5 + 1).toNat) (x2 := xs (x5 + 2).toNat) (x3 := xs (x5 + 3).toNat) hN0 hD (hxs _)) h5
                      · rw [if_neg q10]
                        by_cases q11 : iAnd (xs x5.toNat) 63 = 11
                        · rw [if_pos q11]
                          rw [w1, w2]
                          simp only [c1, c2]
                          rw [wL_serving]
                          exact one_call (N := N) (f9 := fun D => fX9_serving N D (xs (x5 + 1).toNat) (xs (x5 + 2).toNat)) (K := fun A x => fL_law_28 N L xs n A x) gc_5 h (fun D hD => op_serving (N := N) (x1 := xs (x5 + 1).toNat) (x2 := xs (x5 + 2).toNat) hN0 hD) h5
                        · rw [if_neg q11]
                          by_cases q12 : iAnd (xs x5.toNat) 63 = 12
                          · rw [if_pos q12]
                            rw [w1]
                            simp only [c1]
                            rw [wL_serve]
                            exact one_call (N := N) (f9 := fun D => fX9_serve N D (xs (x5 + 1).toNat)) (K := fun A x => fL_law_28 N L xs n A x) gc_7 h (fun D hD => op_serve (N := N) (x1 := xs (x5 + 1).toNat) hN0 hD) h5
                          · rw [if_neg q12]
                            by_cases q13 : iAnd (xs x5.toNat) 63 = 13
                            · rw [if_pos q13]
                              exact two_call (N := N) (f9 := fun D => fX9_serveAll N D) (K := fun A x => fL_law_28 N L xs n A x) h (fun D hD => op_serveAll (N := N) hN0 hD) h5
                            · rw [if_neg q13]
                              by_cases q14 : iAnd (xs x5.toNat) 63 = 14
                              · rw [if_pos q14]
                                rw [w1]
                                simp only [c1]
                                rw [wL_release]
                                exact one_call (N := N) (f9 := fun D => fX9_release N D (xs (x5 + 1).toNat)) (K := fun A x => fL_law_28 N L xs n A x) gc_7 h (fun D hD => op_release (N := N) (x1 := xs (x5 + 1).toNat) hN0 hD) h5
                              · rw [if_neg q14]
                                by_cases q15 : iAnd (xs x5.toNat) 63 = 15
                                · rw [if_pos q15]
                                  rw [w1, w2]
                                  simp only [c1, c2]
                                  rw [wL_putOff]
                                  exact one_call (N := N) (f9 := fun D => fX9_putOff N D (xs (x5 + 1).toNat) (xs (x5 + 2).toNat)) (K := fun A x => fL_law_28 N L xs n A x) gc_4 h (fun D hD => op_putOff (N := N) (x1 := xs (x5 + 1).toNat) (x2 := xs (x5 + 2).toNat) hN0 hD) h5
                                · rw [if_neg q15]
                                  by_cases q16 : iAnd (xs x5.toNat) 63 = 16
                                  · rw [if_pos q16]
                                    rw [w1]
                                    simp only [c1]
                                    rw [wL_urgent]
                                    exact one_call (N := N) (f9 := fun D => fX9_urgent N D (xs (x5 + 1).toNat)) (K := fun A x => fL_law_28 N L xs n A x) gc_11 h (fun D hD => op_urgent (N := N) (x1 := xs (x5 + 1).toNat) hN0 hD) h5
                                  · rw [if_neg q16]
                                    by_cases q17 : iAnd (xs x5.toNat) 63 = 17
                                    · rw [if_pos q17]
                                      rw [w1, w2]
                                      simp only [c1, c2]
                                      rw [wL_pilot]
                                      exact one_call (N := N) (f9 := fun D => fX9_pilot N D (xs (x5 + 1).toNat) (xs (x5 + 2).toNat)) (K := fun A x => fL_law_28 N L xs n A x) gc_6 h (fun D hD => op_pilot (N := N) (x1 := xs (x5 + 1).toNat) (x2 := xs (x5 + 2).toNat) hN0 hD) h5
                                    · rw [if_neg q17]
                                      by_cases q18 : iAnd (xs x5.toNat) 63 = 18
                                      · rw [if_pos q18]
                                        rw [w1, w2, w3]
                                        simp only [c1, c2, c3]
                                        rw [wL_planOf]
                                        exact one_call (N := N) (f9 := fun D => fX9_planOf N D (xs (x5 + 1).toNat) (xs (x5 + 2).toNat) (xs (x5 + 3).toNat)) (K := fun A x => fL_law_28 N L xs n A x) gc_8 h (fun D hD => op_planOf (N := N) (x1 := xs (x5 + 1).toNat) (x2 := xs (x5 + 2).toNat) (x3 := xs (x5 + 3).toNat) hN0 hD) h5
                                      · rw [if_neg q18]
                                        by_cases q19 : iAnd (xs x5.toNat) 63 = 19
                                        · rw [if_pos q19]
                                          rw [w1, w2]
                                          simp only [c1, c2]
                                          rw [wL_place]
                                          exact one_call (N := N) (f9 := fun D => fX9_place N D (xs (x5 + 1).toNat) (xs (x5 + 2).toNat)) (K := fun A x => fL_law_28 N L xs n A x) gc_10 h (fun D hD => op_place (N := N) (x1 := xs (x5 + 1).toNat) (x2 := xs (x5 + 2).toNat) hN0 hD) h5
                                        · rw [if_neg q19]
                                          by_cases q20 : iAnd (xs x5.toNat) 63 = 20
                                          · rw [if_pos q20]
                                            rw [w1, w2]
                                            simp only [c1, c2]
                                            rw [wL_placeAgain]
                                            exact one_call (N := N) (f9 := fun D => fX9_placeAgain N D (xs (x5 + 1).toNat) (xs (x5 + 2).toNat)) (K := fun A x => fL_law_28 N L xs n A x) gc_10 h (fun D hD => op_placeAgain (N := N) (x1 := xs (x5 + 1).toNat) (x2 := xs (x5 + 2).toNat) hN0 hD) h5
                                          · rw [if_neg q20]
                                            by_cases q21 : iAnd (xs x5.toNat) 63 = 21
                                            · rw [if_pos q21]
                                              rw [w1, w2]
                                              simp only [c1, c2]
                                              rw [wL_boat]
                                              exact one_call (N := N) (f9 := fun D => fX9_boat N D (xs (x5 + 1).toNat) (xs (x5 + 2).toNat)) (K := fun A x => fL_law_28 N L xs n A x) gc_6 h (fun D hD => op_boat (N := N) (x1 := xs (x5 + 1).toNat) (x2 := xs (x5 + 2).toNat) hN0 hD) h5
                                            · rw [if_neg q21]
                                              by_cases q22 : iAnd (xs x5.toNat) 63 = 22
                                              · rw [if_pos q22]
                                                rw [w1]
                                                simp only [c1]
                                                rw [wL_pass]
                                                exact one_call (N := N) (f9 := fun D => fX9_pass N D (xs (x5 + 1).toNat)) (K := fun A x => fL_law_28 N L xs n A x) gc_0 h (fun D hD => op_pass (N := N) (x1 := xs (x5 + 1).toNat) hN0 hD) h5
                                              · rw [if_neg q22]
                                                by_cases q23 : iAnd (xs x5.toNat) 63 = 23
                                                · rw [if_pos q23]
                                                  rw [w1]
                                                  simp only [c1]
                                                  rw [wL_number]
                                                  exact one_call (N := N) (f9 := fun D => fX9_number N D (xs (x5 + 1).toNat)) (K := fun A x => fL_law_28 N L xs n A x) gc_2 h (fun D hD => op_number (N := N) (x1 := xs (x5 + 1).toNat) hN0 hD) h5
                                                · rw [if_neg q23]
                                                  by_cases q24 : iAnd (xs x5.toNat) 63 = 24
                                                  · rw [if_pos q24]
                                                    exact mean_call (N := N) (K := fun A x => fL_law_28 N L xs n A x) hN0 h h5
                                                  · rw [if_neg q24]
                                                    by_cases q25 : iAnd (xs x5.toNat) 63 = 25
                                                    · rw [if_pos q25]
                                                      rw [w1]
                                                      simp only [c1]
                                                      exact share_call (N := N) (x1 := xs (x5 + 1).toNat) (K := fun A x => fL_law_28 N L xs n A x) hN0 h h5
                                                    · rw [if_neg q25]
                                                      by_cases q26 : iAnd (xs x5.toNat) 63 = 26
                                                      · rw [if_pos q26]
                                                        rw [w1]
                                                        simp only [c1]
                                                        rw [wL_feed]
                                                        exact one_call (N := N) (f9 := fun D => fX9_feed N D ((xs (x5 + 1).toNat) % 65536)) (K := fun A x => fL_law_28 N L xs n A x) gc_3 h (fun D hD => op_feed (N := N) (x1 := (xs (x5 + 1).toNat) % 65536) hD ⟨by omega, by omega⟩) h5
                                                      · rw [if_neg q26]
                                                        by_cases q27 : iAnd (xs x5.toNat) 63 = 27
                                                        · rw [if_pos q27]
                                                          rw [wL_read]
                                                          exact one_call (N := N) (f9 := fun D => fX9_read N D ) (K := fun A x => fL_law_28 N L xs n A x) gc_1 h (fun D hD => op_read (N := N)  hN0 hD) h5
                                                        · rw [if_neg q27]
                                                          by_cases q28 : iAnd (xs x5.toNat) 63 = 28
                                                          · rw [if_pos q28]
                                                            rw [wL_faultPosition]
                                                            exact one_call (N := N) (f9 := fun D => fX9_faultPosition N D ) (K := fun A x => fL_law_28 N L xs n A x) gc_11 h (fun D hD => op_faultPosition (N := N)  hD) h5
                                                          · rw [if_neg q28]
                                                            by_cases q29 : iAnd (xs x5.toNat) 63 = 29
                                                            · rw [if_pos q29]
                                                              unfold fL_law_2077 fL_law_2098
                                                              rw [w1]
                                                              simp only [↓k0, ↓k1, c1]
                                                              by_cases z : xs (x5 + 1).toNat = 0
                                                              · simp only [if_pos z]
                                                                rw [wL_refusal]
                                                                exact one_call (N := N) (f9 := fun D => fX9_refusal N D 0) (K := fun A x => fL_law_28 N L xs n A x) gc_11 h (fun D hD => op_refusal (N := N) (x1 := 0) hD) h5
                                                              · simp only [if_neg z]
                                                                rw [wL_refusal]
                                                                exact one_call (N := N) (f9 := fun D => fX9_refusal N D 1) (K := fun A x => fL_law_28 N L xs n A x) gc_11 h (fun D hD => op_refusal (N := N) (x1 := 1) hD) h5
                                                            · rw [if_neg q29]
                                                              by_cases q30 : iAnd (xs x5.toNat) 63 = 30
                                                              · rw [if_pos q30]
                                                                rw [wL_undo]
                                                                exact one_call (N := N) (f9 := fun D => fX9_undo N D ) (K := fun A x => fL_law_28 N L xs n A x) gc_3 h (fun D hD => op_undo (N := N)  hN0 hD) h5
                                                              · rw [if_neg q30]
                                                                by_cases q31 : iAnd (xs x5.toNat) 63 = 31
                                                                · rw [if_pos q31]
                                                                  exact two_call (N := N) (f9 := fun D => fX9_saveSnapshot N D) (K := fun A x => fL_law_28 N L xs n A x) h (fun D hD => op_saveSnapshot (N := N) hN0 hD) h5
                                                                · rw [if_neg q31]
                                                                  by_cases q32 : iAnd (xs x5.toNat) 63 = 32
                                                                  · rw [if_pos q32]
                                                                    rw [wL_restoreSnapshot]
                                                                    exact one_call (N := N) (f9 := fun D => fX9_restoreSnapshot N D ) (K := fun A x => fL_law_28 N L xs n A x) gc_3 h (fun D hD => op_restoreSnapshot (N := N)  hN0 hD) h5
                                                                  · rw [if_neg q32]
                                                                    rw [bnd_eq, show wrap (x5 + 6) = x5 + 6 from wrap_eq (by omega) (by omega)]
                                                                    exact ⟨A, ⟨Nat.le_refl _, Nat.le_add_right _ _, Nat.le_refl _, Nat.le_add_right _ _⟩, h, rfl⟩
