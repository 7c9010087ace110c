def proI (A : AH) : AH := (sI (sI (sP (nC (sP (nC (sP (txtI (nC (sP (hisI (nC (sP (rosI (nC (sP (rosI (nC A 5 (jfn 5)) (2)) (1) 0 (2)) 5 (jfn 5)) (33)) (1) 1 (33)) 1 (jfn 1))) (1) 2 (64)) 6 (jfn 6))) (1) 3 (345)) 7 (jfn 7)) (1) 4 (347)) 18 (jal 18)) (1) 5 (348)) (1) 7 (-1)) (1) 8 (0))
theorem hN_proI (A : AH) : hN (proI A) = hN A + 347 := by
  unfold proI
  simp only [hN_sP, hN_sI, hN_nC, hN_rosI, hN_hisI, hN_txtI]
theorem hDb_proI (A : AH) : hDb (proI A) = hDb A := by
  unfold proI
  simp only [hDb_sP, hDb_sI, hDb_nC, hDb_rosI, hDb_hisI, hDb_txtI]
set_option maxRecDepth 100000 in
theorem ctX8_init {g : JG} {l : Launch} {d : Nat} {A : AH}  (hl : l.stackTraces = false) (hd : 5 ≤ d) (n0 : hN A = 2) : CT0 g l yX8_init cX8_init 1 none d [.ref (gB g + 1)] A ((0, none, proI A) : JO) True := by
  refine CT0_of (lv := [(0, .ref (gB g + 1))]) (by decide +kernel) hl (by exact Nat.le_of_ble_eq_true rfl) rfl ?_
  refine j0_aload_n (j := 0) dX8_init_0 rfl rfl ?_
  refine j0_objInit (gdI (i := 104) (by decide +kernel) rfl) (gdI (i := 105) (by decide +kernel) rfl) (gdI (i := 106) (by decide +kernel) rfl) dX8_init_1 (by decide) (by omega) ?_
  refine j0_aload_n (j := 0) dX8_init_4 rfl rfl ?_
  refine j0_new (qn := 2) n0 (K := 5) (by decide) rfl (by decide) (by decide) (gdI (i := 107) (by decide +kernel) rfl) (gdI (i := 108) (by decide +kernel) rfl) (gdI (i := 76) (by decide +kernel) rfl) dX8_init_5 ?_
  obtain ⟨A1, eA1⟩ : ∃ B : AH, B = nC A 5 (jfn 5) := ⟨_, rfl⟩
  refine j0_hB eA1 ?_
  have n1 : hN A1 = 3 := by rw [eA1, hN_nC, n0] <;> rfl
  refine j0_dup dX8_init_8 rfl ?_
  refine j0_callI (y := yX5_init) (As := []) (d' := d - 1) (gdI (i := 109) (by decide +kernel) rfl) ⟨gdI (i := 76) (by decide +kernel) rfl, gdI (i := 111) (by decide +kernel) rfl, by decide, by decide, rfl⟩ (gdI (i := 110) (by decide +kernel) rfl) rfl (by decide) (by omega) (Nat.le_of_ble_eq_true rfl) rfl (ctX5_init hl (by omega) (by decide) (by decide) (by decide) n1) dX8_init_9 rfl (fun _ _ => ?_)
  obtain ⟨A2, eA2⟩ : ∃ B : AH, B = rosI A1 (2) := ⟨_, rfl⟩
  refine j0_hB eA2 ?_
  have n2 : hN A2 = 33 := by rw [eA2, hN_rosI, n1] <;> rfl
  refine j0_putFR (K := 8) (k := 0) (by decide) (by decide) rfl (gdI (i := 349) (by decide +kernel) rfl) rfl rfl rfl rfl (fun _ => rfl) (fun _ => rfl) dX8_init_12 (by decide) (by rw [n2]; decide) (kdA_lt (by decide) rfl) (by decide) ?_
  obtain ⟨A3, eA3⟩ : ∃ B : AH, B = sP A2 (1) 0 (2) := ⟨_, rfl⟩
  refine j0_hB eA3 ?_
  have n3 : hN A3 = 33 := by rw [eA3, hN_sP, n2] <;> rfl
  refine j0_aload_n (j := 0) dX8_init_15 rfl rfl ?_
  refine j0_new (qn := 33) n3 (K := 5) (by decide) rfl (by decide) (by decide) (gdI (i := 107) (by decide +kernel) rfl) (gdI (i := 108) (by decide +kernel) rfl) (gdI (i := 76) (by decide +kernel) rfl) dX8_init_16 ?_
  obtain ⟨A4, eA4⟩ : ∃ B : AH, B = nC A3 5 (jfn 5) := ⟨_, rfl⟩
  refine j0_hB eA4 ?_
  have n4 : hN A4 = 34 := by rw [eA4, hN_nC, n3] <;> rfl
  refine j0_dup dX8_init_19 rfl ?_
  refine j0_callI (y := yX5_init) (As := []) (d' := d - 1) (gdI (i := 109) (by decide +kernel) rfl) ⟨gdI (i := 76) (by decide +kernel) rfl, gdI (i := 111) (by decide +kernel) rfl, by decide, by decide, rfl⟩ (gdI (i := 110) (by decide +kernel) rfl) rfl (by decide) (by omega) (Nat.le_of_ble_eq_true rfl) rfl (ctX5_init hl (by omega) (by decide) (by decide) (by decide) n4) dX8_init_20 rfl (fun _ _ => ?_)
  obtain ⟨A5, eA5⟩ : ∃ B : AH, B = rosI A4 (33) := ⟨_, rfl⟩
  refine j0_hB eA5 ?_
  have n5 : hN A5 = 64 := by rw [eA5, hN_rosI, n4] <;> rfl
  refine j0_putFR (K := 8) (k := 1) (by decide) (by decide) rfl (gdI (i := 350) (by decide +kernel) rfl) rfl rfl rfl rfl (fun _ => rfl) (fun _ => rfl) dX8_init_23 (by decide) (by rw [n5]; decide) (kdA_lt (by decide) rfl) (by decide) ?_
  obtain ⟨A6, eA6⟩ : ∃ B : AH, B = sP A5 (1) 1 (33) := ⟨_, rfl⟩
  refine j0_hB eA6 ?_
  have n6 : hN A6 = 64 := by rw [eA6, hN_sP, n5] <;> rfl
  refine j0_aload_n (j := 0) dX8_init_26 rfl rfl ?_
  refine j0_new (qn := 64) n6 (K := 1) (by decide) rfl (by decide) (by decide) (gdI (i := 268) (by decide +kernel) rfl) (gdI (i := 269) (by decide +kernel) rfl) (gdI (i := 81) (by decide +kernel) rfl) dX8_init_27 ?_
  obtain ⟨A7, eA7⟩ : ∃ B : AH, B = nC A6 1 (jfn 1) := ⟨_, rfl⟩
  refine j0_hB eA7 ?_
  have n7 : hN A7 = 65 := by rw [eA7, hN_nC, n6] <;> rfl
  refine j0_dup dX8_init_30 rfl ?_
  refine j0_callI (y := yX1_init) (As := []) (d' := d - 1) (gdI (i := 270) (by decide +kernel) rfl) ⟨gdI (i := 81) (by decide +kernel) rfl, gdI (i := 272) (by decide +kernel) rfl, by decide, by decide, rfl⟩ (gdI (i := 271) (by decide +kernel) rfl) rfl (by decide) (by omega) (Nat.le_of_ble_eq_true rfl) rfl (ctX1_init hl (by omega) n7) dX8_init_31 rfl (fun _ _ => ?_)
  obtain ⟨A8, eA8⟩ : ∃ B : AH, B = hisI A7 := ⟨_, rfl⟩
  refine j0_hB eA8 ?_
  have n8 : hN A8 = 345 := by rw [eA8, hN_hisI, n7] <;> rfl
  refine j0_putFR (K := 8) (k := 2) (by decide) (by decide) rfl (gdI (i := 351) (by decide +kernel) rfl) rfl rfl rfl rfl (fun _ => rfl) (fun _ => rfl) dX8_init_34 (by decide) (by rw [n8]; decide) (kdA_lt (by decide) rfl) (by decide) ?_
  obtain ⟨A9, eA9⟩ : ∃ B : AH, B = sP A8 (1) 2 (64) := ⟨_, rfl⟩
  refine j0_hB eA9 ?_
  have n9 : hN A9 = 345 := by rw [eA9, hN_sP, n8] <;> rfl
  refine j0_aload_n (j := 0) dX8_init_37 rfl rfl ?_
  refine j0_new (qn := 345) n9 (K := 6) (by decide) rfl (by decide) (by decide) (gdI (i := 288) (by decide +kernel) rfl) (gdI (i := 289) (by decide +kernel) rfl) (gdI (i := 82) (by decide +kernel) rfl) dX8_init_38 ?_
  obtain ⟨A10, eA10⟩ : ∃ B : AH, B = nC A9 6 (jfn 6) := ⟨_, rfl⟩
  refine j0_hB eA10 ?_
  have n10 : hN A10 = 346 := by rw [eA10, hN_nC, n9] <;> rfl
  refine j0_dup dX8_init_41 rfl ?_
  refine j0_callIN (host := "PilotRoster") (y := yX6_init) (As := []) (d' := d - 1) (nwI (i := 290) (by decide +kernel) rfl) ⟨gdI (i := 82) (by decide +kernel) rfl, gdI (i := 292) (by decide +kernel) rfl, by decide, by decide, rfl⟩ (gdI (i := 291) (by decide +kernel) rfl) rfl (by decide) (by omega) (Nat.le_of_ble_eq_true rfl) rfl (ctX6_init hl (by omega) n10) dX8_init_42 rfl (fun _ _ => ?_)
  obtain ⟨A11, eA11⟩ : ∃ B : AH, B = txtI A10 := ⟨_, rfl⟩
  refine j0_hB eA11 ?_
  have n11 : hN A11 = 347 := by rw [eA11, hN_txtI, n10] <;> rfl
  refine j0_putFR (K := 8) (k := 3) (by decide) (by decide) rfl (gdI (i := 352) (by decide +kernel) rfl) rfl rfl rfl rfl (fun _ => rfl) (fun _ => rfl) dX8_init_45 (by decide) (by rw [n11]; decide) (kdA_lt (by decide) rfl) (by decide) ?_
  obtain ⟨A12, eA12⟩ : ∃ B : AH, B = sP A11 (1) 3 (345) := ⟨_, rfl⟩
  refine j0_hB eA12 ?_
  have n12 : hN A12 = 347 := by rw [eA12, hN_sP, n11] <;> rfl
  refine j0_aload_n (j := 0) dX8_init_48 rfl rfl ?_
  refine j0_new (qn := 347) n12 (K := 7) (by decide) rfl (by decide) (by decide) (gdI (i := 327) (by decide +kernel) rfl) (gdI (i := 328) (by decide +kernel) rfl) (gdI (i := 83) (by decide +kernel) rfl) dX8_init_49 ?_
  obtain ⟨A13, eA13⟩ : ∃ B : AH, B = nC A12 7 (jfn 7) := ⟨_, rfl⟩
  refine j0_hB eA13 ?_
  have n13 : hN A13 = 348 := by rw [eA13, hN_nC, n12] <;> rfl
  refine j0_dup dX8_init_52 rfl ?_
  refine j0_callIN (host := "PilotRoster") (y := yX7_init) (As := []) (d' := d - 1) (nwI (i := 329) (by decide +kernel) rfl) ⟨gdI (i := 83) (by decide +kernel) rfl, gdI (i := 331) (by decide +kernel) rfl, by decide, by decide, rfl⟩ (gdI (i := 330) (by decide +kernel) rfl) rfl (by decide) (by omega) (Nat.le_of_ble_eq_true rfl) rfl (ctX7_init hl (by omega) rfl (by decide) (by decide) (by rw [n13]; decide)) dX8_init_53 rfl (fun _ _ => ?_)
  refine j0_putFR (K := 8) (k := 4) (by decide) (by decide) rfl (gdI (i := 353) (by decide +kernel) rfl) rfl rfl rfl rfl (fun _ => rfl) (fun _ => rfl) dX8_init_56 (by decide) (by rw [n13]; decide) (kdA_lt (by decide) rfl) (by decide) ?_
  obtain ⟨A14, eA14⟩ : ∃ B : AH, B = sP A13 (1) 4 (347) := ⟨_, rfl⟩
  refine j0_hB eA14 ?_
  have n14 : hN A14 = 348 := by rw [eA14, hN_sP, n13] <;> rfl
  refine j0_aload_n (j := 0) dX8_init_59 rfl rfl ?_
  refine j0_bipush dX8_init_60 rfl ?_
  refine j0_newarr (qn := 348) n14 (K := 18) rfl (by decide) (by decide) (by decide) (by decide) (by decide) rfl (gdI (i := 181) (by decide +kernel) rfl) rfl (inR_lit _ rfl) (by decide) (fun x => absurd x (by decide)) dX8_init_62 ?_
  obtain ⟨A15, eA15⟩ : ∃ B : AH, B = nC A14 18 (jal 18) := ⟨_, rfl⟩
  refine j0_hB eA15 ?_
  have n15 : hN A15 = 349 := by rw [eA15, hN_nC, n14] <;> rfl
  refine j0_putFR (K := 8) (k := 5) (by decide) (by decide) rfl (gdI (i := 354) (by decide +kernel) rfl) rfl rfl rfl rfl (fun _ => rfl) (fun _ => rfl) dX8_init_64 (by decide) (by rw [n15]; decide) (kdA_lt (by decide) rfl) (by decide) ?_
  obtain ⟨A16, eA16⟩ : ∃ B : AH, B = sP A15 (1) 5 (348) := ⟨_, rfl⟩
  refine j0_hB eA16 ?_
  have n16 : hN A16 = 349 := by rw [eA16, hN_sP, n15] <;> rfl
  refine j0_aload_n (j := 0) dX8_init_67 rfl rfl ?_
  refine j0_iconst dX8_init_68 ?_
  refine j0_putV FX8_44 rfl rfl rfl rfl (inR_lit _ rfl) dX8_init_69 (by decide) (fun _ => (by rw [n16]; decide)) (kdA_lt (by decide) rfl) ?_
  obtain ⟨A17, eA17⟩ : ∃ B : AH, B = sI A16 (1) 7 (-1) := ⟨_, rfl⟩
  refine j0_hB eA17 ?_
  have n17 : hN A17 = 349 := by rw [eA17, hN_sI, n16] <;> rfl
  refine j0_aload_n (j := 0) dX8_init_72 rfl rfl ?_
  refine j0_iconst dX8_init_73 ?_
  refine j0_putV FX8_48 rfl rfl rfl rfl (inR_lit _ rfl) dX8_init_74 (by decide) (fun _ => (by rw [n17]; decide)) (kdA_lt (by decide) rfl) ?_
  obtain ⟨A18, eA18⟩ : ∃ B : AH, B = sI A17 (1) 8 (0) := ⟨_, rfl⟩
  refine j0_hB eA18 ?_
  have n18 : hN A18 = 349 := by rw [eA18, hN_sI, n17] <;> rfl
  subst eA18 eA17 eA16 eA15 eA14 eA13 eA12 eA11 eA10 eA9 eA8 eA7 eA6 eA5 eA4 eA3 eA2 eA1
  exact j0_vret dX8_init_77 rfl rfl trivial
