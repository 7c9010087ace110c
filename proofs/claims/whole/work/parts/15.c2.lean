set_option maxRecDepth 100000 in
set_option maxHeartbeats 10000000 in
theorem ctX5_init {g : JG} {l : Launch} {d : Nat} {A : AH} {a : Nat} (hl : l.stackTraces = false) (hd : 3 ≤ d) (h1 : 1 ≤ a) (h6 : a + 31 ≤ 376) (hR : ∀ t, t < 31 → kd (a + t) = kRos t) (n0 : hN A = a + 1) : CT0 g l yX5_init cX5_init 2 none d [.ref (gB g + a)] A ((0, none, rosI A a) : JO) True := by
  refine CT0_of (lv := [(0, .ref (gB g + a))]) (by decide +kernel) hl (by exact Nat.le_of_ble_eq_true rfl) rfl ?_
  refine j0_aload_n (j := 0) dX5_init_0 rfl rfl ?_
  refine j0_objInit (gdI (i := 112) (by decide +kernel) rfl) (gdI (i := 105) (by decide +kernel) rfl) (gdI (i := 106) (by decide +kernel) rfl) dX5_init_1 (by decide) (by omega) ?_
  refine j0_aload_n (j := 0) dX5_init_4 rfl rfl ?_
  refine j0_iconst dX5_init_5 ?_
  refine j0_newarr (qn := a + 1) n0 (K := 11) (hR 1 (by decide)) (by omega) (by omega) (by decide) (by decide) (by decide) rfl (gdI (i := 181) (by decide +kernel) rfl) rfl (inR_lit _ rfl) (by decide) (fun x => absurd x (by decide)) dX5_init_6 ?_
  obtain ⟨A1, eA1⟩ : ∃ B : AH, B = nC A 11 (jal 11) := ⟨_, rfl⟩
  refine j0_hB eA1 ?_
  have n1 : hN A1 = a + 2 := by rw [eA1, hN_nC, n0] <;> rfl
  refine j0_putFR (K := 5) (k := 0) (by decide) (by decide) rfl (gdI (i := 231) (by decide +kernel) rfl) rfl rfl rfl rfl (fun _ => rfl) (fun _ => rfl) dX5_init_8 (by omega) (by rw [n1]; omega) (kdA_lt (by omega) (hR 0 (by decide))) (by omega) ?_
  obtain ⟨A2, eA2⟩ : ∃ B : AH, B = sP A1 (a) 0 (a + 1) := ⟨_, rfl⟩
  refine j0_hB eA2 ?_
  have n2 : hN A2 = a + 2 := by rw [eA2, hN_sP, n1] <;> rfl
  refine j0_aload_n (j := 0) dX5_init_11 rfl rfl ?_
  refine j0_bipush dX5_init_12 rfl ?_
  refine j0_newarr (qn := a + 2) n2 (K := 12) (hR 2 (by decide)) (by omega) (by omega) (by decide) (by decide) (by decide) rfl (gdI (i := 181) (by decide +kernel) rfl) rfl (inR_lit _ rfl) (by decide) (fun x => absurd x (by decide)) dX5_init_14 ?_
  obtain ⟨A3, eA3⟩ : ∃ B : AH, B = nC A2 12 (jal 12) := ⟨_, rfl⟩
  refine j0_hB eA3 ?_
  have n3 : hN A3 = a + 3 := by rw [eA3, hN_nC, n2] <;> rfl
  refine j0_putFR (K := 5) (k := 1) (by decide) (by decide) rfl (gdI (i := 233) (by decide +kernel) rfl) rfl rfl rfl rfl (fun _ => rfl) (fun _ => rfl) dX5_init_16 (by omega) (by rw [n3]; omega) (kdA_lt (by omega) (hR 0 (by decide))) (by omega) ?_
  obtain ⟨A4, eA4⟩ : ∃ B : AH, B = sP A3 (a) 1 (a + 2) := ⟨_, rfl⟩
  refine j0_hB eA4 ?_
  have n4 : hN A4 = a + 3 := by rw [eA4, hN_sP, n3] <;> rfl
  refine j0_aload_n (j := 0) dX5_init_19 rfl rfl ?_
  refine j0_bipush dX5_init_20 rfl ?_
  refine j0_newq (qn := a + 3) n4 (K := 13) (hR 3 (by decide)) (by omega) (by omega) (by decide) (by decide) (by decide) (by decide) rfl (gdI (i := 113) (by decide +kernel) rfl) (fun _ h => h.1) rfl (inR_lit _ rfl) (by decide) dX5_init_22 ?_
  obtain ⟨A5, eA5⟩ : ∃ B : AH, B = nC A4 13 (jal 13) := ⟨_, rfl⟩
  refine j0_hB eA5 ?_
  have n5 : hN A5 = a + 4 := by rw [eA5, hN_nC, n4] <;> rfl
  refine j0_putFR (K := 5) (k := 2) (by decide) (by decide) rfl (gdI (i := 235) (by decide +kernel) rfl) rfl rfl rfl rfl (fun _ => rfl) (fun _ => rfl) dX5_init_25 (by omega) (by rw [n5]; omega) (kdA_lt (by omega) (hR 0 (by decide))) (by omega) ?_
  obtain ⟨A6, eA6⟩ : ∃ B : AH, B = sP A5 (a) 2 (a + 3) := ⟨_, rfl⟩
  refine j0_hB eA6 ?_
  have n6 : hN A6 = a + 4 := by rw [eA6, hN_sP, n5] <;> rfl
  refine j0_aload_n (j := 0) dX5_init_28 rfl rfl ?_
  refine j0_bipush dX5_init_29 rfl ?_
  refine j0_newq (qn := a + 4) n6 (K := 14) (hR 4 (by decide)) (by omega) (by omega) (by decide) (by decide) (by decide) (by decide) rfl (gdI (i := 115) (by decide +kernel) rfl) (fun _ h => h.2.1) rfl (inR_lit _ rfl) (by decide) dX5_init_31 ?_
  obtain ⟨A7, eA7⟩ : ∃ B : AH, B = nC A6 14 (jal 14) := ⟨_, rfl⟩
  refine j0_hB eA7 ?_
  have n7 : hN A7 = a + 5 := by rw [eA7, hN_nC, n6] <;> rfl
  refine j0_putFR (K := 5) (k := 3) (by decide) (by decide) rfl (gdI (i := 237) (by decide +kernel) rfl) rfl rfl rfl rfl (fun _ => rfl) (fun _ => rfl) dX5_init_34 (by omega) (by rw [n7]; omega) (kdA_lt (by omega) (hR 0 (by decide))) (by omega) ?_
  obtain ⟨A8, eA8⟩ : ∃ B : AH, B = sP A7 (a) 3 (a + 4) := ⟨_, rfl⟩
  refine j0_hB eA8 ?_
  have n8 : hN A8 = a + 5 := by rw [eA8, hN_sP, n7] <;> rfl
  refine j0_aload_n (j := 0) dX5_init_37 rfl rfl ?_
  refine j0_iconst dX5_init_38 ?_
  refine j0_newq (qn := a + 5) n8 (K := 15) (hR 5 (by decide)) (by omega) (by omega) (by decide) (by decide) (by decide) (by decide) rfl (gdI (i := 117) (by decide +kernel) rfl) (fun _ h => h.2.2.1) rfl (inR_lit _ rfl) (by decide) dX5_init_39 ?_
  obtain ⟨A9, eA9⟩ : ∃ B : AH, B = nC A8 15 (jal 15) := ⟨_, rfl⟩
  refine j0_hB eA9 ?_
  have n9 : hN A9 = a + 6 := by rw [eA9, hN_nC, n8] <;> rfl
  refine j0_putFR (K := 5) (k := 4) (by decide) (by decide) rfl (gdI (i := 239) (by decide +kernel) rfl) rfl rfl rfl rfl (fun _ => rfl) (fun _ => rfl) dX5_init_42 (by omega) (by rw [n9]; omega) (kdA_lt (by omega) (hR 0 (by decide))) (by omega) ?_
  obtain ⟨A10, eA10⟩ : ∃ B : AH, B = sP A9 (a) 4 (a + 5) := ⟨_, rfl⟩
  refine j0_hB eA10 ?_
  have n10 : hN A10 = a + 6 := by rw [eA10, hN_sP, n9] <;> rfl
  refine j0_getsN (host := "PilotRoster") (k := 2) (by decide) (nwI (i := 119) (by decide +kernel) rfl) dX5_init_45 ?_
  refine j0_iconst dX5_init_48 ?_
  refine j0_aload_n (j := 0) dX5_init_49 rfl rfl ?_
  refine j0_getR FX5_9 rfl dX5_init_50 (by omega) (by rw [n10]; omega) (kdA_lt (by omega) (hR 0 (by decide))) (q := a + 1) (by rw [eA10, gP_sP, if_neg (by omega), eA9, gP_nC, if_neg (by rw [n8]; omega), eA8, gP_sP, if_neg (by omega), eA7, gP_nC, if_neg (by rw [n6]; omega), eA6, gP_sP, if_neg (by omega), eA5, gP_nC, if_neg (by rw [n4]; omega), eA4, gP_sP, if_neg (by omega), eA3, gP_nC, if_neg (by rw [n2]; omega), eA2, gP_sP_self]) (by omega) ?_
  refine j0_iconst dX5_init_53 ?_
  refine j0_iconst dX5_init_54 ?_
  refine j0_copyS (k := 2) (K := 11) (by decide) (gdI (i := 121) (by decide +kernel) rfl) (gdI (i := 123) (by decide +kernel) rfl) (gdI (i := 122) (by decide +kernel) rfl) (gdI (i := 77) (by decide +kernel) rfl) dX5_init_55 (by decide) (inR_lit _ rfl) (by decide) (by decide) rfl (by omega) (by rw [n10]; omega) (kdA_lt (by omega) (hR 1 (by decide))) (by decide) (by decide) (by omega) ?_
  obtain ⟨A11, eA11⟩ : ∃ B : AH, B = cpS A10 (jSF 2) (a + 1) 5 := ⟨_, rfl⟩
  refine j0_hB eA11 ?_
  have n11 : hN A11 = a + 6 := by rw [eA11, hN_cpS, n10] <;> rfl
  refine j0_getsN (host := "PilotRoster") (k := 3) (by decide) (nwI (i := 124) (by decide +kernel) rfl) dX5_init_58 ?_
  refine j0_iconst dX5_init_61 ?_
  refine j0_aload_n (j := 0) dX5_init_62 rfl rfl ?_
  refine j0_getR FX5_15 rfl dX5_init_63 (by omega) (by rw [n11]; omega) (kdA_lt (by omega) (hR 0 (by decide))) (q := a + 2) (by rw [eA11, gP_cpS, eA10, gP_sP, if_neg (by omega), eA9, gP_nC, if_neg (by rw [n8]; omega), eA8, gP_sP, if_neg (by omega), eA7, gP_nC, if_neg (by rw [n6]; omega), eA6, gP_sP, if_neg (by omega), eA5, gP_nC, if_neg (by rw [n4]; omega), eA4, gP_sP_self]) (by omega) ?_
  refine j0_iconst dX5_init_66 ?_
  refine j0_bipush dX5_init_67 rfl ?_
  refine j0_copyS (k := 3) (K := 12) (by decide) (gdI (i := 121) (by decide +kernel) rfl) (gdI (i := 123) (by decide +kernel) rfl) (gdI (i := 122) (by decide +kernel) rfl) (gdI (i := 77) (by decide +kernel) rfl) dX5_init_69 (by decide) (inR_lit _ rfl) (by decide) (by decide) rfl (by omega) (by rw [n11]; omega) (kdA_lt (by omega) (hR 2 (by decide))) (by decide) (by decide) (by omega) ?_
  obtain ⟨A12, eA12⟩ : ∃ B : AH, B = cpS A11 (jSF 3) (a + 2) 12 := ⟨_, rfl⟩
  refine j0_hB eA12 ?_
  have n12 : hN A12 = a + 6 := by rw [eA12, hN_cpS, n11] <;> rfl
  have hP2 : gP A12 a 2 = a + 3 := (by rw [eA12, gP_cpS, eA11, gP_cpS, eA10, gP_sP, if_neg (by omega), eA9, gP_nC, if_neg (by rw [n8]; omega), eA8, gP_sP, if_neg (by omega), eA7, gP_nC, if_neg (by rw [n6]; omega), eA6, gP_sP_self])
  have hP3 : gP A12 a 3 = a + 4 := (by rw [eA12, gP_cpS, eA11, gP_cpS, eA10, gP_sP, if_neg (by omega), eA9, gP_nC, if_neg (by rw [n8]; omega), eA8, gP_sP_self])
  have hP4 : gP A12 a 4 = a + 5 := (by rw [eA12, gP_cpS, eA11, gP_cpS, eA10, gP_sP_self])
  have e0 : A12 = ros0 A a := by
    subst eA12 eA11 eA10 eA9 eA8 eA7 eA6 eA5 eA4 eA3 eA2 eA1
    rfl
  refine j0_iconst dX5_init_72 ?_
  refine j0_istore_n dX5_init_73 rfl (by decide) rfl rfl ?_
  refine tX5_l74 hl hd h1 h6 hR n12 hP2 ?_ 16 0 rfl
  obtain ⟨B1, eB1⟩ : ∃ B : AH, B = eltL 3 10 6 3 ordI A12 a 16 := ⟨_, rfl⟩
  have m1 : hN B1 = a + 22 := by rw [eB1, hN_eltL hN_ordI, n12]
  have p3 : gP B1 a 3 = a + 4 := by rw [eB1, gP_eltL hN_ordI gP_ordI _ _ _ _ _ (by omega) (by omega), hP3]
  have p4 : gP B1 a 4 = a + 5 := by rw [eB1, gP_eltL hN_ordI gP_ordI _ _ _ _ _ (by omega) (by omega), hP4]
  refine j0_hB eB1 ?_
  refine j0_iconst dX5_init_99 ?_
  refine j0_istore_n dX5_init_100 rfl (by decide) rfl rfl ?_
  refine tX5_l101 hl hd h1 h6 hR m1 p3 ?_ 6 0 rfl
  obtain ⟨B2, eB2⟩ : ∃ B : AH, B = eltL 4 3 22 4 idF B1 a 6 := ⟨_, rfl⟩
  have m2 : hN B2 = a + 28 := by rw [eB2, hN_eltL hN_idF, m1]
  have p5 : gP B2 a 4 = a + 5 := by rw [eB2, gP_eltL hN_idF gP_idF _ _ _ _ _ (by omega) (by omega), p4]
  refine j0_hB eB2 ?_
  refine j0_iconst dX5_init_126 ?_
  refine j0_istore_n dX5_init_127 rfl (by decide) rfl rfl ?_
  refine tX5_l128 hl hd h1 h6 hR m2 p5 ?_ 3 0 rfl
  have eF : eltL 0 5 28 5 idF B2 a 3 = rosI A a := by rw [eB2, eB1, e0]; rfl
  rw [eF]
  exact j0_vret dX5_init_152 rfl rfl trivial
theorem hDb_eltL {K n o r : Nat} {F : AH → Nat → AH} (hF : ∀ A q, hDb (F A q) = hDb A) (A : AH) (a i : Nat) : hDb (eltL K n o r F A a i) = hDb A := by
  induction i with
  | zero => rfl
  | succ i ih => rw [eltL, hDb_sP, hF, hDb_nC, ih]
theorem hDb_rosI (A : AH) (a : Nat) : hDb (rosI A a) = hDb A := by
  unfold rosI
  rw [hDb_eltL (F := idF) (fun _ _ => rfl), hDb_eltL (F := idF) (fun _ _ => rfl), hDb_eltL (F := ordI) (fun _ _ => rfl)]
  rfl
