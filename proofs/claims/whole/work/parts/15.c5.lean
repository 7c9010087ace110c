def modI (A : AH) : AH := (sP (nC (sP (nC (sP (nC (sI (sP (nC (sP (nC (sP (nC (sP (nC (sP (nC (sP (nC (sP (nC (sP (nC (sP (nC (sP (nC (sP (nC (sP (nC (sP (nC (sP (nC (sP (nC (sP (nC (sP (nC (sP (nC (sP (nC (sP (sI (sI (sI (sI (sI (sI (sI (sI (sI (sI (sI (sI (nC (sP (sI (sI (sI (sI (sI (nC A 20 (jal 20)) (350) 0 (6)) (350) 1 (2)) (350) 2 (3)) (350) 3 (10)) (350) 4 (2)) (349) 1 (350)) 21 (jal 21)) (351) 0 (0)) (351) 1 (1)) (351) 2 (2)) (351) 3 (3)) (351) 4 (4)) (351) 5 (5)) (351) 6 (6)) (351) 7 (5)) (351) 8 (4)) (351) 9 (3)) (351) 10 (2)) (351) 11 (1)) (349) 2 (351)) 22 (jal 22)) (349) 3 (352)) 23 (jal 23)) (349) 4 (353)) 24 (jal 24)) (349) 5 (354)) 25 (jal 25)) (349) 6 (355)) 26 (jal 26)) (349) 7 (356)) 27 (jal 27)) (349) 8 (357)) 28 (jal 28)) (349) 9 (358)) 29 (jal 29)) (349) 10 (359)) 30 (jal 30)) (349) 11 (360)) 31 (jal 31)) (349) 12 (361)) 32 (jal 32)) (349) 13 (362)) 33 (jal 33)) (349) 14 (363)) 34 (jal 34)) (349) 15 (364)) 35 (jal 35)) (349) 16 (365)) 36 (jal 36)) (349) 17 (366)) 37 (jal 37)) (349) 18 (367)) 38 (jal 38)) (349) 31 (368)) 39 (jal 39)) (349) 32 (369)) 40 (jal 40)) (349) 33 (370)) (349) 37 (-1)) 41 (jal 41)) (349) 38 (371)) 42 (jal 42)) (349) 39 (372)) 43 (jal 43)) (349) 40 (373))
theorem hN_modI (A : AH) : hN (modI A) = hN A + 24 := by
  unfold modI
  simp only [hN_sP, hN_sI, hN_nC, hN_rosI, hN_hisI, hN_txtI]
theorem hDb_modI (A : AH) : hDb (modI A) = hDb A := by
  unfold modI
  simp only [hDb_sP, hDb_sI, hDb_nC, hDb_rosI, hDb_hisI, hDb_txtI]
set_option maxRecDepth 100000 in
theorem ctX9_init {g : JG} {l : Launch} {d : Nat} {A : AH}  (hl : l.stackTraces = false) (hd : 2 ≤ d) (n0 : hN A = 350) : CT0 g l yX9_init cX9_init 1 none d [.ref (gB g + 349)] A ((0, none, modI A) : JO) True := by
  refine CT0_of (lv := [(0, .ref (gB g + 349))]) (by decide +kernel) hl (by exact Nat.le_of_ble_eq_true rfl) rfl ?_
  refine j0_aload_n (j := 0) dX9_init_0 rfl rfl ?_
  refine j0_objInit (gdI (i := 1277) (by decide +kernel) rfl) (gdI (i := 105) (by decide +kernel) rfl) (gdI (i := 106) (by decide +kernel) rfl) dX9_init_1 (by decide) (by omega) ?_
  refine j0_aload_n (j := 0) dX9_init_4 rfl rfl ?_
  refine j0_iconst dX9_init_5 ?_
  refine j0_newarr (qn := 350) n0 (K := 20) rfl (by decide) (by decide) (by decide) (by decide) (by decide) rfl (gdI (i := 181) (by decide +kernel) rfl) rfl (inR_lit _ rfl) (by decide) (fun x => absurd x (by decide)) dX9_init_6 ?_
  obtain ⟨A1, eA1⟩ : ∃ B : AH, B = nC A 20 (jal 20) := ⟨_, rfl⟩
  refine j0_hB eA1 ?_
  have n1 : hN A1 = 351 := by rw [eA1, hN_nC, n0] <;> rfl
  refine j0_dup dX9_init_8 rfl ?_
  refine j0_iconst dX9_init_9 ?_
  refine j0_bipush dX9_init_10 rfl ?_
  refine j0_iast (K := 20) (inR_lit _ rfl) (inR_lit _ rfl) (by decide) (by decide) rfl dX9_init_12 (by decide) (fun _ => (by rw [n1]; decide)) (kdA_lt (by decide) rfl) (by decide) ?_
  obtain ⟨A2, eA2⟩ : ∃ B : AH, B = sI A1 (350) 0 (6) := ⟨_, rfl⟩
  refine j0_hB eA2 ?_
  have n2 : hN A2 = 351 := by rw [eA2, hN_sI, n1] <;> rfl
  refine j0_dup dX9_init_13 rfl ?_
  refine j0_iconst dX9_init_14 ?_
  refine j0_iconst dX9_init_15 ?_
  refine j0_iast (K := 20) (inR_lit _ rfl) (inR_lit _ rfl) (by decide) (by decide) rfl dX9_init_16 (by decide) (fun _ => (by rw [n2]; decide)) (kdA_lt (by decide) rfl) (by decide) ?_
  obtain ⟨A3, eA3⟩ : ∃ B : AH, B = sI A2 (350) 1 (2) := ⟨_, rfl⟩
  refine j0_hB eA3 ?_
  have n3 : hN A3 = 351 := by rw [eA3, hN_sI, n2] <;> rfl
  refine j0_dup dX9_init_17 rfl ?_
  refine j0_iconst dX9_init_18 ?_
  refine j0_iconst dX9_init_19 ?_
  refine j0_iast (K := 20) (inR_lit _ rfl) (inR_lit _ rfl) (by decide) (by decide) rfl dX9_init_20 (by decide) (fun _ => (by rw [n3]; decide)) (kdA_lt (by decide) rfl) (by decide) ?_
  obtain ⟨A4, eA4⟩ : ∃ B : AH, B = sI A3 (350) 2 (3) := ⟨_, rfl⟩
  refine j0_hB eA4 ?_
  have n4 : hN A4 = 351 := by rw [eA4, hN_sI, n3] <;> rfl
  refine j0_dup dX9_init_21 rfl ?_
  refine j0_iconst dX9_init_22 ?_
  refine j0_bipush dX9_init_23 rfl ?_
  refine j0_iast (K := 20) (inR_lit _ rfl) (inR_lit _ rfl) (by decide) (by decide) rfl dX9_init_25 (by decide) (fun _ => (by rw [n4]; decide)) (kdA_lt (by decide) rfl) (by decide) ?_
  obtain ⟨A5, eA5⟩ : ∃ B : AH, B = sI A4 (350) 3 (10) := ⟨_, rfl⟩
  refine j0_hB eA5 ?_
  have n5 : hN A5 = 351 := by rw [eA5, hN_sI, n4] <;> rfl
  refine j0_dup dX9_init_26 rfl ?_
  refine j0_iconst dX9_init_27 ?_
  refine j0_iconst dX9_init_28 ?_
  refine j0_iast (K := 20) (inR_lit _ rfl) (inR_lit _ rfl) (by decide) (by decide) rfl dX9_init_29 (by decide) (fun _ => (by rw [n5]; decide)) (kdA_lt (by decide) rfl) (by decide) ?_
  obtain ⟨A6, eA6⟩ : ∃ B : AH, B = sI A5 (350) 4 (2) := ⟨_, rfl⟩
  refine j0_hB eA6 ?_
  have n6 : hN A6 = 351 := by rw [eA6, hN_sI, n5] <;> rfl
  refine j0_putFR (K := 9) (k := 1) (by decide) (by decide) rfl (gdI (i := 1279) (by decide +kernel) rfl) rfl rfl rfl rfl (fun _ => rfl) (fun _ => rfl) dX9_init_30 (by decide) (by rw [n6]; decide) (kdA_lt (by decide) rfl) (by decide) ?_
  obtain ⟨A7, eA7⟩ : ∃ B : AH, B = sP A6 (349) 1 (350) := ⟨_, rfl⟩
  refine j0_hB eA7 ?_
  have n7 : hN A7 = 351 := by rw [eA7, hN_sP, n6] <;> rfl
  refine j0_aload_n (j := 0) dX9_init_33 rfl rfl ?_
  refine j0_bipush dX9_init_34 rfl ?_
  refine j0_newarr (qn := 351) n7 (K := 21) rfl (by decide) (by decide) (by decide) (by decide) (by decide) rfl (gdI (i := 181) (by decide +kernel) rfl) rfl (inR_lit _ rfl) (by decide) (fun x => absurd x (by decide)) dX9_init_36 ?_
  obtain ⟨A8, eA8⟩ : ∃ B : AH, B = nC A7 21 (jal 21) := ⟨_, rfl⟩
  refine j0_hB eA8 ?_
  have n8 : hN A8 = 352 := by rw [eA8, hN_nC, n7] <;> rfl
  refine j0_dup dX9_init_38 rfl ?_
  refine j0_iconst dX9_init_39 ?_
  refine j0_iconst dX9_init_40 ?_
  refine j0_iast (K := 21) (inR_lit _ rfl) (inR_lit _ rfl) (by decide) (by decide) rfl dX9_init_41 (by decide) (fun _ => (by rw [n8]; decide)) (kdA_lt (by decide) rfl) (by decide) ?_
  obtain ⟨A9, eA9⟩ : ∃ B : AH, B = sI A8 (351) 0 (0) := ⟨_, rfl⟩
  refine j0_hB eA9 ?_
  have n9 : hN A9 = 352 := by rw [eA9, hN_sI, n8] <;> rfl
  refine j0_dup dX9_init_42 rfl ?_
  refine j0_iconst dX9_init_43 ?_
  refine j0_iconst dX9_init_44 ?_
  refine j0_iast (K := 21) (inR_lit _ rfl) (inR_lit _ rfl) (by decide) (by decide) rfl dX9_init_45 (by decide) (fun _ => (by rw [n9]; decide)) (kdA_lt (by decide) rfl) (by decide) ?_
  obtain ⟨A10, eA10⟩ : ∃ B : AH, B = sI A9 (351) 1 (1) := ⟨_, rfl⟩
  refine j0_hB eA10 ?_
  have n10 : hN A10 = 352 := by rw [eA10, hN_sI, n9] <;> rfl
  refine j0_dup dX9_init_46 rfl ?_
  refine j0_iconst dX9_init_47 ?_
  refine j0_iconst dX9_init_48 ?_
  refine j0_iast (K := 21) (inR_lit _ rfl) (inR_lit _ rfl) (by decide) (by decide) rfl dX9_init_49 (by decide) (fun _ => (by rw [n10]; decide)) (kdA_lt (by decide) rfl) (by decide) ?_
  obtain ⟨A11, eA11⟩ : ∃ B : AH, B = sI A10 (351) 2 (2) := ⟨_, rfl⟩
  refine j0_hB eA11 ?_
  have n11 : hN A11 = 352 := by rw [eA11, hN_sI, n10] <;> rfl
  refine j0_dup dX9_init_50 rfl ?_
  refine j0_iconst dX9_init_51 ?_
  refine j0_iconst dX9_init_52 ?_
  refine j0_iast (K := 21) (inR_lit _ rfl) (inR_lit _ rfl) (by decide) (by decide) rfl dX9_init_53 (by decide) (fun _ => (by rw [n11]; decide)) (kdA_lt (by decide) rfl) (by decide) ?_
  obtain ⟨A12, eA12⟩ : ∃ B : AH, B = sI A11 (351) 3 (3) := ⟨_, rfl⟩
  refine j0_hB eA12 ?_
  have n12 : hN A12 = 352 := by rw [eA12, hN_sI, n11] <;> rfl
  refine j0_dup dX9_init_54 rfl ?_
  refine j0_iconst dX9_init_55 ?_
  refine j0_iconst dX9_init_56 ?_
  refine j0_iast (K := 21) (inR_lit _ rfl) (inR_lit _ rfl) (by decide) (by decide) rfl dX9_init_57 (by decide) (fun _ => (by rw [n12]; decide)) (kdA_lt (by decide) rfl) (by decide) ?_
  obtain ⟨A13, eA13⟩ : ∃ B : AH, B = sI A12 (351) 4 (4) := ⟨_, rfl⟩
  refine j0_hB eA13 ?_
  have n13 : hN A13 = 352 := by rw [eA13, hN_sI, n12] <;> rfl
  refine j0_dup dX9_init_58 rfl ?_
  refine j0_iconst dX9_init_59 ?_
  refine j0_iconst dX9_init_60 ?_
  refine j0_iast (K := 21) (inR_lit _ rfl) (inR_lit _ rfl) (by decide) (by decide) rfl dX9_init_61 (by decide) (fun _ => (by rw [n13]; decide)) (kdA_lt (by decide) rfl) (by decide) ?_
  obtain ⟨A14, eA14⟩ : ∃ B : AH, B = sI A13 (351) 5 (5) := ⟨_, rfl⟩
  refine j0_hB eA14 ?_
  have n14 : hN A14 = 352 := by rw [eA14, hN_sI, n13] <;> rfl
  refine j0_dup dX9_init_62 rfl ?_
  refine j0_bipush dX9_init_63 rfl ?_
  refine j0_bipush dX9_init_65 rfl ?_
  refine j0_iast (K := 21) (inR_lit _ rfl) (inR_lit _ rfl) (by decide) (by decide) rfl dX9_init_67 (by decide) (fun _ => (by rw [n14]; decide)) (kdA_lt (by decide) rfl) (by decide) ?_
  obtain ⟨A15, eA15⟩ : ∃ B : AH, B = sI A14 (351) 6 (6) := ⟨_, rfl⟩
  refine j0_hB eA15 ?_
  have n15 : hN A15 = 352 := by rw [eA15, hN_sI, n14] <;> rfl
  refine j0_dup dX9_init_68 rfl ?_
  refine j0_bipush dX9_init_69 rfl ?_
  refine j0_iconst dX9_init_71 ?_
  refine j0_iast (K := 21) (inR_lit _ rfl) (inR_lit _ rfl) (by decide) (by decide) rfl dX9_init_72 (by decide) (fun _ => (by rw [n15]; decide)) (kdA_lt (by decide) rfl) (by decide) ?_
  obtain ⟨A16, eA16⟩ : ∃ B : AH, B = sI A15 (351) 7 (5) := ⟨_, rfl⟩
  refine j0_hB eA16 ?_
  have n16 : hN A16 = 352 := by rw [eA16, hN_sI, n15] <;> rfl
  refine j0_dup dX9_init_73 rfl ?_
  refine j0_bipush dX9_init_74 rfl ?_
  refine j0_iconst dX9_init_76 ?_
  refine j0_iast (K := 21) (inR_lit _ rfl) (inR_lit _ rfl) (by decide) (by decide) rfl dX9_init_77 (by decide) (fun _ => (by rw [n16]; decide)) (kdA_lt (by decide) rfl) (by decide) ?_
  obtain ⟨A17, eA17⟩ : ∃ B : AH, B = sI A16 (351) 8 (4) := ⟨_, rfl⟩
  refine j0_hB eA17 ?_
  have n17 : hN A17 = 352 := by rw [eA17, hN_sI, n16] <;> rfl
  refine j0_dup dX9_init_78 rfl ?_
  refine j0_bipush dX9_init_79 rfl ?_
  refine j0_iconst dX9_init_81 ?_
  refine j0_iast (K := 21) (inR_lit _ rfl) (inR_lit _ rfl) (by decide) (by decide) rfl dX9_init_82 (by decide) (fun _ => (by rw [n17]; decide)) (kdA_lt (by decide) rfl) (by decide) ?_
  obtain ⟨A18, eA18⟩ : ∃ B : AH, B = sI A17 (351) 9 (3) := ⟨_, rfl⟩
  refine j0_hB eA18 ?_
  have n18 : hN A18 = 352 := by rw [eA18, hN_sI, n17] <;> rfl
  refine j0_dup dX9_init_83 rfl ?_
  refine j0_bipush dX9_init_84 rfl ?_
  refine j0_iconst dX9_init_86 ?_
  refine j0_iast (K := 21) (inR_lit _ rfl) (inR_lit _ rfl) (by decide) (by decide) rfl dX9_init_87 (by decide) (fun _ => (by rw [n18]; decide)) (kdA_lt (by decide) rfl) (by decide) ?_
  obtain ⟨A19, eA19⟩ : ∃ B : AH, B = sI A18 (351) 10 (2) := ⟨_, rfl⟩
  refine j0_hB eA19 ?_
  have n19 : hN A19 = 352 := by rw [eA19, hN_sI, n18] <;> rfl
  refine j0_dup dX9_init_88 rfl ?_
  refine j0_bipush dX9_init_89 rfl ?_
  refine j0_iconst dX9_init_91 ?_
  refine j0_iast (K := 21) (inR_lit _ rfl) (inR_lit _ rfl) (by decide) (by decide) rfl dX9_init_92 (by decide) (fun _ => (by rw [n19]; decide)) (kdA_lt (by decide) rfl) (by decide) ?_
  obtain ⟨A20, eA20⟩ : ∃ B : AH, B = sI A19 (351) 11 (1) := ⟨_, rfl⟩
  refine j0_hB eA20 ?_
  have n20 : hN A20 = 352 := by rw [eA20, hN_sI, n19] <;> rfl
  refine j0_putFR (K := 9) (k := 2) (by decide) (by decide) rfl (gdI (i := 1280) (by decide +kernel) rfl) rfl rfl rfl rfl (fun _ => rfl) (fun _ => rfl) dX9_init_93 (by decide) (by rw [n20]; decide) (kdA_lt (by decide) rfl) (by decide) ?_
  obtain ⟨A21, eA21⟩ : ∃ B : AH, B = sP A20 (349) 2 (351) := ⟨_, rfl⟩
  refine j0_hB eA21 ?_
  have n21 : hN A21 = 352 := by rw [eA21, hN_sP, n20] <;> rfl
  refine j0_aload_n (j := 0) dX9_init_96 rfl rfl ?_
  refine j0_bipush dX9_init_97 rfl ?_
  refine j0_newarr (qn := 352) n21 (K := 22) rfl (by decide) (by decide) (by decide) (by decide) (by decide) rfl (gdI (i := 181) (by decide +kernel) rfl) rfl (inR_lit _ rfl) (by decide) (fun x => absurd x (by decide)) dX9_init_99 ?_
  obtain ⟨A22, eA22⟩ : ∃ B : AH, B = nC A21 22 (jal 22) := ⟨_, rfl⟩
  refine j0_hB eA22 ?_
  have n22 : hN A22 = 353 := by rw [eA22, hN_nC, n21] <;> rfl
  refine j0_putFR (K := 9) (k := 3) (by decide) (by decide) rfl (gdI (i := 1281) (by decide +kernel) rfl) rfl rfl rfl rfl (fun _ => rfl) (fun _ => rfl) dX9_init_101 (by decide) (by rw [n22]; decide) (kdA_lt (by decide) rfl) (by decide) ?_
  obtain ⟨A23, eA23⟩ : ∃ B : AH, B = sP A22 (349) 3 (352) := ⟨_, rfl⟩
  refine j0_hB eA23 ?_
  have n23 : hN A23 = 353 := by rw [eA23, hN_sP, n22] <;> rfl
  refine j0_aload_n (j := 0) dX9_init_104 rfl rfl ?_
  refine j0_bipush dX9_init_105 rfl ?_
  refine j0_newarr (qn := 353) n23 (K := 23) rfl (by decide) (by decide) (by decide) (by decide) (by decide) rfl (gdI (i := 181) (by decide +kernel) rfl) rfl (inR_lit _ rfl) (by decide) (fun x => absurd x (by decide)) dX9_init_107 ?_
  obtain ⟨A24, eA24⟩ : ∃ B : AH, B = nC A23 23 (jal 23) := ⟨_, rfl⟩
  refine j0_hB eA24 ?_
  have n24 : hN A24 = 354 := by rw [eA24, hN_nC, n23] <;> rfl
  refine j0_putFR (K := 9) (k := 4) (by decide) (by decide) rfl (gdI (i := 1282) (by decide +kernel) rfl) rfl rfl rfl rfl (fun _ => rfl) (fun _ => rfl) dX9_init_109 (by decide) (by rw [n24]; decide) (kdA_lt (by decide) rfl) (by decide) ?_
  obtain ⟨A25, eA25⟩ : ∃ B : AH, B = sP A24 (349) 4 (353) := ⟨_, rfl⟩
  refine j0_hB eA25 ?_
  have n25 : hN A25 = 354 := by rw [eA25, hN_sP, n24] <;> rfl
  refine j0_aload_n (j := 0) dX9_init_112 rfl rfl ?_
  refine j0_bipush dX9_init_113 rfl ?_
  refine j0_newarr (qn := 354) n25 (K := 24) rfl (by decide) (by decide) (by decide) (by decide) (by decide) rfl (gdI (i := 181) (by decide +kernel) rfl) rfl (inR_lit _ rfl) (by decide) (fun x => absurd x (by decide)) dX9_init_115 ?_
  obtain ⟨A26, eA26⟩ : ∃ B : AH, B = nC A25 24 (jal 24) := ⟨_, rfl⟩
  refine j0_hB eA26 ?_
  have n26 : hN A26 = 355 := by rw [eA26, hN_nC, n25] <;> rfl
  refine j0_putFR (K := 9) (k := 5) (by decide) (by decide) rfl (gdI (i := 1283) (by decide +kernel) rfl) rfl rfl rfl rfl (fun _ => rfl) (fun _ => rfl) dX9_init_117 (by decide) (by rw [n26]; decide) (kdA_lt (by decide) rfl) (by decide) ?_
  obtain ⟨A27, eA27⟩ : ∃ B : AH, B = sP A26 (349) 5 (354) := ⟨_, rfl⟩
  refine j0_hB eA27 ?_
  have n27 : hN A27 = 355 := by rw [eA27, hN_sP, n26] <;> rfl
  refine j0_aload_n (j := 0) dX9_init_120 rfl rfl ?_
  refine j0_bipush dX9_init_121 rfl ?_
  refine j0_newarr (qn := 355) n27 (K := 25) rfl (by decide) (by decide) (by decide) (by decide) (by decide) rfl (gdI (i := 181) (by decide +kernel) rfl) rfl (inR_lit _ rfl) (by decide) (fun x => absurd x (by decide)) dX9_init_123 ?_
  obtain ⟨A28, eA28⟩ : ∃ B : AH, B = nC A27 25 (jal 25) := ⟨_, rfl⟩
  refine j0_hB eA28 ?_
  have n28 : hN A28 = 356 := by rw [eA28, hN_nC, n27] <;> rfl
  refine j0_putFR (K := 9) (k := 6) (by decide) (by decide) rfl (gdI (i := 1284) (by decide +kernel) rfl) rfl rfl rfl rfl (fun _ => rfl) (fun _ => rfl) dX9_init_125 (by decide) (by rw [n28]; decide) (kdA_lt (by decide) rfl) (by decide) ?_
  obtain ⟨A29, eA29⟩ : ∃ B : AH, B = sP A28 (349) 6 (355) := ⟨_, rfl⟩
  refine j0_hB eA29 ?_
  have n29 : hN A29 = 356 := by rw [eA29, hN_sP, n28] <;> rfl
  refine j0_aload_n (j := 0) dX9_init_128 rfl rfl ?_
  refine j0_bipush dX9_init_129 rfl ?_
  refine j0_newarr (qn := 356) n29 (K := 26) rfl (by decide) (by decide) (by decide) (by decide) (by decide) rfl (gdI (i := 181) (by decide +kernel) rfl) rfl (inR_lit _ rfl) (by decide) (fun x => absurd x (by decide)) dX9_init_131 ?_
  obtain ⟨A30, eA30⟩ : ∃ B : AH, B = nC A29 26 (jal 26) := ⟨_, rfl⟩
  refine j0_hB eA30 ?_
  have n30 : hN A30 = 357 := by rw [eA30, hN_nC, n29] <;> rfl
  refine j0_putFR (K := 9) (k := 7) (by decide) (by decide) rfl (gdI (i := 1285) (by decide +kernel) rfl) rfl rfl rfl rfl (fun _ => rfl) (fun _ => rfl) dX9_init_133 (by decide) (by rw [n30]; decide) (kdA_lt (by decide) rfl) (by decide) ?_
  obtain ⟨A31, eA31⟩ : ∃ B : AH, B = sP A30 (349) 7 (356) := ⟨_, rfl⟩
  refine j0_hB eA31 ?_
  have n31 : hN A31 = 357 := by rw [eA31, hN_sP, n30] <;> rfl
  refine j0_aload_n (j := 0) dX9_init_136 rfl rfl ?_
  refine j0_bipush dX9_init_137 rfl ?_
  refine j0_newarr (qn := 357) n31 (K := 27) rfl (by decide) (by decide) (by decide) (by decide) (by decide) rfl (gdI (i := 181) (by decide +kernel) rfl) rfl (inR_lit _ rfl) (by decide) (fun x => absurd x (by decide)) dX9_init_139 ?_
  obtain ⟨A32, eA32⟩ : ∃ B : AH, B = nC A31 27 (jal 27) := ⟨_, rfl⟩
  refine j0_hB eA32 ?_
  have n32 : hN A32 = 358 := by rw [eA32, hN_nC, n31] <;> rfl
  refine j0_putFR (K := 9) (k := 8) (by decide) (by decide) rfl (gdI (i := 1286) (by decide +kernel) rfl) rfl rfl rfl rfl (fun _ => rfl) (fun _ => rfl) dX9_init_141 (by decide) (by rw [n32]; decide) (kdA_lt (by decide) rfl) (by decide) ?_
  obtain ⟨A33, eA33⟩ : ∃ B : AH, B = sP A32 (349) 8 (357) := ⟨_, rfl⟩
  refine j0_hB eA33 ?_
  have n33 : hN A33 = 358 := by rw [eA33, hN_sP, n32] <;> rfl
  refine j0_aload_n (j := 0) dX9_init_144 rfl rfl ?_
  refine j0_bipush dX9_init_145 rfl ?_
  refine j0_newarr (qn := 358) n33 (K := 28) rfl (by decide) (by decide) (by decide) (by decide) (by decide) rfl (gdI (i := 181) (by decide +kernel) rfl) rfl (inR_lit _ rfl) (by decide) (fun x => absurd x (by decide)) dX9_init_147 ?_
  obtain ⟨A34, eA34⟩ : ∃ B : AH, B = nC A33 28 (jal 28) := ⟨_, rfl⟩
  refine j0_hB eA34 ?_
  have n34 : hN A34 = 359 := by rw [eA34, hN_nC, n33] <;> rfl
  refine j0_putFR (K := 9) (k := 9) (by decide) (by decide) rfl (gdI (i := 1287) (by decide +kernel) rfl) rfl rfl rfl rfl (fun _ => rfl) (fun _ => rfl) dX9_init_149 (by decide) (by rw [n34]; decide) (kdA_lt (by decide) rfl) (by decide) ?_
  obtain ⟨A35, eA35⟩ : ∃ B : AH, B = sP A34 (349) 9 (358) := ⟨_, rfl⟩
  refine j0_hB eA35 ?_
  have n35 : hN A35 = 359 := by rw [eA35, hN_sP, n34] <;> rfl
  refine j0_aload_n (j := 0) dX9_init_152 rfl rfl ?_
  refine j0_bipush dX9_init_153 rfl ?_
  refine j0_newarr (qn := 359) n35 (K := 29) rfl (by decide) (by decide) (by decide) (by decide) (by decide) rfl (gdI (i := 181) (by decide +kernel) rfl) rfl (inR_lit _ rfl) (by decide) (fun x => absurd x (by decide)) dX9_init_155 ?_
  obtain ⟨A36, eA36⟩ : ∃ B : AH, B = nC A35 29 (jal 29) := ⟨_, rfl⟩
  refine j0_hB eA36 ?_
  have n36 : hN A36 = 360 := by rw [eA36, hN_nC, n35] <;> rfl
  refine j0_putFR (K := 9) (k := 10) (by decide) (by decide) rfl (gdI (i := 1288) (by decide +kernel) rfl) rfl rfl rfl rfl (fun _ => rfl) (fun _ => rfl) dX9_init_157 (by decide) (by rw [n36]; decide) (kdA_lt (by decide) rfl) (by decide) ?_
  obtain ⟨A37, eA37⟩ : ∃ B : AH, B = sP A36 (349) 10 (359) := ⟨_, rfl⟩
  refine j0_hB eA37 ?_
  have n37 : hN A37 = 360 := by rw [eA37, hN_sP, n36] <;> rfl
  refine j0_aload_n (j := 0) dX9_init_160 rfl rfl ?_
  refine j0_bipush dX9_init_161 rfl ?_
  refine j0_newarr (qn := 360) n37 (K := 30) rfl (by decide) (by decide) (by decide) (by decide) (by decide) rfl (gdI (i := 181) (by decide +kernel) rfl) rfl (inR_lit _ rfl) (by decide) (fun x => absurd x (by decide)) dX9_init_163 ?_
  obtain ⟨A38, eA38⟩ : ∃ B : AH, B = nC A37 30 (jal 30) := ⟨_, rfl⟩
  refine j0_hB eA38 ?_
  have n38 : hN A38 = 361 := by rw [eA38, hN_nC, n37] <;> rfl
  refine j0_putFR (K := 9) (k := 11) (by decide) (by decide) rfl (gdI (i := 1289) (by decide +kernel) rfl) rfl rfl rfl rfl (fun _ => rfl) (fun _ => rfl) dX9_init_165 (by decide) (by rw [n38]; decide) (kdA_lt (by decide) rfl) (by decide) ?_
  obtain ⟨A39, eA39⟩ : ∃ B : AH, B = sP A38 (349) 11 (360) := ⟨_, rfl⟩
  refine j0_hB eA39 ?_
  have n39 : hN A39 = 361 := by rw [eA39, hN_sP, n38] <;> rfl
  refine j0_aload_n (j := 0) dX9_init_168 rfl rfl ?_
  refine j0_bipush dX9_init_169 rfl ?_
  refine j0_newarr (qn := 361) n39 (K := 31) rfl (by decide) (by decide) (by decide) (by decide) (by decide) rfl (gdI (i := 181) (by decide +kernel) rfl) rfl (inR_lit _ rfl) (by decide) (fun x => absurd x (by decide)) dX9_init_171 ?_
  obtain ⟨A40, eA40⟩ : ∃ B : AH, B = nC A39 31 (jal 31) := ⟨_, rfl⟩
  refine j0_hB eA40 ?_
  have n40 : hN A40 = 362 := by rw [eA40, hN_nC, n39] <;> rfl
  refine j0_putFR (K := 9) (k := 12) (by decide) (by decide) rfl (gdI (i := 1290) (by decide +kernel) rfl) rfl rfl rfl rfl (fun _ => rfl) (fun _ => rfl) dX9_init_173 (by decide) (by rw [n40]; decide) (kdA_lt (by decide) rfl) (by decide) ?_
  obtain ⟨A41, eA41⟩ : ∃ B : AH, B = sP A40 (349) 12 (361) := ⟨_, rfl⟩
  refine j0_hB eA41 ?_
  have n41 : hN A41 = 362 := by rw [eA41, hN_sP, n40] <;> rfl
  refine j0_aload_n (j := 0) dX9_init_176 rfl rfl ?_
  refine j0_bipush dX9_init_177 rfl ?_
  refine j0_newarr (qn := 362) n41 (K := 32) rfl (by decide) (by decide) (by decide) (by decide) (by decide) rfl (gdI (i := 181) (by decide +kernel) rfl) rfl (inR_lit _ rfl) (by decide) (fun x => absurd x (by decide)) dX9_init_179 ?_
  obtain ⟨A42, eA42⟩ : ∃ B : AH, B = nC A41 32 (jal 32) := ⟨_, rfl⟩
  refine j0_hB eA42 ?_
  have n42 : hN A42 = 363 := by rw [eA42, hN_nC, n41] <;> rfl
  refine j0_putFR (K := 9) (k := 13) (by decide) (by decide) rfl (gdI (i := 1291) (by decide +kernel) rfl) rfl rfl rfl rfl (fun _ => rfl) (fun _ => rfl) dX9_init_181 (by decide) (by rw [n42]; decide) (kdA_lt (by decide) rfl) (by decide) ?_
  obtain ⟨A43, eA43⟩ : ∃ B : AH, B = sP A42 (349) 13 (362) := ⟨_, rfl⟩
  refine j0_hB eA43 ?_
  have n43 : hN A43 = 363 := by rw [eA43, hN_sP, n42] <;> rfl
  refine j0_aload_n (j := 0) dX9_init_184 rfl rfl ?_
  refine j0_bipush dX9_init_185 rfl ?_
  refine j0_newarr (qn := 363) n43 (K := 33) rfl (by decide) (by decide) (by decide) (by decide) (by decide) rfl (gdI (i := 181) (by decide +kernel) rfl) rfl (inR_lit _ rfl) (by decide) (fun x => absurd x (by decide)) dX9_init_187 ?_
  obtain ⟨A44, eA44⟩ : ∃ B : AH, B = nC A43 33 (jal 33) := ⟨_, rfl⟩
  refine j0_hB eA44 ?_
  have n44 : hN A44 = 364 := by rw [eA44, hN_nC, n43] <;> rfl
  refine j0_putFR (K := 9) (k := 14) (by decide) (by decide) rfl (gdI (i := 1292) (by decide +kernel) rfl) rfl rfl rfl rfl (fun _ => rfl) (fun _ => rfl) dX9_init_189 (by decide) (by rw [n44]; decide) (kdA_lt (by decide) rfl) (by decide) ?_
  obtain ⟨A45, eA45⟩ : ∃ B : AH, B = sP A44 (349) 14 (363) := ⟨_, rfl⟩
  refine j0_hB eA45 ?_
  have n45 : hN A45 = 364 := by rw [eA45, hN_sP, n44] <;> rfl
  refine j0_aload_n (j := 0) dX9_init_192 rfl rfl ?_
  refine j0_iconst dX9_init_193 ?_
  refine j0_newarr (qn := 364) n45 (K := 34) rfl (by decide) (by decide) (by decide) (by decide) (by decide) rfl (gdI (i := 181) (by decide +kernel) rfl) rfl (inR_lit _ rfl) (by decide) (fun x => absurd x (by decide)) dX9_init_194 ?_
  obtain ⟨A46, eA46⟩ : ∃ B : AH, B = nC A45 34 (jal 34) := ⟨_, rfl⟩
  refine j0_hB eA46 ?_
  have n46 : hN A46 = 365 := by rw [eA46, hN_nC, n45] <;> rfl
  refine j0_putFR (K := 9) (k := 15) (by decide) (by decide) rfl (gdI (i := 1293) (by decide +kernel) rfl) rfl rfl rfl rfl (fun _ => rfl) (fun _ => rfl) dX9_init_196 (by decide) (by rw [n46]; decide) (kdA_lt (by decide) rfl) (by decide) ?_
  obtain ⟨A47, eA47⟩ : ∃ B : AH, B = sP A46 (349) 15 (364) := ⟨_, rfl⟩
  refine j0_hB eA47 ?_
  have n47 : hN A47 = 365 := by rw [eA47, hN_sP, n46] <;> rfl
  refine j0_aload_n (j := 0) dX9_init_199 rfl rfl ?_
  refine j0_iconst dX9_init_200 ?_
  refine j0_newarr (qn := 365) n47 (K := 35) rfl (by decide) (by decide) (by decide) (by decide) (by decide) rfl (gdI (i := 181) (by decide +kernel) rfl) rfl (inR_lit _ rfl) (by decide) (fun x => absurd x (by decide)) dX9_init_201 ?_
  obtain ⟨A48, eA48⟩ : ∃ B : AH, B = nC A47 35 (jal 35) := ⟨_, rfl⟩
  refine j0_hB eA48 ?_
  have n48 : hN A48 = 366 := by rw [eA48, hN_nC, n47] <;> rfl
  refine j0_putFR (K := 9) (k := 16) (by decide) (by decide) rfl (gdI (i := 1294) (by decide +kernel) rfl) rfl rfl rfl rfl (fun _ => rfl) (fun _ => rfl) dX9_init_203 (by decide) (by rw [n48]; decide) (kdA_lt (by decide) rfl) (by decide) ?_
  obtain ⟨A49, eA49⟩ : ∃ B : AH, B = sP A48 (349) 16 (365) := ⟨_, rfl⟩
  refine j0_hB eA49 ?_
  have n49 : hN A49 = 366 := by rw [eA49, hN_sP, n48] <;> rfl
  refine j0_aload_n (j := 0) dX9_init_206 rfl rfl ?_
  refine j0_iconst dX9_init_207 ?_
  refine j0_newarr (qn := 366) n49 (K := 36) rfl (by decide) (by decide) (by decide) (by decide) (by decide) rfl (gdI (i := 181) (by decide +kernel) rfl) rfl (inR_lit _ rfl) (by decide) (fun x => absurd x (by decide)) dX9_init_208 ?_
  obtain ⟨A50, eA50⟩ : ∃ B : AH, B = nC A49 36 (jal 36) := ⟨_, rfl⟩
  refine j0_hB eA50 ?_
  have n50 : hN A50 = 367 := by rw [eA50, hN_nC, n49] <;> rfl
  refine j0_putFR (K := 9) (k := 17) (by decide) (by decide) rfl (gdI (i := 1295) (by decide +kernel) rfl) rfl rfl rfl rfl (fun _ => rfl) (fun _ => rfl) dX9_init_210 (by decide) (by rw [n50]; decide) (kdA_lt (by decide) rfl) (by decide) ?_
  obtain ⟨A51, eA51⟩ : ∃ B : AH, B = sP A50 (349) 17 (366) := ⟨_, rfl⟩
  refine j0_hB eA51 ?_
  have n51 : hN A51 = 367 := by rw [eA51, hN_sP, n50] <;> rfl
  refine j0_aload_n (j := 0) dX9_init_213 rfl rfl ?_
  refine j0_sipush dX9_init_214 rfl ?_
  refine j0_newarr (qn := 367) n51 (K := 37) rfl (by decide) (by decide) (by decide) (by decide) (by decide) rfl (gdI (i := 181) (by decide +kernel) rfl) rfl (inR_lit _ rfl) (by decide) (fun x => absurd x (by decide)) dX9_init_217 ?_
  obtain ⟨A52, eA52⟩ : ∃ B : AH, B = nC A51 37 (jal 37) := ⟨_, rfl⟩
  refine j0_hB eA52 ?_
  have n52 : hN A52 = 368 := by rw [eA52, hN_nC, n51] <;> rfl
  refine j0_putFR (K := 9) (k := 18) (by decide) (by decide) rfl (gdI (i := 1296) (by decide +kernel) rfl) rfl rfl rfl rfl (fun _ => rfl) (fun _ => rfl) dX9_init_219 (by decide) (by rw [n52]; decide) (kdA_lt (by decide) rfl) (by decide) ?_
  obtain ⟨A53, eA53⟩ : ∃ B : AH, B = sP A52 (349) 18 (367) := ⟨_, rfl⟩
  refine j0_hB eA53 ?_
  have n53 : hN A53 = 368 := by rw [eA53, hN_sP, n52] <;> rfl
  refine j0_aload_n (j := 0) dX9_init_222 rfl rfl ?_
  refine j0_bipush dX9_init_223 rfl ?_
  refine j0_newarr (qn := 368) n53 (K := 38) rfl (by decide) (by decide) (by decide) (by decide) (by decide) rfl (gdI (i := 326) (by decide +kernel) rfl) rfl (inR_lit _ rfl) (by decide) (fun x => absurd x (by decide)) dX9_init_225 ?_
  obtain ⟨A54, eA54⟩ : ∃ B : AH, B = nC A53 38 (jal 38) := ⟨_, rfl⟩
  refine j0_hB eA54 ?_
  have n54 : hN A54 = 369 := by rw [eA54, hN_nC, n53] <;> rfl
  refine j0_putFR (K := 9) (k := 31) (by decide) (by decide) rfl (gdI (i := 1309) (by decide +kernel) rfl) rfl rfl rfl rfl (fun _ => rfl) (fun _ => rfl) dX9_init_227 (by decide) (by rw [n54]; decide) (kdA_lt (by decide) rfl) (by decide) ?_
  obtain ⟨A55, eA55⟩ : ∃ B : AH, B = sP A54 (349) 31 (368) := ⟨_, rfl⟩
  refine j0_hB eA55 ?_
  have n55 : hN A55 = 369 := by rw [eA55, hN_sP, n54] <;> rfl
  refine j0_aload_n (j := 0) dX9_init_230 rfl rfl ?_
  refine j0_bipush dX9_init_231 rfl ?_
  refine j0_newarr (qn := 369) n55 (K := 39) rfl (by decide) (by decide) (by decide) (by decide) (by decide) rfl (gdI (i := 326) (by decide +kernel) rfl) rfl (inR_lit _ rfl) (by decide) (fun x => absurd x (by decide)) dX9_init_233 ?_
  obtain ⟨A56, eA56⟩ : ∃ B : AH, B = nC A55 39 (jal 39) := ⟨_, rfl⟩
  refine j0_hB eA56 ?_
  have n56 : hN A56 = 370 := by rw [eA56, hN_nC, n55] <;> rfl
  refine j0_putFR (K := 9) (k := 32) (by decide) (by decide) rfl (gdI (i := 1310) (by decide +kernel) rfl) rfl rfl rfl rfl (fun _ => rfl) (fun _ => rfl) dX9_init_235 (by decide) (by rw [n56]; decide) (kdA_lt (by decide) rfl) (by decide) ?_
  obtain ⟨A57, eA57⟩ : ∃ B : AH, B = sP A56 (349) 32 (369) := ⟨_, rfl⟩
  refine j0_hB eA57 ?_
  have n57 : hN A57 = 370 := by rw [eA57, hN_sP, n56] <;> rfl
  refine j0_aload_n (j := 0) dX9_init_238 rfl rfl ?_
  refine j0_bipush dX9_init_239 rfl ?_
  refine j0_newarr (qn := 370) n57 (K := 40) rfl (by decide) (by decide) (by decide) (by decide) (by decide) rfl (gdI (i := 181) (by decide +kernel) rfl) rfl (inR_lit _ rfl) (by decide) (fun x => absurd x (by decide)) dX9_init_241 ?_
  obtain ⟨A58, eA58⟩ : ∃ B : AH, B = nC A57 40 (jal 40) := ⟨_, rfl⟩
  refine j0_hB eA58 ?_
  have n58 : hN A58 = 371 := by rw [eA58, hN_nC, n57] <;> rfl
  refine j0_putFR (K := 9) (k := 33) (by decide) (by decide) rfl (gdI (i := 1311) (by decide +kernel) rfl) rfl rfl rfl rfl (fun _ => rfl) (fun _ => rfl) dX9_init_243 (by decide) (by rw [n58]; decide) (kdA_lt (by decide) rfl) (by decide) ?_
  obtain ⟨A59, eA59⟩ : ∃ B : AH, B = sP A58 (349) 33 (370) := ⟨_, rfl⟩
  refine j0_hB eA59 ?_
  have n59 : hN A59 = 371 := by rw [eA59, hN_sP, n58] <;> rfl
  refine j0_aload_n (j := 0) dX9_init_246 rfl rfl ?_
  refine j0_iconst dX9_init_247 ?_
  refine j0_putV FX9_74 rfl rfl rfl rfl (inR_lit _ rfl) dX9_init_248 (by decide) (fun _ => (by rw [n59]; decide)) (kdA_lt (by decide) rfl) ?_
  obtain ⟨A60, eA60⟩ : ∃ B : AH, B = sI A59 (349) 37 (-1) := ⟨_, rfl⟩
  refine j0_hB eA60 ?_
  have n60 : hN A60 = 371 := by rw [eA60, hN_sI, n59] <;> rfl
  refine j0_aload_n (j := 0) dX9_init_251 rfl rfl ?_
  refine j0_sipush dX9_init_252 rfl ?_
  refine j0_newarr (qn := 371) n60 (K := 41) rfl (by decide) (by decide) (by decide) (by decide) (by decide) rfl (gdI (i := 181) (by decide +kernel) rfl) rfl (inR_lit _ rfl) (by decide) (fun x => absurd x (by decide)) dX9_init_255 ?_
  obtain ⟨A61, eA61⟩ : ∃ B : AH, B = nC A60 41 (jal 41) := ⟨_, rfl⟩
  refine j0_hB eA61 ?_
  have n61 : hN A61 = 372 := by rw [eA61, hN_nC, n60] <;> rfl
  refine j0_putFR (K := 9) (k := 38) (by decide) (by decide) rfl (gdI (i := 1316) (by decide +kernel) rfl) rfl rfl rfl rfl (fun _ => rfl) (fun _ => rfl) dX9_init_257 (by decide) (by rw [n61]; decide) (kdA_lt (by decide) rfl) (by decide) ?_
  obtain ⟨A62, eA62⟩ : ∃ B : AH, B = sP A61 (349) 38 (371) := ⟨_, rfl⟩
  refine j0_hB eA62 ?_
  have n62 : hN A62 = 372 := by rw [eA62, hN_sP, n61] <;> rfl
  refine j0_aload_n (j := 0) dX9_init_260 rfl rfl ?_
  refine j0_sipush dX9_init_261 rfl ?_
  refine j0_newarr (qn := 372) n62 (K := 42) rfl (by decide) (by decide) (by decide) (by decide) (by decide) rfl (gdI (i := 181) (by decide +kernel) rfl) rfl (inR_lit _ rfl) (by decide) (fun x => absurd x (by decide)) dX9_init_264 ?_
  obtain ⟨A63, eA63⟩ : ∃ B : AH, B = nC A62 42 (jal 42) := ⟨_, rfl⟩
  refine j0_hB eA63 ?_
  have n63 : hN A63 = 373 := by rw [eA63, hN_nC, n62] <;> rfl
  refine j0_putFR (K := 9) (k := 39) (by decide) (by decide) rfl (gdI (i := 1317) (by decide +kernel) rfl) rfl rfl rfl rfl (fun _ => rfl) (fun _ => rfl) dX9_init_266 (by decide) (by rw [n63]; decide) (kdA_lt (by decide) rfl) (by decide) ?_
  obtain ⟨A64, eA64⟩ : ∃ B : AH, B = sP A63 (349) 39 (372) := ⟨_, rfl⟩
  refine j0_hB eA64 ?_
  have n64 : hN A64 = 373 := by rw [eA64, hN_sP, n63] <;> rfl
  refine j0_aload_n (j := 0) dX9_init_269 rfl rfl ?_
  refine j0_sipush dX9_init_270 rfl ?_
  refine j0_newarr (qn := 373) n64 (K := 43) rfl (by decide) (by decide) (by decide) (by decide) (by decide) rfl (gdI (i := 181) (by decide +kernel) rfl) rfl (inR_lit _ rfl) (by decide) (fun x => absurd x (by decide)) dX9_init_273 ?_
  obtain ⟨A65, eA65⟩ : ∃ B : AH, B = nC A64 43 (jal 43) := ⟨_, rfl⟩
  refine j0_hB eA65 ?_
  have n65 : hN A65 = 374 := by rw [eA65, hN_nC, n64] <;> rfl
  refine j0_putFR (K := 9) (k := 40) (by decide) (by decide) rfl (gdI (i := 1318) (by decide +kernel) rfl) rfl rfl rfl rfl (fun _ => rfl) (fun _ => rfl) dX9_init_275 (by decide) (by rw [n65]; decide) (kdA_lt (by decide) rfl) (by decide) ?_
  obtain ⟨A66, eA66⟩ : ∃ B : AH, B = sP A65 (349) 40 (373) := ⟨_, rfl⟩
  refine j0_hB eA66 ?_
  have n66 : hN A66 = 374 := by rw [eA66, hN_sP, n65] <;> rfl
  subst eA66 eA65 eA64 eA63 eA62 eA61 eA60 eA59 eA58 eA57 eA56 eA55 eA54 eA53 eA52 eA51 eA50 eA49 eA48 eA47 eA46 eA45 eA44 eA43 eA42 eA41 eA40 eA39 eA38 eA37 eA36 eA35 eA34 eA33 eA32 eA31 eA30 eA29 eA28 eA27 eA26 eA25 eA24 eA23 eA22 eA21 eA20 eA19 eA18 eA17 eA16 eA15 eA14 eA13 eA12 eA11 eA10 eA9 eA8 eA7 eA6 eA5 eA4 eA3 eA2 eA1
  exact j0_vret dX9_init_278 rfl rfl trivial
