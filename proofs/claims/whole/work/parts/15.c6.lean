def lawI (A : AH) : AH := (nC (nC (modI (nC (proI (nC A 8 (jfn 8))) 9 (jfn 9))) 60 (jal 60)) 61 (jal 61))
theorem hN_lawI (A : AH) : hN (lawI A) = hN A + 375 := by
  unfold lawI
  simp only [hN_nC, hN_proI, hN_modI]
set_option maxRecDepth 100000 in
theorem tL_law_0 {g : JG} {l : Launch} {d n0 s0 : Nat} {o : JO} {Z : Prop} {A : AH} (hl : l.stackTraces = false) (hd : 12 ≤ d) (n0_ : hN A = 1) (hD : hDb A = 0) (KK : J0 g l d RL "law" cL_law 9 (some .boolean) n0 s0 o Z 28 [(5, vI 0), (4, .ref (gB g + 375)), (3, .ref (gB g + 374)), (2, .ref (gB g + 349)), (1, .ref (gB g + 1)), (0, .ref (gS g 6))] [] (lawI A)) : J0 g l d RL "law" cL_law 9 (some .boolean) n0 s0 o Z 0 [(0, .ref (gS g 6))] [] A := by
  refine j0_new (qn := 1) n0_ (K := 8) (by decide) rfl (by decide) (by decide) (gdI (i := 99) (by decide +kernel) rfl) (gdI (i := 100) (by decide +kernel) rfl) (gdI (i := 75) (by decide +kernel) rfl) dL_law_0 ?_
  obtain ⟨A1, eA1⟩ : ∃ B : AH, B = nC A 8 (jfn 8) := ⟨_, rfl⟩
  refine j0_hB eA1 ?_
  have n1 : hN A1 = 2 := by rw [eA1, hN_nC, n0_] <;> rfl
  refine j0_dup dL_law_3 rfl ?_
  refine j0_callI (y := yX8_init) (As := []) (d' := d - 1) (gdI (i := 101) (by decide +kernel) rfl) ⟨gdI (i := 75) (by decide +kernel) rfl, gdI (i := 103) (by decide +kernel) rfl, by decide, by decide, rfl⟩ (gdI (i := 102) (by decide +kernel) rfl) rfl (by decide) (by omega) (Nat.le_of_ble_eq_true rfl) rfl (ctX8_init hl (by omega) n1) dL_law_4 rfl (fun _ _ => ?_)
  obtain ⟨A2, eA2⟩ : ∃ B : AH, B = proI A1 := ⟨_, rfl⟩
  refine j0_hB eA2 ?_
  have n2 : hN A2 = 349 := by rw [eA2, hN_proI, n1] <;> rfl
  refine j0_astore_n dL_law_7 rfl (by decide) rfl rfl ?_
  refine j0_new (qn := 349) n2 (K := 9) (by decide) rfl (by decide) (by decide) (gdI (i := 1272) (by decide +kernel) rfl) (gdI (i := 1273) (by decide +kernel) rfl) (gdI (i := 84) (by decide +kernel) rfl) dL_law_8 ?_
  obtain ⟨A3, eA3⟩ : ∃ B : AH, B = nC A2 9 (jfn 9) := ⟨_, rfl⟩
  refine j0_hB eA3 ?_
  have n3 : hN A3 = 350 := by rw [eA3, hN_nC, n2] <;> rfl
  refine j0_dup dL_law_11 rfl ?_
  refine j0_callI (y := yX9_init) (As := []) (d' := d - 1) (gdI (i := 1274) (by decide +kernel) rfl) ⟨gdI (i := 84) (by decide +kernel) rfl, gdI (i := 1276) (by decide +kernel) rfl, by decide, by decide, rfl⟩ (gdI (i := 1275) (by decide +kernel) rfl) rfl (by decide) (by omega) (Nat.le_of_ble_eq_true rfl) rfl (ctX9_init hl (by omega) n3) dL_law_12 rfl (fun _ _ => ?_)
  obtain ⟨A4, eA4⟩ : ∃ B : AH, B = modI A3 := ⟨_, rfl⟩
  refine j0_hB eA4 ?_
  have n4 : hN A4 = 374 := by rw [eA4, hN_modI, n3] <;> rfl
  refine j0_astore_n dL_law_15 rfl (by decide) rfl rfl ?_
  refine j0_iconst dL_law_16 ?_
  refine j0_newarr (qn := 374) n4 (K := 60) rfl (by decide) (by decide) (by decide) (by decide) (by decide) rfl (gdI (i := 1831) (by decide +kernel) rfl) rfl (inR_lit _ rfl) (by decide) (fun x => absurd x (by decide)) dL_law_17 ?_
  obtain ⟨A5, eA5⟩ : ∃ B : AH, B = nC A4 60 (jal 60) := ⟨_, rfl⟩
  refine j0_hB eA5 ?_
  have n5 : hN A5 = 375 := by rw [eA5, hN_nC, n4] <;> rfl
  refine j0_astore_n dL_law_19 rfl (by decide) rfl rfl ?_
  refine j0_iconst dL_law_20 ?_
  refine j0_newarr (qn := 375) n5 (K := 61) rfl (by decide) (by decide) (by decide) (by decide) (by decide) rfl (gdI (i := 1832) (by decide +kernel) rfl) rfl (inR_lit _ rfl) (by decide) (fun _ => by rw [eA5, hDb_nC, eA4, hDb_modI, eA3, hDb_nC, eA2, hDb_proI, eA1, hDb_nC, hD]) dL_law_21 ?_
  obtain ⟨A6, eA6⟩ : ∃ B : AH, B = nC A5 61 (jal 61) := ⟨_, rfl⟩
  refine j0_hB eA6 ?_
  have n6 : hN A6 = 376 := by rw [eA6, hN_nC, n5] <;> rfl
  refine j0_astore dL_law_23 (by decide) rfl rfl ?_
  refine j0_iconst dL_law_25 ?_
  refine j0_istore dL_law_26 (by decide) rfl rfl ?_
  subst eA6 eA5 eA4 eA3 eA2 eA1
  exact KK
