theorem ctX9_passAll {g : JG} {l : Launch} {d N : Nat} {A : AH} {out : AH} {y1 : Nat} {x2 : Int} {x3 : Int} (hl : l.stackTraces = false) (hd : 2 ≤ d) (hy1 : VI y1) (hx2 : inR x2) (hx3 : x3 = 0 ∨ x3 = 1) (h : fX9_passAll N A y1 x2 x3 = some out) : CT g l yX9_passAll cX9_passAll 4 none d [.ref (gB g + 349), .ref (gB g + y1), vI x2, vI x3] A ((0, none, out) : JO) (True) :=
  CT_of (by decide +kernel) hl (by first | exact Nat.le_of_ble_eq_true rfl | (unfold rv; split <;> exact Nat.le_of_ble_eq_true rfl)) (by first | rfl | (unfold rv; split <;> rfl)) (j_sub (lv := [(0, .ref (gB g + 349)), (1, .ref (gB g + y1)), (2, vI x2), (3, vI x3)]) [0, 1, 2, 3] rfl (tX9_passAll_0 hl hd hy1 hx2 hx3 h))
set_option maxRecDepth 100000 in
theorem tX9_remembers_0 {g : JG} {l : Launch} {d N n0 s0 : Nat} {out : AH} {A : AH} (hl : l.stackTraces = false) (hd : 3 ≤ d) (h : fX9_remembers N A  = some out) : J g l d RX9 "remembers" cX9_remembers 1 none n0 s0 ((0, none, out) : JO) (True) 0 [(0, .ref (gB g + 349))] [] A := by
  unfold fX9_remembers at h
  refine j_aload_n (j := 0) dX9_remembers_0 rfl rfl ?_
  refine j_getI FX9_235 rfl dX9_remembers_1 (VK_c 9 349 rfl).1 (VK_c 9 349 rfl).lt (VK_c 9 349 rfl).ka (fun r1 => ?_)
  by_cases c2 : (gI A 349 45) = 0
  · rw [if_pos c2] at h
    refine j_if_eq_t r1 dX9_remembers_4 (tgt := 8) (by decide) c2 ?_
    refine j_aload_n (j := 0) dX9_remembers_8 rfl rfl ?_
    obtain ⟨p4, e3, h⟩ := obind_elim h
    refine j_callV MX9_375 YX9_makesRoom IX9_makesRoom SX9_makesRoom (by decide) rfl (by decide) (by omega) (Nat.le_of_ble_eq_true rfl) rfl (ctX9_makesRoom (d := d - 1) hl (by omega)  e3) dX9_remembers_9 (VK_c 9 349 rfl).1 (VK_c 9 349 rfl).lt (VK_c 9 349 rfl).ka rfl (fun z5 xt6 => ?_)
    refine j_aload_n (j := 0) dX9_remembers_12 rfl rfl ?_
    refine j_aload_n (j := 0) dX9_remembers_13 rfl rfl ?_
    refine j_getR (q := 371) FX9_78 rfl dX9_remembers_14 (by decide) (by decide) rfl rfl (by decide) ?_
    refine j_sipush dX9_remembers_17 rfl ?_
    refine j_aload_n (j := 0) dX9_remembers_20 rfl rfl ?_
    refine j_getI FX9_322 rfl dX9_remembers_21 (VK_c 9 349 rfl).1 (VK_c 9 349 rfl).lt (VK_c 9 349 rfl).ka (fun r7 => ?_)
    refine j_imul dX9_remembers_24 ?_
    refine j_iconst dX9_remembers_25 ?_
    obtain ⟨p9, e8, h⟩ := obind_elim h
    refine j_callV MX9_368 YX9_passAll IX9_passAll SX9_passAll (by decide) rfl (by decide) (by omega) (Nat.le_of_ble_eq_true rfl) rfl (ctX9_passAll (d := d - 1) hl (by omega) ((VK_c 41 371 rfl).vi (by decide) (by decide) rfl) (wrap_inR _) (Or.inr rfl) e8) dX9_remembers_26 (VK_c 9 349 rfl).1 (VK_c 9 349 rfl).lt (VK_c 9 349 rfl).ka rfl (fun z10 xt11 => ?_)
    refine j_aload_n (j := 0) dX9_remembers_29 rfl rfl ?_
    refine j_dup dX9_remembers_30 rfl ?_
    refine j_getI FX9_322 rfl dX9_remembers_31 (VK_c 9 349 rfl).1 (VK_c 9 349 rfl).lt (VK_c 9 349 rfl).ka (fun r12 => ?_)
    refine j_iconst dX9_remembers_34 ?_
    refine j_iadd dX9_remembers_35 ?_
    obtain ⟨A13, eA13, h⟩ := bnd_elim h
    have xA13 : XT p9 A13 := by rw [eA13]; exact XT_sI _ _ _ _
    refine j_putI FX9_322 rfl rfl rfl (wrap_inR _) dX9_remembers_36 (VK_c 9 349 rfl).1 (VK_c 9 349 rfl).lt (VK_c 9 349 rfl).ka ?_
    refine j_hB eA13 ?_
    cases h
    exact j_vret dX9_remembers_39 rfl rfl trivial
  · rw [if_neg c2] at h
    refine j_if_eq_f r1 dX9_remembers_4 (tgt := 8) (by decide) c2 ?_
    cases h
    exact j_vret dX9_remembers_7 rfl rfl trivial
theorem ctX9_remembers {g : JG} {l : Launch} {d N : Nat} {A : AH} {out : AH} (hl : l.stackTraces = false) (hd : 3 ≤ d) (h : fX9_remembers N A  = some out) : CT g l yX9_remembers cX9_remembers 1 none d [.ref (gB g + 349)] A ((0, none, out) : JO) (True) :=
  CT_of (by decide +kernel) hl (by first | exact Nat.le_of_ble_eq_true rfl | (unfold rv; split <;> exact Nat.le_of_ble_eq_true rfl)) (by first | rfl | (unfold rv; split <;> rfl)) (j_sub (lv := [(0, .ref (gB g + 349))]) [0] rfl (tX9_remembers_0 hl hd  h))
set_option maxRecDepth 100000 in
theorem tX9_rule_0 {g : JG} {l : Launch} {d N n0 s0 : Nat} {out : Int × AH} {A : AH} {x1 : Int} {x2 : Int} (hl : l.stackTraces = false) (hd : 4 ≤ d) (hx1 : inR x1) (hx2 : inR x2) (h : fX9_rule N A x1 x2 = some out) : J g l d RX9 "rule" cX9_rule 4 (some .int) n0 s0 ((0, some (vI out.1), out.2) : JO) (inR out.1) 0 [(0, .ref (gB g + 349)), (1, vI x1), (2, vI x2)] [] A := by
  unfold fX9_rule at h
  refine j_iload_n (j := 1) dX9_rule_0 rfl rfl ?_
  refine j_iconst dX9_rule_1 ?_
  refine j_iconst dX9_rule_2 ?_
  obtain ⟨z2, e1, h⟩ := obind_elim h
  refine j_callS MX9_90 YX9_isBetween IX9_isBetween (by decide) (by omega) (Nat.le_of_ble_eq_true rfl) rfl (ctX9_isBetween (d := d - 1) hl (by omega) hx1 (inR_lit _ rfl) (inR_lit _ rfl) e1) dX9_rule_3 rfl (fun z3 _ => ?_)
  by_cases c5 : z2 = 0
  · rw [if_pos c5] at h
    refine j_if_eq_t (bool_inR z3) dX9_rule_6 (tgt := 26) (by decide) c5 ?_
    refine j_aload_n (j := 0) dX9_rule_26 rfl rfl ?_
    refine j_iconst dX9_rule_27 ?_
    obtain ⟨p7, e6, h⟩ := obind_elim h
    refine j_callV MX9_220 YX9_fails IX9_fails SX9_fails (by decide) rfl (by decide) (by omega) (Nat.le_of_ble_eq_true rfl) rfl (ctX9_fails (d := d - 1) hl (by omega) (inR_lit _ rfl) e6) dX9_rule_28 (VK_c 9 349 rfl).1 (VK_c 9 349 rfl).lt (VK_c 9 349 rfl).ka rfl (fun z8 xt9 => ?_)
    cases h
    exact j_iret dX9_rule_31 rfl rfl rfl z8
  · rw [if_neg c5] at h
    refine j_if_eq_f (bool_inR z3) dX9_rule_6 (tgt := 26) (by decide) c5 ?_
    refine j_iload_n (j := 2) dX9_rule_9 rfl rfl ?_
    refine j_gets SFX9_214 dX9_rule_10 ?_
    refine j_iload_n (j := 1) dX9_rule_13 rfl rfl ?_
    obtain ⟨c10, h⟩ := chk_elim h
    refine j_sald (by decide) hx1 dX9_rule_14 c10 (stA_eq 4 x1) ?_
    refine j_gets SFX9_217 dX9_rule_15 ?_
    refine j_iload_n (j := 1) dX9_rule_18 rfl rfl ?_
    obtain ⟨c12, h⟩ := chk_elim h
    refine j_sald (by decide) hx1 dX9_rule_19 c12 (stA_eq 5 x1) ?_
    obtain ⟨z15, e14, h⟩ := obind_elim h
    refine j_callS MX9_90 YX9_isBetween IX9_isBetween (by decide) (by omega) (Nat.le_of_ble_eq_true rfl) rfl (ctX9_isBetween (d := d - 1) hl (by omega) hx2 (stA_inR 4 x1) (stA_inR 5 x1) e14) dX9_rule_20 rfl (fun z16 _ => ?_)
    by_cases c18 : z15 = 0
    · rw [if_pos c18] at h
      refine j_if_ne_f (bool_inR z16) dX9_rule_23 (tgt := 32) (by decide) (fun q => q c18) ?_
      refine j_aload_n (j := 0) dX9_rule_26 rfl rfl ?_
      refine j_iconst dX9_rule_27 ?_
      obtain ⟨p30, e29, h⟩ := obind_elim h
      refine j_callV MX9_220 YX9_fails IX9_fails SX9_fails (by decide) rfl (by decide) (by omega) (Nat.le_of_ble_eq_true rfl) rfl (ctX9_fails (d := d - 1) hl (by omega) (inR_lit _ rfl) e29) dX9_rule_28 (VK_c 9 349 rfl).1 (VK_c 9 349 rfl).lt (VK_c 9 349 rfl).ka rfl (fun z31 xt32 => ?_)
      cases h
      exact j_iret dX9_rule_31 rfl rfl rfl z31
    · rw [if_neg c18] at h
      refine j_if_ne_t (bool_inR z16) dX9_rule_23 (tgt := 32) (by decide) c18 ?_
      refine j_aload_n (j := 0) dX9_rule_32 rfl rfl ?_
      refine j_iconst dX9_rule_33 ?_
      obtain ⟨A19, eA19, h⟩ := bnd_elim h
      have xA19 : XT A A19 := by rw [eA19]; exact XT_sI _ _ _ _
      refine j_putI FX9_87 rfl rfl rfl (inR_lit _ rfl) dX9_rule_34 (VK_c 9 349 rfl).1 (VK_c 9 349 rfl).lt (VK_c 9 349 rfl).ka ?_
      refine j_hB eA19 ?_
      refine j_aload_n (j := 0) dX9_rule_37 rfl rfl ?_
      obtain ⟨p21, e20, h⟩ := obind_elim h
      refine j_callV MX9_223 YX9_remembers IX9_remembers SX9_remembers (by decide) rfl (by decide) (by omega) (Nat.le_of_ble_eq_true rfl) rfl (ctX9_remembers (d := d - 1) hl (by omega)  e20) dX9_rule_38 (VK_c 9 349 rfl).1 (VK_c 9 349 rfl).lt (VK_c 9 349 rfl).ka rfl (fun z22 xt23 => ?_)
      refine j_aload_n (j := 0) dX9_rule_41 rfl rfl ?_
      refine j_getR (q := 350) FX9_7 rfl dX9_rule_42 (by decide) (by decide) rfl rfl (by decide) ?_
      refine j_iload_n (j := 1) dX9_rule_45 rfl rfl ?_
      obtain ⟨c24, h⟩ := chk_elim h
      refine j_iald hx1 (by decide) (by decide) rfl dX9_rule_46 (VK_c 20 350 rfl).1 (VK_c 20 350 rfl).lt (VK_c 20 350 rfl).ka c24 (fun r25 => ?_)
      obtain ⟨u26, eu26, h⟩ := bnd_elim h
      have hu26 : inR u26 := by rw [eu26]; exact r25
      refine j_nm eu26 ?_
      refine j_istore_n (lv' := [(3, vI u26), (0, .ref (gB g + 349)), (1, vI x1), (2, vI x2)]) dX9_rule_47 rfl (by decide) (by first | rfl | (simp only [List.all_cons, List.all_nil, rv_cat]; rfl)) rfl ?_
      refine j_aload_n (j := 1) dX9_rule_48 rfl rfl ?_
      refine j_getR (q := 350) FX9_7 rfl dX9_rule_49 (by decide) (by decide) rfl rfl (by decide) ?_
      refine j_iload_n (j := 2) dX9_rule_52 rfl rfl ?_
      refine j_iload_n (j := 3) dX9_rule_53 rfl rfl ?_
      obtain ⟨c27, h⟩ := chk_elim h
      obtain ⟨A28, eA28, h⟩ := bnd_elim h
      have xA28 : XT p21 A28 := by rw [eA28]; exact XT_sI _ _ _ _
      refine j_iast hx1 hx2 (by decide) (by decide) rfl dX9_rule_54 (VK_c 20 350 rfl).1 (VK_c 20 350 rfl).lt (VK_c 20 350 rfl).ka c27 ?_
      refine j_hB eA28 ?_
      refine j_iload_n (j := 0) dX9_rule_55 rfl rfl ?_
      cases h
      exact j_iret dX9_rule_56 rfl rfl rfl hu26
theorem ctX9_rule {g : JG} {l : Launch} {d N : Nat} {A : AH} {out : Int × AH} {x1 : Int} {x2 : Int} (hl : l.stackTraces = false) (hd : 4 ≤ d) (hx1 : inR x1) (hx2 : inR x2) (h : fX9_rule N A x1 x2 = some out) : CT g l yX9_rule cX9_rule 4 (some .int) d [.ref (gB g + 349), vI x1, vI x2] A ((0, some (vI out.1), out.2) : JO) (inR out.1) :=
  CT_of (by decide +kernel) hl (by first | exact Nat.le_of_ble_eq_true rfl | (unfold rv; split <;> exact Nat.le_of_ble_eq_true rfl)) (by first | rfl | (unfold rv; split <;> rfl)) (j_sub (lv := [(0, .ref (gB g + 349)), (1, vI x1), (2, vI x2)]) [0, 1, 2] rfl (tX9_rule_0 hl hd hx1 hx2 h))
set_option maxRecDepth 100000 in
theorem tX9_tide_0 {g : JG} {l : Launch} {d N n0 s0 : Nat} {out : Int × AH} {A : AH} {x1 : Int} {x2 : Int} (hl : l.stackTraces = false) (hd : 4 ≤ d) (hx1 : inR x1) (hx2 : inR x2) (h : fX9_tide N A x1 x2 = some out) : J g l d RX9 "tide" cX9_tide 4 (some .int) n0 s0 ((0, some (vI out.1), out.2) : JO) (inR out.1) 0 [(0, .ref (gB g + 349)), (1, vI x1), (2, vI x2)] [] A := by
  unfold fX9_tide at h
  refine j_iload_n (j := 1) dX9_tide_0 rfl rfl ?_
  refine j_iconst dX9_tide_1 ?_
  refine j_bipush dX9_tide_2 rfl ?_
  obtain ⟨z2, e1, h⟩ := obind_elim h
  refine j_callS MX9_90 YX9_isBetween IX9_isBetween (by decide) (by omega) (Nat.le_of_ble_eq_true rfl) rfl (ctX9_isBetween (d := d - 1) hl (by omega) hx1 (inR_lit _ rfl) (inR_lit _ rfl) e1) dX9_tide_4 rfl (fun z3 _ => ?_)
  by_cases c5 : z2 = 0
  · rw [if_pos c5] at h
    refine j_if_eq_t (bool_inR z3) dX9_tide_7 (tgt := 20) (by decide) c5 ?_
    refine j_aload_n (j := 0) dX9_tide_20 rfl rfl ?_
    refine j_iconst dX9_tide_21 ?_
    obtain ⟨p7, e6, h⟩ := obind_elim h
    refine j_callV MX9_220 YX9_fails IX9_fails SX9_fails (by decide) rfl (by decide) (by omega) (Nat.le_of_ble_eq_true rfl) rfl (ctX9_fails (d := d - 1) hl (by omega) (inR_lit _ rfl) e6) dX9_tide_22 (VK_c 9 349 rfl).1 (VK_c 9 349 rfl).lt (VK_c 9 349 rfl).ka rfl (fun z8 xt9 => ?_)
    cases h
    exact j_iret dX9_tide_25 rfl rfl rfl z8
  · rw [if_neg c5] at h
    refine j_if_eq_f (bool_inR z3) dX9_tide_7 (tgt := 20) (by decide) c5 ?_
    refine j_iload_n (j := 2) dX9_tide_10 rfl rfl ?_
    refine j_iconst dX9_tide_11 ?_
    refine j_bipush dX9_tide_12 rfl ?_
    obtain ⟨z11, e10, h⟩ := obind_elim h
    refine j_callS MX9_90 YX9_isBetween IX9_isBetween (by decide) (by omega) (Nat.le_of_ble_eq_true rfl) rfl (ctX9_isBetween (d := d - 1) hl (by omega) hx2 (inR_lit _ rfl) (inR_lit _ rfl) e10) dX9_tide_14 rfl (fun z12 _ => ?_)
    by_cases c14 : z11 = 0
    · rw [if_pos c14] at h
      refine j_if_ne_f (bool_inR z12) dX9_tide_17 (tgt := 26) (by decide) (fun q => q c14) ?_
      refine j_aload_n (j := 0) dX9_tide_20 rfl rfl ?_
      refine j_iconst dX9_tide_21 ?_
      obtain ⟨p26, e25, h⟩ := obind_elim h
      refine j_callV MX9_220 YX9_fails IX9_fails SX9_fails (by decide) rfl (by decide) (by omega) (Nat.le_of_ble_eq_true rfl) rfl (ctX9_fails (d := d - 1) hl (by omega) (inR_lit _ rfl) e25) dX9_tide_22 (VK_c 9 349 rfl).1 (VK_c 9 349 rfl).lt (VK_c 9 349 rfl).ka rfl (fun z27 xt28 => ?_)
      cases h
      exact j_iret dX9_tide_25 rfl rfl rfl z27
    · rw [if_neg c14] at h
      refine j_if_ne_t (bool_inR z12) dX9_tide_17 (tgt := 26) (by decide) c14 ?_
      refine j_aload_n (j := 0) dX9_tide_26 rfl rfl ?_
      refine j_iconst dX9_tide_27 ?_
      obtain ⟨A15, eA15, h⟩ := bnd_elim h
      have xA15 : XT A A15 := by rw [eA15]; exact XT_sI _ _ _ _
      refine j_putI FX9_87 rfl rfl rfl (inR_lit _ rfl) dX9_tide_28 (VK_c 9 349 rfl).1 (VK_c 9 349 rfl).lt (VK_c 9 349 rfl).ka ?_
      refine j_hB eA15 ?_
      refine j_aload_n (j := 0) dX9_tide_31 rfl rfl ?_
      obtain ⟨p17, e16, h⟩ := obind_elim h
      refine j_callV MX9_223 YX9_remembers IX9_remembers SX9_remembers (by decide) rfl (by decide) (by omega) (Nat.le_of_ble_eq_true rfl) rfl (ctX9_remembers (d := d - 1) hl (by omega)  e16) dX9_tide_32 (VK_c 9 349 rfl).1 (VK_c 9 349 rfl).lt (VK_c 9 349 rfl).ka rfl (fun z18 xt19 => ?_)
      refine j_aload_n (j := 0) dX9_tide_35 rfl rfl ?_
      refine j_getR (q := 351) FX9_13 rfl dX9_tide_36 (by decide) (by decide) rfl rfl (by decide) ?_
      refine j_iload_n (j := 1) dX9_tide_39 rfl rfl ?_
      obtain ⟨c20, h⟩ := chk_elim h
      refine j_iald hx1 (by decide) (by decide) rfl dX9_tide_40 (VK_c 21 351 rfl).1 (VK_c 21 351 rfl).lt (VK_c 21 351 rfl).ka c20 (fun r21 => ?_)
      obtain ⟨u22, eu22, h⟩ := bnd_elim h
      have hu22 : inR u22 := by rw [eu22]; exact r21
      refine j_nm eu22 ?_
      refine j_istore_n (lv' := [(3, vI u22), (0, .ref (gB g + 349)), (1, vI x1), (2, vI x2)]) dX9_tide_41 rfl (by decide) (by first | rfl | (simp only [List.all_cons, List.all_nil, rv_cat]; rfl)) rfl ?_
      refine j_aload_n (j := 1) dX9_tide_42 rfl rfl ?_
      refine j_getR (q := 351) FX9_13 rfl dX9_tide_43 (by decide) (by decide) rfl rfl (by decide) ?_
      refine j_iload_n (j := 2) dX9_tide_46 rfl rfl ?_
      refine j_iload_n (j := 3) dX9_tide_47 rfl rfl ?_
      obtain ⟨c23, h⟩ := chk_elim h
      obtain ⟨A24, eA24, h⟩ := bnd_elim h
      have xA24 : XT p17 A24 := by rw [eA24]; exact XT_sI _ _ _ _
      refine j_iast hx1 hx2 (by decide) (by decide) rfl dX9_tide_48 (VK_c 21 351 rfl).1 (VK_c 21 351 rfl).lt (VK_c 21 351 rfl).ka c23 ?_
      refine j_hB eA24 ?_
      refine j_iload_n (j := 0) dX9_tide_49 rfl rfl ?_
      cases h
      exact j_iret dX9_tide_50 rfl rfl rfl hu22
theorem ctX9_tide {g : JG} {l : Launch} {d N : Nat} {A : AH} {out : Int × AH} {x1 : Int} {x2 : Int} (hl : l.stackTraces = false) (hd : 4 ≤ d) (hx1 : inR x1) (hx2 : inR x2) (h : fX9_tide N A x1 x2 = some out) : CT g l yX9_tide cX9_tide 4 (some .int) d [.ref (gB g + 349), vI x1, vI x2] A ((0, some (vI out.1), out.2) : JO) (inR out.1) :=
  CT_of (by decide +kernel) hl (by first | exact Nat.le_of_ble_eq_true rfl | (unfold rv; split <;> exact Nat.le_of_ble_eq_true rfl)) (by first | rfl | (unfold rv; split <;> rfl)) (j_sub (lv := [(0, .ref (gB g + 349)), (1, vI x1), (2, vI x2)]) [0, 1, 2] rfl (tX9_tide_0 hl hd hx1 hx2 h))
set_option maxRecDepth 100000 in
theorem tX9_depth_0 {g : JG} {l : Launch} {d N n0 s0 : Nat} {out : Int × AH} {A : AH} {x1 : Int} (hl : l.stackTraces = false) (hd : 3 ≤ d) (hx1 : inR x1) (h : fX9_depth N A x1 = some out) : J g l d RX9 "depth" cX9_depth 2 (some .int) n0 s0 ((0, some (vI out.1), out.2) : JO) (inR out.1) 0 [(0, .ref (gB g + 349)), (1, vI x1)] [] A := by
  unfold fX9_depth at h
  refine j_iload_n (j := 1) dX9_depth_0 rfl rfl ?_
  obtain ⟨z2, e1, h⟩ := obind_elim h
  refine j_callS MX9_226 YX9_isHour IX9_isHour (by decide) (by omega) (Nat.le_of_ble_eq_true rfl) rfl (ctX9_isHour (d := d - 1) hl (by omega) hx1 e1) dX9_depth_1 rfl (fun z3 _ => ?_)
  by_cases c5 : z2 = 0
  · rw [if_pos c5] at h
    refine j_if_ne_f (bool_inR z3) dX9_depth_4 (tgt := 13) (by decide) (fun q => q c5) ?_
    refine j_aload_n (j := 0) dX9_depth_7 rfl rfl ?_
    refine j_iconst dX9_depth_8 ?_
    obtain ⟨p12, e11, h⟩ := obind_elim h
    refine j_callV MX9_220 YX9_fails IX9_fails SX9_fails (by decide) rfl (by decide) (by omega) (Nat.le_of_ble_eq_true rfl) rfl (ctX9_fails (d := d - 1) hl (by omega) (inR_lit _ rfl) e11) dX9_depth_9 (VK_c 9 349 rfl).1 (VK_c 9 349 rfl).lt (VK_c 9 349 rfl).ka rfl (fun z13 xt14 => ?_)
    cases h
    exact j_iret dX9_depth_12 rfl rfl rfl z13
  · rw [if_neg c5] at h
    refine j_if_ne_t (bool_inR z3) dX9_depth_4 (tgt := 13) (by decide) c5 ?_
    refine j_aload_n (j := 0) dX9_depth_13 rfl rfl ?_
    refine j_iconst dX9_depth_14 ?_
    obtain ⟨A6, eA6, h⟩ := bnd_elim h
    have xA6 : XT A A6 := by rw [eA6]; exact XT_sI _ _ _ _
    refine j_putI FX9_87 rfl rfl rfl (inR_lit _ rfl) dX9_depth_15 (VK_c 9 349 rfl).1 (VK_c 9 349 rfl).lt (VK_c 9 349 rfl).ka ?_
    refine j_hB eA6 ?_
    refine j_aload_n (j := 0) dX9_depth_18 rfl rfl ?_
    refine j_iload_n (j := 1) dX9_depth_19 rfl rfl ?_
    obtain ⟨z8, e7, h⟩ := obind_elim h
    refine j_callV MX9_111 YX9_depthAt IX9_depthAt SX9_depthAt (by decide) rfl (by decide) (by omega) (Nat.le_of_ble_eq_true rfl) rfl (ctX9_depthAt (d := d - 1) hl (by omega) hx1 e7) dX9_depth_20 (VK_c 9 349 rfl).1 (VK_c 9 349 rfl).lt (VK_c 9 349 rfl).ka rfl (fun z9 _ => ?_)
    cases h
    exact j_iret dX9_depth_23 rfl rfl rfl z9
theorem ctX9_depth {g : JG} {l : Launch} {d N : Nat} {A : AH} {out : Int × AH} {x1 : Int} (hl : l.stackTraces = false) (hd : 3 ≤ d) (hx1 : inR x1) (h : fX9_depth N A x1 = some out) : CT g l yX9_depth cX9_depth 2 (some .int) d [.ref (gB g + 349), vI x1] A ((0, some (vI out.1), out.2) : JO) (inR out.1) :=
  CT_of (by decide +kernel) hl (by first | exact Nat.le_of_ble_eq_true rfl | (unfold rv; split <;> exact Nat.le_of_ble_eq_true rfl)) (by first | rfl | (unfold rv; split <;> rfl)) (j_sub (lv := [(0, .ref (gB g + 349)), (1, vI x1)]) [0, 1] rfl (tX9_depth_0 hl hd hx1 h))
set_option maxRecDepth 100000 in
theorem tX9_addPilot_0 {g : JG} {l : Launch} {d N n0 s0 : Nat} {out : Int × AH} {A : AH} {x1 : Int} (hl : l.stackTraces = false) (hd : 4 ≤ d) (hx1 : inR x1) (h : fX9_addPilot N A x1 = some out) : J g l d RX9 "addPilot" cX9_addPilot 3 (some .int) n0 s0 ((0, some (vI out.1), out.2) : JO) (inR out.1) 0 [(0, .ref (gB g + 349)), (1, vI x1)] [] A := by
  unfold fX9_addPilot at h
  refine j_iload_n (j := 1) dX9_addPilot_0 rfl rfl ?_
  refine j_iconst dX9_addPilot_1 ?_
  refine j_iconst dX9_addPilot_2 ?_
  obtain ⟨z2, e1, h⟩ := obind_elim h
  refine j_callS MX9_90 YX9_isBetween IX9_isBetween (by decide) (by omega) (Nat.le_of_ble_eq_true rfl) rfl (ctX9_isBetween (d := d - 1) hl (by omega) hx1 (inR_lit _ rfl) (inR_lit _ rfl) e1) dX9_addPilot_3 rfl (fun z3 _ => ?_)
  by_cases c5 : z2 = 0
  · rw [if_pos c5] at h
    refine j_if_ne_f (bool_inR z3) dX9_addPilot_6 (tgt := 15) (by decide) (fun q => q c5) ?_
    refine j_aload_n (j := 0) dX9_addPilot_9 rfl rfl ?_
    refine j_iconst dX9_addPilot_10 ?_
    obtain ⟨p28, e27, h⟩ := obind_elim h
    refine j_callV MX9_220 YX9_fails IX9_fails SX9_fails (by decide) rfl (by decide) (by omega) (Nat.le_of_ble_eq_true rfl) rfl (ctX9_fails (d := d - 1) hl (by omega) (inR_lit _ rfl) e27) dX9_addPilot_11 (VK_c 9 349 rfl).1 (VK_c 9 349 rfl).lt (VK_c 9 349 rfl).ka rfl (fun z29 xt30 => ?_)
    cases h
    exact j_iret dX9_addPilot_14 rfl rfl rfl z29
  · rw [if_neg c5] at h
    refine j_if_ne_t (bool_inR z3) dX9_addPilot_6 (tgt := 15) (by decide) c5 ?_
    refine j_aload_n (j := 0) dX9_addPilot_15 rfl rfl ?_
    refine j_getI FX9_94 rfl dX9_addPilot_16 (VK_c 9 349 rfl).1 (VK_c 9 349 rfl).lt (VK_c 9 349 rfl).ka (fun r6 => ?_)
    refine j_bipush dX9_addPilot_19 rfl ?_
    by_cases c7 : (gI A 349 20) = 6
    · rw [if_pos c7] at h
      refine j_icmp_ne_f r6 (inR_lit _ rfl) dX9_addPilot_21 (tgt := 30) (by decide) (fun q => q c7) ?_
      refine j_aload_n (j := 0) dX9_addPilot_24 rfl rfl ?_
      refine j_iconst dX9_addPilot_25 ?_
      obtain ⟨p24, e23, h⟩ := obind_elim h
      refine j_callV MX9_220 YX9_fails IX9_fails SX9_fails (by decide) rfl (by decide) (by omega) (Nat.le_of_ble_eq_true rfl) rfl (ctX9_fails (d := d - 1) hl (by omega) (inR_lit _ rfl) e23) dX9_addPilot_26 (VK_c 9 349 rfl).1 (VK_c 9 349 rfl).lt (VK_c 9 349 rfl).ka rfl (fun z25 xt26 => ?_)
      cases h
      exact j_iret dX9_addPilot_29 rfl rfl rfl z25
    · rw [if_neg c7] at h
      refine j_icmp_ne_t r6 (inR_lit _ rfl) dX9_addPilot_21 (tgt := 30) (by decide) c7 ?_
      refine j_aload_n (j := 0) dX9_addPilot_30 rfl rfl ?_
      refine j_iconst dX9_addPilot_31 ?_
      obtain ⟨A8, eA8, h⟩ := bnd_elim h
      have xA8 : XT A A8 := by rw [eA8]; exact XT_sI _ _ _ _
      refine j_putI FX9_87 rfl rfl rfl (inR_lit _ rfl) dX9_addPilot_32 (VK_c 9 349 rfl).1 (VK_c 9 349 rfl).lt (VK_c 9 349 rfl).ka ?_
      refine j_hB eA8 ?_
      refine j_aload_n (j := 0) dX9_addPilot_35 rfl rfl ?_
      obtain ⟨p10, e9, h⟩ := obind_elim h
      refine j_callV MX9_223 YX9_remembers IX9_remembers SX9_remembers (by decide) rfl (by decide) (by omega) (Nat.le_of_ble_eq_true rfl) rfl (ctX9_remembers (d := d - 1) hl (by omega)  e9) dX9_addPilot_36 (VK_c 9 349 rfl).1 (VK_c 9 349 rfl).lt (VK_c 9 349 rfl).ka rfl (fun z11 xt12 => ?_)
      refine j_aload_n (j := 0) dX9_addPilot_39 rfl rfl ?_
      refine j_getI FX9_94 rfl dX9_addPilot_40 (VK_c 9 349 rfl).1 (VK_c 9 349 rfl).lt (VK_c 9 349 rfl).ka (fun r13 => ?_)
      obtain ⟨u14, eu14, h⟩ := bnd_elim h
      have hu14 : inR u14 := by rw [eu14]; exact r13
      refine j_nm eu14 ?_
      refine j_istore_n (lv' := [(2, vI u14), (0, .ref (gB g + 349)), (1, vI x1)]) dX9_addPilot_43 rfl (by decide) (by first | rfl | (simp only [List.all_cons, List.all_nil, rv_cat]; rfl)) rfl ?_
      refine j_aload_n (j := 1) dX9_addPilot_44 rfl rfl ?_
      refine j_getR (q := 361) FX9_43 rfl dX9_addPilot_45 (by decide) (by decide) rfl rfl (by decide) ?_
      refine j_iload_n (j := 0) dX9_addPilot_48 rfl rfl ?_
      refine j_iload_n (j := 2) dX9_addPilot_49 rfl rfl ?_
      obtain ⟨c15, h⟩ := chk_elim h
      obtain ⟨A16, eA16, h⟩ := bnd_elim h
      have xA16 : XT p10 A16 := by rw [eA16]; exact XT_sI _ _ _ _
      refine j_iast hu14 hx1 (by decide) (by decide) rfl dX9_addPilot_50 (VK_c 31 361 rfl).1 (VK_c 31 361 rfl).lt (VK_c 31 361 rfl).ka c15 ?_
      refine j_hB eA16 ?_
      refine j_aload_n (j := 1) dX9_addPilot_51 rfl rfl ?_
      refine j_getR (q := 362) FX9_46 rfl dX9_addPilot_52 (by decide) (by decide) rfl rfl (by decide) ?_
      refine j_iload_n (j := 0) dX9_addPilot_55 rfl rfl ?_
      refine j_iconst dX9_addPilot_56 ?_
      obtain ⟨c17, h⟩ := chk_elim h
      obtain ⟨A18, eA18, h⟩ := bnd_elim h
      have xA18 : XT A16 A18 := by rw [eA18]; exact XT_sI _ _ _ _
      refine j_iast hu14 (inR_lit _ rfl) (by decide) (by decide) rfl dX9_addPilot_57 (VK_c 32 362 rfl).1 (VK_c 32 362 rfl).lt (VK_c 32 362 rfl).ka c17 ?_
      refine j_hB eA18 ?_
      refine j_aload_n (j := 1) dX9_addPilot_58 rfl rfl ?_
      refine j_getR (q := 363) FX9_49 rfl dX9_addPilot_59 (by decide) (by decide) rfl rfl (by decide) ?_
      refine j_iload_n (j := 0) dX9_addPilot_62 rfl rfl ?_
      refine j_iconst dX9_addPilot_63 ?_
      obtain ⟨c19, h⟩ := chk_elim h
      obtain ⟨A20, eA20, h⟩ := bnd_elim h
      have xA20 : XT A18 A20 := by rw [eA20]; exact XT_sI _ _ _ _
      refine j_iast hu14 (inR_lit _ rfl) (by decide) (by decide) rfl dX9_addPilot_64 (VK_c 33 363 rfl).1 (VK_c 33 363 rfl).lt (VK_c 33 363 rfl).ka c19 ?_
      refine j_hB eA20 ?_
      refine j_aload_n (j := 1) dX9_addPilot_65 rfl rfl ?_
      refine j_dup dX9_addPilot_66 rfl ?_
      refine j_getI FX9_94 rfl dX9_addPilot_67 (VK_c 9 349 rfl).1 (VK_c 9 349 rfl).lt (VK_c 9 349 rfl).ka (fun r21 => ?_)
      refine j_iconst dX9_addPilot_70 ?_
      refine j_iadd dX9_addPilot_71 ?_
      obtain ⟨A22, eA22, h⟩ := bnd_elim h
      have xA22 : XT A20 A22 := by rw [eA22]; exact XT_sI _ _ _ _
      refine j_putI FX9_94 rfl rfl rfl (wrap_inR _) dX9_addPilot_72 (VK_c 9 349 rfl).1 (VK_c 9 349 rfl).lt (VK_c 9 349 rfl).ka ?_
      refine j_hB eA22 ?_
      refine j_iload_n (j := 0) dX9_addPilot_75 rfl rfl ?_
      cases h
      exact j_iret dX9_addPilot_76 rfl rfl rfl hu14
theorem ctX9_addPilot {g : JG} {l : Launch} {d N : Nat} {A : AH} {out : Int × AH} {x1 : Int} (hl : l.stackTraces = false) (hd : 4 ≤ d) (hx1 : inR x1) (h : fX9_addPilot N A x1 = some out) : CT g l yX9_addPilot cX9_addPilot 3 (some .int) d [.ref (gB g + 349), vI x1] A ((0, some (vI out.1), out.2) : JO) (inR out.1) :=
  CT_of (by decide +kernel) hl (by first | exact Nat.le_of_ble_eq_true rfl | (unfold rv; split <;> exact Nat.le_of_ble_eq_true rfl)) (by first | rfl | (unfold rv; split <;> rfl)) (j_sub (lv := [(0, .ref (gB g + 349)), (1, vI x1)]) [0, 1] rfl (tX9_addPilot_0 hl hd hx1 h))
set_option maxRecDepth 100000 in
theorem tX9_addBoat_0 {g : JG} {l : Launch} {d N n0 s0 : Nat} {out : Int × AH} {A : AH} {x1 : Int} (hl : l.stackTraces = false) (hd : 4 ≤ d) (hx1 : inR x1) (h : fX9_addBoat N A x1 = some out) : J g l d RX9 "addBoat" cX9_addBoat 3 (some .int) n0 s0 ((0, some (vI out.1), out.2) : JO) (inR out.1) 0 [(0, .ref (gB g + 349)), (1, vI x1)] [] A := by
  unfold fX9_addBoat at h
  refine j_iload_n (j := 1) dX9_addBoat_0 rfl rfl ?_
  refine j_iconst dX9_addBoat_1 ?_
  refine j_iconst dX9_addBoat_2 ?_
  obtain ⟨z2, e1, h⟩ := obind_elim h
  refine j_callS MX9_90 YX9_isBetween IX9_isBetween (by decide) (by omega) (Nat.le_of_ble_eq_true rfl) rfl (ctX9_isBetween (d := d - 1) hl (by omega) hx1 (inR_lit _ rfl) (inR_lit _ rfl) e1) dX9_addBoat_3 rfl (fun z3 _ => ?_)
  by_cases c5 : z2 = 0
  · rw [if_pos c5] at h
    refine j_if_ne_f (bool_inR z3) dX9_addBoat_6 (tgt := 15) (by decide) (fun q => q c5) ?_
    refine j_aload_n (j := 0) dX9_addBoat_9 rfl rfl ?_
    refine j_iconst dX9_addBoat_10 ?_
    obtain ⟨p28, e27, h⟩ := obind_elim h
    refine j_callV MX9_220 YX9_fails IX9_fails SX9_fails (by decide) rfl (by decide) (by omega) (Nat.le_of_ble_eq_true rfl) rfl (ctX9_fails (d := d - 1) hl (by omega) (inR_lit _ rfl) e27) dX9_addBoat_11 (VK_c 9 349 rfl).1 (VK_c 9 349 rfl).lt (VK_c 9 349 rfl).ka rfl (fun z29 xt30 => ?_)
    cases h
    exact j_iret dX9_addBoat_14 rfl rfl rfl z29
  · rw [if_neg c5] at h
    refine j_if_ne_t (bool_inR z3) dX9_addBoat_6 (tgt := 15) (by decide) c5 ?_
    refine j_aload_n (j := 0) dX9_addBoat_15 rfl rfl ?_
    refine j_getI FX9_97 rfl dX9_addBoat_16 (VK_c 9 349 rfl).1 (VK_c 9 349 rfl).lt (VK_c 9 349 rfl).ka (fun r6 => ?_)
    refine j_iconst dX9_addBoat_19 ?_
    by_cases c7 : (gI A 349 21) = 3
    · rw [if_pos c7] at h
      refine j_icmp_ne_f r6 (inR_lit _ rfl) dX9_addBoat_20 (tgt := 29) (by decide) (fun q => q c7) ?_
      refine j_aload_n (j := 0) dX9_addBoat_23 rfl rfl ?_
      refine j_iconst dX9_addBoat_24 ?_
      obtain ⟨p24, e23, h⟩ := obind_elim h
      refine j_callV MX9_220 YX9_fails IX9_fails SX9_fails (by decide) rfl (by decide) (by omega) (Nat.le_of_ble_eq_true rfl) rfl (ctX9_fails (d := d - 1) hl (by omega) (inR_lit _ rfl) e23) dX9_addBoat_25 (VK_c 9 349 rfl).1 (VK_c 9 349 rfl).lt (VK_c 9 349 rfl).ka rfl (fun z25 xt26 => ?_)
      cases h
      exact j_iret dX9_addBoat_28 rfl rfl rfl z25
    · rw [if_neg c7] at h
      refine j_icmp_ne_t r6 (inR_lit _ rfl) dX9_addBoat_20 (tgt := 29) (by decide) c7 ?_
      refine j_aload_n (j := 0) dX9_addBoat_29 rfl rfl ?_
      refine j_iconst dX9_addBoat_30 ?_
      obtain ⟨A8, eA8, h⟩ := bnd_elim h
      have xA8 : XT A A8 := by rw [eA8]; exact XT_sI _ _ _ _
      refine j_putI FX9_87 rfl rfl rfl (inR_lit _ rfl) dX9_addBoat_31 (VK_c 9 349 rfl).1 (VK_c 9 349 rfl).lt (VK_c 9 349 rfl).ka ?_
      refine j_hB eA8 ?_
      refine j_aload_n (j := 0) dX9_addBoat_34 rfl rfl ?_
      obtain ⟨p10, e9, h⟩ := obind_elim h
      refine j_callV MX9_223 YX9_remembers IX9_remembers SX9_remembers (by decide) rfl (by decide) (by omega) (Nat.le_of_ble_eq_true rfl) rfl (ctX9_remembers (d := d - 1) hl (by omega)  e9) dX9_addBoat_35 (VK_c 9 349 rfl).1 (VK_c 9 349 rfl).lt (VK_c 9 349 rfl).ka rfl (fun z11 xt12 => ?_)
      refine j_aload_n (j := 0) dX9_addBoat_38 rfl rfl ?_
      refine j_getI FX9_97 rfl dX9_addBoat_39 (VK_c 9 349 rfl).1 (VK_c 9 349 rfl).lt (VK_c 9 349 rfl).ka (fun r13 => ?_)
      obtain ⟨u14, eu14, h⟩ := bnd_elim h
      have hu14 : inR u14 := by rw [eu14]; exact r13
      refine j_nm eu14 ?_
      refine j_istore_n (lv' := [(2, vI u14), (0, .ref (gB g + 349)), (1, vI x1)]) dX9_addBoat_42 rfl (by decide) (by first | rfl | (simp only [List.all_cons, List.all_nil, rv_cat]; rfl)) rfl ?_
      refine j_aload_n (j := 1) dX9_addBoat_43 rfl rfl ?_
      refine j_getR (q := 364) FX9_52 rfl dX9_addBoat_44 (by decide) (by decide) rfl rfl (by decide) ?_
      refine j_iload_n (j := 0) dX9_addBoat_47 rfl rfl ?_
      refine j_iload_n (j := 2) dX9_addBoat_48 rfl rfl ?_
      obtain ⟨c15, h⟩ := chk_elim h
      obtain ⟨A16, eA16, h⟩ := bnd_elim h
      have xA16 : XT p10 A16 := by rw [eA16]; exact XT_sI _ _ _ _
      refine j_iast hu14 hx1 (by decide) (by decide) rfl dX9_addBoat_49 (VK_c 34 364 rfl).1 (VK_c 34 364 rfl).lt (VK_c 34 364 rfl).ka c15 ?_
      refine j_hB eA16 ?_
      refine j_aload_n (j := 1) dX9_addBoat_50 rfl rfl ?_
      refine j_getR (q := 365) FX9_55 rfl dX9_addBoat_51 (by decide) (by decide) rfl rfl (by decide) ?_
      refine j_iload_n (j := 0) dX9_addBoat_54 rfl rfl ?_
      refine j_iconst dX9_addBoat_55 ?_
      obtain ⟨c17, h⟩ := chk_elim h
      obtain ⟨A18, eA18, h⟩ := bnd_elim h
      have xA18 : XT A16 A18 := by rw [eA18]; exact XT_sI _ _ _ _
      refine j_iast hu14 (inR_lit _ rfl) (by decide) (by decide) rfl dX9_addBoat_56 (VK_c 35 365 rfl).1 (VK_c 35 365 rfl).lt (VK_c 35 365 rfl).ka c17 ?_
      refine j_hB eA18 ?_
      refine j_aload_n (j := 1) dX9_addBoat_57 rfl rfl ?_
      refine j_getR (q := 366) FX9_58 rfl dX9_addBoat_58 (by decide) (by decide) rfl rfl (by decide) ?_
      refine j_iload_n (j := 0) dX9_addBoat_61 rfl rfl ?_
      refine j_iconst dX9_addBoat_62 ?_
      obtain ⟨c19, h⟩ := chk_elim h
      obtain ⟨A20, eA20, h⟩ := bnd_elim h
      have xA20 : XT A18 A20 := by rw [eA20]; exact XT_sI _ _ _ _
      refine j_iast hu14 (inR_lit _ rfl) (by decide) (by decide) rfl dX9_addBoat_63 (VK_c 36 366 rfl).1 (VK_c 36 366 rfl).lt (VK_c 36 366 rfl).ka c19 ?_
      refine j_hB eA20 ?_
      refine j_aload_n (j := 1) dX9_addBoat_64 rfl rfl ?_
      refine j_dup dX9_addBoat_65 rfl ?_
      refine j_getI FX9_97 rfl dX9_addBoat_66 (VK_c 9 349 rfl).1 (VK_c 9 349 rfl).lt (VK_c 9 349 rfl).ka (fun r21 => ?_)
      refine j_iconst dX9_addBoat_69 ?_
      refine j_iadd dX9_addBoat_70 ?_
      obtain ⟨A22, eA22, h⟩ := bnd_elim h
      have xA22 : XT A20 A22 := by rw [eA22]; exact XT_sI _ _ _ _
      refine j_putI FX9_97 rfl rfl rfl (wrap_inR _) dX9_addBoat_71 (VK_c 9 349 rfl).1 (VK_c 9 349 rfl).lt (VK_c 9 349 rfl).ka ?_
      refine j_hB eA22 ?_
      refine j_iload_n (j := 0) dX9_addBoat_74 rfl rfl ?_
      cases h
      exact j_iret dX9_addBoat_75 rfl rfl rfl hu14
theorem ctX9_addBoat {g : JG} {l : Launch} {d N : Nat} {A : AH} {out : Int × AH} {x1 : Int} (hl : l.stackTraces = false) (hd : 4 ≤ d) (hx1 : inR x1) (h : fX9_addBoat N A x1 = some out) : CT g l yX9_addBoat cX9_addBoat 3 (some .int) d [.ref (gB g + 349), vI x1] A ((0, some (vI out.1), out.2) : JO) (inR out.1) :=
  CT_of (by decide +kernel) hl (by first | exact Nat.le_of_ble_eq_true rfl | (unfold rv; split <;> exact Nat.le_of_ble_eq_true rfl)) (by first | rfl | (unfold rv; split <;> rfl)) (j_sub (lv := [(0, .ref (gB g + 349)), (1, vI x1)]) [0, 1] rfl (tX9_addBoat_0 hl hd hx1 h))
set_option maxRecDepth 100000 in
theorem tX9_order_102 {g : JG} {l : Launch} {d N n0 s0 : Nat} {out : Int × AH} {A : AH} {x3 : Int} {x4 : Int} {x5 : Int} {x6 : Int} {xs1 : Int} {xs2 : Int} (hl : l.stackTraces = false) (hd : 4 ≤ d) (hx3 : inR x3) (hx4 : inR x4) (hx5 : inR x5) (hx6 : inR x6) (hxs1 : inR xs1) (hxs2 : inR xs2) (h : fX9_order_102 N A x3 x4 x5 x6 xs1 xs2 = some out) : J g l d RX9 "order" cX9_order 7 (some .int) n0 s0 ((0, some (vI out.1), out.2) : JO) (inR out.1) 102 [(0, .ref (gB g + 349)), (3, vI x3), (4, vI x4), (5, vI x5), (6, vI x6)] [vI xs2, vI xs1, .ref (gB g + 353)] A := by
  unfold fX9_order_102 at h
  obtain ⟨c1, h⟩ := chk_elim h
  obtain ⟨A2, eA2, h⟩ := bnd_elim h
  have xA2 : XT A A2 := by rw [eA2]; exact XT_sI _ _ _ _
  refine j_iast hxs1 hxs2 (by decide) (by decide) rfl dX9_order_102 (VK_c 23 353 rfl).1 (VK_c 23 353 rfl).lt (VK_c 23 353 rfl).ka c1 ?_
  refine j_hB eA2 ?_
  refine j_aload_n (j := 0) dX9_order_103 rfl rfl ?_
  refine j_getR (q := 354) FX9_22 rfl dX9_order_104 (by decide) (by decide) rfl rfl (by decide) ?_
  refine j_iload (j := 4) dX9_order_107 rfl ?_
  refine j_iload_n (j := 1) dX9_order_109 rfl rfl ?_
  obtain ⟨c3, h⟩ := chk_elim h
  obtain ⟨A4, eA4, h⟩ := bnd_elim h
  have xA4 : XT A2 A4 := by rw [eA4]; exact XT_sI _ _ _ _
  refine j_iast hx6 hx3 (by decide) (by decide) rfl dX9_order_110 (VK_c 24 354 rfl).1 (VK_c 24 354 rfl).lt (VK_c 24 354 rfl).ka c3 ?_
  refine j_hB eA4 ?_
  refine j_aload_n (j := 0) dX9_order_111 rfl rfl ?_
  refine j_getR (q := 355) FX9_25 rfl dX9_order_112 (by decide) (by decide) rfl rfl (by decide) ?_
  refine j_iload (j := 4) dX9_order_115 rfl ?_
  refine j_iload (j := 2) dX9_order_117 rfl ?_
  obtain ⟨c5, h⟩ := chk_elim h
  obtain ⟨A6, eA6, h⟩ := bnd_elim h
  have xA6 : XT A4 A6 := by rw [eA6]; exact XT_sI _ _ _ _
  refine j_iast hx6 hx4 (by decide) (by decide) rfl dX9_order_119 (VK_c 25 355 rfl).1 (VK_c 25 355 rfl).lt (VK_c 25 355 rfl).ka c5 ?_
  refine j_hB eA6 ?_
  refine j_aload_n (j := 0) dX9_order_120 rfl rfl ?_
  refine j_getR (q := 356) FX9_28 rfl dX9_order_121 (by decide) (by decide) rfl rfl (by decide) ?_
  refine j_iload (j := 4) dX9_order_124 rfl ?_
  refine j_iload (j := 3) dX9_order_126 rfl ?_
  obtain ⟨c7, h⟩ := chk_elim h
  obtain ⟨A8, eA8, h⟩ := bnd_elim h
  have xA8 : XT A6 A8 := by rw [eA8]; exact XT_sI _ _ _ _
  refine j_iast hx6 hx5 (by decide) (by decide) rfl dX9_order_128 (VK_c 26 356 rfl).1 (VK_c 26 356 rfl).lt (VK_c 26 356 rfl).ka c7 ?_
  refine j_hB eA8 ?_
  refine j_aload_n (j := 0) dX9_order_129 rfl rfl ?_
  refine j_getR (q := 357) FX9_31 rfl dX9_order_130 (by decide) (by decide) rfl rfl (by decide) ?_
  refine j_iload (j := 4) dX9_order_133 rfl ?_
  refine j_iconst dX9_order_135 ?_
  obtain ⟨c9, h⟩ := chk_elim h
  obtain ⟨A10, eA10, h⟩ := bnd_elim h
  have xA10 : XT A8 A10 := by rw [eA10]; exact XT_sI _ _ _ _
  refine j_iast hx6 (inR_lit _ rfl) (by decide) (by decide) rfl dX9_order_136 (VK_c 27 357 rfl).1 (VK_c 27 357 rfl).lt (VK_c 27 357 rfl).ka c9 ?_
  refine j_hB eA10 ?_
  refine j_aload_n (j := 0) dX9_order_137 rfl rfl ?_
  refine j_getR (q := 360) FX9_40 rfl dX9_order_138 (by decide) (by decide) rfl rfl (by decide) ?_
  refine j_iload (j := 4) dX9_order_141 rfl ?_
  refine j_iconst dX9_order_143 ?_
  obtain ⟨c11, h⟩ := chk_elim h
  obtain ⟨A12, eA12, h⟩ := bnd_elim h
  have xA12 : XT A10 A12 := by rw [eA12]; exact XT_sI _ _ _ _
  refine j_iast hx6 (inR_lit _ rfl) (by decide) (by decide) rfl dX9_order_144 (VK_c 30 360 rfl).1 (VK_c 30 360 rfl).lt (VK_c 30 360 rfl).ka c11 ?_
  refine j_hB eA12 ?_
  refine j_aload_n (j := 0) dX9_order_145 rfl rfl ?_
  refine j_dup dX9_order_146 rfl ?_
  refine j_getI FX9_100 rfl dX9_order_147 (VK_c 9 349 rfl).1 (VK_c 9 349 rfl).lt (VK_c 9 349 rfl).ka (fun r13 => ?_)
  refine j_iconst dX9_order_150 ?_
  refine j_iadd dX9_order_151 ?_
  obtain ⟨A14, eA14, h⟩ := bnd_elim h
  have xA14 : XT A12 A14 := by rw [eA14]; exact XT_sI _ _ _ _
  refine j_putI FX9_100 rfl rfl rfl (wrap_inR _) dX9_order_152 (VK_c 9 349 rfl).1 (VK_c 9 349 rfl).lt (VK_c 9 349 rfl).ka ?_
  refine j_hB eA14 ?_
  refine j_iload (j := 4) dX9_order_155 rfl ?_
  cases h
  exact j_iret dX9_order_157 rfl rfl rfl hx6
set_option maxRecDepth 100000 in
theorem tX9_order_0 {g : JG} {l : Launch} {d N n0 s0 : Nat} {out : Int × AH} {A : AH} {x1 : Int} {x2 : Int} {x3 : Int} {x4 : Int} {x5 : Int} (hl : l.stackTraces = false) (hd : 4 ≤ d) (hx1 : inR x1) (hx2 : x2 = 0 ∨ x2 = 1) (hx3 : inR x3) (hx4 : inR x4) (hx5 : inR x5) (h : fX9_order N A x1 x2 x3 x4 x5 = some out) : J g l d RX9 "order" cX9_order 7 (some .int) n0 s0 ((0, some (vI out.1), out.2) : JO) (inR out.1) 0 [(0, .ref (gB g + 349)), (1, vI x1), (2, vI x2), (3, vI x3), (4, vI x4), (5, vI x5)] [] A := by
  unfold fX9_order at h
  refine j_iload_n (j := 1) dX9_order_0 rfl rfl ?_
  refine j_iconst dX9_order_1 ?_
  refine j_iconst dX9_order_2 ?_
  obtain ⟨z2, e1, h⟩ := obind_elim h
  refine j_callS MX9_90 YX9_isBetween IX9_isBetween (by decide) (by omega) (Nat.le_of_ble_eq_true rfl) rfl (ctX9_isBetween (d := d - 1) hl (by omega) hx1 (inR_lit _ rfl) (inR_lit _ rfl) e1) dX9_order_3 rfl (fun z3 _ => ?_)
  by_cases c5 : z2 = 0
  · rw [if_pos c5] at h
    refine j_if_eq_t (bool_inR z3) dX9_order_6 (tgt := 43) (by decide) c5 ?_
    refine j_aload_n (j := 0) dX9_order_43 rfl rfl ?_
    refine j_iconst dX9_order_44 ?_
    obtain ⟨p7, e6, h⟩ := obind_elim h
    refine j_callV MX9_220 YX9_fails IX9_fails SX9_fails (by decide) rfl (by decide) (by omega) (Nat.le_of_ble_eq_true rfl) rfl (ctX9_fails (d := d - 1) hl (by omega) (inR_lit _ rfl) e6) dX9_order_45 (VK_c 9 349 rfl).1 (VK_c 9 349 rfl).lt (VK_c 9 349 rfl).ka rfl (fun z8 xt9 => ?_)
    cases h
    exact j_iret dX9_order_48 rfl rfl rfl z8
  · rw [if_neg c5] at h
    refine j_if_eq_f (bool_inR z3) dX9_order_6 (tgt := 43) (by decide) c5 ?_
    refine j_iload_n (j := 3) dX9_order_9 rfl rfl ?_
    refine j_iconst dX9_order_10 ?_
    refine j_bipush dX9_order_11 rfl ?_
    obtain ⟨z11, e10, h⟩ := obind_elim h
    refine j_callS MX9_90 YX9_isBetween IX9_isBetween (by decide) (by omega) (Nat.le_of_ble_eq_true rfl) rfl (ctX9_isBetween (d := d - 1) hl (by omega) hx3 (inR_lit _ rfl) (inR_lit _ rfl) e10) dX9_order_13 rfl (fun z12 _ => ?_)
    by_cases c14 : z11 = 0
    · rw [if_pos c14] at h
      refine j_if_eq_t (bool_inR z12) dX9_order_16 (tgt := 43) (by decide) c14 ?_
      refine j_aload_n (j := 0) dX9_order_43 rfl rfl ?_
      refine j_iconst dX9_order_44 ?_
      obtain ⟨p16, e15, h⟩ := obind_elim h
      refine j_callV MX9_220 YX9_fails IX9_fails SX9_fails (by decide) rfl (by decide) (by omega) (Nat.le_of_ble_eq_true rfl) rfl (ctX9_fails (d := d - 1) hl (by omega) (inR_lit _ rfl) e15) dX9_order_45 (VK_c 9 349 rfl).1 (VK_c 9 349 rfl).lt (VK_c 9 349 rfl).ka rfl (fun z17 xt18 => ?_)
      cases h
      exact j_iret dX9_order_48 rfl rfl rfl z17
    · rw [if_neg c14] at h
      refine j_if_eq_f (bool_inR z12) dX9_order_16 (tgt := 43) (by decide) c14 ?_
      refine j_iload (j := 4) dX9_order_19 rfl ?_
      refine j_aload_n (j := 0) dX9_order_21 rfl rfl ?_
      refine j_getI FX9_155 rfl dX9_order_22 (VK_c 9 349 rfl).1 (VK_c 9 349 rfl).lt (VK_c 9 349 rfl).ka (fun r19 => ?_)
      by_cases c20 : x4 < (gI A 349 19)
      · rw [if_pos c20] at h
        refine j_icmp_lt_t hx4 r19 dX9_order_25 (tgt := 43) (by decide) c20 ?_
        refine j_aload_n (j := 0) dX9_order_43 rfl rfl ?_
        refine j_iconst dX9_order_44 ?_
        obtain ⟨p22, e21, h⟩ := obind_elim h
        refine j_callV MX9_220 YX9_fails IX9_fails SX9_fails (by decide) rfl (by decide) (by omega) (Nat.le_of_ble_eq_true rfl) rfl (ctX9_fails (d := d - 1) hl (by omega) (inR_lit _ rfl) e21) dX9_order_45 (VK_c 9 349 rfl).1 (VK_c 9 349 rfl).lt (VK_c 9 349 rfl).ka rfl (fun z23 xt24 => ?_)
        cases h
        exact j_iret dX9_order_48 rfl rfl rfl z23
      · rw [if_neg c20] at h
        refine j_icmp_lt_f hx4 r19 dX9_order_25 (tgt := 43) (by decide) c20 ?_
        refine j_iload (j := 5) dX9_order_28 rfl ?_
        refine j_iload (j := 4) dX9_order_30 rfl ?_
        by_cases c25 : x5 < x4
        · rw [if_pos c25] at h
          refine j_icmp_lt_t hx5 hx4 dX9_order_32 (tgt := 43) (by decide) c25 ?_
          refine j_aload_n (j := 0) dX9_order_43 rfl rfl ?_
          refine j_iconst dX9_order_44 ?_
          obtain ⟨p27, e26, h⟩ := obind_elim h
          refine j_callV MX9_220 YX9_fails IX9_fails SX9_fails (by decide) rfl (by decide) (by omega) (Nat.le_of_ble_eq_true rfl) rfl (ctX9_fails (d := d - 1) hl (by omega) (inR_lit _ rfl) e26) dX9_order_45 (VK_c 9 349 rfl).1 (VK_c 9 349 rfl).lt (VK_c 9 349 rfl).ka rfl (fun z28 xt29 => ?_)
          cases h
          exact j_iret dX9_order_48 rfl rfl rfl z28
        · rw [if_neg c25] at h
          refine j_icmp_lt_f hx5 hx4 dX9_order_32 (tgt := 43) (by decide) c25 ?_
          refine j_iload (j := 5) dX9_order_35 rfl ?_
          refine j_sipush dX9_order_37 rfl ?_
          by_cases c30 : x5 ≤ 900
          · rw [if_pos c30] at h
            refine j_icmp_le_t hx5 (inR_lit _ rfl) dX9_order_40 (tgt := 49) (by decide) c30 ?_
            refine j_aload_n (j := 0) dX9_order_49 rfl rfl ?_
            refine j_getI FX9_100 rfl dX9_order_50 (VK_c 9 349 rfl).1 (VK_c 9 349 rfl).lt (VK_c 9 349 rfl).ka (fun r31 => ?_)
            refine j_bipush dX9_order_53 rfl ?_
            by_cases c32 : (gI A 349 22) = 16
            · rw [if_pos c32] at h
              refine j_icmp_ne_f r31 (inR_lit _ rfl) dX9_order_55 (tgt := 64) (by decide) (fun q => q c32) ?_
              refine j_aload_n (j := 0) dX9_order_58 rfl rfl ?_
              refine j_iconst dX9_order_59 ?_
              obtain ⟨p44, e43, h⟩ := obind_elim h
              refine j_callV MX9_220 YX9_fails IX9_fails SX9_fails (by decide) rfl (by decide) (by omega) (Nat.le_of_ble_eq_true rfl) rfl (ctX9_fails (d := d - 1) hl (by omega) (inR_lit _ rfl) e43) dX9_order_60 (VK_c 9 349 rfl).1 (VK_c 9 349 rfl).lt (VK_c 9 349 rfl).ka rfl (fun z45 xt46 => ?_)
              cases h
              exact j_iret dX9_order_63 rfl rfl rfl z45
            · rw [if_neg c32] at h
              refine j_icmp_ne_t r31 (inR_lit _ rfl) dX9_order_55 (tgt := 64) (by decide) c32 ?_
              refine j_aload_n (j := 0) dX9_order_64 rfl rfl ?_
              refine j_iconst dX9_order_65 ?_
              obtain ⟨A33, eA33, h⟩ := bnd_elim h
              have xA33 : XT A A33 := by rw [eA33]; exact XT_sI _ _ _ _
              refine j_putI FX9_87 rfl rfl rfl (inR_lit _ rfl) dX9_order_66 (VK_c 9 349 rfl).1 (VK_c 9 349 rfl).lt (VK_c 9 349 rfl).ka ?_
              refine j_hB eA33 ?_
              refine j_aload_n (j := 0) dX9_order_69 rfl rfl ?_
              obtain ⟨p35, e34, h⟩ := obind_elim h
              refine j_callV MX9_223 YX9_remembers IX9_remembers SX9_remembers (by decide) rfl (by decide) (by omega) (Nat.le_of_ble_eq_true rfl) rfl (ctX9_remembers (d := d - 1) hl (by omega)  e34) dX9_order_70 (VK_c 9 349 rfl).1 (VK_c 9 349 rfl).lt (VK_c 9 349 rfl).ka rfl (fun z36 xt37 => ?_)
              refine j_aload_n (j := 0) dX9_order_73 rfl rfl ?_
              refine j_getI FX9_100 rfl dX9_order_74 (VK_c 9 349 rfl).1 (VK_c 9 349 rfl).lt (VK_c 9 349 rfl).ka (fun r38 => ?_)
              obtain ⟨u39, eu39, h⟩ := bnd_elim h
              have hu39 : inR u39 := by rw [eu39]; exact r38
              refine j_nm eu39 ?_
              refine j_istore (lv' := [(6, vI u39), (0, .ref (gB g + 349)), (1, vI x1), (2, vI x2), (3, vI x3), (4, vI x4), (5, vI x5)]) dX9_order_77 (by decide) (by first | rfl | (simp only [List.all_cons, List.all_nil, rv_cat]; rfl)) rfl ?_
              refine j_aload_n (j := 1) dX9_order_79 rfl rfl ?_
              refine j_getR (q := 352) FX9_16 rfl dX9_order_80 (by decide) (by decide) rfl rfl (by decide) ?_
              refine j_iload (j := 0) dX9_order_83 rfl ?_
              refine j_iload_n (j := 2) dX9_order_85 rfl rfl ?_
              obtain ⟨c40, h⟩ := chk_elim h
              obtain ⟨A41, eA41, h⟩ := bnd_elim h
              have xA41 : XT p35 A41 := by rw [eA41]; exact XT_sI _ _ _ _
              refine j_iast hu39 hx1 (by decide) (by decide) rfl dX9_order_86 (VK_c 22 352 rfl).1 (VK_c 22 352 rfl).lt (VK_c 22 352 rfl).ka c40 ?_
              refine j_hB eA41 ?_
              refine j_aload_n (j := 1) dX9_order_87 rfl rfl ?_
              refine j_getR (q := 353) FX9_19 rfl dX9_order_88 (by decide) (by decide) rfl rfl (by decide) ?_
              refine j_iload (j := 0) dX9_order_91 rfl ?_
              refine j_iload_n (j := 3) dX9_order_93 rfl rfl ?_
              by_cases c42 : x2 = 0
              · rw [if_pos c42] at h
                refine j_if_eq_t (bool_inR hx2) dX9_order_94 (tgt := 101) (by decide) c42 ?_
                refine j_iconst dX9_order_101 ?_
                exact j_sub [1, 4, 5, 6, 0] rfl (tX9_order_102 hl (by omega) hx3 hx4 hx5 hu39 hu39 (inR_lit _ rfl)  h)
              · rw [if_neg c42] at h
                refine j_if_eq_f (bool_inR hx2) dX9_order_94 (tgt := 101) (by decide) c42 ?_
                refine j_iconst dX9_order_97 ?_
                refine j_goto (tgt := 102) dX9_order_98 (by decide) ?_
                exact j_sub [1, 4, 5, 6, 0] rfl (tX9_order_102 hl (by omega) hx3 hx4 hx5 hu39 hu39 (inR_lit _ rfl)  h)
          · rw [if_neg c30] at h
            refine j_icmp_le_f hx5 (inR_lit _ rfl) dX9_order_40 (tgt := 49) (by decide) c30 ?_
            refine j_aload_n (j := 0) dX9_order_43 rfl rfl ?_
            refine j_iconst dX9_order_44 ?_
            obtain ⟨p48, e47, h⟩ := obind_elim h
            refine j_callV MX9_220 YX9_fails IX9_fails SX9_fails (by decide) rfl (by decide) (by omega) (Nat.le_of_ble_eq_true rfl) rfl (ctX9_fails (d := d - 1) hl (by omega) (inR_lit _ rfl) e47) dX9_order_45 (VK_c 9 349 rfl).1 (VK_c 9 349 rfl).lt (VK_c 9 349 rfl).ka rfl (fun z49 xt50 => ?_)
            cases h
            exact j_iret dX9_order_48 rfl rfl rfl z49
theorem ctX9_order {g : JG} {l : Launch} {d N : Nat} {A : AH} {out : Int × AH} {x1 : Int} {x2 : Int} {x3 : Int} {x4 : Int} {x5 : Int} (hl : l.stackTraces = false) (hd : 4 ≤ d) (hx1 : inR x1) (hx2 : x2 = 0 ∨ x2 = 1) (hx3 : inR x3) (hx4 : inR x4) (hx5 : inR x5) (h : fX9_order N A x1 x2 x3 x4 x5 = some out) : CT g l yX9_order cX9_order 7 (some .int) d [.ref (gB g + 349), vI x1, vI x2, vI x3, vI x4, vI x5] A ((0, some (vI out.1), out.2) : JO) (inR out.1) :=
  CT_of (by decide +kernel) hl (by first | exact Nat.le_of_ble_eq_true rfl | (unfold rv; split <;> exact Nat.le_of_ble_eq_true rfl)) (by first | rfl | (unfold rv; split <;> rfl)) (j_sub (lv := [(0, .ref (gB g + 349)), (1, vI x1), (2, vI x2), (3, vI x3), (4, vI x4), (5, vI x5)]) [0, 1, 2, 3, 4, 5] rfl (tX9_order_0 hl hd hx1 hx2 hx3 hx4 hx5 h))
set_option maxRecDepth 100000 in
theorem tX9_windowHours_9 {g : JG} {l : Launch} {d N n0 s0 : Nat} {out : Int} {A : AH} {x1 : Int} (hl : l.stackTraces = false) (hd : 3 ≤ d) (hx1 : inR x1) : ∀ (n : Nat) (x2 : Int) (x3 : Int), inR x2 → inR x3 → fX9_windowHours_9 N A x1 n x2 x3 = some out → J g l d RX9 "windowHours" cX9_windowHours 4 (some .int) n0 s0 ((0, some (vI out), A) : JO) (inR out) 9 [(0, .ref (gB g + 349)), (1, vI x1), (2, vI x2), (3, vI x3)] [] A := by
  intro n
  induction n with
  | zero =>
    intro x2 x3 hx2 hx3 h
    rw [fX9_windowHours_9] at h
    cases h
  | succ n ih =>
    intro x2 x3 hx2 hx3 h
    rw [fX9_windowHours_9] at h
    refine j_iload_n (j := 3) dX9_windowHours_9 rfl rfl ?_
    refine j_aload_n (j := 0) dX9_windowHours_10 rfl rfl ?_
    refine j_getR (q := 356) FX9_28 rfl dX9_windowHours_11 (by decide) (by decide) rfl rfl (by decide) ?_
    refine j_iload_n (j := 1) dX9_windowHours_14 rfl rfl ?_
    obtain ⟨c1, h⟩ := chk_elim h
    refine j_iald hx1 (by decide) (by decide) rfl dX9_windowHours_15 (VK_c 26 356 rfl).1 (VK_c 26 356 rfl).lt (VK_c 26 356 rfl).ka c1 (fun r2 => ?_)
    by_cases c3 : (gI A 356 x1.toNat) < x3
    · rw [if_pos c3] at h
      refine j_icmp_gt_t hx3 r2 dX9_windowHours_16 (tgt := 42) (by decide) c3 ?_
      refine j_iload_n (j := 2) dX9_windowHours_42 rfl rfl ?_
      cases h
      exact j_iret dX9_windowHours_43 rfl rfl rfl hx2
    · rw [if_neg c3] at h
      refine j_icmp_gt_f hx3 r2 dX9_windowHours_16 (tgt := 42) (by decide) c3 ?_
      refine j_iload_n (j := 2) dX9_windowHours_19 rfl rfl ?_
      refine j_aload_n (j := 0) dX9_windowHours_20 rfl rfl ?_
      refine j_iload_n (j := 1) dX9_windowHours_21 rfl rfl ?_
      refine j_iload_n (j := 3) dX9_windowHours_22 rfl rfl ?_
      obtain ⟨z5, e4, h⟩ := obind_elim h
      refine j_callV MX9_114 YX9_isDeep IX9_isDeep SX9_isDeep (by decide) rfl (by decide) (by omega) (Nat.le_of_ble_eq_true rfl) rfl (ctX9_isDeep (d := d - 1) hl (by omega) hx1 hx3 e4) dX9_windowHours_23 (VK_c 9 349 rfl).1 (VK_c 9 349 rfl).lt (VK_c 9 349 rfl).ka rfl (fun z6 _ => ?_)
      by_cases c8 : z5 = 0
      · rw [if_pos c8] at h
        refine j_if_eq_t (bool_inR z6) dX9_windowHours_26 (tgt := 33) (by decide) c8 ?_
        refine j_iconst dX9_windowHours_33 ?_
        refine j_iadd dX9_windowHours_34 ?_
        obtain ⟨u9, eu9, h⟩ := bnd_elim h
        have hu9 : inR u9 := by rw [eu9]; exact (wrap_inR _)
        refine j_nm eu9 ?_
        refine j_istore_n (lv' := [(2, vI u9), (0, .ref (gB g + 349)), (1, vI x1), (3, vI x3)]) dX9_windowHours_35 rfl (by decide) (by first | rfl | (simp only [List.all_cons, List.all_nil, rv_cat]; rfl)) rfl ?_
        obtain ⟨u10, eu10, h⟩ := bnd_elim h
        have hu10 : inR u10 := by rw [eu10]; exact wrap_inR _
        refine j_iincN (k := 3) (lv' := [(3, vI u10), (2, vI u9), (0, .ref (gB g + 349)), (1, vI x1)]) eu10 dX9_windowHours_36 rfl (by decide) (by first | rfl | (simp only [List.all_cons, List.all_nil, rv_cat]; rfl)) rfl ?_
        refine j_goto (tgt := 9) dX9_windowHours_39 (by decide) ?_
        exact j_sub [2, 3, 1, 0] rfl (ih u9 u10 hu9 hu10 h)
      · rw [if_neg c8] at h
        refine j_if_eq_f (bool_inR z6) dX9_windowHours_26 (tgt := 33) (by decide) c8 ?_
        refine j_iconst dX9_windowHours_29 ?_
        refine j_goto (tgt := 34) dX9_windowHours_30 (by decide) ?_
        refine j_iadd dX9_windowHours_34 ?_
        obtain ⟨u11, eu11, h⟩ := bnd_elim h
        have hu11 : inR u11 := by rw [eu11]; exact (wrap_inR _)
        refine j_nm eu11 ?_
        refine j_istore_n (lv' := [(2, vI u11), (0, .ref (gB g + 349)), (1, vI x1), (3, vI x3)]) dX9_windowHours_35 rfl (by decide) (by first | rfl | (simp only [List.all_cons, List.all_nil, rv_cat]; rfl)) rfl ?_
        obtain ⟨u12, eu12, h⟩ := bnd_elim h
        have hu12 : inR u12 := by rw [eu12]; exact wrap_inR _
        refine j_iincN (k := 3) (lv' := [(3, vI u12), (2, vI u11), (0, .ref (gB g + 349)), (1, vI x1)]) eu12 dX9_windowHours_36 rfl (by decide) (by first | rfl | (simp only [List.all_cons, List.all_nil, rv_cat]; rfl)) rfl ?_
        refine j_goto (tgt := 9) dX9_windowHours_39 (by decide) ?_
        exact j_sub [2, 3, 1, 0] rfl (ih u11 u12 hu11 hu12 h)
set_option maxRecDepth 100000 in
theorem tX9_windowHours_0 {g : JG} {l : Launch} {d N n0 s0 : Nat} {out : Int} {A : AH} {x1 : Int} (hl : l.stackTraces = false) (hd : 3 ≤ d) (hx1 : inR x1) (h : fX9_windowHours N A x1 = some out) : J g l d RX9 "windowHours" cX9_windowHours 4 (some .int) n0 s0 ((0, some (vI out), A) : JO) (inR out) 0 [(0, .ref (gB g + 349)), (1, vI x1)] [] A := by
  unfold fX9_windowHours at h
  refine j_iconst dX9_windowHours_0 ?_
  refine j_istore_n (lv' := [(2, vI 0), (0, .ref (gB g + 349)), (1, vI x1)]) dX9_windowHours_1 rfl (by decide) (by first | rfl | (simp only [List.all_cons, List.all_nil, rv_cat]; rfl)) rfl ?_
  refine j_aload_n (j := 1) dX9_windowHours_2 rfl rfl ?_
  refine j_getR (q := 355) FX9_25 rfl dX9_windowHours_3 (by decide) (by decide) rfl rfl (by decide) ?_
  refine j_iload_n (j := 2) dX9_windowHours_6 rfl rfl ?_
  obtain ⟨c1, h⟩ := chk_elim h
  refine j_iald hx1 (by decide) (by decide) rfl dX9_windowHours_7 (VK_c 25 355 rfl).1 (VK_c 25 355 rfl).lt (VK_c 25 355 rfl).ka c1 (fun r2 => ?_)
  obtain ⟨u3, eu3, h⟩ := bnd_elim h
  have hu3 : inR u3 := by rw [eu3]; exact r2
  refine j_nm eu3 ?_
  refine j_istore_n (lv' := [(3, vI u3), (2, vI 0), (0, .ref (gB g + 349)), (1, vI x1)]) dX9_windowHours_8 rfl (by decide) (by first | rfl | (simp only [List.all_cons, List.all_nil, rv_cat]; rfl)) rfl ?_
  exact j_sub [2, 3, 1, 0] rfl (tX9_windowHours_9 hl (by omega) hx1  N 0 u3 (inR_lit _ rfl) hu3 h)
theorem ctX9_windowHours {g : JG} {l : Launch} {d N : Nat} {A : AH} {out : Int} {x1 : Int} (hl : l.stackTraces = false) (hd : 3 ≤ d) (hx1 : inR x1) (h : fX9_windowHours N A x1 = some out) : CT g l yX9_windowHours cX9_windowHours 4 (some .int) d [.ref (gB g + 349), vI x1] A ((0, some (vI out), A) : JO) (inR out) :=
  CT_of (by decide +kernel) hl (by first | exact Nat.le_of_ble_eq_true rfl | (unfold rv; split <;> exact Nat.le_of_ble_eq_true rfl)) (by first | rfl | (unfold rv; split <;> rfl)) (j_sub (lv := [(0, .ref (gB g + 349)), (1, vI x1)]) [0, 1] rfl (tX9_windowHours_0 hl hd hx1 h))
set_option maxRecDepth 100000 in
theorem tX9_orderOf_0 {g : JG} {l : Launch} {d N n0 s0 : Nat} {out : Int × AH} {A : AH} {x1 : Int} {x2 : Int} (hl : l.stackTraces = false) (hd : 4 ≤ d) (hx1 : inR x1) (hx2 : inR x2) (h : fX9_orderOf N A x1 x2 = some out) : J g l d RX9 "orderOf" cX9_orderOf 3 (some .int) n0 s0 ((0, some (vI out.1), out.2) : JO) (inR out.1) 0 [(0, .ref (gB g + 349)), (1, vI x1), (2, vI x2)] [] A := by
  unfold fX9_orderOf at h
  refine j_aload_n (j := 0) dX9_orderOf_0 rfl rfl ?_
  refine j_iload_n (j := 1) dX9_orderOf_1 rfl rfl ?_
  obtain ⟨z2, e1, h⟩ := obind_elim h
  refine j_callV MX9_229 YX9_isOrder IX9_isOrder SX9_isOrder (by decide) rfl (by decide) (by omega) (Nat.le_of_ble_eq_true rfl) rfl (ctX9_isOrder (d := d - 1) hl (by omega) hx1 e1) dX9_orderOf_2 (VK_c 9 349 rfl).1 (VK_c 9 349 rfl).lt (VK_c 9 349 rfl).ka rfl (fun z3 _ => ?_)
  by_cases c5 : z2 = 0
  · rw [if_pos c5] at h
    refine j_if_ne_f (bool_inR z3) dX9_orderOf_5 (tgt := 14) (by decide) (fun q => q c5) ?_
    refine j_aload_n (j := 0) dX9_orderOf_8 rfl rfl ?_
    refine j_iconst dX9_orderOf_9 ?_
    obtain ⟨p68, e67, h⟩ := obind_elim h
    refine j_callV MX9_220 YX9_fails IX9_fails SX9_fails (by decide) rfl (by decide) (by omega) (Nat.le_of_ble_eq_true rfl) rfl (ctX9_fails (d := d - 1) hl (by omega) (inR_lit _ rfl) e67) dX9_orderOf_10 (VK_c 9 349 rfl).1 (VK_c 9 349 rfl).lt (VK_c 9 349 rfl).ka rfl (fun z69 xt70 => ?_)
    cases h
    exact j_iret dX9_orderOf_13 rfl rfl rfl z69
  · rw [if_neg c5] at h
    refine j_if_ne_t (bool_inR z3) dX9_orderOf_5 (tgt := 14) (by decide) c5 ?_
    refine j_iload_n (j := 2) dX9_orderOf_14 rfl rfl ?_
    refine j_iconst dX9_orderOf_15 ?_
    refine j_bipush dX9_orderOf_16 rfl ?_
    obtain ⟨z7, e6, h⟩ := obind_elim h
    refine j_callS MX9_90 YX9_isBetween IX9_isBetween (by decide) (by omega) (Nat.le_of_ble_eq_true rfl) rfl (ctX9_isBetween (d := d - 1) hl (by omega) hx2 (inR_lit _ rfl) (inR_lit _ rfl) e6) dX9_orderOf_18 rfl (fun z8 _ => ?_)
    by_cases c10 : z7 = 0
    · rw [if_pos c10] at h
      refine j_if_ne_f (bool_inR z8) dX9_orderOf_21 (tgt := 30) (by decide) (fun q => q c10) ?_
      refine j_aload_n (j := 0) dX9_orderOf_24 rfl rfl ?_
      refine j_iconst dX9_orderOf_25 ?_
      obtain ⟨p64, e63, h⟩ := obind_elim h
      refine j_callV MX9_220 YX9_fails IX9_fails SX9_fails (by decide) rfl (by decide) (by omega) (Nat.le_of_ble_eq_true rfl) rfl (ctX9_fails (d := d - 1) hl (by omega) (inR_lit _ rfl) e63) dX9_orderOf_26 (VK_c 9 349 rfl).1 (VK_c 9 349 rfl).lt (VK_c 9 349 rfl).ka rfl (fun z65 xt66 => ?_)
      cases h
      exact j_iret dX9_orderOf_29 rfl rfl rfl z65
    · rw [if_neg c10] at h
      refine j_if_ne_t (bool_inR z8) dX9_orderOf_21 (tgt := 30) (by decide) c10 ?_
      refine j_aload_n (j := 0) dX9_orderOf_30 rfl rfl ?_
      refine j_iconst dX9_orderOf_31 ?_
      obtain ⟨A11, eA11, h⟩ := bnd_elim h
      have xA11 : XT A A11 := by rw [eA11]; exact XT_sI _ _ _ _
      refine j_putI FX9_87 rfl rfl rfl (inR_lit _ rfl) dX9_orderOf_32 (VK_c 9 349 rfl).1 (VK_c 9 349 rfl).lt (VK_c 9 349 rfl).ka ?_
      refine j_hB eA11 ?_
      refine j_iload_n (j := 2) dX9_orderOf_35 rfl rfl ?_
      by_cases c12 : x2 = 0
      · rw [if_pos c12] at h
        refine j_table_in (tgt := 92) hx2 dX9_orderOf_36 (by omega) (by omega) (by rw [c12]; rfl) (by decide) ?_
        refine j_aload_n (j := 0) dX9_orderOf_92 rfl rfl ?_
        refine j_getR (q := 352) FX9_16 rfl dX9_orderOf_93 (by decide) (by decide) rfl rfl (by decide) ?_
        refine j_iload_n (j := 1) dX9_orderOf_96 rfl rfl ?_
        obtain ⟨c13, h⟩ := chk_elim h
        refine j_iald hx1 (by decide) (by decide) rfl dX9_orderOf_97 (VK_c 22 352 rfl).1 (VK_c 22 352 rfl).lt (VK_c 22 352 rfl).ka c13 (fun r14 => ?_)
        cases h
        exact j_iret dX9_orderOf_98 rfl rfl rfl r14
      · rw [if_neg c12] at h
        by_cases c15 : x2 = 1
        · rw [if_pos c15] at h
          refine j_table_in (tgt := 99) hx2 dX9_orderOf_36 (by omega) (by omega) (by rw [c15]; rfl) (by decide) ?_
          refine j_aload_n (j := 0) dX9_orderOf_99 rfl rfl ?_
          refine j_getR (q := 353) FX9_19 rfl dX9_orderOf_100 (by decide) (by decide) rfl rfl (by decide) ?_
          refine j_iload_n (j := 1) dX9_orderOf_103 rfl rfl ?_
          obtain ⟨c16, h⟩ := chk_elim h
          refine j_iald hx1 (by decide) (by decide) rfl dX9_orderOf_104 (VK_c 23 353 rfl).1 (VK_c 23 353 rfl).lt (VK_c 23 353 rfl).ka c16 (fun r17 => ?_)
          cases h
          exact j_iret dX9_orderOf_105 rfl rfl rfl r17
        · rw [if_neg c15] at h
          by_cases c18 : x2 = 2
          · rw [if_pos c18] at h
            refine j_table_in (tgt := 106) hx2 dX9_orderOf_36 (by omega) (by omega) (by rw [c18]; rfl) (by decide) ?_
            refine j_aload_n (j := 0) dX9_orderOf_106 rfl rfl ?_
            refine j_getR (q := 354) FX9_22 rfl dX9_orderOf_107 (by decide) (by decide) rfl rfl (by decide) ?_
            refine j_iload_n (j := 1) dX9_orderOf_110 rfl rfl ?_
            obtain ⟨c19, h⟩ := chk_elim h
            refine j_iald hx1 (by decide) (by decide) rfl dX9_orderOf_111 (VK_c 24 354 rfl).1 (VK_c 24 354 rfl).lt (VK_c 24 354 rfl).ka c19 (fun r20 => ?_)
            cases h
            exact j_iret dX9_orderOf_112 rfl rfl rfl r20
          · rw [if_neg c18] at h
            by_cases c21 : x2 = 3
            · rw [if_pos c21] at h
              refine j_table_in (tgt := 113) hx2 dX9_orderOf_36 (by omega) (by omega) (by rw [c21]; rfl) (by decide) ?_
              refine j_aload_n (j := 0) dX9_orderOf_113 rfl rfl ?_
              refine j_getR (q := 355) FX9_25 rfl dX9_orderOf_114 (by decide) (by decide) rfl rfl (by decide) ?_
              refine j_iload_n (j := 1) dX9_orderOf_117 rfl rfl ?_
              obtain ⟨c22, h⟩ := chk_elim h
              refine j_iald hx1 (by decide) (by decide) rfl dX9_orderOf_118 (VK_c 25 355 rfl).1 (VK_c 25 355 rfl).lt (VK_c 25 355 rfl).ka c22 (fun r23 => ?_)
              cases h
              exact j_iret dX9_orderOf_119 rfl rfl rfl r23
            · rw [if_neg c21] at h
              by_cases c24 : x2 = 4
              · rw [if_pos c24] at h
                refine j_table_in (tgt := 120) hx2 dX9_orderOf_36 (by omega) (by omega) (by rw [c24]; rfl) (by decide) ?_
                refine j_aload_n (j := 0) dX9_orderOf_120 rfl rfl ?_
                refine j_getR (q := 356) FX9_28 rfl dX9_orderOf_121 (by decide) (by decide) rfl rfl (by decide) ?_
                refine j_iload_n (j := 1) dX9_orderOf_124 rfl rfl ?_
                obtain ⟨c25, h⟩ := chk_elim h
                refine j_iald hx1 (by decide) (by decide) rfl dX9_orderOf_125 (VK_c 26 356 rfl).1 (VK_c 26 356 rfl).lt (VK_c 26 356 rfl).ka c25 (fun r26 => ?_)
                cases h
                exact j_iret dX9_orderOf_126 rfl rfl rfl r26
              · rw [if_neg c24] at h
                by_cases c27 : x2 = 5
                · rw [if_pos c27] at h
                  refine j_table_in (tgt := 127) hx2 dX9_orderOf_36 (by omega) (by omega) (by rw [c27]; rfl) (by decide) ?_
                  refine j_aload_n (j := 0) dX9_orderOf_127 rfl rfl ?_
                  refine j_getR (q := 357) FX9_31 rfl dX9_orderOf_128 (by decide) (by decide) rfl rfl (by decide) ?_
                  refine j_iload_n (j := 1) dX9_orderOf_131 rfl rfl ?_
                  obtain ⟨c28, h⟩ := chk_elim h
                  refine j_iald hx1 (by decide) (by decide) rfl dX9_orderOf_132 (VK_c 27 357 rfl).1 (VK_c 27 357 rfl).lt (VK_c 27 357 rfl).ka c28 (fun r29 => ?_)
                  cases h
                  exact j_iret dX9_orderOf_133 rfl rfl rfl r29
                · rw [if_neg c27] at h
                  by_cases c30 : x2 = 6
                  · rw [if_pos c30] at h
                    refine j_table_in (tgt := 134) hx2 dX9_orderOf_36 (by omega) (by omega) (by rw [c30]; rfl) (by decide) ?_
                    refine j_aload_n (j := 0) dX9_orderOf_134 rfl rfl ?_
                    refine j_iload_n (j := 1) dX9_orderOf_135 rfl rfl ?_
                    obtain ⟨z32, e31, h⟩ := obind_elim h
                    refine j_callV MX9_107 YX9_hasTrip IX9_hasTrip SX9_hasTrip (by decide) rfl (by decide) (by omega) (Nat.le_of_ble_eq_true rfl) rfl (ctX9_hasTrip (d := d - 1) hl (by omega) hx1 e31) dX9_orderOf_136 (VK_c 9 349 rfl).1 (VK_c 9 349 rfl).lt (VK_c 9 349 rfl).ka rfl (fun z33 _ => ?_)
                    by_cases c35 : z32 = 0
                    · rw [if_pos c35] at h
                      refine j_if_eq_t (bool_inR z33) dX9_orderOf_139 (tgt := 151) (by decide) c35 ?_
                      refine j_iconst dX9_orderOf_151 ?_
                      cases h
                      exact j_iret dX9_orderOf_152 rfl rfl rfl (inR_lit _ rfl)
                    · rw [if_neg c35] at h
                      refine j_if_eq_f (bool_inR z33) dX9_orderOf_139 (tgt := 151) (by decide) c35 ?_
                      refine j_aload_n (j := 0) dX9_orderOf_142 rfl rfl ?_
                      refine j_getR (q := 358) FX9_34 rfl dX9_orderOf_143 (by decide) (by decide) rfl rfl (by decide) ?_
                      refine j_iload_n (j := 1) dX9_orderOf_146 rfl rfl ?_
                      obtain ⟨c36, h⟩ := chk_elim h
                      refine j_iald hx1 (by decide) (by decide) rfl dX9_orderOf_147 (VK_c 28 358 rfl).1 (VK_c 28 358 rfl).lt (VK_c 28 358 rfl).ka c36 (fun r37 => ?_)
                      refine j_goto (tgt := 152) dX9_orderOf_148 (by decide) ?_
                      cases h
                      exact j_iret dX9_orderOf_152 rfl rfl rfl r37
                  · rw [if_neg c30] at h
                    by_cases c38 : x2 = 7
                    · rw [if_pos c38] at h
                      refine j_table_in (tgt := 153) hx2 dX9_orderOf_36 (by omega) (by omega) (by rw [c38]; rfl) (by decide) ?_
                      refine j_aload_n (j := 0) dX9_orderOf_153 rfl rfl ?_
                      refine j_iload_n (j := 1) dX9_orderOf_154 rfl rfl ?_
                      obtain ⟨z40, e39, h⟩ := obind_elim h
                      refine j_callV MX9_107 YX9_hasTrip IX9_hasTrip SX9_hasTrip (by decide) rfl (by decide) (by omega) (Nat.le_of_ble_eq_true rfl) rfl (ctX9_hasTrip (d := d - 1) hl (by omega) hx1 e39) dX9_orderOf_155 (VK_c 9 349 rfl).1 (VK_c 9 349 rfl).lt (VK_c 9 349 rfl).ka rfl (fun z41 _ => ?_)
                      by_cases c43 : z40 = 0
                      · rw [if_pos c43] at h
                        refine j_if_eq_t (bool_inR z41) dX9_orderOf_158 (tgt := 170) (by decide) c43 ?_
                        refine j_iconst dX9_orderOf_170 ?_
                        cases h
                        exact j_iret dX9_orderOf_171 rfl rfl rfl (inR_lit _ rfl)
                      · rw [if_neg c43] at h
                        refine j_if_eq_f (bool_inR z41) dX9_orderOf_158 (tgt := 170) (by decide) c43 ?_
                        refine j_aload_n (j := 0) dX9_orderOf_161 rfl rfl ?_
                        refine j_getR (q := 359) FX9_37 rfl dX9_orderOf_162 (by decide) (by decide) rfl rfl (by decide) ?_
                        refine j_iload_n (j := 1) dX9_orderOf_165 rfl rfl ?_
                        obtain ⟨c44, h⟩ := chk_elim h
                        refine j_iald hx1 (by decide) (by decide) rfl dX9_orderOf_166 (VK_c 29 359 rfl).1 (VK_c 29 359 rfl).lt (VK_c 29 359 rfl).ka c44 (fun r45 => ?_)
                        refine j_goto (tgt := 171) dX9_orderOf_167 (by decide) ?_
                        cases h
                        exact j_iret dX9_orderOf_171 rfl rfl rfl r45
                    · rw [if_neg c38] at h
                      by_cases c46 : x2 = 8
                      · rw [if_pos c46] at h
                        refine j_table_in (tgt := 172) hx2 dX9_orderOf_36 (by omega) (by omega) (by rw [c46]; rfl) (by decide) ?_
                        refine j_aload_n (j := 0) dX9_orderOf_172 rfl rfl ?_
                        refine j_iload_n (j := 1) dX9_orderOf_173 rfl rfl ?_
                        obtain ⟨z48, e47, h⟩ := obind_elim h
                        refine j_callV MX9_107 YX9_hasTrip IX9_hasTrip SX9_hasTrip (by decide) rfl (by decide) (by omega) (Nat.le_of_ble_eq_true rfl) rfl (ctX9_hasTrip (d := d - 1) hl (by omega) hx1 e47) dX9_orderOf_174 (VK_c 9 349 rfl).1 (VK_c 9 349 rfl).lt (VK_c 9 349 rfl).ka rfl (fun z49 _ => ?_)
                        by_cases c51 : z48 = 0
                        · rw [if_pos c51] at h
                          refine j_if_eq_t (bool_inR z49) dX9_orderOf_177 (tgt := 188) (by decide) c51 ?_
                          refine j_iconst dX9_orderOf_188 ?_
                          cases h
                          exact j_iret dX9_orderOf_189 rfl rfl rfl (inR_lit _ rfl)
                        · rw [if_neg c51] at h
                          refine j_if_eq_f (bool_inR z49) dX9_orderOf_177 (tgt := 188) (by decide) c51 ?_
                          refine j_aload_n (j := 0) dX9_orderOf_180 rfl rfl ?_
                          refine j_iload_n (j := 1) dX9_orderOf_181 rfl rfl ?_
                          obtain ⟨z53, e52, h⟩ := obind_elim h
                          refine j_callV MX9_127 YX9_end IX9_end SX9_end (by decide) rfl (by decide) (by omega) (Nat.le_of_ble_eq_true rfl) rfl (ctX9_end (d := d - 1) hl (by omega) hx1 e52) dX9_orderOf_182 (VK_c 9 349 rfl).1 (VK_c 9 349 rfl).lt (VK_c 9 349 rfl).ka rfl (fun z54 _ => ?_)
                          refine j_goto (tgt := 189) dX9_orderOf_185 (by decide) ?_
                          cases h
                          exact j_iret dX9_orderOf_189 rfl rfl rfl z54
                      · rw [if_neg c46] at h
                        by_cases c56 : x2 = 9
                        · rw [if_pos c56] at h
                          refine j_table_in (tgt := 190) hx2 dX9_orderOf_36 (by omega) (by omega) (by rw [c56]; rfl) (by decide) ?_
                          refine j_aload_n (j := 0) dX9_orderOf_190 rfl rfl ?_
                          refine j_getR (q := 360) FX9_40 rfl dX9_orderOf_191 (by decide) (by decide) rfl rfl (by decide) ?_
                          refine j_iload_n (j := 1) dX9_orderOf_194 rfl rfl ?_
                          obtain ⟨c57, h⟩ := chk_elim h
                          refine j_iald hx1 (by decide) (by decide) rfl dX9_orderOf_195 (VK_c 30 360 rfl).1 (VK_c 30 360 rfl).lt (VK_c 30 360 rfl).ka c57 (fun r58 => ?_)
                          cases h
                          exact j_iret dX9_orderOf_196 rfl rfl rfl r58
                        · rw [if_neg c56] at h
                          refine j_table_out (tgt := 197) hx2 dX9_orderOf_36 (by omega) (by decide) ?_
                          refine j_aload_n (j := 0) dX9_orderOf_197 rfl rfl ?_
                          refine j_iload_n (j := 1) dX9_orderOf_198 rfl rfl ?_
                          obtain ⟨z60, e59, h⟩ := obind_elim h
                          refine j_callV MX9_232 YX9_windowHours IX9_windowHours SX9_windowHours (by decide) rfl (by decide) (by omega) (Nat.le_of_ble_eq_true rfl) rfl (ctX9_windowHours (d := d - 1) hl (by omega) hx1 e59) dX9_orderOf_199 (VK_c 9 349 rfl).1 (VK_c 9 349 rfl).lt (VK_c 9 349 rfl).ka rfl (fun z61 _ => ?_)
                          cases h
                          exact j_iret dX9_orderOf_202 rfl rfl rfl z61
theorem ctX9_orderOf {g : JG} {l : Launch} {d N : Nat} {A : AH} {out : Int × AH} {x1 : Int} {x2 : Int} (hl : l.stackTraces = false) (hd : 4 ≤ d) (hx1 : inR x1) (hx2 : inR x2) (h : fX9_orderOf N A x1 x2 = some out) : CT g l yX9_orderOf cX9_orderOf 3 (some .int) d [.ref (gB g + 349), vI x1, vI x2] A ((0, some (vI out.1), out.2) : JO) (inR out.1) :=
  CT_of (by decide +kernel) hl (by first | exact Nat.le_of_ble_eq_true rfl | (unfold rv; split <;> exact Nat.le_of_ble_eq_true rfl)) (by first | rfl | (unfold rv; split <;> rfl)) (j_sub (lv := [(0, .ref (gB g + 349)), (1, vI x1), (2, vI x2)]) [0, 1, 2] rfl (tX9_orderOf_0 hl hd hx1 hx2 h))
set_option maxRecDepth 100000 in
theorem tX9_window_67 {g : JG} {l : Launch} {d N n0 s0 : Nat} {out : Int × AH} {A : AH} {x1 : Int} {x3 : Int} (hl : l.stackTraces = false) (hd : 3 ≤ d) (hx1 : inR x1) (hx3 : inR x3) (h : fX9_window_67 N A x1 x3 = some out) : J g l d RX9 "window" cX9_window 4 (some .int) n0 s0 ((0, some (vI out.1), out.2) : JO) (inR out.1) 67 [(0, .ref (gB g + 349)), (1, vI x1), (3, vI x3)] [] A := by
  unfold fX9_window_67 at h
  refine j_iload_n (j := 2) dX9_window_67 rfl rfl ?_
  refine j_aload_n (j := 0) dX9_window_68 rfl rfl ?_
  refine j_getR (q := 356) FX9_28 rfl dX9_window_69 (by decide) (by decide) rfl rfl (by decide) ?_
  refine j_iload_n (j := 1) dX9_window_72 rfl rfl ?_
  obtain ⟨c1, h⟩ := chk_elim h
  refine j_iald hx1 (by decide) (by decide) rfl dX9_window_73 (VK_c 26 356 rfl).1 (VK_c 26 356 rfl).lt (VK_c 26 356 rfl).ka c1 (fun r2 => ?_)
  by_cases c3 : x3 ≤ (gI A 356 x1.toNat)
  · rw [if_pos c3] at h
    refine j_icmp_le_t hx3 r2 dX9_window_74 (tgt := 83) (by decide) c3 ?_
    refine j_aload_n (j := 0) dX9_window_83 rfl rfl ?_
    refine j_iconst dX9_window_84 ?_
    obtain ⟨A4, eA4, h⟩ := bnd_elim h
    have xA4 : XT A A4 := by rw [eA4]; exact XT_sI _ _ _ _
    refine j_putI FX9_87 rfl rfl rfl (inR_lit _ rfl) dX9_window_85 (VK_c 9 349 rfl).1 (VK_c 9 349 rfl).lt (VK_c 9 349 rfl).ka ?_
    refine j_hB eA4 ?_
    refine j_iload_n (j := 2) dX9_window_88 rfl rfl ?_
    cases h
    exact j_iret dX9_window_89 rfl rfl rfl hx3
  · rw [if_neg c3] at h
    refine j_icmp_le_f hx3 r2 dX9_window_74 (tgt := 83) (by decide) c3 ?_
    refine j_aload_n (j := 0) dX9_window_77 rfl rfl ?_
    refine j_iconst dX9_window_78 ?_
    obtain ⟨p6, e5, h⟩ := obind_elim h
    refine j_callV MX9_220 YX9_fails IX9_fails SX9_fails (by decide) rfl (by decide) (by omega) (Nat.le_of_ble_eq_true rfl) rfl (ctX9_fails (d := d - 1) hl (by omega) (inR_lit _ rfl) e5) dX9_window_79 (VK_c 9 349 rfl).1 (VK_c 9 349 rfl).lt (VK_c 9 349 rfl).ka rfl (fun z7 xt8 => ?_)
    cases h
    exact j_iret dX9_window_82 rfl rfl rfl z7
set_option maxRecDepth 100000 in
theorem tX9_window_42 {g : JG} {l : Launch} {d N n0 s0 : Nat} {out : Int × AH} {x1 : Int} (hl : l.stackTraces = false) (hd : 3 ≤ d) (hx1 : inR x1) : ∀ (n : Nat) (A : AH) (x3 : Int), inR x3 → fX9_window_42 N x1 n A x3 = some out → J g l d RX9 "window" cX9_window 4 (some .int) n0 s0 ((0, some (vI out.1), out.2) : JO) (inR out.1) 42 [(0, .ref (gB g + 349)), (1, vI x1), (3, vI x3)] [] A := by
  intro n
  induction n with
  | zero =>
    intro A x3 hx3 h
    rw [fX9_window_42] at h
    cases h
  | succ n ih =>
    intro A x3 hx3 h
    rw [fX9_window_42] at h
    refine j_iload_n (j := 2) dX9_window_42 rfl rfl ?_
    refine j_aload_n (j := 0) dX9_window_43 rfl rfl ?_
    refine j_getR (q := 356) FX9_28 rfl dX9_window_44 (by decide) (by decide) rfl rfl (by decide) ?_
    refine j_iload_n (j := 1) dX9_window_47 rfl rfl ?_
    obtain ⟨c1, h⟩ := chk_elim h
    refine j_iald hx1 (by decide) (by decide) rfl dX9_window_48 (VK_c 26 356 rfl).1 (VK_c 26 356 rfl).lt (VK_c 26 356 rfl).ka c1 (fun r2 => ?_)
    by_cases c3 : (gI A 356 x1.toNat) < x3
    · rw [if_pos c3] at h
      refine j_icmp_gt_t hx3 r2 dX9_window_49 (tgt := 67) (by decide) c3 ?_
      exact j_sub [0, 1, 2] rfl (tX9_window_67 hl (by omega) hx1 hx3  h)
    · rw [if_neg c3] at h
      refine j_icmp_gt_f hx3 r2 dX9_window_49 (tgt := 67) (by decide) c3 ?_
      refine j_aload_n (j := 0) dX9_window_52 rfl rfl ?_
      refine j_iload_n (j := 1) dX9_window_53 rfl rfl ?_
      refine j_iload_n (j := 2) dX9_window_54 rfl rfl ?_
      obtain ⟨z5, e4, h⟩ := obind_elim h
      refine j_callV MX9_114 YX9_isDeep IX9_isDeep SX9_isDeep (by decide) rfl (by decide) (by omega) (Nat.le_of_ble_eq_true rfl) rfl (ctX9_isDeep (d := d - 1) hl (by omega) hx1 hx3 e4) dX9_window_55 (VK_c 9 349 rfl).1 (VK_c 9 349 rfl).lt (VK_c 9 349 rfl).ka rfl (fun z6 _ => ?_)
      by_cases c8 : z5 = 0
      · rw [if_pos c8] at h
        refine j_if_ne_f (bool_inR z6) dX9_window_58 (tgt := 67) (by decide) (fun q => q c8) ?_
        obtain ⟨u9, eu9, h⟩ := bnd_elim h
        have hu9 : inR u9 := by rw [eu9]; exact wrap_inR _
        refine j_iincN (k := 2) (lv' := [(3, vI u9), (0, .ref (gB g + 349)), (1, vI x1)]) eu9 dX9_window_61 rfl (by decide) (by first | rfl | (simp only [List.all_cons, List.all_nil, rv_cat]; rfl)) rfl ?_
        refine j_goto (tgt := 42) dX9_window_64 (by decide) ?_
        exact j_sub [1, 2, 0] rfl (ih A u9 hu9 h)
      · rw [if_neg c8] at h
        refine j_if_ne_t (bool_inR z6) dX9_window_58 (tgt := 67) (by decide) c8 ?_
        exact j_sub [0, 1, 2] rfl (tX9_window_67 hl (by omega) hx1 hx3  h)
