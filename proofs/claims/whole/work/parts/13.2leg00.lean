set_option maxRecDepth 100000 in
theorem tX0_start_0 {g : JG} {l : Launch} {d N n0 s0 : Nat} {out : AH} {A : AH} {y0 : Nat} {x1 : Int} (hl : l.stackTraces = false) (hd : 1 ≤ d) (hy0 : VK 0 y0) (hx1 : inR x1) (h : fX0_start N A y0 x1 = some out) : J g l d RX0 "start" cX0_start 2 none n0 s0 ((0, none, out) : JO) (True) 0 [(0, .ref (gB g + y0)), (1, vI x1)] [] A := by
  unfold fX0_start at h
  refine j_aload_n (j := 0) dX0_start_0 rfl rfl ?_
  refine j_iload_n (j := 1) dX0_start_1 rfl rfl ?_
  obtain ⟨A1, eA1, h⟩ := bnd_elim h
  have xA1 : XT A A1 := by rw [eA1]; exact XT_sI _ _ _ _
  refine j_putI FX0_9 rfl rfl rfl hx1 dX0_start_2 hy0.1 hy0.lt hy0.ka ?_
  refine j_hB eA1 ?_
  refine j_aload_n (j := 0) dX0_start_5 rfl rfl ?_
  refine j_iconst dX0_start_6 ?_
  obtain ⟨A2, eA2, h⟩ := bnd_elim h
  have xA2 : XT A1 A2 := by rw [eA2]; exact XT_sI _ _ _ _
  refine j_putI FX0_15 rfl rfl rfl (inR_lit _ rfl) dX0_start_7 hy0.1 hy0.lt hy0.ka ?_
  refine j_hB eA2 ?_
  refine j_aload_n (j := 0) dX0_start_10 rfl rfl ?_
  refine j_iconst dX0_start_11 ?_
  obtain ⟨A3, eA3, h⟩ := bnd_elim h
  have xA3 : XT A2 A3 := by rw [eA3]; exact XT_sI _ _ _ _
  refine j_putI FX0_18 rfl rfl rfl (inR_lit _ rfl) dX0_start_12 hy0.1 hy0.lt hy0.ka ?_
  refine j_hB eA3 ?_
  refine j_aload_n (j := 0) dX0_start_15 rfl rfl ?_
  refine j_iconst dX0_start_16 ?_
  obtain ⟨A4, eA4, h⟩ := bnd_elim h
  have xA4 : XT A3 A4 := by rw [eA4]; exact XT_sI _ _ _ _
  refine j_putI FX0_21 rfl rfl rfl (inR_lit _ rfl) dX0_start_17 hy0.1 hy0.lt hy0.ka ?_
  refine j_hB eA4 ?_
  refine j_aload_n (j := 0) dX0_start_20 rfl rfl ?_
  refine j_iconst dX0_start_21 ?_
  obtain ⟨A5, eA5, h⟩ := bnd_elim h
  have xA5 : XT A4 A5 := by rw [eA5]; exact XT_sI _ _ _ _
  refine j_putI FX0_24 rfl rfl rfl (inR_lit _ rfl) dX0_start_22 hy0.1 hy0.lt hy0.ka ?_
  refine j_hB eA5 ?_
  cases h
  exact j_vret dX0_start_25 rfl rfl trivial
theorem ctX0_start {g : JG} {l : Launch} {d N : Nat} {A : AH} {out : AH} {y0 : Nat} {x1 : Int} (hl : l.stackTraces = false) (hd : 1 ≤ d) (hy0 : VK 0 y0) (hx1 : inR x1) (h : fX0_start N A y0 x1 = some out) : CT g l yX0_start cX0_start 2 none d [.ref (gB g + y0), vI x1] A ((0, none, out) : JO) (True) :=
  CT_of (by decide +kernel) hl (by first | exact Nat.le_of_ble_eq_true rfl | (unfold rv; split <;> exact Nat.le_of_ble_eq_true rfl)) (by first | rfl | (unfold rv; split <;> rfl)) (j_sub (lv := [(0, .ref (gB g + y0)), (1, vI x1)]) [0, 1] rfl (tX0_start_0 hl hd hy0 hx1 h))
set_option maxRecDepth 100000 in
theorem tX0_copyFrom_0 {g : JG} {l : Launch} {d N n0 s0 : Nat} {out : AH} {A : AH} {y0 : Nat} {y1 : Nat} (hl : l.stackTraces = false) (hd : 1 ≤ d) (hy0 : VK 0 y0) (hy1 : VK 0 y1) (h : fX0_copyFrom N A y0 y1 = some out) : J g l d RX0 "copyFrom" cX0_copyFrom 2 none n0 s0 ((0, none, out) : JO) (True) 0 [(0, .ref (gB g + y0)), (1, .ref (gB g + y1))] [] A := by
  unfold fX0_copyFrom at h
  refine j_aload_n (j := 0) dX0_copyFrom_0 rfl rfl ?_
  refine j_aload_n (j := 1) dX0_copyFrom_1 rfl rfl ?_
  refine j_getI FX0_9 rfl dX0_copyFrom_2 hy1.1 hy1.lt hy1.ka (fun r1 => ?_)
  obtain ⟨A2, eA2, h⟩ := bnd_elim h
  have xA2 : XT A A2 := by rw [eA2]; exact XT_sI _ _ _ _
  refine j_putI FX0_9 rfl rfl rfl r1 dX0_copyFrom_5 hy0.1 hy0.lt hy0.ka ?_
  refine j_hB eA2 ?_
  refine j_aload_n (j := 0) dX0_copyFrom_8 rfl rfl ?_
  refine j_aload_n (j := 1) dX0_copyFrom_9 rfl rfl ?_
  refine j_getI FX0_15 rfl dX0_copyFrom_10 hy1.1 hy1.lt hy1.ka (fun r3 => ?_)
  obtain ⟨A4, eA4, h⟩ := bnd_elim h
  have xA4 : XT A2 A4 := by rw [eA4]; exact XT_sI _ _ _ _
  refine j_putI FX0_15 rfl rfl rfl r3 dX0_copyFrom_13 hy0.1 hy0.lt hy0.ka ?_
  refine j_hB eA4 ?_
  refine j_aload_n (j := 0) dX0_copyFrom_16 rfl rfl ?_
  refine j_aload_n (j := 1) dX0_copyFrom_17 rfl rfl ?_
  refine j_getI FX0_18 rfl dX0_copyFrom_18 hy1.1 hy1.lt hy1.ka (fun r5 => ?_)
  obtain ⟨A6, eA6, h⟩ := bnd_elim h
  have xA6 : XT A4 A6 := by rw [eA6]; exact XT_sI _ _ _ _
  refine j_putI FX0_18 rfl rfl rfl r5 dX0_copyFrom_21 hy0.1 hy0.lt hy0.ka ?_
  refine j_hB eA6 ?_
  refine j_aload_n (j := 0) dX0_copyFrom_24 rfl rfl ?_
  refine j_aload_n (j := 1) dX0_copyFrom_25 rfl rfl ?_
  refine j_getI FX0_21 rfl dX0_copyFrom_26 hy1.1 hy1.lt hy1.ka (fun r7 => ?_)
  obtain ⟨A8, eA8, h⟩ := bnd_elim h
  have xA8 : XT A6 A8 := by rw [eA8]; exact XT_sI _ _ _ _
  refine j_putI FX0_21 rfl rfl rfl r7 dX0_copyFrom_29 hy0.1 hy0.lt hy0.ka ?_
  refine j_hB eA8 ?_
  refine j_aload_n (j := 0) dX0_copyFrom_32 rfl rfl ?_
  refine j_aload_n (j := 1) dX0_copyFrom_33 rfl rfl ?_
  refine j_getI FX0_24 rfl dX0_copyFrom_34 hy1.1 hy1.lt hy1.ka (fun r9 => ?_)
  obtain ⟨A10, eA10, h⟩ := bnd_elim h
  have xA10 : XT A8 A10 := by rw [eA10]; exact XT_sI _ _ _ _
  refine j_putI FX0_24 rfl rfl rfl r9 dX0_copyFrom_37 hy0.1 hy0.lt hy0.ka ?_
  refine j_hB eA10 ?_
  cases h
  exact j_vret dX0_copyFrom_40 rfl rfl trivial
theorem ctX0_copyFrom {g : JG} {l : Launch} {d N : Nat} {A : AH} {out : AH} {y0 : Nat} {y1 : Nat} (hl : l.stackTraces = false) (hd : 1 ≤ d) (hy0 : VK 0 y0) (hy1 : VK 0 y1) (h : fX0_copyFrom N A y0 y1 = some out) : CT g l yX0_copyFrom cX0_copyFrom 2 none d [.ref (gB g + y0), .ref (gB g + y1)] A ((0, none, out) : JO) (True) :=
  CT_of (by decide +kernel) hl (by first | exact Nat.le_of_ble_eq_true rfl | (unfold rv; split <;> exact Nat.le_of_ble_eq_true rfl)) (by first | rfl | (unfold rv; split <;> rfl)) (j_sub (lv := [(0, .ref (gB g + y0)), (1, .ref (gB g + y1))]) [0, 1] rfl (tX0_copyFrom_0 hl hd hy0 hy1 h))
set_option maxRecDepth 100000 in
theorem tX0_goal_0 {g : JG} {l : Launch} {d N n0 s0 : Nat} {out : Int} {A : AH} {y0 : Nat} (hl : l.stackTraces = false) (hd : 1 ≤ d) (hy0 : VK 0 y0) (h : fX0_goal N A y0 = some out) : J g l d RX0 "goal" cX0_goal 1 (some .int) n0 s0 ((0, some (vI out), A) : JO) (inR out) 0 [(0, .ref (gB g + y0))] [] A := by
  unfold fX0_goal at h
  refine j_aload_n (j := 0) dX0_goal_0 rfl rfl ?_
  refine j_getI FX0_18 rfl dX0_goal_1 hy0.1 hy0.lt hy0.ka (fun r1 => ?_)
  by_cases c2 : (gI A y0 2) = 0
  · rw [if_pos c2] at h
    refine j_if_ne_f r1 dX0_goal_4 (tgt := 11) (by decide) (fun q => q c2) ?_
    refine j_iconst dX0_goal_7 ?_
    refine j_goto (tgt := 12) dX0_goal_8 (by decide) ?_
    cases h
    exact j_iret dX0_goal_12 rfl rfl rfl (inR_lit _ rfl)
  · rw [if_neg c2] at h
    refine j_if_ne_t r1 dX0_goal_4 (tgt := 11) (by decide) c2 ?_
    refine j_iconst dX0_goal_11 ?_
    cases h
    exact j_iret dX0_goal_12 rfl rfl rfl (inR_lit _ rfl)
theorem ctX0_goal {g : JG} {l : Launch} {d N : Nat} {A : AH} {out : Int} {y0 : Nat} (hl : l.stackTraces = false) (hd : 1 ≤ d) (hy0 : VK 0 y0) (h : fX0_goal N A y0 = some out) : CT g l yX0_goal cX0_goal 1 (some .int) d [.ref (gB g + y0)] A ((0, some (vI out), A) : JO) (inR out) :=
  CT_of (by decide +kernel) hl (by first | exact Nat.le_of_ble_eq_true rfl | (unfold rv; split <;> exact Nat.le_of_ble_eq_true rfl)) (by first | rfl | (unfold rv; split <;> rfl)) (j_sub (lv := [(0, .ref (gB g + y0))]) [0] rfl (tX0_goal_0 hl hd hy0 h))
set_option maxRecDepth 100000 in
theorem tX3_copyFrom_0 {g : JG} {l : Launch} {d N n0 s0 : Nat} {out : AH} {A : AH} {y0 : Nat} {y1 : Nat} (hl : l.stackTraces = false) (hd : 1 ≤ d) (hy0 : VK 3 y0) (hy1 : VK 3 y1) (h : fX3_copyFrom N A y0 y1 = some out) : J g l d RX3 "copyFrom" cX3_copyFrom 2 none n0 s0 ((0, none, out) : JO) (True) 0 [(0, .ref (gB g + y0)), (1, .ref (gB g + y1))] [] A := by
  unfold fX3_copyFrom at h
  refine j_aload_n (j := 0) dX3_copyFrom_0 rfl rfl ?_
  refine j_aload_n (j := 1) dX3_copyFrom_1 rfl rfl ?_
  refine j_getI FX3_21 rfl dX3_copyFrom_2 hy1.1 hy1.lt hy1.ka (fun r1 => ?_)
  obtain ⟨A2, eA2, h⟩ := bnd_elim h
  have xA2 : XT A A2 := by rw [eA2]; exact XT_sI _ _ _ _
  refine j_putI FX3_21 rfl rfl rfl r1 dX3_copyFrom_5 hy0.1 hy0.lt hy0.ka ?_
  refine j_hB eA2 ?_
  refine j_aload_n (j := 0) dX3_copyFrom_8 rfl rfl ?_
  refine j_aload_n (j := 1) dX3_copyFrom_9 rfl rfl ?_
  refine j_getI FX3_24 rfl dX3_copyFrom_10 hy1.1 hy1.lt hy1.ka (fun r3 => ?_)
  obtain ⟨A4, eA4, h⟩ := bnd_elim h
  have xA4 : XT A2 A4 := by rw [eA4]; exact XT_sI _ _ _ _
  refine j_putI FX3_24 rfl rfl rfl r3 dX3_copyFrom_13 hy0.1 hy0.lt hy0.ka ?_
  refine j_hB eA4 ?_
  refine j_aload_n (j := 0) dX3_copyFrom_16 rfl rfl ?_
  refine j_aload_n (j := 1) dX3_copyFrom_17 rfl rfl ?_
  refine j_getI FX3_27 rfl dX3_copyFrom_18 hy1.1 hy1.lt hy1.ka (fun r5 => ?_)
  obtain ⟨A6, eA6, h⟩ := bnd_elim h
  have xA6 : XT A4 A6 := by rw [eA6]; exact XT_sI _ _ _ _
  refine j_putI FX3_27 rfl rfl rfl r5 dX3_copyFrom_21 hy0.1 hy0.lt hy0.ka ?_
  refine j_hB eA6 ?_
  refine j_aload_n (j := 0) dX3_copyFrom_24 rfl rfl ?_
  refine j_aload_n (j := 1) dX3_copyFrom_25 rfl rfl ?_
  refine j_getI FX3_30 rfl dX3_copyFrom_26 hy1.1 hy1.lt hy1.ka (fun r7 => ?_)
  obtain ⟨A8, eA8, h⟩ := bnd_elim h
  have xA8 : XT A6 A8 := by rw [eA8]; exact XT_sI _ _ _ _
  refine j_putI FX3_30 rfl rfl rfl r7 dX3_copyFrom_29 hy0.1 hy0.lt hy0.ka ?_
  refine j_hB eA8 ?_
  refine j_aload_n (j := 0) dX3_copyFrom_32 rfl rfl ?_
  refine j_aload_n (j := 1) dX3_copyFrom_33 rfl rfl ?_
  refine j_getI FX3_33 rfl dX3_copyFrom_34 hy1.1 hy1.lt hy1.ka (fun r9 => ?_)
  obtain ⟨A10, eA10, h⟩ := bnd_elim h
  have xA10 : XT A8 A10 := by rw [eA10]; exact XT_sI _ _ _ _
  refine j_putI FX3_33 rfl rfl rfl r9 dX3_copyFrom_37 hy0.1 hy0.lt hy0.ka ?_
  refine j_hB eA10 ?_
  refine j_aload_n (j := 0) dX3_copyFrom_40 rfl rfl ?_
  refine j_aload_n (j := 1) dX3_copyFrom_41 rfl rfl ?_
  refine j_getI FX3_42 rfl dX3_copyFrom_42 hy1.1 hy1.lt hy1.ka (fun r11 => ?_)
  obtain ⟨A12, eA12, h⟩ := bnd_elim h
  have xA12 : XT A10 A12 := by rw [eA12]; exact XT_sI _ _ _ _
  refine j_putI FX3_42 rfl rfl rfl r11 dX3_copyFrom_45 hy0.1 hy0.lt hy0.ka ?_
  refine j_hB eA12 ?_
  refine j_aload_n (j := 0) dX3_copyFrom_48 rfl rfl ?_
  refine j_aload_n (j := 1) dX3_copyFrom_49 rfl rfl ?_
  refine j_getI FX3_9 rfl dX3_copyFrom_50 hy1.1 hy1.lt hy1.ka (fun r13 => ?_)
  obtain ⟨A14, eA14, h⟩ := bnd_elim h
  have xA14 : XT A12 A14 := by rw [eA14]; exact XT_sI _ _ _ _
  refine j_putI FX3_9 rfl rfl rfl r13 dX3_copyFrom_53 hy0.1 hy0.lt hy0.ka ?_
  refine j_hB eA14 ?_
  refine j_aload_n (j := 0) dX3_copyFrom_56 rfl rfl ?_
  refine j_aload_n (j := 1) dX3_copyFrom_57 rfl rfl ?_
  refine j_getI FX3_15 rfl dX3_copyFrom_58 hy1.1 hy1.lt hy1.ka (fun r15 => ?_)
  obtain ⟨A16, eA16, h⟩ := bnd_elim h
  have xA16 : XT A14 A16 := by rw [eA16]; exact XT_sI _ _ _ _
  refine j_putI FX3_15 rfl rfl rfl r15 dX3_copyFrom_61 hy0.1 hy0.lt hy0.ka ?_
  refine j_hB eA16 ?_
  refine j_aload_n (j := 0) dX3_copyFrom_64 rfl rfl ?_
  refine j_aload_n (j := 1) dX3_copyFrom_65 rfl rfl ?_
  refine j_getI FX3_18 rfl dX3_copyFrom_66 hy1.1 hy1.lt hy1.ka (fun r17 => ?_)
  obtain ⟨A18, eA18, h⟩ := bnd_elim h
  have xA18 : XT A16 A18 := by rw [eA18]; exact XT_sI _ _ _ _
  refine j_putI FX3_18 rfl rfl rfl r17 dX3_copyFrom_69 hy0.1 hy0.lt hy0.ka ?_
  refine j_hB eA18 ?_
  refine j_aload_n (j := 0) dX3_copyFrom_72 rfl rfl ?_
  refine j_aload_n (j := 1) dX3_copyFrom_73 rfl rfl ?_
  refine j_getI FX3_36 rfl dX3_copyFrom_74 hy1.1 hy1.lt hy1.ka (fun r19 => ?_)
  obtain ⟨A20, eA20, h⟩ := bnd_elim h
  have xA20 : XT A18 A20 := by rw [eA20]; exact XT_sI _ _ _ _
  refine j_putI FX3_36 rfl rfl rfl r19 dX3_copyFrom_77 hy0.1 hy0.lt hy0.ka ?_
  refine j_hB eA20 ?_
  cases h
  exact j_vret dX3_copyFrom_80 rfl rfl trivial
theorem ctX3_copyFrom {g : JG} {l : Launch} {d N : Nat} {A : AH} {out : AH} {y0 : Nat} {y1 : Nat} (hl : l.stackTraces = false) (hd : 1 ≤ d) (hy0 : VK 3 y0) (hy1 : VK 3 y1) (h : fX3_copyFrom N A y0 y1 = some out) : CT g l yX3_copyFrom cX3_copyFrom 2 none d [.ref (gB g + y0), .ref (gB g + y1)] A ((0, none, out) : JO) (True) :=
  CT_of (by decide +kernel) hl (by first | exact Nat.le_of_ble_eq_true rfl | (unfold rv; split <;> exact Nat.le_of_ble_eq_true rfl)) (by first | rfl | (unfold rv; split <;> rfl)) (j_sub (lv := [(0, .ref (gB g + y0)), (1, .ref (gB g + y1))]) [0, 1] rfl (tX3_copyFrom_0 hl hd hy0 hy1 h))
set_option maxRecDepth 100000 in
theorem tX2_init_24 {g : JG} {l : Launch} {d N n0 s0 : Nat} {out : AH} {A : AH} {y0 : Nat} {x2 : Int} {x3 : Int} {x4 : Int} {x5 : Int} {x6 : Int} {ys0 : Nat} {xs1 : Int} (hl : l.stackTraces = false) (hd : 2 ≤ d) (hy0 : isLeg A y0) (hx2 : inR x2) (hx3 : inR x3) (hx4 : inR x4) (hx5 : inR x5) (hx6 : inR x6) (hys0 : isLeg A ys0) (hxs1 : inR xs1) (h : fX2_init_24 N A y0 x2 x3 x4 x5 x6 ys0 xs1 = some out) : J g l d RX2 "<init>" cX2_init 7 none n0 s0 ((0, none, out) : JO) (True) 24 [(0, .ref (gB g + y0)), (2, vI x2), (3, vI x3), (4, vI x4), (5, vI x5), (6, vI x6)] [vI xs1, .ref (gB g + ys0)] A := by
  unfold fX2_init_24 at h
  obtain ⟨A1, eA1, h⟩ := bnd_elim h
  have xA1 : XT A A1 := by rw [eA1]; exact XT_sI _ _ _ _
  refine j_putFI (k := 1) rfl (by decide) (by decide) (gdI (i := 529) (by decide +kernel) rfl) rfl hxs1 dX2_init_24 hys0 ?_
  refine j_hB eA1 ?_
  refine j_aload_n (j := 0) dX2_init_27 rfl rfl ?_
  refine j_iload_n (j := 1) dX2_init_28 rfl rfl ?_
  obtain ⟨A2, eA2, h⟩ := bnd_elim h
  have xA2 : XT A1 A2 := by rw [eA2]; exact XT_sI _ _ _ _
  refine j_putFI (k := 2) rfl (by decide) (by decide) (gdI (i := 531) (by decide +kernel) rfl) rfl hx2 dX2_init_29 (hy0.xt xA1) ?_
  refine j_hB eA2 ?_
  refine j_aload_n (j := 0) dX2_init_32 rfl rfl ?_
  refine j_iload_n (j := 2) dX2_init_33 rfl rfl ?_
  obtain ⟨A3, eA3, h⟩ := bnd_elim h
  have xA3 : XT A2 A3 := by rw [eA3]; exact XT_sI _ _ _ _
  refine j_putFI (k := 3) rfl (by decide) (by decide) (gdI (i := 534) (by decide +kernel) rfl) rfl hx3 dX2_init_34 ((hy0.xt xA1).xt xA2) ?_
  refine j_hB eA3 ?_
  refine j_aload_n (j := 0) dX2_init_37 rfl rfl ?_
  refine j_iload (j := 3) dX2_init_38 rfl ?_
  obtain ⟨A4, eA4, h⟩ := bnd_elim h
  have xA4 : XT A3 A4 := by rw [eA4]; exact XT_sI _ _ _ _
  refine j_putFI (k := 4) rfl (by decide) (by decide) (gdI (i := 537) (by decide +kernel) rfl) rfl hx4 dX2_init_40 (((hy0.xt xA1).xt xA2).xt xA3) ?_
  refine j_hB eA4 ?_
  refine j_aload_n (j := 0) dX2_init_43 rfl rfl ?_
  refine j_iload (j := 4) dX2_init_44 rfl ?_
  obtain ⟨A5, eA5, h⟩ := bnd_elim h
  have xA5 : XT A4 A5 := by rw [eA5]; exact XT_sI _ _ _ _
  refine j_putFI (k := 5) rfl (by decide) (by decide) (gdI (i := 540) (by decide +kernel) rfl) rfl hx5 dX2_init_46 ((((hy0.xt xA1).xt xA2).xt xA3).xt xA4) ?_
  refine j_hB eA5 ?_
  refine j_aload_n (j := 0) dX2_init_49 rfl rfl ?_
  refine j_iload (j := 5) dX2_init_50 rfl ?_
  obtain ⟨A6, eA6, h⟩ := bnd_elim h
  have xA6 : XT A5 A6 := by rw [eA6]; exact XT_sI _ _ _ _
  refine j_putFI (k := 6) rfl (by decide) (by decide) (gdI (i := 544) (by decide +kernel) rfl) rfl hx6 dX2_init_52 (((((hy0.xt xA1).xt xA2).xt xA3).xt xA4).xt xA5) ?_
  refine j_hB eA6 ?_
  cases h
  exact j_vret dX2_init_55 rfl rfl trivial
set_option maxRecDepth 100000 in
theorem tX2_init_0 {g : JG} {l : Launch} {d N n0 s0 : Nat} {out : AH} {A : AH} {y0 : Nat} {y1 : Nat} {x2 : Int} {x3 : Int} {x4 : Int} {x5 : Int} {x6 : Int} (hl : l.stackTraces = false) (hd : 2 ≤ d) (hy0 : isLeg A y0) (hy1 : LV A y1) (hx2 : inR x2) (hx3 : inR x3) (hx4 : inR x4) (hx5 : inR x5) (hx6 : inR x6) (h : fX2_init N A y0 y1 x2 x3 x4 x5 x6 = some out) : J g l d RX2 "<init>" cX2_init 7 none n0 s0 ((0, none, out) : JO) (True) 0 [(0, .ref (gB g + y0)), (1, rv g y1), (2, vI x2), (3, vI x3), (4, vI x4), (5, vI x5), (6, vI x6)] [] A := by
  unfold fX2_init at h
  refine j_aload_n (j := 0) dX2_init_0 rfl rfl ?_
  refine j_objInit (gdI (i := 526) (by decide +kernel) rfl) (gdI (i := 105) (by decide +kernel) rfl) (gdI (i := 106) (by decide +kernel) rfl) dX2_init_1 (Nat.le_of_ble_eq_true rfl) (by omega) ?_
  refine j_aload_n (j := 0) dX2_init_4 rfl rfl ?_
  refine j_aloadQ_n (j := 1) dX2_init_5 rfl rfl ?_
  obtain ⟨A1, eA1, h⟩ := bnd_elim h
  have xA1 : XT A A1 := by rw [eA1]; exact XT_sP _ _ _ _
  refine j_putFQ rfl (gdI (i := 527) (by decide +kernel) rfl) rfl hy1 dX2_init_6 hy0 ?_
  refine j_hB eA1 ?_
  refine j_aload_n (j := 0) dX2_init_9 rfl rfl ?_
  refine j_aloadQ_n (j := 1) dX2_init_10 rfl rfl ?_
  by_cases c2 : y1 = 0
  · rw [if_pos c2] at h
    refine j_ifnonnull_f dX2_init_11 c2 ?_
    refine j_iconst dX2_init_14 ?_
    refine j_goto (tgt := 24) dX2_init_15 (by decide) ?_
    exact j_sub [0, 2, 3, 4, 5, 6] rfl (tX2_init_24 hl (by omega) (hy0.xt xA1) hx2 hx3 hx4 hx5 hx6 (hy0.xt xA1) (inR_lit _ rfl)  h)
  · rw [if_neg c2] at h
    refine j_ifnonnull_t dX2_init_11 (tgt := 18) (by decide) c2 ?_
    refine j_aloadQ_n (j := 1) dX2_init_18 rfl rfl ?_
    refine j_unrv c2 ?_
    refine j_getI FX2_15 rfl dX2_init_19 ((hy1.xt xA1).nz c2).pos ((hy1.xt xA1).nz c2).lt ((hy1.xt xA1).nz c2).ka (fun r3 => ?_)
    refine j_iconst dX2_init_22 ?_
    refine j_iadd dX2_init_23 ?_
    exact j_sub [0, 2, 3, 4, 5, 6] rfl (tX2_init_24 hl (by omega) (hy0.xt xA1) hx2 hx3 hx4 hx5 hx6 (hy0.xt xA1) (wrap_inR _)  h)
theorem ctX2_init {g : JG} {l : Launch} {d N : Nat} {A : AH} {out : AH} {y0 : Nat} {y1 : Nat} {x2 : Int} {x3 : Int} {x4 : Int} {x5 : Int} {x6 : Int} (hl : l.stackTraces = false) (hd : 2 ≤ d) (hy0 : isLeg A y0) (hy1 : LV A y1) (hx2 : inR x2) (hx3 : inR x3) (hx4 : inR x4) (hx5 : inR x5) (hx6 : inR x6) (h : fX2_init N A y0 y1 x2 x3 x4 x5 x6 = some out) : CT g l yX2_init cX2_init 7 none d [.ref (gB g + y0), rv g y1, vI x2, vI x3, vI x4, vI x5, vI x6] A ((0, none, out) : JO) (True) :=
  CT_of (by decide +kernel) hl (by first | exact Nat.le_of_ble_eq_true rfl | (unfold rv; split <;> exact Nat.le_of_ble_eq_true rfl)) (by first | rfl | (unfold rv; split <;> rfl)) (j_sub (lv := [(0, .ref (gB g + y0)), (1, rv g y1), (2, vI x2), (3, vI x3), (4, vI x4), (5, vI x5), (6, vI x6)]) [0, 1, 2, 3, 4, 5, 6] rfl (tX2_init_0 hl hd hy0 hy1 hx2 hx3 hx4 hx5 hx6 h))
set_option maxRecDepth 100000 in
theorem tX2_touchesNight_5 {g : JG} {l : Launch} {d N n0 s0 : Nat} {out : Int} {A : AH} {y0 : Nat} (hl : l.stackTraces = false) (hd : 1 ≤ d) (hy0 : isLeg A y0) : ∀ (n : Nat) (x1 : Int), inR x1 → fX2_touchesNight_5 N A y0 n x1 = some out → J g l d RX2 "touchesNight" cX2_touchesNight 2 (some .boolean) n0 s0 ((0, some (vI out), A) : JO) ((out = 0 ∨ out = 1)) 5 [(0, .ref (gB g + y0)), (1, vI x1)] [] A := by
  intro n
  induction n with
  | zero =>
    intro x1 hx1 h
    rw [fX2_touchesNight_5] at h
    cases h
  | succ n ih =>
    intro x1 hx1 h
    rw [fX2_touchesNight_5] at h
    refine j_iload_n (j := 1) dX2_touchesNight_5 rfl rfl ?_
    refine j_aload_n (j := 0) dX2_touchesNight_6 rfl rfl ?_
    refine j_getI FX2_28 rfl dX2_touchesNight_7 hy0.pos hy0.lt hy0.ka (fun r1 => ?_)
    by_cases c2 : (gI A y0 5) ≤ x1
    · rw [if_pos c2] at h
      refine j_icmp_ge_t hx1 r1 dX2_touchesNight_10 (tgt := 30) (by decide) c2 ?_
      refine j_iconst dX2_touchesNight_30 ?_
      cases h
      exact j_iret dX2_touchesNight_31 rfl ((nar_bool (Or.inl rfl)).1) rfl (Or.inl rfl)
    · rw [if_neg c2] at h
      refine j_icmp_ge_f hx1 r1 dX2_touchesNight_10 (tgt := 30) (by decide) c2 ?_
      refine j_iload_n (j := 1) dX2_touchesNight_13 rfl rfl ?_
      refine j_bipush dX2_touchesNight_14 rfl ?_
      refine j_irem hx1 (inR_lit _ rfl) (by decide) dX2_touchesNight_16 ?_
      refine j_bipush dX2_touchesNight_17 rfl ?_
      by_cases c3 : 6 ≤ (Int.tmod x1 24)
      · rw [if_pos c3] at h
        refine j_icmp_ge_t (tmod_inR _ hx1) (inR_lit _ rfl) dX2_touchesNight_19 (tgt := 24) (by decide) c3 ?_
        obtain ⟨u4, eu4, h⟩ := bnd_elim h
        have hu4 : inR u4 := by rw [eu4]; exact wrap_inR _
        refine j_iincN (k := 1) (lv' := [(1, vI u4), (0, .ref (gB g + y0))]) eu4 dX2_touchesNight_24 rfl (by decide) (by first | rfl | (simp only [List.all_cons, List.all_nil, rv_cat]; rfl)) rfl ?_
        refine j_goto (tgt := 5) dX2_touchesNight_27 (by decide) ?_
        exact j_sub [1, 0] rfl (ih u4 hu4 h)
      · rw [if_neg c3] at h
        refine j_icmp_ge_f (tmod_inR _ hx1) (inR_lit _ rfl) dX2_touchesNight_19 (tgt := 24) (by decide) c3 ?_
        refine j_iconst dX2_touchesNight_22 ?_
        cases h
        exact j_iret dX2_touchesNight_23 rfl ((nar_bool (Or.inr rfl)).1) rfl (Or.inr rfl)
set_option maxRecDepth 100000 in
theorem tX2_touchesNight_0 {g : JG} {l : Launch} {d N n0 s0 : Nat} {out : Int} {A : AH} {y0 : Nat} (hl : l.stackTraces = false) (hd : 1 ≤ d) (hy0 : isLeg A y0) (h : fX2_touchesNight N A y0 = some out) : J g l d RX2 "touchesNight" cX2_touchesNight 2 (some .boolean) n0 s0 ((0, some (vI out), A) : JO) ((out = 0 ∨ out = 1)) 0 [(0, .ref (gB g + y0))] [] A := by
  unfold fX2_touchesNight at h
  refine j_aload_n (j := 0) dX2_touchesNight_0 rfl rfl ?_
  refine j_getI FX2_25 rfl dX2_touchesNight_1 hy0.pos hy0.lt hy0.ka (fun r1 => ?_)
  obtain ⟨u2, eu2, h⟩ := bnd_elim h
  have hu2 : inR u2 := by rw [eu2]; exact r1
  refine j_nm eu2 ?_
  refine j_istore_n (lv' := [(1, vI u2), (0, .ref (gB g + y0))]) dX2_touchesNight_4 rfl (by decide) (by first | rfl | (simp only [List.all_cons, List.all_nil, rv_cat]; rfl)) rfl ?_
  exact j_sub [1, 0] rfl (tX2_touchesNight_5 hl (by omega) hy0  N u2 hu2 h)
theorem ctX2_touchesNight {g : JG} {l : Launch} {d N : Nat} {A : AH} {out : Int} {y0 : Nat} (hl : l.stackTraces = false) (hd : 1 ≤ d) (hy0 : isLeg A y0) (h : fX2_touchesNight N A y0 = some out) : CT g l yX2_touchesNight cX2_touchesNight 2 (some .boolean) d [.ref (gB g + y0)] A ((0, some (vI out), A) : JO) ((out = 0 ∨ out = 1)) :=
  CT_of (by decide +kernel) hl (by first | exact Nat.le_of_ble_eq_true rfl | (unfold rv; split <;> exact Nat.le_of_ble_eq_true rfl)) (by first | rfl | (unfold rv; split <;> rfl)) (j_sub (lv := [(0, .ref (gB g + y0))]) [0] rfl (tX2_touchesNight_0 hl hd hy0 h))
set_option maxRecDepth 100000 in
theorem tX3_setOpen_0 {g : JG} {l : Launch} {d N n0 s0 : Nat} {out : AH} {A : AH} {y0 : Nat} (hl : l.stackTraces = false) (hd : 1 ≤ d) (hy0 : VK 3 y0) (h : fX3_setOpen N A y0 = some out) : J g l d RX3 "setOpen" cX3_setOpen 1 none n0 s0 ((0, none, out) : JO) (True) 0 [(0, .ref (gB g + y0))] [] A := by
  unfold fX3_setOpen at h
  refine j_aload_n (j := 0) dX3_setOpen_0 rfl rfl ?_
  refine j_iconst dX3_setOpen_1 ?_
  obtain ⟨A1, eA1, h⟩ := bnd_elim h
  have xA1 : XT A A1 := by rw [eA1]; exact XT_sI _ _ _ _
  refine j_putI FX3_42 rfl rfl rfl (inR_lit _ rfl) dX3_setOpen_2 hy0.1 hy0.lt hy0.ka ?_
  refine j_hB eA1 ?_
  refine j_aload_n (j := 0) dX3_setOpen_5 rfl rfl ?_
  refine j_iconst dX3_setOpen_6 ?_
  obtain ⟨A2, eA2, h⟩ := bnd_elim h
  have xA2 : XT A1 A2 := by rw [eA2]; exact XT_sI _ _ _ _
  refine j_putI FX3_9 rfl rfl rfl (inR_lit _ rfl) dX3_setOpen_7 hy0.1 hy0.lt hy0.ka ?_
  refine j_hB eA2 ?_
  refine j_aload_n (j := 0) dX3_setOpen_10 rfl rfl ?_
  refine j_iconst dX3_setOpen_11 ?_
  obtain ⟨A3, eA3, h⟩ := bnd_elim h
  have xA3 : XT A2 A3 := by rw [eA3]; exact XT_sI _ _ _ _
  refine j_putI FX3_15 rfl rfl rfl (inR_lit _ rfl) dX3_setOpen_12 hy0.1 hy0.lt hy0.ka ?_
  refine j_hB eA3 ?_
  refine j_aload_n (j := 0) dX3_setOpen_15 rfl rfl ?_
  refine j_iconst dX3_setOpen_16 ?_
  obtain ⟨A4, eA4, h⟩ := bnd_elim h
  have xA4 : XT A3 A4 := by rw [eA4]; exact XT_sI _ _ _ _
  refine j_putI FX3_18 rfl rfl rfl (inR_lit _ rfl) dX3_setOpen_17 hy0.1 hy0.lt hy0.ka ?_
  refine j_hB eA4 ?_
  cases h
  exact j_vret dX3_setOpen_20 rfl rfl trivial
theorem ctX3_setOpen {g : JG} {l : Launch} {d N : Nat} {A : AH} {out : AH} {y0 : Nat} (hl : l.stackTraces = false) (hd : 1 ≤ d) (hy0 : VK 3 y0) (h : fX3_setOpen N A y0 = some out) : CT g l yX3_setOpen cX3_setOpen 1 none d [.ref (gB g + y0)] A ((0, none, out) : JO) (True) :=
  CT_of (by decide +kernel) hl (by first | exact Nat.le_of_ble_eq_true rfl | (unfold rv; split <;> exact Nat.le_of_ble_eq_true rfl)) (by first | rfl | (unfold rv; split <;> rfl)) (j_sub (lv := [(0, .ref (gB g + y0))]) [0] rfl (tX3_setOpen_0 hl hd hy0 h))
set_option maxRecDepth 100000 in
theorem tX3_start_0 {g : JG} {l : Launch} {d N n0 s0 : Nat} {out : AH} {A : AH} {y0 : Nat} {x1 : Int} {x2 : Int} {x3 : Int} {x4 : Int} {x5 : Int} (hl : l.stackTraces = false) (hd : 2 ≤ d) (hy0 : VK 3 y0) (hx1 : inR x1) (hx2 : inR x2) (hx3 : inR x3) (hx4 : inR x4) (hx5 : inR x5) (h : fX3_start N A y0 x1 x2 x3 x4 x5 = some out) : J g l d RX3 "start" cX3_start 6 none n0 s0 ((0, none, out) : JO) (True) 0 [(0, .ref (gB g + y0)), (1, vI x1), (2, vI x2), (3, vI x3), (4, vI x4), (5, vI x5)] [] A := by
  unfold fX3_start at h
  refine j_aload_n (j := 0) dX3_start_0 rfl rfl ?_
  refine j_iload_n (j := 1) dX3_start_1 rfl rfl ?_
  obtain ⟨A1, eA1, h⟩ := bnd_elim h
  have xA1 : XT A A1 := by rw [eA1]; exact XT_sI _ _ _ _
  refine j_putI FX3_21 rfl rfl rfl hx1 dX3_start_2 hy0.1 hy0.lt hy0.ka ?_
  refine j_hB eA1 ?_
  refine j_aload_n (j := 0) dX3_start_5 rfl rfl ?_
  refine j_iload_n (j := 2) dX3_start_6 rfl rfl ?_
  obtain ⟨A2, eA2, h⟩ := bnd_elim h
  have xA2 : XT A1 A2 := by rw [eA2]; exact XT_sI _ _ _ _
  refine j_putI FX3_24 rfl rfl rfl hx2 dX3_start_7 hy0.1 hy0.lt hy0.ka ?_
  refine j_hB eA2 ?_
  refine j_aload_n (j := 0) dX3_start_10 rfl rfl ?_
  refine j_iload_n (j := 3) dX3_start_11 rfl rfl ?_
  obtain ⟨A3, eA3, h⟩ := bnd_elim h
  have xA3 : XT A2 A3 := by rw [eA3]; exact XT_sI _ _ _ _
  refine j_putI FX3_27 rfl rfl rfl hx3 dX3_start_12 hy0.1 hy0.lt hy0.ka ?_
  refine j_hB eA3 ?_
  refine j_aload_n (j := 0) dX3_start_15 rfl rfl ?_
  refine j_iload (j := 4) dX3_start_16 rfl ?_
  obtain ⟨A4, eA4, h⟩ := bnd_elim h
  have xA4 : XT A3 A4 := by rw [eA4]; exact XT_sI _ _ _ _
  refine j_putI FX3_30 rfl rfl rfl hx4 dX3_start_18 hy0.1 hy0.lt hy0.ka ?_
  refine j_hB eA4 ?_
  refine j_aload_n (j := 0) dX3_start_21 rfl rfl ?_
  refine j_iload (j := 5) dX3_start_22 rfl ?_
  obtain ⟨A5, eA5, h⟩ := bnd_elim h
  have xA5 : XT A4 A5 := by rw [eA5]; exact XT_sI _ _ _ _
  refine j_putI FX3_33 rfl rfl rfl hx5 dX3_start_24 hy0.1 hy0.lt hy0.ka ?_
  refine j_hB eA5 ?_
  refine j_aload_n (j := 0) dX3_start_27 rfl rfl ?_
  refine j_iconst dX3_start_28 ?_
  obtain ⟨A6, eA6, h⟩ := bnd_elim h
  have xA6 : XT A5 A6 := by rw [eA6]; exact XT_sI _ _ _ _
  refine j_putI FX3_36 rfl rfl rfl (inR_lit _ rfl) dX3_start_29 hy0.1 hy0.lt hy0.ka ?_
  refine j_hB eA6 ?_
  refine j_aload_n (j := 0) dX3_start_32 rfl rfl ?_
  obtain ⟨p8, e7, h⟩ := obind_elim h
  refine j_callV MX3_39 YX3_setOpen IX3_setOpen SX3_setOpen (by decide) rfl (by decide) (by omega) (Nat.le_of_ble_eq_true rfl) rfl (ctX3_setOpen (d := d - 1) hl (by omega) hy0 e7) dX3_start_33 hy0.1 hy0.lt hy0.ka rfl (fun z9 xt10 => ?_)
  cases h
  exact j_vret dX3_start_36 rfl rfl trivial
theorem ctX3_start {g : JG} {l : Launch} {d N : Nat} {A : AH} {out : AH} {y0 : Nat} {x1 : Int} {x2 : Int} {x3 : Int} {x4 : Int} {x5 : Int} (hl : l.stackTraces = false) (hd : 2 ≤ d) (hy0 : VK 3 y0) (hx1 : inR x1) (hx2 : inR x2) (hx3 : inR x3) (hx4 : inR x4) (hx5 : inR x5) (h : fX3_start N A y0 x1 x2 x3 x4 x5 = some out) : CT g l yX3_start cX3_start 6 none d [.ref (gB g + y0), vI x1, vI x2, vI x3, vI x4, vI x5] A ((0, none, out) : JO) (True) :=
  CT_of (by decide +kernel) hl (by first | exact Nat.le_of_ble_eq_true rfl | (unfold rv; split <;> exact Nat.le_of_ble_eq_true rfl)) (by first | rfl | (unfold rv; split <;> rfl)) (j_sub (lv := [(0, .ref (gB g + y0)), (1, vI x1), (2, vI x2), (3, vI x3), (4, vI x4), (5, vI x5)]) [0, 1, 2, 3, 4, 5] rfl (tX3_start_0 hl hd hy0 hx1 hx2 hx3 hx4 hx5 h))
set_option maxRecDepth 100000 in
theorem tX3_tripHours_0 {g : JG} {l : Launch} {d N n0 s0 : Nat} {out : Int} {A : AH} {y0 : Nat} (hl : l.stackTraces = false) (hd : 1 ≤ d) (hy0 : VK 3 y0) (h : fX3_tripHours N A y0 = some out) : J g l d RX3 "tripHours" cX3_tripHours 1 (some .int) n0 s0 ((0, some (vI out), A) : JO) (inR out) 0 [(0, .ref (gB g + y0))] [] A := by
  unfold fX3_tripHours at h
  refine j_aload_n (j := 0) dX3_tripHours_0 rfl rfl ?_
  refine j_getI FX3_21 rfl dX3_tripHours_1 hy0.1 hy0.lt hy0.ka (fun r1 => ?_)
  refine j_iconst dX3_tripHours_4 ?_
  refine j_iadd dX3_tripHours_5 ?_
  cases h
  exact j_iret dX3_tripHours_6 rfl rfl rfl (wrap_inR _)
theorem ctX3_tripHours {g : JG} {l : Launch} {d N : Nat} {A : AH} {out : Int} {y0 : Nat} (hl : l.stackTraces = false) (hd : 1 ≤ d) (hy0 : VK 3 y0) (h : fX3_tripHours N A y0 = some out) : CT g l yX3_tripHours cX3_tripHours 1 (some .int) d [.ref (gB g + y0)] A ((0, some (vI out), A) : JO) (inR out) :=
  CT_of (by decide +kernel) hl (by first | exact Nat.le_of_ble_eq_true rfl | (unfold rv; split <;> exact Nat.le_of_ble_eq_true rfl)) (by first | rfl | (unfold rv; split <;> rfl)) (j_sub (lv := [(0, .ref (gB g + y0))]) [0] rfl (tX3_tripHours_0 hl hd hy0 h))
set_option maxRecDepth 100000 in
theorem tX3_setPlanned_0 {g : JG} {l : Launch} {d N n0 s0 : Nat} {out : AH} {A : AH} {y0 : Nat} {x1 : Int} {x2 : Int} (hl : l.stackTraces = false) (hd : 2 ≤ d) (hy0 : VK 3 y0) (hx1 : inR x1) (hx2 : inR x2) (h : fX3_setPlanned N A y0 x1 x2 = some out) : J g l d RX3 "setPlanned" cX3_setPlanned 3 none n0 s0 ((0, none, out) : JO) (True) 0 [(0, .ref (gB g + y0)), (1, vI x1), (2, vI x2)] [] A := by
  unfold fX3_setPlanned at h
  refine j_aload_n (j := 0) dX3_setPlanned_0 rfl rfl ?_
  refine j_iconst dX3_setPlanned_1 ?_
  obtain ⟨A1, eA1, h⟩ := bnd_elim h
  have xA1 : XT A A1 := by rw [eA1]; exact XT_sI _ _ _ _
  refine j_putI FX3_42 rfl rfl rfl (inR_lit _ rfl) dX3_setPlanned_2 hy0.1 hy0.lt hy0.ka ?_
  refine j_hB eA1 ?_
  refine j_aload_n (j := 0) dX3_setPlanned_5 rfl rfl ?_
  refine j_iload_n (j := 1) dX3_setPlanned_6 rfl rfl ?_
  obtain ⟨A2, eA2, h⟩ := bnd_elim h
  have xA2 : XT A1 A2 := by rw [eA2]; exact XT_sI _ _ _ _
  refine j_putI FX3_9 rfl rfl rfl hx1 dX3_setPlanned_7 hy0.1 hy0.lt hy0.ka ?_
  refine j_hB eA2 ?_
  refine j_aload_n (j := 0) dX3_setPlanned_10 rfl rfl ?_
  refine j_iload_n (j := 2) dX3_setPlanned_11 rfl rfl ?_
  obtain ⟨A3, eA3, h⟩ := bnd_elim h
  have xA3 : XT A2 A3 := by rw [eA3]; exact XT_sI _ _ _ _
  refine j_putI FX3_15 rfl rfl rfl hx2 dX3_setPlanned_12 hy0.1 hy0.lt hy0.ka ?_
  refine j_hB eA3 ?_
  refine j_aload_n (j := 0) dX3_setPlanned_15 rfl rfl ?_
  refine j_iload_n (j := 2) dX3_setPlanned_16 rfl rfl ?_
  refine j_aload_n (j := 0) dX3_setPlanned_17 rfl rfl ?_
  obtain ⟨z5, e4, h⟩ := obind_elim h
  refine j_callV MX3_45 YX3_tripHours IX3_tripHours SX3_tripHours (by decide) rfl (by decide) (by omega) (Nat.le_of_ble_eq_true rfl) rfl (ctX3_tripHours (d := d - 1) hl (by omega) hy0 e4) dX3_setPlanned_18 hy0.1 hy0.lt hy0.ka rfl (fun z6 _ => ?_)
  refine j_iadd dX3_setPlanned_21 ?_
  obtain ⟨A8, eA8, h⟩ := bnd_elim h
  have xA8 : XT A3 A8 := by rw [eA8]; exact XT_sI _ _ _ _
  refine j_putI FX3_18 rfl rfl rfl (wrap_inR _) dX3_setPlanned_22 hy0.1 hy0.lt hy0.ka ?_
  refine j_hB eA8 ?_
  cases h
  exact j_vret dX3_setPlanned_25 rfl rfl trivial
theorem ctX3_setPlanned {g : JG} {l : Launch} {d N : Nat} {A : AH} {out : AH} {y0 : Nat} {x1 : Int} {x2 : Int} (hl : l.stackTraces = false) (hd : 2 ≤ d) (hy0 : VK 3 y0) (hx1 : inR x1) (hx2 : inR x2) (h : fX3_setPlanned N A y0 x1 x2 = some out) : CT g l yX3_setPlanned cX3_setPlanned 3 none d [.ref (gB g + y0), vI x1, vI x2] A ((0, none, out) : JO) (True) :=
  CT_of (by decide +kernel) hl (by first | exact Nat.le_of_ble_eq_true rfl | (unfold rv; split <;> exact Nat.le_of_ble_eq_true rfl)) (by first | rfl | (unfold rv; split <;> rfl)) (j_sub (lv := [(0, .ref (gB g + y0)), (1, vI x1), (2, vI x2)]) [0, 1, 2] rfl (tX3_setPlanned_0 hl hd hy0 hx1 hx2 h))
set_option maxRecDepth 100000 in
theorem tX3_origin_0 {g : JG} {l : Launch} {d N n0 s0 : Nat} {out : Int} {A : AH} {y0 : Nat} (hl : l.stackTraces = false) (hd : 1 ≤ d) (hy0 : VK 3 y0) (h : fX3_origin N A y0 = some out) : J g l d RX3 "origin" cX3_origin 1 (some .int) n0 s0 ((0, some (vI out), A) : JO) (inR out) 0 [(0, .ref (gB g + y0))] [] A := by
  unfold fX3_origin at h
  refine j_aload_n (j := 0) dX3_origin_0 rfl rfl ?_
  refine j_getI FX3_24 rfl dX3_origin_1 hy0.1 hy0.lt hy0.ka (fun r1 => ?_)
  refine j_iconst dX3_origin_4 ?_
  by_cases c2 : (gI A y0 1) = 1
  · rw [if_pos c2] at h
    refine j_icmp_ne_f r1 (inR_lit _ rfl) dX3_origin_5 (tgt := 12) (by decide) (fun q => q c2) ?_
    refine j_iconst dX3_origin_8 ?_
    refine j_goto (tgt := 13) dX3_origin_9 (by decide) ?_
    cases h
    exact j_iret dX3_origin_13 rfl rfl rfl (inR_lit _ rfl)
  · rw [if_neg c2] at h
    refine j_icmp_ne_t r1 (inR_lit _ rfl) dX3_origin_5 (tgt := 12) (by decide) c2 ?_
    refine j_iconst dX3_origin_12 ?_
    cases h
    exact j_iret dX3_origin_13 rfl rfl rfl (inR_lit _ rfl)
theorem ctX3_origin {g : JG} {l : Launch} {d N : Nat} {A : AH} {out : Int} {y0 : Nat} (hl : l.stackTraces = false) (hd : 1 ≤ d) (hy0 : VK 3 y0) (h : fX3_origin N A y0 = some out) : CT g l yX3_origin cX3_origin 1 (some .int) d [.ref (gB g + y0)] A ((0, some (vI out), A) : JO) (inR out) :=
  CT_of (by decide +kernel) hl (by first | exact Nat.le_of_ble_eq_true rfl | (unfold rv; split <;> exact Nat.le_of_ble_eq_true rfl)) (by first | rfl | (unfold rv; split <;> rfl)) (j_sub (lv := [(0, .ref (gB g + y0))]) [0] rfl (tX3_origin_0 hl hd hy0 h))
set_option maxRecDepth 100000 in
theorem tX3_goal_0 {g : JG} {l : Launch} {d N n0 s0 : Nat} {out : Int} {A : AH} {y0 : Nat} (hl : l.stackTraces = false) (hd : 1 ≤ d) (hy0 : VK 3 y0) (h : fX3_goal N A y0 = some out) : J g l d RX3 "goal" cX3_goal 1 (some .int) n0 s0 ((0, some (vI out), A) : JO) (inR out) 0 [(0, .ref (gB g + y0))] [] A := by
  unfold fX3_goal at h
  refine j_aload_n (j := 0) dX3_goal_0 rfl rfl ?_
  refine j_getI FX3_24 rfl dX3_goal_1 hy0.1 hy0.lt hy0.ka (fun r1 => ?_)
  refine j_iconst dX3_goal_4 ?_
  by_cases c2 : (gI A y0 1) = 1
  · rw [if_pos c2] at h
    refine j_icmp_ne_f r1 (inR_lit _ rfl) dX3_goal_5 (tgt := 12) (by decide) (fun q => q c2) ?_
    refine j_iconst dX3_goal_8 ?_
    refine j_goto (tgt := 13) dX3_goal_9 (by decide) ?_
    cases h
    exact j_iret dX3_goal_13 rfl rfl rfl (inR_lit _ rfl)
  · rw [if_neg c2] at h
    refine j_icmp_ne_t r1 (inR_lit _ rfl) dX3_goal_5 (tgt := 12) (by decide) c2 ?_
    refine j_iconst dX3_goal_12 ?_
    cases h
    exact j_iret dX3_goal_13 rfl rfl rfl (inR_lit _ rfl)
theorem ctX3_goal {g : JG} {l : Launch} {d N : Nat} {A : AH} {out : Int} {y0 : Nat} (hl : l.stackTraces = false) (hd : 1 ≤ d) (hy0 : VK 3 y0) (h : fX3_goal N A y0 = some out) : CT g l yX3_goal cX3_goal 1 (some .int) d [.ref (gB g + y0)] A ((0, some (vI out), A) : JO) (inR out) :=
  CT_of (by decide +kernel) hl (by first | exact Nat.le_of_ble_eq_true rfl | (unfold rv; split <;> exact Nat.le_of_ble_eq_true rfl)) (by first | rfl | (unfold rv; split <;> rfl)) (j_sub (lv := [(0, .ref (gB g + y0))]) [0] rfl (tX3_goal_0 hl hd hy0 h))
set_option maxRecDepth 100000 in
theorem tX3_hasTrip_0 {g : JG} {l : Launch} {d N n0 s0 : Nat} {out : Int} {A : AH} {y0 : Nat} (hl : l.stackTraces = false) (hd : 1 ≤ d) (hy0 : VK 3 y0) (h : fX3_hasTrip N A y0 = some out) : J g l d RX3 "hasTrip" cX3_hasTrip 1 (some .boolean) n0 s0 ((0, some (vI out), A) : JO) ((out = 0 ∨ out = 1)) 0 [(0, .ref (gB g + y0))] [] A := by
  unfold fX3_hasTrip at h
  refine j_aload_n (j := 0) dX3_hasTrip_0 rfl rfl ?_
  refine j_getI FX3_42 rfl dX3_hasTrip_1 hy0.1 hy0.lt hy0.ka (fun r1 => ?_)
  refine j_iconst dX3_hasTrip_4 ?_
  by_cases c2 : (gI A y0 5) = 1
  · rw [if_pos c2] at h
    refine j_icmp_eq_t r1 (inR_lit _ rfl) dX3_hasTrip_5 (tgt := 16) (by decide) c2 ?_
    refine j_iconst dX3_hasTrip_16 ?_
    refine j_goto (tgt := 21) dX3_hasTrip_17 (by decide) ?_
    cases h
    exact j_iret dX3_hasTrip_21 rfl ((nar_bool (Or.inr rfl)).1) rfl (Or.inr rfl)
  · rw [if_neg c2] at h
    refine j_icmp_eq_f r1 (inR_lit _ rfl) dX3_hasTrip_5 (tgt := 16) (by decide) c2 ?_
    refine j_aload_n (j := 0) dX3_hasTrip_8 rfl rfl ?_
    refine j_getI FX3_42 rfl dX3_hasTrip_9 hy0.1 hy0.lt hy0.ka (fun r3 => ?_)
    refine j_iconst dX3_hasTrip_12 ?_
    by_cases c4 : (gI A y0 5) = 2
    · rw [if_pos c4] at h
      refine j_icmp_ne_f r3 (inR_lit _ rfl) dX3_hasTrip_13 (tgt := 20) (by decide) (fun q => q c4) ?_
      refine j_iconst dX3_hasTrip_16 ?_
      refine j_goto (tgt := 21) dX3_hasTrip_17 (by decide) ?_
      cases h
      exact j_iret dX3_hasTrip_21 rfl ((nar_bool (Or.inr rfl)).1) rfl (Or.inr rfl)
    · rw [if_neg c4] at h
      refine j_icmp_ne_t r3 (inR_lit _ rfl) dX3_hasTrip_13 (tgt := 20) (by decide) c4 ?_
      refine j_iconst dX3_hasTrip_20 ?_
      cases h
      exact j_iret dX3_hasTrip_21 rfl ((nar_bool (Or.inl rfl)).1) rfl (Or.inl rfl)
theorem ctX3_hasTrip {g : JG} {l : Launch} {d N : Nat} {A : AH} {out : Int} {y0 : Nat} (hl : l.stackTraces = false) (hd : 1 ≤ d) (hy0 : VK 3 y0) (h : fX3_hasTrip N A y0 = some out) : CT g l yX3_hasTrip cX3_hasTrip 1 (some .boolean) d [.ref (gB g + y0)] A ((0, some (vI out), A) : JO) ((out = 0 ∨ out = 1)) :=
  CT_of (by decide +kernel) hl (by first | exact Nat.le_of_ble_eq_true rfl | (unfold rv; split <;> exact Nat.le_of_ble_eq_true rfl)) (by first | rfl | (unfold rv; split <;> rfl)) (j_sub (lv := [(0, .ref (gB g + y0))]) [0] rfl (tX3_hasTrip_0 hl hd hy0 h))
set_option maxRecDepth 100000 in
theorem tX3_reasonAgainstDelay_0 {g : JG} {l : Launch} {d N n0 s0 : Nat} {out : Int} {A : AH} {y0 : Nat} (hl : l.stackTraces = false) (hd : 1 ≤ d) (hy0 : VK 3 y0) (h : fX3_reasonAgainstDelay N A y0 = some out) : J g l d RX3 "reasonAgainstDelay" cX3_reasonAgainstDelay 1 (some .int) n0 s0 ((0, some (vI out), A) : JO) (inR out) 0 [(0, .ref (gB g + y0))] [] A := by
  unfold fX3_reasonAgainstDelay at h
  refine j_aload_n (j := 0) dX3_reasonAgainstDelay_0 rfl rfl ?_
  refine j_getI FX3_42 rfl dX3_reasonAgainstDelay_1 hy0.1 hy0.lt hy0.ka (fun r1 => ?_)
  by_cases c2 : (gI A y0 5) = 0
  · rw [if_pos c2] at h
    refine j_if_eq_t r1 dX3_reasonAgainstDelay_4 (tgt := 9) (by decide) c2 ?_
    refine j_aload_n (j := 0) dX3_reasonAgainstDelay_9 rfl rfl ?_
    refine j_getI FX3_36 rfl dX3_reasonAgainstDelay_10 hy0.1 hy0.lt hy0.ka (fun r3 => ?_)
    refine j_iconst dX3_reasonAgainstDelay_13 ?_
    by_cases c4 : (gI A y0 9) < 2
    · rw [if_pos c4] at h
      refine j_icmp_lt_t r3 (inR_lit _ rfl) dX3_reasonAgainstDelay_14 (tgt := 22) (by decide) c4 ?_
      refine j_iconst dX3_reasonAgainstDelay_22 ?_
      cases h
      exact j_iret dX3_reasonAgainstDelay_23 rfl rfl rfl (inR_lit _ rfl)
    · rw [if_neg c4] at h
      refine j_icmp_lt_f r3 (inR_lit _ rfl) dX3_reasonAgainstDelay_14 (tgt := 22) (by decide) c4 ?_
      refine j_bipush dX3_reasonAgainstDelay_17 rfl ?_
      refine j_goto (tgt := 23) dX3_reasonAgainstDelay_19 (by decide) ?_
      cases h
      exact j_iret dX3_reasonAgainstDelay_23 rfl rfl rfl (inR_lit _ rfl)
  · rw [if_neg c2] at h
    refine j_if_eq_f r1 dX3_reasonAgainstDelay_4 (tgt := 9) (by decide) c2 ?_
    refine j_iconst dX3_reasonAgainstDelay_7 ?_
    cases h
    exact j_iret dX3_reasonAgainstDelay_8 rfl rfl rfl (inR_lit _ rfl)
theorem ctX3_reasonAgainstDelay {g : JG} {l : Launch} {d N : Nat} {A : AH} {out : Int} {y0 : Nat} (hl : l.stackTraces = false) (hd : 1 ≤ d) (hy0 : VK 3 y0) (h : fX3_reasonAgainstDelay N A y0 = some out) : CT g l yX3_reasonAgainstDelay cX3_reasonAgainstDelay 1 (some .int) d [.ref (gB g + y0)] A ((0, some (vI out), A) : JO) (inR out) :=
  CT_of (by decide +kernel) hl (by first | exact Nat.le_of_ble_eq_true rfl | (unfold rv; split <;> exact Nat.le_of_ble_eq_true rfl)) (by first | rfl | (unfold rv; split <;> rfl)) (j_sub (lv := [(0, .ref (gB g + y0))]) [0] rfl (tX3_reasonAgainstDelay_0 hl hd hy0 h))
set_option maxRecDepth 100000 in
theorem tX3_delay_0 {g : JG} {l : Launch} {d N n0 s0 : Nat} {out : AH} {A : AH} {y0 : Nat} {x1 : Int} (hl : l.stackTraces = false) (hd : 2 ≤ d) (hy0 : VK 3 y0) (hx1 : inR x1) (h : fX3_delay N A y0 x1 = some out) : J g l d RX3 "delay" cX3_delay 2 none n0 s0 ((0, none, out) : JO) (True) 0 [(0, .ref (gB g + y0)), (1, vI x1)] [] A := by
  unfold fX3_delay at h
  refine j_aload_n (j := 0) dX3_delay_0 rfl rfl ?_
  refine j_sipush dX3_delay_1 rfl ?_
  refine j_aload_n (j := 0) dX3_delay_4 rfl rfl ?_
  refine j_getI FX3_33 rfl dX3_delay_5 hy0.1 hy0.lt hy0.ka (fun r1 => ?_)
  refine j_iload_n (j := 1) dX3_delay_8 rfl rfl ?_
  refine j_iadd dX3_delay_9 ?_
  refine j_mmin (inR_lit _ rfl) (wrap_inR _) MX3_49 MMmina MMi MMminc dX3_delay_10 (Nat.le_of_ble_eq_true rfl) (by omega) ?_
  obtain ⟨A2, eA2, h⟩ := bnd_elim h
  have xA2 : XT A A2 := by rw [eA2]; exact XT_sI _ _ _ _
  refine j_putI FX3_33 rfl rfl rfl (min_inR (inR_lit _ rfl) (wrap_inR _)) dX3_delay_13 hy0.1 hy0.lt hy0.ka ?_
  refine j_hB eA2 ?_
  refine j_aload_n (j := 0) dX3_delay_16 rfl rfl ?_
  refine j_dup dX3_delay_17 rfl ?_
  refine j_getI FX3_36 rfl dX3_delay_18 hy0.1 hy0.lt hy0.ka (fun r3 => ?_)
  refine j_iconst dX3_delay_21 ?_
  refine j_iadd dX3_delay_22 ?_
  obtain ⟨A4, eA4, h⟩ := bnd_elim h
  have xA4 : XT A2 A4 := by rw [eA4]; exact XT_sI _ _ _ _
  refine j_putI FX3_36 rfl rfl rfl (wrap_inR _) dX3_delay_23 hy0.1 hy0.lt hy0.ka ?_
  refine j_hB eA4 ?_
  cases h
  exact j_vret dX3_delay_26 rfl rfl trivial
theorem ctX3_delay {g : JG} {l : Launch} {d N : Nat} {A : AH} {out : AH} {y0 : Nat} {x1 : Int} (hl : l.stackTraces = false) (hd : 2 ≤ d) (hy0 : VK 3 y0) (hx1 : inR x1) (h : fX3_delay N A y0 x1 = some out) : CT g l yX3_delay cX3_delay 2 none d [.ref (gB g + y0), vI x1] A ((0, none, out) : JO) (True) :=
  CT_of (by decide +kernel) hl (by first | exact Nat.le_of_ble_eq_true rfl | (unfold rv; split <;> exact Nat.le_of_ble_eq_true rfl)) (by first | rfl | (unfold rv; split <;> rfl)) (j_sub (lv := [(0, .ref (gB g + y0)), (1, vI x1)]) [0, 1] rfl (tX3_delay_0 hl hd hy0 hx1 h))
set_option maxRecDepth 100000 in
theorem tX3_isMoreUrgentThan_0 {g : JG} {l : Launch} {d N n0 s0 : Nat} {out : Int} {A : AH} {y0 : Nat} {y1 : Nat} (hl : l.stackTraces = false) (hd : 1 ≤ d) (hy0 : VK 3 y0) (hy1 : VK 3 y1) (h : fX3_isMoreUrgentThan N A y0 y1 = some out) : J g l d RX3 "isMoreUrgentThan" cX3_isMoreUrgentThan 2 (some .boolean) n0 s0 ((0, some (vI out), A) : JO) ((out = 0 ∨ out = 1)) 0 [(0, .ref (gB g + y0)), (1, .ref (gB g + y1))] [] A := by
  unfold fX3_isMoreUrgentThan at h
  refine j_aload_n (j := 0) dX3_isMoreUrgentThan_0 rfl rfl ?_
  refine j_getI FX3_33 rfl dX3_isMoreUrgentThan_1 hy0.1 hy0.lt hy0.ka (fun r1 => ?_)
  refine j_aload_n (j := 1) dX3_isMoreUrgentThan_4 rfl rfl ?_
  refine j_getI FX3_33 rfl dX3_isMoreUrgentThan_5 hy1.1 hy1.lt hy1.ka (fun r2 => ?_)
  by_cases c3 : (gI A y0 4) = (gI A y1 4)
  · rw [if_pos c3] at h
    refine j_icmp_eq_t r1 r2 dX3_isMoreUrgentThan_8 (tgt := 28) (by decide) c3 ?_
    refine j_aload_n (j := 0) dX3_isMoreUrgentThan_28 rfl rfl ?_
    refine j_getI FX3_30 rfl dX3_isMoreUrgentThan_29 hy0.1 hy0.lt hy0.ka (fun r4 => ?_)
    refine j_aload_n (j := 1) dX3_isMoreUrgentThan_32 rfl rfl ?_
    refine j_getI FX3_30 rfl dX3_isMoreUrgentThan_33 hy1.1 hy1.lt hy1.ka (fun r5 => ?_)
    by_cases c6 : (gI A y1 3) ≤ (gI A y0 3)
    · rw [if_pos c6] at h
      refine j_icmp_ge_t r4 r5 dX3_isMoreUrgentThan_36 (tgt := 43) (by decide) c6 ?_
      refine j_iconst dX3_isMoreUrgentThan_43 ?_
      cases h
      exact j_iret dX3_isMoreUrgentThan_44 rfl ((nar_bool (Or.inl rfl)).1) rfl (Or.inl rfl)
    · rw [if_neg c6] at h
      refine j_icmp_ge_f r4 r5 dX3_isMoreUrgentThan_36 (tgt := 43) (by decide) c6 ?_
      refine j_iconst dX3_isMoreUrgentThan_39 ?_
      refine j_goto (tgt := 44) dX3_isMoreUrgentThan_40 (by decide) ?_
      cases h
      exact j_iret dX3_isMoreUrgentThan_44 rfl ((nar_bool (Or.inr rfl)).1) rfl (Or.inr rfl)
  · rw [if_neg c3] at h
    refine j_icmp_eq_f r1 r2 dX3_isMoreUrgentThan_8 (tgt := 28) (by decide) c3 ?_
    refine j_aload_n (j := 0) dX3_isMoreUrgentThan_11 rfl rfl ?_
    refine j_getI FX3_33 rfl dX3_isMoreUrgentThan_12 hy0.1 hy0.lt hy0.ka (fun r7 => ?_)
    refine j_aload_n (j := 1) dX3_isMoreUrgentThan_15 rfl rfl ?_
    refine j_getI FX3_33 rfl dX3_isMoreUrgentThan_16 hy1.1 hy1.lt hy1.ka (fun r8 => ?_)
    by_cases c9 : (gI A y1 4) ≤ (gI A y0 4)
    · rw [if_pos c9] at h
      refine j_icmp_ge_t r7 r8 dX3_isMoreUrgentThan_19 (tgt := 26) (by decide) c9 ?_
      refine j_iconst dX3_isMoreUrgentThan_26 ?_
      cases h
      exact j_iret dX3_isMoreUrgentThan_27 rfl ((nar_bool (Or.inl rfl)).1) rfl (Or.inl rfl)
    · rw [if_neg c9] at h
      refine j_icmp_ge_f r7 r8 dX3_isMoreUrgentThan_19 (tgt := 26) (by decide) c9 ?_
      refine j_iconst dX3_isMoreUrgentThan_22 ?_
      refine j_goto (tgt := 27) dX3_isMoreUrgentThan_23 (by decide) ?_
      cases h
      exact j_iret dX3_isMoreUrgentThan_27 rfl ((nar_bool (Or.inr rfl)).1) rfl (Or.inr rfl)
theorem ctX3_isMoreUrgentThan {g : JG} {l : Launch} {d N : Nat} {A : AH} {out : Int} {y0 : Nat} {y1 : Nat} (hl : l.stackTraces = false) (hd : 1 ≤ d) (hy0 : VK 3 y0) (hy1 : VK 3 y1) (h : fX3_isMoreUrgentThan N A y0 y1 = some out) : CT g l yX3_isMoreUrgentThan cX3_isMoreUrgentThan 2 (some .boolean) d [.ref (gB g + y0), .ref (gB g + y1)] A ((0, some (vI out), A) : JO) ((out = 0 ∨ out = 1)) :=
  CT_of (by decide +kernel) hl (by first | exact Nat.le_of_ble_eq_true rfl | (unfold rv; split <;> exact Nat.le_of_ble_eq_true rfl)) (by first | rfl | (unfold rv; split <;> rfl)) (j_sub (lv := [(0, .ref (gB g + y0)), (1, .ref (gB g + y1))]) [0, 1] rfl (tX3_isMoreUrgentThan_0 hl hd hy0 hy1 h))
set_option maxRecDepth 100000 in
theorem tX7_set_0 {g : JG} {l : Launch} {d N n0 s0 : Nat} {out : AH} {A : AH} {x1 : Int} {x2 : Int} {x3 : Int} (hl : l.stackTraces = false) (hd : 1 ≤ d) (hx1 : inR x1) (hx2 : inR x2) (hx3 : inR x3) (h : fX7_set N A x1 x2 x3 = some out) : J g l d RX7 "set" cX7_set 4 none n0 s0 ((0, none, out) : JO) (True) 0 [(0, .ref (gB g + 347)), (1, vI x1), (2, vI x2), (3, vI x3)] [] A := by
  unfold fX7_set at h
  refine j_aload_n (j := 0) dX7_set_0 rfl rfl ?_
  refine j_iload_n (j := 1) dX7_set_1 rfl rfl ?_
  obtain ⟨A1, eA1, h⟩ := bnd_elim h
  have xA1 : XT A A1 := by rw [eA1]; exact XT_sI _ _ _ _
  refine j_putI FX7_7 rfl rfl rfl hx1 dX7_set_2 (VK_c 7 347 rfl).1 (VK_c 7 347 rfl).lt (VK_c 7 347 rfl).ka ?_
  refine j_hB eA1 ?_
  refine j_aload_n (j := 0) dX7_set_5 rfl rfl ?_
  refine j_iload_n (j := 2) dX7_set_6 rfl rfl ?_
  obtain ⟨A2, eA2, h⟩ := bnd_elim h
  have xA2 : XT A1 A2 := by rw [eA2]; exact XT_sI _ _ _ _
  refine j_putI FX7_13 rfl rfl rfl hx2 dX7_set_7 (VK_c 7 347 rfl).1 (VK_c 7 347 rfl).lt (VK_c 7 347 rfl).ka ?_
  refine j_hB eA2 ?_
  refine j_aload_n (j := 0) dX7_set_10 rfl rfl ?_
  refine j_iload_n (j := 3) dX7_set_11 rfl rfl ?_
  obtain ⟨A3, eA3, h⟩ := bnd_elim h
  have xA3 : XT A2 A3 := by rw [eA3]; exact XT_sI _ _ _ _
  refine j_putI FX7_16 rfl rfl rfl hx3 dX7_set_12 (VK_c 7 347 rfl).1 (VK_c 7 347 rfl).lt (VK_c 7 347 rfl).ka ?_
  refine j_hB eA3 ?_
  cases h
  exact j_vret dX7_set_15 rfl rfl trivial
theorem ctX7_set {g : JG} {l : Launch} {d N : Nat} {A : AH} {out : AH} {x1 : Int} {x2 : Int} {x3 : Int} (hl : l.stackTraces = false) (hd : 1 ≤ d) (hx1 : inR x1) (hx2 : inR x2) (hx3 : inR x3) (h : fX7_set N A x1 x2 x3 = some out) : CT g l yX7_set cX7_set 4 none d [.ref (gB g + 347), vI x1, vI x2, vI x3] A ((0, none, out) : JO) (True) :=
  CT_of (by decide +kernel) hl (by first | exact Nat.le_of_ble_eq_true rfl | (unfold rv; split <;> exact Nat.le_of_ble_eq_true rfl)) (by first | rfl | (unfold rv; split <;> rfl)) (j_sub (lv := [(0, .ref (gB g + 347)), (1, vI x1), (2, vI x2), (3, vI x3)]) [0, 1, 2, 3] rfl (tX7_set_0 hl hd hx1 hx2 hx3 h))
