set_option maxRecDepth 100000 in
theorem tX9_window_0 {g : JG} {l : Launch} {d N n0 s0 : Nat} {out : Int × AH} {A : AH} {x1 : Int} {x2 : Int} (hl : l.stackTraces = false) (hd : 3 ≤ d) (hx1 : inR x1) (hx2 : inR x2) (h : fX9_window N A x1 x2 = some out) : J g l d RX9 "window" cX9_window 4 (some .int) n0 s0 ((0, some (vI out.1), out.2) : JO) (inR out.1) 0 [(0, .ref (gB g + 349)), (1, vI x1), (2, vI x2)] [] A := by
  unfold fX9_window at h
  refine j_aload_n (j := 0) dX9_window_0 rfl rfl ?_
  refine j_iload_n (j := 1) dX9_window_1 rfl rfl ?_
  obtain ⟨z2, e1, h⟩ := obind_elim h
  refine j_callV MX9_229 YX9_isOrder IX9_isOrder SX9_isOrder (by decide) rfl (by decide) (by omega) (Nat.le_of_ble_eq_true rfl) rfl (ctX9_isOrder (d := d - 1) hl (by omega) hx1 e1) dX9_window_2 (VK_c 9 349 rfl).1 (VK_c 9 349 rfl).lt (VK_c 9 349 rfl).ka rfl (fun z3 _ => ?_)
  by_cases c5 : z2 = 0
  · rw [if_pos c5] at h
    refine j_if_eq_t (bool_inR z3) dX9_window_5 (tgt := 15) (by decide) c5 ?_
    refine j_aload_n (j := 0) dX9_window_15 rfl rfl ?_
    refine j_iconst dX9_window_16 ?_
    obtain ⟨p7, e6, h⟩ := obind_elim h
    refine j_callV MX9_220 YX9_fails IX9_fails SX9_fails (by decide) rfl (by decide) (by omega) (Nat.le_of_ble_eq_true rfl) rfl (ctX9_fails (d := d - 1) hl (by omega) (inR_lit _ rfl) e6) dX9_window_17 (VK_c 9 349 rfl).1 (VK_c 9 349 rfl).lt (VK_c 9 349 rfl).ka rfl (fun z8 xt9 => ?_)
    cases h
    exact j_iret dX9_window_20 rfl rfl rfl z8
  · rw [if_neg c5] at h
    refine j_if_eq_f (bool_inR z3) dX9_window_5 (tgt := 15) (by decide) c5 ?_
    refine j_iload_n (j := 2) dX9_window_8 rfl rfl ?_
    obtain ⟨z11, e10, h⟩ := obind_elim h
    refine j_callS MX9_226 YX9_isHour IX9_isHour (by decide) (by omega) (Nat.le_of_ble_eq_true rfl) rfl (ctX9_isHour (d := d - 1) hl (by omega) hx2 e10) dX9_window_9 rfl (fun z12 _ => ?_)
    by_cases c14 : z11 = 0
    · rw [if_pos c14] at h
      refine j_if_ne_f (bool_inR z12) dX9_window_12 (tgt := 21) (by decide) (fun q => q c14) ?_
      refine j_aload_n (j := 0) dX9_window_15 rfl rfl ?_
      refine j_iconst dX9_window_16 ?_
      obtain ⟨p22, e21, h⟩ := obind_elim h
      refine j_callV MX9_220 YX9_fails IX9_fails SX9_fails (by decide) rfl (by decide) (by omega) (Nat.le_of_ble_eq_true rfl) rfl (ctX9_fails (d := d - 1) hl (by omega) (inR_lit _ rfl) e21) dX9_window_17 (VK_c 9 349 rfl).1 (VK_c 9 349 rfl).lt (VK_c 9 349 rfl).ka rfl (fun z23 xt24 => ?_)
      cases h
      exact j_iret dX9_window_20 rfl rfl rfl z23
    · rw [if_neg c14] at h
      refine j_if_ne_t (bool_inR z12) dX9_window_12 (tgt := 21) (by decide) c14 ?_
      refine j_iload_n (j := 2) dX9_window_21 rfl rfl ?_
      refine j_aload_n (j := 0) dX9_window_22 rfl rfl ?_
      refine j_getR (q := 355) FX9_25 rfl dX9_window_23 (by decide) (by decide) rfl rfl (by decide) ?_
      refine j_iload_n (j := 1) dX9_window_26 rfl rfl ?_
      obtain ⟨c15, h⟩ := chk_elim h
      refine j_iald hx1 (by decide) (by decide) rfl dX9_window_27 (VK_c 25 355 rfl).1 (VK_c 25 355 rfl).lt (VK_c 25 355 rfl).ka c15 (fun r16 => ?_)
      by_cases c17 : x2 ≤ (gI A 355 x1.toNat)
      · rw [if_pos c17] at h
        refine j_icmp_le_t hx2 r16 dX9_window_28 (tgt := 35) (by decide) c17 ?_
        refine j_aload_n (j := 0) dX9_window_35 rfl rfl ?_
        refine j_getR (q := 355) FX9_25 rfl dX9_window_36 (by decide) (by decide) rfl rfl (by decide) ?_
        refine j_iload_n (j := 1) dX9_window_39 rfl rfl ?_
        obtain ⟨c18, h⟩ := chk_elim h
        refine j_iald hx1 (by decide) (by decide) rfl dX9_window_40 (VK_c 25 355 rfl).1 (VK_c 25 355 rfl).lt (VK_c 25 355 rfl).ka c18 (fun r19 => ?_)
        obtain ⟨u20, eu20, h⟩ := bnd_elim h
        have hu20 : inR u20 := by rw [eu20]; exact r19
        refine j_nm eu20 ?_
        refine j_istore_n (lv' := [(3, vI u20), (0, .ref (gB g + 349)), (1, vI x1), (2, vI x2)]) dX9_window_41 rfl (by decide) (by first | rfl | (simp only [List.all_cons, List.all_nil, rv_cat]; rfl)) rfl ?_
        exact j_sub [1, 2, 0] rfl (tX9_window_42 hl (by omega) hx1  N A u20 hu20 h)
      · rw [if_neg c17] at h
        refine j_icmp_le_f hx2 r16 dX9_window_28 (tgt := 35) (by decide) c17 ?_
        refine j_iload_n (j := 2) dX9_window_31 rfl rfl ?_
        refine j_goto (tgt := 41) dX9_window_32 (by decide) ?_
        refine j_istore_n (lv' := [(3, vI x2), (0, .ref (gB g + 349)), (1, vI x1), (2, vI x2)]) dX9_window_41 rfl (by decide) (by first | rfl | (simp only [List.all_cons, List.all_nil, rv_cat]; rfl)) rfl ?_
        exact j_sub [1, 2, 0] rfl (tX9_window_42 hl (by omega) hx1  N A x2 hx2 h)
theorem ctX9_window {g : JG} {l : Launch} {d N : Nat} {A : AH} {out : Int × AH} {x1 : Int} {x2 : Int} (hl : l.stackTraces = false) (hd : 3 ≤ d) (hx1 : inR x1) (hx2 : inR x2) (h : fX9_window N A x1 x2 = some out) : CT g l yX9_window cX9_window 4 (some .int) d [.ref (gB g + 349), vI x1, vI x2] A ((0, some (vI out.1), out.2) : JO) (inR out.1) :=
  CT_of (by decide +kernel) hl (by first | exact Nat.le_of_ble_eq_true rfl | (unfold rv; split <;> exact Nat.le_of_ble_eq_true rfl)) (by first | rfl | (unfold rv; split <;> rfl)) (j_sub (lv := [(0, .ref (gB g + 349)), (1, vI x1), (2, vI x2)]) [0, 1, 2] rfl (tX9_window_0 hl hd hx1 hx2 h))
set_option maxRecDepth 100000 in
theorem tX9_refuses_12 {g : JG} {l : Launch} {d N n0 s0 : Nat} {out : Int × AH} {A : AH} {x1 : Int} {x2 : Int} (hl : l.stackTraces = false) (hd : 2 ≤ d) (hx1 : inR x1) (hx2 : inR x2) (h : fX9_refuses_12 N A x1 x2 = some out) : J g l d RX9 "refuses" cX9_refuses 3 (some .int) n0 s0 ((0, some (vI out.1), out.2) : JO) (inR out.1) 12 [(0, .ref (gB g + 349)), (1, vI x1), (2, vI x2)] [] A := by
  unfold fX9_refuses_12 at h
  refine j_aload_n (j := 0) dX9_refuses_12 rfl rfl ?_
  refine j_iload_n (j := 1) dX9_refuses_13 rfl rfl ?_
  obtain ⟨A1, eA1, h⟩ := bnd_elim h
  have xA1 : XT A A1 := by rw [eA1]; exact XT_sI _ _ _ _
  refine j_putI FX9_242 rfl rfl rfl hx1 dX9_refuses_14 (VK_c 9 349 rfl).1 (VK_c 9 349 rfl).lt (VK_c 9 349 rfl).ka ?_
  refine j_hB eA1 ?_
  refine j_aload_n (j := 0) dX9_refuses_17 rfl rfl ?_
  refine j_iload_n (j := 2) dX9_refuses_18 rfl rfl ?_
  obtain ⟨p3, e2, h⟩ := obind_elim h
  refine j_callV MX9_220 YX9_fails IX9_fails SX9_fails (by decide) rfl (by decide) (by omega) (Nat.le_of_ble_eq_true rfl) rfl (ctX9_fails (d := d - 1) hl (by omega) hx2 e2) dX9_refuses_19 (VK_c 9 349 rfl).1 (VK_c 9 349 rfl).lt (VK_c 9 349 rfl).ka rfl (fun z4 xt5 => ?_)
  cases h
  exact j_iret dX9_refuses_22 rfl rfl rfl z4
set_option maxRecDepth 100000 in
theorem tX9_refuses_0 {g : JG} {l : Launch} {d N n0 s0 : Nat} {out : Int × AH} {A : AH} {x1 : Int} {x2 : Int} (hl : l.stackTraces = false) (hd : 2 ≤ d) (hx1 : inR x1) (hx2 : inR x2) (h : fX9_refuses N A x1 x2 = some out) : J g l d RX9 "refuses" cX9_refuses 3 (some .int) n0 s0 ((0, some (vI out.1), out.2) : JO) (inR out.1) 0 [(0, .ref (gB g + 349)), (1, vI x1), (2, vI x2)] [] A := by
  unfold fX9_refuses at h
  refine j_aload_n (j := 0) dX9_refuses_0 rfl rfl ?_
  refine j_getI FX9_235 rfl dX9_refuses_1 (VK_c 9 349 rfl).1 (VK_c 9 349 rfl).lt (VK_c 9 349 rfl).ka (fun r1 => ?_)
  by_cases c2 : (gI A 349 45) = 0
  · rw [if_pos c2] at h
    refine j_if_ne_f r1 dX9_refuses_4 (tgt := 12) (by decide) (fun q => q c2) ?_
    refine j_aload_n (j := 0) dX9_refuses_7 rfl rfl ?_
    refine j_iconst dX9_refuses_8 ?_
    obtain ⟨A3, eA3, h⟩ := bnd_elim h
    have xA3 : XT A A3 := by rw [eA3]; exact XT_sI _ _ _ _
    refine j_putI FX9_239 rfl rfl rfl (inR_lit _ rfl) dX9_refuses_9 (VK_c 9 349 rfl).1 (VK_c 9 349 rfl).lt (VK_c 9 349 rfl).ka ?_
    refine j_hB eA3 ?_
    exact j_sub [0, 1, 2] rfl (tX9_refuses_12 hl (by omega) hx1 hx2  h)
  · rw [if_neg c2] at h
    refine j_if_ne_t r1 dX9_refuses_4 (tgt := 12) (by decide) c2 ?_
    exact j_sub [0, 1, 2] rfl (tX9_refuses_12 hl (by omega) hx1 hx2  h)
theorem ctX9_refuses {g : JG} {l : Launch} {d N : Nat} {A : AH} {out : Int × AH} {x1 : Int} {x2 : Int} (hl : l.stackTraces = false) (hd : 2 ≤ d) (hx1 : inR x1) (hx2 : inR x2) (h : fX9_refuses N A x1 x2 = some out) : CT g l yX9_refuses cX9_refuses 3 (some .int) d [.ref (gB g + 349), vI x1, vI x2] A ((0, some (vI out.1), out.2) : JO) (inR out.1) :=
  CT_of (by decide +kernel) hl (by first | exact Nat.le_of_ble_eq_true rfl | (unfold rv; split <;> exact Nat.le_of_ble_eq_true rfl)) (by first | rfl | (unfold rv; split <;> rfl)) (j_sub (lv := [(0, .ref (gB g + 349)), (1, vI x1), (2, vI x2)]) [0, 1, 2] rfl (tX9_refuses_0 hl hd hx1 hx2 h))
set_option maxRecDepth 100000 in
theorem tX9_hinders_0 {g : JG} {l : Launch} {d N n0 s0 : Nat} {out : Int × AH} {A : AH} {x1 : Int} {x2 : Int} {x3 : Int} (hl : l.stackTraces = false) (hd : 7 ≤ d) (hx1 : inR x1) (hx2 : inR x2) (hx3 : inR x3) (h : fX9_hinders N A x1 x2 x3 = some out) : J g l d RX9 "hinders" cX9_hinders 4 (some .int) n0 s0 ((0, some (vI out.1), out.2) : JO) (inR out.1) 0 [(0, .ref (gB g + 349)), (1, vI x1), (2, vI x2), (3, vI x3)] [] A := by
  unfold fX9_hinders at h
  refine j_aload_n (j := 0) dX9_hinders_0 rfl rfl ?_
  refine j_iload_n (j := 1) dX9_hinders_1 rfl rfl ?_
  obtain ⟨z2, e1, h⟩ := obind_elim h
  refine j_callV MX9_229 YX9_isOrder IX9_isOrder SX9_isOrder (by decide) rfl (by decide) (by omega) (Nat.le_of_ble_eq_true rfl) rfl (ctX9_isOrder (d := d - 1) hl (by omega) hx1 e1) dX9_hinders_2 (VK_c 9 349 rfl).1 (VK_c 9 349 rfl).lt (VK_c 9 349 rfl).ka rfl (fun z3 _ => ?_)
  by_cases c5 : z2 = 0
  · rw [if_pos c5] at h
    refine j_if_eq_t (bool_inR z3) dX9_hinders_5 (tgt := 23) (by decide) c5 ?_
    refine j_aload_n (j := 0) dX9_hinders_23 rfl rfl ?_
    refine j_iconst dX9_hinders_24 ?_
    obtain ⟨p7, e6, h⟩ := obind_elim h
    refine j_callV MX9_220 YX9_fails IX9_fails SX9_fails (by decide) rfl (by decide) (by omega) (Nat.le_of_ble_eq_true rfl) rfl (ctX9_fails (d := d - 1) hl (by omega) (inR_lit _ rfl) e6) dX9_hinders_25 (VK_c 9 349 rfl).1 (VK_c 9 349 rfl).lt (VK_c 9 349 rfl).ka rfl (fun z8 xt9 => ?_)
    cases h
    exact j_iret dX9_hinders_28 rfl rfl rfl z8
  · rw [if_neg c5] at h
    refine j_if_eq_f (bool_inR z3) dX9_hinders_5 (tgt := 23) (by decide) c5 ?_
    refine j_aload_n (j := 0) dX9_hinders_8 rfl rfl ?_
    refine j_iload_n (j := 2) dX9_hinders_9 rfl rfl ?_
    obtain ⟨z11, e10, h⟩ := obind_elim h
    refine j_callV MX9_245 YX9_isPilot IX9_isPilot SX9_isPilot (by decide) rfl (by decide) (by omega) (Nat.le_of_ble_eq_true rfl) rfl (ctX9_isPilot (d := d - 1) hl (by omega) hx2 e10) dX9_hinders_10 (VK_c 9 349 rfl).1 (VK_c 9 349 rfl).lt (VK_c 9 349 rfl).ka rfl (fun z12 _ => ?_)
    by_cases c14 : z11 = 0
    · rw [if_pos c14] at h
      refine j_if_eq_t (bool_inR z12) dX9_hinders_13 (tgt := 23) (by decide) c14 ?_
      refine j_aload_n (j := 0) dX9_hinders_23 rfl rfl ?_
      refine j_iconst dX9_hinders_24 ?_
      obtain ⟨p16, e15, h⟩ := obind_elim h
      refine j_callV MX9_220 YX9_fails IX9_fails SX9_fails (by decide) rfl (by decide) (by omega) (Nat.le_of_ble_eq_true rfl) rfl (ctX9_fails (d := d - 1) hl (by omega) (inR_lit _ rfl) e15) dX9_hinders_25 (VK_c 9 349 rfl).1 (VK_c 9 349 rfl).lt (VK_c 9 349 rfl).ka rfl (fun z17 xt18 => ?_)
      cases h
      exact j_iret dX9_hinders_28 rfl rfl rfl z17
    · rw [if_neg c14] at h
      refine j_if_eq_f (bool_inR z12) dX9_hinders_13 (tgt := 23) (by decide) c14 ?_
      refine j_iload_n (j := 3) dX9_hinders_16 rfl rfl ?_
      obtain ⟨z20, e19, h⟩ := obind_elim h
      refine j_callS MX9_226 YX9_isHour IX9_isHour (by decide) (by omega) (Nat.le_of_ble_eq_true rfl) rfl (ctX9_isHour (d := d - 1) hl (by omega) hx3 e19) dX9_hinders_17 rfl (fun z21 _ => ?_)
      by_cases c23 : z20 = 0
      · rw [if_pos c23] at h
        refine j_if_ne_f (bool_inR z21) dX9_hinders_20 (tgt := 29) (by decide) (fun q => q c23) ?_
        refine j_aload_n (j := 0) dX9_hinders_23 rfl rfl ?_
        refine j_iconst dX9_hinders_24 ?_
        obtain ⟨p30, e29, h⟩ := obind_elim h
        refine j_callV MX9_220 YX9_fails IX9_fails SX9_fails (by decide) rfl (by decide) (by omega) (Nat.le_of_ble_eq_true rfl) rfl (ctX9_fails (d := d - 1) hl (by omega) (inR_lit _ rfl) e29) dX9_hinders_25 (VK_c 9 349 rfl).1 (VK_c 9 349 rfl).lt (VK_c 9 349 rfl).ka rfl (fun z31 xt32 => ?_)
        cases h
        exact j_iret dX9_hinders_28 rfl rfl rfl z31
      · rw [if_neg c23] at h
        refine j_if_ne_t (bool_inR z21) dX9_hinders_20 (tgt := 29) (by decide) c23 ?_
        refine j_aload_n (j := 0) dX9_hinders_29 rfl rfl ?_
        refine j_iconst dX9_hinders_30 ?_
        obtain ⟨A24, eA24, h⟩ := bnd_elim h
        have xA24 : XT A A24 := by rw [eA24]; exact XT_sI _ _ _ _
        refine j_putI FX9_87 rfl rfl rfl (inR_lit _ rfl) dX9_hinders_31 (VK_c 9 349 rfl).1 (VK_c 9 349 rfl).lt (VK_c 9 349 rfl).ka ?_
        refine j_hB eA24 ?_
        refine j_aload_n (j := 0) dX9_hinders_34 rfl rfl ?_
        refine j_iload_n (j := 1) dX9_hinders_35 rfl rfl ?_
        refine j_iload_n (j := 2) dX9_hinders_36 rfl rfl ?_
        refine j_iload_n (j := 3) dX9_hinders_37 rfl rfl ?_
        obtain ⟨p26, e25, h⟩ := obind_elim h
        refine j_callV MX9_194 YX9_whyNotTrip IX9_whyNotTrip SX9_whyNotTrip (by decide) rfl (by decide) (by omega) (Nat.le_of_ble_eq_true rfl) rfl (ctX9_whyNotTrip (d := d - 1) hl (by omega) hx1 hx2 hx3 e25) dX9_hinders_38 (VK_c 9 349 rfl).1 (VK_c 9 349 rfl).lt (VK_c 9 349 rfl).ka rfl (fun z27 xt28 => ?_)
        cases h
        exact j_iret dX9_hinders_41 rfl rfl rfl z27
theorem ctX9_hinders {g : JG} {l : Launch} {d N : Nat} {A : AH} {out : Int × AH} {x1 : Int} {x2 : Int} {x3 : Int} (hl : l.stackTraces = false) (hd : 7 ≤ d) (hx1 : inR x1) (hx2 : inR x2) (hx3 : inR x3) (h : fX9_hinders N A x1 x2 x3 = some out) : CT g l yX9_hinders cX9_hinders 4 (some .int) d [.ref (gB g + 349), vI x1, vI x2, vI x3] A ((0, some (vI out.1), out.2) : JO) (inR out.1) :=
  CT_of (by decide +kernel) hl (by first | exact Nat.le_of_ble_eq_true rfl | (unfold rv; split <;> exact Nat.le_of_ble_eq_true rfl)) (by first | rfl | (unfold rv; split <;> rfl)) (j_sub (lv := [(0, .ref (gB g + 349)), (1, vI x1), (2, vI x2), (3, vI x3)]) [0, 1, 2, 3] rfl (tX9_hinders_0 hl hd hx1 hx2 hx3 h))
set_option maxRecDepth 100000 in
theorem tX9_plan_0 {g : JG} {l : Launch} {d N n0 s0 : Nat} {out : Int × AH} {A : AH} {x1 : Int} {x2 : Int} {x3 : Int} (hl : l.stackTraces = false) (hd : 7 ≤ d) (hx1 : inR x1) (hx2 : inR x2) (hx3 : inR x3) (h : fX9_plan N A x1 x2 x3 = some out) : J g l d RX9 "plan" cX9_plan 5 (some .int) n0 s0 ((0, some (vI out.1), out.2) : JO) (inR out.1) 0 [(0, .ref (gB g + 349)), (1, vI x1), (2, vI x2), (3, vI x3)] [] A := by
  unfold fX9_plan at h
  refine j_aload_n (j := 0) dX9_plan_0 rfl rfl ?_
  refine j_iload_n (j := 1) dX9_plan_1 rfl rfl ?_
  obtain ⟨z2, e1, h⟩ := obind_elim h
  refine j_callV MX9_229 YX9_isOrder IX9_isOrder SX9_isOrder (by decide) rfl (by decide) (by omega) (Nat.le_of_ble_eq_true rfl) rfl (ctX9_isOrder (d := d - 1) hl (by omega) hx1 e1) dX9_plan_2 (VK_c 9 349 rfl).1 (VK_c 9 349 rfl).lt (VK_c 9 349 rfl).ka rfl (fun z3 _ => ?_)
  by_cases c5 : z2 = 0
  · rw [if_pos c5] at h
    refine j_if_eq_t (bool_inR z3) dX9_plan_5 (tgt := 23) (by decide) c5 ?_
    refine j_aload_n (j := 0) dX9_plan_23 rfl rfl ?_
    refine j_iconst dX9_plan_24 ?_
    obtain ⟨p7, e6, h⟩ := obind_elim h
    refine j_callV MX9_220 YX9_fails IX9_fails SX9_fails (by decide) rfl (by decide) (by omega) (Nat.le_of_ble_eq_true rfl) rfl (ctX9_fails (d := d - 1) hl (by omega) (inR_lit _ rfl) e6) dX9_plan_25 (VK_c 9 349 rfl).1 (VK_c 9 349 rfl).lt (VK_c 9 349 rfl).ka rfl (fun z8 xt9 => ?_)
    cases h
    exact j_iret dX9_plan_28 rfl rfl rfl z8
  · rw [if_neg c5] at h
    refine j_if_eq_f (bool_inR z3) dX9_plan_5 (tgt := 23) (by decide) c5 ?_
    refine j_aload_n (j := 0) dX9_plan_8 rfl rfl ?_
    refine j_iload_n (j := 2) dX9_plan_9 rfl rfl ?_
    obtain ⟨z11, e10, h⟩ := obind_elim h
    refine j_callV MX9_245 YX9_isPilot IX9_isPilot SX9_isPilot (by decide) rfl (by decide) (by omega) (Nat.le_of_ble_eq_true rfl) rfl (ctX9_isPilot (d := d - 1) hl (by omega) hx2 e10) dX9_plan_10 (VK_c 9 349 rfl).1 (VK_c 9 349 rfl).lt (VK_c 9 349 rfl).ka rfl (fun z12 _ => ?_)
    by_cases c14 : z11 = 0
    · rw [if_pos c14] at h
      refine j_if_eq_t (bool_inR z12) dX9_plan_13 (tgt := 23) (by decide) c14 ?_
      refine j_aload_n (j := 0) dX9_plan_23 rfl rfl ?_
      refine j_iconst dX9_plan_24 ?_
      obtain ⟨p16, e15, h⟩ := obind_elim h
      refine j_callV MX9_220 YX9_fails IX9_fails SX9_fails (by decide) rfl (by decide) (by omega) (Nat.le_of_ble_eq_true rfl) rfl (ctX9_fails (d := d - 1) hl (by omega) (inR_lit _ rfl) e15) dX9_plan_25 (VK_c 9 349 rfl).1 (VK_c 9 349 rfl).lt (VK_c 9 349 rfl).ka rfl (fun z17 xt18 => ?_)
      cases h
      exact j_iret dX9_plan_28 rfl rfl rfl z17
    · rw [if_neg c14] at h
      refine j_if_eq_f (bool_inR z12) dX9_plan_13 (tgt := 23) (by decide) c14 ?_
      refine j_iload_n (j := 3) dX9_plan_16 rfl rfl ?_
      obtain ⟨z20, e19, h⟩ := obind_elim h
      refine j_callS MX9_226 YX9_isHour IX9_isHour (by decide) (by omega) (Nat.le_of_ble_eq_true rfl) rfl (ctX9_isHour (d := d - 1) hl (by omega) hx3 e19) dX9_plan_17 rfl (fun z21 _ => ?_)
      by_cases c23 : z20 = 0
      · rw [if_pos c23] at h
        refine j_if_ne_f (bool_inR z21) dX9_plan_20 (tgt := 29) (by decide) (fun q => q c23) ?_
        refine j_aload_n (j := 0) dX9_plan_23 rfl rfl ?_
        refine j_iconst dX9_plan_24 ?_
        obtain ⟨p47, e46, h⟩ := obind_elim h
        refine j_callV MX9_220 YX9_fails IX9_fails SX9_fails (by decide) rfl (by decide) (by omega) (Nat.le_of_ble_eq_true rfl) rfl (ctX9_fails (d := d - 1) hl (by omega) (inR_lit _ rfl) e46) dX9_plan_25 (VK_c 9 349 rfl).1 (VK_c 9 349 rfl).lt (VK_c 9 349 rfl).ka rfl (fun z48 xt49 => ?_)
        cases h
        exact j_iret dX9_plan_28 rfl rfl rfl z48
      · rw [if_neg c23] at h
        refine j_if_ne_t (bool_inR z21) dX9_plan_20 (tgt := 29) (by decide) c23 ?_
        refine j_aload_n (j := 0) dX9_plan_29 rfl rfl ?_
        refine j_iload_n (j := 1) dX9_plan_30 rfl rfl ?_
        refine j_iload_n (j := 2) dX9_plan_31 rfl rfl ?_
        refine j_iload_n (j := 3) dX9_plan_32 rfl rfl ?_
        obtain ⟨p25, e24, h⟩ := obind_elim h
        refine j_callV MX9_194 YX9_whyNotTrip IX9_whyNotTrip SX9_whyNotTrip (by decide) rfl (by decide) (by omega) (Nat.le_of_ble_eq_true rfl) rfl (ctX9_whyNotTrip (d := d - 1) hl (by omega) hx1 hx2 hx3 e24) dX9_plan_33 (VK_c 9 349 rfl).1 (VK_c 9 349 rfl).lt (VK_c 9 349 rfl).ka rfl (fun z26 xt27 => ?_)
        refine j_istore (lv' := [(4, vI p25.1), (0, .ref (gB g + 349)), (1, vI x1), (2, vI x2), (3, vI x3)]) dX9_plan_36 (by decide) (by first | rfl | (simp only [List.all_cons, List.all_nil, rv_cat]; rfl)) rfl ?_
        refine j_iload (j := 0) dX9_plan_38 rfl ?_
        by_cases c28 : p25.1 ≤ 0
        · rw [if_pos c28] at h
          refine j_if_le_t z26 dX9_plan_40 (tgt := 51) (by decide) c28 ?_
          refine j_aload_n (j := 1) dX9_plan_51 rfl rfl ?_
          refine j_iconst dX9_plan_52 ?_
          obtain ⟨A29, eA29, h⟩ := bnd_elim h
          have xA29 : XT p25.2 A29 := by rw [eA29]; exact XT_sI _ _ _ _
          refine j_putI FX9_87 rfl rfl rfl (inR_lit _ rfl) dX9_plan_53 (VK_c 9 349 rfl).1 (VK_c 9 349 rfl).lt (VK_c 9 349 rfl).ka ?_
          refine j_hB eA29 ?_
          refine j_aload_n (j := 1) dX9_plan_56 rfl rfl ?_
          obtain ⟨p31, e30, h⟩ := obind_elim h
          refine j_callV MX9_223 YX9_remembers IX9_remembers SX9_remembers (by decide) rfl (by decide) (by omega) (Nat.le_of_ble_eq_true rfl) rfl (ctX9_remembers (d := d - 1) hl (by omega)  e30) dX9_plan_57 (VK_c 9 349 rfl).1 (VK_c 9 349 rfl).lt (VK_c 9 349 rfl).ka rfl (fun z32 xt33 => ?_)
          refine j_aload_n (j := 1) dX9_plan_60 rfl rfl ?_
          refine j_iload_n (j := 2) dX9_plan_61 rfl rfl ?_
          refine j_iload_n (j := 3) dX9_plan_62 rfl rfl ?_
          refine j_iload_n (j := 4) dX9_plan_63 rfl rfl ?_
          obtain ⟨p35, e34, h⟩ := obind_elim h
          refine j_callV MX9_210 YX9_plans IX9_plans SX9_plans (by decide) rfl (by decide) (by omega) (Nat.le_of_ble_eq_true rfl) rfl (ctX9_plans (d := d - 1) hl (by omega) hx1 hx2 hx3 e34) dX9_plan_64 (VK_c 9 349 rfl).1 (VK_c 9 349 rfl).lt (VK_c 9 349 rfl).ka rfl (fun z36 xt37 => ?_)
          refine j_aload_n (j := 1) dX9_plan_67 rfl rfl ?_
          refine j_iload_n (j := 2) dX9_plan_68 rfl rfl ?_
          obtain ⟨z39, e38, h⟩ := obind_elim h
          refine j_callV MX9_127 YX9_end IX9_end SX9_end (by decide) rfl (by decide) (by omega) (Nat.le_of_ble_eq_true rfl) rfl (ctX9_end (d := d - 1) hl (by omega) hx1 e38) dX9_plan_69 (VK_c 9 349 rfl).1 (VK_c 9 349 rfl).lt (VK_c 9 349 rfl).ka rfl (fun z40 _ => ?_)
          cases h
          exact j_iret dX9_plan_72 rfl rfl rfl z40
        · rw [if_neg c28] at h
          refine j_if_le_f z26 dX9_plan_40 (tgt := 51) (by decide) c28 ?_
          refine j_aload_n (j := 1) dX9_plan_43 rfl rfl ?_
          refine j_iload (j := 0) dX9_plan_44 rfl ?_
          refine j_iconst dX9_plan_46 ?_
          obtain ⟨p43, e42, h⟩ := obind_elim h
          refine j_callV MX9_248 YX9_refuses IX9_refuses SX9_refuses (by decide) rfl (by decide) (by omega) (Nat.le_of_ble_eq_true rfl) rfl (ctX9_refuses (d := d - 1) hl (by omega) z26 (inR_lit _ rfl) e42) dX9_plan_47 (VK_c 9 349 rfl).1 (VK_c 9 349 rfl).lt (VK_c 9 349 rfl).ka rfl (fun z44 xt45 => ?_)
          cases h
          exact j_iret dX9_plan_50 rfl rfl rfl z44
theorem ctX9_plan {g : JG} {l : Launch} {d N : Nat} {A : AH} {out : Int × AH} {x1 : Int} {x2 : Int} {x3 : Int} (hl : l.stackTraces = false) (hd : 7 ≤ d) (hx1 : inR x1) (hx2 : inR x2) (hx3 : inR x3) (h : fX9_plan N A x1 x2 x3 = some out) : CT g l yX9_plan cX9_plan 5 (some .int) d [.ref (gB g + 349), vI x1, vI x2, vI x3] A ((0, some (vI out.1), out.2) : JO) (inR out.1) :=
  CT_of (by decide +kernel) hl (by first | exact Nat.le_of_ble_eq_true rfl | (unfold rv; split <;> exact Nat.le_of_ble_eq_true rfl)) (by first | rfl | (unfold rv; split <;> rfl)) (j_sub (lv := [(0, .ref (gB g + 349)), (1, vI x1), (2, vI x2), (3, vI x3)]) [0, 1, 2, 3] rfl (tX9_plan_0 hl hd hx1 hx2 hx3 h))
set_option maxRecDepth 100000 in
theorem tX9_run_0 {g : JG} {l : Launch} {d N n0 s0 : Nat} {out : Int × AH} {A : AH} {x1 : Int} {x2 : Int} {x3 : Int} (hl : l.stackTraces = false) (hd : 5 ≤ d) (hx1 : inR x1) (hx2 : inR x2) (hx3 : inR x3) (h : fX9_run N A x1 x2 x3 = some out) : J g l d RX9 "run" cX9_run 5 (some .int) n0 s0 ((0, some (vI out.1), out.2) : JO) (inR out.1) 0 [(0, .ref (gB g + 349)), (1, vI x1), (2, vI x2), (3, vI x3)] [] A := by
  unfold fX9_run at h
  refine j_aload_n (j := 0) dX9_run_0 rfl rfl ?_
  refine j_iload_n (j := 1) dX9_run_1 rfl rfl ?_
  obtain ⟨z2, e1, h⟩ := obind_elim h
  refine j_callV MX9_252 YX9_isBoat IX9_isBoat SX9_isBoat (by decide) rfl (by decide) (by omega) (Nat.le_of_ble_eq_true rfl) rfl (ctX9_isBoat (d := d - 1) hl (by omega) hx1 e1) dX9_run_2 (VK_c 9 349 rfl).1 (VK_c 9 349 rfl).lt (VK_c 9 349 rfl).ka rfl (fun z3 _ => ?_)
  by_cases c5 : z2 = 0
  · rw [if_pos c5] at h
    refine j_if_eq_t (bool_inR z3) dX9_run_5 (tgt := 19) (by decide) c5 ?_
    refine j_aload_n (j := 0) dX9_run_19 rfl rfl ?_
    refine j_iconst dX9_run_20 ?_
    obtain ⟨p7, e6, h⟩ := obind_elim h
    refine j_callV MX9_220 YX9_fails IX9_fails SX9_fails (by decide) rfl (by decide) (by omega) (Nat.le_of_ble_eq_true rfl) rfl (ctX9_fails (d := d - 1) hl (by omega) (inR_lit _ rfl) e6) dX9_run_21 (VK_c 9 349 rfl).1 (VK_c 9 349 rfl).lt (VK_c 9 349 rfl).ka rfl (fun z8 xt9 => ?_)
    cases h
    exact j_iret dX9_run_24 rfl rfl rfl z8
  · rw [if_neg c5] at h
    refine j_if_eq_f (bool_inR z3) dX9_run_5 (tgt := 19) (by decide) c5 ?_
    refine j_iload_n (j := 2) dX9_run_8 rfl rfl ?_
    refine j_iconst dX9_run_9 ?_
    refine j_sipush dX9_run_10 rfl ?_
    obtain ⟨z11, e10, h⟩ := obind_elim h
    refine j_callS MX9_90 YX9_isBetween IX9_isBetween (by decide) (by omega) (Nat.le_of_ble_eq_true rfl) rfl (ctX9_isBetween (d := d - 1) hl (by omega) hx2 (inR_lit _ rfl) (inR_lit _ rfl) e10) dX9_run_13 rfl (fun z12 _ => ?_)
    by_cases c14 : z11 = 0
    · rw [if_pos c14] at h
      refine j_if_ne_f (bool_inR z12) dX9_run_16 (tgt := 25) (by decide) (fun q => q c14) ?_
      refine j_aload_n (j := 0) dX9_run_19 rfl rfl ?_
      refine j_iconst dX9_run_20 ?_
      obtain ⟨p40, e39, h⟩ := obind_elim h
      refine j_callV MX9_220 YX9_fails IX9_fails SX9_fails (by decide) rfl (by decide) (by omega) (Nat.le_of_ble_eq_true rfl) rfl (ctX9_fails (d := d - 1) hl (by omega) (inR_lit _ rfl) e39) dX9_run_21 (VK_c 9 349 rfl).1 (VK_c 9 349 rfl).lt (VK_c 9 349 rfl).ka rfl (fun z41 xt42 => ?_)
      cases h
      exact j_iret dX9_run_24 rfl rfl rfl z41
    · rw [if_neg c14] at h
      refine j_if_ne_t (bool_inR z12) dX9_run_16 (tgt := 25) (by decide) c14 ?_
      refine j_iload_n (j := 3) dX9_run_25 rfl rfl ?_
      refine j_aload_n (j := 0) dX9_run_26 rfl rfl ?_
      refine j_getI FX9_94 rfl dX9_run_27 (VK_c 9 349 rfl).1 (VK_c 9 349 rfl).lt (VK_c 9 349 rfl).ka (fun r15 => ?_)
      refine j_ishr dX9_run_30 ?_
      by_cases c16 : (iShr x3 (gI A 349 20)) = 0
      · rw [if_pos c16] at h
        refine j_if_eq_t (iShr_inR _ _) dX9_run_31 (tgt := 40) (by decide) c16 ?_
        refine j_aload_n (j := 0) dX9_run_40 rfl rfl ?_
        refine j_iload_n (j := 1) dX9_run_41 rfl rfl ?_
        refine j_iload_n (j := 2) dX9_run_42 rfl rfl ?_
        refine j_iload_n (j := 3) dX9_run_43 rfl rfl ?_
        obtain ⟨p18, e17, h⟩ := obind_elim h
        refine j_callV MX9_190 YX9_whyNotRun IX9_whyNotRun SX9_whyNotRun (by decide) rfl (by decide) (by omega) (Nat.le_of_ble_eq_true rfl) rfl (ctX9_whyNotRun (d := d - 1) hl (by omega) hx1 hx2 hx3 e17) dX9_run_44 (VK_c 9 349 rfl).1 (VK_c 9 349 rfl).lt (VK_c 9 349 rfl).ka rfl (fun z19 xt20 => ?_)
        refine j_istore (lv' := [(4, vI p18.1), (0, .ref (gB g + 349)), (1, vI x1), (2, vI x2), (3, vI x3)]) dX9_run_47 (by decide) (by first | rfl | (simp only [List.all_cons, List.all_nil, rv_cat]; rfl)) rfl ?_
        refine j_iload (j := 0) dX9_run_49 rfl ?_
        by_cases c21 : p18.1 ≤ 0
        · rw [if_pos c21] at h
          refine j_if_le_t z19 dX9_run_51 (tgt := 62) (by decide) c21 ?_
          refine j_aload_n (j := 1) dX9_run_62 rfl rfl ?_
          refine j_iconst dX9_run_63 ?_
          obtain ⟨A22, eA22, h⟩ := bnd_elim h
          have xA22 : XT p18.2 A22 := by rw [eA22]; exact XT_sI _ _ _ _
          refine j_putI FX9_87 rfl rfl rfl (inR_lit _ rfl) dX9_run_64 (VK_c 9 349 rfl).1 (VK_c 9 349 rfl).lt (VK_c 9 349 rfl).ka ?_
          refine j_hB eA22 ?_
          refine j_aload_n (j := 1) dX9_run_67 rfl rfl ?_
          obtain ⟨p24, e23, h⟩ := obind_elim h
          refine j_callV MX9_223 YX9_remembers IX9_remembers SX9_remembers (by decide) rfl (by decide) (by omega) (Nat.le_of_ble_eq_true rfl) rfl (ctX9_remembers (d := d - 1) hl (by omega)  e23) dX9_run_68 (VK_c 9 349 rfl).1 (VK_c 9 349 rfl).lt (VK_c 9 349 rfl).ka rfl (fun z25 xt26 => ?_)
          refine j_aload_n (j := 1) dX9_run_71 rfl rfl ?_
          refine j_iload_n (j := 2) dX9_run_72 rfl rfl ?_
          refine j_iload_n (j := 3) dX9_run_73 rfl rfl ?_
          refine j_iload_n (j := 4) dX9_run_74 rfl rfl ?_
          obtain ⟨p28, e27, h⟩ := obind_elim h
          refine j_callV MX9_207 YX9_goes IX9_goes SX9_goes (by decide) rfl (by decide) (by omega) (Nat.le_of_ble_eq_true rfl) rfl (ctX9_goes (d := d - 1) hl (by omega) hx1 hx2 hx3 e27) dX9_run_75 (VK_c 9 349 rfl).1 (VK_c 9 349 rfl).lt (VK_c 9 349 rfl).ka rfl (fun z29 xt30 => ?_)
          cases h
          exact j_iret dX9_run_78 rfl rfl rfl z29
        · rw [if_neg c21] at h
          refine j_if_le_f z19 dX9_run_51 (tgt := 62) (by decide) c21 ?_
          refine j_aload_n (j := 1) dX9_run_54 rfl rfl ?_
          refine j_iload (j := 0) dX9_run_55 rfl ?_
          refine j_iconst dX9_run_57 ?_
          obtain ⟨p32, e31, h⟩ := obind_elim h
          refine j_callV MX9_248 YX9_refuses IX9_refuses SX9_refuses (by decide) rfl (by decide) (by omega) (Nat.le_of_ble_eq_true rfl) rfl (ctX9_refuses (d := d - 1) hl (by omega) z19 (inR_lit _ rfl) e31) dX9_run_58 (VK_c 9 349 rfl).1 (VK_c 9 349 rfl).lt (VK_c 9 349 rfl).ka rfl (fun z33 xt34 => ?_)
          cases h
          exact j_iret dX9_run_61 rfl rfl rfl z33
      · rw [if_neg c16] at h
        refine j_if_eq_f (iShr_inR _ _) dX9_run_31 (tgt := 40) (by decide) c16 ?_
        refine j_aload_n (j := 0) dX9_run_34 rfl rfl ?_
        refine j_iconst dX9_run_35 ?_
        obtain ⟨p36, e35, h⟩ := obind_elim h
        refine j_callV MX9_220 YX9_fails IX9_fails SX9_fails (by decide) rfl (by decide) (by omega) (Nat.le_of_ble_eq_true rfl) rfl (ctX9_fails (d := d - 1) hl (by omega) (inR_lit _ rfl) e35) dX9_run_36 (VK_c 9 349 rfl).1 (VK_c 9 349 rfl).lt (VK_c 9 349 rfl).ka rfl (fun z37 xt38 => ?_)
        cases h
        exact j_iret dX9_run_39 rfl rfl rfl z37
theorem ctX9_run {g : JG} {l : Launch} {d N : Nat} {A : AH} {out : Int × AH} {x1 : Int} {x2 : Int} {x3 : Int} (hl : l.stackTraces = false) (hd : 5 ≤ d) (hx1 : inR x1) (hx2 : inR x2) (hx3 : inR x3) (h : fX9_run N A x1 x2 x3 = some out) : CT g l yX9_run cX9_run 5 (some .int) d [.ref (gB g + 349), vI x1, vI x2, vI x3] A ((0, some (vI out.1), out.2) : JO) (inR out.1) :=
  CT_of (by decide +kernel) hl (by first | exact Nat.le_of_ble_eq_true rfl | (unfold rv; split <;> exact Nat.le_of_ble_eq_true rfl)) (by first | rfl | (unfold rv; split <;> rfl)) (j_sub (lv := [(0, .ref (gB g + 349)), (1, vI x1), (2, vI x2), (3, vI x3)]) [0, 1, 2, 3] rfl (tX9_run_0 hl hd hx1 hx2 hx3 h))
set_option maxRecDepth 100000 in
theorem tX9_serving_0 {g : JG} {l : Launch} {d N n0 s0 : Nat} {out : Int × AH} {A : AH} {x1 : Int} {x2 : Int} (hl : l.stackTraces = false) (hd : 9 ≤ d) (hx1 : inR x1) (hx2 : inR x2) (h : fX9_serving N A x1 x2 = some out) : J g l d RX9 "serving" cX9_serving 3 (some .int) n0 s0 ((0, some (vI out.1), out.2) : JO) (inR out.1) 0 [(0, .ref (gB g + 349)), (1, vI x1), (2, vI x2)] [] A := by
  unfold fX9_serving at h
  refine j_aload_n (j := 0) dX9_serving_0 rfl rfl ?_
  refine j_iload_n (j := 1) dX9_serving_1 rfl rfl ?_
  obtain ⟨z2, e1, h⟩ := obind_elim h
  refine j_callV MX9_229 YX9_isOrder IX9_isOrder SX9_isOrder (by decide) rfl (by decide) (by omega) (Nat.le_of_ble_eq_true rfl) rfl (ctX9_isOrder (d := d - 1) hl (by omega) hx1 e1) dX9_serving_2 (VK_c 9 349 rfl).1 (VK_c 9 349 rfl).lt (VK_c 9 349 rfl).ka rfl (fun z3 _ => ?_)
  by_cases c5 : z2 = 0
  · rw [if_pos c5] at h
    refine j_if_ne_f (bool_inR z3) dX9_serving_5 (tgt := 14) (by decide) (fun q => q c5) ?_
    refine j_aload_n (j := 0) dX9_serving_8 rfl rfl ?_
    refine j_iconst dX9_serving_9 ?_
    obtain ⟨p31, e30, h⟩ := obind_elim h
    refine j_callV MX9_220 YX9_fails IX9_fails SX9_fails (by decide) rfl (by decide) (by omega) (Nat.le_of_ble_eq_true rfl) rfl (ctX9_fails (d := d - 1) hl (by omega) (inR_lit _ rfl) e30) dX9_serving_10 (VK_c 9 349 rfl).1 (VK_c 9 349 rfl).lt (VK_c 9 349 rfl).ka rfl (fun z32 xt33 => ?_)
    cases h
    exact j_iret dX9_serving_13 rfl rfl rfl z32
  · rw [if_neg c5] at h
    refine j_if_ne_t (bool_inR z3) dX9_serving_5 (tgt := 14) (by decide) c5 ?_
    refine j_iload_n (j := 2) dX9_serving_14 rfl rfl ?_
    refine j_iconst dX9_serving_15 ?_
    refine j_iconst dX9_serving_16 ?_
    obtain ⟨z7, e6, h⟩ := obind_elim h
    refine j_callS MX9_90 YX9_isBetween IX9_isBetween (by decide) (by omega) (Nat.le_of_ble_eq_true rfl) rfl (ctX9_isBetween (d := d - 1) hl (by omega) hx2 (inR_lit _ rfl) (inR_lit _ rfl) e6) dX9_serving_17 rfl (fun z8 _ => ?_)
    by_cases c10 : z7 = 0
    · rw [if_pos c10] at h
      refine j_if_ne_f (bool_inR z8) dX9_serving_20 (tgt := 29) (by decide) (fun q => q c10) ?_
      refine j_aload_n (j := 0) dX9_serving_23 rfl rfl ?_
      refine j_iconst dX9_serving_24 ?_
      obtain ⟨p27, e26, h⟩ := obind_elim h
      refine j_callV MX9_220 YX9_fails IX9_fails SX9_fails (by decide) rfl (by decide) (by omega) (Nat.le_of_ble_eq_true rfl) rfl (ctX9_fails (d := d - 1) hl (by omega) (inR_lit _ rfl) e26) dX9_serving_25 (VK_c 9 349 rfl).1 (VK_c 9 349 rfl).lt (VK_c 9 349 rfl).ka rfl (fun z28 xt29 => ?_)
      cases h
      exact j_iret dX9_serving_28 rfl rfl rfl z28
    · rw [if_neg c10] at h
      refine j_if_ne_t (bool_inR z8) dX9_serving_20 (tgt := 29) (by decide) c10 ?_
      refine j_aload_n (j := 0) dX9_serving_29 rfl rfl ?_
      refine j_iload_n (j := 1) dX9_serving_30 rfl rfl ?_
      obtain ⟨p12, e11, h⟩ := obind_elim h
      refine j_callV MX9_255 YX9_canServe IX9_canServe SX9_canServe (by decide) rfl (by decide) (by omega) (Nat.le_of_ble_eq_true rfl) rfl (ctX9_canServe (d := d - 1) hl (by omega) hx1 e11) dX9_serving_31 (VK_c 9 349 rfl).1 (VK_c 9 349 rfl).lt (VK_c 9 349 rfl).ka rfl (fun z13 xt14 => ?_)
      by_cases c15 : p12.1 = 0
      · rw [if_pos c15] at h
        refine j_if_ne_f (bool_inR z13) dX9_serving_34 (tgt := 43) (by decide) (fun q => q c15) ?_
        refine j_aload_n (j := 0) dX9_serving_37 rfl rfl ?_
        refine j_iconst dX9_serving_38 ?_
        obtain ⟨p23, e22, h⟩ := obind_elim h
        refine j_callV MX9_220 YX9_fails IX9_fails SX9_fails (by decide) rfl (by decide) (by omega) (Nat.le_of_ble_eq_true rfl) rfl (ctX9_fails (d := d - 1) hl (by omega) (inR_lit _ rfl) e22) dX9_serving_39 (VK_c 9 349 rfl).1 (VK_c 9 349 rfl).lt (VK_c 9 349 rfl).ka rfl (fun z24 xt25 => ?_)
        cases h
        exact j_iret dX9_serving_42 rfl rfl rfl z24
      · rw [if_neg c15] at h
        refine j_if_ne_t (bool_inR z13) dX9_serving_34 (tgt := 43) (by decide) c15 ?_
        refine j_aload_n (j := 0) dX9_serving_43 rfl rfl ?_
        refine j_iconst dX9_serving_44 ?_
        obtain ⟨A16, eA16, h⟩ := bnd_elim h
        have xA16 : XT p12.2 A16 := by rw [eA16]; exact XT_sI _ _ _ _
        refine j_putI FX9_87 rfl rfl rfl (inR_lit _ rfl) dX9_serving_45 (VK_c 9 349 rfl).1 (VK_c 9 349 rfl).lt (VK_c 9 349 rfl).ka ?_
        refine j_hB eA16 ?_
        refine j_iload_n (j := 2) dX9_serving_48 rfl rfl ?_
        by_cases c17 : x2 = 0
        · rw [if_pos c17] at h
          refine j_if_ne_f hx2 dX9_serving_49 (tgt := 59) (by decide) (fun q => q c17) ?_
          refine j_aload_n (j := 0) dX9_serving_52 rfl rfl ?_
          refine j_getI FX9_181 rfl dX9_serving_53 (VK_c 9 349 rfl).1 (VK_c 9 349 rfl).lt (VK_c 9 349 rfl).ka (fun r21 => ?_)
          refine j_goto (tgt := 75) dX9_serving_56 (by decide) ?_
          cases h
          exact j_iret dX9_serving_75 rfl rfl rfl r21
        · rw [if_neg c17] at h
          refine j_if_ne_t hx2 dX9_serving_49 (tgt := 59) (by decide) c17 ?_
          refine j_iload_n (j := 2) dX9_serving_59 rfl rfl ?_
          refine j_iconst dX9_serving_60 ?_
          by_cases c18 : x2 = 1
          · rw [if_pos c18] at h
            refine j_icmp_ne_f hx2 (inR_lit _ rfl) dX9_serving_61 (tgt := 71) (by decide) (fun q => q c18) ?_
            refine j_aload_n (j := 0) dX9_serving_64 rfl rfl ?_
            refine j_getI FX9_184 rfl dX9_serving_65 (VK_c 9 349 rfl).1 (VK_c 9 349 rfl).lt (VK_c 9 349 rfl).ka (fun r20 => ?_)
            refine j_goto (tgt := 75) dX9_serving_68 (by decide) ?_
            cases h
            exact j_iret dX9_serving_75 rfl rfl rfl r20
          · rw [if_neg c18] at h
            refine j_icmp_ne_t hx2 (inR_lit _ rfl) dX9_serving_61 (tgt := 71) (by decide) c18 ?_
            refine j_aload_n (j := 0) dX9_serving_71 rfl rfl ?_
            refine j_getI FX9_187 rfl dX9_serving_72 (VK_c 9 349 rfl).1 (VK_c 9 349 rfl).lt (VK_c 9 349 rfl).ka (fun r19 => ?_)
            cases h
            exact j_iret dX9_serving_75 rfl rfl rfl r19
theorem ctX9_serving {g : JG} {l : Launch} {d N : Nat} {A : AH} {out : Int × AH} {x1 : Int} {x2 : Int} (hl : l.stackTraces = false) (hd : 9 ≤ d) (hx1 : inR x1) (hx2 : inR x2) (h : fX9_serving N A x1 x2 = some out) : CT g l yX9_serving cX9_serving 3 (some .int) d [.ref (gB g + 349), vI x1, vI x2] A ((0, some (vI out.1), out.2) : JO) (inR out.1) :=
  CT_of (by decide +kernel) hl (by first | exact Nat.le_of_ble_eq_true rfl | (unfold rv; split <;> exact Nat.le_of_ble_eq_true rfl)) (by first | rfl | (unfold rv; split <;> rfl)) (j_sub (lv := [(0, .ref (gB g + 349)), (1, vI x1), (2, vI x2)]) [0, 1, 2] rfl (tX9_serving_0 hl hd hx1 hx2 h))
set_option maxRecDepth 100000 in
theorem tX9_serve_0 {g : JG} {l : Launch} {d N n0 s0 : Nat} {out : Int × AH} {A : AH} {x1 : Int} (hl : l.stackTraces = false) (hd : 9 ≤ d) (hx1 : inR x1) (h : fX9_serve N A x1 = some out) : J g l d RX9 "serve" cX9_serve 2 (some .int) n0 s0 ((0, some (vI out.1), out.2) : JO) (inR out.1) 0 [(0, .ref (gB g + 349)), (1, vI x1)] [] A := by
  unfold fX9_serve at h
  refine j_aload_n (j := 0) dX9_serve_0 rfl rfl ?_
  refine j_iload_n (j := 1) dX9_serve_1 rfl rfl ?_
  obtain ⟨z2, e1, h⟩ := obind_elim h
  refine j_callV MX9_229 YX9_isOrder IX9_isOrder SX9_isOrder (by decide) rfl (by decide) (by omega) (Nat.le_of_ble_eq_true rfl) rfl (ctX9_isOrder (d := d - 1) hl (by omega) hx1 e1) dX9_serve_2 (VK_c 9 349 rfl).1 (VK_c 9 349 rfl).lt (VK_c 9 349 rfl).ka rfl (fun z3 _ => ?_)
  by_cases c5 : z2 = 0
  · rw [if_pos c5] at h
    refine j_if_ne_f (bool_inR z3) dX9_serve_5 (tgt := 14) (by decide) (fun q => q c5) ?_
    refine j_aload_n (j := 0) dX9_serve_8 rfl rfl ?_
    refine j_iconst dX9_serve_9 ?_
    obtain ⟨p32, e31, h⟩ := obind_elim h
    refine j_callV MX9_220 YX9_fails IX9_fails SX9_fails (by decide) rfl (by decide) (by omega) (Nat.le_of_ble_eq_true rfl) rfl (ctX9_fails (d := d - 1) hl (by omega) (inR_lit _ rfl) e31) dX9_serve_10 (VK_c 9 349 rfl).1 (VK_c 9 349 rfl).lt (VK_c 9 349 rfl).ka rfl (fun z33 xt34 => ?_)
    cases h
    exact j_iret dX9_serve_13 rfl rfl rfl z33
  · rw [if_neg c5] at h
    refine j_if_ne_t (bool_inR z3) dX9_serve_5 (tgt := 14) (by decide) c5 ?_
    refine j_aload_n (j := 0) dX9_serve_14 rfl rfl ?_
    refine j_getR (q := 357) FX9_31 rfl dX9_serve_15 (by decide) (by decide) rfl rfl (by decide) ?_
    refine j_iload_n (j := 1) dX9_serve_18 rfl rfl ?_
    obtain ⟨c6, h⟩ := chk_elim h
    refine j_iald hx1 (by decide) (by decide) rfl dX9_serve_19 (VK_c 27 357 rfl).1 (VK_c 27 357 rfl).lt (VK_c 27 357 rfl).ka c6 (fun r7 => ?_)
    by_cases c8 : (gI A 357 x1.toNat) = 0
    · rw [if_pos c8] at h
      refine j_if_eq_t r7 dX9_serve_20 (tgt := 30) (by decide) c8 ?_
      refine j_aload_n (j := 0) dX9_serve_30 rfl rfl ?_
      refine j_iload_n (j := 1) dX9_serve_31 rfl rfl ?_
      obtain ⟨p10, e9, h⟩ := obind_elim h
      refine j_callV MX9_255 YX9_canServe IX9_canServe SX9_canServe (by decide) rfl (by decide) (by omega) (Nat.le_of_ble_eq_true rfl) rfl (ctX9_canServe (d := d - 1) hl (by omega) hx1 e9) dX9_serve_32 (VK_c 9 349 rfl).1 (VK_c 9 349 rfl).lt (VK_c 9 349 rfl).ka rfl (fun z11 xt12 => ?_)
      by_cases c13 : p10.1 = 0
      · rw [if_pos c13] at h
        refine j_if_ne_f (bool_inR z11) dX9_serve_35 (tgt := 46) (by decide) (fun q => q c13) ?_
        refine j_aload_n (j := 0) dX9_serve_38 rfl rfl ?_
        refine j_bipush dX9_serve_39 rfl ?_
        refine j_iconst dX9_serve_41 ?_
        obtain ⟨p24, e23, h⟩ := obind_elim h
        refine j_callV MX9_248 YX9_refuses IX9_refuses SX9_refuses (by decide) rfl (by decide) (by omega) (Nat.le_of_ble_eq_true rfl) rfl (ctX9_refuses (d := d - 1) hl (by omega) (inR_lit _ rfl) (inR_lit _ rfl) e23) dX9_serve_42 (VK_c 9 349 rfl).1 (VK_c 9 349 rfl).lt (VK_c 9 349 rfl).ka rfl (fun z25 xt26 => ?_)
        cases h
        exact j_iret dX9_serve_45 rfl rfl rfl z25
      · rw [if_neg c13] at h
        refine j_if_ne_t (bool_inR z11) dX9_serve_35 (tgt := 46) (by decide) c13 ?_
        refine j_aload_n (j := 0) dX9_serve_46 rfl rfl ?_
        refine j_iconst dX9_serve_47 ?_
        obtain ⟨A14, eA14, h⟩ := bnd_elim h
        have xA14 : XT p10.2 A14 := by rw [eA14]; exact XT_sI _ _ _ _
        refine j_putI FX9_87 rfl rfl rfl (inR_lit _ rfl) dX9_serve_48 (VK_c 9 349 rfl).1 (VK_c 9 349 rfl).lt (VK_c 9 349 rfl).ka ?_
        refine j_hB eA14 ?_
        refine j_aload_n (j := 0) dX9_serve_51 rfl rfl ?_
        obtain ⟨p16, e15, h⟩ := obind_elim h
        refine j_callV MX9_223 YX9_remembers IX9_remembers SX9_remembers (by decide) rfl (by decide) (by omega) (Nat.le_of_ble_eq_true rfl) rfl (ctX9_remembers (d := d - 1) hl (by omega)  e15) dX9_serve_52 (VK_c 9 349 rfl).1 (VK_c 9 349 rfl).lt (VK_c 9 349 rfl).ka rfl (fun z17 xt18 => ?_)
        refine j_aload_n (j := 0) dX9_serve_55 rfl rfl ?_
        refine j_iload_n (j := 1) dX9_serve_56 rfl rfl ?_
        obtain ⟨p20, e19, h⟩ := obind_elim h
        refine j_callV MX9_258 YX9_serves IX9_serves SX9_serves (by decide) rfl (by decide) (by omega) (Nat.le_of_ble_eq_true rfl) rfl (ctX9_serves (d := d - 1) hl (by omega) hx1 e19) dX9_serve_57 (VK_c 9 349 rfl).1 (VK_c 9 349 rfl).lt (VK_c 9 349 rfl).ka rfl (fun z21 xt22 => ?_)
        cases h
        exact j_iret dX9_serve_60 rfl rfl rfl z21
    · rw [if_neg c8] at h
      refine j_if_eq_f r7 dX9_serve_20 (tgt := 30) (by decide) c8 ?_
      refine j_aload_n (j := 0) dX9_serve_23 rfl rfl ?_
      refine j_iconst dX9_serve_24 ?_
      refine j_iconst dX9_serve_25 ?_
      obtain ⟨p28, e27, h⟩ := obind_elim h
      refine j_callV MX9_248 YX9_refuses IX9_refuses SX9_refuses (by decide) rfl (by decide) (by omega) (Nat.le_of_ble_eq_true rfl) rfl (ctX9_refuses (d := d - 1) hl (by omega) (inR_lit _ rfl) (inR_lit _ rfl) e27) dX9_serve_26 (VK_c 9 349 rfl).1 (VK_c 9 349 rfl).lt (VK_c 9 349 rfl).ka rfl (fun z29 xt30 => ?_)
      cases h
      exact j_iret dX9_serve_29 rfl rfl rfl z29
theorem ctX9_serve {g : JG} {l : Launch} {d N : Nat} {A : AH} {out : Int × AH} {x1 : Int} (hl : l.stackTraces = false) (hd : 9 ≤ d) (hx1 : inR x1) (h : fX9_serve N A x1 = some out) : CT g l yX9_serve cX9_serve 2 (some .int) d [.ref (gB g + 349), vI x1] A ((0, some (vI out.1), out.2) : JO) (inR out.1) :=
  CT_of (by decide +kernel) hl (by first | exact Nat.le_of_ble_eq_true rfl | (unfold rv; split <;> exact Nat.le_of_ble_eq_true rfl)) (by first | rfl | (unfold rv; split <;> rfl)) (j_sub (lv := [(0, .ref (gB g + 349)), (1, vI x1)]) [0, 1] rfl (tX9_serve_0 hl hd hx1 h))
set_option maxRecDepth 100000 in
theorem tX9_isAhead_0 {g : JG} {l : Launch} {d N n0 s0 : Nat} {out : Int} {A : AH} {x1 : Int} {x2 : Int} (hl : l.stackTraces = false) (hd : 1 ≤ d) (hx1 : inR x1) (hx2 : inR x2) (h : fX9_isAhead N A x1 x2 = some out) : J g l d RX9 "isAhead" cX9_isAhead 3 (some .boolean) n0 s0 ((0, some (vI out), A) : JO) ((out = 0 ∨ out = 1)) 0 [(0, .ref (gB g + 349)), (1, vI x1), (2, vI x2)] [] A := by
  unfold fX9_isAhead at h
  refine j_aload_n (j := 0) dX9_isAhead_0 rfl rfl ?_
  refine j_getR (q := 356) FX9_28 rfl dX9_isAhead_1 (by decide) (by decide) rfl rfl (by decide) ?_
  refine j_iload_n (j := 1) dX9_isAhead_4 rfl rfl ?_
  obtain ⟨c1, h⟩ := chk_elim h
  refine j_iald hx1 (by decide) (by decide) rfl dX9_isAhead_5 (VK_c 26 356 rfl).1 (VK_c 26 356 rfl).lt (VK_c 26 356 rfl).ka c1 (fun r2 => ?_)
  refine j_aload_n (j := 0) dX9_isAhead_6 rfl rfl ?_
  refine j_getR (q := 356) FX9_28 rfl dX9_isAhead_7 (by decide) (by decide) rfl rfl (by decide) ?_
  refine j_iload_n (j := 2) dX9_isAhead_10 rfl rfl ?_
  obtain ⟨c3, h⟩ := chk_elim h
  refine j_iald hx2 (by decide) (by decide) rfl dX9_isAhead_11 (VK_c 26 356 rfl).1 (VK_c 26 356 rfl).lt (VK_c 26 356 rfl).ka c3 (fun r4 => ?_)
  by_cases c5 : (gI A 356 x1.toNat) = (gI A 356 x2.toNat)
  · rw [if_pos c5] at h
    refine j_icmp_eq_t r2 r4 dX9_isAhead_12 (tgt := 38) (by decide) c5 ?_
    refine j_aload_n (j := 0) dX9_isAhead_38 rfl rfl ?_
    refine j_getR (q := 355) FX9_25 rfl dX9_isAhead_39 (by decide) (by decide) rfl rfl (by decide) ?_
    refine j_iload_n (j := 1) dX9_isAhead_42 rfl rfl ?_
    obtain ⟨c6, h⟩ := chk_elim h
    refine j_iald hx1 (by decide) (by decide) rfl dX9_isAhead_43 (VK_c 25 355 rfl).1 (VK_c 25 355 rfl).lt (VK_c 25 355 rfl).ka c6 (fun r7 => ?_)
    refine j_aload_n (j := 0) dX9_isAhead_44 rfl rfl ?_
    refine j_getR (q := 355) FX9_25 rfl dX9_isAhead_45 (by decide) (by decide) rfl rfl (by decide) ?_
    refine j_iload_n (j := 2) dX9_isAhead_48 rfl rfl ?_
    obtain ⟨c8, h⟩ := chk_elim h
    refine j_iald hx2 (by decide) (by decide) rfl dX9_isAhead_49 (VK_c 25 355 rfl).1 (VK_c 25 355 rfl).lt (VK_c 25 355 rfl).ka c8 (fun r9 => ?_)
    by_cases c10 : (gI A 355 x1.toNat) = (gI A 355 x2.toNat)
    · rw [if_pos c10] at h
      refine j_icmp_eq_t r7 r9 dX9_isAhead_50 (tgt := 76) (by decide) c10 ?_
      refine j_iload_n (j := 1) dX9_isAhead_76 rfl rfl ?_
      refine j_iload_n (j := 2) dX9_isAhead_77 rfl rfl ?_
      by_cases c11 : x2 ≤ x1
      · rw [if_pos c11] at h
        refine j_icmp_ge_t hx1 hx2 dX9_isAhead_78 (tgt := 85) (by decide) c11 ?_
        refine j_iconst dX9_isAhead_85 ?_
        cases h
        exact j_iret dX9_isAhead_86 rfl ((nar_bool (Or.inl rfl)).1) rfl (Or.inl rfl)
      · rw [if_neg c11] at h
        refine j_icmp_ge_f hx1 hx2 dX9_isAhead_78 (tgt := 85) (by decide) c11 ?_
        refine j_iconst dX9_isAhead_81 ?_
        refine j_goto (tgt := 86) dX9_isAhead_82 (by decide) ?_
        cases h
        exact j_iret dX9_isAhead_86 rfl ((nar_bool (Or.inr rfl)).1) rfl (Or.inr rfl)
    · rw [if_neg c10] at h
      refine j_icmp_eq_f r7 r9 dX9_isAhead_50 (tgt := 76) (by decide) c10 ?_
      refine j_aload_n (j := 0) dX9_isAhead_53 rfl rfl ?_
      refine j_getR (q := 355) FX9_25 rfl dX9_isAhead_54 (by decide) (by decide) rfl rfl (by decide) ?_
      refine j_iload_n (j := 1) dX9_isAhead_57 rfl rfl ?_
      obtain ⟨c12, h⟩ := chk_elim h
      refine j_iald hx1 (by decide) (by decide) rfl dX9_isAhead_58 (VK_c 25 355 rfl).1 (VK_c 25 355 rfl).lt (VK_c 25 355 rfl).ka c12 (fun r13 => ?_)
      refine j_aload_n (j := 0) dX9_isAhead_59 rfl rfl ?_
      refine j_getR (q := 355) FX9_25 rfl dX9_isAhead_60 (by decide) (by decide) rfl rfl (by decide) ?_
      refine j_iload_n (j := 2) dX9_isAhead_63 rfl rfl ?_
      obtain ⟨c14, h⟩ := chk_elim h
      refine j_iald hx2 (by decide) (by decide) rfl dX9_isAhead_64 (VK_c 25 355 rfl).1 (VK_c 25 355 rfl).lt (VK_c 25 355 rfl).ka c14 (fun r15 => ?_)
      by_cases c16 : (gI A 355 x2.toNat) ≤ (gI A 355 x1.toNat)
      · rw [if_pos c16] at h
        refine j_icmp_ge_t r13 r15 dX9_isAhead_65 (tgt := 72) (by decide) c16 ?_
        refine j_iconst dX9_isAhead_72 ?_
        refine j_goto (tgt := 86) dX9_isAhead_73 (by decide) ?_
        cases h
        exact j_iret dX9_isAhead_86 rfl ((nar_bool (Or.inl rfl)).1) rfl (Or.inl rfl)
      · rw [if_neg c16] at h
        refine j_icmp_ge_f r13 r15 dX9_isAhead_65 (tgt := 72) (by decide) c16 ?_
        refine j_iconst dX9_isAhead_68 ?_
        refine j_goto (tgt := 86) dX9_isAhead_69 (by decide) ?_
        cases h
        exact j_iret dX9_isAhead_86 rfl ((nar_bool (Or.inr rfl)).1) rfl (Or.inr rfl)
  · rw [if_neg c5] at h
    refine j_icmp_eq_f r2 r4 dX9_isAhead_12 (tgt := 38) (by decide) c5 ?_
    refine j_aload_n (j := 0) dX9_isAhead_15 rfl rfl ?_
    refine j_getR (q := 356) FX9_28 rfl dX9_isAhead_16 (by decide) (by decide) rfl rfl (by decide) ?_
    refine j_iload_n (j := 1) dX9_isAhead_19 rfl rfl ?_
    obtain ⟨c17, h⟩ := chk_elim h
    refine j_iald hx1 (by decide) (by decide) rfl dX9_isAhead_20 (VK_c 26 356 rfl).1 (VK_c 26 356 rfl).lt (VK_c 26 356 rfl).ka c17 (fun r18 => ?_)
    refine j_aload_n (j := 0) dX9_isAhead_21 rfl rfl ?_
    refine j_getR (q := 356) FX9_28 rfl dX9_isAhead_22 (by decide) (by decide) rfl rfl (by decide) ?_
    refine j_iload_n (j := 2) dX9_isAhead_25 rfl rfl ?_
    obtain ⟨c19, h⟩ := chk_elim h
    refine j_iald hx2 (by decide) (by decide) rfl dX9_isAhead_26 (VK_c 26 356 rfl).1 (VK_c 26 356 rfl).lt (VK_c 26 356 rfl).ka c19 (fun r20 => ?_)
    by_cases c21 : (gI A 356 x2.toNat) ≤ (gI A 356 x1.toNat)
    · rw [if_pos c21] at h
      refine j_icmp_ge_t r18 r20 dX9_isAhead_27 (tgt := 34) (by decide) c21 ?_
      refine j_iconst dX9_isAhead_34 ?_
      refine j_goto (tgt := 86) dX9_isAhead_35 (by decide) ?_
      cases h
      exact j_iret dX9_isAhead_86 rfl ((nar_bool (Or.inl rfl)).1) rfl (Or.inl rfl)
    · rw [if_neg c21] at h
      refine j_icmp_ge_f r18 r20 dX9_isAhead_27 (tgt := 34) (by decide) c21 ?_
      refine j_iconst dX9_isAhead_30 ?_
      refine j_goto (tgt := 86) dX9_isAhead_31 (by decide) ?_
      cases h
      exact j_iret dX9_isAhead_86 rfl ((nar_bool (Or.inr rfl)).1) rfl (Or.inr rfl)
theorem ctX9_isAhead {g : JG} {l : Launch} {d N : Nat} {A : AH} {out : Int} {x1 : Int} {x2 : Int} (hl : l.stackTraces = false) (hd : 1 ≤ d) (hx1 : inR x1) (hx2 : inR x2) (h : fX9_isAhead N A x1 x2 = some out) : CT g l yX9_isAhead cX9_isAhead 3 (some .boolean) d [.ref (gB g + 349), vI x1, vI x2] A ((0, some (vI out), A) : JO) ((out = 0 ∨ out = 1)) :=
  CT_of (by decide +kernel) hl (by first | exact Nat.le_of_ble_eq_true rfl | (unfold rv; split <;> exact Nat.le_of_ble_eq_true rfl)) (by first | rfl | (unfold rv; split <;> rfl)) (j_sub (lv := [(0, .ref (gB g + 349)), (1, vI x1), (2, vI x2)]) [0, 1, 2] rfl (tX9_isAhead_0 hl hd hx1 hx2 h))
set_option maxRecDepth 100000 in
theorem tX9_nextUrgent_34 {g : JG} {l : Launch} {d N n0 s0 : Nat} {out : Int} {A : AH} {x1 : Int} {x2 : Int} {x3 : Int} {k4 : Int → Int → Option (Int)} (hl : l.stackTraces = false) (hd : 2 ≤ d) (hx1 : inR x1) (hx2 : inR x2) (hx3 : inR x3) (hk4 : ∀ (x2 : Int) (x3 : Int), inR x2 → inR x3 → k4 x2 x3 = some out → J g l d RX9 "nextUrgent" cX9_nextUrgent 4 (some .int) n0 s0 ((0, some (vI out), A) : JO) (inR out) 4 [(0, .ref (gB g + 349)), (1, vI x1), (2, vI x2), (3, vI x3)] [] A) (h : fX9_nextUrgent_34 N k4 A x1 x2 x3 = some out) : J g l d RX9 "nextUrgent" cX9_nextUrgent 4 (some .int) n0 s0 ((0, some (vI out), A) : JO) (inR out) 34 [(0, .ref (gB g + 349)), (1, vI x1), (2, vI x2), (3, vI x3)] [] A := by
  unfold fX9_nextUrgent_34 at h
  refine j_iload_n (j := 2) dX9_nextUrgent_34 rfl rfl ?_
  by_cases c1 : x2 < 0
  · rw [if_pos c1] at h
    refine j_if_lt_t hx2 dX9_nextUrgent_35 (tgt := 47) (by decide) c1 ?_
    refine j_iload_n (j := 3) dX9_nextUrgent_47 rfl rfl ?_
    refine j_istore_n (lv' := [(2, vI x3), (0, .ref (gB g + 349)), (1, vI x1), (3, vI x3)]) dX9_nextUrgent_48 rfl (by decide) (by first | rfl | (simp only [List.all_cons, List.all_nil, rv_cat]; rfl)) rfl ?_
    obtain ⟨u2, eu2, h⟩ := bnd_elim h
    have hu2 : inR u2 := by rw [eu2]; exact wrap_inR _
    refine j_iincN (k := 3) (lv' := [(3, vI u2), (2, vI x3), (0, .ref (gB g + 349)), (1, vI x1)]) eu2 dX9_nextUrgent_49 rfl (by decide) (by first | rfl | (simp only [List.all_cons, List.all_nil, rv_cat]; rfl)) rfl ?_
    refine j_goto (tgt := 4) dX9_nextUrgent_52 (by decide) ?_
    exact j_sub [2, 3, 1, 0] rfl (hk4 x3 u2 hx3 hu2 h)
  · rw [if_neg c1] at h
    refine j_if_lt_f hx2 dX9_nextUrgent_35 (tgt := 47) (by decide) c1 ?_
    refine j_aload_n (j := 0) dX9_nextUrgent_38 rfl rfl ?_
    refine j_iload_n (j := 3) dX9_nextUrgent_39 rfl rfl ?_
    refine j_iload_n (j := 2) dX9_nextUrgent_40 rfl rfl ?_
    obtain ⟨z4, e3, h⟩ := obind_elim h
    refine j_callV MX9_261 YX9_isAhead IX9_isAhead SX9_isAhead (by decide) rfl (by decide) (by omega) (Nat.le_of_ble_eq_true rfl) rfl (ctX9_isAhead (d := d - 1) hl (by omega) hx3 hx2 e3) dX9_nextUrgent_41 (VK_c 9 349 rfl).1 (VK_c 9 349 rfl).lt (VK_c 9 349 rfl).ka rfl (fun z5 _ => ?_)
    by_cases c7 : z4 = 0
    · rw [if_pos c7] at h
      refine j_if_eq_t (bool_inR z5) dX9_nextUrgent_44 (tgt := 49) (by decide) c7 ?_
      obtain ⟨u8, eu8, h⟩ := bnd_elim h
      have hu8 : inR u8 := by rw [eu8]; exact wrap_inR _
      refine j_iincN (k := 3) (lv' := [(3, vI u8), (0, .ref (gB g + 349)), (1, vI x1), (2, vI x2)]) eu8 dX9_nextUrgent_49 rfl (by decide) (by first | rfl | (simp only [List.all_cons, List.all_nil, rv_cat]; rfl)) rfl ?_
      refine j_goto (tgt := 4) dX9_nextUrgent_52 (by decide) ?_
      exact j_sub [1, 2, 3, 0] rfl (hk4 x2 u8 hx2 hu8 h)
    · rw [if_neg c7] at h
      refine j_if_eq_f (bool_inR z5) dX9_nextUrgent_44 (tgt := 49) (by decide) c7 ?_
      refine j_iload_n (j := 3) dX9_nextUrgent_47 rfl rfl ?_
      refine j_istore_n (lv' := [(2, vI x3), (0, .ref (gB g + 349)), (1, vI x1), (3, vI x3)]) dX9_nextUrgent_48 rfl (by decide) (by first | rfl | (simp only [List.all_cons, List.all_nil, rv_cat]; rfl)) rfl ?_
      obtain ⟨u9, eu9, h⟩ := bnd_elim h
      have hu9 : inR u9 := by rw [eu9]; exact wrap_inR _
      refine j_iincN (k := 3) (lv' := [(3, vI u9), (2, vI x3), (0, .ref (gB g + 349)), (1, vI x1)]) eu9 dX9_nextUrgent_49 rfl (by decide) (by first | rfl | (simp only [List.all_cons, List.all_nil, rv_cat]; rfl)) rfl ?_
      refine j_goto (tgt := 4) dX9_nextUrgent_52 (by decide) ?_
      exact j_sub [2, 3, 1, 0] rfl (hk4 x3 u9 hx3 hu9 h)
set_option maxRecDepth 100000 in
theorem tX9_nextUrgent_4 {g : JG} {l : Launch} {d N n0 s0 : Nat} {out : Int} {A : AH} {x1 : Int} (hl : l.stackTraces = false) (hd : 2 ≤ d) (hx1 : inR x1) : ∀ (n : Nat) (x2 : Int) (x3 : Int), inR x2 → inR x3 → fX9_nextUrgent_4 N A x1 n x2 x3 = some out → J g l d RX9 "nextUrgent" cX9_nextUrgent 4 (some .int) n0 s0 ((0, some (vI out), A) : JO) (inR out) 4 [(0, .ref (gB g + 349)), (1, vI x1), (2, vI x2), (3, vI x3)] [] A := by
  intro n
  induction n with
  | zero =>
    intro x2 x3 hx2 hx3 h
    rw [fX9_nextUrgent_4] at h
    cases h
  | succ n ih =>
    intro x2 x3 hx2 hx3 h
    rw [fX9_nextUrgent_4] at h
    refine j_iload_n (j := 3) dX9_nextUrgent_4 rfl rfl ?_
    refine j_aload_n (j := 0) dX9_nextUrgent_5 rfl rfl ?_
    refine j_getI FX9_100 rfl dX9_nextUrgent_6 (VK_c 9 349 rfl).1 (VK_c 9 349 rfl).lt (VK_c 9 349 rfl).ka (fun r1 => ?_)
    by_cases c2 : (gI A 349 22) ≤ x3
    · rw [if_pos c2] at h
      refine j_icmp_ge_t hx3 r1 dX9_nextUrgent_9 (tgt := 55) (by decide) c2 ?_
      refine j_iload_n (j := 2) dX9_nextUrgent_55 rfl rfl ?_
      cases h
      exact j_iret dX9_nextUrgent_56 rfl rfl rfl hx2
    · rw [if_neg c2] at h
      refine j_icmp_ge_f hx3 r1 dX9_nextUrgent_9 (tgt := 55) (by decide) c2 ?_
      refine j_aload_n (j := 0) dX9_nextUrgent_12 rfl rfl ?_
      refine j_getR (q := 357) FX9_31 rfl dX9_nextUrgent_13 (by decide) (by decide) rfl rfl (by decide) ?_
      refine j_iload_n (j := 3) dX9_nextUrgent_16 rfl rfl ?_
      obtain ⟨c3, h⟩ := chk_elim h
      refine j_iald hx3 (by decide) (by decide) rfl dX9_nextUrgent_17 (VK_c 27 357 rfl).1 (VK_c 27 357 rfl).lt (VK_c 27 357 rfl).ka c3 (fun r4 => ?_)
      by_cases c5 : (gI A 357 x3.toNat) = 0
      · rw [if_pos c5] at h
        refine j_if_ne_f r4 dX9_nextUrgent_18 (tgt := 49) (by decide) (fun q => q c5) ?_
        refine j_iload_n (j := 1) dX9_nextUrgent_21 rfl rfl ?_
        by_cases c7 : x1 < 0
        · rw [if_pos c7] at h
          refine j_if_lt_t hx1 dX9_nextUrgent_22 (tgt := 34) (by decide) c7 ?_
          exact j_sub [0, 1, 2, 3] rfl (tX9_nextUrgent_34 hl (by omega) hx1 hx2 hx3 ih h)
        · rw [if_neg c7] at h
          refine j_if_lt_f hx1 dX9_nextUrgent_22 (tgt := 34) (by decide) c7 ?_
          refine j_aload_n (j := 0) dX9_nextUrgent_25 rfl rfl ?_
          refine j_iload_n (j := 1) dX9_nextUrgent_26 rfl rfl ?_
          refine j_iload_n (j := 3) dX9_nextUrgent_27 rfl rfl ?_
          obtain ⟨z9, e8, h⟩ := obind_elim h
          refine j_callV MX9_261 YX9_isAhead IX9_isAhead SX9_isAhead (by decide) rfl (by decide) (by omega) (Nat.le_of_ble_eq_true rfl) rfl (ctX9_isAhead (d := d - 1) hl (by omega) hx1 hx3 e8) dX9_nextUrgent_28 (VK_c 9 349 rfl).1 (VK_c 9 349 rfl).lt (VK_c 9 349 rfl).ka rfl (fun z10 _ => ?_)
          by_cases c12 : z9 = 0
          · rw [if_pos c12] at h
            refine j_if_eq_t (bool_inR z10) dX9_nextUrgent_31 (tgt := 49) (by decide) c12 ?_
            obtain ⟨u13, eu13, h⟩ := bnd_elim h
            have hu13 : inR u13 := by rw [eu13]; exact wrap_inR _
            refine j_iincN (k := 3) (lv' := [(3, vI u13), (0, .ref (gB g + 349)), (1, vI x1), (2, vI x2)]) eu13 dX9_nextUrgent_49 rfl (by decide) (by first | rfl | (simp only [List.all_cons, List.all_nil, rv_cat]; rfl)) rfl ?_
            refine j_goto (tgt := 4) dX9_nextUrgent_52 (by decide) ?_
            exact j_sub [1, 2, 3, 0] rfl (ih x2 u13 hx2 hu13 h)
          · rw [if_neg c12] at h
            refine j_if_eq_f (bool_inR z10) dX9_nextUrgent_31 (tgt := 49) (by decide) c12 ?_
            exact j_sub [0, 1, 2, 3] rfl (tX9_nextUrgent_34 hl (by omega) hx1 hx2 hx3 ih h)
      · rw [if_neg c5] at h
        refine j_if_ne_t r4 dX9_nextUrgent_18 (tgt := 49) (by decide) c5 ?_
        obtain ⟨u6, eu6, h⟩ := bnd_elim h
        have hu6 : inR u6 := by rw [eu6]; exact wrap_inR _
        refine j_iincN (k := 3) (lv' := [(3, vI u6), (0, .ref (gB g + 349)), (1, vI x1), (2, vI x2)]) eu6 dX9_nextUrgent_49 rfl (by decide) (by first | rfl | (simp only [List.all_cons, List.all_nil, rv_cat]; rfl)) rfl ?_
        refine j_goto (tgt := 4) dX9_nextUrgent_52 (by decide) ?_
        exact j_sub [1, 2, 3, 0] rfl (ih x2 u6 hx2 hu6 h)
set_option maxRecDepth 100000 in
theorem tX9_nextUrgent_0 {g : JG} {l : Launch} {d N n0 s0 : Nat} {out : Int} {A : AH} {x1 : Int} (hl : l.stackTraces = false) (hd : 2 ≤ d) (hx1 : inR x1) (h : fX9_nextUrgent N A x1 = some out) : J g l d RX9 "nextUrgent" cX9_nextUrgent 4 (some .int) n0 s0 ((0, some (vI out), A) : JO) (inR out) 0 [(0, .ref (gB g + 349)), (1, vI x1)] [] A := by
  unfold fX9_nextUrgent at h
  refine j_iconst dX9_nextUrgent_0 ?_
  refine j_istore_n (lv' := [(2, vI (-1)), (0, .ref (gB g + 349)), (1, vI x1)]) dX9_nextUrgent_1 rfl (by decide) (by first | rfl | (simp only [List.all_cons, List.all_nil, rv_cat]; rfl)) rfl ?_
  refine j_iconst dX9_nextUrgent_2 ?_
  refine j_istore_n (lv' := [(3, vI 0), (2, vI (-1)), (0, .ref (gB g + 349)), (1, vI x1)]) dX9_nextUrgent_3 rfl (by decide) (by first | rfl | (simp only [List.all_cons, List.all_nil, rv_cat]; rfl)) rfl ?_
  exact j_sub [2, 3, 1, 0] rfl (tX9_nextUrgent_4 hl (by omega) hx1  N (-1) 0 (inR_lit _ rfl) (inR_lit _ rfl) h)
theorem ctX9_nextUrgent {g : JG} {l : Launch} {d N : Nat} {A : AH} {out : Int} {x1 : Int} (hl : l.stackTraces = false) (hd : 2 ≤ d) (hx1 : inR x1) (h : fX9_nextUrgent N A x1 = some out) : CT g l yX9_nextUrgent cX9_nextUrgent 4 (some .int) d [.ref (gB g + 349), vI x1] A ((0, some (vI out), A) : JO) (inR out) :=
  CT_of (by decide +kernel) hl (by first | exact Nat.le_of_ble_eq_true rfl | (unfold rv; split <;> exact Nat.le_of_ble_eq_true rfl)) (by first | rfl | (unfold rv; split <;> rfl)) (j_sub (lv := [(0, .ref (gB g + 349)), (1, vI x1)]) [0, 1] rfl (tX9_nextUrgent_0 hl hd hx1 h))
set_option maxRecDepth 100000 in
theorem tX9_serveAll_43 {g : JG} {l : Launch} {d N n0 s0 : Nat} {out : Int × AH} {A : AH} {x2 : Int} {xs0 : Int} {xs1 : Int} {k17 : AH → Int → Int → Option (Int × AH)} (hl : l.stackTraces = false) (hd : 9 ≤ d) (hx2 : inR x2) (hxs0 : inR xs0) (hxs1 : inR xs1) (hk17 : ∀ (A : AH) (x1 : Int) (x2 : Int), inR x1 → inR x2 → k17 A x1 x2 = some out → J g l d RX9 "serveAll" cX9_serveAll 3 (some .int) n0 s0 ((0, some (vI out.1), out.2) : JO) (inR out.1) 17 [(0, .ref (gB g + 349)), (1, vI x1), (2, vI x2)] [] A) (h : fX9_serveAll_43 N k17 A x2 xs0 xs1 = some out) : J g l d RX9 "serveAll" cX9_serveAll 3 (some .int) n0 s0 ((0, some (vI out.1), out.2) : JO) (inR out.1) 43 [(0, .ref (gB g + 349)), (2, vI x2)] [vI xs1, vI xs0] A := by
  unfold fX9_serveAll_43 at h
  refine j_iadd dX9_serveAll_43 ?_
  obtain ⟨u1, eu1, h⟩ := bnd_elim h
  have hu1 : inR u1 := by rw [eu1]; exact (wrap_inR _)
  refine j_nm eu1 ?_
  refine j_istore_n (lv' := [(1, vI u1), (0, .ref (gB g + 349)), (2, vI x2)]) dX9_serveAll_44 rfl (by decide) (by first | rfl | (simp only [List.all_cons, List.all_nil, rv_cat]; rfl)) rfl ?_
  refine j_aload_n (j := 1) dX9_serveAll_45 rfl rfl ?_
  refine j_iload_n (j := 2) dX9_serveAll_46 rfl rfl ?_
  obtain ⟨z3, e2, h⟩ := obind_elim h
  refine j_callV MX9_264 YX9_nextUrgent IX9_nextUrgent SX9_nextUrgent (by decide) rfl (by decide) (by omega) (Nat.le_of_ble_eq_true rfl) rfl (ctX9_nextUrgent (d := d - 1) hl (by omega) hx2 e2) dX9_serveAll_47 (VK_c 9 349 rfl).1 (VK_c 9 349 rfl).lt (VK_c 9 349 rfl).ka rfl (fun z4 _ => ?_)
  refine j_istore_n (lv' := [(2, vI z3), (1, vI u1), (0, .ref (gB g + 349))]) dX9_serveAll_50 rfl (by decide) (by first | rfl | (simp only [List.all_cons, List.all_nil, rv_cat]; rfl)) rfl ?_
  refine j_goto (tgt := 17) dX9_serveAll_51 (by decide) ?_
  exact j_sub [2, 1, 0] rfl (hk17 A u1 z3 hu1 z4 h)
set_option maxRecDepth 100000 in
theorem tX9_serveAll_17 {g : JG} {l : Launch} {d N n0 s0 : Nat} {out : Int × AH} (hl : l.stackTraces = false) (hd : 9 ≤ d) : ∀ (n : Nat) (A : AH) (x1 : Int) (x2 : Int), inR x1 → inR x2 → fX9_serveAll_17 N n A x1 x2 = some out → J g l d RX9 "serveAll" cX9_serveAll 3 (some .int) n0 s0 ((0, some (vI out.1), out.2) : JO) (inR out.1) 17 [(0, .ref (gB g + 349)), (1, vI x1), (2, vI x2)] [] A := by
  intro n
  induction n with
  | zero =>
    intro A x1 x2 hx1 hx2 h
    rw [fX9_serveAll_17] at h
    cases h
  | succ n ih =>
    intro A x1 x2 hx1 hx2 h
    rw [fX9_serveAll_17] at h
    refine j_iload_n (j := 2) dX9_serveAll_17 rfl rfl ?_
    by_cases c1 : x2 < 0
    · rw [if_pos c1] at h
      refine j_if_lt_t hx2 dX9_serveAll_18 (tgt := 54) (by decide) c1 ?_
      refine j_iload_n (j := 1) dX9_serveAll_54 rfl rfl ?_
      cases h
      exact j_iret dX9_serveAll_55 rfl rfl rfl hx1
    · rw [if_neg c1] at h
      refine j_if_lt_f hx2 dX9_serveAll_18 (tgt := 54) (by decide) c1 ?_
      refine j_iload_n (j := 1) dX9_serveAll_21 rfl rfl ?_
      refine j_aload_n (j := 0) dX9_serveAll_22 rfl rfl ?_
      refine j_iload_n (j := 2) dX9_serveAll_23 rfl rfl ?_
      obtain ⟨p3, e2, h⟩ := obind_elim h
      refine j_callV MX9_255 YX9_canServe IX9_canServe SX9_canServe (by decide) rfl (by decide) (by omega) (Nat.le_of_ble_eq_true rfl) rfl (ctX9_canServe (d := d - 1) hl (by omega) hx2 e2) dX9_serveAll_24 (VK_c 9 349 rfl).1 (VK_c 9 349 rfl).lt (VK_c 9 349 rfl).ka rfl (fun z4 xt5 => ?_)
      by_cases c6 : p3.1 = 0
      · rw [if_pos c6] at h
        refine j_if_eq_t (bool_inR z4) dX9_serveAll_27 (tgt := 42) (by decide) c6 ?_
        refine j_iconst dX9_serveAll_42 ?_
        exact j_sub [0, 2] rfl (tX9_serveAll_43 hl (by omega) hx2 hx1 (inR_lit _ rfl) ih h)
      · rw [if_neg c6] at h
        refine j_if_eq_f (bool_inR z4) dX9_serveAll_27 (tgt := 42) (by decide) c6 ?_
        refine j_aload_n (j := 0) dX9_serveAll_30 rfl rfl ?_
        refine j_iload_n (j := 2) dX9_serveAll_31 rfl rfl ?_
        obtain ⟨p8, e7, h⟩ := obind_elim h
        refine j_callV MX9_258 YX9_serves IX9_serves SX9_serves (by decide) rfl (by decide) (by omega) (Nat.le_of_ble_eq_true rfl) rfl (ctX9_serves (d := d - 1) hl (by omega) hx2 e7) dX9_serveAll_32 (VK_c 9 349 rfl).1 (VK_c 9 349 rfl).lt (VK_c 9 349 rfl).ka rfl (fun z9 xt10 => ?_)
        by_cases c11 : p8.1 < 0
        · rw [if_pos c11] at h
          refine j_if_lt_t z9 dX9_serveAll_35 (tgt := 42) (by decide) c11 ?_
          refine j_iconst dX9_serveAll_42 ?_
          exact j_sub [0, 2] rfl (tX9_serveAll_43 hl (by omega) hx2 hx1 (inR_lit _ rfl) ih h)
        · rw [if_neg c11] at h
          refine j_if_lt_f z9 dX9_serveAll_35 (tgt := 42) (by decide) c11 ?_
          refine j_iconst dX9_serveAll_38 ?_
          refine j_goto (tgt := 43) dX9_serveAll_39 (by decide) ?_
          exact j_sub [0, 2] rfl (tX9_serveAll_43 hl (by omega) hx2 hx1 (inR_lit _ rfl) ih h)
set_option maxRecDepth 100000 in
theorem tX9_serveAll_0 {g : JG} {l : Launch} {d N n0 s0 : Nat} {out : Int × AH} {A : AH} (hl : l.stackTraces = false) (hd : 9 ≤ d) (h : fX9_serveAll N A  = some out) : J g l d RX9 "serveAll" cX9_serveAll 3 (some .int) n0 s0 ((0, some (vI out.1), out.2) : JO) (inR out.1) 0 [(0, .ref (gB g + 349))] [] A := by
  unfold fX9_serveAll at h
  refine j_aload_n (j := 0) dX9_serveAll_0 rfl rfl ?_
  refine j_iconst dX9_serveAll_1 ?_
  obtain ⟨A1, eA1, h⟩ := bnd_elim h
  have xA1 : XT A A1 := by rw [eA1]; exact XT_sI _ _ _ _
  refine j_putI FX9_87 rfl rfl rfl (inR_lit _ rfl) dX9_serveAll_2 (VK_c 9 349 rfl).1 (VK_c 9 349 rfl).lt (VK_c 9 349 rfl).ka ?_
  refine j_hB eA1 ?_
  refine j_aload_n (j := 0) dX9_serveAll_5 rfl rfl ?_
  obtain ⟨p3, e2, h⟩ := obind_elim h
  refine j_callV MX9_223 YX9_remembers IX9_remembers SX9_remembers (by decide) rfl (by decide) (by omega) (Nat.le_of_ble_eq_true rfl) rfl (ctX9_remembers (d := d - 1) hl (by omega)  e2) dX9_serveAll_6 (VK_c 9 349 rfl).1 (VK_c 9 349 rfl).lt (VK_c 9 349 rfl).ka rfl (fun z4 xt5 => ?_)
  refine j_iconst dX9_serveAll_9 ?_
  refine j_istore_n (lv' := [(1, vI 0), (0, .ref (gB g + 349))]) dX9_serveAll_10 rfl (by decide) (by first | rfl | (simp only [List.all_cons, List.all_nil, rv_cat]; rfl)) rfl ?_
  refine j_aload_n (j := 1) dX9_serveAll_11 rfl rfl ?_
  refine j_iconst dX9_serveAll_12 ?_
  obtain ⟨z7, e6, h⟩ := obind_elim h
  refine j_callV MX9_264 YX9_nextUrgent IX9_nextUrgent SX9_nextUrgent (by decide) rfl (by decide) (by omega) (Nat.le_of_ble_eq_true rfl) rfl (ctX9_nextUrgent (d := d - 1) hl (by omega) (inR_lit _ rfl) e6) dX9_serveAll_13 (VK_c 9 349 rfl).1 (VK_c 9 349 rfl).lt (VK_c 9 349 rfl).ka rfl (fun z8 _ => ?_)
  refine j_istore_n (lv' := [(2, vI z7), (1, vI 0), (0, .ref (gB g + 349))]) dX9_serveAll_16 rfl (by decide) (by first | rfl | (simp only [List.all_cons, List.all_nil, rv_cat]; rfl)) rfl ?_
  exact j_sub [2, 1, 0] rfl (tX9_serveAll_17 hl (by omega)   N p3 0 z7 (inR_lit _ rfl) z8 h)
theorem ctX9_serveAll {g : JG} {l : Launch} {d N : Nat} {A : AH} {out : Int × AH} (hl : l.stackTraces = false) (hd : 9 ≤ d) (h : fX9_serveAll N A  = some out) : CT g l yX9_serveAll cX9_serveAll 3 (some .int) d [.ref (gB g + 349)] A ((0, some (vI out.1), out.2) : JO) (inR out.1) :=
  CT_of (by decide +kernel) hl (by first | exact Nat.le_of_ble_eq_true rfl | (unfold rv; split <;> exact Nat.le_of_ble_eq_true rfl)) (by first | rfl | (unfold rv; split <;> rfl)) (j_sub (lv := [(0, .ref (gB g + 349))]) [0] rfl (tX9_serveAll_0 hl hd  h))
set_option maxRecDepth 100000 in
theorem tX9_release_37 {g : JG} {l : Launch} {d N n0 s0 : Nat} {out : Int × AH} {A : AH} (hl : l.stackTraces = false) (hd : 4 ≤ d) (h : fX9_release_37 N A  = some out) : J g l d RX9 "release" cX9_release 2 (some .int) n0 s0 ((0, some (vI out.1), out.2) : JO) (inR out.1) 37 [(0, .ref (gB g + 349))] [] A := by
  unfold fX9_release_37 at h
  refine j_aload_n (j := 0) dX9_release_37 rfl rfl ?_
  refine j_bipush dX9_release_38 rfl ?_
  refine j_iconst dX9_release_40 ?_
  obtain ⟨p2, e1, h⟩ := obind_elim h
  refine j_callV MX9_248 YX9_refuses IX9_refuses SX9_refuses (by decide) rfl (by decide) (by omega) (Nat.le_of_ble_eq_true rfl) rfl (ctX9_refuses (d := d - 1) hl (by omega) (inR_lit _ rfl) (inR_lit _ rfl) e1) dX9_release_41 (VK_c 9 349 rfl).1 (VK_c 9 349 rfl).lt (VK_c 9 349 rfl).ka rfl (fun z3 xt4 => ?_)
  cases h
  exact j_iret dX9_release_44 rfl rfl rfl z3
set_option maxRecDepth 100000 in
theorem tX9_release_0 {g : JG} {l : Launch} {d N n0 s0 : Nat} {out : Int × AH} {A : AH} {x1 : Int} (hl : l.stackTraces = false) (hd : 4 ≤ d) (hx1 : inR x1) (h : fX9_release N A x1 = some out) : J g l d RX9 "release" cX9_release 2 (some .int) n0 s0 ((0, some (vI out.1), out.2) : JO) (inR out.1) 0 [(0, .ref (gB g + 349)), (1, vI x1)] [] A := by
  unfold fX9_release at h
  refine j_aload_n (j := 0) dX9_release_0 rfl rfl ?_
  refine j_iload_n (j := 1) dX9_release_1 rfl rfl ?_
  obtain ⟨z2, e1, h⟩ := obind_elim h
  refine j_callV MX9_229 YX9_isOrder IX9_isOrder SX9_isOrder (by decide) rfl (by decide) (by omega) (Nat.le_of_ble_eq_true rfl) rfl (ctX9_isOrder (d := d - 1) hl (by omega) hx1 e1) dX9_release_2 (VK_c 9 349 rfl).1 (VK_c 9 349 rfl).lt (VK_c 9 349 rfl).ka rfl (fun z3 _ => ?_)
  by_cases c5 : z2 = 0
  · rw [if_pos c5] at h
    refine j_if_ne_f (bool_inR z3) dX9_release_5 (tgt := 14) (by decide) (fun q => q c5) ?_
    refine j_aload_n (j := 0) dX9_release_8 rfl rfl ?_
    refine j_iconst dX9_release_9 ?_
    obtain ⟨p39, e38, h⟩ := obind_elim h
    refine j_callV MX9_220 YX9_fails IX9_fails SX9_fails (by decide) rfl (by decide) (by omega) (Nat.le_of_ble_eq_true rfl) rfl (ctX9_fails (d := d - 1) hl (by omega) (inR_lit _ rfl) e38) dX9_release_10 (VK_c 9 349 rfl).1 (VK_c 9 349 rfl).lt (VK_c 9 349 rfl).ka rfl (fun z40 xt41 => ?_)
    cases h
    exact j_iret dX9_release_13 rfl rfl rfl z40
  · rw [if_neg c5] at h
    refine j_if_ne_t (bool_inR z3) dX9_release_5 (tgt := 14) (by decide) c5 ?_
    refine j_aload_n (j := 0) dX9_release_14 rfl rfl ?_
    refine j_getR (q := 357) FX9_31 rfl dX9_release_15 (by decide) (by decide) rfl rfl (by decide) ?_
    refine j_iload_n (j := 1) dX9_release_18 rfl rfl ?_
    obtain ⟨c6, h⟩ := chk_elim h
    refine j_iald hx1 (by decide) (by decide) rfl dX9_release_19 (VK_c 27 357 rfl).1 (VK_c 27 357 rfl).lt (VK_c 27 357 rfl).ka c6 (fun r7 => ?_)
    refine j_iconst dX9_release_20 ?_
    by_cases c8 : (gI A 357 x1.toNat) = 1
    · rw [if_pos c8] at h
      refine j_icmp_ne_f r7 (inR_lit _ rfl) dX9_release_21 (tgt := 37) (by decide) (fun q => q c8) ?_
      refine j_aload_n (j := 0) dX9_release_24 rfl rfl ?_
      refine j_getR (q := 359) FX9_37 rfl dX9_release_25 (by decide) (by decide) rfl rfl (by decide) ?_
      refine j_iload_n (j := 1) dX9_release_28 rfl rfl ?_
      obtain ⟨c9, h⟩ := chk_elim h
      refine j_iald hx1 (by decide) (by decide) rfl dX9_release_29 (VK_c 29 359 rfl).1 (VK_c 29 359 rfl).lt (VK_c 29 359 rfl).ka c9 (fun r10 => ?_)
      refine j_aload_n (j := 0) dX9_release_30 rfl rfl ?_
      refine j_getI FX9_155 rfl dX9_release_31 (VK_c 9 349 rfl).1 (VK_c 9 349 rfl).lt (VK_c 9 349 rfl).ka (fun r11 => ?_)
      by_cases c12 : (gI A 349 19) < (gI A 359 x1.toNat)
      · rw [if_pos c12] at h
        refine j_icmp_gt_t r10 r11 dX9_release_34 (tgt := 45) (by decide) c12 ?_
        refine j_aload_n (j := 0) dX9_release_45 rfl rfl ?_
        refine j_aload_n (j := 0) dX9_release_46 rfl rfl ?_
        refine j_getR (q := 358) FX9_34 rfl dX9_release_47 (by decide) (by decide) rfl rfl (by decide) ?_
        refine j_iload_n (j := 1) dX9_release_50 rfl rfl ?_
        obtain ⟨c13, h⟩ := chk_elim h
        refine j_iald hx1 (by decide) (by decide) rfl dX9_release_51 (VK_c 28 358 rfl).1 (VK_c 28 358 rfl).lt (VK_c 28 358 rfl).ka c13 (fun r14 => ?_)
        obtain ⟨p16, e15, h⟩ := obind_elim h
        refine j_callV MX9_164 YX9_findLast IX9_findLast SX9_findLast (by decide) rfl (by decide) (by omega) (Nat.le_of_ble_eq_true rfl) rfl (ctX9_findLast (d := d - 1) hl (by omega) r14 e15) dX9_release_52 (VK_c 9 349 rfl).1 (VK_c 9 349 rfl).lt (VK_c 9 349 rfl).ka rfl (fun z17 xt18 => ?_)
        refine j_aload_n (j := 0) dX9_release_55 rfl rfl ?_
        refine j_getI FX9_118 rfl dX9_release_56 (VK_c 9 349 rfl).1 (VK_c 9 349 rfl).lt (VK_c 9 349 rfl).ka (fun r19 => ?_)
        refine j_aload_n (j := 0) dX9_release_59 rfl rfl ?_
        refine j_iload_n (j := 1) dX9_release_60 rfl rfl ?_
        obtain ⟨z21, e20, h⟩ := obind_elim h
        refine j_callV MX9_127 YX9_end IX9_end SX9_end (by decide) rfl (by decide) (by omega) (Nat.le_of_ble_eq_true rfl) rfl (ctX9_end (d := d - 1) hl (by omega) hx1 e20) dX9_release_61 (VK_c 9 349 rfl).1 (VK_c 9 349 rfl).lt (VK_c 9 349 rfl).ka rfl (fun z22 _ => ?_)
        by_cases c24 : (gI p16 349 24) = z21
        · rw [if_pos c24] at h
          refine j_icmp_eq_t r19 z22 dX9_release_64 (tgt := 75) (by decide) c24 ?_
          refine j_aload_n (j := 0) dX9_release_75 rfl rfl ?_
          refine j_iconst dX9_release_76 ?_
          obtain ⟨A25, eA25, h⟩ := bnd_elim h
          have xA25 : XT p16 A25 := by rw [eA25]; exact XT_sI _ _ _ _
          refine j_putI FX9_87 rfl rfl rfl (inR_lit _ rfl) dX9_release_77 (VK_c 9 349 rfl).1 (VK_c 9 349 rfl).lt (VK_c 9 349 rfl).ka ?_
          refine j_hB eA25 ?_
          refine j_aload_n (j := 0) dX9_release_80 rfl rfl ?_
          obtain ⟨p27, e26, h⟩ := obind_elim h
          refine j_callV MX9_223 YX9_remembers IX9_remembers SX9_remembers (by decide) rfl (by decide) (by omega) (Nat.le_of_ble_eq_true rfl) rfl (ctX9_remembers (d := d - 1) hl (by omega)  e26) dX9_release_81 (VK_c 9 349 rfl).1 (VK_c 9 349 rfl).lt (VK_c 9 349 rfl).ka rfl (fun z28 xt29 => ?_)
          refine j_aload_n (j := 0) dX9_release_84 rfl rfl ?_
          refine j_getR (q := 357) FX9_31 rfl dX9_release_85 (by decide) (by decide) rfl rfl (by decide) ?_
          refine j_iload_n (j := 1) dX9_release_88 rfl rfl ?_
          refine j_iconst dX9_release_89 ?_
          obtain ⟨c30, h⟩ := chk_elim h
          obtain ⟨A31, eA31, h⟩ := bnd_elim h
          have xA31 : XT p27 A31 := by rw [eA31]; exact XT_sI _ _ _ _
          refine j_iast hx1 (inR_lit _ rfl) (by decide) (by decide) rfl dX9_release_90 (VK_c 27 357 rfl).1 (VK_c 27 357 rfl).lt (VK_c 27 357 rfl).ka c30 ?_
          refine j_hB eA31 ?_
          refine j_aload_n (j := 0) dX9_release_91 rfl rfl ?_
          refine j_getR (q := 358) FX9_34 rfl dX9_release_92 (by decide) (by decide) rfl rfl (by decide) ?_
          refine j_iload_n (j := 1) dX9_release_95 rfl rfl ?_
          obtain ⟨c32, h⟩ := chk_elim h
          refine j_iald hx1 (by decide) (by decide) rfl dX9_release_96 (VK_c 28 358 rfl).1 (VK_c 28 358 rfl).lt (VK_c 28 358 rfl).ka c32 (fun r33 => ?_)
          cases h
          exact j_iret dX9_release_97 rfl rfl rfl r33
        · rw [if_neg c24] at h
          refine j_icmp_eq_f r19 z22 dX9_release_64 (tgt := 75) (by decide) c24 ?_
          refine j_aload_n (j := 0) dX9_release_67 rfl rfl ?_
          refine j_bipush dX9_release_68 rfl ?_
          refine j_iconst dX9_release_70 ?_
          obtain ⟨p35, e34, h⟩ := obind_elim h
          refine j_callV MX9_248 YX9_refuses IX9_refuses SX9_refuses (by decide) rfl (by decide) (by omega) (Nat.le_of_ble_eq_true rfl) rfl (ctX9_refuses (d := d - 1) hl (by omega) (inR_lit _ rfl) (inR_lit _ rfl) e34) dX9_release_71 (VK_c 9 349 rfl).1 (VK_c 9 349 rfl).lt (VK_c 9 349 rfl).ka rfl (fun z36 xt37 => ?_)
          cases h
          exact j_iret dX9_release_74 rfl rfl rfl z36
      · rw [if_neg c12] at h
        refine j_icmp_gt_f r10 r11 dX9_release_34 (tgt := 45) (by decide) c12 ?_
        exact j_sub [0] rfl (tX9_release_37 hl (by omega)   h)
    · rw [if_neg c8] at h
      refine j_icmp_ne_t r7 (inR_lit _ rfl) dX9_release_21 (tgt := 37) (by decide) c8 ?_
      exact j_sub [0] rfl (tX9_release_37 hl (by omega)   h)
theorem ctX9_release {g : JG} {l : Launch} {d N : Nat} {A : AH} {out : Int × AH} {x1 : Int} (hl : l.stackTraces = false) (hd : 4 ≤ d) (hx1 : inR x1) (h : fX9_release N A x1 = some out) : CT g l yX9_release cX9_release 2 (some .int) d [.ref (gB g + 349), vI x1] A ((0, some (vI out.1), out.2) : JO) (inR out.1) :=
  CT_of (by decide +kernel) hl (by first | exact Nat.le_of_ble_eq_true rfl | (unfold rv; split <;> exact Nat.le_of_ble_eq_true rfl)) (by first | rfl | (unfold rv; split <;> rfl)) (j_sub (lv := [(0, .ref (gB g + 349)), (1, vI x1)]) [0, 1] rfl (tX9_release_0 hl hd hx1 h))
set_option maxRecDepth 100000 in
theorem tX9_putOff_106 {g : JG} {l : Launch} {d N n0 s0 : Nat} {out : Int × AH} {A : AH} {x1 : Int} {xs1 : Int} {xs2 : Int} (hl : l.stackTraces = false) (hd : 4 ≤ d) (hx1 : inR x1) (hxs1 : inR xs1) (hxs2 : inR xs2) (h : fX9_putOff_106 N A x1 xs1 xs2 = some out) : J g l d RX9 "putOff" cX9_putOff 3 (some .int) n0 s0 ((0, some (vI out.1), out.2) : JO) (inR out.1) 106 [(0, .ref (gB g + 349)), (1, vI x1)] [vI xs2, vI xs1, .ref (gB g + 356)] A := by
  unfold fX9_putOff_106 at h
  obtain ⟨c1, h⟩ := chk_elim h
  obtain ⟨A2, eA2, h⟩ := bnd_elim h
  have xA2 : XT A A2 := by rw [eA2]; exact XT_sI _ _ _ _
  refine j_iast hxs1 hxs2 (by decide) (by decide) rfl dX9_putOff_106 (VK_c 26 356 rfl).1 (VK_c 26 356 rfl).lt (VK_c 26 356 rfl).ka c1 ?_
  refine j_hB eA2 ?_
  refine j_aload_n (j := 0) dX9_putOff_107 rfl rfl ?_
  refine j_getR (q := 360) FX9_40 rfl dX9_putOff_108 (by decide) (by decide) rfl rfl (by decide) ?_
  refine j_iload_n (j := 1) dX9_putOff_111 rfl rfl ?_
  refine j_dup2 dX9_putOff_112 rfl rfl ?_
  obtain ⟨c3, h⟩ := chk_elim h
  refine j_iald hx1 (by decide) (by decide) rfl dX9_putOff_113 (VK_c 30 360 rfl).1 (VK_c 30 360 rfl).lt (VK_c 30 360 rfl).ka c3 (fun r4 => ?_)
  refine j_iconst dX9_putOff_114 ?_
  refine j_iadd dX9_putOff_115 ?_
  obtain ⟨c5, h⟩ := chk_elim h
  obtain ⟨A6, eA6, h⟩ := bnd_elim h
  have xA6 : XT A2 A6 := by rw [eA6]; exact XT_sI _ _ _ _
  refine j_iast hx1 (wrap_inR _) (by decide) (by decide) rfl dX9_putOff_116 (VK_c 30 360 rfl).1 (VK_c 30 360 rfl).lt (VK_c 30 360 rfl).ka c5 ?_
  refine j_hB eA6 ?_
  refine j_aload_n (j := 0) dX9_putOff_117 rfl rfl ?_
  refine j_getR (q := 356) FX9_28 rfl dX9_putOff_118 (by decide) (by decide) rfl rfl (by decide) ?_
  refine j_iload_n (j := 1) dX9_putOff_121 rfl rfl ?_
  obtain ⟨c7, h⟩ := chk_elim h
  refine j_iald hx1 (by decide) (by decide) rfl dX9_putOff_122 (VK_c 26 356 rfl).1 (VK_c 26 356 rfl).lt (VK_c 26 356 rfl).ka c7 (fun r8 => ?_)
  cases h
  exact j_iret dX9_putOff_123 rfl rfl rfl r8
set_option maxRecDepth 100000 in
theorem tX9_putOff_0 {g : JG} {l : Launch} {d N n0 s0 : Nat} {out : Int × AH} {A : AH} {x1 : Int} {x2 : Int} (hl : l.stackTraces = false) (hd : 4 ≤ d) (hx1 : inR x1) (hx2 : inR x2) (h : fX9_putOff N A x1 x2 = some out) : J g l d RX9 "putOff" cX9_putOff 3 (some .int) n0 s0 ((0, some (vI out.1), out.2) : JO) (inR out.1) 0 [(0, .ref (gB g + 349)), (1, vI x1), (2, vI x2)] [] A := by
  unfold fX9_putOff at h
  refine j_aload_n (j := 0) dX9_putOff_0 rfl rfl ?_
  refine j_iload_n (j := 1) dX9_putOff_1 rfl rfl ?_
  obtain ⟨z2, e1, h⟩ := obind_elim h
  refine j_callV MX9_229 YX9_isOrder IX9_isOrder SX9_isOrder (by decide) rfl (by decide) (by omega) (Nat.le_of_ble_eq_true rfl) rfl (ctX9_isOrder (d := d - 1) hl (by omega) hx1 e1) dX9_putOff_2 (VK_c 9 349 rfl).1 (VK_c 9 349 rfl).lt (VK_c 9 349 rfl).ka rfl (fun z3 _ => ?_)
  by_cases c5 : z2 = 0
  · rw [if_pos c5] at h
    refine j_if_ne_f (bool_inR z3) dX9_putOff_5 (tgt := 14) (by decide) (fun q => q c5) ?_
    refine j_aload_n (j := 0) dX9_putOff_8 rfl rfl ?_
    refine j_iconst dX9_putOff_9 ?_
    obtain ⟨p40, e39, h⟩ := obind_elim h
    refine j_callV MX9_220 YX9_fails IX9_fails SX9_fails (by decide) rfl (by decide) (by omega) (Nat.le_of_ble_eq_true rfl) rfl (ctX9_fails (d := d - 1) hl (by omega) (inR_lit _ rfl) e39) dX9_putOff_10 (VK_c 9 349 rfl).1 (VK_c 9 349 rfl).lt (VK_c 9 349 rfl).ka rfl (fun z41 xt42 => ?_)
    cases h
    exact j_iret dX9_putOff_13 rfl rfl rfl z41
  · rw [if_neg c5] at h
    refine j_if_ne_t (bool_inR z3) dX9_putOff_5 (tgt := 14) (by decide) c5 ?_
    refine j_iload_n (j := 2) dX9_putOff_14 rfl rfl ?_
    refine j_iconst dX9_putOff_15 ?_
    refine j_bipush dX9_putOff_16 rfl ?_
    obtain ⟨z7, e6, h⟩ := obind_elim h
    refine j_callS MX9_90 YX9_isBetween IX9_isBetween (by decide) (by omega) (Nat.le_of_ble_eq_true rfl) rfl (ctX9_isBetween (d := d - 1) hl (by omega) hx2 (inR_lit _ rfl) (inR_lit _ rfl) e6) dX9_putOff_18 rfl (fun z8 _ => ?_)
    by_cases c10 : z7 = 0
    · rw [if_pos c10] at h
      refine j_if_ne_f (bool_inR z8) dX9_putOff_21 (tgt := 30) (by decide) (fun q => q c10) ?_
      refine j_aload_n (j := 0) dX9_putOff_24 rfl rfl ?_
      refine j_iconst dX9_putOff_25 ?_
      obtain ⟨p36, e35, h⟩ := obind_elim h
      refine j_callV MX9_220 YX9_fails IX9_fails SX9_fails (by decide) rfl (by decide) (by omega) (Nat.le_of_ble_eq_true rfl) rfl (ctX9_fails (d := d - 1) hl (by omega) (inR_lit _ rfl) e35) dX9_putOff_26 (VK_c 9 349 rfl).1 (VK_c 9 349 rfl).lt (VK_c 9 349 rfl).ka rfl (fun z37 xt38 => ?_)
      cases h
      exact j_iret dX9_putOff_29 rfl rfl rfl z37
    · rw [if_neg c10] at h
      refine j_if_ne_t (bool_inR z8) dX9_putOff_21 (tgt := 30) (by decide) c10 ?_
      refine j_aload_n (j := 0) dX9_putOff_30 rfl rfl ?_
      refine j_getR (q := 357) FX9_31 rfl dX9_putOff_31 (by decide) (by decide) rfl rfl (by decide) ?_
      refine j_iload_n (j := 1) dX9_putOff_34 rfl rfl ?_
      obtain ⟨c11, h⟩ := chk_elim h
      refine j_iald hx1 (by decide) (by decide) rfl dX9_putOff_35 (VK_c 27 357 rfl).1 (VK_c 27 357 rfl).lt (VK_c 27 357 rfl).ka c11 (fun r12 => ?_)
      by_cases c13 : (gI A 357 x1.toNat) = 0
      · rw [if_pos c13] at h
        refine j_if_eq_t r12 dX9_putOff_36 (tgt := 46) (by decide) c13 ?_
        refine j_aload_n (j := 0) dX9_putOff_46 rfl rfl ?_
        refine j_getR (q := 360) FX9_40 rfl dX9_putOff_47 (by decide) (by decide) rfl rfl (by decide) ?_
        refine j_iload_n (j := 1) dX9_putOff_50 rfl rfl ?_
        obtain ⟨c14, h⟩ := chk_elim h
        refine j_iald hx1 (by decide) (by decide) rfl dX9_putOff_51 (VK_c 30 360 rfl).1 (VK_c 30 360 rfl).lt (VK_c 30 360 rfl).ka c14 (fun r15 => ?_)
        refine j_iconst dX9_putOff_52 ?_
        by_cases c16 : (gI A 360 x1.toNat) = 2
        · rw [if_pos c16] at h
          refine j_icmp_ne_f r15 (inR_lit _ rfl) dX9_putOff_53 (tgt := 64) (by decide) (fun q => q c16) ?_
          refine j_aload_n (j := 0) dX9_putOff_56 rfl rfl ?_
          refine j_bipush dX9_putOff_57 rfl ?_
          refine j_iconst dX9_putOff_59 ?_
          obtain ⟨p28, e27, h⟩ := obind_elim h
          refine j_callV MX9_248 YX9_refuses IX9_refuses SX9_refuses (by decide) rfl (by decide) (by omega) (Nat.le_of_ble_eq_true rfl) rfl (ctX9_refuses (d := d - 1) hl (by omega) (inR_lit _ rfl) (inR_lit _ rfl) e27) dX9_putOff_60 (VK_c 9 349 rfl).1 (VK_c 9 349 rfl).lt (VK_c 9 349 rfl).ka rfl (fun z29 xt30 => ?_)
          cases h
          exact j_iret dX9_putOff_63 rfl rfl rfl z29
        · rw [if_neg c16] at h
          refine j_icmp_ne_t r15 (inR_lit _ rfl) dX9_putOff_53 (tgt := 64) (by decide) c16 ?_
          refine j_aload_n (j := 0) dX9_putOff_64 rfl rfl ?_
          refine j_iconst dX9_putOff_65 ?_
          obtain ⟨A17, eA17, h⟩ := bnd_elim h
          have xA17 : XT A A17 := by rw [eA17]; exact XT_sI _ _ _ _
          refine j_putI FX9_87 rfl rfl rfl (inR_lit _ rfl) dX9_putOff_66 (VK_c 9 349 rfl).1 (VK_c 9 349 rfl).lt (VK_c 9 349 rfl).ka ?_
          refine j_hB eA17 ?_
          refine j_aload_n (j := 0) dX9_putOff_69 rfl rfl ?_
          obtain ⟨p19, e18, h⟩ := obind_elim h
          refine j_callV MX9_223 YX9_remembers IX9_remembers SX9_remembers (by decide) rfl (by decide) (by omega) (Nat.le_of_ble_eq_true rfl) rfl (ctX9_remembers (d := d - 1) hl (by omega)  e18) dX9_putOff_70 (VK_c 9 349 rfl).1 (VK_c 9 349 rfl).lt (VK_c 9 349 rfl).ka rfl (fun z20 xt21 => ?_)
          refine j_aload_n (j := 0) dX9_putOff_73 rfl rfl ?_
          refine j_getR (q := 356) FX9_28 rfl dX9_putOff_74 (by decide) (by decide) rfl rfl (by decide) ?_
          refine j_iload_n (j := 1) dX9_putOff_77 rfl rfl ?_
          refine j_aload_n (j := 0) dX9_putOff_78 rfl rfl ?_
          refine j_getR (q := 356) FX9_28 rfl dX9_putOff_79 (by decide) (by decide) rfl rfl (by decide) ?_
          refine j_iload_n (j := 1) dX9_putOff_82 rfl rfl ?_
          obtain ⟨c22, h⟩ := chk_elim h
          refine j_iald hx1 (by decide) (by decide) rfl dX9_putOff_83 (VK_c 26 356 rfl).1 (VK_c 26 356 rfl).lt (VK_c 26 356 rfl).ka c22 (fun r23 => ?_)
          refine j_iload_n (j := 2) dX9_putOff_84 rfl rfl ?_
          refine j_iadd dX9_putOff_85 ?_
          refine j_sipush dX9_putOff_86 rfl ?_
          by_cases c24 : (wrap ((gI p19 356 x1.toNat) + x2)) ≤ 900
          · rw [if_pos c24] at h
            refine j_icmp_le_t (wrap_inR _) (inR_lit _ rfl) dX9_putOff_89 (tgt := 98) (by decide) c24 ?_
            refine j_aload_n (j := 0) dX9_putOff_98 rfl rfl ?_
            refine j_getR (q := 356) FX9_28 rfl dX9_putOff_99 (by decide) (by decide) rfl rfl (by decide) ?_
            refine j_iload_n (j := 1) dX9_putOff_102 rfl rfl ?_
            obtain ⟨c25, h⟩ := chk_elim h
            refine j_iald hx1 (by decide) (by decide) rfl dX9_putOff_103 (VK_c 26 356 rfl).1 (VK_c 26 356 rfl).lt (VK_c 26 356 rfl).ka c25 (fun r26 => ?_)
            refine j_iload_n (j := 2) dX9_putOff_104 rfl rfl ?_
            refine j_iadd dX9_putOff_105 ?_
            exact j_sub [0, 1] rfl (tX9_putOff_106 hl (by omega) hx1 hx1 (wrap_inR _)  h)
          · rw [if_neg c24] at h
            refine j_icmp_le_f (wrap_inR _) (inR_lit _ rfl) dX9_putOff_89 (tgt := 98) (by decide) c24 ?_
            refine j_sipush dX9_putOff_92 rfl ?_
            refine j_goto (tgt := 106) dX9_putOff_95 (by decide) ?_
            exact j_sub [0, 1] rfl (tX9_putOff_106 hl (by omega) hx1 hx1 (inR_lit _ rfl)  h)
      · rw [if_neg c13] at h
        refine j_if_eq_f r12 dX9_putOff_36 (tgt := 46) (by decide) c13 ?_
        refine j_aload_n (j := 0) dX9_putOff_39 rfl rfl ?_
        refine j_iconst dX9_putOff_40 ?_
        refine j_iconst dX9_putOff_41 ?_
        obtain ⟨p32, e31, h⟩ := obind_elim h
        refine j_callV MX9_248 YX9_refuses IX9_refuses SX9_refuses (by decide) rfl (by decide) (by omega) (Nat.le_of_ble_eq_true rfl) rfl (ctX9_refuses (d := d - 1) hl (by omega) (inR_lit _ rfl) (inR_lit _ rfl) e31) dX9_putOff_42 (VK_c 9 349 rfl).1 (VK_c 9 349 rfl).lt (VK_c 9 349 rfl).ka rfl (fun z33 xt34 => ?_)
        cases h
        exact j_iret dX9_putOff_45 rfl rfl rfl z33
