theorem ctX8_share {g : JG} {l : Launch} {d N : Nat} {A : AH} {out : Nat × UInt32 × AH} {x1 : Int} (hl : l.stackTraces = false) (hd : 8 ≤ d) (hx1 : inR x1) (h : fX8_share N A x1 = some out) : CT g l yX8_share cX8_share 2 (some .float) d [.ref (gB g + 1), vI x1] A ((out.1, (if out.1 = 0 then some (.float out.2.1) else none), out.2.2) : JO) (True) :=
  CT_of (by decide +kernel) hl (by first | exact Nat.le_of_ble_eq_true rfl | (unfold rv; split <;> exact Nat.le_of_ble_eq_true rfl)) (by first | rfl | (unfold rv; split <;> rfl)) (j_sub (lv := [(0, .ref (gB g + 1)), (1, vI x1)]) [0, 1] rfl (tX8_share_0 hl hd hx1 h))
set_option maxRecDepth 100000 in
theorem tX8_feed_0 {g : JG} {l : Launch} {d N n0 s0 : Nat} {out : Nat × Int × AH} {A : AH} {x1 : Int} (hl : l.stackTraces = false) (hd : 7 ≤ d) (hx1 : 0 ≤ x1 ∧ x1 < 65536) (h : fX8_feed N A x1 = some out) : J g l d RX8 "feed" cX8_feed 2 (some .int) n0 s0 ((out.1, jv out.1 out.2.1, out.2.2) : JO) (inR out.2.1) 0 [(0, .ref (gB g + 1)), (1, vI x1)] [] A := by
  unfold fX8_feed at h
  refine j_aload_n (j := 0) dX8_feed_0 rfl rfl ?_
  refine j_getR (q := 345) FX8_29 rfl dX8_feed_1 (by decide) (by decide) rfl rfl (by decide) ?_
  refine j_getI FX8_368 rfl dX8_feed_4 (VK_c 6 345 rfl).1 (VK_c 6 345 rfl).lt (VK_c 6 345 rfl).ka (fun r1 => ?_)
  refine j_bipush dX8_feed_7 rfl ?_
  by_cases c2 : (gI A 345 1) < 60
  · rw [if_pos c2] at h
    refine j_icmp_lt_t r1 (inR_lit _ rfl) dX8_feed_9 (tgt := 23) (by decide) c2 ?_
    refine j_aload_n (j := 0) dX8_feed_23 rfl rfl ?_
    refine j_getR (q := 345) FX8_29 rfl dX8_feed_24 (by decide) (by decide) rfl rfl (by decide) ?_
    refine j_iload_n (j := 1) dX8_feed_27 rfl rfl ?_
    obtain ⟨p4, e3, h⟩ := obind_elim h
    refine j_callV MX8_385 YX6_append IX6_append SX6_append (by decide) rfl (by decide) (by omega) (Nat.le_of_ble_eq_true rfl) rfl (ctX6_append (d := d - 1) hl (by omega) hx1 e3) dX8_feed_28 (VK_c 6 345 rfl).1 (VK_c 6 345 rfl).lt (VK_c 6 345 rfl).ka rfl (fun z5 xt6 => ?_)
    refine j_aload_n (j := 0) dX8_feed_31 rfl rfl ?_
    refine j_getR (q := 345) FX8_29 rfl dX8_feed_32 (by decide) (by decide) rfl rfl (by decide) ?_
    refine j_getI FX8_368 rfl dX8_feed_35 (VK_c 6 345 rfl).1 (VK_c 6 345 rfl).lt (VK_c 6 345 rfl).ka (fun r7 => ?_)
    cases h
    exact j_iret dX8_feed_38 rfl rfl rfl r7
  · rw [if_neg c2] at h
    refine j_icmp_lt_f r1 (inR_lit _ rfl) dX8_feed_9 (tgt := 23) (by decide) c2 ?_
    cases h
    exact j_throwW (k := 2) TX8_93_383_97 (by decide) rfl (by omega) dX8_feed_12 dX8_feed_15 dX8_feed_16 dX8_feed_19 dX8_feed_22 rfl inR_0
theorem ctX8_feed {g : JG} {l : Launch} {d N : Nat} {A : AH} {out : Nat × Int × AH} {x1 : Int} (hl : l.stackTraces = false) (hd : 7 ≤ d) (hx1 : 0 ≤ x1 ∧ x1 < 65536) (h : fX8_feed N A x1 = some out) : CT g l yX8_feed cX8_feed 2 (some .int) d [.ref (gB g + 1), vI x1] A ((out.1, jv out.1 out.2.1, out.2.2) : JO) (inR out.2.1) :=
  CT_of (by decide +kernel) hl (by first | exact Nat.le_of_ble_eq_true rfl | (unfold rv; split <;> exact Nat.le_of_ble_eq_true rfl)) (by first | rfl | (unfold rv; split <;> rfl)) (j_sub (lv := [(0, .ref (gB g + 1)), (1, vI x1)]) [0, 1] rfl (tX8_feed_0 hl hd hx1 h))
set_option maxRecDepth 100000 in
theorem tX8_carryOutServe_0 {g : JG} {l : Launch} {d N n0 s0 : Nat} {out : Int × AH} {A : AH} {x1 : Int} (hl : l.stackTraces = false) (hd : 6 ≤ d) (hx1 : inR x1) (h : fX8_carryOutServe N A x1 = some out) : J g l d RX8 "carryOutServe" cX8_carryOutServe 3 (some .int) n0 s0 ((0, some (vI out.1), out.2) : JO) (inR out.1) 0 [(0, .ref (gB g + 1)), (1, vI x1)] [] A := by
  unfold fX8_carryOutServe at h
  refine j_aload_n (j := 0) dX8_carryOutServe_0 rfl rfl ?_
  refine j_getR (q := 2) FX8_10 rfl dX8_carryOutServe_1 (by decide) (by decide) rfl rfl (by decide) ?_
  refine j_iload_n (j := 1) dX8_carryOutServe_4 rfl rfl ?_
  obtain ⟨z2, e1, h⟩ := obind_elim h
  refine j_callV MX8_467 YX5_hasOrder IX5_hasOrder SX5_hasOrder (by decide) rfl (by decide) (by omega) (Nat.le_of_ble_eq_true rfl) rfl (ctX5_hasOrder (d := d - 1) hl (by omega) (VK_c 5 2 rfl) hx1 e1) dX8_carryOutServe_5 (VK_c 5 2 rfl).1 (VK_c 5 2 rfl).lt (VK_c 5 2 rfl).ka rfl (fun z3 _ => ?_)
  by_cases c5 : z2 = 0
  · rw [if_pos c5] at h
    refine j_if_ne_f (bool_inR z3) dX8_carryOutServe_8 (tgt := 14) (by decide) (fun q => q c5) ?_
    refine j_bipush dX8_carryOutServe_11 rfl ?_
    cases h
    exact j_iret dX8_carryOutServe_13 rfl rfl rfl (inR_lit _ rfl)
  · rw [if_neg c5] at h
    refine j_if_ne_t (bool_inR z3) dX8_carryOutServe_8 (tgt := 14) (by decide) c5 ?_
    refine j_aload_n (j := 0) dX8_carryOutServe_14 rfl rfl ?_
    refine j_getR (q := 2) FX8_10 rfl dX8_carryOutServe_15 (by decide) (by decide) rfl rfl (by decide) ?_
    refine j_iload_n (j := 1) dX8_carryOutServe_18 rfl rfl ?_
    refine j_aload_n (j := 0) dX8_carryOutServe_19 rfl rfl ?_
    refine j_getR (q := 347) FX8_36 rfl dX8_carryOutServe_20 (by decide) (by decide) rfl rfl (by decide) ?_
    obtain ⟨p7, e6, h⟩ := obind_elim h
    refine j_callV MX8_229 YX5_reasonAgainstServing IX5_reasonAgainstServing SX5_reasonAgainstServing (by decide) rfl (by decide) (by omega) (Nat.le_of_ble_eq_true rfl) rfl (ctX5_reasonAgainstServing (d := d - 1) hl (by omega) (VK_c 5 2 rfl) hx1 e6) dX8_carryOutServe_23 (VK_c 5 2 rfl).1 (VK_c 5 2 rfl).lt (VK_c 5 2 rfl).ka rfl (fun z8 xt9 => ?_)
    refine j_istore_n (lv' := [(2, vI p7.1), (0, .ref (gB g + 1)), (1, vI x1)]) dX8_carryOutServe_26 rfl (by decide) (by first | rfl | (simp only [List.all_cons, List.all_nil, rv_cat]; rfl)) rfl ?_
    refine j_iload_n (j := 0) dX8_carryOutServe_27 rfl rfl ?_
    by_cases c10 : p7.1 = 0
    · rw [if_pos c10] at h
      refine j_if_ne_f z8 dX8_carryOutServe_28 (tgt := 43) (by decide) (fun q => q c10) ?_
      refine j_aload_n (j := 1) dX8_carryOutServe_31 rfl rfl ?_
      refine j_getR (q := 2) FX8_10 rfl dX8_carryOutServe_32 (by decide) (by decide) rfl rfl (by decide) ?_
      refine j_iload_n (j := 2) dX8_carryOutServe_35 rfl rfl ?_
      refine j_aload_n (j := 1) dX8_carryOutServe_36 rfl rfl ?_
      refine j_getR (q := 347) FX8_36 rfl dX8_carryOutServe_37 (by decide) (by decide) rfl rfl (by decide) ?_
      obtain ⟨p12, e11, h⟩ := obind_elim h
      refine j_callV MX8_242 YX5_take IX5_take SX5_take (by decide) rfl (by decide) (by omega) (Nat.le_of_ble_eq_true rfl) rfl (ctX5_take (d := d - 1) hl (by omega) (VK_c 5 2 rfl) hx1 e11) dX8_carryOutServe_40 (VK_c 5 2 rfl).1 (VK_c 5 2 rfl).lt (VK_c 5 2 rfl).ka rfl (fun z13 xt14 => ?_)
      refine j_iload_n (j := 0) dX8_carryOutServe_43 rfl rfl ?_
      cases h
      exact j_iret dX8_carryOutServe_44 rfl rfl rfl z8
    · rw [if_neg c10] at h
      refine j_if_ne_t z8 dX8_carryOutServe_28 (tgt := 43) (by decide) c10 ?_
      refine j_iload_n (j := 0) dX8_carryOutServe_43 rfl rfl ?_
      cases h
      exact j_iret dX8_carryOutServe_44 rfl rfl rfl z8
theorem ctX8_carryOutServe {g : JG} {l : Launch} {d N : Nat} {A : AH} {out : Int × AH} {x1 : Int} (hl : l.stackTraces = false) (hd : 6 ≤ d) (hx1 : inR x1) (h : fX8_carryOutServe N A x1 = some out) : CT g l yX8_carryOutServe cX8_carryOutServe 3 (some .int) d [.ref (gB g + 1), vI x1] A ((0, some (vI out.1), out.2) : JO) (inR out.1) :=
  CT_of (by decide +kernel) hl (by first | exact Nat.le_of_ble_eq_true rfl | (unfold rv; split <;> exact Nat.le_of_ble_eq_true rfl)) (by first | rfl | (unfold rv; split <;> rfl)) (j_sub (lv := [(0, .ref (gB g + 1)), (1, vI x1)]) [0, 1] rfl (tX8_carryOutServe_0 hl hd hx1 h))
set_option maxRecDepth 100000 in
theorem tX8_carryOutPutOff_0 {g : JG} {l : Launch} {d N n0 s0 : Nat} {out : Int × AH} {A : AH} {x1 : Int} {x2 : Int} (hl : l.stackTraces = false) (hd : 3 ≤ d) (hx1 : inR x1) (hx2 : inR x2) (h : fX8_carryOutPutOff N A x1 x2 = some out) : J g l d RX8 "carryOutPutOff" cX8_carryOutPutOff 4 (some .int) n0 s0 ((0, some (vI out.1), out.2) : JO) (inR out.1) 0 [(0, .ref (gB g + 1)), (1, vI x1), (2, vI x2)] [] A := by
  unfold fX8_carryOutPutOff at h
  refine j_aload_n (j := 0) dX8_carryOutPutOff_0 rfl rfl ?_
  refine j_getR (q := 2) FX8_10 rfl dX8_carryOutPutOff_1 (by decide) (by decide) rfl rfl (by decide) ?_
  refine j_iload_n (j := 1) dX8_carryOutPutOff_4 rfl rfl ?_
  obtain ⟨z2, e1, h⟩ := obind_elim h
  refine j_callV MX8_467 YX5_hasOrder IX5_hasOrder SX5_hasOrder (by decide) rfl (by decide) (by omega) (Nat.le_of_ble_eq_true rfl) rfl (ctX5_hasOrder (d := d - 1) hl (by omega) (VK_c 5 2 rfl) hx1 e1) dX8_carryOutPutOff_5 (VK_c 5 2 rfl).1 (VK_c 5 2 rfl).lt (VK_c 5 2 rfl).ka rfl (fun z3 _ => ?_)
  by_cases c5 : z2 = 0
  · rw [if_pos c5] at h
    refine j_if_eq_t (bool_inR z3) dX8_carryOutPutOff_8 (tgt := 18) (by decide) c5 ?_
    refine j_bipush dX8_carryOutPutOff_18 rfl ?_
    cases h
    exact j_iret dX8_carryOutPutOff_20 rfl rfl rfl (inR_lit _ rfl)
  · rw [if_neg c5] at h
    refine j_if_eq_f (bool_inR z3) dX8_carryOutPutOff_8 (tgt := 18) (by decide) c5 ?_
    refine j_iload_n (j := 2) dX8_carryOutPutOff_11 rfl rfl ?_
    obtain ⟨z7, e6, h⟩ := obind_elim h
    refine j_callS MX8_256 YX8_canPutOffBy IX8_canPutOffBy (by decide) (by omega) (Nat.le_of_ble_eq_true rfl) rfl (ctX8_canPutOffBy (d := d - 1) hl (by omega) hx2 e6) dX8_carryOutPutOff_12 rfl (fun z8 _ => ?_)
    by_cases c10 : z7 = 0
    · rw [if_pos c10] at h
      refine j_if_ne_f (bool_inR z8) dX8_carryOutPutOff_15 (tgt := 21) (by decide) (fun q => q c10) ?_
      refine j_bipush dX8_carryOutPutOff_18 rfl ?_
      cases h
      exact j_iret dX8_carryOutPutOff_20 rfl rfl rfl (inR_lit _ rfl)
    · rw [if_neg c10] at h
      refine j_if_ne_t (bool_inR z8) dX8_carryOutPutOff_15 (tgt := 21) (by decide) c10 ?_
      refine j_aload_n (j := 0) dX8_carryOutPutOff_21 rfl rfl ?_
      refine j_getR (q := 2) FX8_10 rfl dX8_carryOutPutOff_22 (by decide) (by decide) rfl rfl (by decide) ?_
      refine j_getR (q := (2 + 3)) FX8_129 rfl dX8_carryOutPutOff_25 (VK_c 5 2 rfl).1 (VK_c 5 2 rfl).2.1 (VK_c 5 2 rfl).2.2 (lay5 (VK_c 5 2 rfl) (by decide)) (by omega) ?_
      refine j_iload_n (j := 1) dX8_carryOutPutOff_28 rfl rfl ?_
      obtain ⟨c11, h⟩ := chk_elim h
      have v12 : VK 3 (2 + 6 + x1.toNat) := (VK.o (VK_c 5 2 rfl) c11)
      refine j_aald (q := (2 + 6 + x1.toNat)) hx1 (by decide) (by decide) (by decide) (by decide) dX8_carryOutPutOff_29 (VK.f3 (VK_c 5 2 rfl)).1 (VK.f3 (VK_c 5 2 rfl)).2.1 (VK.f3 (VK_c 5 2 rfl)).2.2 c11 (lay13 (VK_c 5 2 rfl) c11) (by omega) ?_
      obtain ⟨z14, e13, h⟩ := obind_elim h
      refine j_callV MX8_261 YX3_reasonAgainstDelay IX3_reasonAgainstDelay SX3_reasonAgainstDelay (by decide) rfl (by decide) (by omega) (Nat.le_of_ble_eq_true rfl) rfl (ctX3_reasonAgainstDelay (d := d - 1) hl (by omega) v12 e13) dX8_carryOutPutOff_30 v12.1 v12.lt v12.ka rfl (fun z15 _ => ?_)
      refine j_istore_n (lv' := [(3, vI z14), (0, .ref (gB g + 1)), (1, vI x1), (2, vI x2)]) dX8_carryOutPutOff_33 rfl (by decide) (by first | rfl | (simp only [List.all_cons, List.all_nil, rv_cat]; rfl)) rfl ?_
      refine j_iload_n (j := 0) dX8_carryOutPutOff_34 rfl rfl ?_
      by_cases c17 : z14 = 0
      · rw [if_pos c17] at h
        refine j_if_ne_f z15 dX8_carryOutPutOff_35 (tgt := 51) (by decide) (fun q => q c17) ?_
        refine j_aload_n (j := 1) dX8_carryOutPutOff_38 rfl rfl ?_
        refine j_getR (q := 2) FX8_10 rfl dX8_carryOutPutOff_39 (by decide) (by decide) rfl rfl (by decide) ?_
        refine j_getR (q := (2 + 3)) FX8_129 rfl dX8_carryOutPutOff_42 (VK_c 5 2 rfl).1 (VK_c 5 2 rfl).2.1 (VK_c 5 2 rfl).2.2 (lay5 (VK_c 5 2 rfl) (by decide)) (by omega) ?_
        refine j_iload_n (j := 2) dX8_carryOutPutOff_45 rfl rfl ?_
        obtain ⟨c18, h⟩ := chk_elim h
        have v19 : VK 3 (2 + 6 + x1.toNat) := (VK.o (VK_c 5 2 rfl) c18)
        refine j_aald (q := (2 + 6 + x1.toNat)) hx1 (by decide) (by decide) (by decide) (by decide) dX8_carryOutPutOff_46 (VK.f3 (VK_c 5 2 rfl)).1 (VK.f3 (VK_c 5 2 rfl)).2.1 (VK.f3 (VK_c 5 2 rfl)).2.2 c18 (lay13 (VK_c 5 2 rfl) c18) (by omega) ?_
        refine j_iload_n (j := 3) dX8_carryOutPutOff_47 rfl rfl ?_
        obtain ⟨p21, e20, h⟩ := obind_elim h
        refine j_callV MX8_265 YX3_delay IX3_delay SX3_delay (by decide) rfl (by decide) (by omega) (Nat.le_of_ble_eq_true rfl) rfl (ctX3_delay (d := d - 1) hl (by omega) v19 hx2 e20) dX8_carryOutPutOff_48 v19.1 v19.lt v19.ka rfl (fun z22 xt23 => ?_)
        refine j_iload_n (j := 0) dX8_carryOutPutOff_51 rfl rfl ?_
        cases h
        exact j_iret dX8_carryOutPutOff_52 rfl rfl rfl z15
      · rw [if_neg c17] at h
        refine j_if_ne_t z15 dX8_carryOutPutOff_35 (tgt := 51) (by decide) c17 ?_
        refine j_iload_n (j := 0) dX8_carryOutPutOff_51 rfl rfl ?_
        cases h
        exact j_iret dX8_carryOutPutOff_52 rfl rfl rfl z15
theorem ctX8_carryOutPutOff {g : JG} {l : Launch} {d N : Nat} {A : AH} {out : Int × AH} {x1 : Int} {x2 : Int} (hl : l.stackTraces = false) (hd : 3 ≤ d) (hx1 : inR x1) (hx2 : inR x2) (h : fX8_carryOutPutOff N A x1 x2 = some out) : CT g l yX8_carryOutPutOff cX8_carryOutPutOff 4 (some .int) d [.ref (gB g + 1), vI x1, vI x2] A ((0, some (vI out.1), out.2) : JO) (inR out.1) :=
  CT_of (by decide +kernel) hl (by first | exact Nat.le_of_ble_eq_true rfl | (unfold rv; split <;> exact Nat.le_of_ble_eq_true rfl)) (by first | rfl | (unfold rv; split <;> rfl)) (j_sub (lv := [(0, .ref (gB g + 1)), (1, vI x1), (2, vI x2)]) [0, 1, 2] rfl (tX8_carryOutPutOff_0 hl hd hx1 hx2 h))
set_option maxRecDepth 100000 in
theorem tX8_carryOutPass_0 {g : JG} {l : Launch} {d N n0 s0 : Nat} {out : Int × AH} {A : AH} {x1 : Int} (hl : l.stackTraces = false) (hd : 4 ≤ d) (hx1 : inR x1) (h : fX8_carryOutPass N A x1 = some out) : J g l d RX8 "carryOutPass" cX8_carryOutPass 2 (some .int) n0 s0 ((0, some (vI out.1), out.2) : JO) (inR out.1) 0 [(0, .ref (gB g + 1)), (1, vI x1)] [] A := by
  unfold fX8_carryOutPass at h
  refine j_iload_n (j := 1) dX8_carryOutPass_0 rfl rfl ?_
  obtain ⟨z2, e1, h⟩ := obind_elim h
  refine j_callS MX8_336 YX8_canPassBy IX8_canPassBy (by decide) (by omega) (Nat.le_of_ble_eq_true rfl) rfl (ctX8_canPassBy (d := d - 1) hl (by omega) hx1 e1) dX8_carryOutPass_1 rfl (fun z3 _ => ?_)
  by_cases c5 : z2 = 0
  · rw [if_pos c5] at h
    refine j_if_eq_t (bool_inR z3) dX8_carryOutPass_4 (tgt := 22) (by decide) c5 ?_
    refine j_bipush dX8_carryOutPass_22 rfl ?_
    cases h
    exact j_iret dX8_carryOutPass_24 rfl rfl rfl (inR_lit _ rfl)
  · rw [if_neg c5] at h
    refine j_if_eq_f (bool_inR z3) dX8_carryOutPass_4 (tgt := 22) (by decide) c5 ?_
    refine j_aload_n (j := 0) dX8_carryOutPass_7 rfl rfl ?_
    refine j_getR (q := 2) FX8_10 rfl dX8_carryOutPass_8 (by decide) (by decide) rfl rfl (by decide) ?_
    refine j_getI FX8_339 rfl dX8_carryOutPass_11 (VK_c 5 2 rfl).1 (VK_c 5 2 rfl).lt (VK_c 5 2 rfl).ka (fun r6 => ?_)
    refine j_iload_n (j := 1) dX8_carryOutPass_14 rfl rfl ?_
    refine j_iadd dX8_carryOutPass_15 ?_
    refine j_sipush dX8_carryOutPass_16 rfl ?_
    by_cases c7 : (wrap ((gI A 2 5) + x1)) < 1000
    · rw [if_pos c7] at h
      refine j_icmp_lt_t (wrap_inR _) (inR_lit _ rfl) dX8_carryOutPass_19 (tgt := 25) (by decide) c7 ?_
      refine j_aload_n (j := 0) dX8_carryOutPass_25 rfl rfl ?_
      refine j_getR (q := 2) FX8_10 rfl dX8_carryOutPass_26 (by decide) (by decide) rfl rfl (by decide) ?_
      refine j_iload_n (j := 1) dX8_carryOutPass_29 rfl rfl ?_
      obtain ⟨p9, e8, h⟩ := obind_elim h
      refine j_callV MX8_344 YX5_advance IX5_advance SX5_advance (by decide) rfl (by decide) (by omega) (Nat.le_of_ble_eq_true rfl) rfl (ctX5_advance (d := d - 1) hl (by omega) (VK_c 5 2 rfl) hx1 e8) dX8_carryOutPass_30 (VK_c 5 2 rfl).1 (VK_c 5 2 rfl).lt (VK_c 5 2 rfl).ka rfl (fun z10 xt11 => ?_)
      refine j_pop dX8_carryOutPass_33 rfl ?_
      refine j_iconst dX8_carryOutPass_34 ?_
      cases h
      exact j_iret dX8_carryOutPass_35 rfl rfl rfl (inR_lit _ rfl)
    · rw [if_neg c7] at h
      refine j_icmp_lt_f (wrap_inR _) (inR_lit _ rfl) dX8_carryOutPass_19 (tgt := 25) (by decide) c7 ?_
      refine j_bipush dX8_carryOutPass_22 rfl ?_
      cases h
      exact j_iret dX8_carryOutPass_24 rfl rfl rfl (inR_lit _ rfl)
theorem ctX8_carryOutPass {g : JG} {l : Launch} {d N : Nat} {A : AH} {out : Int × AH} {x1 : Int} (hl : l.stackTraces = false) (hd : 4 ≤ d) (hx1 : inR x1) (h : fX8_carryOutPass N A x1 = some out) : CT g l yX8_carryOutPass cX8_carryOutPass 2 (some .int) d [.ref (gB g + 1), vI x1] A ((0, some (vI out.1), out.2) : JO) (inR out.1) :=
  CT_of (by decide +kernel) hl (by first | exact Nat.le_of_ble_eq_true rfl | (unfold rv; split <;> exact Nat.le_of_ble_eq_true rfl)) (by first | rfl | (unfold rv; split <;> rfl)) (j_sub (lv := [(0, .ref (gB g + 1)), (1, vI x1)]) [0, 1] rfl (tX8_carryOutPass_0 hl hd hx1 h))
set_option maxRecDepth 100000 in
theorem tX8_carryOutOrder_0 {g : JG} {l : Launch} {d N n0 s0 : Nat} {out : Int × AH} {A : AH} {x1 : Int} (hl : l.stackTraces = false) (hd : 4 ≤ d) (hx1 : inR x1) (h : fX8_carryOutOrder N A x1 = some out) : J g l d RX8 "carryOutOrder" cX8_carryOutOrder 2 (some .int) n0 s0 ((0, some (vI out.1), out.2) : JO) (inR out.1) 0 [(0, .ref (gB g + 1)), (1, vI x1)] [] A := by
  unfold fX8_carryOutOrder at h
  refine j_aload_n (j := 0) dX8_carryOutOrder_0 rfl rfl ?_
  refine j_getR (q := 2) FX8_10 rfl dX8_carryOutOrder_1 (by decide) (by decide) rfl rfl (by decide) ?_
  refine j_aload_n (j := 0) dX8_carryOutOrder_4 rfl rfl ?_
  refine j_getR (q := 345) FX8_29 rfl dX8_carryOutOrder_5 (by decide) (by decide) rfl rfl (by decide) ?_
  refine j_getI FX8_481 rfl dX8_carryOutOrder_8 (VK_c 6 345 rfl).1 (VK_c 6 345 rfl).lt (VK_c 6 345 rfl).ka (fun r1 => ?_)
  refine j_aload_n (j := 0) dX8_carryOutOrder_11 rfl rfl ?_
  refine j_getR (q := 345) FX8_29 rfl dX8_carryOutOrder_12 (by decide) (by decide) rfl rfl (by decide) ?_
  refine j_getI FX8_412 rfl dX8_carryOutOrder_15 (VK_c 6 345 rfl).1 (VK_c 6 345 rfl).lt (VK_c 6 345 rfl).ka (fun r2 => ?_)
  refine j_aload_n (j := 0) dX8_carryOutOrder_18 rfl rfl ?_
  refine j_getR (q := 345) FX8_29 rfl dX8_carryOutOrder_19 (by decide) (by decide) rfl rfl (by decide) ?_
  refine j_getI FX8_418 rfl dX8_carryOutOrder_22 (VK_c 6 345 rfl).1 (VK_c 6 345 rfl).lt (VK_c 6 345 rfl).ka (fun r3 => ?_)
  refine j_aload_n (j := 0) dX8_carryOutOrder_25 rfl rfl ?_
  refine j_getR (q := 345) FX8_29 rfl dX8_carryOutOrder_26 (by decide) (by decide) rfl rfl (by decide) ?_
  refine j_getI FX8_482 rfl dX8_carryOutOrder_29 (VK_c 6 345 rfl).1 (VK_c 6 345 rfl).lt (VK_c 6 345 rfl).ka (fun r4 => ?_)
  obtain ⟨z6, e5, h⟩ := obind_elim h
  refine j_callV MX8_111 YX5_isOrder IX5_isOrder SX5_isOrder (by decide) rfl (by decide) (by omega) (Nat.le_of_ble_eq_true rfl) rfl (ctX5_isOrder (d := d - 1) hl (by omega) (VK_c 5 2 rfl) r1 r2 r3 r4 e5) dX8_carryOutOrder_32 (VK_c 5 2 rfl).1 (VK_c 5 2 rfl).lt (VK_c 5 2 rfl).ka rfl (fun z7 _ => ?_)
  by_cases c9 : z6 = 0
  · rw [if_pos c9] at h
    refine j_if_eq_t (bool_inR z7) dX8_carryOutOrder_35 (tgt := 50) (by decide) c9 ?_
    refine j_bipush dX8_carryOutOrder_50 rfl ?_
    cases h
    exact j_iret dX8_carryOutOrder_52 rfl rfl rfl (inR_lit _ rfl)
  · rw [if_neg c9] at h
    refine j_if_eq_f (bool_inR z7) dX8_carryOutOrder_35 (tgt := 50) (by decide) c9 ?_
    refine j_aload_n (j := 0) dX8_carryOutOrder_38 rfl rfl ?_
    refine j_getR (q := 2) FX8_10 rfl dX8_carryOutOrder_39 (by decide) (by decide) rfl rfl (by decide) ?_
    refine j_getI FX8_117 rfl dX8_carryOutOrder_42 (VK_c 5 2 rfl).1 (VK_c 5 2 rfl).lt (VK_c 5 2 rfl).ka (fun r10 => ?_)
    refine j_bipush dX8_carryOutOrder_45 rfl ?_
    by_cases c11 : (gI A 2 6) < 16
    · rw [if_pos c11] at h
      refine j_icmp_lt_t r10 (inR_lit _ rfl) dX8_carryOutOrder_47 (tgt := 53) (by decide) c11 ?_
      refine j_aload_n (j := 0) dX8_carryOutOrder_53 rfl rfl ?_
      refine j_getR (q := 2) FX8_10 rfl dX8_carryOutOrder_54 (by decide) (by decide) rfl rfl (by decide) ?_
      refine j_aload_n (j := 0) dX8_carryOutOrder_57 rfl rfl ?_
      refine j_getR (q := 345) FX8_29 rfl dX8_carryOutOrder_58 (by decide) (by decide) rfl rfl (by decide) ?_
      refine j_getI FX8_481 rfl dX8_carryOutOrder_61 (VK_c 6 345 rfl).1 (VK_c 6 345 rfl).lt (VK_c 6 345 rfl).ka (fun r12 => ?_)
      refine j_iload_n (j := 1) dX8_carryOutOrder_64 rfl rfl ?_
      refine j_aload_n (j := 0) dX8_carryOutOrder_65 rfl rfl ?_
      refine j_getR (q := 345) FX8_29 rfl dX8_carryOutOrder_66 (by decide) (by decide) rfl rfl (by decide) ?_
      refine j_getI FX8_412 rfl dX8_carryOutOrder_69 (VK_c 6 345 rfl).1 (VK_c 6 345 rfl).lt (VK_c 6 345 rfl).ka (fun r13 => ?_)
      refine j_aload_n (j := 0) dX8_carryOutOrder_72 rfl rfl ?_
      refine j_getR (q := 345) FX8_29 rfl dX8_carryOutOrder_73 (by decide) (by decide) rfl rfl (by decide) ?_
      refine j_getI FX8_418 rfl dX8_carryOutOrder_76 (VK_c 6 345 rfl).1 (VK_c 6 345 rfl).lt (VK_c 6 345 rfl).ka (fun r14 => ?_)
      refine j_aload_n (j := 0) dX8_carryOutOrder_79 rfl rfl ?_
      refine j_getR (q := 345) FX8_29 rfl dX8_carryOutOrder_80 (by decide) (by decide) rfl rfl (by decide) ?_
      refine j_getI FX8_482 rfl dX8_carryOutOrder_83 (VK_c 6 345 rfl).1 (VK_c 6 345 rfl).lt (VK_c 6 345 rfl).ka (fun r15 => ?_)
      obtain ⟨p17, e16, h⟩ := obind_elim h
      refine j_callV MX8_122 YX5_makeOrder IX5_makeOrder SX5_makeOrder (by decide) rfl (by decide) (by omega) (Nat.le_of_ble_eq_true rfl) rfl (ctX5_makeOrder (d := d - 1) hl (by omega) (VK_c 5 2 rfl) r12 hx1 r13 r14 r15 e16) dX8_carryOutOrder_86 (VK_c 5 2 rfl).1 (VK_c 5 2 rfl).lt (VK_c 5 2 rfl).ka rfl (fun z18 xt19 => ?_)
      refine j_pop dX8_carryOutOrder_89 rfl ?_
      refine j_iconst dX8_carryOutOrder_90 ?_
      cases h
      exact j_iret dX8_carryOutOrder_91 rfl rfl rfl (inR_lit _ rfl)
    · rw [if_neg c11] at h
      refine j_icmp_lt_f r10 (inR_lit _ rfl) dX8_carryOutOrder_47 (tgt := 53) (by decide) c11 ?_
      refine j_bipush dX8_carryOutOrder_50 rfl ?_
      cases h
      exact j_iret dX8_carryOutOrder_52 rfl rfl rfl (inR_lit _ rfl)
theorem ctX8_carryOutOrder {g : JG} {l : Launch} {d N : Nat} {A : AH} {out : Int × AH} {x1 : Int} (hl : l.stackTraces = false) (hd : 4 ≤ d) (hx1 : inR x1) (h : fX8_carryOutOrder N A x1 = some out) : CT g l yX8_carryOutOrder cX8_carryOutOrder 2 (some .int) d [.ref (gB g + 1), vI x1] A ((0, some (vI out.1), out.2) : JO) (inR out.1) :=
  CT_of (by decide +kernel) hl (by first | exact Nat.le_of_ble_eq_true rfl | (unfold rv; split <;> exact Nat.le_of_ble_eq_true rfl)) (by first | rfl | (unfold rv; split <;> rfl)) (j_sub (lv := [(0, .ref (gB g + 1)), (1, vI x1)]) [0, 1] rfl (tX8_carryOutOrder_0 hl hd hx1 h))
set_option maxRecDepth 100000 in
theorem tX8_read_208 {g : JG} {l : Launch} {d N n0 s0 : Nat} {out : Nat × Int × AH} {A : AH} {x1 : Int} {x2 : Int} {x3 : Int} (hl : l.stackTraces = false) (hd : 7 ≤ d) (hx1 : inR x1) (hx2 : inR x2) (hx3 : inR x3) (h : fX8_read_208 N A x1 x2 x3 = some out) : J g l d RX8 "read" cX8_read 5 (some .int) n0 s0 ((out.1, jv out.1 out.2.1, out.2.2) : JO) (inR out.2.1) 208 [(0, .ref (gB g + 1)), (1, vI x1), (2, vI x2), (3, vI x3)] [] A := by
  unfold fX8_read_208 at h
  refine j_aload_n (j := 0) dX8_read_208 rfl rfl ?_
  refine j_getR (q := 345) FX8_29 rfl dX8_read_209 (by decide) (by decide) rfl rfl (by decide) ?_
  obtain ⟨p2, e1, h⟩ := obind_elim h
  refine j_callV MX8_395 YX6_clear IX6_clear SX6_clear (by decide) rfl (by decide) (by omega) (Nat.le_of_ble_eq_true rfl) rfl (ctX6_clear (d := d - 1) hl (by omega)  e1) dX8_read_212 (VK_c 6 345 rfl).1 (VK_c 6 345 rfl).lt (VK_c 6 345 rfl).ka rfl (fun z3 xt4 => ?_)
  refine j_iload_n (j := 2) dX8_read_215 rfl rfl ?_
  by_cases c5 : x2 = 0
  · rw [if_pos c5] at h
    refine j_if_eq_t hx2 dX8_read_216 (tgt := 247) (by decide) c5 ?_
    refine j_aload_n (j := 0) dX8_read_247 rfl rfl ?_
    refine j_getR (q := 64) FX8_22 rfl dX8_read_248 (by decide) (by decide) rfl rfl (by decide) ?_
    obtain ⟨p7, e6, h⟩ := obind_elim h
    refine j_callV MX8_443 YX1_commit IX1_commit SX1_commit (by decide) rfl (by decide) (by omega) (Nat.le_of_ble_eq_true rfl) rfl (ctX1_commit (d := d - 1) hl (by omega)  e6) dX8_read_251 (VK_c 1 64 rfl).1 (VK_c 1 64 rfl).lt (VK_c 1 64 rfl).ka rfl (fun z8 xt9 => ?_)
    refine j_iload_n (j := 1) dX8_read_254 rfl rfl ?_
    cases h
    exact j_iret dX8_read_255 rfl rfl rfl hx1
  · rw [if_neg c5] at h
    refine j_if_eq_f hx2 dX8_read_216 (tgt := 247) (by decide) c5 ?_
    refine j_aload_n (j := 0) dX8_read_219 rfl rfl ?_
    refine j_getR (q := 64) FX8_22 rfl dX8_read_220 (by decide) (by decide) rfl rfl (by decide) ?_
    refine j_aload_n (j := 0) dX8_read_223 rfl rfl ?_
    refine j_getR (q := 2) FX8_10 rfl dX8_read_224 (by decide) (by decide) rfl rfl (by decide) ?_
    obtain ⟨p11, e10, h⟩ := obind_elim h
    refine j_callV MX8_431 YX1_takeBack IX1_takeBack SX1_takeBack (by decide) rfl (by decide) (by omega) (Nat.le_of_ble_eq_true rfl) rfl (ctX1_takeBack (d := d - 1) hl (by omega) (VK_c 5 2 rfl) e10) dX8_read_227 (VK_c 1 64 rfl).1 (VK_c 1 64 rfl).lt (VK_c 1 64 rfl).ka rfl (fun z12 xt13 => ?_)
    refine j_aload_n (j := 0) dX8_read_230 rfl rfl ?_
    refine j_iload_n (j := 2) dX8_read_231 rfl rfl ?_
    refine j_iload_n (j := 3) dX8_read_232 rfl rfl ?_
    obtain ⟨p15, e14, h⟩ := obind_elim h
    refine j_callV MX8_434 YX8_keepRefusal IX8_keepRefusal SX8_keepRefusal (by decide) rfl (by decide) (by omega) (Nat.le_of_ble_eq_true rfl) rfl (ctX8_keepRefusal (d := d - 1) hl (by omega) hx2 hx3 e14) dX8_read_233 (VK_c 8 1 rfl).1 (VK_c 8 1 rfl).lt (VK_c 8 1 rfl).ka rfl (fun z16 xt17 => ?_)
    cases h
    exact j_throwW (k := 5) TX8_438_440_442 (by decide) rfl (by omega) dX8_read_236 dX8_read_239 dX8_read_240 dX8_read_243 dX8_read_246 rfl inR_0
set_option maxRecDepth 100000 in
theorem tX8_read_66 {g : JG} {l : Launch} {d N n0 s0 : Nat} {out : Nat × Int × AH} {x1 : Int} (hl : l.stackTraces = false) (hd : 7 ≤ d) (hx1 : inR x1) : ∀ (n : Nat) (A : AH) (x2 : Int) (x3 : Int) (x4 : Int), inR x2 → inR x3 → inR x4 → fX8_read_66 N x1 n A x2 x3 x4 = some out → J g l d RX8 "read" cX8_read 5 (some .int) n0 s0 ((out.1, jv out.1 out.2.1, out.2.2) : JO) (inR out.2.1) 66 [(0, .ref (gB g + 1)), (1, vI x1), (2, vI x2), (3, vI x3), (4, vI x4)] [] A := by
  intro n
  induction n with
  | zero =>
    intro A x2 x3 x4 hx2 hx3 hx4 h
    rw [fX8_read_66] at h
    cases h
  | succ n ih =>
    intro A x2 x3 x4 hx2 hx3 hx4 h
    rw [fX8_read_66] at h
    refine j_iload (j := 4) dX8_read_66 rfl ?_
    refine j_iload_n (j := 1) dX8_read_68 rfl rfl ?_
    by_cases c1 : x1 ≤ x4
    · rw [if_pos c1] at h
      refine j_icmp_ge_t hx4 hx1 dX8_read_69 (tgt := 208) (by decide) c1 ?_
      exact j_sub [0, 1, 2, 3] rfl (tX8_read_208 hl (by omega) hx1 hx2 hx3  h)
    · rw [if_neg c1] at h
      refine j_icmp_ge_f hx4 hx1 dX8_read_69 (tgt := 208) (by decide) c1 ?_
      refine j_iload_n (j := 2) dX8_read_72 rfl rfl ?_
      by_cases c2 : x2 = 0
      · rw [if_pos c2] at h
        refine j_if_ne_f hx2 dX8_read_73 (tgt := 208) (by decide) (fun q => q c2) ?_
        refine j_aload_n (j := 0) dX8_read_76 rfl rfl ?_
        refine j_getR (q := 345) FX8_29 rfl dX8_read_77 (by decide) (by decide) rfl rfl (by decide) ?_
        obtain ⟨p4, e3, h⟩ := obind_elim h
        refine j_callV MX8_406 YX6_nextItem IX6_nextItem SX6_nextItem (by decide) rfl (by decide) (by omega) (Nat.le_of_ble_eq_true rfl) rfl (ctX6_nextItem (d := d - 1) hl (by omega)  e3) dX8_read_80 (VK_c 6 345 rfl).1 (VK_c 6 345 rfl).lt (VK_c 6 345 rfl).ka rfl (fun z5 xt6 => ?_)
        refine j_iload (j := 4) dX8_read_83 rfl ?_
        refine j_istore_n (lv' := [(3, vI x4), (0, .ref (gB g + 1)), (1, vI x1), (2, vI x2), (4, vI x4)]) dX8_read_85 rfl (by decide) (by first | rfl | (simp only [List.all_cons, List.all_nil, rv_cat]; rfl)) rfl ?_
        refine j_aload_n (j := 1) dX8_read_86 rfl rfl ?_
        refine j_getR (q := 345) FX8_29 rfl dX8_read_87 (by decide) (by decide) rfl rfl (by decide) ?_
        refine j_getI FX8_409 rfl dX8_read_90 (VK_c 6 345 rfl).1 (VK_c 6 345 rfl).lt (VK_c 6 345 rfl).ka (fun r7 => ?_)
        by_cases c8 : (gI p4 345 3) = 100
        · rw [if_pos c8] at h
          refine j_lookup (off := 50) (tgt := 143) r7 dX8_read_93 (by decide) (by first | (rw [c8]; done) | (rw [c8]; rfl)) (by decide) ?_
          refine j_aload_n (j := 1) dX8_read_143 rfl rfl ?_
          refine j_aload_n (j := 1) dX8_read_144 rfl rfl ?_
          refine j_getR (q := 345) FX8_29 rfl dX8_read_145 (by decide) (by decide) rfl rfl (by decide) ?_
          refine j_getI FX8_412 rfl dX8_read_148 (VK_c 6 345 rfl).1 (VK_c 6 345 rfl).lt (VK_c 6 345 rfl).ka (fun r9 => ?_)
          refine j_aload_n (j := 1) dX8_read_151 rfl rfl ?_
          refine j_getR (q := 345) FX8_29 rfl dX8_read_152 (by decide) (by decide) rfl rfl (by decide) ?_
          refine j_getI FX8_418 rfl dX8_read_155 (VK_c 6 345 rfl).1 (VK_c 6 345 rfl).lt (VK_c 6 345 rfl).ka (fun r10 => ?_)
          obtain ⟨p12, e11, h⟩ := obind_elim h
          refine j_callV MX8_421 YX8_carryOutPutOff IX8_carryOutPutOff SX8_carryOutPutOff (by decide) rfl (by decide) (by omega) (Nat.le_of_ble_eq_true rfl) rfl (ctX8_carryOutPutOff (d := d - 1) hl (by omega) r9 r10 e11) dX8_read_158 (VK_c 8 1 rfl).1 (VK_c 8 1 rfl).lt (VK_c 8 1 rfl).ka rfl (fun z13 xt14 => ?_)
          refine j_istore_n (lv' := [(2, vI p12.1), (3, vI x4), (0, .ref (gB g + 1)), (1, vI x1), (4, vI x4)]) dX8_read_161 rfl (by decide) (by first | rfl | (simp only [List.all_cons, List.all_nil, rv_cat]; rfl)) rfl ?_
          refine j_goto (tgt := 202) dX8_read_162 (by decide) ?_
          obtain ⟨u15, eu15, h⟩ := bnd_elim h
          have hu15 : inR u15 := by rw [eu15]; exact wrap_inR _
          refine j_iincN (k := 4) (lv' := [(4, vI u15), (2, vI p12.1), (3, vI x4), (0, .ref (gB g + 1)), (1, vI x1)]) eu15 dX8_read_202 rfl (by decide) (by first | rfl | (simp only [List.all_cons, List.all_nil, rv_cat]; rfl)) rfl ?_
          refine j_goto (tgt := 66) dX8_read_205 (by decide) ?_
          exact j_sub [3, 4, 1, 2, 0] rfl (ih p12.2 p12.1 x4 u15 z13 hx4 hu15 h)
        · rw [if_neg c8] at h
          by_cases c16 : (gI p4 345 3) = 115
          · rw [if_pos c16] at h
            refine j_lookup (off := 35) (tgt := 128) r7 dX8_read_93 (by decide) (by first | (rw [c16]; done) | (rw [c16]; rfl)) (by decide) ?_
            refine j_aload_n (j := 1) dX8_read_128 rfl rfl ?_
            refine j_aload_n (j := 1) dX8_read_129 rfl rfl ?_
            refine j_getR (q := 345) FX8_29 rfl dX8_read_130 (by decide) (by decide) rfl rfl (by decide) ?_
            refine j_getI FX8_412 rfl dX8_read_133 (VK_c 6 345 rfl).1 (VK_c 6 345 rfl).lt (VK_c 6 345 rfl).ka (fun r17 => ?_)
            obtain ⟨p19, e18, h⟩ := obind_elim h
            refine j_callV MX8_415 YX8_carryOutServe IX8_carryOutServe SX8_carryOutServe (by decide) rfl (by decide) (by omega) (Nat.le_of_ble_eq_true rfl) rfl (ctX8_carryOutServe (d := d - 1) hl (by omega) r17 e18) dX8_read_136 (VK_c 8 1 rfl).1 (VK_c 8 1 rfl).lt (VK_c 8 1 rfl).ka rfl (fun z20 xt21 => ?_)
            refine j_istore_n (lv' := [(2, vI p19.1), (3, vI x4), (0, .ref (gB g + 1)), (1, vI x1), (4, vI x4)]) dX8_read_139 rfl (by decide) (by first | rfl | (simp only [List.all_cons, List.all_nil, rv_cat]; rfl)) rfl ?_
            refine j_goto (tgt := 202) dX8_read_140 (by decide) ?_
            obtain ⟨u22, eu22, h⟩ := bnd_elim h
            have hu22 : inR u22 := by rw [eu22]; exact wrap_inR _
            refine j_iincN (k := 4) (lv' := [(4, vI u22), (2, vI p19.1), (3, vI x4), (0, .ref (gB g + 1)), (1, vI x1)]) eu22 dX8_read_202 rfl (by decide) (by first | rfl | (simp only [List.all_cons, List.all_nil, rv_cat]; rfl)) rfl ?_
            refine j_goto (tgt := 66) dX8_read_205 (by decide) ?_
            exact j_sub [3, 4, 1, 2, 0] rfl (ih p19.2 p19.1 x4 u22 z20 hx4 hu22 h)
          · rw [if_neg c16] at h
            by_cases c23 : (gI p4 345 3) = 119
            · rw [if_pos c23] at h
              refine j_lookup (off := 72) (tgt := 165) r7 dX8_read_93 (by decide) (by first | (rw [c23]; done) | (rw [c23]; rfl)) (by decide) ?_
              refine j_aload_n (j := 1) dX8_read_165 rfl rfl ?_
              refine j_aload_n (j := 1) dX8_read_166 rfl rfl ?_
              refine j_getR (q := 345) FX8_29 rfl dX8_read_167 (by decide) (by decide) rfl rfl (by decide) ?_
              refine j_getI FX8_412 rfl dX8_read_170 (VK_c 6 345 rfl).1 (VK_c 6 345 rfl).lt (VK_c 6 345 rfl).ka (fun r24 => ?_)
              obtain ⟨p26, e25, h⟩ := obind_elim h
              refine j_callV MX8_425 YX8_carryOutPass IX8_carryOutPass SX8_carryOutPass (by decide) rfl (by decide) (by omega) (Nat.le_of_ble_eq_true rfl) rfl (ctX8_carryOutPass (d := d - 1) hl (by omega) r24 e25) dX8_read_173 (VK_c 8 1 rfl).1 (VK_c 8 1 rfl).lt (VK_c 8 1 rfl).ka rfl (fun z27 xt28 => ?_)
              refine j_istore_n (lv' := [(2, vI p26.1), (3, vI x4), (0, .ref (gB g + 1)), (1, vI x1), (4, vI x4)]) dX8_read_176 rfl (by decide) (by first | rfl | (simp only [List.all_cons, List.all_nil, rv_cat]; rfl)) rfl ?_
              refine j_goto (tgt := 202) dX8_read_177 (by decide) ?_
              obtain ⟨u29, eu29, h⟩ := bnd_elim h
              have hu29 : inR u29 := by rw [eu29]; exact wrap_inR _
              refine j_iincN (k := 4) (lv' := [(4, vI u29), (2, vI p26.1), (3, vI x4), (0, .ref (gB g + 1)), (1, vI x1)]) eu29 dX8_read_202 rfl (by decide) (by first | rfl | (simp only [List.all_cons, List.all_nil, rv_cat]; rfl)) rfl ?_
              refine j_goto (tgt := 66) dX8_read_205 (by decide) ?_
              exact j_sub [3, 4, 1, 2, 0] rfl (ih p26.2 p26.1 x4 u29 z27 hx4 hu29 h)
            · rw [if_neg c23] at h
              refine j_lookup (off := 87) (tgt := 180) r7 dX8_read_93 (by decide) (by simp [Op.lookupswitch.offset, Ne.symm c8, Ne.symm c16, Ne.symm c23]) (by decide) ?_
              refine j_aload_n (j := 1) dX8_read_180 rfl rfl ?_
              refine j_aload_n (j := 1) dX8_read_181 rfl rfl ?_
              refine j_getR (q := 345) FX8_29 rfl dX8_read_182 (by decide) (by decide) rfl rfl (by decide) ?_
              refine j_getI FX8_409 rfl dX8_read_185 (VK_c 6 345 rfl).1 (VK_c 6 345 rfl).lt (VK_c 6 345 rfl).ka (fun r30 => ?_)
              refine j_bipush dX8_read_188 rfl ?_
              by_cases c31 : (gI p4 345 3) = 111
              · rw [if_pos c31] at h
                refine j_icmp_ne_f r30 (inR_lit _ rfl) dX8_read_190 (tgt := 197) (by decide) (fun q => q c31) ?_
                refine j_iconst dX8_read_193 ?_
                refine j_goto (tgt := 198) dX8_read_194 (by decide) ?_
                obtain ⟨p38, e37, h⟩ := obind_elim h
                refine j_callV MX8_428 YX8_carryOutOrder IX8_carryOutOrder SX8_carryOutOrder (by decide) rfl (by decide) (by omega) (Nat.le_of_ble_eq_true rfl) rfl (ctX8_carryOutOrder (d := d - 1) hl (by omega) (inR_lit _ rfl) e37) dX8_read_198 (VK_c 8 1 rfl).1 (VK_c 8 1 rfl).lt (VK_c 8 1 rfl).ka rfl (fun z39 xt40 => ?_)
                refine j_istore_n (lv' := [(2, vI p38.1), (3, vI x4), (0, .ref (gB g + 1)), (1, vI x1), (4, vI x4)]) dX8_read_201 rfl (by decide) (by first | rfl | (simp only [List.all_cons, List.all_nil, rv_cat]; rfl)) rfl ?_
                obtain ⟨u41, eu41, h⟩ := bnd_elim h
                have hu41 : inR u41 := by rw [eu41]; exact wrap_inR _
                refine j_iincN (k := 4) (lv' := [(4, vI u41), (2, vI p38.1), (3, vI x4), (0, .ref (gB g + 1)), (1, vI x1)]) eu41 dX8_read_202 rfl (by decide) (by first | rfl | (simp only [List.all_cons, List.all_nil, rv_cat]; rfl)) rfl ?_
                refine j_goto (tgt := 66) dX8_read_205 (by decide) ?_
                exact j_sub [3, 4, 1, 2, 0] rfl (ih p38.2 p38.1 x4 u41 z39 hx4 hu41 h)
              · rw [if_neg c31] at h
                refine j_icmp_ne_t r30 (inR_lit _ rfl) dX8_read_190 (tgt := 197) (by decide) c31 ?_
                refine j_iconst dX8_read_197 ?_
                obtain ⟨p33, e32, h⟩ := obind_elim h
                refine j_callV MX8_428 YX8_carryOutOrder IX8_carryOutOrder SX8_carryOutOrder (by decide) rfl (by decide) (by omega) (Nat.le_of_ble_eq_true rfl) rfl (ctX8_carryOutOrder (d := d - 1) hl (by omega) (inR_lit _ rfl) e32) dX8_read_198 (VK_c 8 1 rfl).1 (VK_c 8 1 rfl).lt (VK_c 8 1 rfl).ka rfl (fun z34 xt35 => ?_)
                refine j_istore_n (lv' := [(2, vI p33.1), (3, vI x4), (0, .ref (gB g + 1)), (1, vI x1), (4, vI x4)]) dX8_read_201 rfl (by decide) (by first | rfl | (simp only [List.all_cons, List.all_nil, rv_cat]; rfl)) rfl ?_
                obtain ⟨u36, eu36, h⟩ := bnd_elim h
                have hu36 : inR u36 := by rw [eu36]; exact wrap_inR _
                refine j_iincN (k := 4) (lv' := [(4, vI u36), (2, vI p33.1), (3, vI x4), (0, .ref (gB g + 1)), (1, vI x1)]) eu36 dX8_read_202 rfl (by decide) (by first | rfl | (simp only [List.all_cons, List.all_nil, rv_cat]; rfl)) rfl ?_
                refine j_goto (tgt := 66) dX8_read_205 (by decide) ?_
                exact j_sub [3, 4, 1, 2, 0] rfl (ih p33.2 p33.1 x4 u36 z34 hx4 hu36 h)
      · rw [if_neg c2] at h
        refine j_if_ne_t hx2 dX8_read_73 (tgt := 208) (by decide) c2 ?_
        exact j_sub [0, 1, 2, 3] rfl (tX8_read_208 hl (by omega) hx1 hx2 hx3  h)
set_option maxRecDepth 100000 in
theorem tX8_read_0 {g : JG} {l : Launch} {d N n0 s0 : Nat} {out : Nat × Int × AH} {A : AH} (hl : l.stackTraces = false) (hd : 7 ≤ d) (h : fX8_read N A  = some out) : J g l d RX8 "read" cX8_read 5 (some .int) n0 s0 ((out.1, jv out.1 out.2.1, out.2.2) : JO) (inR out.2.1) 0 [(0, .ref (gB g + 1))] [] A := by
  unfold fX8_read at h
  refine j_aload_n (j := 0) dX8_read_0 rfl rfl ?_
  refine j_getR (q := 345) FX8_29 rfl dX8_read_1 (by decide) (by decide) rfl rfl (by decide) ?_
  obtain ⟨p2, e1, h⟩ := obind_elim h
  refine j_callV MX8_389 YX6_countItems IX6_countItems SX6_countItems (by decide) rfl (by decide) (by omega) (Nat.le_of_ble_eq_true rfl) rfl (ctX6_countItems (d := d - 1) hl (by omega)  e1) dX8_read_4 (VK_c 6 345 rfl).1 (VK_c 6 345 rfl).lt (VK_c 6 345 rfl).ka rfl (fun z3 xt4 => ?_)
  refine j_istore_n (lv' := [(1, vI p2.1), (0, .ref (gB g + 1))]) dX8_read_7 rfl (by decide) (by first | rfl | (simp only [List.all_cons, List.all_nil, rv_cat]; rfl)) rfl ?_
  refine j_iload_n (j := 0) dX8_read_8 rfl rfl ?_
  by_cases c5 : p2.1 = 0
  · rw [if_pos c5] at h
    refine j_if_ne_f z3 dX8_read_9 (tgt := 41) (by decide) (fun q => q c5) ?_
    refine j_aload_n (j := 1) dX8_read_12 rfl rfl ?_
    refine j_aload_n (j := 1) dX8_read_13 rfl rfl ?_
    refine j_getR (q := 345) FX8_29 rfl dX8_read_14 (by decide) (by decide) rfl rfl (by decide) ?_
    refine j_getI FX8_392 rfl dX8_read_17 (VK_c 6 345 rfl).1 (VK_c 6 345 rfl).lt (VK_c 6 345 rfl).ka (fun r14 => ?_)
    obtain ⟨A15, eA15, h⟩ := bnd_elim h
    have xA15 : XT p2.2 A15 := by rw [eA15]; exact XT_sI _ _ _ _
    refine j_putI FX8_44 rfl rfl rfl r14 dX8_read_20 (VK_c 8 1 rfl).1 (VK_c 8 1 rfl).lt (VK_c 8 1 rfl).ka ?_
    refine j_hB eA15 ?_
    refine j_aload_n (j := 1) dX8_read_23 rfl rfl ?_
    refine j_getR (q := 345) FX8_29 rfl dX8_read_24 (by decide) (by decide) rfl rfl (by decide) ?_
    obtain ⟨p17, e16, h⟩ := obind_elim h
    refine j_callV MX8_395 YX6_clear IX6_clear SX6_clear (by decide) rfl (by decide) (by omega) (Nat.le_of_ble_eq_true rfl) rfl (ctX6_clear (d := d - 1) hl (by omega)  e16) dX8_read_27 (VK_c 6 345 rfl).1 (VK_c 6 345 rfl).lt (VK_c 6 345 rfl).ka rfl (fun z18 xt19 => ?_)
    cases h
    exact j_throwW (k := 1) TX8_51_398_55 (by decide) rfl (by omega) dX8_read_30 dX8_read_33 dX8_read_34 dX8_read_37 dX8_read_40 rfl inR_0
  · rw [if_neg c5] at h
    refine j_if_ne_t z3 dX8_read_9 (tgt := 41) (by decide) c5 ?_
    refine j_aload_n (j := 1) dX8_read_41 rfl rfl ?_
    refine j_getR (q := 64) FX8_22 rfl dX8_read_42 (by decide) (by decide) rfl rfl (by decide) ?_
    refine j_aload_n (j := 1) dX8_read_45 rfl rfl ?_
    refine j_getR (q := 2) FX8_10 rfl dX8_read_46 (by decide) (by decide) rfl rfl (by decide) ?_
    obtain ⟨p7, e6, h⟩ := obind_elim h
    refine j_callV MX8_400 YX1_prepare IX1_prepare SX1_prepare (by decide) rfl (by decide) (by omega) (Nat.le_of_ble_eq_true rfl) rfl (ctX1_prepare (d := d - 1) hl (by omega) (VK_c 5 2 rfl) e6) dX8_read_49 (VK_c 1 64 rfl).1 (VK_c 1 64 rfl).lt (VK_c 1 64 rfl).ka rfl (fun z8 xt9 => ?_)
    refine j_aload_n (j := 1) dX8_read_52 rfl rfl ?_
    refine j_getR (q := 345) FX8_29 rfl dX8_read_53 (by decide) (by decide) rfl rfl (by decide) ?_
    obtain ⟨p11, e10, h⟩ := obind_elim h
    refine j_callV MX8_403 YX6_rewind IX6_rewind SX6_rewind (by decide) rfl (by decide) (by omega) (Nat.le_of_ble_eq_true rfl) rfl (ctX6_rewind (d := d - 1) hl (by omega)  e10) dX8_read_56 (VK_c 6 345 rfl).1 (VK_c 6 345 rfl).lt (VK_c 6 345 rfl).ka rfl (fun z12 xt13 => ?_)
    refine j_iconst dX8_read_59 ?_
    refine j_istore_n (lv' := [(2, vI 0), (1, vI p2.1), (0, .ref (gB g + 1))]) dX8_read_60 rfl (by decide) (by first | rfl | (simp only [List.all_cons, List.all_nil, rv_cat]; rfl)) rfl ?_
    refine j_iconst dX8_read_61 ?_
    refine j_istore_n (lv' := [(3, vI 0), (2, vI 0), (1, vI p2.1), (0, .ref (gB g + 1))]) dX8_read_62 rfl (by decide) (by first | rfl | (simp only [List.all_cons, List.all_nil, rv_cat]; rfl)) rfl ?_
    refine j_iconst dX8_read_63 ?_
    refine j_istore (lv' := [(4, vI 0), (3, vI 0), (2, vI 0), (1, vI p2.1), (0, .ref (gB g + 1))]) dX8_read_64 (by decide) (by first | rfl | (simp only [List.all_cons, List.all_nil, rv_cat]; rfl)) rfl ?_
    exact j_sub [4, 3, 2, 1, 0] rfl (tX8_read_66 hl (by omega) z3  N p11 0 0 0 (inR_lit _ rfl) (inR_lit _ rfl) (inR_lit _ rfl) h)
theorem ctX8_read {g : JG} {l : Launch} {d N : Nat} {A : AH} {out : Nat × Int × AH} (hl : l.stackTraces = false) (hd : 7 ≤ d) (h : fX8_read N A  = some out) : CT g l yX8_read cX8_read 5 (some .int) d [.ref (gB g + 1)] A ((out.1, jv out.1 out.2.1, out.2.2) : JO) (inR out.2.1) :=
  CT_of (by decide +kernel) hl (by first | exact Nat.le_of_ble_eq_true rfl | (unfold rv; split <;> exact Nat.le_of_ble_eq_true rfl)) (by first | rfl | (unfold rv; split <;> rfl)) (j_sub (lv := [(0, .ref (gB g + 1))]) [0] rfl (tX8_read_0 hl hd  h))
set_option maxRecDepth 100000 in
theorem tX8_faultPosition_0 {g : JG} {l : Launch} {d N n0 s0 : Nat} {out : Nat × Int × AH} {A : AH} (hl : l.stackTraces = false) (hd : 7 ≤ d) (h : fX8_faultPosition N A  = some out) : J g l d RX8 "faultPosition" cX8_faultPosition 1 (some .int) n0 s0 ((out.1, jv out.1 out.2.1, out.2.2) : JO) (inR out.2.1) 0 [(0, .ref (gB g + 1))] [] A := by
  unfold fX8_faultPosition at h
  refine j_aload_n (j := 0) dX8_faultPosition_0 rfl rfl ?_
  refine j_getI FX8_44 rfl dX8_faultPosition_1 (VK_c 8 1 rfl).1 (VK_c 8 1 rfl).lt (VK_c 8 1 rfl).ka (fun r1 => ?_)
  refine j_iconst dX8_faultPosition_4 ?_
  by_cases c2 : (gI A 1 7) = (-1)
  · rw [if_pos c2] at h
    refine j_icmp_ne_f r1 (inR_lit _ rfl) dX8_faultPosition_5 (tgt := 19) (by decide) (fun q => q c2) ?_
    cases h
    exact j_throwW (k := 6) TX8_175_446_179 (by decide) rfl (by omega) dX8_faultPosition_8 dX8_faultPosition_11 dX8_faultPosition_12 dX8_faultPosition_15 dX8_faultPosition_18 rfl inR_0
  · rw [if_neg c2] at h
    refine j_icmp_ne_t r1 (inR_lit _ rfl) dX8_faultPosition_5 (tgt := 19) (by decide) c2 ?_
    refine j_aload_n (j := 0) dX8_faultPosition_19 rfl rfl ?_
    refine j_getI FX8_44 rfl dX8_faultPosition_20 (VK_c 8 1 rfl).1 (VK_c 8 1 rfl).lt (VK_c 8 1 rfl).ka (fun r3 => ?_)
    cases h
    exact j_iret dX8_faultPosition_23 rfl rfl rfl r3
theorem ctX8_faultPosition {g : JG} {l : Launch} {d N : Nat} {A : AH} {out : Nat × Int × AH} (hl : l.stackTraces = false) (hd : 7 ≤ d) (h : fX8_faultPosition N A  = some out) : CT g l yX8_faultPosition cX8_faultPosition 1 (some .int) d [.ref (gB g + 1)] A ((out.1, jv out.1 out.2.1, out.2.2) : JO) (inR out.2.1) :=
  CT_of (by decide +kernel) hl (by first | exact Nat.le_of_ble_eq_true rfl | (unfold rv; split <;> exact Nat.le_of_ble_eq_true rfl)) (by first | rfl | (unfold rv; split <;> rfl)) (j_sub (lv := [(0, .ref (gB g + 1))]) [0] rfl (tX8_faultPosition_0 hl hd  h))
set_option maxRecDepth 100000 in
theorem tX8_refusal_0 {g : JG} {l : Launch} {d N n0 s0 : Nat} {out : Nat × Int × AH} {A : AH} {x1 : Int} (hl : l.stackTraces = false) (hd : 7 ≤ d) (hx1 : x1 = 0 ∨ x1 = 1) (h : fX8_refusal N A x1 = some out) : J g l d RX8 "refusal" cX8_refusal 2 (some .int) n0 s0 ((out.1, jv out.1 out.2.1, out.2.2) : JO) (inR out.2.1) 0 [(0, .ref (gB g + 1)), (1, vI x1)] [] A := by
  unfold fX8_refusal at h
  refine j_aload_n (j := 0) dX8_refusal_0 rfl rfl ?_
  refine j_getI FX8_48 rfl dX8_refusal_1 (VK_c 8 1 rfl).1 (VK_c 8 1 rfl).lt (VK_c 8 1 rfl).ka (fun r1 => ?_)
  by_cases c2 : (gI A 1 8) = 0
  · rw [if_pos c2] at h
    refine j_if_ne_f r1 dX8_refusal_4 (tgt := 18) (by decide) (fun q => q c2) ?_
    cases h
    exact j_throwW (k := 6) TX8_175_448_179 (by decide) rfl (by omega) dX8_refusal_7 dX8_refusal_10 dX8_refusal_11 dX8_refusal_14 dX8_refusal_17 rfl inR_0
  · rw [if_neg c2] at h
    refine j_if_ne_t r1 dX8_refusal_4 (tgt := 18) (by decide) c2 ?_
    refine j_iload_n (j := 1) dX8_refusal_18 rfl rfl ?_
    by_cases c3 : x1 = 0
    · rw [if_pos c3] at h
      refine j_if_eq_t (bool_inR hx1) dX8_refusal_19 (tgt := 29) (by decide) c3 ?_
      refine j_aload_n (j := 0) dX8_refusal_29 rfl rfl ?_
      refine j_getI FX8_450 rfl dX8_refusal_30 (VK_c 8 1 rfl).1 (VK_c 8 1 rfl).lt (VK_c 8 1 rfl).ka (fun r4 => ?_)
      cases h
      exact j_iret dX8_refusal_33 rfl rfl rfl r4
    · rw [if_neg c3] at h
      refine j_if_eq_f (bool_inR hx1) dX8_refusal_19 (tgt := 29) (by decide) c3 ?_
      refine j_aload_n (j := 0) dX8_refusal_22 rfl rfl ?_
      refine j_getI FX8_48 rfl dX8_refusal_23 (VK_c 8 1 rfl).1 (VK_c 8 1 rfl).lt (VK_c 8 1 rfl).ka (fun r5 => ?_)
      refine j_goto (tgt := 33) dX8_refusal_26 (by decide) ?_
      cases h
      exact j_iret dX8_refusal_33 rfl rfl rfl r5
theorem ctX8_refusal {g : JG} {l : Launch} {d N : Nat} {A : AH} {out : Nat × Int × AH} {x1 : Int} (hl : l.stackTraces = false) (hd : 7 ≤ d) (hx1 : x1 = 0 ∨ x1 = 1) (h : fX8_refusal N A x1 = some out) : CT g l yX8_refusal cX8_refusal 2 (some .int) d [.ref (gB g + 1), vI x1] A ((out.1, jv out.1 out.2.1, out.2.2) : JO) (inR out.2.1) :=
  CT_of (by decide +kernel) hl (by first | exact Nat.le_of_ble_eq_true rfl | (unfold rv; split <;> exact Nat.le_of_ble_eq_true rfl)) (by first | rfl | (unfold rv; split <;> rfl)) (j_sub (lv := [(0, .ref (gB g + 1)), (1, vI x1)]) [0, 1] rfl (tX8_refusal_0 hl hd hx1 h))
set_option maxRecDepth 100000 in
theorem tX8_undo_0 {g : JG} {l : Launch} {d N n0 s0 : Nat} {out : Nat × Int × AH} {A : AH} (hl : l.stackTraces = false) (hd : 7 ≤ d) (h : fX8_undo N A  = some out) : J g l d RX8 "undo" cX8_undo 1 (some .int) n0 s0 ((out.1, jv out.1 out.2.1, out.2.2) : JO) (inR out.2.1) 0 [(0, .ref (gB g + 1))] [] A := by
  unfold fX8_undo at h
  refine j_aload_n (j := 0) dX8_undo_0 rfl rfl ?_
  refine j_getR (q := 64) FX8_22 rfl dX8_undo_1 (by decide) (by decide) rfl rfl (by decide) ?_
  refine j_getI FX8_365 rfl dX8_undo_4 (VK_c 1 64 rfl).1 (VK_c 1 64 rfl).lt (VK_c 1 64 rfl).ka (fun r1 => ?_)
  by_cases c2 : (gI A 64 2) = 0
  · rw [if_pos c2] at h
    refine j_if_ne_f r1 dX8_undo_7 (tgt := 21) (by decide) (fun q => q c2) ?_
    cases h
    exact j_throwW (k := 2) TX8_93_453_97 (by decide) rfl (by omega) dX8_undo_10 dX8_undo_13 dX8_undo_14 dX8_undo_17 dX8_undo_20 rfl inR_0
  · rw [if_neg c2] at h
    refine j_if_ne_t r1 dX8_undo_7 (tgt := 21) (by decide) c2 ?_
    refine j_aload_n (j := 0) dX8_undo_21 rfl rfl ?_
    refine j_getR (q := 64) FX8_22 rfl dX8_undo_22 (by decide) (by decide) rfl rfl (by decide) ?_
    refine j_aload_n (j := 0) dX8_undo_25 rfl rfl ?_
    refine j_getR (q := 2) FX8_10 rfl dX8_undo_26 (by decide) (by decide) rfl rfl (by decide) ?_
    obtain ⟨p4, e3, h⟩ := obind_elim h
    refine j_callV MX8_455 YX1_stepBack IX1_stepBack SX1_stepBack (by decide) rfl (by decide) (by omega) (Nat.le_of_ble_eq_true rfl) rfl (ctX1_stepBack (d := d - 1) hl (by omega) (VK_c 5 2 rfl) e3) dX8_undo_29 (VK_c 1 64 rfl).1 (VK_c 1 64 rfl).lt (VK_c 1 64 rfl).ka rfl (fun z5 xt6 => ?_)
    refine j_aload_n (j := 0) dX8_undo_32 rfl rfl ?_
    refine j_getR (q := 64) FX8_22 rfl dX8_undo_33 (by decide) (by decide) rfl rfl (by decide) ?_
    refine j_getI FX8_365 rfl dX8_undo_36 (VK_c 1 64 rfl).1 (VK_c 1 64 rfl).lt (VK_c 1 64 rfl).ka (fun r7 => ?_)
    cases h
    exact j_iret dX8_undo_39 rfl rfl rfl r7
theorem ctX8_undo {g : JG} {l : Launch} {d N : Nat} {A : AH} {out : Nat × Int × AH} (hl : l.stackTraces = false) (hd : 7 ≤ d) (h : fX8_undo N A  = some out) : CT g l yX8_undo cX8_undo 1 (some .int) d [.ref (gB g + 1)] A ((out.1, jv out.1 out.2.1, out.2.2) : JO) (inR out.2.1) :=
  CT_of (by decide +kernel) hl (by first | exact Nat.le_of_ble_eq_true rfl | (unfold rv; split <;> exact Nat.le_of_ble_eq_true rfl)) (by first | rfl | (unfold rv; split <;> rfl)) (j_sub (lv := [(0, .ref (gB g + 1))]) [0] rfl (tX8_undo_0 hl hd  h))
set_option maxRecDepth 100000 in
theorem tX8_saveSnapshot_0 {g : JG} {l : Launch} {d N n0 s0 : Nat} {out : Int × AH} {A : AH} (hl : l.stackTraces = false) (hd : 3 ≤ d) (h : fX8_saveSnapshot N A  = some out) : J g l d RX8 "saveSnapshot" cX8_saveSnapshot 1 (some .int) n0 s0 ((0, some (vI out.1), out.2) : JO) (inR out.1) 0 [(0, .ref (gB g + 1))] [] A := by
  unfold fX8_saveSnapshot at h
  refine j_aload_n (j := 0) dX8_saveSnapshot_0 rfl rfl ?_
  refine j_getR (q := 33) FX8_16 rfl dX8_saveSnapshot_1 (by decide) (by decide) rfl rfl (by decide) ?_
  refine j_aload_n (j := 0) dX8_saveSnapshot_4 rfl rfl ?_
  refine j_getR (q := 2) FX8_10 rfl dX8_saveSnapshot_5 (by decide) (by decide) rfl rfl (by decide) ?_
  obtain ⟨p2, e1, h⟩ := obind_elim h
  refine j_callV MX8_458 YX5_copyFrom IX5_copyFrom SX5_copyFrom (by decide) rfl (by decide) (by omega) (Nat.le_of_ble_eq_true rfl) rfl (ctX5_copyFrom (d := d - 1) hl (by omega) (VK_c 5 33 rfl) (VK_c 5 2 rfl) e1) dX8_saveSnapshot_8 (VK_c 5 33 rfl).1 (VK_c 5 33 rfl).lt (VK_c 5 33 rfl).ka rfl (fun z3 xt4 => ?_)
  refine j_aload_n (j := 0) dX8_saveSnapshot_11 rfl rfl ?_
  refine j_iconst dX8_saveSnapshot_12 ?_
  obtain ⟨A5, eA5, h⟩ := bnd_elim h
  have xA5 : XT p2 A5 := by rw [eA5]; exact XT_sI _ _ _ _
  refine j_putB FX8_461 rfl rfl rfl (Or.inr rfl) dX8_saveSnapshot_13 (VK_c 8 1 rfl).1 (VK_c 8 1 rfl).lt (VK_c 8 1 rfl).ka ?_
  refine j_hB eA5 ?_
  refine j_aload_n (j := 0) dX8_saveSnapshot_16 rfl rfl ?_
  refine j_getR (q := 2) FX8_10 rfl dX8_saveSnapshot_17 (by decide) (by decide) rfl rfl (by decide) ?_
  refine j_getI FX8_117 rfl dX8_saveSnapshot_20 (VK_c 5 2 rfl).1 (VK_c 5 2 rfl).lt (VK_c 5 2 rfl).ka (fun r6 => ?_)
  cases h
  exact j_iret dX8_saveSnapshot_23 rfl rfl rfl r6
theorem ctX8_saveSnapshot {g : JG} {l : Launch} {d N : Nat} {A : AH} {out : Int × AH} (hl : l.stackTraces = false) (hd : 3 ≤ d) (h : fX8_saveSnapshot N A  = some out) : CT g l yX8_saveSnapshot cX8_saveSnapshot 1 (some .int) d [.ref (gB g + 1)] A ((0, some (vI out.1), out.2) : JO) (inR out.1) :=
  CT_of (by decide +kernel) hl (by first | exact Nat.le_of_ble_eq_true rfl | (unfold rv; split <;> exact Nat.le_of_ble_eq_true rfl)) (by first | rfl | (unfold rv; split <;> rfl)) (j_sub (lv := [(0, .ref (gB g + 1))]) [0] rfl (tX8_saveSnapshot_0 hl hd  h))
set_option maxRecDepth 100000 in
theorem tX8_restoreSnapshot_0 {g : JG} {l : Launch} {d N n0 s0 : Nat} {out : Nat × Int × AH} {A : AH} (hl : l.stackTraces = false) (hd : 7 ≤ d) (h : fX8_restoreSnapshot N A  = some out) : J g l d RX8 "restoreSnapshot" cX8_restoreSnapshot 1 (some .int) n0 s0 ((out.1, jv out.1 out.2.1, out.2.2) : JO) (inR out.2.1) 0 [(0, .ref (gB g + 1))] [] A := by
  unfold fX8_restoreSnapshot at h
  refine j_aload_n (j := 0) dX8_restoreSnapshot_0 rfl rfl ?_
  refine j_getI FX8_461 rfl dX8_restoreSnapshot_1 (VK_c 8 1 rfl).1 (VK_c 8 1 rfl).lt (VK_c 8 1 rfl).ka (fun r1 => ?_)
  by_cases c2 : (gI A 1 6) = 0
  · rw [if_pos c2] at h
    refine j_if_ne_f r1 dX8_restoreSnapshot_4 (tgt := 18) (by decide) (fun q => q c2) ?_
    cases h
    exact j_throwW (k := 2) TX8_93_465_97 (by decide) rfl (by omega) dX8_restoreSnapshot_7 dX8_restoreSnapshot_10 dX8_restoreSnapshot_11 dX8_restoreSnapshot_14 dX8_restoreSnapshot_17 rfl inR_0
  · rw [if_neg c2] at h
    refine j_if_ne_t r1 dX8_restoreSnapshot_4 (tgt := 18) (by decide) c2 ?_
    refine j_aload_n (j := 0) dX8_restoreSnapshot_18 rfl rfl ?_
    refine j_getR (q := 2) FX8_10 rfl dX8_restoreSnapshot_19 (by decide) (by decide) rfl rfl (by decide) ?_
    refine j_aload_n (j := 0) dX8_restoreSnapshot_22 rfl rfl ?_
    refine j_getR (q := 33) FX8_16 rfl dX8_restoreSnapshot_23 (by decide) (by decide) rfl rfl (by decide) ?_
    obtain ⟨p4, e3, h⟩ := obind_elim h
    refine j_callV MX8_458 YX5_copyFrom IX5_copyFrom SX5_copyFrom (by decide) rfl (by decide) (by omega) (Nat.le_of_ble_eq_true rfl) rfl (ctX5_copyFrom (d := d - 1) hl (by omega) (VK_c 5 2 rfl) (VK_c 5 33 rfl) e3) dX8_restoreSnapshot_26 (VK_c 5 2 rfl).1 (VK_c 5 2 rfl).lt (VK_c 5 2 rfl).ka rfl (fun z5 xt6 => ?_)
    refine j_aload_n (j := 0) dX8_restoreSnapshot_29 rfl rfl ?_
    refine j_getR (q := 64) FX8_22 rfl dX8_restoreSnapshot_30 (by decide) (by decide) rfl rfl (by decide) ?_
    refine j_iconst dX8_restoreSnapshot_33 ?_
    obtain ⟨A7, eA7, h⟩ := bnd_elim h
    have xA7 : XT p4 A7 := by rw [eA7]; exact XT_sI _ _ _ _
    refine j_putI FX8_365 rfl rfl rfl (inR_lit _ rfl) dX8_restoreSnapshot_34 (VK_c 1 64 rfl).1 (VK_c 1 64 rfl).lt (VK_c 1 64 rfl).ka ?_
    refine j_hB eA7 ?_
    refine j_aload_n (j := 0) dX8_restoreSnapshot_37 rfl rfl ?_
    refine j_getR (q := 2) FX8_10 rfl dX8_restoreSnapshot_38 (by decide) (by decide) rfl rfl (by decide) ?_
    refine j_getI FX8_117 rfl dX8_restoreSnapshot_41 (VK_c 5 2 rfl).1 (VK_c 5 2 rfl).lt (VK_c 5 2 rfl).ka (fun r8 => ?_)
    cases h
    exact j_iret dX8_restoreSnapshot_44 rfl rfl rfl r8
theorem ctX8_restoreSnapshot {g : JG} {l : Launch} {d N : Nat} {A : AH} {out : Nat × Int × AH} (hl : l.stackTraces = false) (hd : 7 ≤ d) (h : fX8_restoreSnapshot N A  = some out) : CT g l yX8_restoreSnapshot cX8_restoreSnapshot 1 (some .int) d [.ref (gB g + 1)] A ((out.1, jv out.1 out.2.1, out.2.2) : JO) (inR out.2.1) :=
  CT_of (by decide +kernel) hl (by first | exact Nat.le_of_ble_eq_true rfl | (unfold rv; split <;> exact Nat.le_of_ble_eq_true rfl)) (by first | rfl | (unfold rv; split <;> rfl)) (j_sub (lv := [(0, .ref (gB g + 1))]) [0] rfl (tX8_restoreSnapshot_0 hl hd  h))
