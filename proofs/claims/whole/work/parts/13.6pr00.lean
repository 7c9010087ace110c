set_option maxRecDepth 100000 in
theorem tX8_rule_0 {g : JG} {l : Launch} {d N n0 s0 : Nat} {out : Nat × Int × AH} {A : AH} {x1 : Int} {x2 : Int} (hl : l.stackTraces = false) (hd : 7 ≤ d) (hx1 : inR x1) (hx2 : inR x2) (h : fX8_rule N A x1 x2 = some out) : J g l d RX8 "rule" cX8_rule 4 (some .int) n0 s0 ((out.1, jv out.1 out.2.1, out.2.2) : JO) (inR out.2.1) 0 [(0, .ref (gB g + 1)), (1, vI x1), (2, vI x2)] [] A := by
  unfold fX8_rule at h
  refine j_iload_n (j := 1) dX8_rule_0 rfl rfl ?_
  by_cases c1 : x1 < 0
  · rw [if_pos c1] at h
    refine j_if_lt_t hx1 dX8_rule_1 (tgt := 9) (by decide) c1 ?_
    cases h
    exact j_throw (k := 1) TX8_51_53_55 (by decide) rfl (by omega) dX8_rule_9 dX8_rule_12 dX8_rule_13 dX8_rule_15 dX8_rule_18 rfl inR_0
  · rw [if_neg c1] at h
    refine j_if_lt_f hx1 dX8_rule_1 (tgt := 9) (by decide) c1 ?_
    refine j_iload_n (j := 1) dX8_rule_4 rfl rfl ?_
    refine j_iconst dX8_rule_5 ?_
    by_cases c2 : x1 < 5
    · rw [if_pos c2] at h
      refine j_icmp_lt_t hx1 (inR_lit _ rfl) dX8_rule_6 (tgt := 19) (by decide) c2 ?_
      refine j_iload_n (j := 2) dX8_rule_19 rfl rfl ?_
      refine j_gets SFX8_58 dX8_rule_20 ?_
      refine j_iload_n (j := 1) dX8_rule_23 rfl rfl ?_
      obtain ⟨c3, h⟩ := chk_elim h
      refine j_sald (by decide) hx1 dX8_rule_24 c3 (stA_eq 0 x1) ?_
      by_cases c5 : x2 < (stA 0 x1)
      · rw [if_pos c5] at h
        refine j_icmp_lt_t hx2 (stA_inR 0 x1) dX8_rule_25 (tgt := 37) (by decide) c5 ?_
        cases h
        exact j_throw (k := 1) TX8_51_64_55 (by decide) rfl (by omega) dX8_rule_37 dX8_rule_40 dX8_rule_41 dX8_rule_43 dX8_rule_46 rfl inR_0
      · rw [if_neg c5] at h
        refine j_icmp_lt_f hx2 (stA_inR 0 x1) dX8_rule_25 (tgt := 37) (by decide) c5 ?_
        refine j_iload_n (j := 2) dX8_rule_28 rfl rfl ?_
        refine j_gets SFX8_61 dX8_rule_29 ?_
        refine j_iload_n (j := 1) dX8_rule_32 rfl rfl ?_
        obtain ⟨c6, h⟩ := chk_elim h
        refine j_sald (by decide) hx1 dX8_rule_33 c6 (stA_eq 1 x1) ?_
        by_cases c8 : x2 ≤ (stA 1 x1)
        · rw [if_pos c8] at h
          refine j_icmp_le_t hx2 (stA_inR 1 x1) dX8_rule_34 (tgt := 47) (by decide) c8 ?_
          refine j_aload_n (j := 0) dX8_rule_47 rfl rfl ?_
          refine j_getR (q := 64) FX8_22 rfl dX8_rule_48 (by decide) (by decide) rfl rfl (by decide) ?_
          refine j_aload_n (j := 0) dX8_rule_51 rfl rfl ?_
          refine j_getR (q := 2) FX8_10 rfl dX8_rule_52 (by decide) (by decide) rfl rfl (by decide) ?_
          obtain ⟨p10, e9, h⟩ := obind_elim h
          refine j_callV MX8_66 YX1_add IX1_add SX1_add (by decide) rfl (by decide) (by omega) (Nat.le_of_ble_eq_true rfl) rfl (ctX1_add (d := d - 1) hl (by omega) (VK_c 5 2 rfl) e9) dX8_rule_55 (VK_c 1 64 rfl).1 (VK_c 1 64 rfl).lt (VK_c 1 64 rfl).ka rfl (fun z11 xt12 => ?_)
          refine j_aload_n (j := 0) dX8_rule_58 rfl rfl ?_
          refine j_getR (q := 2) FX8_10 rfl dX8_rule_59 (by decide) (by decide) rfl rfl (by decide) ?_
          refine j_getR (q := (2 + 1)) FX8_70 rfl dX8_rule_62 (VK_c 5 2 rfl).1 (VK_c 5 2 rfl).2.1 (VK_c 5 2 rfl).2.2 (lay5 (VK_c 5 2 rfl) (by decide)) (by omega) ?_
          refine j_iload_n (j := 1) dX8_rule_65 rfl rfl ?_
          obtain ⟨c13, h⟩ := chk_elim h
          refine j_iald hx1 (by decide) (by decide) rfl dX8_rule_66 (VK.f1 (VK_c 5 2 rfl)).1 (VK.f1 (VK_c 5 2 rfl)).lt (VK.f1 (VK_c 5 2 rfl)).ka c13 (fun r14 => ?_)
          obtain ⟨u15, eu15, h⟩ := bnd_elim h
          have hu15 : inR u15 := by rw [eu15]; exact r14
          refine j_nm eu15 ?_
          refine j_istore_n (lv' := [(3, vI u15), (0, .ref (gB g + 1)), (1, vI x1), (2, vI x2)]) dX8_rule_67 rfl (by decide) (by first | rfl | (simp only [List.all_cons, List.all_nil, rv_cat]; rfl)) rfl ?_
          refine j_aload_n (j := 1) dX8_rule_68 rfl rfl ?_
          refine j_getR (q := 2) FX8_10 rfl dX8_rule_69 (by decide) (by decide) rfl rfl (by decide) ?_
          refine j_getR (q := (2 + 1)) FX8_70 rfl dX8_rule_72 (VK_c 5 2 rfl).1 (VK_c 5 2 rfl).2.1 (VK_c 5 2 rfl).2.2 (lay5 (VK_c 5 2 rfl) (by decide)) (by omega) ?_
          refine j_iload_n (j := 2) dX8_rule_75 rfl rfl ?_
          refine j_iload_n (j := 3) dX8_rule_76 rfl rfl ?_
          obtain ⟨c16, h⟩ := chk_elim h
          obtain ⟨A17, eA17, h⟩ := bnd_elim h
          have xA17 : XT p10 A17 := by rw [eA17]; exact XT_sI _ _ _ _
          refine j_iast hx1 hx2 (by decide) (by decide) rfl dX8_rule_77 (VK.f1 (VK_c 5 2 rfl)).1 (VK.f1 (VK_c 5 2 rfl)).lt (VK.f1 (VK_c 5 2 rfl)).ka c16 ?_
          refine j_hB eA17 ?_
          refine j_iload_n (j := 0) dX8_rule_78 rfl rfl ?_
          cases h
          exact j_iret dX8_rule_79 rfl rfl rfl hu15
        · rw [if_neg c8] at h
          refine j_icmp_le_f hx2 (stA_inR 1 x1) dX8_rule_34 (tgt := 47) (by decide) c8 ?_
          cases h
          exact j_throw (k := 1) TX8_51_64_55 (by decide) rfl (by omega) dX8_rule_37 dX8_rule_40 dX8_rule_41 dX8_rule_43 dX8_rule_46 rfl inR_0
    · rw [if_neg c2] at h
      refine j_icmp_lt_f hx1 (inR_lit _ rfl) dX8_rule_6 (tgt := 19) (by decide) c2 ?_
      cases h
      exact j_throw (k := 1) TX8_51_53_55 (by decide) rfl (by omega) dX8_rule_9 dX8_rule_12 dX8_rule_13 dX8_rule_15 dX8_rule_18 rfl inR_0
theorem ctX8_rule {g : JG} {l : Launch} {d N : Nat} {A : AH} {out : Nat × Int × AH} {x1 : Int} {x2 : Int} (hl : l.stackTraces = false) (hd : 7 ≤ d) (hx1 : inR x1) (hx2 : inR x2) (h : fX8_rule N A x1 x2 = some out) : CT g l yX8_rule cX8_rule 4 (some .int) d [.ref (gB g + 1), vI x1, vI x2] A ((out.1, jv out.1 out.2.1, out.2.2) : JO) (inR out.2.1) :=
  CT_of (by decide +kernel) hl (by first | exact Nat.le_of_ble_eq_true rfl | (unfold rv; split <;> exact Nat.le_of_ble_eq_true rfl)) (by first | rfl | (unfold rv; split <;> rfl)) (j_sub (lv := [(0, .ref (gB g + 1)), (1, vI x1), (2, vI x2)]) [0, 1, 2] rfl (tX8_rule_0 hl hd hx1 hx2 h))
set_option maxRecDepth 100000 in
theorem tX8_tide_0 {g : JG} {l : Launch} {d N n0 s0 : Nat} {out : Nat × Int × AH} {A : AH} {x1 : Int} {x2 : Int} (hl : l.stackTraces = false) (hd : 7 ≤ d) (hx1 : inR x1) (hx2 : inR x2) (h : fX8_tide N A x1 x2 = some out) : J g l d RX8 "tide" cX8_tide 4 (some .int) n0 s0 ((out.1, jv out.1 out.2.1, out.2.2) : JO) (inR out.2.1) 0 [(0, .ref (gB g + 1)), (1, vI x1), (2, vI x2)] [] A := by
  unfold fX8_tide at h
  refine j_iload_n (j := 1) dX8_tide_0 rfl rfl ?_
  by_cases c1 : x1 < 0
  · rw [if_pos c1] at h
    refine j_if_lt_t hx1 dX8_tide_1 (tgt := 10) (by decide) c1 ?_
    cases h
    exact j_throw (k := 1) TX8_51_73_55 (by decide) rfl (by omega) dX8_tide_10 dX8_tide_13 dX8_tide_14 dX8_tide_16 dX8_tide_19 rfl inR_0
  · rw [if_neg c1] at h
    refine j_if_lt_f hx1 dX8_tide_1 (tgt := 10) (by decide) c1 ?_
    refine j_iload_n (j := 1) dX8_tide_4 rfl rfl ?_
    refine j_bipush dX8_tide_5 rfl ?_
    by_cases c2 : x1 < 12
    · rw [if_pos c2] at h
      refine j_icmp_lt_t hx1 (inR_lit _ rfl) dX8_tide_7 (tgt := 20) (by decide) c2 ?_
      refine j_iload_n (j := 2) dX8_tide_20 rfl rfl ?_
      by_cases c3 : x2 < 0
      · rw [if_pos c3] at h
        refine j_if_lt_t hx2 dX8_tide_21 (tgt := 30) (by decide) c3 ?_
        cases h
        exact j_throw (k := 1) TX8_51_75_55 (by decide) rfl (by omega) dX8_tide_30 dX8_tide_33 dX8_tide_34 dX8_tide_36 dX8_tide_39 rfl inR_0
      · rw [if_neg c3] at h
        refine j_if_lt_f hx2 dX8_tide_21 (tgt := 30) (by decide) c3 ?_
        refine j_iload_n (j := 2) dX8_tide_24 rfl rfl ?_
        refine j_bipush dX8_tide_25 rfl ?_
        by_cases c4 : x2 ≤ 9
        · rw [if_pos c4] at h
          refine j_icmp_le_t hx2 (inR_lit _ rfl) dX8_tide_27 (tgt := 40) (by decide) c4 ?_
          refine j_aload_n (j := 0) dX8_tide_40 rfl rfl ?_
          refine j_getR (q := 64) FX8_22 rfl dX8_tide_41 (by decide) (by decide) rfl rfl (by decide) ?_
          refine j_aload_n (j := 0) dX8_tide_44 rfl rfl ?_
          refine j_getR (q := 2) FX8_10 rfl dX8_tide_45 (by decide) (by decide) rfl rfl (by decide) ?_
          obtain ⟨p6, e5, h⟩ := obind_elim h
          refine j_callV MX8_66 YX1_add IX1_add SX1_add (by decide) rfl (by decide) (by omega) (Nat.le_of_ble_eq_true rfl) rfl (ctX1_add (d := d - 1) hl (by omega) (VK_c 5 2 rfl) e5) dX8_tide_48 (VK_c 1 64 rfl).1 (VK_c 1 64 rfl).lt (VK_c 1 64 rfl).ka rfl (fun z7 xt8 => ?_)
          refine j_aload_n (j := 0) dX8_tide_51 rfl rfl ?_
          refine j_getR (q := 2) FX8_10 rfl dX8_tide_52 (by decide) (by decide) rfl rfl (by decide) ?_
          refine j_getR (q := (2 + 2)) FX8_77 rfl dX8_tide_55 (VK_c 5 2 rfl).1 (VK_c 5 2 rfl).2.1 (VK_c 5 2 rfl).2.2 (lay5 (VK_c 5 2 rfl) (by decide)) (by omega) ?_
          refine j_iload_n (j := 1) dX8_tide_58 rfl rfl ?_
          obtain ⟨c9, h⟩ := chk_elim h
          refine j_iald hx1 (by decide) (by decide) rfl dX8_tide_59 (VK.f2 (VK_c 5 2 rfl)).1 (VK.f2 (VK_c 5 2 rfl)).lt (VK.f2 (VK_c 5 2 rfl)).ka c9 (fun r10 => ?_)
          obtain ⟨u11, eu11, h⟩ := bnd_elim h
          have hu11 : inR u11 := by rw [eu11]; exact r10
          refine j_nm eu11 ?_
          refine j_istore_n (lv' := [(3, vI u11), (0, .ref (gB g + 1)), (1, vI x1), (2, vI x2)]) dX8_tide_60 rfl (by decide) (by first | rfl | (simp only [List.all_cons, List.all_nil, rv_cat]; rfl)) rfl ?_
          refine j_aload_n (j := 1) dX8_tide_61 rfl rfl ?_
          refine j_getR (q := 2) FX8_10 rfl dX8_tide_62 (by decide) (by decide) rfl rfl (by decide) ?_
          refine j_getR (q := (2 + 2)) FX8_77 rfl dX8_tide_65 (VK_c 5 2 rfl).1 (VK_c 5 2 rfl).2.1 (VK_c 5 2 rfl).2.2 (lay5 (VK_c 5 2 rfl) (by decide)) (by omega) ?_
          refine j_iload_n (j := 2) dX8_tide_68 rfl rfl ?_
          refine j_iload_n (j := 3) dX8_tide_69 rfl rfl ?_
          obtain ⟨c12, h⟩ := chk_elim h
          obtain ⟨A13, eA13, h⟩ := bnd_elim h
          have xA13 : XT p6 A13 := by rw [eA13]; exact XT_sI _ _ _ _
          refine j_iast hx1 hx2 (by decide) (by decide) rfl dX8_tide_70 (VK.f2 (VK_c 5 2 rfl)).1 (VK.f2 (VK_c 5 2 rfl)).lt (VK.f2 (VK_c 5 2 rfl)).ka c12 ?_
          refine j_hB eA13 ?_
          refine j_iload_n (j := 0) dX8_tide_71 rfl rfl ?_
          cases h
          exact j_iret dX8_tide_72 rfl rfl rfl hu11
        · rw [if_neg c4] at h
          refine j_icmp_le_f hx2 (inR_lit _ rfl) dX8_tide_27 (tgt := 40) (by decide) c4 ?_
          cases h
          exact j_throw (k := 1) TX8_51_75_55 (by decide) rfl (by omega) dX8_tide_30 dX8_tide_33 dX8_tide_34 dX8_tide_36 dX8_tide_39 rfl inR_0
    · rw [if_neg c2] at h
      refine j_icmp_lt_f hx1 (inR_lit _ rfl) dX8_tide_7 (tgt := 20) (by decide) c2 ?_
      cases h
      exact j_throw (k := 1) TX8_51_73_55 (by decide) rfl (by omega) dX8_tide_10 dX8_tide_13 dX8_tide_14 dX8_tide_16 dX8_tide_19 rfl inR_0
theorem ctX8_tide {g : JG} {l : Launch} {d N : Nat} {A : AH} {out : Nat × Int × AH} {x1 : Int} {x2 : Int} (hl : l.stackTraces = false) (hd : 7 ≤ d) (hx1 : inR x1) (hx2 : inR x2) (h : fX8_tide N A x1 x2 = some out) : CT g l yX8_tide cX8_tide 4 (some .int) d [.ref (gB g + 1), vI x1, vI x2] A ((out.1, jv out.1 out.2.1, out.2.2) : JO) (inR out.2.1) :=
  CT_of (by decide +kernel) hl (by first | exact Nat.le_of_ble_eq_true rfl | (unfold rv; split <;> exact Nat.le_of_ble_eq_true rfl)) (by first | rfl | (unfold rv; split <;> rfl)) (j_sub (lv := [(0, .ref (gB g + 1)), (1, vI x1), (2, vI x2)]) [0, 1, 2] rfl (tX8_tide_0 hl hd hx1 hx2 h))
set_option maxRecDepth 100000 in
theorem tX8_requireHour_0 {g : JG} {l : Launch} {d N n0 s0 : Nat} {out : Nat × AH} {A : AH} {x0 : Int} (hl : l.stackTraces = false) (hd : 7 ≤ d) (hx0 : inR x0) (h : fX8_requireHour N A x0 = some out) : J g l d RX8 "requireHour" cX8_requireHour 1 none n0 s0 ((out.1, none, out.2) : JO) (True) 0 [(0, vI x0)] [] A := by
  unfold fX8_requireHour at h
  refine j_iload_n (j := 0) dX8_requireHour_0 rfl rfl ?_
  by_cases c1 : x0 < 0
  · rw [if_pos c1] at h
    refine j_if_lt_t hx0 dX8_requireHour_1 (tgt := 11) (by decide) c1 ?_
    cases h
    exact j_throwW (k := 3) TX8_202_477_206 (by decide) rfl (by omega) dX8_requireHour_11 dX8_requireHour_14 dX8_requireHour_15 dX8_requireHour_18 dX8_requireHour_21 rfl trivial
  · rw [if_neg c1] at h
    refine j_if_lt_f hx0 dX8_requireHour_1 (tgt := 11) (by decide) c1 ?_
    refine j_iload_n (j := 0) dX8_requireHour_4 rfl rfl ?_
    refine j_sipush dX8_requireHour_5 rfl ?_
    by_cases c2 : x0 < 1000
    · rw [if_pos c2] at h
      refine j_icmp_lt_t hx0 (inR_lit _ rfl) dX8_requireHour_8 (tgt := 22) (by decide) c2 ?_
      cases h
      exact j_vret dX8_requireHour_22 rfl rfl trivial
    · rw [if_neg c2] at h
      refine j_icmp_lt_f hx0 (inR_lit _ rfl) dX8_requireHour_8 (tgt := 22) (by decide) c2 ?_
      cases h
      exact j_throwW (k := 3) TX8_202_477_206 (by decide) rfl (by omega) dX8_requireHour_11 dX8_requireHour_14 dX8_requireHour_15 dX8_requireHour_18 dX8_requireHour_21 rfl trivial
theorem ctX8_requireHour {g : JG} {l : Launch} {d N : Nat} {A : AH} {out : Nat × AH} {x0 : Int} (hl : l.stackTraces = false) (hd : 7 ≤ d) (hx0 : inR x0) (h : fX8_requireHour N A x0 = some out) : CT g l yX8_requireHour cX8_requireHour 1 none d [vI x0] A ((out.1, none, out.2) : JO) (True) :=
  CT_of (by decide +kernel) hl (by first | exact Nat.le_of_ble_eq_true rfl | (unfold rv; split <;> exact Nat.le_of_ble_eq_true rfl)) (by first | rfl | (unfold rv; split <;> rfl)) (j_sub (lv := [(0, vI x0)]) [0] rfl (tX8_requireHour_0 hl hd hx0 h))
set_option maxRecDepth 100000 in
theorem tX8_depth_0 {g : JG} {l : Launch} {d N n0 s0 : Nat} {out : Nat × Int × AH} {A : AH} {x1 : Int} (hl : l.stackTraces = false) (hd : 8 ≤ d) (hx1 : inR x1) (h : fX8_depth N A x1 = some out) : J g l d RX8 "depth" cX8_depth 2 (some .int) n0 s0 ((out.1, jv out.1 out.2.1, out.2.2) : JO) (inR out.2.1) 0 [(0, .ref (gB g + 1)), (1, vI x1)] [] A := by
  unfold fX8_depth at h
  refine j_iload_n (j := 1) dX8_depth_0 rfl rfl ?_
  obtain ⟨p2, e1, h⟩ := obind_elim h
  have t6 := ctX8_requireHour (d := d - 1) hl (by omega) hx1 e1 (g := g)
  by_cases c5 : p2.1 = 0
  rotate_left
  · rw [if_neg c5] at h
    cases h
    exact j_callSx MX8_80 YX8_requireHour IX8_requireHour (by decide) (by omega) (Nat.le_of_ble_eq_true rfl) rfl t6 dX8_depth_1 rfl c5 rfl inR_0
  rw [if_pos c5] at h
  rw [c5] at t6
  refine j_callS MX8_80 YX8_requireHour IX8_requireHour (by decide) (by omega) (Nat.le_of_ble_eq_true rfl) rfl t6 dX8_depth_1 rfl (fun z3 xt4 => ?_)
  refine j_aload_n (j := 0) dX8_depth_4 rfl rfl ?_
  refine j_getR (q := 2) FX8_10 rfl dX8_depth_5 (by decide) (by decide) rfl rfl (by decide) ?_
  refine j_iload_n (j := 1) dX8_depth_8 rfl rfl ?_
  obtain ⟨z8, e7, h⟩ := obind_elim h
  refine j_callV MX8_84 YX5_depthAt IX5_depthAt SX5_depthAt (by decide) rfl (by decide) (by omega) (Nat.le_of_ble_eq_true rfl) rfl (ctX5_depthAt (d := d - 1) hl (by omega) (VK_c 5 2 rfl) hx1 e7) dX8_depth_9 (VK_c 5 2 rfl).1 (VK_c 5 2 rfl).lt (VK_c 5 2 rfl).ka rfl (fun z9 _ => ?_)
  cases h
  exact j_iret dX8_depth_12 rfl rfl rfl z9
theorem ctX8_depth {g : JG} {l : Launch} {d N : Nat} {A : AH} {out : Nat × Int × AH} {x1 : Int} (hl : l.stackTraces = false) (hd : 8 ≤ d) (hx1 : inR x1) (h : fX8_depth N A x1 = some out) : CT g l yX8_depth cX8_depth 2 (some .int) d [.ref (gB g + 1), vI x1] A ((out.1, jv out.1 out.2.1, out.2.2) : JO) (inR out.2.1) :=
  CT_of (by decide +kernel) hl (by first | exact Nat.le_of_ble_eq_true rfl | (unfold rv; split <;> exact Nat.le_of_ble_eq_true rfl)) (by first | rfl | (unfold rv; split <;> rfl)) (j_sub (lv := [(0, .ref (gB g + 1)), (1, vI x1)]) [0, 1] rfl (tX8_depth_0 hl hd hx1 h))
set_option maxRecDepth 100000 in
theorem tX8_addPilot_0 {g : JG} {l : Launch} {d N n0 s0 : Nat} {out : Nat × Int × AH} {A : AH} {x1 : Int} (hl : l.stackTraces = false) (hd : 7 ≤ d) (hx1 : inR x1) (h : fX8_addPilot N A x1 = some out) : J g l d RX8 "addPilot" cX8_addPilot 2 (some .int) n0 s0 ((out.1, jv out.1 out.2.1, out.2.2) : JO) (inR out.2.1) 0 [(0, .ref (gB g + 1)), (1, vI x1)] [] A := by
  unfold fX8_addPilot at h
  refine j_iload_n (j := 1) dX8_addPilot_0 rfl rfl ?_
  refine j_iconst dX8_addPilot_1 ?_
  by_cases c1 : x1 < 1
  · rw [if_pos c1] at h
    refine j_icmp_lt_t hx1 (inR_lit _ rfl) dX8_addPilot_2 (tgt := 10) (by decide) c1 ?_
    cases h
    exact j_throw (k := 1) TX8_51_88_55 (by decide) rfl (by omega) dX8_addPilot_10 dX8_addPilot_13 dX8_addPilot_14 dX8_addPilot_16 dX8_addPilot_19 rfl inR_0
  · rw [if_neg c1] at h
    refine j_icmp_lt_f hx1 (inR_lit _ rfl) dX8_addPilot_2 (tgt := 10) (by decide) c1 ?_
    refine j_iload_n (j := 1) dX8_addPilot_5 rfl rfl ?_
    refine j_iconst dX8_addPilot_6 ?_
    by_cases c2 : x1 ≤ 4
    · rw [if_pos c2] at h
      refine j_icmp_le_t hx1 (inR_lit _ rfl) dX8_addPilot_7 (tgt := 20) (by decide) c2 ?_
      refine j_aload_n (j := 0) dX8_addPilot_20 rfl rfl ?_
      refine j_getR (q := 2) FX8_10 rfl dX8_addPilot_21 (by decide) (by decide) rfl rfl (by decide) ?_
      refine j_getI FX8_90 rfl dX8_addPilot_24 (VK_c 5 2 rfl).1 (VK_c 5 2 rfl).lt (VK_c 5 2 rfl).ka (fun r3 => ?_)
      refine j_bipush dX8_addPilot_27 rfl ?_
      by_cases c4 : (gI A 2 7) < 6
      · rw [if_pos c4] at h
        refine j_icmp_lt_t r3 (inR_lit _ rfl) dX8_addPilot_29 (tgt := 42) (by decide) c4 ?_
        refine j_aload_n (j := 0) dX8_addPilot_42 rfl rfl ?_
        refine j_getR (q := 64) FX8_22 rfl dX8_addPilot_43 (by decide) (by decide) rfl rfl (by decide) ?_
        refine j_aload_n (j := 0) dX8_addPilot_46 rfl rfl ?_
        refine j_getR (q := 2) FX8_10 rfl dX8_addPilot_47 (by decide) (by decide) rfl rfl (by decide) ?_
        obtain ⟨p6, e5, h⟩ := obind_elim h
        refine j_callV MX8_66 YX1_add IX1_add SX1_add (by decide) rfl (by decide) (by omega) (Nat.le_of_ble_eq_true rfl) rfl (ctX1_add (d := d - 1) hl (by omega) (VK_c 5 2 rfl) e5) dX8_addPilot_50 (VK_c 1 64 rfl).1 (VK_c 1 64 rfl).lt (VK_c 1 64 rfl).ka rfl (fun z7 xt8 => ?_)
        refine j_aload_n (j := 0) dX8_addPilot_53 rfl rfl ?_
        refine j_getR (q := 2) FX8_10 rfl dX8_addPilot_54 (by decide) (by decide) rfl rfl (by decide) ?_
        refine j_iload_n (j := 1) dX8_addPilot_57 rfl rfl ?_
        obtain ⟨p10, e9, h⟩ := obind_elim h
        refine j_callV MX8_98 YX5_makePilot IX5_makePilot SX5_makePilot (by decide) rfl (by decide) (by omega) (Nat.le_of_ble_eq_true rfl) rfl (ctX5_makePilot (d := d - 1) hl (by omega) (VK_c 5 2 rfl) hx1 e9) dX8_addPilot_58 (VK_c 5 2 rfl).1 (VK_c 5 2 rfl).lt (VK_c 5 2 rfl).ka rfl (fun z11 xt12 => ?_)
        cases h
        exact j_iret dX8_addPilot_61 rfl rfl rfl z11
      · rw [if_neg c4] at h
        refine j_icmp_lt_f r3 (inR_lit _ rfl) dX8_addPilot_29 (tgt := 42) (by decide) c4 ?_
        cases h
        exact j_throw (k := 2) TX8_93_95_97 (by decide) rfl (by omega) dX8_addPilot_32 dX8_addPilot_35 dX8_addPilot_36 dX8_addPilot_38 dX8_addPilot_41 rfl inR_0
    · rw [if_neg c2] at h
      refine j_icmp_le_f hx1 (inR_lit _ rfl) dX8_addPilot_7 (tgt := 20) (by decide) c2 ?_
      cases h
      exact j_throw (k := 1) TX8_51_88_55 (by decide) rfl (by omega) dX8_addPilot_10 dX8_addPilot_13 dX8_addPilot_14 dX8_addPilot_16 dX8_addPilot_19 rfl inR_0
theorem ctX8_addPilot {g : JG} {l : Launch} {d N : Nat} {A : AH} {out : Nat × Int × AH} {x1 : Int} (hl : l.stackTraces = false) (hd : 7 ≤ d) (hx1 : inR x1) (h : fX8_addPilot N A x1 = some out) : CT g l yX8_addPilot cX8_addPilot 2 (some .int) d [.ref (gB g + 1), vI x1] A ((out.1, jv out.1 out.2.1, out.2.2) : JO) (inR out.2.1) :=
  CT_of (by decide +kernel) hl (by first | exact Nat.le_of_ble_eq_true rfl | (unfold rv; split <;> exact Nat.le_of_ble_eq_true rfl)) (by first | rfl | (unfold rv; split <;> rfl)) (j_sub (lv := [(0, .ref (gB g + 1)), (1, vI x1)]) [0, 1] rfl (tX8_addPilot_0 hl hd hx1 h))
set_option maxRecDepth 100000 in
theorem tX8_addBoat_0 {g : JG} {l : Launch} {d N n0 s0 : Nat} {out : Nat × Int × AH} {A : AH} {x1 : Int} (hl : l.stackTraces = false) (hd : 7 ≤ d) (hx1 : inR x1) (h : fX8_addBoat N A x1 = some out) : J g l d RX8 "addBoat" cX8_addBoat 2 (some .int) n0 s0 ((out.1, jv out.1 out.2.1, out.2.2) : JO) (inR out.2.1) 0 [(0, .ref (gB g + 1)), (1, vI x1)] [] A := by
  unfold fX8_addBoat at h
  refine j_iload_n (j := 1) dX8_addBoat_0 rfl rfl ?_
  refine j_iconst dX8_addBoat_1 ?_
  by_cases c1 : x1 < 1
  · rw [if_pos c1] at h
    refine j_icmp_lt_t hx1 (inR_lit _ rfl) dX8_addBoat_2 (tgt := 10) (by decide) c1 ?_
    cases h
    exact j_throw (k := 1) TX8_51_101_55 (by decide) rfl (by omega) dX8_addBoat_10 dX8_addBoat_13 dX8_addBoat_14 dX8_addBoat_16 dX8_addBoat_19 rfl inR_0
  · rw [if_neg c1] at h
    refine j_icmp_lt_f hx1 (inR_lit _ rfl) dX8_addBoat_2 (tgt := 10) (by decide) c1 ?_
    refine j_iload_n (j := 1) dX8_addBoat_5 rfl rfl ?_
    refine j_iconst dX8_addBoat_6 ?_
    by_cases c2 : x1 ≤ 4
    · rw [if_pos c2] at h
      refine j_icmp_le_t hx1 (inR_lit _ rfl) dX8_addBoat_7 (tgt := 20) (by decide) c2 ?_
      refine j_aload_n (j := 0) dX8_addBoat_20 rfl rfl ?_
      refine j_getR (q := 2) FX8_10 rfl dX8_addBoat_21 (by decide) (by decide) rfl rfl (by decide) ?_
      refine j_getI FX8_103 rfl dX8_addBoat_24 (VK_c 5 2 rfl).1 (VK_c 5 2 rfl).lt (VK_c 5 2 rfl).ka (fun r3 => ?_)
      refine j_iconst dX8_addBoat_27 ?_
      by_cases c4 : (gI A 2 8) < 3
      · rw [if_pos c4] at h
        refine j_icmp_lt_t r3 (inR_lit _ rfl) dX8_addBoat_28 (tgt := 41) (by decide) c4 ?_
        refine j_aload_n (j := 0) dX8_addBoat_41 rfl rfl ?_
        refine j_getR (q := 64) FX8_22 rfl dX8_addBoat_42 (by decide) (by decide) rfl rfl (by decide) ?_
        refine j_aload_n (j := 0) dX8_addBoat_45 rfl rfl ?_
        refine j_getR (q := 2) FX8_10 rfl dX8_addBoat_46 (by decide) (by decide) rfl rfl (by decide) ?_
        obtain ⟨p6, e5, h⟩ := obind_elim h
        refine j_callV MX8_66 YX1_add IX1_add SX1_add (by decide) rfl (by decide) (by omega) (Nat.le_of_ble_eq_true rfl) rfl (ctX1_add (d := d - 1) hl (by omega) (VK_c 5 2 rfl) e5) dX8_addBoat_49 (VK_c 1 64 rfl).1 (VK_c 1 64 rfl).lt (VK_c 1 64 rfl).ka rfl (fun z7 xt8 => ?_)
        refine j_aload_n (j := 0) dX8_addBoat_52 rfl rfl ?_
        refine j_getR (q := 2) FX8_10 rfl dX8_addBoat_53 (by decide) (by decide) rfl rfl (by decide) ?_
        refine j_iload_n (j := 1) dX8_addBoat_56 rfl rfl ?_
        obtain ⟨p10, e9, h⟩ := obind_elim h
        refine j_callV MX8_108 YX5_makeBoat IX5_makeBoat SX5_makeBoat (by decide) rfl (by decide) (by omega) (Nat.le_of_ble_eq_true rfl) rfl (ctX5_makeBoat (d := d - 1) hl (by omega) (VK_c 5 2 rfl) hx1 e9) dX8_addBoat_57 (VK_c 5 2 rfl).1 (VK_c 5 2 rfl).lt (VK_c 5 2 rfl).ka rfl (fun z11 xt12 => ?_)
        cases h
        exact j_iret dX8_addBoat_60 rfl rfl rfl z11
      · rw [if_neg c4] at h
        refine j_icmp_lt_f r3 (inR_lit _ rfl) dX8_addBoat_28 (tgt := 41) (by decide) c4 ?_
        cases h
        exact j_throw (k := 2) TX8_93_106_97 (by decide) rfl (by omega) dX8_addBoat_31 dX8_addBoat_34 dX8_addBoat_35 dX8_addBoat_37 dX8_addBoat_40 rfl inR_0
    · rw [if_neg c2] at h
      refine j_icmp_le_f hx1 (inR_lit _ rfl) dX8_addBoat_7 (tgt := 20) (by decide) c2 ?_
      cases h
      exact j_throw (k := 1) TX8_51_101_55 (by decide) rfl (by omega) dX8_addBoat_10 dX8_addBoat_13 dX8_addBoat_14 dX8_addBoat_16 dX8_addBoat_19 rfl inR_0
theorem ctX8_addBoat {g : JG} {l : Launch} {d N : Nat} {A : AH} {out : Nat × Int × AH} {x1 : Int} (hl : l.stackTraces = false) (hd : 7 ≤ d) (hx1 : inR x1) (h : fX8_addBoat N A x1 = some out) : CT g l yX8_addBoat cX8_addBoat 2 (some .int) d [.ref (gB g + 1), vI x1] A ((out.1, jv out.1 out.2.1, out.2.2) : JO) (inR out.2.1) :=
  CT_of (by decide +kernel) hl (by first | exact Nat.le_of_ble_eq_true rfl | (unfold rv; split <;> exact Nat.le_of_ble_eq_true rfl)) (by first | rfl | (unfold rv; split <;> rfl)) (j_sub (lv := [(0, .ref (gB g + 1)), (1, vI x1)]) [0, 1] rfl (tX8_addBoat_0 hl hd hx1 h))
set_option maxRecDepth 100000 in
theorem tX8_order_73 {g : JG} {l : Launch} {d N n0 s0 : Nat} {out : Nat × Int × AH} {A : AH} {x3 : Int} {x4 : Int} {x5 : Int} {ys0 : Nat} {xs1 : Int} {xs2 : Int} (hl : l.stackTraces = false) (hd : 7 ≤ d) (hx3 : inR x3) (hx4 : inR x4) (hx5 : inR x5) (hys0 : VK 5 ys0) (hxs1 : inR xs1) (hxs2 : inR xs2) (h : fX8_order_73 N A x3 x4 x5 ys0 xs1 xs2 = some out) : J g l d RX8 "order" cX8_order 6 (some .int) n0 s0 ((out.1, jv out.1 out.2.1, out.2.2) : JO) (inR out.2.1) 73 [(3, vI x3), (4, vI x4), (5, vI x5)] [vI xs2, vI xs1, .ref (gB g + ys0)] A := by
  unfold fX8_order_73 at h
  refine j_iload_n (j := 0) dX8_order_73 rfl rfl ?_
  refine j_iload (j := 1) dX8_order_74 rfl ?_
  refine j_iload (j := 2) dX8_order_76 rfl ?_
  obtain ⟨p2, e1, h⟩ := obind_elim h
  refine j_callV MX8_122 YX5_makeOrder IX5_makeOrder SX5_makeOrder (by decide) rfl (by decide) (by omega) (Nat.le_of_ble_eq_true rfl) rfl (ctX5_makeOrder (d := d - 1) hl (by omega) hys0 hxs1 hxs2 hx3 hx4 hx5 e1) dX8_order_78 hys0.1 hys0.lt hys0.ka rfl (fun z3 xt4 => ?_)
  cases h
  exact j_iret dX8_order_81 rfl rfl rfl z3
set_option maxRecDepth 100000 in
theorem tX8_order_0 {g : JG} {l : Launch} {d N n0 s0 : Nat} {out : Nat × Int × AH} {A : AH} {x1 : Int} {x2 : Int} {x3 : Int} {x4 : Int} {x5 : Int} (hl : l.stackTraces = false) (hd : 7 ≤ d) (hx1 : inR x1) (hx2 : x2 = 0 ∨ x2 = 1) (hx3 : inR x3) (hx4 : inR x4) (hx5 : inR x5) (h : fX8_order N A x1 x2 x3 x4 x5 = some out) : J g l d RX8 "order" cX8_order 6 (some .int) n0 s0 ((out.1, jv out.1 out.2.1, out.2.2) : JO) (inR out.2.1) 0 [(0, .ref (gB g + 1)), (1, vI x1), (2, vI x2), (3, vI x3), (4, vI x4), (5, vI x5)] [] A := by
  unfold fX8_order at h
  refine j_aload_n (j := 0) dX8_order_0 rfl rfl ?_
  refine j_getR (q := 2) FX8_10 rfl dX8_order_1 (by decide) (by decide) rfl rfl (by decide) ?_
  refine j_iload_n (j := 1) dX8_order_4 rfl rfl ?_
  refine j_iload_n (j := 3) dX8_order_5 rfl rfl ?_
  refine j_iload (j := 4) dX8_order_6 rfl ?_
  refine j_iload (j := 5) dX8_order_8 rfl ?_
  obtain ⟨z2, e1, h⟩ := obind_elim h
  refine j_callV MX8_111 YX5_isOrder IX5_isOrder SX5_isOrder (by decide) rfl (by decide) (by omega) (Nat.le_of_ble_eq_true rfl) rfl (ctX5_isOrder (d := d - 1) hl (by omega) (VK_c 5 2 rfl) hx1 hx3 hx4 hx5 e1) dX8_order_10 (VK_c 5 2 rfl).1 (VK_c 5 2 rfl).lt (VK_c 5 2 rfl).ka rfl (fun z3 _ => ?_)
  by_cases c5 : z2 = 0
  · rw [if_pos c5] at h
    refine j_if_ne_f (bool_inR z3) dX8_order_13 (tgt := 26) (by decide) (fun q => q c5) ?_
    cases h
    exact j_throw (k := 1) TX8_51_115_55 (by decide) rfl (by omega) dX8_order_16 dX8_order_19 dX8_order_20 dX8_order_22 dX8_order_25 rfl inR_0
  · rw [if_neg c5] at h
    refine j_if_ne_t (bool_inR z3) dX8_order_13 (tgt := 26) (by decide) c5 ?_
    refine j_aload_n (j := 0) dX8_order_26 rfl rfl ?_
    refine j_getR (q := 2) FX8_10 rfl dX8_order_27 (by decide) (by decide) rfl rfl (by decide) ?_
    refine j_getI FX8_117 rfl dX8_order_30 (VK_c 5 2 rfl).1 (VK_c 5 2 rfl).lt (VK_c 5 2 rfl).ka (fun r6 => ?_)
    refine j_bipush dX8_order_33 rfl ?_
    by_cases c7 : (gI A 2 6) < 16
    · rw [if_pos c7] at h
      refine j_icmp_lt_t r6 (inR_lit _ rfl) dX8_order_35 (tgt := 48) (by decide) c7 ?_
      refine j_aload_n (j := 0) dX8_order_48 rfl rfl ?_
      refine j_getR (q := 64) FX8_22 rfl dX8_order_49 (by decide) (by decide) rfl rfl (by decide) ?_
      refine j_aload_n (j := 0) dX8_order_52 rfl rfl ?_
      refine j_getR (q := 2) FX8_10 rfl dX8_order_53 (by decide) (by decide) rfl rfl (by decide) ?_
      obtain ⟨p9, e8, h⟩ := obind_elim h
      refine j_callV MX8_66 YX1_add IX1_add SX1_add (by decide) rfl (by decide) (by omega) (Nat.le_of_ble_eq_true rfl) rfl (ctX1_add (d := d - 1) hl (by omega) (VK_c 5 2 rfl) e8) dX8_order_56 (VK_c 1 64 rfl).1 (VK_c 1 64 rfl).lt (VK_c 1 64 rfl).ka rfl (fun z10 xt11 => ?_)
      refine j_aload_n (j := 0) dX8_order_59 rfl rfl ?_
      refine j_getR (q := 2) FX8_10 rfl dX8_order_60 (by decide) (by decide) rfl rfl (by decide) ?_
      refine j_iload_n (j := 1) dX8_order_63 rfl rfl ?_
      refine j_iload_n (j := 2) dX8_order_64 rfl rfl ?_
      by_cases c12 : x2 = 0
      · rw [if_pos c12] at h
        refine j_if_eq_t (bool_inR hx2) dX8_order_65 (tgt := 72) (by decide) c12 ?_
        refine j_iconst dX8_order_72 ?_
        exact j_sub [3, 4, 5] rfl (tX8_order_73 hl (by omega) hx3 hx4 hx5 (VK_c 5 2 rfl) hx1 (inR_lit _ rfl)  h)
      · rw [if_neg c12] at h
        refine j_if_eq_f (bool_inR hx2) dX8_order_65 (tgt := 72) (by decide) c12 ?_
        refine j_iconst dX8_order_68 ?_
        refine j_goto (tgt := 73) dX8_order_69 (by decide) ?_
        exact j_sub [3, 4, 5] rfl (tX8_order_73 hl (by omega) hx3 hx4 hx5 (VK_c 5 2 rfl) hx1 (inR_lit _ rfl)  h)
    · rw [if_neg c7] at h
      refine j_icmp_lt_f r6 (inR_lit _ rfl) dX8_order_35 (tgt := 48) (by decide) c7 ?_
      cases h
      exact j_throw (k := 2) TX8_93_120_97 (by decide) rfl (by omega) dX8_order_38 dX8_order_41 dX8_order_42 dX8_order_44 dX8_order_47 rfl inR_0
theorem ctX8_order {g : JG} {l : Launch} {d N : Nat} {A : AH} {out : Nat × Int × AH} {x1 : Int} {x2 : Int} {x3 : Int} {x4 : Int} {x5 : Int} (hl : l.stackTraces = false) (hd : 7 ≤ d) (hx1 : inR x1) (hx2 : x2 = 0 ∨ x2 = 1) (hx3 : inR x3) (hx4 : inR x4) (hx5 : inR x5) (h : fX8_order N A x1 x2 x3 x4 x5 = some out) : CT g l yX8_order cX8_order 6 (some .int) d [.ref (gB g + 1), vI x1, vI x2, vI x3, vI x4, vI x5] A ((out.1, jv out.1 out.2.1, out.2.2) : JO) (inR out.2.1) :=
  CT_of (by decide +kernel) hl (by first | exact Nat.le_of_ble_eq_true rfl | (unfold rv; split <;> exact Nat.le_of_ble_eq_true rfl)) (by first | rfl | (unfold rv; split <;> rfl)) (j_sub (lv := [(0, .ref (gB g + 1)), (1, vI x1), (2, vI x2), (3, vI x3), (4, vI x4), (5, vI x5)]) [0, 1, 2, 3, 4, 5] rfl (tX8_order_0 hl hd hx1 hx2 hx3 hx4 hx5 h))
set_option maxRecDepth 100000 in
theorem tX8_requireOrder_0 {g : JG} {l : Launch} {d N n0 s0 : Nat} {out : Nat × AH} {A : AH} {x1 : Int} (hl : l.stackTraces = false) (hd : 7 ≤ d) (hx1 : inR x1) (h : fX8_requireOrder N A x1 = some out) : J g l d RX8 "requireOrder" cX8_requireOrder 2 none n0 s0 ((out.1, none, out.2) : JO) (True) 0 [(0, .ref (gB g + 1)), (1, vI x1)] [] A := by
  unfold fX8_requireOrder at h
  refine j_aload_n (j := 0) dX8_requireOrder_0 rfl rfl ?_
  refine j_getR (q := 2) FX8_10 rfl dX8_requireOrder_1 (by decide) (by decide) rfl rfl (by decide) ?_
  refine j_iload_n (j := 1) dX8_requireOrder_4 rfl rfl ?_
  obtain ⟨z2, e1, h⟩ := obind_elim h
  refine j_callV MX8_467 YX5_hasOrder IX5_hasOrder SX5_hasOrder (by decide) rfl (by decide) (by omega) (Nat.le_of_ble_eq_true rfl) rfl (ctX5_hasOrder (d := d - 1) hl (by omega) (VK_c 5 2 rfl) hx1 e1) dX8_requireOrder_5 (VK_c 5 2 rfl).1 (VK_c 5 2 rfl).lt (VK_c 5 2 rfl).ka rfl (fun z3 _ => ?_)
  by_cases c5 : z2 = 0
  · rw [if_pos c5] at h
    refine j_if_ne_f (bool_inR z3) dX8_requireOrder_8 (tgt := 22) (by decide) (fun q => q c5) ?_
    cases h
    exact j_throwW (k := 3) TX8_202_470_206 (by decide) rfl (by omega) dX8_requireOrder_11 dX8_requireOrder_14 dX8_requireOrder_15 dX8_requireOrder_18 dX8_requireOrder_21 rfl trivial
  · rw [if_neg c5] at h
    refine j_if_ne_t (bool_inR z3) dX8_requireOrder_8 (tgt := 22) (by decide) c5 ?_
    cases h
    exact j_vret dX8_requireOrder_22 rfl rfl trivial
theorem ctX8_requireOrder {g : JG} {l : Launch} {d N : Nat} {A : AH} {out : Nat × AH} {x1 : Int} (hl : l.stackTraces = false) (hd : 7 ≤ d) (hx1 : inR x1) (h : fX8_requireOrder N A x1 = some out) : CT g l yX8_requireOrder cX8_requireOrder 2 none d [.ref (gB g + 1), vI x1] A ((out.1, none, out.2) : JO) (True) :=
  CT_of (by decide +kernel) hl (by first | exact Nat.le_of_ble_eq_true rfl | (unfold rv; split <;> exact Nat.le_of_ble_eq_true rfl)) (by first | rfl | (unfold rv; split <;> rfl)) (j_sub (lv := [(0, .ref (gB g + 1)), (1, vI x1)]) [0, 1] rfl (tX8_requireOrder_0 hl hd hx1 h))
set_option maxRecDepth 100000 in
theorem tX8_orderOf_0 {g : JG} {l : Launch} {d N n0 s0 : Nat} {out : Nat × Int × AH} {A : AH} {x1 : Int} {x2 : Int} (hl : l.stackTraces = false) (hd : 8 ≤ d) (hx1 : inR x1) (hx2 : inR x2) (h : fX8_orderOf N A x1 x2 = some out) : J g l d RX8 "orderOf" cX8_orderOf 4 (some .int) n0 s0 ((out.1, jv out.1 out.2.1, out.2.2) : JO) (inR out.2.1) 0 [(0, .ref (gB g + 1)), (1, vI x1), (2, vI x2)] [] A := by
  unfold fX8_orderOf at h
  refine j_aload_n (j := 0) dX8_orderOf_0 rfl rfl ?_
  refine j_iload_n (j := 1) dX8_orderOf_1 rfl rfl ?_
  obtain ⟨p2, e1, h⟩ := obind_elim h
  have t6 := ctX8_requireOrder (d := d - 1) hl (by omega) hx1 e1 (g := g)
  by_cases c5 : p2.1 = 0
  rotate_left
  · rw [if_neg c5] at h
    cases h
    exact j_callVx MX8_126 YX8_requireOrder IX8_requireOrder SX8_requireOrder (by decide) rfl (by decide) (by omega) (Nat.le_of_ble_eq_true rfl) rfl t6 dX8_orderOf_2 (VK_c 8 1 rfl).1 (VK_c 8 1 rfl).lt (VK_c 8 1 rfl).ka rfl c5 rfl inR_0
  rw [if_pos c5] at h
  rw [c5] at t6
  refine j_callV MX8_126 YX8_requireOrder IX8_requireOrder SX8_requireOrder (by decide) rfl (by decide) (by omega) (Nat.le_of_ble_eq_true rfl) rfl t6 dX8_orderOf_2 (VK_c 8 1 rfl).1 (VK_c 8 1 rfl).lt (VK_c 8 1 rfl).ka rfl (fun z3 xt4 => ?_)
  refine j_aload_n (j := 0) dX8_orderOf_5 rfl rfl ?_
  refine j_getR (q := 2) FX8_10 rfl dX8_orderOf_6 (by decide) (by decide) rfl rfl (by decide) ?_
  refine j_getR (q := (2 + 3)) FX8_129 rfl dX8_orderOf_9 (VK_c 5 2 rfl).1 (VK_c 5 2 rfl).2.1 (VK_c 5 2 rfl).2.2 (lay5 (VK_c 5 2 rfl) (by decide)) (by omega) ?_
  refine j_iload_n (j := 1) dX8_orderOf_12 rfl rfl ?_
  obtain ⟨c7, h⟩ := chk_elim h
  have v8 : VK 3 (2 + 6 + x1.toNat) := (VK.o (VK_c 5 2 rfl) c7)
  refine j_aald (q := (2 + 6 + x1.toNat)) hx1 (by decide) (by decide) (by decide) (by decide) dX8_orderOf_13 (VK.f3 (VK_c 5 2 rfl)).1 (VK.f3 (VK_c 5 2 rfl)).2.1 (VK.f3 (VK_c 5 2 rfl)).2.2 c7 (lay13 (VK_c 5 2 rfl) c7) (by omega) ?_
  refine j_astore_n (lv' := [(3, .ref (gB g + (2 + 6 + x1.toNat))), (0, .ref (gB g + 1)), (1, vI x1), (2, vI x2)]) dX8_orderOf_14 rfl (by decide) (by first | rfl | (simp only [List.all_cons, List.all_nil, rv_cat]; rfl)) rfl ?_
  refine j_iload_n (j := 3) dX8_orderOf_15 rfl rfl ?_
  by_cases c9 : x2 = 0
  · rw [if_pos c9] at h
    refine j_table_in (tgt := 76) hx2 dX8_orderOf_16 (by omega) (by omega) (by rw [c9]; rfl) (by decide) ?_
    refine j_aload_n (j := 0) dX8_orderOf_76 rfl rfl ?_
    refine j_getI FX8_133 rfl dX8_orderOf_77 v8.1 v8.lt v8.ka (fun r10 => ?_)
    cases h
    exact j_iret dX8_orderOf_80 rfl rfl rfl r10
  · rw [if_neg c9] at h
    by_cases c11 : x2 = 1
    · rw [if_pos c11] at h
      refine j_table_in (tgt := 81) hx2 dX8_orderOf_16 (by omega) (by omega) (by rw [c11]; rfl) (by decide) ?_
      refine j_aload_n (j := 0) dX8_orderOf_81 rfl rfl ?_
      refine j_getI FX8_138 rfl dX8_orderOf_82 v8.1 v8.lt v8.ka (fun r12 => ?_)
      cases h
      exact j_iret dX8_orderOf_85 rfl rfl rfl r12
    · rw [if_neg c11] at h
      by_cases c13 : x2 = 2
      · rw [if_pos c13] at h
        refine j_table_in (tgt := 86) hx2 dX8_orderOf_16 (by omega) (by omega) (by rw [c13]; rfl) (by decide) ?_
        refine j_aload_n (j := 0) dX8_orderOf_86 rfl rfl ?_
        refine j_getI FX8_141 rfl dX8_orderOf_87 v8.1 v8.lt v8.ka (fun r14 => ?_)
        cases h
        exact j_iret dX8_orderOf_90 rfl rfl rfl r14
      · rw [if_neg c13] at h
        by_cases c15 : x2 = 3
        · rw [if_pos c15] at h
          refine j_table_in (tgt := 91) hx2 dX8_orderOf_16 (by omega) (by omega) (by rw [c15]; rfl) (by decide) ?_
          refine j_aload_n (j := 0) dX8_orderOf_91 rfl rfl ?_
          refine j_getI FX8_144 rfl dX8_orderOf_92 v8.1 v8.lt v8.ka (fun r16 => ?_)
          cases h
          exact j_iret dX8_orderOf_95 rfl rfl rfl r16
        · rw [if_neg c15] at h
          by_cases c17 : x2 = 4
          · rw [if_pos c17] at h
            refine j_table_in (tgt := 96) hx2 dX8_orderOf_16 (by omega) (by omega) (by rw [c17]; rfl) (by decide) ?_
            refine j_aload_n (j := 0) dX8_orderOf_96 rfl rfl ?_
            refine j_getI FX8_147 rfl dX8_orderOf_97 v8.1 v8.lt v8.ka (fun r18 => ?_)
            cases h
            exact j_iret dX8_orderOf_100 rfl rfl rfl r18
          · rw [if_neg c17] at h
            by_cases c19 : x2 = 5
            · rw [if_pos c19] at h
              refine j_table_in (tgt := 101) hx2 dX8_orderOf_16 (by omega) (by omega) (by rw [c19]; rfl) (by decide) ?_
              refine j_aload_n (j := 0) dX8_orderOf_101 rfl rfl ?_
              refine j_getI FX8_150 rfl dX8_orderOf_102 v8.1 v8.lt v8.ka (fun r20 => ?_)
              cases h
              exact j_iret dX8_orderOf_105 rfl rfl rfl r20
            · rw [if_neg c19] at h
              by_cases c21 : x2 = 6
              · rw [if_pos c21] at h
                refine j_table_in (tgt := 106) hx2 dX8_orderOf_16 (by omega) (by omega) (by rw [c21]; rfl) (by decide) ?_
                refine j_aload_n (j := 0) dX8_orderOf_106 rfl rfl ?_
                refine j_getI FX8_153 rfl dX8_orderOf_107 v8.1 v8.lt v8.ka (fun r22 => ?_)
                cases h
                exact j_iret dX8_orderOf_110 rfl rfl rfl r22
              · rw [if_neg c21] at h
                by_cases c23 : x2 = 7
                · rw [if_pos c23] at h
                  refine j_table_in (tgt := 111) hx2 dX8_orderOf_16 (by omega) (by omega) (by rw [c23]; rfl) (by decide) ?_
                  refine j_aload_n (j := 0) dX8_orderOf_111 rfl rfl ?_
                  refine j_getI FX8_156 rfl dX8_orderOf_112 v8.1 v8.lt v8.ka (fun r24 => ?_)
                  cases h
                  exact j_iret dX8_orderOf_115 rfl rfl rfl r24
                · rw [if_neg c23] at h
                  by_cases c25 : x2 = 8
                  · rw [if_pos c25] at h
                    refine j_table_in (tgt := 116) hx2 dX8_orderOf_16 (by omega) (by omega) (by rw [c25]; rfl) (by decide) ?_
                    refine j_aload_n (j := 0) dX8_orderOf_116 rfl rfl ?_
                    refine j_getI FX8_159 rfl dX8_orderOf_117 v8.1 v8.lt v8.ka (fun r26 => ?_)
                    cases h
                    exact j_iret dX8_orderOf_120 rfl rfl rfl r26
                  · rw [if_neg c25] at h
                    by_cases c27 : x2 = 9
                    · rw [if_pos c27] at h
                      refine j_table_in (tgt := 121) hx2 dX8_orderOf_16 (by omega) (by omega) (by rw [c27]; rfl) (by decide) ?_
                      refine j_aload_n (j := 0) dX8_orderOf_121 rfl rfl ?_
                      refine j_getI FX8_162 rfl dX8_orderOf_122 v8.1 v8.lt v8.ka (fun r28 => ?_)
                      cases h
                      exact j_iret dX8_orderOf_125 rfl rfl rfl r28
                    · rw [if_neg c27] at h
                      by_cases c29 : x2 = 10
                      · rw [if_pos c29] at h
                        refine j_table_in (tgt := 126) hx2 dX8_orderOf_16 (by omega) (by omega) (by rw [c29]; rfl) (by decide) ?_
                        refine j_aload_n (j := 1) dX8_orderOf_126 rfl rfl ?_
                        refine j_getR (q := 2) FX8_10 rfl dX8_orderOf_127 (by decide) (by decide) rfl rfl (by decide) ?_
                        refine j_aload_n (j := 0) dX8_orderOf_130 rfl rfl ?_
                        obtain ⟨z31, e30, h⟩ := obind_elim h
                        refine j_callV MX8_165 YX5_hoursOfWindow IX5_hoursOfWindow SX5_hoursOfWindow (by decide) rfl (by decide) (by omega) (Nat.le_of_ble_eq_true rfl) rfl (ctX5_hoursOfWindow (d := d - 1) hl (by omega) (VK_c 5 2 rfl) v8 e30) dX8_orderOf_131 (VK_c 5 2 rfl).1 (VK_c 5 2 rfl).lt (VK_c 5 2 rfl).ka rfl (fun z32 _ => ?_)
                        cases h
                        exact j_iret dX8_orderOf_134 rfl rfl rfl z32
                      · rw [if_neg c29] at h
                        refine j_table_out (tgt := 135) hx2 dX8_orderOf_16 (by omega) (by decide) ?_
                        cases h
                        exact j_throw (k := 1) TX8_51_169_55 (by decide) rfl (by omega) dX8_orderOf_135 dX8_orderOf_138 dX8_orderOf_139 dX8_orderOf_141 dX8_orderOf_144 rfl inR_0
theorem ctX8_orderOf {g : JG} {l : Launch} {d N : Nat} {A : AH} {out : Nat × Int × AH} {x1 : Int} {x2 : Int} (hl : l.stackTraces = false) (hd : 8 ≤ d) (hx1 : inR x1) (hx2 : inR x2) (h : fX8_orderOf N A x1 x2 = some out) : CT g l yX8_orderOf cX8_orderOf 4 (some .int) d [.ref (gB g + 1), vI x1, vI x2] A ((out.1, jv out.1 out.2.1, out.2.2) : JO) (inR out.2.1) :=
  CT_of (by decide +kernel) hl (by first | exact Nat.le_of_ble_eq_true rfl | (unfold rv; split <;> exact Nat.le_of_ble_eq_true rfl)) (by first | rfl | (unfold rv; split <;> rfl)) (j_sub (lv := [(0, .ref (gB g + 1)), (1, vI x1), (2, vI x2)]) [0, 1, 2] rfl (tX8_orderOf_0 hl hd hx1 hx2 h))
set_option maxRecDepth 100000 in
theorem tX8_window_0 {g : JG} {l : Launch} {d N n0 s0 : Nat} {out : Nat × Int × AH} {A : AH} {x1 : Int} {x2 : Int} (hl : l.stackTraces = false) (hd : 8 ≤ d) (hx1 : inR x1) (hx2 : inR x2) (h : fX8_window N A x1 x2 = some out) : J g l d RX8 "window" cX8_window 4 (some .int) n0 s0 ((out.1, jv out.1 out.2.1, out.2.2) : JO) (inR out.2.1) 0 [(0, .ref (gB g + 1)), (1, vI x1), (2, vI x2)] [] A := by
  unfold fX8_window at h
  refine j_aload_n (j := 0) dX8_window_0 rfl rfl ?_
  refine j_iload_n (j := 1) dX8_window_1 rfl rfl ?_
  obtain ⟨p2, e1, h⟩ := obind_elim h
  have t6 := ctX8_requireOrder (d := d - 1) hl (by omega) hx1 e1 (g := g)
  by_cases c5 : p2.1 = 0
  rotate_left
  · rw [if_neg c5] at h
    cases h
    exact j_callVx MX8_126 YX8_requireOrder IX8_requireOrder SX8_requireOrder (by decide) rfl (by decide) (by omega) (Nat.le_of_ble_eq_true rfl) rfl t6 dX8_window_2 (VK_c 8 1 rfl).1 (VK_c 8 1 rfl).lt (VK_c 8 1 rfl).ka rfl c5 rfl inR_0
  rw [if_pos c5] at h
  rw [c5] at t6
  refine j_callV MX8_126 YX8_requireOrder IX8_requireOrder SX8_requireOrder (by decide) rfl (by decide) (by omega) (Nat.le_of_ble_eq_true rfl) rfl t6 dX8_window_2 (VK_c 8 1 rfl).1 (VK_c 8 1 rfl).lt (VK_c 8 1 rfl).ka rfl (fun z3 xt4 => ?_)
  refine j_iload_n (j := 2) dX8_window_5 rfl rfl ?_
  obtain ⟨p8, e7, h⟩ := obind_elim h
  have t12 := ctX8_requireHour (d := d - 1) hl (by omega) hx2 e7 (g := g)
  by_cases c11 : p8.1 = 0
  rotate_left
  · rw [if_neg c11] at h
    cases h
    exact j_callSx MX8_80 YX8_requireHour IX8_requireHour (by decide) (by omega) (Nat.le_of_ble_eq_true rfl) rfl t12 dX8_window_6 rfl c11 rfl inR_0
  rw [if_pos c11] at h
  rw [c11] at t12
  refine j_callS MX8_80 YX8_requireHour IX8_requireHour (by decide) (by omega) (Nat.le_of_ble_eq_true rfl) rfl t12 dX8_window_6 rfl (fun z9 xt10 => ?_)
  refine j_aload_n (j := 0) dX8_window_9 rfl rfl ?_
  refine j_getR (q := 2) FX8_10 rfl dX8_window_10 (by decide) (by decide) rfl rfl (by decide) ?_
  refine j_aload_n (j := 0) dX8_window_13 rfl rfl ?_
  refine j_getR (q := 2) FX8_10 rfl dX8_window_14 (by decide) (by decide) rfl rfl (by decide) ?_
  refine j_getR (q := (2 + 3)) FX8_129 rfl dX8_window_17 (VK_c 5 2 rfl).1 (VK_c 5 2 rfl).2.1 (VK_c 5 2 rfl).2.2 (lay5 (VK_c 5 2 rfl) (by decide)) (by omega) ?_
  refine j_iload_n (j := 1) dX8_window_20 rfl rfl ?_
  obtain ⟨c13, h⟩ := chk_elim h
  have v14 : VK 3 (2 + 6 + x1.toNat) := (VK.o (VK_c 5 2 rfl) c13)
  refine j_aald (q := (2 + 6 + x1.toNat)) hx1 (by decide) (by decide) (by decide) (by decide) dX8_window_21 (VK.f3 (VK_c 5 2 rfl)).1 (VK.f3 (VK_c 5 2 rfl)).2.1 (VK.f3 (VK_c 5 2 rfl)).2.2 c13 (lay13 (VK_c 5 2 rfl) c13) (by omega) ?_
  refine j_iload_n (j := 2) dX8_window_22 rfl rfl ?_
  obtain ⟨z16, e15, h⟩ := obind_elim h
  refine j_callV MX8_171 YX5_firstOfWindow IX5_firstOfWindow SX5_firstOfWindow (by decide) rfl (by decide) (by omega) (Nat.le_of_ble_eq_true rfl) rfl (ctX5_firstOfWindow (d := d - 1) hl (by omega) (VK_c 5 2 rfl) v14 hx2 e15) dX8_window_23 (VK_c 5 2 rfl).1 (VK_c 5 2 rfl).lt (VK_c 5 2 rfl).ka rfl (fun z17 _ => ?_)
  refine j_istore_n (lv' := [(3, vI z16), (0, .ref (gB g + 1)), (1, vI x1), (2, vI x2)]) dX8_window_26 rfl (by decide) (by first | rfl | (simp only [List.all_cons, List.all_nil, rv_cat]; rfl)) rfl ?_
  refine j_iload_n (j := 0) dX8_window_27 rfl rfl ?_
  refine j_iconst dX8_window_28 ?_
  by_cases c19 : z16 = (-1)
  · rw [if_pos c19] at h
    refine j_icmp_ne_f z17 (inR_lit _ rfl) dX8_window_29 (tgt := 42) (by decide) (fun q => q c19) ?_
    cases h
    exact j_throw (k := 6) TX8_175_177_179 (by decide) rfl (by omega) dX8_window_32 dX8_window_35 dX8_window_36 dX8_window_38 dX8_window_41 rfl inR_0
  · rw [if_neg c19] at h
    refine j_icmp_ne_t z17 (inR_lit _ rfl) dX8_window_29 (tgt := 42) (by decide) c19 ?_
    refine j_iload_n (j := 0) dX8_window_42 rfl rfl ?_
    cases h
    exact j_iret dX8_window_43 rfl rfl rfl z17
theorem ctX8_window {g : JG} {l : Launch} {d N : Nat} {A : AH} {out : Nat × Int × AH} {x1 : Int} {x2 : Int} (hl : l.stackTraces = false) (hd : 8 ≤ d) (hx1 : inR x1) (hx2 : inR x2) (h : fX8_window N A x1 x2 = some out) : CT g l yX8_window cX8_window 4 (some .int) d [.ref (gB g + 1), vI x1, vI x2] A ((out.1, jv out.1 out.2.1, out.2.2) : JO) (inR out.2.1) :=
  CT_of (by decide +kernel) hl (by first | exact Nat.le_of_ble_eq_true rfl | (unfold rv; split <;> exact Nat.le_of_ble_eq_true rfl)) (by first | rfl | (unfold rv; split <;> rfl)) (j_sub (lv := [(0, .ref (gB g + 1)), (1, vI x1), (2, vI x2)]) [0, 1, 2] rfl (tX8_window_0 hl hd hx1 hx2 h))
set_option maxRecDepth 100000 in
theorem tX8_requirePilot_0 {g : JG} {l : Launch} {d N n0 s0 : Nat} {out : Nat × AH} {A : AH} {x1 : Int} (hl : l.stackTraces = false) (hd : 7 ≤ d) (hx1 : inR x1) (h : fX8_requirePilot N A x1 = some out) : J g l d RX8 "requirePilot" cX8_requirePilot 2 none n0 s0 ((out.1, none, out.2) : JO) (True) 0 [(0, .ref (gB g + 1)), (1, vI x1)] [] A := by
  unfold fX8_requirePilot at h
  refine j_aload_n (j := 0) dX8_requirePilot_0 rfl rfl ?_
  refine j_getR (q := 2) FX8_10 rfl dX8_requirePilot_1 (by decide) (by decide) rfl rfl (by decide) ?_
  refine j_iload_n (j := 1) dX8_requirePilot_4 rfl rfl ?_
  obtain ⟨z2, e1, h⟩ := obind_elim h
  refine j_callV MX8_472 YX5_hasPilot IX5_hasPilot SX5_hasPilot (by decide) rfl (by decide) (by omega) (Nat.le_of_ble_eq_true rfl) rfl (ctX5_hasPilot (d := d - 1) hl (by omega) (VK_c 5 2 rfl) hx1 e1) dX8_requirePilot_5 (VK_c 5 2 rfl).1 (VK_c 5 2 rfl).lt (VK_c 5 2 rfl).ka rfl (fun z3 _ => ?_)
  by_cases c5 : z2 = 0
  · rw [if_pos c5] at h
    refine j_if_ne_f (bool_inR z3) dX8_requirePilot_8 (tgt := 22) (by decide) (fun q => q c5) ?_
    cases h
    exact j_throwW (k := 3) TX8_202_475_206 (by decide) rfl (by omega) dX8_requirePilot_11 dX8_requirePilot_14 dX8_requirePilot_15 dX8_requirePilot_18 dX8_requirePilot_21 rfl trivial
  · rw [if_neg c5] at h
    refine j_if_ne_t (bool_inR z3) dX8_requirePilot_8 (tgt := 22) (by decide) c5 ?_
    cases h
    exact j_vret dX8_requirePilot_22 rfl rfl trivial
theorem ctX8_requirePilot {g : JG} {l : Launch} {d N : Nat} {A : AH} {out : Nat × AH} {x1 : Int} (hl : l.stackTraces = false) (hd : 7 ≤ d) (hx1 : inR x1) (h : fX8_requirePilot N A x1 = some out) : CT g l yX8_requirePilot cX8_requirePilot 2 none d [.ref (gB g + 1), vI x1] A ((out.1, none, out.2) : JO) (True) :=
  CT_of (by decide +kernel) hl (by first | exact Nat.le_of_ble_eq_true rfl | (unfold rv; split <;> exact Nat.le_of_ble_eq_true rfl)) (by first | rfl | (unfold rv; split <;> rfl)) (j_sub (lv := [(0, .ref (gB g + 1)), (1, vI x1)]) [0, 1] rfl (tX8_requirePilot_0 hl hd hx1 h))
set_option maxRecDepth 100000 in
theorem tX8_hinders_0 {g : JG} {l : Launch} {d N n0 s0 : Nat} {out : Nat × Int × AH} {A : AH} {x1 : Int} {x2 : Int} {x3 : Int} (hl : l.stackTraces = false) (hd : 8 ≤ d) (hx1 : inR x1) (hx2 : inR x2) (hx3 : inR x3) (h : fX8_hinders N A x1 x2 x3 = some out) : J g l d RX8 "hinders" cX8_hinders 4 (some .int) n0 s0 ((out.1, jv out.1 out.2.1, out.2.2) : JO) (inR out.2.1) 0 [(0, .ref (gB g + 1)), (1, vI x1), (2, vI x2), (3, vI x3)] [] A := by
  unfold fX8_hinders at h
  refine j_aload_n (j := 0) dX8_hinders_0 rfl rfl ?_
  refine j_iload_n (j := 1) dX8_hinders_1 rfl rfl ?_
  obtain ⟨p2, e1, h⟩ := obind_elim h
  have t6 := ctX8_requireOrder (d := d - 1) hl (by omega) hx1 e1 (g := g)
  by_cases c5 : p2.1 = 0
  rotate_left
  · rw [if_neg c5] at h
    cases h
    exact j_callVx MX8_126 YX8_requireOrder IX8_requireOrder SX8_requireOrder (by decide) rfl (by decide) (by omega) (Nat.le_of_ble_eq_true rfl) rfl t6 dX8_hinders_2 (VK_c 8 1 rfl).1 (VK_c 8 1 rfl).lt (VK_c 8 1 rfl).ka rfl c5 rfl inR_0
  rw [if_pos c5] at h
  rw [c5] at t6
  refine j_callV MX8_126 YX8_requireOrder IX8_requireOrder SX8_requireOrder (by decide) rfl (by decide) (by omega) (Nat.le_of_ble_eq_true rfl) rfl t6 dX8_hinders_2 (VK_c 8 1 rfl).1 (VK_c 8 1 rfl).lt (VK_c 8 1 rfl).ka rfl (fun z3 xt4 => ?_)
  refine j_aload_n (j := 0) dX8_hinders_5 rfl rfl ?_
  refine j_iload_n (j := 2) dX8_hinders_6 rfl rfl ?_
  obtain ⟨p8, e7, h⟩ := obind_elim h
  have t12 := ctX8_requirePilot (d := d - 1) hl (by omega) hx2 e7 (g := g)
  by_cases c11 : p8.1 = 0
  rotate_left
  · rw [if_neg c11] at h
    cases h
    exact j_callVx MX8_180 YX8_requirePilot IX8_requirePilot SX8_requirePilot (by decide) rfl (by decide) (by omega) (Nat.le_of_ble_eq_true rfl) rfl t12 dX8_hinders_7 (VK_c 8 1 rfl).1 (VK_c 8 1 rfl).lt (VK_c 8 1 rfl).ka rfl c11 rfl inR_0
  rw [if_pos c11] at h
  rw [c11] at t12
  refine j_callV MX8_180 YX8_requirePilot IX8_requirePilot SX8_requirePilot (by decide) rfl (by decide) (by omega) (Nat.le_of_ble_eq_true rfl) rfl t12 dX8_hinders_7 (VK_c 8 1 rfl).1 (VK_c 8 1 rfl).lt (VK_c 8 1 rfl).ka rfl (fun z9 xt10 => ?_)
  refine j_iload_n (j := 3) dX8_hinders_10 rfl rfl ?_
  obtain ⟨p14, e13, h⟩ := obind_elim h
  have t18 := ctX8_requireHour (d := d - 1) hl (by omega) hx3 e13 (g := g)
  by_cases c17 : p14.1 = 0
  rotate_left
  · rw [if_neg c17] at h
    cases h
    exact j_callSx MX8_80 YX8_requireHour IX8_requireHour (by decide) (by omega) (Nat.le_of_ble_eq_true rfl) rfl t18 dX8_hinders_11 rfl c17 rfl inR_0
  rw [if_pos c17] at h
  rw [c17] at t18
  refine j_callS MX8_80 YX8_requireHour IX8_requireHour (by decide) (by omega) (Nat.le_of_ble_eq_true rfl) rfl t18 dX8_hinders_11 rfl (fun z15 xt16 => ?_)
  refine j_aload_n (j := 0) dX8_hinders_14 rfl rfl ?_
  refine j_getR (q := 2) FX8_10 rfl dX8_hinders_15 (by decide) (by decide) rfl rfl (by decide) ?_
  refine j_aload_n (j := 0) dX8_hinders_18 rfl rfl ?_
  refine j_getR (q := 2) FX8_10 rfl dX8_hinders_19 (by decide) (by decide) rfl rfl (by decide) ?_
  refine j_getR (q := (2 + 3)) FX8_129 rfl dX8_hinders_22 (VK_c 5 2 rfl).1 (VK_c 5 2 rfl).2.1 (VK_c 5 2 rfl).2.2 (lay5 (VK_c 5 2 rfl) (by decide)) (by omega) ?_
  refine j_iload_n (j := 1) dX8_hinders_25 rfl rfl ?_
  obtain ⟨c19, h⟩ := chk_elim h
  have v20 : VK 3 (2 + 6 + x1.toNat) := (VK.o (VK_c 5 2 rfl) c19)
  refine j_aald (q := (2 + 6 + x1.toNat)) hx1 (by decide) (by decide) (by decide) (by decide) dX8_hinders_26 (VK.f3 (VK_c 5 2 rfl)).1 (VK.f3 (VK_c 5 2 rfl)).2.1 (VK.f3 (VK_c 5 2 rfl)).2.2 c19 (lay13 (VK_c 5 2 rfl) c19) (by omega) ?_
  refine j_aload_n (j := 0) dX8_hinders_27 rfl rfl ?_
  refine j_getR (q := 2) FX8_10 rfl dX8_hinders_28 (by decide) (by decide) rfl rfl (by decide) ?_
  refine j_getR (q := (2 + 4)) FX8_183 rfl dX8_hinders_31 (VK_c 5 2 rfl).1 (VK_c 5 2 rfl).2.1 (VK_c 5 2 rfl).2.2 (lay5 (VK_c 5 2 rfl) (by decide)) (by omega) ?_
  refine j_iload_n (j := 2) dX8_hinders_34 rfl rfl ?_
  obtain ⟨c21, h⟩ := chk_elim h
  have v22 : VK 4 (2 + 22 + x2.toNat) := (VK.p (VK_c 5 2 rfl) c21)
  refine j_aald (q := (2 + 22 + x2.toNat)) hx2 (by decide) (by decide) (by decide) (by decide) dX8_hinders_35 (VK.f4 (VK_c 5 2 rfl)).1 (VK.f4 (VK_c 5 2 rfl)).2.1 (VK.f4 (VK_c 5 2 rfl)).2.2 c21 (lay14 (VK_c 5 2 rfl) c21) (by omega) ?_
  refine j_iload_n (j := 3) dX8_hinders_36 rfl rfl ?_
  obtain ⟨z24, e23, h⟩ := obind_elim h
  refine j_callV MX8_187 YX5_reasonAgainstTrip IX5_reasonAgainstTrip SX5_reasonAgainstTrip (by decide) rfl (by decide) (by omega) (Nat.le_of_ble_eq_true rfl) rfl (ctX5_reasonAgainstTrip (d := d - 1) hl (by omega) (VK_c 5 2 rfl) v20 v22 hx3 e23) dX8_hinders_37 (VK_c 5 2 rfl).1 (VK_c 5 2 rfl).lt (VK_c 5 2 rfl).ka rfl (fun z25 _ => ?_)
  cases h
  exact j_iret dX8_hinders_40 rfl rfl rfl z25
theorem ctX8_hinders {g : JG} {l : Launch} {d N : Nat} {A : AH} {out : Nat × Int × AH} {x1 : Int} {x2 : Int} {x3 : Int} (hl : l.stackTraces = false) (hd : 8 ≤ d) (hx1 : inR x1) (hx2 : inR x2) (hx3 : inR x3) (h : fX8_hinders N A x1 x2 x3 = some out) : CT g l yX8_hinders cX8_hinders 4 (some .int) d [.ref (gB g + 1), vI x1, vI x2, vI x3] A ((out.1, jv out.1 out.2.1, out.2.2) : JO) (inR out.2.1) :=
  CT_of (by decide +kernel) hl (by first | exact Nat.le_of_ble_eq_true rfl | (unfold rv; split <;> exact Nat.le_of_ble_eq_true rfl)) (by first | rfl | (unfold rv; split <;> rfl)) (j_sub (lv := [(0, .ref (gB g + 1)), (1, vI x1), (2, vI x2), (3, vI x3)]) [0, 1, 2, 3] rfl (tX8_hinders_0 hl hd hx1 hx2 hx3 h))
set_option maxRecDepth 100000 in
theorem tX8_keepRefusal_0 {g : JG} {l : Launch} {d N n0 s0 : Nat} {out : AH} {A : AH} {x1 : Int} {x2 : Int} (hl : l.stackTraces = false) (hd : 1 ≤ d) (hx1 : inR x1) (hx2 : inR x2) (h : fX8_keepRefusal N A x1 x2 = some out) : J g l d RX8 "keepRefusal" cX8_keepRefusal 3 none n0 s0 ((0, none, out) : JO) (True) 0 [(0, .ref (gB g + 1)), (1, vI x1), (2, vI x2)] [] A := by
  unfold fX8_keepRefusal at h
  refine j_aload_n (j := 0) dX8_keepRefusal_0 rfl rfl ?_
  refine j_iload_n (j := 1) dX8_keepRefusal_1 rfl rfl ?_
  obtain ⟨A1, eA1, h⟩ := bnd_elim h
  have xA1 : XT A A1 := by rw [eA1]; exact XT_sI _ _ _ _
  refine j_putI FX8_48 rfl rfl rfl hx1 dX8_keepRefusal_2 (VK_c 8 1 rfl).1 (VK_c 8 1 rfl).lt (VK_c 8 1 rfl).ka ?_
  refine j_hB eA1 ?_
  refine j_aload_n (j := 0) dX8_keepRefusal_5 rfl rfl ?_
  refine j_iload_n (j := 2) dX8_keepRefusal_6 rfl rfl ?_
  obtain ⟨A2, eA2, h⟩ := bnd_elim h
  have xA2 : XT A1 A2 := by rw [eA2]; exact XT_sI _ _ _ _
  refine j_putI FX8_450 rfl rfl rfl hx2 dX8_keepRefusal_7 (VK_c 8 1 rfl).1 (VK_c 8 1 rfl).lt (VK_c 8 1 rfl).ka ?_
  refine j_hB eA2 ?_
  cases h
  exact j_vret dX8_keepRefusal_10 rfl rfl trivial
theorem ctX8_keepRefusal {g : JG} {l : Launch} {d N : Nat} {A : AH} {out : AH} {x1 : Int} {x2 : Int} (hl : l.stackTraces = false) (hd : 1 ≤ d) (hx1 : inR x1) (hx2 : inR x2) (h : fX8_keepRefusal N A x1 x2 = some out) : CT g l yX8_keepRefusal cX8_keepRefusal 3 none d [.ref (gB g + 1), vI x1, vI x2] A ((0, none, out) : JO) (True) :=
  CT_of (by decide +kernel) hl (by first | exact Nat.le_of_ble_eq_true rfl | (unfold rv; split <;> exact Nat.le_of_ble_eq_true rfl)) (by first | rfl | (unfold rv; split <;> rfl)) (j_sub (lv := [(0, .ref (gB g + 1)), (1, vI x1), (2, vI x2)]) [0, 1, 2] rfl (tX8_keepRefusal_0 hl hd hx1 hx2 h))
set_option maxRecDepth 100000 in
theorem tX8_refuseFor_0 {g : JG} {l : Launch} {d N n0 s0 : Nat} {out : Nat × AH} {A : AH} {x1 : Int} (hl : l.stackTraces = false) (hd : 7 ≤ d) (hx1 : inR x1) (h : fX8_refuseFor N A x1 = some out) : J g l d RX8 "refuseFor" cX8_refuseFor 2 none n0 s0 ((out.1, none, out.2) : JO) (True) 0 [(0, .ref (gB g + 1)), (1, vI x1)] [] A := by
  unfold fX8_refuseFor at h
  refine j_iload_n (j := 1) dX8_refuseFor_0 rfl rfl ?_
  by_cases c1 : x1 = 0
  · rw [if_pos c1] at h
    refine j_if_eq_t hx1 dX8_refuseFor_1 (tgt := 21) (by decide) c1 ?_
    cases h
    exact j_vret dX8_refuseFor_21 rfl rfl trivial
  · rw [if_neg c1] at h
    refine j_if_eq_f hx1 dX8_refuseFor_1 (tgt := 21) (by decide) c1 ?_
    refine j_aload_n (j := 0) dX8_refuseFor_4 rfl rfl ?_
    refine j_iload_n (j := 1) dX8_refuseFor_5 rfl rfl ?_
    refine j_iconst dX8_refuseFor_6 ?_
    obtain ⟨p3, e2, h⟩ := obind_elim h
    refine j_callV MX8_434 YX8_keepRefusal IX8_keepRefusal SX8_keepRefusal (by decide) rfl (by decide) (by omega) (Nat.le_of_ble_eq_true rfl) rfl (ctX8_keepRefusal (d := d - 1) hl (by omega) hx1 (inR_lit _ rfl) e2) dX8_refuseFor_7 (VK_c 8 1 rfl).1 (VK_c 8 1 rfl).lt (VK_c 8 1 rfl).ka rfl (fun z4 xt5 => ?_)
    cases h
    exact j_throwW (k := 5) TX8_438_479_442 (by decide) rfl (by omega) dX8_refuseFor_10 dX8_refuseFor_13 dX8_refuseFor_14 dX8_refuseFor_17 dX8_refuseFor_20 rfl trivial
theorem ctX8_refuseFor {g : JG} {l : Launch} {d N : Nat} {A : AH} {out : Nat × AH} {x1 : Int} (hl : l.stackTraces = false) (hd : 7 ≤ d) (hx1 : inR x1) (h : fX8_refuseFor N A x1 = some out) : CT g l yX8_refuseFor cX8_refuseFor 2 none d [.ref (gB g + 1), vI x1] A ((out.1, none, out.2) : JO) (True) :=
  CT_of (by decide +kernel) hl (by first | exact Nat.le_of_ble_eq_true rfl | (unfold rv; split <;> exact Nat.le_of_ble_eq_true rfl)) (by first | rfl | (unfold rv; split <;> rfl)) (j_sub (lv := [(0, .ref (gB g + 1)), (1, vI x1)]) [0, 1] rfl (tX8_refuseFor_0 hl hd hx1 h))
set_option maxRecDepth 100000 in
theorem tX8_plan_0 {g : JG} {l : Launch} {d N n0 s0 : Nat} {out : Nat × Int × AH} {A : AH} {x1 : Int} {x2 : Int} {x3 : Int} (hl : l.stackTraces = false) (hd : 8 ≤ d) (hx1 : inR x1) (hx2 : inR x2) (hx3 : inR x3) (h : fX8_plan N A x1 x2 x3 = some out) : J g l d RX8 "plan" cX8_plan 4 (some .int) n0 s0 ((out.1, jv out.1 out.2.1, out.2.2) : JO) (inR out.2.1) 0 [(0, .ref (gB g + 1)), (1, vI x1), (2, vI x2), (3, vI x3)] [] A := by
  unfold fX8_plan at h
  refine j_aload_n (j := 0) dX8_plan_0 rfl rfl ?_
  refine j_iload_n (j := 1) dX8_plan_1 rfl rfl ?_
  obtain ⟨p2, e1, h⟩ := obind_elim h
  have t6 := ctX8_requireOrder (d := d - 1) hl (by omega) hx1 e1 (g := g)
  by_cases c5 : p2.1 = 0
  rotate_left
  · rw [if_neg c5] at h
    cases h
    exact j_callVx MX8_126 YX8_requireOrder IX8_requireOrder SX8_requireOrder (by decide) rfl (by decide) (by omega) (Nat.le_of_ble_eq_true rfl) rfl t6 dX8_plan_2 (VK_c 8 1 rfl).1 (VK_c 8 1 rfl).lt (VK_c 8 1 rfl).ka rfl c5 rfl inR_0
  rw [if_pos c5] at h
  rw [c5] at t6
  refine j_callV MX8_126 YX8_requireOrder IX8_requireOrder SX8_requireOrder (by decide) rfl (by decide) (by omega) (Nat.le_of_ble_eq_true rfl) rfl t6 dX8_plan_2 (VK_c 8 1 rfl).1 (VK_c 8 1 rfl).lt (VK_c 8 1 rfl).ka rfl (fun z3 xt4 => ?_)
  refine j_aload_n (j := 0) dX8_plan_5 rfl rfl ?_
  refine j_iload_n (j := 2) dX8_plan_6 rfl rfl ?_
  obtain ⟨p8, e7, h⟩ := obind_elim h
  have t12 := ctX8_requirePilot (d := d - 1) hl (by omega) hx2 e7 (g := g)
  by_cases c11 : p8.1 = 0
  rotate_left
  · rw [if_neg c11] at h
    cases h
    exact j_callVx MX8_180 YX8_requirePilot IX8_requirePilot SX8_requirePilot (by decide) rfl (by decide) (by omega) (Nat.le_of_ble_eq_true rfl) rfl t12 dX8_plan_7 (VK_c 8 1 rfl).1 (VK_c 8 1 rfl).lt (VK_c 8 1 rfl).ka rfl c11 rfl inR_0
  rw [if_pos c11] at h
  rw [c11] at t12
  refine j_callV MX8_180 YX8_requirePilot IX8_requirePilot SX8_requirePilot (by decide) rfl (by decide) (by omega) (Nat.le_of_ble_eq_true rfl) rfl t12 dX8_plan_7 (VK_c 8 1 rfl).1 (VK_c 8 1 rfl).lt (VK_c 8 1 rfl).ka rfl (fun z9 xt10 => ?_)
  refine j_iload_n (j := 3) dX8_plan_10 rfl rfl ?_
  obtain ⟨p14, e13, h⟩ := obind_elim h
  have t18 := ctX8_requireHour (d := d - 1) hl (by omega) hx3 e13 (g := g)
  by_cases c17 : p14.1 = 0
  rotate_left
  · rw [if_neg c17] at h
    cases h
    exact j_callSx MX8_80 YX8_requireHour IX8_requireHour (by decide) (by omega) (Nat.le_of_ble_eq_true rfl) rfl t18 dX8_plan_11 rfl c17 rfl inR_0
  rw [if_pos c17] at h
  rw [c17] at t18
  refine j_callS MX8_80 YX8_requireHour IX8_requireHour (by decide) (by omega) (Nat.le_of_ble_eq_true rfl) rfl t18 dX8_plan_11 rfl (fun z15 xt16 => ?_)
  refine j_aload_n (j := 0) dX8_plan_14 rfl rfl ?_
  refine j_aload_n (j := 0) dX8_plan_15 rfl rfl ?_
  refine j_getR (q := 2) FX8_10 rfl dX8_plan_16 (by decide) (by decide) rfl rfl (by decide) ?_
  refine j_aload_n (j := 0) dX8_plan_19 rfl rfl ?_
  refine j_getR (q := 2) FX8_10 rfl dX8_plan_20 (by decide) (by decide) rfl rfl (by decide) ?_
  refine j_getR (q := (2 + 3)) FX8_129 rfl dX8_plan_23 (VK_c 5 2 rfl).1 (VK_c 5 2 rfl).2.1 (VK_c 5 2 rfl).2.2 (lay5 (VK_c 5 2 rfl) (by decide)) (by omega) ?_
  refine j_iload_n (j := 1) dX8_plan_26 rfl rfl ?_
  obtain ⟨c19, h⟩ := chk_elim h
  have v20 : VK 3 (2 + 6 + x1.toNat) := (VK.o (VK_c 5 2 rfl) c19)
  refine j_aald (q := (2 + 6 + x1.toNat)) hx1 (by decide) (by decide) (by decide) (by decide) dX8_plan_27 (VK.f3 (VK_c 5 2 rfl)).1 (VK.f3 (VK_c 5 2 rfl)).2.1 (VK.f3 (VK_c 5 2 rfl)).2.2 c19 (lay13 (VK_c 5 2 rfl) c19) (by omega) ?_
  refine j_aload_n (j := 0) dX8_plan_28 rfl rfl ?_
  refine j_getR (q := 2) FX8_10 rfl dX8_plan_29 (by decide) (by decide) rfl rfl (by decide) ?_
  refine j_getR (q := (2 + 4)) FX8_183 rfl dX8_plan_32 (VK_c 5 2 rfl).1 (VK_c 5 2 rfl).2.1 (VK_c 5 2 rfl).2.2 (lay5 (VK_c 5 2 rfl) (by decide)) (by omega) ?_
  refine j_iload_n (j := 2) dX8_plan_35 rfl rfl ?_
  obtain ⟨c21, h⟩ := chk_elim h
  have v22 : VK 4 (2 + 22 + x2.toNat) := (VK.p (VK_c 5 2 rfl) c21)
  refine j_aald (q := (2 + 22 + x2.toNat)) hx2 (by decide) (by decide) (by decide) (by decide) dX8_plan_36 (VK.f4 (VK_c 5 2 rfl)).1 (VK.f4 (VK_c 5 2 rfl)).2.1 (VK.f4 (VK_c 5 2 rfl)).2.2 c21 (lay14 (VK_c 5 2 rfl) c21) (by omega) ?_
  refine j_iload_n (j := 3) dX8_plan_37 rfl rfl ?_
  obtain ⟨z24, e23, h⟩ := obind_elim h
  refine j_callV MX8_187 YX5_reasonAgainstTrip IX5_reasonAgainstTrip SX5_reasonAgainstTrip (by decide) rfl (by decide) (by omega) (Nat.le_of_ble_eq_true rfl) rfl (ctX5_reasonAgainstTrip (d := d - 1) hl (by omega) (VK_c 5 2 rfl) v20 v22 hx3 e23) dX8_plan_38 (VK_c 5 2 rfl).1 (VK_c 5 2 rfl).lt (VK_c 5 2 rfl).ka rfl (fun z25 _ => ?_)
  obtain ⟨p28, e27, h⟩ := obind_elim h
  have t32 := ctX8_refuseFor (d := d - 1) hl (by omega) z25 e27 (g := g)
  by_cases c31 : p28.1 = 0
  rotate_left
  · rw [if_neg c31] at h
    cases h
    exact j_callVx MX8_191 YX8_refuseFor IX8_refuseFor SX8_refuseFor (by decide) rfl (by decide) (by omega) (Nat.le_of_ble_eq_true rfl) rfl t32 dX8_plan_41 (VK_c 8 1 rfl).1 (VK_c 8 1 rfl).lt (VK_c 8 1 rfl).ka rfl c31 rfl inR_0
  rw [if_pos c31] at h
  rw [c31] at t32
  refine j_callV MX8_191 YX8_refuseFor IX8_refuseFor SX8_refuseFor (by decide) rfl (by decide) (by omega) (Nat.le_of_ble_eq_true rfl) rfl t32 dX8_plan_41 (VK_c 8 1 rfl).1 (VK_c 8 1 rfl).lt (VK_c 8 1 rfl).ka rfl (fun z29 xt30 => ?_)
  refine j_aload_n (j := 0) dX8_plan_44 rfl rfl ?_
  refine j_getR (q := 64) FX8_22 rfl dX8_plan_45 (by decide) (by decide) rfl rfl (by decide) ?_
  refine j_aload_n (j := 0) dX8_plan_48 rfl rfl ?_
  refine j_getR (q := 2) FX8_10 rfl dX8_plan_49 (by decide) (by decide) rfl rfl (by decide) ?_
  obtain ⟨p34, e33, h⟩ := obind_elim h
  refine j_callV MX8_66 YX1_add IX1_add SX1_add (by decide) rfl (by decide) (by omega) (Nat.le_of_ble_eq_true rfl) rfl (ctX1_add (d := d - 1) hl (by omega) (VK_c 5 2 rfl) e33) dX8_plan_52 (VK_c 1 64 rfl).1 (VK_c 1 64 rfl).lt (VK_c 1 64 rfl).ka rfl (fun z35 xt36 => ?_)
  refine j_aload_n (j := 0) dX8_plan_55 rfl rfl ?_
  refine j_getR (q := 2) FX8_10 rfl dX8_plan_56 (by decide) (by decide) rfl rfl (by decide) ?_
  refine j_iload_n (j := 1) dX8_plan_59 rfl rfl ?_
  refine j_iload_n (j := 2) dX8_plan_60 rfl rfl ?_
  refine j_iload_n (j := 3) dX8_plan_61 rfl rfl ?_
  obtain ⟨p38, e37, h⟩ := obind_elim h
  refine j_callV MX8_194 YX5_addTrip IX5_addTrip SX5_addTrip (by decide) rfl (by decide) (by omega) (Nat.le_of_ble_eq_true rfl) rfl (ctX5_addTrip (d := d - 1) hl (by omega) (VK_c 5 2 rfl) hx1 hx2 hx3 e37) dX8_plan_62 (VK_c 5 2 rfl).1 (VK_c 5 2 rfl).lt (VK_c 5 2 rfl).ka rfl (fun z39 xt40 => ?_)
  refine j_aload_n (j := 0) dX8_plan_65 rfl rfl ?_
  refine j_getR (q := 2) FX8_10 rfl dX8_plan_66 (by decide) (by decide) rfl rfl (by decide) ?_
  refine j_getR (q := (2 + 3)) FX8_129 rfl dX8_plan_69 (VK_c 5 2 rfl).1 (VK_c 5 2 rfl).2.1 (VK_c 5 2 rfl).2.2 (lay5 (VK_c 5 2 rfl) (by decide)) (by omega) ?_
  refine j_iload_n (j := 1) dX8_plan_72 rfl rfl ?_
  obtain ⟨c41, h⟩ := chk_elim h
  have v42 : VK 3 (2 + 6 + x1.toNat) := (VK.o (VK_c 5 2 rfl) c41)
  refine j_aald (q := (2 + 6 + x1.toNat)) hx1 (by decide) (by decide) (by decide) (by decide) dX8_plan_73 (VK.f3 (VK_c 5 2 rfl)).1 (VK.f3 (VK_c 5 2 rfl)).2.1 (VK.f3 (VK_c 5 2 rfl)).2.2 c41 (lay13 (VK_c 5 2 rfl) c41) (by omega) ?_
  refine j_getI FX8_159 rfl dX8_plan_74 v42.1 v42.lt v42.ka (fun r43 => ?_)
  cases h
  exact j_iret dX8_plan_77 rfl rfl rfl r43
theorem ctX8_plan {g : JG} {l : Launch} {d N : Nat} {A : AH} {out : Nat × Int × AH} {x1 : Int} {x2 : Int} {x3 : Int} (hl : l.stackTraces = false) (hd : 8 ≤ d) (hx1 : inR x1) (hx2 : inR x2) (hx3 : inR x3) (h : fX8_plan N A x1 x2 x3 = some out) : CT g l yX8_plan cX8_plan 4 (some .int) d [.ref (gB g + 1), vI x1, vI x2, vI x3] A ((out.1, jv out.1 out.2.1, out.2.2) : JO) (inR out.2.1) :=
  CT_of (by decide +kernel) hl (by first | exact Nat.le_of_ble_eq_true rfl | (unfold rv; split <;> exact Nat.le_of_ble_eq_true rfl)) (by first | rfl | (unfold rv; split <;> rfl)) (j_sub (lv := [(0, .ref (gB g + 1)), (1, vI x1), (2, vI x2), (3, vI x3)]) [0, 1, 2, 3] rfl (tX8_plan_0 hl hd hx1 hx2 hx3 h))
set_option maxRecDepth 100000 in
theorem tX8_run_0 {g : JG} {l : Launch} {d N n0 s0 : Nat} {out : Nat × Int × AH} {A : AH} {x1 : Int} {x2 : Int} {x3 : Int} (hl : l.stackTraces = false) (hd : 8 ≤ d) (hx1 : inR x1) (hx2 : inR x2) (hx3 : inR x3) (h : fX8_run N A x1 x2 x3 = some out) : J g l d RX8 "run" cX8_run 4 (some .int) n0 s0 ((out.1, jv out.1 out.2.1, out.2.2) : JO) (inR out.2.1) 0 [(0, .ref (gB g + 1)), (1, vI x1), (2, vI x2), (3, vI x3)] [] A := by
  unfold fX8_run at h
  refine j_aload_n (j := 0) dX8_run_0 rfl rfl ?_
  refine j_getR (q := 2) FX8_10 rfl dX8_run_1 (by decide) (by decide) rfl rfl (by decide) ?_
  refine j_iload_n (j := 1) dX8_run_4 rfl rfl ?_
  obtain ⟨z2, e1, h⟩ := obind_elim h
  refine j_callV MX8_198 YX5_hasBoat IX5_hasBoat SX5_hasBoat (by decide) rfl (by decide) (by omega) (Nat.le_of_ble_eq_true rfl) rfl (ctX5_hasBoat (d := d - 1) hl (by omega) (VK_c 5 2 rfl) hx1 e1) dX8_run_5 (VK_c 5 2 rfl).1 (VK_c 5 2 rfl).lt (VK_c 5 2 rfl).ka rfl (fun z3 _ => ?_)
  by_cases c5 : z2 = 0
  · rw [if_pos c5] at h
    refine j_if_ne_f (bool_inR z3) dX8_run_8 (tgt := 21) (by decide) (fun q => q c5) ?_
    cases h
    exact j_throw (k := 3) TX8_202_204_206 (by decide) rfl (by omega) dX8_run_11 dX8_run_14 dX8_run_15 dX8_run_17 dX8_run_20 rfl inR_0
  · rw [if_neg c5] at h
    refine j_if_ne_t (bool_inR z3) dX8_run_8 (tgt := 21) (by decide) c5 ?_
    refine j_iload_n (j := 2) dX8_run_21 rfl rfl ?_
    by_cases c6 : x2 < 0
    · rw [if_pos c6] at h
      refine j_if_lt_t hx2 dX8_run_22 (tgt := 32) (by decide) c6 ?_
      cases h
      exact j_throw (k := 3) TX8_202_207_206 (by decide) rfl (by omega) dX8_run_32 dX8_run_35 dX8_run_36 dX8_run_38 dX8_run_41 rfl inR_0
    · rw [if_neg c6] at h
      refine j_if_lt_f hx2 dX8_run_22 (tgt := 32) (by decide) c6 ?_
      refine j_iload_n (j := 2) dX8_run_25 rfl rfl ?_
      refine j_sipush dX8_run_26 rfl ?_
      by_cases c7 : x2 ≤ 900
      · rw [if_pos c7] at h
        refine j_icmp_le_t hx2 (inR_lit _ rfl) dX8_run_29 (tgt := 42) (by decide) c7 ?_
        refine j_iload_n (j := 3) dX8_run_42 rfl rfl ?_
        refine j_aload_n (j := 0) dX8_run_43 rfl rfl ?_
        refine j_getR (q := 2) FX8_10 rfl dX8_run_44 (by decide) (by decide) rfl rfl (by decide) ?_
        refine j_getI FX8_90 rfl dX8_run_47 (VK_c 5 2 rfl).1 (VK_c 5 2 rfl).lt (VK_c 5 2 rfl).ka (fun r8 => ?_)
        refine j_ishr dX8_run_50 ?_
        by_cases c9 : (iShr x3 (gI A 2 7)) = 0
        · rw [if_pos c9] at h
          refine j_if_eq_t (iShr_inR _ _) dX8_run_51 (tgt := 64) (by decide) c9 ?_
          refine j_aload_n (j := 0) dX8_run_64 rfl rfl ?_
          refine j_aload_n (j := 0) dX8_run_65 rfl rfl ?_
          refine j_getR (q := 2) FX8_10 rfl dX8_run_66 (by decide) (by decide) rfl rfl (by decide) ?_
          refine j_aload_n (j := 0) dX8_run_69 rfl rfl ?_
          refine j_getR (q := 2) FX8_10 rfl dX8_run_70 (by decide) (by decide) rfl rfl (by decide) ?_
          refine j_getR (q := (2 + 5)) FX8_211 rfl dX8_run_73 (VK_c 5 2 rfl).1 (VK_c 5 2 rfl).2.1 (VK_c 5 2 rfl).2.2 (lay5 (VK_c 5 2 rfl) (by decide)) (by omega) ?_
          refine j_iload_n (j := 1) dX8_run_76 rfl rfl ?_
          obtain ⟨c10, h⟩ := chk_elim h
          have v11 : VK 0 (2 + 28 + x1.toNat) := (VK.b (VK_c 5 2 rfl) c10)
          refine j_aald (q := (2 + 28 + x1.toNat)) hx1 (by decide) (by decide) (by decide) (by decide) dX8_run_77 (VK.f5 (VK_c 5 2 rfl)).1 (VK.f5 (VK_c 5 2 rfl)).2.1 (VK.f5 (VK_c 5 2 rfl)).2.2 c10 (lay15 (VK_c 5 2 rfl) c10) (by omega) ?_
          refine j_iload_n (j := 2) dX8_run_78 rfl rfl ?_
          refine j_iload_n (j := 3) dX8_run_79 rfl rfl ?_
          obtain ⟨z13, e12, h⟩ := obind_elim h
          refine j_callV MX8_215 YX5_reasonAgainstRun IX5_reasonAgainstRun SX5_reasonAgainstRun (by decide) rfl (by decide) (by omega) (Nat.le_of_ble_eq_true rfl) rfl (ctX5_reasonAgainstRun (d := d - 1) hl (by omega) (VK_c 5 2 rfl) v11 hx2 hx3 e12) dX8_run_80 (VK_c 5 2 rfl).1 (VK_c 5 2 rfl).lt (VK_c 5 2 rfl).ka rfl (fun z14 _ => ?_)
          obtain ⟨p17, e16, h⟩ := obind_elim h
          have t21 := ctX8_refuseFor (d := d - 1) hl (by omega) z14 e16 (g := g)
          by_cases c20 : p17.1 = 0
          rotate_left
          · rw [if_neg c20] at h
            cases h
            exact j_callVx MX8_191 YX8_refuseFor IX8_refuseFor SX8_refuseFor (by decide) rfl (by decide) (by omega) (Nat.le_of_ble_eq_true rfl) rfl t21 dX8_run_83 (VK_c 8 1 rfl).1 (VK_c 8 1 rfl).lt (VK_c 8 1 rfl).ka rfl c20 rfl inR_0
          rw [if_pos c20] at h
          rw [c20] at t21
          refine j_callV MX8_191 YX8_refuseFor IX8_refuseFor SX8_refuseFor (by decide) rfl (by decide) (by omega) (Nat.le_of_ble_eq_true rfl) rfl t21 dX8_run_83 (VK_c 8 1 rfl).1 (VK_c 8 1 rfl).lt (VK_c 8 1 rfl).ka rfl (fun z18 xt19 => ?_)
          refine j_aload_n (j := 0) dX8_run_86 rfl rfl ?_
          refine j_getR (q := 64) FX8_22 rfl dX8_run_87 (by decide) (by decide) rfl rfl (by decide) ?_
          refine j_aload_n (j := 0) dX8_run_90 rfl rfl ?_
          refine j_getR (q := 2) FX8_10 rfl dX8_run_91 (by decide) (by decide) rfl rfl (by decide) ?_
          obtain ⟨p23, e22, h⟩ := obind_elim h
          refine j_callV MX8_66 YX1_add IX1_add SX1_add (by decide) rfl (by decide) (by omega) (Nat.le_of_ble_eq_true rfl) rfl (ctX1_add (d := d - 1) hl (by omega) (VK_c 5 2 rfl) e22) dX8_run_94 (VK_c 1 64 rfl).1 (VK_c 1 64 rfl).lt (VK_c 1 64 rfl).ka rfl (fun z24 xt25 => ?_)
          refine j_aload_n (j := 0) dX8_run_97 rfl rfl ?_
          refine j_getR (q := 2) FX8_10 rfl dX8_run_98 (by decide) (by decide) rfl rfl (by decide) ?_
          refine j_iload_n (j := 1) dX8_run_101 rfl rfl ?_
          refine j_iload_n (j := 2) dX8_run_102 rfl rfl ?_
          refine j_iload_n (j := 3) dX8_run_103 rfl rfl ?_
          obtain ⟨p27, e26, h⟩ := obind_elim h
          refine j_callV MX8_219 YX5_addRun IX5_addRun SX5_addRun (by decide) rfl (by decide) (by omega) (Nat.le_of_ble_eq_true rfl) rfl (ctX5_addRun (d := d - 1) hl (by omega) (VK_c 5 2 rfl) hx1 hx2 hx3 e26) dX8_run_104 (VK_c 5 2 rfl).1 (VK_c 5 2 rfl).lt (VK_c 5 2 rfl).ka rfl (fun z28 xt29 => ?_)
          refine j_aload_n (j := 0) dX8_run_107 rfl rfl ?_
          refine j_getR (q := 2) FX8_10 rfl dX8_run_108 (by decide) (by decide) rfl rfl (by decide) ?_
          refine j_getR (q := (2 + 5)) FX8_211 rfl dX8_run_111 (VK_c 5 2 rfl).1 (VK_c 5 2 rfl).2.1 (VK_c 5 2 rfl).2.2 (lay5 (VK_c 5 2 rfl) (by decide)) (by omega) ?_
          refine j_iload_n (j := 1) dX8_run_114 rfl rfl ?_
          obtain ⟨c30, h⟩ := chk_elim h
          have v31 : VK 0 (2 + 28 + x1.toNat) := (VK.b (VK_c 5 2 rfl) c30)
          refine j_aald (q := (2 + 28 + x1.toNat)) hx1 (by decide) (by decide) (by decide) (by decide) dX8_run_115 (VK.f5 (VK_c 5 2 rfl)).1 (VK.f5 (VK_c 5 2 rfl)).2.1 (VK.f5 (VK_c 5 2 rfl)).2.2 c30 (lay15 (VK_c 5 2 rfl) c30) (by omega) ?_
          refine j_getI FX8_222 rfl dX8_run_116 v31.1 v31.lt v31.ka (fun r32 => ?_)
          cases h
          exact j_iret dX8_run_119 rfl rfl rfl r32
        · rw [if_neg c9] at h
          refine j_if_eq_f (iShr_inR _ _) dX8_run_51 (tgt := 64) (by decide) c9 ?_
          cases h
          exact j_throw (k := 1) TX8_51_209_55 (by decide) rfl (by omega) dX8_run_54 dX8_run_57 dX8_run_58 dX8_run_60 dX8_run_63 rfl inR_0
      · rw [if_neg c7] at h
        refine j_icmp_le_f hx2 (inR_lit _ rfl) dX8_run_29 (tgt := 42) (by decide) c7 ?_
        cases h
        exact j_throw (k := 3) TX8_202_207_206 (by decide) rfl (by omega) dX8_run_32 dX8_run_35 dX8_run_36 dX8_run_38 dX8_run_41 rfl inR_0
theorem ctX8_run {g : JG} {l : Launch} {d N : Nat} {A : AH} {out : Nat × Int × AH} {x1 : Int} {x2 : Int} {x3 : Int} (hl : l.stackTraces = false) (hd : 8 ≤ d) (hx1 : inR x1) (hx2 : inR x2) (hx3 : inR x3) (h : fX8_run N A x1 x2 x3 = some out) : CT g l yX8_run cX8_run 4 (some .int) d [.ref (gB g + 1), vI x1, vI x2, vI x3] A ((out.1, jv out.1 out.2.1, out.2.2) : JO) (inR out.2.1) :=
  CT_of (by decide +kernel) hl (by first | exact Nat.le_of_ble_eq_true rfl | (unfold rv; split <;> exact Nat.le_of_ble_eq_true rfl)) (by first | rfl | (unfold rv; split <;> rfl)) (j_sub (lv := [(0, .ref (gB g + 1)), (1, vI x1), (2, vI x2), (3, vI x3)]) [0, 1, 2, 3] rfl (tX8_run_0 hl hd hx1 hx2 hx3 h))
set_option maxRecDepth 100000 in
theorem tX8_serving_0 {g : JG} {l : Launch} {d N n0 s0 : Nat} {out : Nat × Int × AH} {A : AH} {x1 : Int} {x2 : Int} (hl : l.stackTraces = false) (hd : 8 ≤ d) (hx1 : inR x1) (hx2 : inR x2) (h : fX8_serving N A x1 x2 = some out) : J g l d RX8 "serving" cX8_serving 3 (some .int) n0 s0 ((out.1, jv out.1 out.2.1, out.2.2) : JO) (inR out.2.1) 0 [(0, .ref (gB g + 1)), (1, vI x1), (2, vI x2)] [] A := by
  unfold fX8_serving at h
  refine j_aload_n (j := 0) dX8_serving_0 rfl rfl ?_
  refine j_iload_n (j := 1) dX8_serving_1 rfl rfl ?_
  obtain ⟨p2, e1, h⟩ := obind_elim h
  have t6 := ctX8_requireOrder (d := d - 1) hl (by omega) hx1 e1 (g := g)
  by_cases c5 : p2.1 = 0
  rotate_left
  · rw [if_neg c5] at h
    cases h
    exact j_callVx MX8_126 YX8_requireOrder IX8_requireOrder SX8_requireOrder (by decide) rfl (by decide) (by omega) (Nat.le_of_ble_eq_true rfl) rfl t6 dX8_serving_2 (VK_c 8 1 rfl).1 (VK_c 8 1 rfl).lt (VK_c 8 1 rfl).ka rfl c5 rfl inR_0
  rw [if_pos c5] at h
  rw [c5] at t6
  refine j_callV MX8_126 YX8_requireOrder IX8_requireOrder SX8_requireOrder (by decide) rfl (by decide) (by omega) (Nat.le_of_ble_eq_true rfl) rfl t6 dX8_serving_2 (VK_c 8 1 rfl).1 (VK_c 8 1 rfl).lt (VK_c 8 1 rfl).ka rfl (fun z3 xt4 => ?_)
  refine j_iload_n (j := 2) dX8_serving_5 rfl rfl ?_
  by_cases c7 : x2 < 0
  · rw [if_pos c7] at h
    refine j_if_lt_t hx2 dX8_serving_6 (tgt := 14) (by decide) c7 ?_
    cases h
    exact j_throw (k := 1) TX8_51_227_55 (by decide) rfl (by omega) dX8_serving_14 dX8_serving_17 dX8_serving_18 dX8_serving_20 dX8_serving_23 rfl inR_0
  · rw [if_neg c7] at h
    refine j_if_lt_f hx2 dX8_serving_6 (tgt := 14) (by decide) c7 ?_
    refine j_iload_n (j := 2) dX8_serving_9 rfl rfl ?_
    refine j_iconst dX8_serving_10 ?_
    by_cases c8 : x2 ≤ 2
    · rw [if_pos c8] at h
      refine j_icmp_le_t hx2 (inR_lit _ rfl) dX8_serving_11 (tgt := 24) (by decide) c8 ?_
      refine j_aload_n (j := 0) dX8_serving_24 rfl rfl ?_
      refine j_getR (q := 2) FX8_10 rfl dX8_serving_25 (by decide) (by decide) rfl rfl (by decide) ?_
      refine j_iload_n (j := 1) dX8_serving_28 rfl rfl ?_
      refine j_aload_n (j := 0) dX8_serving_29 rfl rfl ?_
      refine j_getR (q := 347) FX8_36 rfl dX8_serving_30 (by decide) (by decide) rfl rfl (by decide) ?_
      obtain ⟨p10, e9, h⟩ := obind_elim h
      refine j_callV MX8_229 YX5_reasonAgainstServing IX5_reasonAgainstServing SX5_reasonAgainstServing (by decide) rfl (by decide) (by omega) (Nat.le_of_ble_eq_true rfl) rfl (ctX5_reasonAgainstServing (d := d - 1) hl (by omega) (VK_c 5 2 rfl) hx1 e9) dX8_serving_33 (VK_c 5 2 rfl).1 (VK_c 5 2 rfl).lt (VK_c 5 2 rfl).ka rfl (fun z11 xt12 => ?_)
      by_cases c13 : p10.1 = 0
      · rw [if_pos c13] at h
        refine j_if_eq_t z11 dX8_serving_36 (tgt := 49) (by decide) c13 ?_
        refine j_iload_n (j := 2) dX8_serving_49 rfl rfl ?_
        by_cases c14 : x2 = 0
        · rw [if_pos c14] at h
          refine j_if_ne_f hx2 dX8_serving_50 (tgt := 63) (by decide) (fun q => q c14) ?_
          refine j_aload_n (j := 0) dX8_serving_53 rfl rfl ?_
          refine j_getR (q := 347) FX8_36 rfl dX8_serving_54 (by decide) (by decide) rfl rfl (by decide) ?_
          refine j_getI FX8_235 rfl dX8_serving_57 (VK_c 7 347 rfl).1 (VK_c 7 347 rfl).lt (VK_c 7 347 rfl).ka (fun r18 => ?_)
          refine j_goto (tgt := 85) dX8_serving_60 (by decide) ?_
          cases h
          exact j_iret dX8_serving_85 rfl rfl rfl r18
        · rw [if_neg c14] at h
          refine j_if_ne_t hx2 dX8_serving_50 (tgt := 63) (by decide) c14 ?_
          refine j_iload_n (j := 2) dX8_serving_63 rfl rfl ?_
          refine j_iconst dX8_serving_64 ?_
          by_cases c15 : x2 = 1
          · rw [if_pos c15] at h
            refine j_icmp_ne_f hx2 (inR_lit _ rfl) dX8_serving_65 (tgt := 78) (by decide) (fun q => q c15) ?_
            refine j_aload_n (j := 0) dX8_serving_68 rfl rfl ?_
            refine j_getR (q := 347) FX8_36 rfl dX8_serving_69 (by decide) (by decide) rfl rfl (by decide) ?_
            refine j_getI FX8_238 rfl dX8_serving_72 (VK_c 7 347 rfl).1 (VK_c 7 347 rfl).lt (VK_c 7 347 rfl).ka (fun r17 => ?_)
            refine j_goto (tgt := 85) dX8_serving_75 (by decide) ?_
            cases h
            exact j_iret dX8_serving_85 rfl rfl rfl r17
          · rw [if_neg c15] at h
            refine j_icmp_ne_t hx2 (inR_lit _ rfl) dX8_serving_65 (tgt := 78) (by decide) c15 ?_
            refine j_aload_n (j := 0) dX8_serving_78 rfl rfl ?_
            refine j_getR (q := 347) FX8_36 rfl dX8_serving_79 (by decide) (by decide) rfl rfl (by decide) ?_
            refine j_getI FX8_239 rfl dX8_serving_82 (VK_c 7 347 rfl).1 (VK_c 7 347 rfl).lt (VK_c 7 347 rfl).ka (fun r16 => ?_)
            cases h
            exact j_iret dX8_serving_85 rfl rfl rfl r16
      · rw [if_neg c13] at h
        refine j_if_eq_f z11 dX8_serving_36 (tgt := 49) (by decide) c13 ?_
        cases h
        exact j_throw (k := 6) TX8_175_233_179 (by decide) rfl (by omega) dX8_serving_39 dX8_serving_42 dX8_serving_43 dX8_serving_45 dX8_serving_48 rfl inR_0
    · rw [if_neg c8] at h
      refine j_icmp_le_f hx2 (inR_lit _ rfl) dX8_serving_11 (tgt := 24) (by decide) c8 ?_
      cases h
      exact j_throw (k := 1) TX8_51_227_55 (by decide) rfl (by omega) dX8_serving_14 dX8_serving_17 dX8_serving_18 dX8_serving_20 dX8_serving_23 rfl inR_0
theorem ctX8_serving {g : JG} {l : Launch} {d N : Nat} {A : AH} {out : Nat × Int × AH} {x1 : Int} {x2 : Int} (hl : l.stackTraces = false) (hd : 8 ≤ d) (hx1 : inR x1) (hx2 : inR x2) (h : fX8_serving N A x1 x2 = some out) : CT g l yX8_serving cX8_serving 3 (some .int) d [.ref (gB g + 1), vI x1, vI x2] A ((out.1, jv out.1 out.2.1, out.2.2) : JO) (inR out.2.1) :=
  CT_of (by decide +kernel) hl (by first | exact Nat.le_of_ble_eq_true rfl | (unfold rv; split <;> exact Nat.le_of_ble_eq_true rfl)) (by first | rfl | (unfold rv; split <;> rfl)) (j_sub (lv := [(0, .ref (gB g + 1)), (1, vI x1), (2, vI x2)]) [0, 1, 2] rfl (tX8_serving_0 hl hd hx1 hx2 h))
set_option maxRecDepth 100000 in
theorem tX8_serve_0 {g : JG} {l : Launch} {d N n0 s0 : Nat} {out : Nat × Int × AH} {A : AH} {x1 : Int} (hl : l.stackTraces = false) (hd : 8 ≤ d) (hx1 : inR x1) (h : fX8_serve N A x1 = some out) : J g l d RX8 "serve" cX8_serve 2 (some .int) n0 s0 ((out.1, jv out.1 out.2.1, out.2.2) : JO) (inR out.2.1) 0 [(0, .ref (gB g + 1)), (1, vI x1)] [] A := by
  unfold fX8_serve at h
  refine j_aload_n (j := 0) dX8_serve_0 rfl rfl ?_
  refine j_iload_n (j := 1) dX8_serve_1 rfl rfl ?_
  obtain ⟨p2, e1, h⟩ := obind_elim h
  have t6 := ctX8_requireOrder (d := d - 1) hl (by omega) hx1 e1 (g := g)
  by_cases c5 : p2.1 = 0
  rotate_left
  · rw [if_neg c5] at h
    cases h
    exact j_callVx MX8_126 YX8_requireOrder IX8_requireOrder SX8_requireOrder (by decide) rfl (by decide) (by omega) (Nat.le_of_ble_eq_true rfl) rfl t6 dX8_serve_2 (VK_c 8 1 rfl).1 (VK_c 8 1 rfl).lt (VK_c 8 1 rfl).ka rfl c5 rfl inR_0
  rw [if_pos c5] at h
  rw [c5] at t6
  refine j_callV MX8_126 YX8_requireOrder IX8_requireOrder SX8_requireOrder (by decide) rfl (by decide) (by omega) (Nat.le_of_ble_eq_true rfl) rfl t6 dX8_serve_2 (VK_c 8 1 rfl).1 (VK_c 8 1 rfl).lt (VK_c 8 1 rfl).ka rfl (fun z3 xt4 => ?_)
  refine j_aload_n (j := 0) dX8_serve_5 rfl rfl ?_
  refine j_aload_n (j := 0) dX8_serve_6 rfl rfl ?_
  refine j_getR (q := 2) FX8_10 rfl dX8_serve_7 (by decide) (by decide) rfl rfl (by decide) ?_
  refine j_iload_n (j := 1) dX8_serve_10 rfl rfl ?_
  refine j_aload_n (j := 0) dX8_serve_11 rfl rfl ?_
  refine j_getR (q := 347) FX8_36 rfl dX8_serve_12 (by decide) (by decide) rfl rfl (by decide) ?_
  obtain ⟨p8, e7, h⟩ := obind_elim h
  refine j_callV MX8_229 YX5_reasonAgainstServing IX5_reasonAgainstServing SX5_reasonAgainstServing (by decide) rfl (by decide) (by omega) (Nat.le_of_ble_eq_true rfl) rfl (ctX5_reasonAgainstServing (d := d - 1) hl (by omega) (VK_c 5 2 rfl) hx1 e7) dX8_serve_15 (VK_c 5 2 rfl).1 (VK_c 5 2 rfl).lt (VK_c 5 2 rfl).ka rfl (fun z9 xt10 => ?_)
  obtain ⟨p12, e11, h⟩ := obind_elim h
  have t16 := ctX8_refuseFor (d := d - 1) hl (by omega) z9 e11 (g := g)
  by_cases c15 : p12.1 = 0
  rotate_left
  · rw [if_neg c15] at h
    cases h
    exact j_callVx MX8_191 YX8_refuseFor IX8_refuseFor SX8_refuseFor (by decide) rfl (by decide) (by omega) (Nat.le_of_ble_eq_true rfl) rfl t16 dX8_serve_18 (VK_c 8 1 rfl).1 (VK_c 8 1 rfl).lt (VK_c 8 1 rfl).ka rfl c15 rfl inR_0
  rw [if_pos c15] at h
  rw [c15] at t16
  refine j_callV MX8_191 YX8_refuseFor IX8_refuseFor SX8_refuseFor (by decide) rfl (by decide) (by omega) (Nat.le_of_ble_eq_true rfl) rfl t16 dX8_serve_18 (VK_c 8 1 rfl).1 (VK_c 8 1 rfl).lt (VK_c 8 1 rfl).ka rfl (fun z13 xt14 => ?_)
  refine j_aload_n (j := 0) dX8_serve_21 rfl rfl ?_
  refine j_getR (q := 64) FX8_22 rfl dX8_serve_22 (by decide) (by decide) rfl rfl (by decide) ?_
  refine j_aload_n (j := 0) dX8_serve_25 rfl rfl ?_
  refine j_getR (q := 2) FX8_10 rfl dX8_serve_26 (by decide) (by decide) rfl rfl (by decide) ?_
  obtain ⟨p18, e17, h⟩ := obind_elim h
  refine j_callV MX8_66 YX1_add IX1_add SX1_add (by decide) rfl (by decide) (by omega) (Nat.le_of_ble_eq_true rfl) rfl (ctX1_add (d := d - 1) hl (by omega) (VK_c 5 2 rfl) e17) dX8_serve_29 (VK_c 1 64 rfl).1 (VK_c 1 64 rfl).lt (VK_c 1 64 rfl).ka rfl (fun z19 xt20 => ?_)
  refine j_aload_n (j := 0) dX8_serve_32 rfl rfl ?_
  refine j_getR (q := 2) FX8_10 rfl dX8_serve_33 (by decide) (by decide) rfl rfl (by decide) ?_
  refine j_iload_n (j := 1) dX8_serve_36 rfl rfl ?_
  refine j_aload_n (j := 0) dX8_serve_37 rfl rfl ?_
  refine j_getR (q := 347) FX8_36 rfl dX8_serve_38 (by decide) (by decide) rfl rfl (by decide) ?_
  obtain ⟨p22, e21, h⟩ := obind_elim h
  refine j_callV MX8_242 YX5_take IX5_take SX5_take (by decide) rfl (by decide) (by omega) (Nat.le_of_ble_eq_true rfl) rfl (ctX5_take (d := d - 1) hl (by omega) (VK_c 5 2 rfl) hx1 e21) dX8_serve_41 (VK_c 5 2 rfl).1 (VK_c 5 2 rfl).lt (VK_c 5 2 rfl).ka rfl (fun z23 xt24 => ?_)
  refine j_aload_n (j := 0) dX8_serve_44 rfl rfl ?_
  refine j_getR (q := 347) FX8_36 rfl dX8_serve_45 (by decide) (by decide) rfl rfl (by decide) ?_
  refine j_getI FX8_235 rfl dX8_serve_48 (VK_c 7 347 rfl).1 (VK_c 7 347 rfl).lt (VK_c 7 347 rfl).ka (fun r25 => ?_)
  cases h
  exact j_iret dX8_serve_51 rfl rfl rfl r25
