set_option maxRecDepth 100000 in
theorem tX9_takesNumber_0 {g : JG} {l : Launch} {d N n0 s0 : Nat} {out : Int × AH} {A : AH} {x1 : Int} (hl : l.stackTraces = false) (hd : 2 ≤ d) (hx1 : inR x1) (h : fX9_takesNumber N A x1 = some out) : J g l d RX9 "takesNumber" cX9_takesNumber 4 (some .boolean) n0 s0 ((0, some (vI out.1), out.2) : JO) ((out.1 = 0 ∨ out.1 = 1)) 0 [(0, .ref (gB g + 349)), (1, vI x1)] [] A := by
  unfold fX9_takesNumber at h
  refine j_aload_n (j := 0) dX9_takesNumber_0 rfl rfl ?_
  obtain ⟨z2, e1, h⟩ := obind_elim h
  refine j_callV MX9_333 YX9_sign IX9_sign SX9_sign (by decide) rfl (by decide) (by omega) (Nat.le_of_ble_eq_true rfl) rfl (ctX9_sign (d := d - 1) hl (by omega)  e1) dX9_takesNumber_1 (VK_c 9 349 rfl).1 (VK_c 9 349 rfl).lt (VK_c 9 349 rfl).ka rfl (fun z3 _ => ?_)
  refine j_bipush dX9_takesNumber_4 rfl ?_
  refine j_bipush dX9_takesNumber_6 rfl ?_
  obtain ⟨z6, e5, h⟩ := obind_elim h
  refine j_callS MX9_90 YX9_isBetween IX9_isBetween (by decide) (by omega) (Nat.le_of_ble_eq_true rfl) rfl (ctX9_isBetween (d := d - 1) hl (by omega) z3 (inR_lit _ rfl) (inR_lit _ rfl) e5) dX9_takesNumber_8 rfl (fun z7 _ => ?_)
  by_cases c9 : z6 = 0
  · rw [if_pos c9] at h
    refine j_if_ne_f (bool_inR z7) dX9_takesNumber_11 (tgt := 16) (by decide) (fun q => q c9) ?_
    refine j_iconst dX9_takesNumber_14 ?_
    cases h
    exact j_iret dX9_takesNumber_15 rfl ((nar_bool (Or.inl rfl)).1) rfl (Or.inl rfl)
  · rw [if_neg c9] at h
    refine j_if_ne_t (bool_inR z7) dX9_takesNumber_11 (tgt := 16) (by decide) c9 ?_
    refine j_iconst dX9_takesNumber_16 ?_
    refine j_istore_n (lv' := [(2, vI 0), (0, .ref (gB g + 349)), (1, vI x1)]) dX9_takesNumber_17 rfl (by decide) (by first | rfl | (simp only [List.all_cons, List.all_nil, rv_cat]; rfl)) rfl ?_
    refine j_iconst dX9_takesNumber_18 ?_
    refine j_istore_n (lv' := [(3, vI 0), (2, vI 0), (0, .ref (gB g + 349)), (1, vI x1)]) dX9_takesNumber_19 rfl (by decide) (by first | rfl | (simp only [List.all_cons, List.all_nil, rv_cat]; rfl)) rfl ?_
    exact j_sub [2, 3, 1, 0] rfl (tX9_takesNumber_20 hl (by omega) hx1  N A 0 0 (inR_lit _ rfl) (inR_lit _ rfl) h)
theorem ctX9_takesNumber {g : JG} {l : Launch} {d N : Nat} {A : AH} {out : Int × AH} {x1 : Int} (hl : l.stackTraces = false) (hd : 2 ≤ d) (hx1 : inR x1) (h : fX9_takesNumber N A x1 = some out) : CT g l yX9_takesNumber cX9_takesNumber 4 (some .boolean) d [.ref (gB g + 349), vI x1] A ((0, some (vI out.1), out.2) : JO) ((out.1 = 0 ∨ out.1 = 1)) :=
  CT_of (by decide +kernel) hl (by first | exact Nat.le_of_ble_eq_true rfl | (unfold rv; split <;> exact Nat.le_of_ble_eq_true rfl)) (by first | rfl | (unfold rv; split <;> rfl)) (j_sub (lv := [(0, .ref (gB g + 349)), (1, vI x1)]) [0, 1] rfl (tX9_takesNumber_0 hl hd hx1 h))
set_option maxRecDepth 100000 in
theorem tX9_takesShip_48 {g : JG} {l : Launch} {d N n0 s0 : Nat} {out : Int × AH} {A : AH} (hl : l.stackTraces = false) (hd : 3 ≤ d) (h : fX9_takesShip_48 N A  = some out) : J g l d RX9 "takesShip" cX9_takesShip 1 (some .boolean) n0 s0 ((0, some (vI out.1), out.2) : JO) ((out.1 = 0 ∨ out.1 = 1)) 48 [(0, .ref (gB g + 349))] [] A := by
  unfold fX9_takesShip_48 at h
  refine j_aload_n (j := 0) dX9_takesShip_48 rfl rfl ?_
  refine j_getR (q := 369) FX9_68 rfl dX9_takesShip_49 (by decide) (by decide) rfl rfl (by decide) ?_
  refine j_aload_n (j := 0) dX9_takesShip_52 rfl rfl ?_
  refine j_getI FX9_336 rfl dX9_takesShip_53 (VK_c 9 349 rfl).1 (VK_c 9 349 rfl).lt (VK_c 9 349 rfl).ka (fun r1 => ?_)
  refine j_aload_n (j := 0) dX9_takesShip_56 rfl rfl ?_
  refine j_getR (q := 368) FX9_64 rfl dX9_takesShip_57 (by decide) (by decide) rfl rfl (by decide) ?_
  refine j_aload_n (j := 0) dX9_takesShip_60 rfl rfl ?_
  refine j_getI FX9_330 rfl dX9_takesShip_61 (VK_c 9 349 rfl).1 (VK_c 9 349 rfl).lt (VK_c 9 349 rfl).ka (fun r2 => ?_)
  obtain ⟨c3, h⟩ := chk_elim h
  refine j_cald r2 (by decide) (by decide) rfl dX9_takesShip_64 (VK_c 38 368 rfl).1 (VK_c 38 368 rfl).lt (VK_c 38 368 rfl).ka c3 (fun r4 => ?_)
  obtain ⟨c5, h⟩ := chk_elim h
  obtain ⟨c6, h⟩ := chk_elim h
  obtain ⟨A7, eA7, h⟩ := bnd_elim h
  have xA7 : XT A A7 := by rw [eA7]; exact XT_sI _ _ _ _
  refine j_cast r1 c6 (by decide) (by decide) rfl dX9_takesShip_65 (VK_c 39 369 rfl).1 (VK_c 39 369 rfl).lt (VK_c 39 369 rfl).ka c5 ?_
  refine j_hB eA7 ?_
  refine j_aload_n (j := 0) dX9_takesShip_66 rfl rfl ?_
  refine j_dup dX9_takesShip_67 rfl ?_
  refine j_getI FX9_330 rfl dX9_takesShip_68 (VK_c 9 349 rfl).1 (VK_c 9 349 rfl).lt (VK_c 9 349 rfl).ka (fun r8 => ?_)
  refine j_iconst dX9_takesShip_71 ?_
  refine j_iadd dX9_takesShip_72 ?_
  obtain ⟨A9, eA9, h⟩ := bnd_elim h
  have xA9 : XT A7 A9 := by rw [eA9]; exact XT_sI _ _ _ _
  refine j_putI FX9_330 rfl rfl rfl (wrap_inR _) dX9_takesShip_73 (VK_c 9 349 rfl).1 (VK_c 9 349 rfl).lt (VK_c 9 349 rfl).ka ?_
  refine j_hB eA9 ?_
  refine j_aload_n (j := 0) dX9_takesShip_76 rfl rfl ?_
  refine j_iconst dX9_takesShip_77 ?_
  obtain ⟨p11, e10, h⟩ := obind_elim h
  refine j_callV MX9_339 YX9_takesNumber IX9_takesNumber SX9_takesNumber (by decide) rfl (by decide) (by omega) (Nat.le_of_ble_eq_true rfl) rfl (ctX9_takesNumber (d := d - 1) hl (by omega) (inR_lit _ rfl) e10) dX9_takesShip_78 (VK_c 9 349 rfl).1 (VK_c 9 349 rfl).lt (VK_c 9 349 rfl).ka rfl (fun z12 xt13 => ?_)
  by_cases c14 : p11.1 = 0
  · rw [if_pos c14] at h
    refine j_if_eq_t (bool_inR z12) dX9_takesShip_81 (tgt := 122) (by decide) c14 ?_
    refine j_iconst dX9_takesShip_122 ?_
    cases h
    exact j_iret dX9_takesShip_123 rfl ((nar_bool (Or.inl rfl)).1) rfl (Or.inl rfl)
  · rw [if_neg c14] at h
    refine j_if_eq_f (bool_inR z12) dX9_takesShip_81 (tgt := 122) (by decide) c14 ?_
    refine j_aload_n (j := 0) dX9_takesShip_84 rfl rfl ?_
    refine j_bipush dX9_takesShip_85 rfl ?_
    obtain ⟨p16, e15, h⟩ := obind_elim h
    refine j_callV MX9_342 YX9_skips IX9_skips SX9_skips (by decide) rfl (by decide) (by omega) (Nat.le_of_ble_eq_true rfl) rfl (ctX9_skips (d := d - 1) hl (by omega) (inR_lit _ rfl) e15) dX9_takesShip_87 (VK_c 9 349 rfl).1 (VK_c 9 349 rfl).lt (VK_c 9 349 rfl).ka rfl (fun z17 xt18 => ?_)
    by_cases c19 : p16.1 = 0
    · rw [if_pos c19] at h
      refine j_if_eq_t (bool_inR z17) dX9_takesShip_90 (tgt := 122) (by decide) c19 ?_
      refine j_iconst dX9_takesShip_122 ?_
      cases h
      exact j_iret dX9_takesShip_123 rfl ((nar_bool (Or.inl rfl)).1) rfl (Or.inl rfl)
    · rw [if_neg c19] at h
      refine j_if_eq_f (bool_inR z17) dX9_takesShip_90 (tgt := 122) (by decide) c19 ?_
      refine j_aload_n (j := 0) dX9_takesShip_93 rfl rfl ?_
      refine j_iconst dX9_takesShip_94 ?_
      obtain ⟨p21, e20, h⟩ := obind_elim h
      refine j_callV MX9_339 YX9_takesNumber IX9_takesNumber SX9_takesNumber (by decide) rfl (by decide) (by omega) (Nat.le_of_ble_eq_true rfl) rfl (ctX9_takesNumber (d := d - 1) hl (by omega) (inR_lit _ rfl) e20) dX9_takesShip_95 (VK_c 9 349 rfl).1 (VK_c 9 349 rfl).lt (VK_c 9 349 rfl).ka rfl (fun z22 xt23 => ?_)
      by_cases c24 : p21.1 = 0
      · rw [if_pos c24] at h
        refine j_if_eq_t (bool_inR z22) dX9_takesShip_98 (tgt := 122) (by decide) c24 ?_
        refine j_iconst dX9_takesShip_122 ?_
        cases h
        exact j_iret dX9_takesShip_123 rfl ((nar_bool (Or.inl rfl)).1) rfl (Or.inl rfl)
      · rw [if_neg c24] at h
        refine j_if_eq_f (bool_inR z22) dX9_takesShip_98 (tgt := 122) (by decide) c24 ?_
        refine j_aload_n (j := 0) dX9_takesShip_101 rfl rfl ?_
        refine j_bipush dX9_takesShip_102 rfl ?_
        obtain ⟨p26, e25, h⟩ := obind_elim h
        refine j_callV MX9_342 YX9_skips IX9_skips SX9_skips (by decide) rfl (by decide) (by omega) (Nat.le_of_ble_eq_true rfl) rfl (ctX9_skips (d := d - 1) hl (by omega) (inR_lit _ rfl) e25) dX9_takesShip_104 (VK_c 9 349 rfl).1 (VK_c 9 349 rfl).lt (VK_c 9 349 rfl).ka rfl (fun z27 xt28 => ?_)
        by_cases c29 : p26.1 = 0
        · rw [if_pos c29] at h
          refine j_if_eq_t (bool_inR z27) dX9_takesShip_107 (tgt := 122) (by decide) c29 ?_
          refine j_iconst dX9_takesShip_122 ?_
          cases h
          exact j_iret dX9_takesShip_123 rfl ((nar_bool (Or.inl rfl)).1) rfl (Or.inl rfl)
        · rw [if_neg c29] at h
          refine j_if_eq_f (bool_inR z27) dX9_takesShip_107 (tgt := 122) (by decide) c29 ?_
          refine j_aload_n (j := 0) dX9_takesShip_110 rfl rfl ?_
          refine j_iconst dX9_takesShip_111 ?_
          obtain ⟨p31, e30, h⟩ := obind_elim h
          refine j_callV MX9_339 YX9_takesNumber IX9_takesNumber SX9_takesNumber (by decide) rfl (by decide) (by omega) (Nat.le_of_ble_eq_true rfl) rfl (ctX9_takesNumber (d := d - 1) hl (by omega) (inR_lit _ rfl) e30) dX9_takesShip_112 (VK_c 9 349 rfl).1 (VK_c 9 349 rfl).lt (VK_c 9 349 rfl).ka rfl (fun z32 xt33 => ?_)
          by_cases c34 : p31.1 = 0
          · rw [if_pos c34] at h
            refine j_if_eq_t (bool_inR z32) dX9_takesShip_115 (tgt := 122) (by decide) c34 ?_
            refine j_iconst dX9_takesShip_122 ?_
            cases h
            exact j_iret dX9_takesShip_123 rfl ((nar_bool (Or.inl rfl)).1) rfl (Or.inl rfl)
          · rw [if_neg c34] at h
            refine j_if_eq_f (bool_inR z32) dX9_takesShip_115 (tgt := 122) (by decide) c34 ?_
            refine j_iconst dX9_takesShip_118 ?_
            refine j_goto (tgt := 123) dX9_takesShip_119 (by decide) ?_
            cases h
            exact j_iret dX9_takesShip_123 rfl ((nar_bool (Or.inr rfl)).1) rfl (Or.inr rfl)
set_option maxRecDepth 100000 in
theorem tX9_takesShip_0 {g : JG} {l : Launch} {d N n0 s0 : Nat} {out : Int × AH} {A : AH} (hl : l.stackTraces = false) (hd : 3 ≤ d) (h : fX9_takesShip N A  = some out) : J g l d RX9 "takesShip" cX9_takesShip 1 (some .boolean) n0 s0 ((0, some (vI out.1), out.2) : JO) ((out.1 = 0 ∨ out.1 = 1)) 0 [(0, .ref (gB g + 349))] [] A := by
  unfold fX9_takesShip at h
  refine j_aload_n (j := 0) dX9_takesShip_0 rfl rfl ?_
  refine j_getR (q := 370) FX9_71 rfl dX9_takesShip_1 (by decide) (by decide) rfl rfl (by decide) ?_
  refine j_iconst dX9_takesShip_4 ?_
  refine j_aload_n (j := 0) dX9_takesShip_5 rfl rfl ?_
  refine j_getI FX9_336 rfl dX9_takesShip_6 (VK_c 9 349 rfl).1 (VK_c 9 349 rfl).lt (VK_c 9 349 rfl).ka (fun r1 => ?_)
  refine j_imul dX9_takesShip_9 ?_
  refine j_aload_n (j := 0) dX9_takesShip_10 rfl rfl ?_
  obtain ⟨z3, e2, h⟩ := obind_elim h
  refine j_callV MX9_333 YX9_sign IX9_sign SX9_sign (by decide) rfl (by decide) (by omega) (Nat.le_of_ble_eq_true rfl) rfl (ctX9_sign (d := d - 1) hl (by omega)  e2) dX9_takesShip_11 (VK_c 9 349 rfl).1 (VK_c 9 349 rfl).lt (VK_c 9 349 rfl).ka rfl (fun z4 _ => ?_)
  refine j_bipush dX9_takesShip_14 rfl ?_
  refine j_isub dX9_takesShip_16 ?_
  obtain ⟨c6, h⟩ := chk_elim h
  obtain ⟨A7, eA7, h⟩ := bnd_elim h
  have xA7 : XT A A7 := by rw [eA7]; exact XT_sI _ _ _ _
  refine j_iast (wrap_inR _) (wrap_inR _) (by decide) (by decide) rfl dX9_takesShip_17 (VK_c 40 370 rfl).1 (VK_c 40 370 rfl).lt (VK_c 40 370 rfl).ka c6 ?_
  refine j_hB eA7 ?_
  refine j_aload_n (j := 0) dX9_takesShip_18 rfl rfl ?_
  refine j_dup dX9_takesShip_19 rfl ?_
  refine j_getI FX9_330 rfl dX9_takesShip_20 (VK_c 9 349 rfl).1 (VK_c 9 349 rfl).lt (VK_c 9 349 rfl).ka (fun r8 => ?_)
  refine j_iconst dX9_takesShip_23 ?_
  refine j_iadd dX9_takesShip_24 ?_
  obtain ⟨A9, eA9, h⟩ := bnd_elim h
  have xA9 : XT A7 A9 := by rw [eA9]; exact XT_sI _ _ _ _
  refine j_putI FX9_330 rfl rfl rfl (wrap_inR _) dX9_takesShip_25 (VK_c 9 349 rfl).1 (VK_c 9 349 rfl).lt (VK_c 9 349 rfl).ka ?_
  refine j_hB eA9 ?_
  refine j_aload_n (j := 0) dX9_takesShip_28 rfl rfl ?_
  obtain ⟨z11, e10, h⟩ := obind_elim h
  refine j_callV MX9_333 YX9_sign IX9_sign SX9_sign (by decide) rfl (by decide) (by omega) (Nat.le_of_ble_eq_true rfl) rfl (ctX9_sign (d := d - 1) hl (by omega)  e10) dX9_takesShip_29 (VK_c 9 349 rfl).1 (VK_c 9 349 rfl).lt (VK_c 9 349 rfl).ka rfl (fun z12 _ => ?_)
  refine j_bipush dX9_takesShip_32 rfl ?_
  by_cases c14 : z11 = 105
  · rw [if_pos c14] at h
    refine j_icmp_eq_t z12 (inR_lit _ rfl) dX9_takesShip_34 (tgt := 48) (by decide) c14 ?_
    exact j_sub [0] rfl (tX9_takesShip_48 hl (by omega)   h)
  · rw [if_neg c14] at h
    refine j_icmp_eq_f z12 (inR_lit _ rfl) dX9_takesShip_34 (tgt := 48) (by decide) c14 ?_
    refine j_aload_n (j := 0) dX9_takesShip_37 rfl rfl ?_
    obtain ⟨z16, e15, h⟩ := obind_elim h
    refine j_callV MX9_333 YX9_sign IX9_sign SX9_sign (by decide) rfl (by decide) (by omega) (Nat.le_of_ble_eq_true rfl) rfl (ctX9_sign (d := d - 1) hl (by omega)  e15) dX9_takesShip_38 (VK_c 9 349 rfl).1 (VK_c 9 349 rfl).lt (VK_c 9 349 rfl).ka rfl (fun z17 _ => ?_)
    refine j_bipush dX9_takesShip_41 rfl ?_
    by_cases c19 : z16 = 111
    · rw [if_pos c19] at h
      refine j_icmp_eq_t z17 (inR_lit _ rfl) dX9_takesShip_43 (tgt := 48) (by decide) c19 ?_
      exact j_sub [0] rfl (tX9_takesShip_48 hl (by omega)   h)
    · rw [if_neg c19] at h
      refine j_icmp_eq_f z17 (inR_lit _ rfl) dX9_takesShip_43 (tgt := 48) (by decide) c19 ?_
      refine j_iconst dX9_takesShip_46 ?_
      cases h
      exact j_iret dX9_takesShip_47 rfl ((nar_bool (Or.inl rfl)).1) rfl (Or.inl rfl)
theorem ctX9_takesShip {g : JG} {l : Launch} {d N : Nat} {A : AH} {out : Int × AH} (hl : l.stackTraces = false) (hd : 3 ≤ d) (h : fX9_takesShip N A  = some out) : CT g l yX9_takesShip cX9_takesShip 1 (some .boolean) d [.ref (gB g + 349)] A ((0, some (vI out.1), out.2) : JO) ((out.1 = 0 ∨ out.1 = 1)) :=
  CT_of (by decide +kernel) hl (by first | exact Nat.le_of_ble_eq_true rfl | (unfold rv; split <;> exact Nat.le_of_ble_eq_true rfl)) (by first | rfl | (unfold rv; split <;> rfl)) (j_sub (lv := [(0, .ref (gB g + 349))]) [0] rfl (tX9_takesShip_0 hl hd  h))
set_option maxRecDepth 100000 in
theorem tX9_takesItem_106 {g : JG} {l : Launch} {d N n0 s0 : Nat} {out : Int × AH} {A : AH} (hl : l.stackTraces = false) (hd : 4 ≤ d) (h : fX9_takesItem_106 N A  = some out) : J g l d RX9 "takesItem" cX9_takesItem 2 (some .boolean) n0 s0 ((0, some (vI out.1), out.2) : JO) ((out.1 = 0 ∨ out.1 = 1)) 106 [(0, .ref (gB g + 349))] [] A := by
  unfold fX9_takesItem_106 at h
  refine j_aload_n (j := 0) dX9_takesItem_106 rfl rfl ?_
  refine j_dup dX9_takesItem_107 rfl ?_
  refine j_getI FX9_336 rfl dX9_takesItem_108 (VK_c 9 349 rfl).1 (VK_c 9 349 rfl).lt (VK_c 9 349 rfl).ka (fun r1 => ?_)
  refine j_iconst dX9_takesItem_111 ?_
  refine j_iadd dX9_takesItem_112 ?_
  obtain ⟨A2, eA2, h⟩ := bnd_elim h
  have xA2 : XT A A2 := by rw [eA2]; exact XT_sI _ _ _ _
  refine j_putI FX9_336 rfl rfl rfl (wrap_inR _) dX9_takesItem_113 (VK_c 9 349 rfl).1 (VK_c 9 349 rfl).lt (VK_c 9 349 rfl).ka ?_
  refine j_hB eA2 ?_
  refine j_iconst dX9_takesItem_116 ?_
  cases h
  exact j_iret dX9_takesItem_117 rfl ((nar_bool (Or.inr rfl)).1) rfl (Or.inr rfl)
set_option maxRecDepth 100000 in
theorem tX9_takesItem_45 {g : JG} {l : Launch} {d N n0 s0 : Nat} {out : Int × AH} {A : AH} {x1 : Int} (hl : l.stackTraces = false) (hd : 4 ≤ d) (hx1 : inR x1) (h : fX9_takesItem_45 N A x1 = some out) : J g l d RX9 "takesItem" cX9_takesItem 2 (some .boolean) n0 s0 ((0, some (vI out.1), out.2) : JO) ((out.1 = 0 ∨ out.1 = 1)) 45 [(0, .ref (gB g + 349)), (1, vI x1)] [] A := by
  unfold fX9_takesItem_45 at h
  refine j_aload_n (j := 0) dX9_takesItem_45 rfl rfl ?_
  refine j_getR (q := 369) FX9_68 rfl dX9_takesItem_46 (by decide) (by decide) rfl rfl (by decide) ?_
  refine j_aload_n (j := 0) dX9_takesItem_49 rfl rfl ?_
  refine j_getI FX9_336 rfl dX9_takesItem_50 (VK_c 9 349 rfl).1 (VK_c 9 349 rfl).lt (VK_c 9 349 rfl).ka (fun r1 => ?_)
  refine j_aload_n (j := 0) dX9_takesItem_53 rfl rfl ?_
  refine j_getR (q := 368) FX9_64 rfl dX9_takesItem_54 (by decide) (by decide) rfl rfl (by decide) ?_
  refine j_aload_n (j := 0) dX9_takesItem_57 rfl rfl ?_
  refine j_getI FX9_330 rfl dX9_takesItem_58 (VK_c 9 349 rfl).1 (VK_c 9 349 rfl).lt (VK_c 9 349 rfl).ka (fun r2 => ?_)
  obtain ⟨c3, h⟩ := chk_elim h
  refine j_cald r2 (by decide) (by decide) rfl dX9_takesItem_61 (VK_c 38 368 rfl).1 (VK_c 38 368 rfl).lt (VK_c 38 368 rfl).ka c3 (fun r4 => ?_)
  obtain ⟨c5, h⟩ := chk_elim h
  obtain ⟨c6, h⟩ := chk_elim h
  obtain ⟨A7, eA7, h⟩ := bnd_elim h
  have xA7 : XT A A7 := by rw [eA7]; exact XT_sI _ _ _ _
  refine j_cast r1 c6 (by decide) (by decide) rfl dX9_takesItem_62 (VK_c 39 369 rfl).1 (VK_c 39 369 rfl).lt (VK_c 39 369 rfl).ka c5 ?_
  refine j_hB eA7 ?_
  refine j_aload_n (j := 0) dX9_takesItem_63 rfl rfl ?_
  refine j_dup dX9_takesItem_64 rfl ?_
  refine j_getI FX9_330 rfl dX9_takesItem_65 (VK_c 9 349 rfl).1 (VK_c 9 349 rfl).lt (VK_c 9 349 rfl).ka (fun r8 => ?_)
  refine j_iconst dX9_takesItem_68 ?_
  refine j_iadd dX9_takesItem_69 ?_
  obtain ⟨A9, eA9, h⟩ := bnd_elim h
  have xA9 : XT A7 A9 := by rw [eA9]; exact XT_sI _ _ _ _
  refine j_putI FX9_330 rfl rfl rfl (wrap_inR _) dX9_takesItem_70 (VK_c 9 349 rfl).1 (VK_c 9 349 rfl).lt (VK_c 9 349 rfl).ka ?_
  refine j_hB eA9 ?_
  refine j_aload_n (j := 0) dX9_takesItem_73 rfl rfl ?_
  refine j_iconst dX9_takesItem_74 ?_
  obtain ⟨p11, e10, h⟩ := obind_elim h
  refine j_callV MX9_339 YX9_takesNumber IX9_takesNumber SX9_takesNumber (by decide) rfl (by decide) (by omega) (Nat.le_of_ble_eq_true rfl) rfl (ctX9_takesNumber (d := d - 1) hl (by omega) (inR_lit _ rfl) e10) dX9_takesItem_75 (VK_c 9 349 rfl).1 (VK_c 9 349 rfl).lt (VK_c 9 349 rfl).ka rfl (fun z12 xt13 => ?_)
  by_cases c14 : p11.1 = 0
  · rw [if_pos c14] at h
    refine j_if_eq_t (bool_inR z12) dX9_takesItem_78 (tgt := 104) (by decide) c14 ?_
    refine j_iconst dX9_takesItem_104 ?_
    cases h
    exact j_iret dX9_takesItem_105 rfl ((nar_bool (Or.inl rfl)).1) rfl (Or.inl rfl)
  · rw [if_neg c14] at h
    refine j_if_eq_f (bool_inR z12) dX9_takesItem_78 (tgt := 104) (by decide) c14 ?_
    refine j_iload_n (j := 1) dX9_takesItem_81 rfl rfl ?_
    refine j_bipush dX9_takesItem_82 rfl ?_
    by_cases c15 : x1 = 100
    · rw [if_pos c15] at h
      refine j_icmp_ne_f hx1 (inR_lit _ rfl) dX9_takesItem_84 (tgt := 106) (by decide) (fun q => q c15) ?_
      refine j_aload_n (j := 0) dX9_takesItem_87 rfl rfl ?_
      refine j_bipush dX9_takesItem_88 rfl ?_
      obtain ⟨p17, e16, h⟩ := obind_elim h
      refine j_callV MX9_342 YX9_skips IX9_skips SX9_skips (by decide) rfl (by decide) (by omega) (Nat.le_of_ble_eq_true rfl) rfl (ctX9_skips (d := d - 1) hl (by omega) (inR_lit _ rfl) e16) dX9_takesItem_90 (VK_c 9 349 rfl).1 (VK_c 9 349 rfl).lt (VK_c 9 349 rfl).ka rfl (fun z18 xt19 => ?_)
      by_cases c20 : p17.1 = 0
      · rw [if_pos c20] at h
        refine j_if_eq_t (bool_inR z18) dX9_takesItem_93 (tgt := 104) (by decide) c20 ?_
        refine j_iconst dX9_takesItem_104 ?_
        cases h
        exact j_iret dX9_takesItem_105 rfl ((nar_bool (Or.inl rfl)).1) rfl (Or.inl rfl)
      · rw [if_neg c20] at h
        refine j_if_eq_f (bool_inR z18) dX9_takesItem_93 (tgt := 104) (by decide) c20 ?_
        refine j_aload_n (j := 0) dX9_takesItem_96 rfl rfl ?_
        refine j_iconst dX9_takesItem_97 ?_
        obtain ⟨p22, e21, h⟩ := obind_elim h
        refine j_callV MX9_339 YX9_takesNumber IX9_takesNumber SX9_takesNumber (by decide) rfl (by decide) (by omega) (Nat.le_of_ble_eq_true rfl) rfl (ctX9_takesNumber (d := d - 1) hl (by omega) (inR_lit _ rfl) e21) dX9_takesItem_98 (VK_c 9 349 rfl).1 (VK_c 9 349 rfl).lt (VK_c 9 349 rfl).ka rfl (fun z23 xt24 => ?_)
        by_cases c25 : p22.1 = 0
        · rw [if_pos c25] at h
          refine j_if_ne_f (bool_inR z23) dX9_takesItem_101 (tgt := 106) (by decide) (fun q => q c25) ?_
          refine j_iconst dX9_takesItem_104 ?_
          cases h
          exact j_iret dX9_takesItem_105 rfl ((nar_bool (Or.inl rfl)).1) rfl (Or.inl rfl)
        · rw [if_neg c25] at h
          refine j_if_ne_t (bool_inR z23) dX9_takesItem_101 (tgt := 106) (by decide) c25 ?_
          exact j_sub [0] rfl (tX9_takesItem_106 hl (by omega)   h)
    · rw [if_neg c15] at h
      refine j_icmp_ne_t hx1 (inR_lit _ rfl) dX9_takesItem_84 (tgt := 106) (by decide) c15 ?_
      exact j_sub [0] rfl (tX9_takesItem_106 hl (by omega)   h)
set_option maxRecDepth 100000 in
theorem tX9_takesItem_0 {g : JG} {l : Launch} {d N n0 s0 : Nat} {out : Int × AH} {A : AH} (hl : l.stackTraces = false) (hd : 4 ≤ d) (h : fX9_takesItem N A  = some out) : J g l d RX9 "takesItem" cX9_takesItem 2 (some .boolean) n0 s0 ((0, some (vI out.1), out.2) : JO) ((out.1 = 0 ∨ out.1 = 1)) 0 [(0, .ref (gB g + 349))] [] A := by
  unfold fX9_takesItem at h
  refine j_aload_n (j := 0) dX9_takesItem_0 rfl rfl ?_
  obtain ⟨z2, e1, h⟩ := obind_elim h
  refine j_callV MX9_333 YX9_sign IX9_sign SX9_sign (by decide) rfl (by decide) (by omega) (Nat.le_of_ble_eq_true rfl) rfl (ctX9_sign (d := d - 1) hl (by omega)  e1) dX9_takesItem_1 (VK_c 9 349 rfl).1 (VK_c 9 349 rfl).lt (VK_c 9 349 rfl).ka rfl (fun z3 _ => ?_)
  refine j_istore_n (lv' := [(1, vI z2), (0, .ref (gB g + 349))]) dX9_takesItem_4 rfl (by decide) (by first | rfl | (simp only [List.all_cons, List.all_nil, rv_cat]; rfl)) rfl ?_
  refine j_iload_n (j := 0) dX9_takesItem_5 rfl rfl ?_
  refine j_bipush dX9_takesItem_6 rfl ?_
  refine j_bipush dX9_takesItem_8 rfl ?_
  obtain ⟨z6, e5, h⟩ := obind_elim h
  refine j_callS MX9_90 YX9_isBetween IX9_isBetween (by decide) (by omega) (Nat.le_of_ble_eq_true rfl) rfl (ctX9_isBetween (d := d - 1) hl (by omega) z3 (inR_lit _ rfl) (inR_lit _ rfl) e5) dX9_takesItem_10 rfl (fun z7 _ => ?_)
  by_cases c9 : z6 = 0
  · rw [if_pos c9] at h
    refine j_if_eq_t (bool_inR z7) dX9_takesItem_13 (tgt := 25) (by decide) c9 ?_
    refine j_iload_n (j := 0) dX9_takesItem_25 rfl rfl ?_
    refine j_bipush dX9_takesItem_26 rfl ?_
    by_cases c10 : z2 = 115
    · rw [if_pos c10] at h
      refine j_icmp_eq_t z3 (inR_lit _ rfl) dX9_takesItem_28 (tgt := 45) (by decide) c10 ?_
      exact j_sub [1, 0] rfl (tX9_takesItem_45 hl (by omega) z3  h)
    · rw [if_neg c10] at h
      refine j_icmp_eq_f z3 (inR_lit _ rfl) dX9_takesItem_28 (tgt := 45) (by decide) c10 ?_
      refine j_iload_n (j := 0) dX9_takesItem_31 rfl rfl ?_
      refine j_bipush dX9_takesItem_32 rfl ?_
      by_cases c11 : z2 = 100
      · rw [if_pos c11] at h
        refine j_icmp_eq_t z3 (inR_lit _ rfl) dX9_takesItem_34 (tgt := 45) (by decide) c11 ?_
        exact j_sub [1, 0] rfl (tX9_takesItem_45 hl (by omega) z3  h)
      · rw [if_neg c11] at h
        refine j_icmp_eq_f z3 (inR_lit _ rfl) dX9_takesItem_34 (tgt := 45) (by decide) c11 ?_
        refine j_iload_n (j := 0) dX9_takesItem_37 rfl rfl ?_
        refine j_bipush dX9_takesItem_38 rfl ?_
        by_cases c12 : z2 = 119
        · rw [if_pos c12] at h
          refine j_icmp_eq_t z3 (inR_lit _ rfl) dX9_takesItem_40 (tgt := 45) (by decide) c12 ?_
          exact j_sub [1, 0] rfl (tX9_takesItem_45 hl (by omega) z3  h)
        · rw [if_neg c12] at h
          refine j_icmp_eq_f z3 (inR_lit _ rfl) dX9_takesItem_40 (tgt := 45) (by decide) c12 ?_
          refine j_iconst dX9_takesItem_43 ?_
          cases h
          exact j_iret dX9_takesItem_44 rfl ((nar_bool (Or.inl rfl)).1) rfl (Or.inl rfl)
  · rw [if_neg c9] at h
    refine j_if_eq_f (bool_inR z7) dX9_takesItem_13 (tgt := 25) (by decide) c9 ?_
    refine j_aload_n (j := 1) dX9_takesItem_16 rfl rfl ?_
    obtain ⟨p14, e13, h⟩ := obind_elim h
    refine j_callV MX9_345 YX9_takesShip IX9_takesShip SX9_takesShip (by decide) rfl (by decide) (by omega) (Nat.le_of_ble_eq_true rfl) rfl (ctX9_takesShip (d := d - 1) hl (by omega)  e13) dX9_takesItem_17 (VK_c 9 349 rfl).1 (VK_c 9 349 rfl).lt (VK_c 9 349 rfl).ka rfl (fun z15 xt16 => ?_)
    by_cases c17 : p14.1 = 0
    · rw [if_pos c17] at h
      refine j_if_ne_f (bool_inR z15) dX9_takesItem_20 (tgt := 106) (by decide) (fun q => q c17) ?_
      refine j_iconst dX9_takesItem_23 ?_
      cases h
      exact j_iret dX9_takesItem_24 rfl ((nar_bool (Or.inl rfl)).1) rfl (Or.inl rfl)
    · rw [if_neg c17] at h
      refine j_if_ne_t (bool_inR z15) dX9_takesItem_20 (tgt := 106) (by decide) c17 ?_
      exact j_sub [1] rfl (tX9_takesItem_106 hl (by omega)   h)
theorem ctX9_takesItem {g : JG} {l : Launch} {d N : Nat} {A : AH} {out : Int × AH} (hl : l.stackTraces = false) (hd : 4 ≤ d) (h : fX9_takesItem N A  = some out) : CT g l yX9_takesItem cX9_takesItem 2 (some .boolean) d [.ref (gB g + 349)] A ((0, some (vI out.1), out.2) : JO) ((out.1 = 0 ∨ out.1 = 1)) :=
  CT_of (by decide +kernel) hl (by first | exact Nat.le_of_ble_eq_true rfl | (unfold rv; split <;> exact Nat.le_of_ble_eq_true rfl)) (by first | rfl | (unfold rv; split <;> rfl)) (j_sub (lv := [(0, .ref (gB g + 349))]) [0] rfl (tX9_takesItem_0 hl hd  h))
set_option maxRecDepth 100000 in
theorem tX9_takesText_10 {g : JG} {l : Launch} {d N n0 s0 : Nat} {out : Int × AH} (hl : l.stackTraces = false) (hd : 5 ≤ d) : ∀ (n : Nat) (A : AH), fX9_takesText_10 N n A  = some out → J g l d RX9 "takesText" cX9_takesText 1 (some .boolean) n0 s0 ((0, some (vI out.1), out.2) : JO) ((out.1 = 0 ∨ out.1 = 1)) 10 [(0, .ref (gB g + 349))] [] A := by
  intro n
  induction n with
  | zero =>
    intro A   h
    rw [fX9_takesText_10] at h
    cases h
  | succ n ih =>
    intro A   h
    rw [fX9_takesText_10] at h
    refine j_aload_n (j := 0) dX9_takesText_10 rfl rfl ?_
    obtain ⟨p2, e1, h⟩ := obind_elim h
    refine j_callV MX9_349 YX9_takesItem IX9_takesItem SX9_takesItem (by decide) rfl (by decide) (by omega) (Nat.le_of_ble_eq_true rfl) rfl (ctX9_takesItem (d := d - 1) hl (by omega)  e1) dX9_takesText_11 (VK_c 9 349 rfl).1 (VK_c 9 349 rfl).lt (VK_c 9 349 rfl).ka rfl (fun z3 xt4 => ?_)
    by_cases c5 : p2.1 = 0
    · rw [if_pos c5] at h
      refine j_if_ne_f (bool_inR z3) dX9_takesText_14 (tgt := 19) (by decide) (fun q => q c5) ?_
      refine j_iconst dX9_takesText_17 ?_
      cases h
      exact j_iret dX9_takesText_18 rfl ((nar_bool (Or.inl rfl)).1) rfl (Or.inl rfl)
    · rw [if_neg c5] at h
      refine j_if_ne_t (bool_inR z3) dX9_takesText_14 (tgt := 19) (by decide) c5 ?_
      refine j_aload_n (j := 0) dX9_takesText_19 rfl rfl ?_
      refine j_bipush dX9_takesText_20 rfl ?_
      obtain ⟨p7, e6, h⟩ := obind_elim h
      refine j_callV MX9_342 YX9_skips IX9_skips SX9_skips (by decide) rfl (by decide) (by omega) (Nat.le_of_ble_eq_true rfl) rfl (ctX9_skips (d := d - 1) hl (by omega) (inR_lit _ rfl) e6) dX9_takesText_22 (VK_c 9 349 rfl).1 (VK_c 9 349 rfl).lt (VK_c 9 349 rfl).ka rfl (fun z8 xt9 => ?_)
      by_cases c10 : p7.1 = 0
      · rw [if_pos c10] at h
        refine j_if_ne_f (bool_inR z8) dX9_takesText_25 (tgt := 10) (by decide) (fun q => q c10) ?_
        refine j_aload_n (j := 0) dX9_takesText_28 rfl rfl ?_
        refine j_getI FX9_330 rfl dX9_takesText_29 (VK_c 9 349 rfl).1 (VK_c 9 349 rfl).lt (VK_c 9 349 rfl).ka (fun r11 => ?_)
        refine j_aload_n (j := 0) dX9_takesText_32 rfl rfl ?_
        refine j_getI FX9_325 rfl dX9_takesText_33 (VK_c 9 349 rfl).1 (VK_c 9 349 rfl).lt (VK_c 9 349 rfl).ka (fun r12 => ?_)
        by_cases c13 : (gI p7.2 349 35) = (gI p7.2 349 34)
        · rw [if_pos c13] at h
          refine j_icmp_ne_f r11 r12 dX9_takesText_36 (tgt := 43) (by decide) (fun q => q c13) ?_
          refine j_iconst dX9_takesText_39 ?_
          refine j_goto (tgt := 44) dX9_takesText_40 (by decide) ?_
          cases h
          exact j_iret dX9_takesText_44 rfl ((nar_bool (Or.inr rfl)).1) rfl (Or.inr rfl)
        · rw [if_neg c13] at h
          refine j_icmp_ne_t r11 r12 dX9_takesText_36 (tgt := 43) (by decide) c13 ?_
          refine j_iconst dX9_takesText_43 ?_
          cases h
          exact j_iret dX9_takesText_44 rfl ((nar_bool (Or.inl rfl)).1) rfl (Or.inl rfl)
      · rw [if_neg c10] at h
        refine j_if_ne_t (bool_inR z8) dX9_takesText_25 (tgt := 10) (by decide) c10 ?_
        exact j_sub [0] rfl (ih p7.2   h)
set_option maxRecDepth 100000 in
theorem tX9_takesText_0 {g : JG} {l : Launch} {d N n0 s0 : Nat} {out : Int × AH} {A : AH} (hl : l.stackTraces = false) (hd : 5 ≤ d) (h : fX9_takesText N A  = some out) : J g l d RX9 "takesText" cX9_takesText 1 (some .boolean) n0 s0 ((0, some (vI out.1), out.2) : JO) ((out.1 = 0 ∨ out.1 = 1)) 0 [(0, .ref (gB g + 349))] [] A := by
  unfold fX9_takesText at h
  refine j_aload_n (j := 0) dX9_takesText_0 rfl rfl ?_
  refine j_iconst dX9_takesText_1 ?_
  obtain ⟨A1, eA1, h⟩ := bnd_elim h
  have xA1 : XT A A1 := by rw [eA1]; exact XT_sI _ _ _ _
  refine j_putI FX9_330 rfl rfl rfl (inR_lit _ rfl) dX9_takesText_2 (VK_c 9 349 rfl).1 (VK_c 9 349 rfl).lt (VK_c 9 349 rfl).ka ?_
  refine j_hB eA1 ?_
  refine j_aload_n (j := 0) dX9_takesText_5 rfl rfl ?_
  refine j_iconst dX9_takesText_6 ?_
  obtain ⟨A2, eA2, h⟩ := bnd_elim h
  have xA2 : XT A1 A2 := by rw [eA2]; exact XT_sI _ _ _ _
  refine j_putI FX9_336 rfl rfl rfl (inR_lit _ rfl) dX9_takesText_7 (VK_c 9 349 rfl).1 (VK_c 9 349 rfl).lt (VK_c 9 349 rfl).ka ?_
  refine j_hB eA2 ?_
  exact j_sub [0] rfl (tX9_takesText_10 hl (by omega)   N A2   h)
theorem ctX9_takesText {g : JG} {l : Launch} {d N : Nat} {A : AH} {out : Int × AH} (hl : l.stackTraces = false) (hd : 5 ≤ d) (h : fX9_takesText N A  = some out) : CT g l yX9_takesText cX9_takesText 1 (some .boolean) d [.ref (gB g + 349)] A ((0, some (vI out.1), out.2) : JO) ((out.1 = 0 ∨ out.1 = 1)) :=
  CT_of (by decide +kernel) hl (by first | exact Nat.le_of_ble_eq_true rfl | (unfold rv; split <;> exact Nat.le_of_ble_eq_true rfl)) (by first | rfl | (unfold rv; split <;> rfl)) (j_sub (lv := [(0, .ref (gB g + 349))]) [0] rfl (tX9_takesText_0 hl hd  h))
set_option maxRecDepth 100000 in
theorem tX9_does_168 {g : JG} {l : Launch} {d N n0 s0 : Nat} {out : Int × AH} {A : AH} {xs0 : Int} (hl : l.stackTraces = false) (hd : 10 ≤ d) (hxs0 : inR xs0) (h : fX9_does_168 N A xs0 = some out) : J g l d RX9 "does" cX9_does 7 (some .int) n0 s0 ((0, some (vI out.1), out.2) : JO) (inR out.1) 168 [(0, .ref (gB g + 349))] [vI xs0] A := by
  unfold fX9_does_168 at h
  refine j_istore (lv' := [(6, vI xs0), (0, .ref (gB g + 349))]) dX9_does_168 (by decide) (by first | rfl | (simp only [List.all_cons, List.all_nil, rv_cat]; rfl)) rfl ?_
  refine j_iload (j := 0) dX9_does_170 rfl ?_
  by_cases c1 : xs0 = 0
  · rw [if_pos c1] at h
    refine j_if_eq_t hxs0 dX9_does_172 (tgt := 182) (by decide) c1 ?_
    refine j_bipush dX9_does_182 rfl ?_
    cases h
    exact j_iret dX9_does_184 rfl rfl rfl (inR_lit _ rfl)
  · rw [if_neg c1] at h
    refine j_if_eq_f hxs0 dX9_does_172 (tgt := 182) (by decide) c1 ?_
    refine j_aload_n (j := 1) dX9_does_175 rfl rfl ?_
    refine j_getI FX9_242 rfl dX9_does_176 (VK_c 9 349 rfl).1 (VK_c 9 349 rfl).lt (VK_c 9 349 rfl).ka (fun r2 => ?_)
    refine j_goto (tgt := 184) dX9_does_179 (by decide) ?_
    cases h
    exact j_iret dX9_does_184 rfl rfl rfl r2
set_option maxRecDepth 100000 in
theorem tX9_does_148 {g : JG} {l : Launch} {d N n0 s0 : Nat} {out : Int × AH} {A : AH} {x4 : Int} (hl : l.stackTraces = false) (hd : 10 ≤ d) (hx4 : inR x4) (h : fX9_does_148 N A x4 = some out) : J g l d RX9 "does" cX9_does 7 (some .int) n0 s0 ((0, some (vI out.1), out.2) : JO) (inR out.1) 148 [(0, .ref (gB g + 349)), (4, vI x4)] [] A := by
  unfold fX9_does_148 at h
  refine j_iload (j := 1) dX9_does_148 rfl ?_
  refine j_bipush dX9_does_150 rfl ?_
  by_cases c1 : x4 = 100
  · rw [if_pos c1] at h
    refine j_icmp_ne_f hx4 (inR_lit _ rfl) dX9_does_152 (tgt := 167) (by decide) (fun q => q c1) ?_
    refine j_aload_n (j := 0) dX9_does_155 rfl rfl ?_
    refine j_getI FX9_87 rfl dX9_does_156 (VK_c 9 349 rfl).1 (VK_c 9 349 rfl).lt (VK_c 9 349 rfl).ka (fun r2 => ?_)
    refine j_iconst dX9_does_159 ?_
    by_cases c3 : (gI A 349 0) = 3
    · rw [if_pos c3] at h
      refine j_icmp_ne_f r2 (inR_lit _ rfl) dX9_does_160 (tgt := 167) (by decide) (fun q => q c3) ?_
      refine j_iconst dX9_does_163 ?_
      refine j_goto (tgt := 168) dX9_does_164 (by decide) ?_
      exact j_sub [0] rfl (tX9_does_168 hl (by omega) (inR_lit _ rfl)  h)
    · rw [if_neg c3] at h
      refine j_icmp_ne_t r2 (inR_lit _ rfl) dX9_does_160 (tgt := 167) (by decide) c3 ?_
      refine j_iconst dX9_does_167 ?_
      exact j_sub [0] rfl (tX9_does_168 hl (by omega) (inR_lit _ rfl)  h)
  · rw [if_neg c1] at h
    refine j_icmp_ne_t hx4 (inR_lit _ rfl) dX9_does_152 (tgt := 167) (by decide) c1 ?_
    refine j_iconst dX9_does_167 ?_
    exact j_sub [0] rfl (tX9_does_168 hl (by omega) (inR_lit _ rfl)  h)
set_option maxRecDepth 100000 in
theorem tX9_does_112 {g : JG} {l : Launch} {d N n0 s0 : Nat} {out : Int × AH} {A : AH} {x4 : Int} {xs0 : Int} (hl : l.stackTraces = false) (hd : 10 ≤ d) (hx4 : inR x4) (hxs0 : inR xs0) (h : fX9_does_112 N A x4 xs0 = some out) : J g l d RX9 "does" cX9_does 7 (some .int) n0 s0 ((0, some (vI out.1), out.2) : JO) (inR out.1) 112 [(0, .ref (gB g + 349)), (4, vI x4)] [vI xs0] A := by
  unfold fX9_does_112 at h
  refine j_istore (lv' := [(5, vI xs0), (0, .ref (gB g + 349)), (4, vI x4)]) dX9_does_112 (by decide) (by first | rfl | (simp only [List.all_cons, List.all_nil, rv_cat]; rfl)) rfl ?_
  refine j_aload_n (j := 1) dX9_does_114 rfl rfl ?_
  refine j_getI FX9_87 rfl dX9_does_115 (VK_c 9 349 rfl).1 (VK_c 9 349 rfl).lt (VK_c 9 349 rfl).ka (fun r1 => ?_)
  by_cases c2 : (gI A 349 0) = 0
  · rw [if_pos c2] at h
    refine j_if_ne_f r1 dX9_does_118 (tgt := 133) (by decide) (fun q => q c2) ?_
    refine j_iload (j := 0) dX9_does_121 rfl ?_
    by_cases c6 : 0 ≤ xs0
    · rw [if_pos c6] at h
      refine j_if_ge_t hxs0 dX9_does_123 (tgt := 131) (by decide) c6 ?_
      refine j_iconst dX9_does_131 ?_
      cases h
      exact j_iret dX9_does_132 rfl rfl rfl (inR_lit _ rfl)
    · rw [if_neg c6] at h
      refine j_if_ge_f hxs0 dX9_does_123 (tgt := 131) (by decide) c6 ?_
      refine j_bipush dX9_does_126 rfl ?_
      refine j_goto (tgt := 132) dX9_does_128 (by decide) ?_
      cases h
      exact j_iret dX9_does_132 rfl rfl rfl (inR_lit _ rfl)
  · rw [if_neg c2] at h
    refine j_if_ne_t r1 dX9_does_118 (tgt := 133) (by decide) c2 ?_
    refine j_iload (j := 2) dX9_does_133 rfl ?_
    refine j_bipush dX9_does_135 rfl ?_
    by_cases c3 : x4 = 115
    · rw [if_pos c3] at h
      refine j_icmp_ne_f hx4 (inR_lit _ rfl) dX9_does_137 (tgt := 148) (by decide) (fun q => q c3) ?_
      refine j_aload_n (j := 1) dX9_does_140 rfl rfl ?_
      refine j_getI FX9_87 rfl dX9_does_141 (VK_c 9 349 rfl).1 (VK_c 9 349 rfl).lt (VK_c 9 349 rfl).ka (fun r4 => ?_)
      refine j_iconst dX9_does_144 ?_
      by_cases c5 : (gI A 349 0) = 2
      · rw [if_pos c5] at h
        refine j_icmp_eq_t r4 (inR_lit _ rfl) dX9_does_145 (tgt := 163) (by decide) c5 ?_
        refine j_iconst dX9_does_163 ?_
        refine j_goto (tgt := 168) dX9_does_164 (by decide) ?_
        exact j_sub [1] rfl (tX9_does_168 hl (by omega) (inR_lit _ rfl)  h)
      · rw [if_neg c5] at h
        refine j_icmp_eq_f r4 (inR_lit _ rfl) dX9_does_145 (tgt := 163) (by decide) c5 ?_
        exact j_sub [1, 2] rfl (tX9_does_148 hl (by omega) hx4  h)
    · rw [if_neg c3] at h
      refine j_icmp_ne_t hx4 (inR_lit _ rfl) dX9_does_137 (tgt := 148) (by decide) c3 ?_
      exact j_sub [1, 2] rfl (tX9_does_148 hl (by omega) hx4  h)
set_option maxRecDepth 100000 in
theorem tX9_does_88 {g : JG} {l : Launch} {d N n0 s0 : Nat} {out : Int × AH} {A : AH} {x1 : Int} {x3 : Int} {x4 : Int} {xs1 : Int} {xs2 : Int} (hl : l.stackTraces = false) (hd : 10 ≤ d) (hx1 : inR x1) (hx3 : inR x3) (hx4 : inR x4) (hxs1 : inR xs1) (hxs2 : inR xs2) (h : fX9_does_88 N A x1 x3 x4 xs1 xs2 = some out) : J g l d RX9 "does" cX9_does 7 (some .int) n0 s0 ((0, some (vI out.1), out.2) : JO) (inR out.1) 88 [(0, .ref (gB g + 349)), (1, vI x1), (3, vI x3), (4, vI x4)] [vI xs2, vI xs1, .ref (gB g + 349)] A := by
  unfold fX9_does_88 at h
  refine j_iload_n (j := 2) dX9_does_88 rfl rfl ?_
  refine j_aload_n (j := 0) dX9_does_89 rfl rfl ?_
  refine j_getR (q := 370) FX9_71 rfl dX9_does_90 (by decide) (by decide) rfl rfl (by decide) ?_
  refine j_iconst dX9_does_93 ?_
  refine j_iload_n (j := 1) dX9_does_94 rfl rfl ?_
  refine j_imul dX9_does_95 ?_
  refine j_iconst dX9_does_96 ?_
  refine j_iadd dX9_does_97 ?_
  obtain ⟨c1, h⟩ := chk_elim h
  refine j_iald (wrap_inR _) (by decide) (by decide) rfl dX9_does_98 (VK_c 40 370 rfl).1 (VK_c 40 370 rfl).lt (VK_c 40 370 rfl).ka c1 (fun r2 => ?_)
  refine j_aload_n (j := 0) dX9_does_99 rfl rfl ?_
  refine j_getR (q := 370) FX9_71 rfl dX9_does_100 (by decide) (by decide) rfl rfl (by decide) ?_
  refine j_iconst dX9_does_103 ?_
  refine j_iload_n (j := 1) dX9_does_104 rfl rfl ?_
  refine j_imul dX9_does_105 ?_
  refine j_iconst dX9_does_106 ?_
  refine j_iadd dX9_does_107 ?_
  obtain ⟨c3, h⟩ := chk_elim h
  refine j_iald (wrap_inR _) (by decide) (by decide) rfl dX9_does_108 (VK_c 40 370 rfl).1 (VK_c 40 370 rfl).lt (VK_c 40 370 rfl).ka c3 (fun r4 => ?_)
  obtain ⟨c5, h⟩ := chk_elim h
  obtain ⟨p7, e6, h⟩ := obind_elim h
  refine j_callV MX9_361 YX9_order IX9_order SX9_order (by decide) rfl (by decide) (by omega) (Nat.le_of_ble_eq_true rfl) rfl (ctX9_order (d := d - 1) hl (by omega) hxs1 c5 hx3 r2 r4 e6) dX9_does_109 (VK_c 9 349 rfl).1 (VK_c 9 349 rfl).lt (VK_c 9 349 rfl).ka rfl (fun z8 xt9 => ?_)
  exact j_sub [0, 3] rfl (tX9_does_112 hl (by omega) hx4 z8  h)
set_option maxRecDepth 100000 in
theorem tX9_does_0 {g : JG} {l : Launch} {d N n0 s0 : Nat} {out : Int × AH} {A : AH} {x1 : Int} (hl : l.stackTraces = false) (hd : 10 ≤ d) (hx1 : inR x1) (h : fX9_does N A x1 = some out) : J g l d RX9 "does" cX9_does 7 (some .int) n0 s0 ((0, some (vI out.1), out.2) : JO) (inR out.1) 0 [(0, .ref (gB g + 349)), (1, vI x1)] [] A := by
  unfold fX9_does at h
  refine j_aload_n (j := 0) dX9_does_0 rfl rfl ?_
  refine j_getR (q := 370) FX9_71 rfl dX9_does_1 (by decide) (by decide) rfl rfl (by decide) ?_
  refine j_iconst dX9_does_4 ?_
  refine j_iload_n (j := 1) dX9_does_5 rfl rfl ?_
  refine j_imul dX9_does_6 ?_
  obtain ⟨c1, h⟩ := chk_elim h
  refine j_iald (wrap_inR _) (by decide) (by decide) rfl dX9_does_7 (VK_c 40 370 rfl).1 (VK_c 40 370 rfl).lt (VK_c 40 370 rfl).ka c1 (fun r2 => ?_)
  obtain ⟨u3, eu3, h⟩ := bnd_elim h
  have hu3 : inR u3 := by rw [eu3]; exact r2
  refine j_nm eu3 ?_
  refine j_istore_n (lv' := [(2, vI u3), (0, .ref (gB g + 349)), (1, vI x1)]) dX9_does_8 rfl (by decide) (by first | rfl | (simp only [List.all_cons, List.all_nil, rv_cat]; rfl)) rfl ?_
  refine j_aload_n (j := 1) dX9_does_9 rfl rfl ?_
  refine j_getR (q := 370) FX9_71 rfl dX9_does_10 (by decide) (by decide) rfl rfl (by decide) ?_
  refine j_iconst dX9_does_13 ?_
  refine j_iload_n (j := 2) dX9_does_14 rfl rfl ?_
  refine j_imul dX9_does_15 ?_
  refine j_iconst dX9_does_16 ?_
  refine j_iadd dX9_does_17 ?_
  obtain ⟨c4, h⟩ := chk_elim h
  refine j_iald (wrap_inR _) (by decide) (by decide) rfl dX9_does_18 (VK_c 40 370 rfl).1 (VK_c 40 370 rfl).lt (VK_c 40 370 rfl).ka c4 (fun r5 => ?_)
  obtain ⟨u6, eu6, h⟩ := bnd_elim h
  have hu6 : inR u6 := by rw [eu6]; exact r5
  refine j_nm eu6 ?_
  refine j_istore_n (lv' := [(3, vI u6), (2, vI u3), (0, .ref (gB g + 349)), (1, vI x1)]) dX9_does_19 rfl (by decide) (by first | rfl | (simp only [List.all_cons, List.all_nil, rv_cat]; rfl)) rfl ?_
  refine j_aload_n (j := 2) dX9_does_20 rfl rfl ?_
  refine j_getR (q := 369) FX9_68 rfl dX9_does_21 (by decide) (by decide) rfl rfl (by decide) ?_
  refine j_iload_n (j := 3) dX9_does_24 rfl rfl ?_
  obtain ⟨c7, h⟩ := chk_elim h
  refine j_cald hx1 (by decide) (by decide) rfl dX9_does_25 (VK_c 39 369 rfl).1 (VK_c 39 369 rfl).lt (VK_c 39 369 rfl).ka c7 (fun r8 => ?_)
  obtain ⟨u9, eu9, h⟩ := bnd_elim h
  have hu9 : inR u9 := by rw [eu9]; exact r8
  refine j_nm eu9 ?_
  refine j_istore (lv' := [(4, vI u9), (3, vI u6), (2, vI u3), (0, .ref (gB g + 349)), (1, vI x1)]) dX9_does_26 (by decide) (by first | rfl | (simp only [List.all_cons, List.all_nil, rv_cat]; rfl)) rfl ?_
  refine j_iload (j := 0) dX9_does_28 rfl ?_
  refine j_bipush dX9_does_30 rfl ?_
  by_cases c10 : u9 = 115
  · rw [if_pos c10] at h
    refine j_icmp_ne_f hu9 (inR_lit _ rfl) dX9_does_32 (tgt := 43) (by decide) (fun q => q c10) ?_
    refine j_aload_n (j := 3) dX9_does_35 rfl rfl ?_
    refine j_iload_n (j := 2) dX9_does_36 rfl rfl ?_
    obtain ⟨p23, e22, h⟩ := obind_elim h
    refine j_callV MX9_352 YX9_serve IX9_serve SX9_serve (by decide) rfl (by decide) (by omega) (Nat.le_of_ble_eq_true rfl) rfl (ctX9_serve (d := d - 1) hl (by omega) hu3 e22) dX9_does_37 (VK_c 9 349 rfl).1 (VK_c 9 349 rfl).lt (VK_c 9 349 rfl).ka rfl (fun z24 xt25 => ?_)
    refine j_goto (tgt := 112) dX9_does_40 (by decide) ?_
    exact j_sub [3, 0] rfl (tX9_does_112 hl (by omega) hu9 z24  h)
  · rw [if_neg c10] at h
    refine j_icmp_ne_t hu9 (inR_lit _ rfl) dX9_does_32 (tgt := 43) (by decide) c10 ?_
    refine j_iload (j := 0) dX9_does_43 rfl ?_
    refine j_bipush dX9_does_45 rfl ?_
    by_cases c11 : u9 = 100
    · rw [if_pos c11] at h
      refine j_icmp_ne_f hu9 (inR_lit _ rfl) dX9_does_47 (tgt := 59) (by decide) (fun q => q c11) ?_
      refine j_aload_n (j := 3) dX9_does_50 rfl rfl ?_
      refine j_iload_n (j := 2) dX9_does_51 rfl rfl ?_
      refine j_iload_n (j := 1) dX9_does_52 rfl rfl ?_
      obtain ⟨p19, e18, h⟩ := obind_elim h
      refine j_callV MX9_355 YX9_putOff IX9_putOff SX9_putOff (by decide) rfl (by decide) (by omega) (Nat.le_of_ble_eq_true rfl) rfl (ctX9_putOff (d := d - 1) hl (by omega) hu3 hu6 e18) dX9_does_53 (VK_c 9 349 rfl).1 (VK_c 9 349 rfl).lt (VK_c 9 349 rfl).ka rfl (fun z20 xt21 => ?_)
      refine j_goto (tgt := 112) dX9_does_56 (by decide) ?_
      exact j_sub [3, 0] rfl (tX9_does_112 hl (by omega) hu9 z20  h)
    · rw [if_neg c11] at h
      refine j_icmp_ne_t hu9 (inR_lit _ rfl) dX9_does_47 (tgt := 59) (by decide) c11 ?_
      refine j_iload (j := 0) dX9_does_59 rfl ?_
      refine j_bipush dX9_does_61 rfl ?_
      by_cases c12 : u9 = 119
      · rw [if_pos c12] at h
        refine j_icmp_ne_f hu9 (inR_lit _ rfl) dX9_does_63 (tgt := 74) (by decide) (fun q => q c12) ?_
        refine j_aload_n (j := 3) dX9_does_66 rfl rfl ?_
        refine j_iload_n (j := 2) dX9_does_67 rfl rfl ?_
        obtain ⟨p15, e14, h⟩ := obind_elim h
        refine j_callV MX9_358 YX9_pass IX9_pass SX9_pass (by decide) rfl (by decide) (by omega) (Nat.le_of_ble_eq_true rfl) rfl (ctX9_pass (d := d - 1) hl (by omega) hu3 e14) dX9_does_68 (VK_c 9 349 rfl).1 (VK_c 9 349 rfl).lt (VK_c 9 349 rfl).ka rfl (fun z16 xt17 => ?_)
        refine j_goto (tgt := 112) dX9_does_71 (by decide) ?_
        exact j_sub [3, 0] rfl (tX9_does_112 hl (by omega) hu9 z16  h)
      · rw [if_neg c12] at h
        refine j_icmp_ne_t hu9 (inR_lit _ rfl) dX9_does_63 (tgt := 74) (by decide) c12 ?_
        refine j_aload_n (j := 3) dX9_does_74 rfl rfl ?_
        refine j_iload_n (j := 2) dX9_does_75 rfl rfl ?_
        refine j_iload (j := 0) dX9_does_76 rfl ?_
        refine j_bipush dX9_does_78 rfl ?_
        by_cases c13 : u9 = 111
        · rw [if_pos c13] at h
          refine j_icmp_ne_f hu9 (inR_lit _ rfl) dX9_does_80 (tgt := 87) (by decide) (fun q => q c13) ?_
          refine j_iconst dX9_does_83 ?_
          refine j_goto (tgt := 88) dX9_does_84 (by decide) ?_
          exact j_sub [3, 4, 1, 0] rfl (tX9_does_88 hl (by omega) hx1 hu6 hu9 hu3 (inR_lit _ rfl)  h)
        · rw [if_neg c13] at h
          refine j_icmp_ne_t hu9 (inR_lit _ rfl) dX9_does_80 (tgt := 87) (by decide) c13 ?_
          refine j_iconst dX9_does_87 ?_
          exact j_sub [3, 4, 1, 0] rfl (tX9_does_88 hl (by omega) hx1 hu6 hu9 hu3 (inR_lit _ rfl)  h)
theorem ctX9_does {g : JG} {l : Launch} {d N : Nat} {A : AH} {out : Int × AH} {x1 : Int} (hl : l.stackTraces = false) (hd : 10 ≤ d) (hx1 : inR x1) (h : fX9_does N A x1 = some out) : CT g l yX9_does cX9_does 7 (some .int) d [.ref (gB g + 349), vI x1] A ((0, some (vI out.1), out.2) : JO) (inR out.1) :=
  CT_of (by decide +kernel) hl (by first | exact Nat.le_of_ble_eq_true rfl | (unfold rv; split <;> exact Nat.le_of_ble_eq_true rfl)) (by first | rfl | (unfold rv; split <;> rfl)) (j_sub (lv := [(0, .ref (gB g + 349)), (1, vI x1)]) [0, 1] rfl (tX9_does_0 hl hd hx1 h))
set_option maxRecDepth 100000 in
theorem tX9_read_120 {g : JG} {l : Launch} {d N n0 s0 : Nat} {out : Int × AH} (hl : l.stackTraces = false) (hd : 11 ≤ d) : ∀ (n : Nat) (A : AH) (x4 : Int), inR x4 → fX9_read_120 N n A x4 = some out → J g l d RX9 "read" cX9_read 5 (some .int) n0 s0 ((0, some (vI out.1), out.2) : JO) (inR out.1) 120 [(0, .ref (gB g + 349)), (4, vI x4)] [] A := by
  intro n
  induction n with
  | zero =>
    intro A x4 hx4 h
    rw [fX9_read_120] at h
    cases h
  | succ n ih =>
    intro A x4 hx4 h
    rw [fX9_read_120] at h
    refine j_iload (j := 1) dX9_read_120 rfl ?_
    refine j_sipush dX9_read_122 rfl ?_
    by_cases c1 : 2896 ≤ x4
    · rw [if_pos c1] at h
      refine j_icmp_ge_t hx4 (inR_lit _ rfl) dX9_read_125 (tgt := 157) (by decide) c1 ?_
      refine j_aload_n (j := 0) dX9_read_157 rfl rfl ?_
      refine j_dup dX9_read_158 rfl ?_
      refine j_getI FX9_322 rfl dX9_read_159 (VK_c 9 349 rfl).1 (VK_c 9 349 rfl).lt (VK_c 9 349 rfl).ka (fun r2 => ?_)
      refine j_iconst dX9_read_162 ?_
      refine j_iadd dX9_read_163 ?_
      obtain ⟨A3, eA3, h⟩ := bnd_elim h
      have xA3 : XT A A3 := by rw [eA3]; exact XT_sI _ _ _ _
      refine j_putI FX9_322 rfl rfl rfl (wrap_inR _) dX9_read_164 (VK_c 9 349 rfl).1 (VK_c 9 349 rfl).lt (VK_c 9 349 rfl).ka ?_
      refine j_hB eA3 ?_
      refine j_aload_n (j := 0) dX9_read_167 rfl rfl ?_
      refine j_getI FX9_336 rfl dX9_read_168 (VK_c 9 349 rfl).1 (VK_c 9 349 rfl).lt (VK_c 9 349 rfl).ka (fun r4 => ?_)
      cases h
      exact j_iret dX9_read_171 rfl rfl rfl r4
    · rw [if_neg c1] at h
      refine j_icmp_ge_f hx4 (inR_lit _ rfl) dX9_read_125 (tgt := 157) (by decide) c1 ?_
      refine j_aload_n (j := 0) dX9_read_128 rfl rfl ?_
      refine j_getR (q := 371) FX9_78 rfl dX9_read_129 (by decide) (by decide) rfl rfl (by decide) ?_
      refine j_sipush dX9_read_132 rfl ?_
      refine j_aload_n (j := 0) dX9_read_135 rfl rfl ?_
      refine j_getI FX9_322 rfl dX9_read_136 (VK_c 9 349 rfl).1 (VK_c 9 349 rfl).lt (VK_c 9 349 rfl).ka (fun r5 => ?_)
      refine j_imul dX9_read_139 ?_
      refine j_iload (j := 1) dX9_read_140 rfl ?_
      refine j_iadd dX9_read_142 ?_
      refine j_aload_n (j := 0) dX9_read_143 rfl rfl ?_
      refine j_getR (q := 373) FX9_84 rfl dX9_read_144 (by decide) (by decide) rfl rfl (by decide) ?_
      refine j_iload (j := 1) dX9_read_147 rfl ?_
      obtain ⟨c6, h⟩ := chk_elim h
      refine j_iald hx4 (by decide) (by decide) rfl dX9_read_149 (VK_c 43 373 rfl).1 (VK_c 43 373 rfl).lt (VK_c 43 373 rfl).ka c6 (fun r7 => ?_)
      obtain ⟨c8, h⟩ := chk_elim h
      obtain ⟨A9, eA9, h⟩ := bnd_elim h
      have xA9 : XT A A9 := by rw [eA9]; exact XT_sI _ _ _ _
      refine j_iast (wrap_inR _) r7 (by decide) (by decide) rfl dX9_read_150 (VK_c 41 371 rfl).1 (VK_c 41 371 rfl).lt (VK_c 41 371 rfl).ka c8 ?_
      refine j_hB eA9 ?_
      obtain ⟨u10, eu10, h⟩ := bnd_elim h
      have hu10 : inR u10 := by rw [eu10]; exact wrap_inR _
      refine j_iincN (k := 1) (lv' := [(4, vI u10), (0, .ref (gB g + 349))]) eu10 dX9_read_151 rfl (by decide) (by first | rfl | (simp only [List.all_cons, List.all_nil, rv_cat]; rfl)) rfl ?_
      refine j_goto (tgt := 120) dX9_read_154 (by decide) ?_
      exact j_sub [1, 0] rfl (ih A9 u10 hu10 h)
set_option maxRecDepth 100000 in
theorem tX9_read_71 {g : JG} {l : Launch} {d N n0 s0 : Nat} {out : Int × AH} {A : AH} {x2 : Int} {x3 : Int} (hl : l.stackTraces = false) (hd : 11 ≤ d) (hx2 : inR x2) (hx3 : inR x3) (h : fX9_read_71 N A x2 x3 = some out) : J g l d RX9 "read" cX9_read 5 (some .int) n0 s0 ((0, some (vI out.1), out.2) : JO) (inR out.1) 71 [(0, .ref (gB g + 349)), (2, vI x2), (3, vI x3)] [] A := by
  unfold fX9_read_71 at h
  refine j_aload_n (j := 0) dX9_read_71 rfl rfl ?_
  refine j_iconst dX9_read_72 ?_
  obtain ⟨A1, eA1, h⟩ := bnd_elim h
  have xA1 : XT A A1 := by rw [eA1]; exact XT_sI _ _ _ _
  refine j_putB FX9_235 rfl rfl rfl (Or.inl rfl) dX9_read_73 (VK_c 9 349 rfl).1 (VK_c 9 349 rfl).lt (VK_c 9 349 rfl).ka ?_
  refine j_hB eA1 ?_
  refine j_iload_n (j := 1) dX9_read_76 rfl rfl ?_
  by_cases c2 : x2 ≤ 0
  · rw [if_pos c2] at h
    refine j_if_le_t hx2 dX9_read_77 (tgt := 108) (by decide) c2 ?_
    refine j_aload_n (j := 0) dX9_read_108 rfl rfl ?_
    refine j_iconst dX9_read_109 ?_
    obtain ⟨A3, eA3, h⟩ := bnd_elim h
    have xA3 : XT A1 A3 := by rw [eA3]; exact XT_sI _ _ _ _
    refine j_putI FX9_87 rfl rfl rfl (inR_lit _ rfl) dX9_read_110 (VK_c 9 349 rfl).1 (VK_c 9 349 rfl).lt (VK_c 9 349 rfl).ka ?_
    refine j_hB eA3 ?_
    refine j_aload_n (j := 0) dX9_read_113 rfl rfl ?_
    obtain ⟨p5, e4, h⟩ := obind_elim h
    refine j_callV MX9_375 YX9_makesRoom IX9_makesRoom SX9_makesRoom (by decide) rfl (by decide) (by omega) (Nat.le_of_ble_eq_true rfl) rfl (ctX9_makesRoom (d := d - 1) hl (by omega)  e4) dX9_read_114 (VK_c 9 349 rfl).1 (VK_c 9 349 rfl).lt (VK_c 9 349 rfl).ka rfl (fun z6 xt7 => ?_)
    refine j_iconst dX9_read_117 ?_
    refine j_istore (lv' := [(4, vI 0), (0, .ref (gB g + 349)), (2, vI x2), (3, vI x3)]) dX9_read_118 (by decide) (by first | rfl | (simp only [List.all_cons, List.all_nil, rv_cat]; rfl)) rfl ?_
    exact j_sub [1, 0] rfl (tX9_read_120 hl (by omega)   N p5 0 (inR_lit _ rfl) h)
  · rw [if_neg c2] at h
    refine j_if_le_f hx2 dX9_read_77 (tgt := 108) (by decide) c2 ?_
    refine j_aload_n (j := 0) dX9_read_80 rfl rfl ?_
    refine j_aload_n (j := 0) dX9_read_81 rfl rfl ?_
    refine j_getR (q := 373) FX9_84 rfl dX9_read_82 (by decide) (by decide) rfl rfl (by decide) ?_
    refine j_iconst dX9_read_85 ?_
    refine j_iconst dX9_read_86 ?_
    obtain ⟨p9, e8, h⟩ := obind_elim h
    refine j_callV MX9_368 YX9_passAll IX9_passAll SX9_passAll (by decide) rfl (by decide) (by omega) (Nat.le_of_ble_eq_true rfl) rfl (ctX9_passAll (d := d - 1) hl (by omega) ((VK_c 43 373 rfl).vi (by decide) (by decide) rfl) (inR_lit _ rfl) (Or.inl rfl) e8) dX9_read_87 (VK_c 9 349 rfl).1 (VK_c 9 349 rfl).lt (VK_c 9 349 rfl).ka rfl (fun z10 xt11 => ?_)
    refine j_aload_n (j := 0) dX9_read_90 rfl rfl ?_
    refine j_iload_n (j := 1) dX9_read_91 rfl rfl ?_
    obtain ⟨A12, eA12, h⟩ := bnd_elim h
    have xA12 : XT p9 A12 := by rw [eA12]; exact XT_sI _ _ _ _
    refine j_putI FX9_242 rfl rfl rfl hx2 dX9_read_92 (VK_c 9 349 rfl).1 (VK_c 9 349 rfl).lt (VK_c 9 349 rfl).ka ?_
    refine j_hB eA12 ?_
    refine j_aload_n (j := 0) dX9_read_95 rfl rfl ?_
    refine j_iload_n (j := 2) dX9_read_96 rfl rfl ?_
    refine j_iconst dX9_read_97 ?_
    refine j_isub dX9_read_98 ?_
    obtain ⟨A13, eA13, h⟩ := bnd_elim h
    have xA13 : XT A12 A13 := by rw [eA13]; exact XT_sI _ _ _ _
    refine j_putI FX9_239 rfl rfl rfl (wrap_inR _) dX9_read_99 (VK_c 9 349 rfl).1 (VK_c 9 349 rfl).lt (VK_c 9 349 rfl).ka ?_
    refine j_hB eA13 ?_
    refine j_aload_n (j := 0) dX9_read_102 rfl rfl ?_
    refine j_iconst dX9_read_103 ?_
    obtain ⟨p15, e14, h⟩ := obind_elim h
    refine j_callV MX9_220 YX9_fails IX9_fails SX9_fails (by decide) rfl (by decide) (by omega) (Nat.le_of_ble_eq_true rfl) rfl (ctX9_fails (d := d - 1) hl (by omega) (inR_lit _ rfl) e14) dX9_read_104 (VK_c 9 349 rfl).1 (VK_c 9 349 rfl).lt (VK_c 9 349 rfl).ka rfl (fun z16 xt17 => ?_)
    cases h
    exact j_iret dX9_read_107 rfl rfl rfl z16
set_option maxRecDepth 100000 in
theorem tX9_read_47 {g : JG} {l : Launch} {d N n0 s0 : Nat} {out : Int × AH} (hl : l.stackTraces = false) (hd : 11 ≤ d) : ∀ (n : Nat) (A : AH) (x2 : Int) (x3 : Int), inR x2 → inR x3 → fX9_read_47 N n A x2 x3 = some out → J g l d RX9 "read" cX9_read 5 (some .int) n0 s0 ((0, some (vI out.1), out.2) : JO) (inR out.1) 47 [(0, .ref (gB g + 349)), (2, vI x2), (3, vI x3)] [] A := by
  intro n
  induction n with
  | zero =>
    intro A x2 x3 hx2 hx3 h
    rw [fX9_read_47] at h
    cases h
  | succ n ih =>
    intro A x2 x3 hx2 hx3 h
    rw [fX9_read_47] at h
    refine j_iload_n (j := 2) dX9_read_47 rfl rfl ?_
    refine j_aload_n (j := 0) dX9_read_48 rfl rfl ?_
    refine j_getI FX9_336 rfl dX9_read_49 (VK_c 9 349 rfl).1 (VK_c 9 349 rfl).lt (VK_c 9 349 rfl).ka (fun r1 => ?_)
    by_cases c2 : (gI A 349 36) ≤ x3
    · rw [if_pos c2] at h
      refine j_icmp_ge_t hx3 r1 dX9_read_52 (tgt := 71) (by decide) c2 ?_
      exact j_sub [0, 1, 2] rfl (tX9_read_71 hl (by omega) hx2 hx3  h)
    · rw [if_neg c2] at h
      refine j_icmp_ge_f hx3 r1 dX9_read_52 (tgt := 71) (by decide) c2 ?_
      refine j_iload_n (j := 1) dX9_read_55 rfl rfl ?_
      by_cases c3 : x2 = 0
      · rw [if_pos c3] at h
        refine j_if_ne_f hx2 dX9_read_56 (tgt := 71) (by decide) (fun q => q c3) ?_
        refine j_aload_n (j := 0) dX9_read_59 rfl rfl ?_
        refine j_iload_n (j := 2) dX9_read_60 rfl rfl ?_
        obtain ⟨p5, e4, h⟩ := obind_elim h
        refine j_callV MX9_372 YX9_does IX9_does SX9_does (by decide) rfl (by decide) (by omega) (Nat.le_of_ble_eq_true rfl) rfl (ctX9_does (d := d - 1) hl (by omega) hx3 e4) dX9_read_61 (VK_c 9 349 rfl).1 (VK_c 9 349 rfl).lt (VK_c 9 349 rfl).ka rfl (fun z6 xt7 => ?_)
        refine j_istore_n (lv' := [(2, vI p5.1), (0, .ref (gB g + 349)), (3, vI x3)]) dX9_read_64 rfl (by decide) (by first | rfl | (simp only [List.all_cons, List.all_nil, rv_cat]; rfl)) rfl ?_
        obtain ⟨u8, eu8, h⟩ := bnd_elim h
        have hu8 : inR u8 := by rw [eu8]; exact wrap_inR _
        refine j_iincN (k := 2) (lv' := [(3, vI u8), (2, vI p5.1), (0, .ref (gB g + 349))]) eu8 dX9_read_65 rfl (by decide) (by first | rfl | (simp only [List.all_cons, List.all_nil, rv_cat]; rfl)) rfl ?_
        refine j_goto (tgt := 47) dX9_read_68 (by decide) ?_
        exact j_sub [2, 1, 0] rfl (ih p5.2 p5.1 u8 z6 hu8 h)
      · rw [if_neg c3] at h
        refine j_if_ne_t hx2 dX9_read_56 (tgt := 71) (by decide) c3 ?_
        exact j_sub [0, 1, 2] rfl (tX9_read_71 hl (by omega) hx2 hx3  h)
set_option maxRecDepth 100000 in
theorem tX9_read_0 {g : JG} {l : Launch} {d N n0 s0 : Nat} {out : Int × AH} {A : AH} (hl : l.stackTraces = false) (hd : 11 ≤ d) (h : fX9_read N A  = some out) : J g l d RX9 "read" cX9_read 5 (some .int) n0 s0 ((0, some (vI out.1), out.2) : JO) (inR out.1) 0 [(0, .ref (gB g + 349))] [] A := by
  unfold fX9_read at h
  refine j_aload_n (j := 0) dX9_read_0 rfl rfl ?_
  obtain ⟨p2, e1, h⟩ := obind_elim h
  refine j_callV MX9_365 YX9_takesText IX9_takesText SX9_takesText (by decide) rfl (by decide) (by omega) (Nat.le_of_ble_eq_true rfl) rfl (ctX9_takesText (d := d - 1) hl (by omega)  e1) dX9_read_1 (VK_c 9 349 rfl).1 (VK_c 9 349 rfl).lt (VK_c 9 349 rfl).ka rfl (fun z3 xt4 => ?_)
  refine j_istore_n (lv' := [(1, vI p2.1), (0, .ref (gB g + 349))]) dX9_read_4 rfl (by decide) (by first | rfl | (simp only [List.all_cons, List.all_nil, rv_cat]; rfl)) rfl ?_
  refine j_aload_n (j := 1) dX9_read_5 rfl rfl ?_
  refine j_iconst dX9_read_6 ?_
  obtain ⟨A5, eA5, h⟩ := bnd_elim h
  have xA5 : XT p2.2 A5 := by rw [eA5]; exact XT_sI _ _ _ _
  refine j_putI FX9_325 rfl rfl rfl (inR_lit _ rfl) dX9_read_7 (VK_c 9 349 rfl).1 (VK_c 9 349 rfl).lt (VK_c 9 349 rfl).ka ?_
  refine j_hB eA5 ?_
  refine j_iload_n (j := 0) dX9_read_10 rfl rfl ?_
  by_cases c6 : p2.1 = 0
  · rw [if_pos c6] at h
    refine j_if_ne_f (bool_inR z3) dX9_read_11 (tgt := 28) (by decide) (fun q => q c6) ?_
    refine j_aload_n (j := 1) dX9_read_14 rfl rfl ?_
    refine j_aload_n (j := 1) dX9_read_15 rfl rfl ?_
    refine j_getI FX9_330 rfl dX9_read_16 (VK_c 9 349 rfl).1 (VK_c 9 349 rfl).lt (VK_c 9 349 rfl).ka (fun r12 => ?_)
    obtain ⟨A13, eA13, h⟩ := bnd_elim h
    have xA13 : XT A5 A13 := by rw [eA13]; exact XT_sI _ _ _ _
    refine j_putI FX9_74 rfl rfl rfl r12 dX9_read_19 (VK_c 9 349 rfl).1 (VK_c 9 349 rfl).lt (VK_c 9 349 rfl).ka ?_
    refine j_hB eA13 ?_
    refine j_aload_n (j := 1) dX9_read_22 rfl rfl ?_
    refine j_iconst dX9_read_23 ?_
    obtain ⟨p15, e14, h⟩ := obind_elim h
    refine j_callV MX9_220 YX9_fails IX9_fails SX9_fails (by decide) rfl (by decide) (by omega) (Nat.le_of_ble_eq_true rfl) rfl (ctX9_fails (d := d - 1) hl (by omega) (inR_lit _ rfl) e14) dX9_read_24 (VK_c 9 349 rfl).1 (VK_c 9 349 rfl).lt (VK_c 9 349 rfl).ka rfl (fun z16 xt17 => ?_)
    cases h
    exact j_iret dX9_read_27 rfl rfl rfl z16
  · rw [if_neg c6] at h
    refine j_if_ne_t (bool_inR z3) dX9_read_11 (tgt := 28) (by decide) c6 ?_
    refine j_aload_n (j := 1) dX9_read_28 rfl rfl ?_
    refine j_aload_n (j := 1) dX9_read_29 rfl rfl ?_
    refine j_getR (q := 373) FX9_84 rfl dX9_read_30 (by decide) (by decide) rfl rfl (by decide) ?_
    refine j_iconst dX9_read_33 ?_
    refine j_iconst dX9_read_34 ?_
    obtain ⟨p8, e7, h⟩ := obind_elim h
    refine j_callV MX9_368 YX9_passAll IX9_passAll SX9_passAll (by decide) rfl (by decide) (by omega) (Nat.le_of_ble_eq_true rfl) rfl (ctX9_passAll (d := d - 1) hl (by omega) ((VK_c 43 373 rfl).vi (by decide) (by decide) rfl) (inR_lit _ rfl) (Or.inr rfl) e7) dX9_read_35 (VK_c 9 349 rfl).1 (VK_c 9 349 rfl).lt (VK_c 9 349 rfl).ka rfl (fun z9 xt10 => ?_)
    refine j_aload_n (j := 1) dX9_read_38 rfl rfl ?_
    refine j_iconst dX9_read_39 ?_
    obtain ⟨A11, eA11, h⟩ := bnd_elim h
    have xA11 : XT p8 A11 := by rw [eA11]; exact XT_sI _ _ _ _
    refine j_putB FX9_235 rfl rfl rfl (Or.inr rfl) dX9_read_40 (VK_c 9 349 rfl).1 (VK_c 9 349 rfl).lt (VK_c 9 349 rfl).ka ?_
    refine j_hB eA11 ?_
    refine j_iconst dX9_read_43 ?_
    refine j_istore_n (lv' := [(2, vI 0), (1, vI p2.1), (0, .ref (gB g + 349))]) dX9_read_44 rfl (by decide) (by first | rfl | (simp only [List.all_cons, List.all_nil, rv_cat]; rfl)) rfl ?_
    refine j_iconst dX9_read_45 ?_
    refine j_istore_n (lv' := [(3, vI 0), (2, vI 0), (1, vI p2.1), (0, .ref (gB g + 349))]) dX9_read_46 rfl (by decide) (by first | rfl | (simp only [List.all_cons, List.all_nil, rv_cat]; rfl)) rfl ?_
    exact j_sub [3, 1, 0] rfl (tX9_read_47 hl (by omega)   N A11 0 0 (inR_lit _ rfl) (inR_lit _ rfl) h)
theorem ctX9_read {g : JG} {l : Launch} {d N : Nat} {A : AH} {out : Int × AH} (hl : l.stackTraces = false) (hd : 11 ≤ d) (h : fX9_read N A  = some out) : CT g l yX9_read cX9_read 5 (some .int) d [.ref (gB g + 349)] A ((0, some (vI out.1), out.2) : JO) (inR out.1) :=
  CT_of (by decide +kernel) hl (by first | exact Nat.le_of_ble_eq_true rfl | (unfold rv; split <;> exact Nat.le_of_ble_eq_true rfl)) (by first | rfl | (unfold rv; split <;> rfl)) (j_sub (lv := [(0, .ref (gB g + 349))]) [0] rfl (tX9_read_0 hl hd  h))
set_option maxRecDepth 100000 in
theorem tX9_faultPosition_0 {g : JG} {l : Launch} {d N n0 s0 : Nat} {out : Int × AH} {A : AH} (hl : l.stackTraces = false) (hd : 2 ≤ d) (h : fX9_faultPosition N A  = some out) : J g l d RX9 "faultPosition" cX9_faultPosition 1 (some .int) n0 s0 ((0, some (vI out.1), out.2) : JO) (inR out.1) 0 [(0, .ref (gB g + 349))] [] A := by
  unfold fX9_faultPosition at h
  refine j_aload_n (j := 0) dX9_faultPosition_0 rfl rfl ?_
  refine j_getI FX9_74 rfl dX9_faultPosition_1 (VK_c 9 349 rfl).1 (VK_c 9 349 rfl).lt (VK_c 9 349 rfl).ka (fun r1 => ?_)
  by_cases c2 : 0 ≤ (gI A 349 37)
  · rw [if_pos c2] at h
    refine j_if_ge_t r1 dX9_faultPosition_4 (tgt := 13) (by decide) c2 ?_
    refine j_aload_n (j := 0) dX9_faultPosition_13 rfl rfl ?_
    refine j_iconst dX9_faultPosition_14 ?_
    obtain ⟨A3, eA3, h⟩ := bnd_elim h
    have xA3 : XT A A3 := by rw [eA3]; exact XT_sI _ _ _ _
    refine j_putI FX9_87 rfl rfl rfl (inR_lit _ rfl) dX9_faultPosition_15 (VK_c 9 349 rfl).1 (VK_c 9 349 rfl).lt (VK_c 9 349 rfl).ka ?_
    refine j_hB eA3 ?_
    refine j_aload_n (j := 0) dX9_faultPosition_18 rfl rfl ?_
    refine j_getI FX9_74 rfl dX9_faultPosition_19 (VK_c 9 349 rfl).1 (VK_c 9 349 rfl).lt (VK_c 9 349 rfl).ka (fun r4 => ?_)
    cases h
    exact j_iret dX9_faultPosition_22 rfl rfl rfl r4
  · rw [if_neg c2] at h
    refine j_if_ge_f r1 dX9_faultPosition_4 (tgt := 13) (by decide) c2 ?_
    refine j_aload_n (j := 0) dX9_faultPosition_7 rfl rfl ?_
    refine j_iconst dX9_faultPosition_8 ?_
    obtain ⟨p6, e5, h⟩ := obind_elim h
    refine j_callV MX9_220 YX9_fails IX9_fails SX9_fails (by decide) rfl (by decide) (by omega) (Nat.le_of_ble_eq_true rfl) rfl (ctX9_fails (d := d - 1) hl (by omega) (inR_lit _ rfl) e5) dX9_faultPosition_9 (VK_c 9 349 rfl).1 (VK_c 9 349 rfl).lt (VK_c 9 349 rfl).ka rfl (fun z7 xt8 => ?_)
    cases h
    exact j_iret dX9_faultPosition_12 rfl rfl rfl z7
theorem ctX9_faultPosition {g : JG} {l : Launch} {d N : Nat} {A : AH} {out : Int × AH} (hl : l.stackTraces = false) (hd : 2 ≤ d) (h : fX9_faultPosition N A  = some out) : CT g l yX9_faultPosition cX9_faultPosition 1 (some .int) d [.ref (gB g + 349)] A ((0, some (vI out.1), out.2) : JO) (inR out.1) :=
  CT_of (by decide +kernel) hl (by first | exact Nat.le_of_ble_eq_true rfl | (unfold rv; split <;> exact Nat.le_of_ble_eq_true rfl)) (by first | rfl | (unfold rv; split <;> rfl)) (j_sub (lv := [(0, .ref (gB g + 349))]) [0] rfl (tX9_faultPosition_0 hl hd  h))
set_option maxRecDepth 100000 in
theorem tX9_refusal_0 {g : JG} {l : Launch} {d N n0 s0 : Nat} {out : Int × AH} {A : AH} {x1 : Int} (hl : l.stackTraces = false) (hd : 2 ≤ d) (hx1 : x1 = 0 ∨ x1 = 1) (h : fX9_refusal N A x1 = some out) : J g l d RX9 "refusal" cX9_refusal 2 (some .int) n0 s0 ((0, some (vI out.1), out.2) : JO) (inR out.1) 0 [(0, .ref (gB g + 349)), (1, vI x1)] [] A := by
  unfold fX9_refusal at h
  refine j_aload_n (j := 0) dX9_refusal_0 rfl rfl ?_
  refine j_getI FX9_242 rfl dX9_refusal_1 (VK_c 9 349 rfl).1 (VK_c 9 349 rfl).lt (VK_c 9 349 rfl).ka (fun r1 => ?_)
  by_cases c2 : (gI A 349 29) = 0
  · rw [if_pos c2] at h
    refine j_if_ne_f r1 dX9_refusal_4 (tgt := 13) (by decide) (fun q => q c2) ?_
    refine j_aload_n (j := 0) dX9_refusal_7 rfl rfl ?_
    refine j_iconst dX9_refusal_8 ?_
    obtain ⟨p8, e7, h⟩ := obind_elim h
    refine j_callV MX9_220 YX9_fails IX9_fails SX9_fails (by decide) rfl (by decide) (by omega) (Nat.le_of_ble_eq_true rfl) rfl (ctX9_fails (d := d - 1) hl (by omega) (inR_lit _ rfl) e7) dX9_refusal_9 (VK_c 9 349 rfl).1 (VK_c 9 349 rfl).lt (VK_c 9 349 rfl).ka rfl (fun z9 xt10 => ?_)
    cases h
    exact j_iret dX9_refusal_12 rfl rfl rfl z9
  · rw [if_neg c2] at h
    refine j_if_ne_t r1 dX9_refusal_4 (tgt := 13) (by decide) c2 ?_
    refine j_aload_n (j := 0) dX9_refusal_13 rfl rfl ?_
    refine j_iconst dX9_refusal_14 ?_
    obtain ⟨A3, eA3, h⟩ := bnd_elim h
    have xA3 : XT A A3 := by rw [eA3]; exact XT_sI _ _ _ _
    refine j_putI FX9_87 rfl rfl rfl (inR_lit _ rfl) dX9_refusal_15 (VK_c 9 349 rfl).1 (VK_c 9 349 rfl).lt (VK_c 9 349 rfl).ka ?_
    refine j_hB eA3 ?_
    refine j_iload_n (j := 1) dX9_refusal_18 rfl rfl ?_
    by_cases c4 : x1 = 0
    · rw [if_pos c4] at h
      refine j_if_eq_t (bool_inR hx1) dX9_refusal_19 (tgt := 29) (by decide) c4 ?_
      refine j_aload_n (j := 0) dX9_refusal_29 rfl rfl ?_
      refine j_getI FX9_239 rfl dX9_refusal_30 (VK_c 9 349 rfl).1 (VK_c 9 349 rfl).lt (VK_c 9 349 rfl).ka (fun r5 => ?_)
      cases h
      exact j_iret dX9_refusal_33 rfl rfl rfl r5
    · rw [if_neg c4] at h
      refine j_if_eq_f (bool_inR hx1) dX9_refusal_19 (tgt := 29) (by decide) c4 ?_
      refine j_aload_n (j := 0) dX9_refusal_22 rfl rfl ?_
      refine j_getI FX9_242 rfl dX9_refusal_23 (VK_c 9 349 rfl).1 (VK_c 9 349 rfl).lt (VK_c 9 349 rfl).ka (fun r6 => ?_)
      refine j_goto (tgt := 33) dX9_refusal_26 (by decide) ?_
      cases h
      exact j_iret dX9_refusal_33 rfl rfl rfl r6
theorem ctX9_refusal {g : JG} {l : Launch} {d N : Nat} {A : AH} {out : Int × AH} {x1 : Int} (hl : l.stackTraces = false) (hd : 2 ≤ d) (hx1 : x1 = 0 ∨ x1 = 1) (h : fX9_refusal N A x1 = some out) : CT g l yX9_refusal cX9_refusal 2 (some .int) d [.ref (gB g + 349), vI x1] A ((0, some (vI out.1), out.2) : JO) (inR out.1) :=
  CT_of (by decide +kernel) hl (by first | exact Nat.le_of_ble_eq_true rfl | (unfold rv; split <;> exact Nat.le_of_ble_eq_true rfl)) (by first | rfl | (unfold rv; split <;> rfl)) (j_sub (lv := [(0, .ref (gB g + 349)), (1, vI x1)]) [0, 1] rfl (tX9_refusal_0 hl hd hx1 h))
set_option maxRecDepth 100000 in
theorem tX9_undo_0 {g : JG} {l : Launch} {d N n0 s0 : Nat} {out : Int × AH} {A : AH} (hl : l.stackTraces = false) (hd : 3 ≤ d) (h : fX9_undo N A  = some out) : J g l d RX9 "undo" cX9_undo 1 (some .int) n0 s0 ((0, some (vI out.1), out.2) : JO) (inR out.1) 0 [(0, .ref (gB g + 349))] [] A := by
  unfold fX9_undo at h
  refine j_aload_n (j := 0) dX9_undo_0 rfl rfl ?_
  refine j_getI FX9_322 rfl dX9_undo_1 (VK_c 9 349 rfl).1 (VK_c 9 349 rfl).lt (VK_c 9 349 rfl).ka (fun r1 => ?_)
  by_cases c2 : (gI A 349 41) = 0
  · rw [if_pos c2] at h
    refine j_if_ne_f r1 dX9_undo_4 (tgt := 13) (by decide) (fun q => q c2) ?_
    refine j_aload_n (j := 0) dX9_undo_7 rfl rfl ?_
    refine j_iconst dX9_undo_8 ?_
    obtain ⟨p13, e12, h⟩ := obind_elim h
    refine j_callV MX9_220 YX9_fails IX9_fails SX9_fails (by decide) rfl (by decide) (by omega) (Nat.le_of_ble_eq_true rfl) rfl (ctX9_fails (d := d - 1) hl (by omega) (inR_lit _ rfl) e12) dX9_undo_9 (VK_c 9 349 rfl).1 (VK_c 9 349 rfl).lt (VK_c 9 349 rfl).ka rfl (fun z14 xt15 => ?_)
    cases h
    exact j_iret dX9_undo_12 rfl rfl rfl z14
  · rw [if_neg c2] at h
    refine j_if_ne_t r1 dX9_undo_4 (tgt := 13) (by decide) c2 ?_
    refine j_aload_n (j := 0) dX9_undo_13 rfl rfl ?_
    refine j_iconst dX9_undo_14 ?_
    obtain ⟨A3, eA3, h⟩ := bnd_elim h
    have xA3 : XT A A3 := by rw [eA3]; exact XT_sI _ _ _ _
    refine j_putI FX9_87 rfl rfl rfl (inR_lit _ rfl) dX9_undo_15 (VK_c 9 349 rfl).1 (VK_c 9 349 rfl).lt (VK_c 9 349 rfl).ka ?_
    refine j_hB eA3 ?_
    refine j_aload_n (j := 0) dX9_undo_18 rfl rfl ?_
    refine j_dup dX9_undo_19 rfl ?_
    refine j_getI FX9_322 rfl dX9_undo_20 (VK_c 9 349 rfl).1 (VK_c 9 349 rfl).lt (VK_c 9 349 rfl).ka (fun r4 => ?_)
    refine j_iconst dX9_undo_23 ?_
    refine j_isub dX9_undo_24 ?_
    obtain ⟨A5, eA5, h⟩ := bnd_elim h
    have xA5 : XT A3 A5 := by rw [eA5]; exact XT_sI _ _ _ _
    refine j_putI FX9_322 rfl rfl rfl (wrap_inR _) dX9_undo_25 (VK_c 9 349 rfl).1 (VK_c 9 349 rfl).lt (VK_c 9 349 rfl).ka ?_
    refine j_hB eA5 ?_
    refine j_aload_n (j := 0) dX9_undo_28 rfl rfl ?_
    refine j_aload_n (j := 0) dX9_undo_29 rfl rfl ?_
    refine j_getR (q := 371) FX9_78 rfl dX9_undo_30 (by decide) (by decide) rfl rfl (by decide) ?_
    refine j_sipush dX9_undo_33 rfl ?_
    refine j_aload_n (j := 0) dX9_undo_36 rfl rfl ?_
    refine j_getI FX9_322 rfl dX9_undo_37 (VK_c 9 349 rfl).1 (VK_c 9 349 rfl).lt (VK_c 9 349 rfl).ka (fun r6 => ?_)
    refine j_imul dX9_undo_40 ?_
    refine j_iconst dX9_undo_41 ?_
    obtain ⟨p8, e7, h⟩ := obind_elim h
    refine j_callV MX9_368 YX9_passAll IX9_passAll SX9_passAll (by decide) rfl (by decide) (by omega) (Nat.le_of_ble_eq_true rfl) rfl (ctX9_passAll (d := d - 1) hl (by omega) ((VK_c 41 371 rfl).vi (by decide) (by decide) rfl) (wrap_inR _) (Or.inl rfl) e7) dX9_undo_42 (VK_c 9 349 rfl).1 (VK_c 9 349 rfl).lt (VK_c 9 349 rfl).ka rfl (fun z9 xt10 => ?_)
    refine j_aload_n (j := 0) dX9_undo_45 rfl rfl ?_
    refine j_getI FX9_322 rfl dX9_undo_46 (VK_c 9 349 rfl).1 (VK_c 9 349 rfl).lt (VK_c 9 349 rfl).ka (fun r11 => ?_)
    cases h
    exact j_iret dX9_undo_49 rfl rfl rfl r11
theorem ctX9_undo {g : JG} {l : Launch} {d N : Nat} {A : AH} {out : Int × AH} (hl : l.stackTraces = false) (hd : 3 ≤ d) (h : fX9_undo N A  = some out) : CT g l yX9_undo cX9_undo 1 (some .int) d [.ref (gB g + 349)] A ((0, some (vI out.1), out.2) : JO) (inR out.1) :=
  CT_of (by decide +kernel) hl (by first | exact Nat.le_of_ble_eq_true rfl | (unfold rv; split <;> exact Nat.le_of_ble_eq_true rfl)) (by first | rfl | (unfold rv; split <;> rfl)) (j_sub (lv := [(0, .ref (gB g + 349))]) [0] rfl (tX9_undo_0 hl hd  h))
set_option maxRecDepth 100000 in
theorem tX9_saveSnapshot_0 {g : JG} {l : Launch} {d N n0 s0 : Nat} {out : Int × AH} {A : AH} (hl : l.stackTraces = false) (hd : 3 ≤ d) (h : fX9_saveSnapshot N A  = some out) : J g l d RX9 "saveSnapshot" cX9_saveSnapshot 1 (some .int) n0 s0 ((0, some (vI out.1), out.2) : JO) (inR out.1) 0 [(0, .ref (gB g + 349))] [] A := by
  unfold fX9_saveSnapshot at h
  refine j_aload_n (j := 0) dX9_saveSnapshot_0 rfl rfl ?_
  refine j_iconst dX9_saveSnapshot_1 ?_
  obtain ⟨A1, eA1, h⟩ := bnd_elim h
  have xA1 : XT A A1 := by rw [eA1]; exact XT_sI _ _ _ _
  refine j_putI FX9_87 rfl rfl rfl (inR_lit _ rfl) dX9_saveSnapshot_2 (VK_c 9 349 rfl).1 (VK_c 9 349 rfl).lt (VK_c 9 349 rfl).ka ?_
  refine j_hB eA1 ?_
  refine j_aload_n (j := 0) dX9_saveSnapshot_5 rfl rfl ?_
  refine j_iconst dX9_saveSnapshot_6 ?_
  obtain ⟨A2, eA2, h⟩ := bnd_elim h
  have xA2 : XT A1 A2 := by rw [eA2]; exact XT_sI _ _ _ _
  refine j_putB FX9_392 rfl rfl rfl (Or.inr rfl) dX9_saveSnapshot_7 (VK_c 9 349 rfl).1 (VK_c 9 349 rfl).lt (VK_c 9 349 rfl).ka ?_
  refine j_hB eA2 ?_
  refine j_aload_n (j := 0) dX9_saveSnapshot_10 rfl rfl ?_
  refine j_aload_n (j := 0) dX9_saveSnapshot_11 rfl rfl ?_
  refine j_getR (q := 372) FX9_81 rfl dX9_saveSnapshot_12 (by decide) (by decide) rfl rfl (by decide) ?_
  refine j_iconst dX9_saveSnapshot_15 ?_
  refine j_iconst dX9_saveSnapshot_16 ?_
  obtain ⟨p4, e3, h⟩ := obind_elim h
  refine j_callV MX9_368 YX9_passAll IX9_passAll SX9_passAll (by decide) rfl (by decide) (by omega) (Nat.le_of_ble_eq_true rfl) rfl (ctX9_passAll (d := d - 1) hl (by omega) ((VK_c 42 372 rfl).vi (by decide) (by decide) rfl) (inR_lit _ rfl) (Or.inr rfl) e3) dX9_saveSnapshot_17 (VK_c 9 349 rfl).1 (VK_c 9 349 rfl).lt (VK_c 9 349 rfl).ka rfl (fun z5 xt6 => ?_)
  refine j_aload_n (j := 0) dX9_saveSnapshot_20 rfl rfl ?_
  refine j_getI FX9_100 rfl dX9_saveSnapshot_21 (VK_c 9 349 rfl).1 (VK_c 9 349 rfl).lt (VK_c 9 349 rfl).ka (fun r7 => ?_)
  cases h
  exact j_iret dX9_saveSnapshot_24 rfl rfl rfl r7
theorem ctX9_saveSnapshot {g : JG} {l : Launch} {d N : Nat} {A : AH} {out : Int × AH} (hl : l.stackTraces = false) (hd : 3 ≤ d) (h : fX9_saveSnapshot N A  = some out) : CT g l yX9_saveSnapshot cX9_saveSnapshot 1 (some .int) d [.ref (gB g + 349)] A ((0, some (vI out.1), out.2) : JO) (inR out.1) :=
  CT_of (by decide +kernel) hl (by first | exact Nat.le_of_ble_eq_true rfl | (unfold rv; split <;> exact Nat.le_of_ble_eq_true rfl)) (by first | rfl | (unfold rv; split <;> rfl)) (j_sub (lv := [(0, .ref (gB g + 349))]) [0] rfl (tX9_saveSnapshot_0 hl hd  h))
set_option maxRecDepth 100000 in
theorem tX9_restoreSnapshot_0 {g : JG} {l : Launch} {d N n0 s0 : Nat} {out : Int × AH} {A : AH} (hl : l.stackTraces = false) (hd : 3 ≤ d) (h : fX9_restoreSnapshot N A  = some out) : J g l d RX9 "restoreSnapshot" cX9_restoreSnapshot 1 (some .int) n0 s0 ((0, some (vI out.1), out.2) : JO) (inR out.1) 0 [(0, .ref (gB g + 349))] [] A := by
  unfold fX9_restoreSnapshot at h
  refine j_aload_n (j := 0) dX9_restoreSnapshot_0 rfl rfl ?_
  refine j_getI FX9_392 rfl dX9_restoreSnapshot_1 (VK_c 9 349 rfl).1 (VK_c 9 349 rfl).lt (VK_c 9 349 rfl).ka (fun r1 => ?_)
  by_cases c2 : (gI A 349 43) = 0
  · rw [if_pos c2] at h
    refine j_if_ne_f r1 dX9_restoreSnapshot_4 (tgt := 13) (by decide) (fun q => q c2) ?_
    refine j_aload_n (j := 0) dX9_restoreSnapshot_7 rfl rfl ?_
    refine j_iconst dX9_restoreSnapshot_8 ?_
    obtain ⟨p11, e10, h⟩ := obind_elim h
    refine j_callV MX9_220 YX9_fails IX9_fails SX9_fails (by decide) rfl (by decide) (by omega) (Nat.le_of_ble_eq_true rfl) rfl (ctX9_fails (d := d - 1) hl (by omega) (inR_lit _ rfl) e10) dX9_restoreSnapshot_9 (VK_c 9 349 rfl).1 (VK_c 9 349 rfl).lt (VK_c 9 349 rfl).ka rfl (fun z12 xt13 => ?_)
    cases h
    exact j_iret dX9_restoreSnapshot_12 rfl rfl rfl z12
  · rw [if_neg c2] at h
    refine j_if_ne_t r1 dX9_restoreSnapshot_4 (tgt := 13) (by decide) c2 ?_
    refine j_aload_n (j := 0) dX9_restoreSnapshot_13 rfl rfl ?_
    refine j_iconst dX9_restoreSnapshot_14 ?_
    obtain ⟨A3, eA3, h⟩ := bnd_elim h
    have xA3 : XT A A3 := by rw [eA3]; exact XT_sI _ _ _ _
    refine j_putI FX9_87 rfl rfl rfl (inR_lit _ rfl) dX9_restoreSnapshot_15 (VK_c 9 349 rfl).1 (VK_c 9 349 rfl).lt (VK_c 9 349 rfl).ka ?_
    refine j_hB eA3 ?_
    refine j_aload_n (j := 0) dX9_restoreSnapshot_18 rfl rfl ?_
    refine j_aload_n (j := 0) dX9_restoreSnapshot_19 rfl rfl ?_
    refine j_getR (q := 372) FX9_81 rfl dX9_restoreSnapshot_20 (by decide) (by decide) rfl rfl (by decide) ?_
    refine j_iconst dX9_restoreSnapshot_23 ?_
    refine j_iconst dX9_restoreSnapshot_24 ?_
    obtain ⟨p5, e4, h⟩ := obind_elim h
    refine j_callV MX9_368 YX9_passAll IX9_passAll SX9_passAll (by decide) rfl (by decide) (by omega) (Nat.le_of_ble_eq_true rfl) rfl (ctX9_passAll (d := d - 1) hl (by omega) ((VK_c 42 372 rfl).vi (by decide) (by decide) rfl) (inR_lit _ rfl) (Or.inl rfl) e4) dX9_restoreSnapshot_25 (VK_c 9 349 rfl).1 (VK_c 9 349 rfl).lt (VK_c 9 349 rfl).ka rfl (fun z6 xt7 => ?_)
    refine j_aload_n (j := 0) dX9_restoreSnapshot_28 rfl rfl ?_
    refine j_iconst dX9_restoreSnapshot_29 ?_
    obtain ⟨A8, eA8, h⟩ := bnd_elim h
    have xA8 : XT p5 A8 := by rw [eA8]; exact XT_sI _ _ _ _
    refine j_putI FX9_322 rfl rfl rfl (inR_lit _ rfl) dX9_restoreSnapshot_30 (VK_c 9 349 rfl).1 (VK_c 9 349 rfl).lt (VK_c 9 349 rfl).ka ?_
    refine j_hB eA8 ?_
    refine j_aload_n (j := 0) dX9_restoreSnapshot_33 rfl rfl ?_
    refine j_getI FX9_100 rfl dX9_restoreSnapshot_34 (VK_c 9 349 rfl).1 (VK_c 9 349 rfl).lt (VK_c 9 349 rfl).ka (fun r9 => ?_)
    cases h
    exact j_iret dX9_restoreSnapshot_37 rfl rfl rfl r9
