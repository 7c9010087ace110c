set_option maxRecDepth 100000 in
theorem tX9_passes_0 {g : JG} {l : Launch} {d N n0 s0 : Nat} {out : Int × AH} {A : AH} {x1 : Int} (hl : l.stackTraces = false) (hd : 4 ≤ d) (hx1 : inR x1) (h : fX9_passes N A x1 = some out) : J g l d RX9 "passes" cX9_passes 4 (some .int) n0 s0 ((0, some (vI out.1), out.2) : JO) (inR out.1) 0 [(0, .ref (gB g + 349)), (1, vI x1)] [] A := by
  unfold fX9_passes at h
  refine j_aload_n (j := 0) dX9_passes_0 rfl rfl ?_
  refine j_dup dX9_passes_1 rfl ?_
  refine j_getI FX9_155 rfl dX9_passes_2 (VK_c 9 349 rfl).1 (VK_c 9 349 rfl).lt (VK_c 9 349 rfl).ka (fun r1 => ?_)
  refine j_iload_n (j := 1) dX9_passes_5 rfl rfl ?_
  refine j_iadd dX9_passes_6 ?_
  obtain ⟨A2, eA2, h⟩ := bnd_elim h
  have xA2 : XT A A2 := by rw [eA2]; exact XT_sI _ _ _ _
  refine j_putI FX9_155 rfl rfl rfl (wrap_inR _) dX9_passes_7 (VK_c 9 349 rfl).1 (VK_c 9 349 rfl).lt (VK_c 9 349 rfl).ka ?_
  refine j_hB eA2 ?_
  refine j_aload_n (j := 0) dX9_passes_10 rfl rfl ?_
  obtain ⟨z4, e3, h⟩ := obind_elim h
  refine j_callV MX9_303 YX9_nextOver IX9_nextOver SX9_nextOver (by decide) rfl (by decide) (by omega) (Nat.le_of_ble_eq_true rfl) rfl (ctX9_nextOver (d := d - 1) hl (by omega)  e3) dX9_passes_11 (VK_c 9 349 rfl).1 (VK_c 9 349 rfl).lt (VK_c 9 349 rfl).ka rfl (fun z5 _ => ?_)
  refine j_istore_n (lv' := [(2, vI z4), (0, .ref (gB g + 349)), (1, vI x1)]) dX9_passes_14 rfl (by decide) (by first | rfl | (simp only [List.all_cons, List.all_nil, rv_cat]; rfl)) rfl ?_
  exact j_sub [1, 0] rfl (tX9_passes_15 hl (by omega)   N A2 z4 z5 h)
theorem ctX9_passes {g : JG} {l : Launch} {d N : Nat} {A : AH} {out : Int × AH} {x1 : Int} (hl : l.stackTraces = false) (hd : 4 ≤ d) (hx1 : inR x1) (h : fX9_passes N A x1 = some out) : CT g l yX9_passes cX9_passes 4 (some .int) d [.ref (gB g + 349), vI x1] A ((0, some (vI out.1), out.2) : JO) (inR out.1) :=
  CT_of (by decide +kernel) hl (by first | exact Nat.le_of_ble_eq_true rfl | (unfold rv; split <;> exact Nat.le_of_ble_eq_true rfl)) (by first | rfl | (unfold rv; split <;> rfl)) (j_sub (lv := [(0, .ref (gB g + 349)), (1, vI x1)]) [0, 1] rfl (tX9_passes_0 hl hd hx1 h))
set_option maxRecDepth 100000 in
theorem tX9_pass_0 {g : JG} {l : Launch} {d N n0 s0 : Nat} {out : Int × AH} {A : AH} {x1 : Int} (hl : l.stackTraces = false) (hd : 5 ≤ d) (hx1 : inR x1) (h : fX9_pass N A x1 = some out) : J g l d RX9 "pass" cX9_pass 2 (some .int) n0 s0 ((0, some (vI out.1), out.2) : JO) (inR out.1) 0 [(0, .ref (gB g + 349)), (1, vI x1)] [] A := by
  unfold fX9_pass at h
  refine j_iload_n (j := 1) dX9_pass_0 rfl rfl ?_
  refine j_iconst dX9_pass_1 ?_
  refine j_bipush dX9_pass_2 rfl ?_
  obtain ⟨z2, e1, h⟩ := obind_elim h
  refine j_callS MX9_90 YX9_isBetween IX9_isBetween (by decide) (by omega) (Nat.le_of_ble_eq_true rfl) rfl (ctX9_isBetween (d := d - 1) hl (by omega) hx1 (inR_lit _ rfl) (inR_lit _ rfl) e1) dX9_pass_4 rfl (fun z3 _ => ?_)
  by_cases c5 : z2 = 0
  · rw [if_pos c5] at h
    refine j_if_ne_f (bool_inR z3) dX9_pass_7 (tgt := 16) (by decide) (fun q => q c5) ?_
    refine j_aload_n (j := 0) dX9_pass_10 rfl rfl ?_
    refine j_iconst dX9_pass_11 ?_
    obtain ⟨p22, e21, h⟩ := obind_elim h
    refine j_callV MX9_220 YX9_fails IX9_fails SX9_fails (by decide) rfl (by decide) (by omega) (Nat.le_of_ble_eq_true rfl) rfl (ctX9_fails (d := d - 1) hl (by omega) (inR_lit _ rfl) e21) dX9_pass_12 (VK_c 9 349 rfl).1 (VK_c 9 349 rfl).lt (VK_c 9 349 rfl).ka rfl (fun z23 xt24 => ?_)
    cases h
    exact j_iret dX9_pass_15 rfl rfl rfl z23
  · rw [if_neg c5] at h
    refine j_if_ne_t (bool_inR z3) dX9_pass_7 (tgt := 16) (by decide) c5 ?_
    refine j_aload_n (j := 0) dX9_pass_16 rfl rfl ?_
    refine j_getI FX9_155 rfl dX9_pass_17 (VK_c 9 349 rfl).1 (VK_c 9 349 rfl).lt (VK_c 9 349 rfl).ka (fun r6 => ?_)
    refine j_iload_n (j := 1) dX9_pass_20 rfl rfl ?_
    refine j_iadd dX9_pass_21 ?_
    refine j_sipush dX9_pass_22 rfl ?_
    by_cases c7 : (wrap ((gI A 349 19) + x1)) ≤ 999
    · rw [if_pos c7] at h
      refine j_icmp_le_t (wrap_inR _) (inR_lit _ rfl) dX9_pass_25 (tgt := 34) (by decide) c7 ?_
      refine j_aload_n (j := 0) dX9_pass_34 rfl rfl ?_
      refine j_iconst dX9_pass_35 ?_
      obtain ⟨A8, eA8, h⟩ := bnd_elim h
      have xA8 : XT A A8 := by rw [eA8]; exact XT_sI _ _ _ _
      refine j_putI FX9_87 rfl rfl rfl (inR_lit _ rfl) dX9_pass_36 (VK_c 9 349 rfl).1 (VK_c 9 349 rfl).lt (VK_c 9 349 rfl).ka ?_
      refine j_hB eA8 ?_
      refine j_aload_n (j := 0) dX9_pass_39 rfl rfl ?_
      obtain ⟨p10, e9, h⟩ := obind_elim h
      refine j_callV MX9_223 YX9_remembers IX9_remembers SX9_remembers (by decide) rfl (by decide) (by omega) (Nat.le_of_ble_eq_true rfl) rfl (ctX9_remembers (d := d - 1) hl (by omega)  e9) dX9_pass_40 (VK_c 9 349 rfl).1 (VK_c 9 349 rfl).lt (VK_c 9 349 rfl).ka rfl (fun z11 xt12 => ?_)
      refine j_aload_n (j := 0) dX9_pass_43 rfl rfl ?_
      refine j_iload_n (j := 1) dX9_pass_44 rfl rfl ?_
      obtain ⟨p14, e13, h⟩ := obind_elim h
      refine j_callV MX9_310 YX9_passes IX9_passes SX9_passes (by decide) rfl (by decide) (by omega) (Nat.le_of_ble_eq_true rfl) rfl (ctX9_passes (d := d - 1) hl (by omega) hx1 e13) dX9_pass_45 (VK_c 9 349 rfl).1 (VK_c 9 349 rfl).lt (VK_c 9 349 rfl).ka rfl (fun z15 xt16 => ?_)
      cases h
      exact j_iret dX9_pass_48 rfl rfl rfl z15
    · rw [if_neg c7] at h
      refine j_icmp_le_f (wrap_inR _) (inR_lit _ rfl) dX9_pass_25 (tgt := 34) (by decide) c7 ?_
      refine j_aload_n (j := 0) dX9_pass_28 rfl rfl ?_
      refine j_iconst dX9_pass_29 ?_
      obtain ⟨p18, e17, h⟩ := obind_elim h
      refine j_callV MX9_220 YX9_fails IX9_fails SX9_fails (by decide) rfl (by decide) (by omega) (Nat.le_of_ble_eq_true rfl) rfl (ctX9_fails (d := d - 1) hl (by omega) (inR_lit _ rfl) e17) dX9_pass_30 (VK_c 9 349 rfl).1 (VK_c 9 349 rfl).lt (VK_c 9 349 rfl).ka rfl (fun z19 xt20 => ?_)
      cases h
      exact j_iret dX9_pass_33 rfl rfl rfl z19
theorem ctX9_pass {g : JG} {l : Launch} {d N : Nat} {A : AH} {out : Int × AH} {x1 : Int} (hl : l.stackTraces = false) (hd : 5 ≤ d) (hx1 : inR x1) (h : fX9_pass N A x1 = some out) : CT g l yX9_pass cX9_pass 2 (some .int) d [.ref (gB g + 349), vI x1] A ((0, some (vI out.1), out.2) : JO) (inR out.1) :=
  CT_of (by decide +kernel) hl (by first | exact Nat.le_of_ble_eq_true rfl | (unfold rv; split <;> exact Nat.le_of_ble_eq_true rfl)) (by first | rfl | (unfold rv; split <;> rfl)) (j_sub (lv := [(0, .ref (gB g + 349)), (1, vI x1)]) [0, 1] rfl (tX9_pass_0 hl hd hx1 h))
set_option maxRecDepth 100000 in
theorem tX9_inState_4 {g : JG} {l : Launch} {d N n0 s0 : Nat} {out : Int} {A : AH} {x1 : Int} (hl : l.stackTraces = false) (hd : 1 ≤ d) (hx1 : inR x1) : ∀ (n : Nat) (x2 : Int) (x3 : Int), inR x2 → inR x3 → fX9_inState_4 N A x1 n x2 x3 = some out → J g l d RX9 "inState" cX9_inState 4 (some .int) n0 s0 ((0, some (vI out), A) : JO) (inR out) 4 [(0, .ref (gB g + 349)), (1, vI x1), (2, vI x2), (3, vI x3)] [] A := by
  intro n
  induction n with
  | zero =>
    intro x2 x3 hx2 hx3 h
    rw [fX9_inState_4] at h
    cases h
  | succ n ih =>
    intro x2 x3 hx2 hx3 h
    rw [fX9_inState_4] at h
    refine j_iload_n (j := 3) dX9_inState_4 rfl rfl ?_
    refine j_aload_n (j := 0) dX9_inState_5 rfl rfl ?_
    refine j_getI FX9_100 rfl dX9_inState_6 (VK_c 9 349 rfl).1 (VK_c 9 349 rfl).lt (VK_c 9 349 rfl).ka (fun r1 => ?_)
    by_cases c2 : (gI A 349 22) ≤ x3
    · rw [if_pos c2] at h
      refine j_icmp_ge_t hx3 r1 dX9_inState_9 (tgt := 36) (by decide) c2 ?_
      refine j_iload_n (j := 2) dX9_inState_36 rfl rfl ?_
      cases h
      exact j_iret dX9_inState_37 rfl rfl rfl hx2
    · rw [if_neg c2] at h
      refine j_icmp_ge_f hx3 r1 dX9_inState_9 (tgt := 36) (by decide) c2 ?_
      refine j_iload_n (j := 2) dX9_inState_12 rfl rfl ?_
      refine j_aload_n (j := 0) dX9_inState_13 rfl rfl ?_
      refine j_getR (q := 357) FX9_31 rfl dX9_inState_14 (by decide) (by decide) rfl rfl (by decide) ?_
      refine j_iload_n (j := 3) dX9_inState_17 rfl rfl ?_
      obtain ⟨c3, h⟩ := chk_elim h
      refine j_iald hx3 (by decide) (by decide) rfl dX9_inState_18 (VK_c 27 357 rfl).1 (VK_c 27 357 rfl).lt (VK_c 27 357 rfl).ka c3 (fun r4 => ?_)
      refine j_iload_n (j := 1) dX9_inState_19 rfl rfl ?_
      by_cases c5 : (gI A 357 x3.toNat) = x1
      · rw [if_pos c5] at h
        refine j_icmp_ne_f r4 hx1 dX9_inState_20 (tgt := 27) (by decide) (fun q => q c5) ?_
        refine j_iconst dX9_inState_23 ?_
        refine j_goto (tgt := 28) dX9_inState_24 (by decide) ?_
        refine j_iadd dX9_inState_28 ?_
        obtain ⟨u8, eu8, h⟩ := bnd_elim h
        have hu8 : inR u8 := by rw [eu8]; exact (wrap_inR _)
        refine j_nm eu8 ?_
        refine j_istore_n (lv' := [(2, vI u8), (0, .ref (gB g + 349)), (1, vI x1), (3, vI x3)]) dX9_inState_29 rfl (by decide) (by first | rfl | (simp only [List.all_cons, List.all_nil, rv_cat]; rfl)) rfl ?_
        obtain ⟨u9, eu9, h⟩ := bnd_elim h
        have hu9 : inR u9 := by rw [eu9]; exact wrap_inR _
        refine j_iincN (k := 3) (lv' := [(3, vI u9), (2, vI u8), (0, .ref (gB g + 349)), (1, vI x1)]) eu9 dX9_inState_30 rfl (by decide) (by first | rfl | (simp only [List.all_cons, List.all_nil, rv_cat]; rfl)) rfl ?_
        refine j_goto (tgt := 4) dX9_inState_33 (by decide) ?_
        exact j_sub [2, 3, 1, 0] rfl (ih u8 u9 hu8 hu9 h)
      · rw [if_neg c5] at h
        refine j_icmp_ne_t r4 hx1 dX9_inState_20 (tgt := 27) (by decide) c5 ?_
        refine j_iconst dX9_inState_27 ?_
        refine j_iadd dX9_inState_28 ?_
        obtain ⟨u6, eu6, h⟩ := bnd_elim h
        have hu6 : inR u6 := by rw [eu6]; exact (wrap_inR _)
        refine j_nm eu6 ?_
        refine j_istore_n (lv' := [(2, vI u6), (0, .ref (gB g + 349)), (1, vI x1), (3, vI x3)]) dX9_inState_29 rfl (by decide) (by first | rfl | (simp only [List.all_cons, List.all_nil, rv_cat]; rfl)) rfl ?_
        obtain ⟨u7, eu7, h⟩ := bnd_elim h
        have hu7 : inR u7 := by rw [eu7]; exact wrap_inR _
        refine j_iincN (k := 3) (lv' := [(3, vI u7), (2, vI u6), (0, .ref (gB g + 349)), (1, vI x1)]) eu7 dX9_inState_30 rfl (by decide) (by first | rfl | (simp only [List.all_cons, List.all_nil, rv_cat]; rfl)) rfl ?_
        refine j_goto (tgt := 4) dX9_inState_33 (by decide) ?_
        exact j_sub [2, 3, 1, 0] rfl (ih u6 u7 hu6 hu7 h)
set_option maxRecDepth 100000 in
theorem tX9_inState_0 {g : JG} {l : Launch} {d N n0 s0 : Nat} {out : Int} {A : AH} {x1 : Int} (hl : l.stackTraces = false) (hd : 1 ≤ d) (hx1 : inR x1) (h : fX9_inState N A x1 = some out) : J g l d RX9 "inState" cX9_inState 4 (some .int) n0 s0 ((0, some (vI out), A) : JO) (inR out) 0 [(0, .ref (gB g + 349)), (1, vI x1)] [] A := by
  unfold fX9_inState at h
  refine j_iconst dX9_inState_0 ?_
  refine j_istore_n (lv' := [(2, vI 0), (0, .ref (gB g + 349)), (1, vI x1)]) dX9_inState_1 rfl (by decide) (by first | rfl | (simp only [List.all_cons, List.all_nil, rv_cat]; rfl)) rfl ?_
  refine j_iconst dX9_inState_2 ?_
  refine j_istore_n (lv' := [(3, vI 0), (2, vI 0), (0, .ref (gB g + 349)), (1, vI x1)]) dX9_inState_3 rfl (by decide) (by first | rfl | (simp only [List.all_cons, List.all_nil, rv_cat]; rfl)) rfl ?_
  exact j_sub [2, 3, 1, 0] rfl (tX9_inState_4 hl (by omega) hx1  N 0 0 (inR_lit _ rfl) (inR_lit _ rfl) h)
theorem ctX9_inState {g : JG} {l : Launch} {d N : Nat} {A : AH} {out : Int} {x1 : Int} (hl : l.stackTraces = false) (hd : 1 ≤ d) (hx1 : inR x1) (h : fX9_inState N A x1 = some out) : CT g l yX9_inState cX9_inState 4 (some .int) d [.ref (gB g + 349), vI x1] A ((0, some (vI out), A) : JO) (inR out) :=
  CT_of (by decide +kernel) hl (by first | exact Nat.le_of_ble_eq_true rfl | (unfold rv; split <;> exact Nat.le_of_ble_eq_true rfl)) (by first | rfl | (unfold rv; split <;> rfl)) (j_sub (lv := [(0, .ref (gB g + 349)), (1, vI x1)]) [0, 1] rfl (tX9_inState_0 hl hd hx1 h))
set_option maxRecDepth 100000 in
theorem tX9_overPilots_4 {g : JG} {l : Launch} {d N n0 s0 : Nat} {out : Int} {A : AH} {x1 : Int} (hl : l.stackTraces = false) (hd : 4 ≤ d) (hx1 : inR x1) : ∀ (n : Nat) (x2 : Int) (x3 : Int), inR x2 → inR x3 → fX9_overPilots_4 N A x1 n x2 x3 = some out → J g l d RX9 "overPilots" cX9_overPilots 4 (some .int) n0 s0 ((0, some (vI out), A) : JO) (inR out) 4 [(0, .ref (gB g + 349)), (1, vI x1), (2, vI x2), (3, vI x3)] [] A := by
  intro n
  induction n with
  | zero =>
    intro x2 x3 hx2 hx3 h
    rw [fX9_overPilots_4] at h
    cases h
  | succ n ih =>
    intro x2 x3 hx2 hx3 h
    rw [fX9_overPilots_4] at h
    refine j_iload_n (j := 3) dX9_overPilots_4 rfl rfl ?_
    refine j_aload_n (j := 0) dX9_overPilots_5 rfl rfl ?_
    refine j_getI FX9_94 rfl dX9_overPilots_6 (VK_c 9 349 rfl).1 (VK_c 9 349 rfl).lt (VK_c 9 349 rfl).ka (fun r1 => ?_)
    by_cases c2 : (gI A 349 20) ≤ x3
    · rw [if_pos c2] at h
      refine j_icmp_ge_t hx3 r1 dX9_overPilots_9 (tgt := 66) (by decide) c2 ?_
      refine j_iload_n (j := 2) dX9_overPilots_66 rfl rfl ?_
      cases h
      exact j_iret dX9_overPilots_67 rfl rfl rfl hx2
    · rw [if_neg c2] at h
      refine j_icmp_ge_f hx3 r1 dX9_overPilots_9 (tgt := 66) (by decide) c2 ?_
      refine j_iload_n (j := 2) dX9_overPilots_12 rfl rfl ?_
      refine j_iload_n (j := 1) dX9_overPilots_13 rfl rfl ?_
      refine j_bipush dX9_overPilots_14 rfl ?_
      by_cases c3 : x1 = 8
      · rw [if_pos c3] at h
        refine j_icmp_ne_f hx1 (inR_lit _ rfl) dX9_overPilots_16 (tgt := 27) (by decide) (fun q => q c3) ?_
        refine j_aload_n (j := 0) dX9_overPilots_19 rfl rfl ?_
        refine j_iload_n (j := 3) dX9_overPilots_20 rfl rfl ?_
        obtain ⟨z22, e21, h⟩ := obind_elim h
        refine j_callV MX9_270 YX9_rides IX9_rides SX9_rides (by decide) rfl (by decide) (by omega) (Nat.le_of_ble_eq_true rfl) rfl (ctX9_rides (d := d - 1) hl (by omega) hx3 e21) dX9_overPilots_21 (VK_c 9 349 rfl).1 (VK_c 9 349 rfl).lt (VK_c 9 349 rfl).ka rfl (fun z23 _ => ?_)
        refine j_goto (tgt := 58) dX9_overPilots_24 (by decide) ?_
        refine j_iadd dX9_overPilots_58 ?_
        obtain ⟨u25, eu25, h⟩ := bnd_elim h
        have hu25 : inR u25 := by rw [eu25]; exact (wrap_inR _)
        refine j_nm eu25 ?_
        refine j_istore_n (lv' := [(2, vI u25), (0, .ref (gB g + 349)), (1, vI x1), (3, vI x3)]) dX9_overPilots_59 rfl (by decide) (by first | rfl | (simp only [List.all_cons, List.all_nil, rv_cat]; rfl)) rfl ?_
        obtain ⟨u26, eu26, h⟩ := bnd_elim h
        have hu26 : inR u26 := by rw [eu26]; exact wrap_inR _
        refine j_iincN (k := 3) (lv' := [(3, vI u26), (2, vI u25), (0, .ref (gB g + 349)), (1, vI x1)]) eu26 dX9_overPilots_60 rfl (by decide) (by first | rfl | (simp only [List.all_cons, List.all_nil, rv_cat]; rfl)) rfl ?_
        refine j_goto (tgt := 4) dX9_overPilots_63 (by decide) ?_
        exact j_sub [2, 3, 1, 0] rfl (ih u25 u26 hu25 hu26 h)
      · rw [if_neg c3] at h
        refine j_icmp_ne_t hx1 (inR_lit _ rfl) dX9_overPilots_16 (tgt := 27) (by decide) c3 ?_
        refine j_iload_n (j := 1) dX9_overPilots_27 rfl rfl ?_
        refine j_bipush dX9_overPilots_28 rfl ?_
        by_cases c4 : x1 = 9
        · rw [if_pos c4] at h
          refine j_icmp_ne_f hx1 (inR_lit _ rfl) dX9_overPilots_30 (tgt := 41) (by decide) (fun q => q c4) ?_
          refine j_aload_n (j := 0) dX9_overPilots_33 rfl rfl ?_
          refine j_iload_n (j := 3) dX9_overPilots_34 rfl rfl ?_
          obtain ⟨z16, e15, h⟩ := obind_elim h
          refine j_callV MX9_276 YX9_tripHours IX9_tripHours SX9_tripHours (by decide) rfl (by decide) (by omega) (Nat.le_of_ble_eq_true rfl) rfl (ctX9_tripHours (d := d - 1) hl (by omega) hx3 e15) dX9_overPilots_35 (VK_c 9 349 rfl).1 (VK_c 9 349 rfl).lt (VK_c 9 349 rfl).ka rfl (fun z17 _ => ?_)
          refine j_goto (tgt := 58) dX9_overPilots_38 (by decide) ?_
          refine j_iadd dX9_overPilots_58 ?_
          obtain ⟨u19, eu19, h⟩ := bnd_elim h
          have hu19 : inR u19 := by rw [eu19]; exact (wrap_inR _)
          refine j_nm eu19 ?_
          refine j_istore_n (lv' := [(2, vI u19), (0, .ref (gB g + 349)), (1, vI x1), (3, vI x3)]) dX9_overPilots_59 rfl (by decide) (by first | rfl | (simp only [List.all_cons, List.all_nil, rv_cat]; rfl)) rfl ?_
          obtain ⟨u20, eu20, h⟩ := bnd_elim h
          have hu20 : inR u20 := by rw [eu20]; exact wrap_inR _
          refine j_iincN (k := 3) (lv' := [(3, vI u20), (2, vI u19), (0, .ref (gB g + 349)), (1, vI x1)]) eu20 dX9_overPilots_60 rfl (by decide) (by first | rfl | (simp only [List.all_cons, List.all_nil, rv_cat]; rfl)) rfl ?_
          refine j_goto (tgt := 4) dX9_overPilots_63 (by decide) ?_
          exact j_sub [2, 3, 1, 0] rfl (ih u19 u20 hu19 hu20 h)
        · rw [if_neg c4] at h
          refine j_icmp_ne_t hx1 (inR_lit _ rfl) dX9_overPilots_30 (tgt := 41) (by decide) c4 ?_
          refine j_aload_n (j := 0) dX9_overPilots_41 rfl rfl ?_
          refine j_iload_n (j := 3) dX9_overPilots_42 rfl rfl ?_
          refine j_aload_n (j := 0) dX9_overPilots_43 rfl rfl ?_
          refine j_getI FX9_155 rfl dX9_overPilots_44 (VK_c 9 349 rfl).1 (VK_c 9 349 rfl).lt (VK_c 9 349 rfl).ka (fun r5 => ?_)
          obtain ⟨z7, e6, h⟩ := obind_elim h
          refine j_callV MX9_297 YX9_placeAt IX9_placeAt SX9_placeAt (by decide) rfl (by decide) (by omega) (Nat.le_of_ble_eq_true rfl) rfl (ctX9_placeAt (d := d - 1) hl (by omega) hx3 r5 e6) dX9_overPilots_47 (VK_c 9 349 rfl).1 (VK_c 9 349 rfl).lt (VK_c 9 349 rfl).ka rfl (fun z8 _ => ?_)
          by_cases c10 : 0 ≤ z7
          · rw [if_pos c10] at h
            refine j_if_ge_t z8 dX9_overPilots_50 (tgt := 57) (by decide) c10 ?_
            refine j_iconst dX9_overPilots_57 ?_
            refine j_iadd dX9_overPilots_58 ?_
            obtain ⟨u11, eu11, h⟩ := bnd_elim h
            have hu11 : inR u11 := by rw [eu11]; exact (wrap_inR _)
            refine j_nm eu11 ?_
            refine j_istore_n (lv' := [(2, vI u11), (0, .ref (gB g + 349)), (1, vI x1), (3, vI x3)]) dX9_overPilots_59 rfl (by decide) (by first | rfl | (simp only [List.all_cons, List.all_nil, rv_cat]; rfl)) rfl ?_
            obtain ⟨u12, eu12, h⟩ := bnd_elim h
            have hu12 : inR u12 := by rw [eu12]; exact wrap_inR _
            refine j_iincN (k := 3) (lv' := [(3, vI u12), (2, vI u11), (0, .ref (gB g + 349)), (1, vI x1)]) eu12 dX9_overPilots_60 rfl (by decide) (by first | rfl | (simp only [List.all_cons, List.all_nil, rv_cat]; rfl)) rfl ?_
            refine j_goto (tgt := 4) dX9_overPilots_63 (by decide) ?_
            exact j_sub [2, 3, 1, 0] rfl (ih u11 u12 hu11 hu12 h)
          · rw [if_neg c10] at h
            refine j_if_ge_f z8 dX9_overPilots_50 (tgt := 57) (by decide) c10 ?_
            refine j_iconst dX9_overPilots_53 ?_
            refine j_goto (tgt := 58) dX9_overPilots_54 (by decide) ?_
            refine j_iadd dX9_overPilots_58 ?_
            obtain ⟨u13, eu13, h⟩ := bnd_elim h
            have hu13 : inR u13 := by rw [eu13]; exact (wrap_inR _)
            refine j_nm eu13 ?_
            refine j_istore_n (lv' := [(2, vI u13), (0, .ref (gB g + 349)), (1, vI x1), (3, vI x3)]) dX9_overPilots_59 rfl (by decide) (by first | rfl | (simp only [List.all_cons, List.all_nil, rv_cat]; rfl)) rfl ?_
            obtain ⟨u14, eu14, h⟩ := bnd_elim h
            have hu14 : inR u14 := by rw [eu14]; exact wrap_inR _
            refine j_iincN (k := 3) (lv' := [(3, vI u14), (2, vI u13), (0, .ref (gB g + 349)), (1, vI x1)]) eu14 dX9_overPilots_60 rfl (by decide) (by first | rfl | (simp only [List.all_cons, List.all_nil, rv_cat]; rfl)) rfl ?_
            refine j_goto (tgt := 4) dX9_overPilots_63 (by decide) ?_
            exact j_sub [2, 3, 1, 0] rfl (ih u13 u14 hu13 hu14 h)
set_option maxRecDepth 100000 in
theorem tX9_overPilots_0 {g : JG} {l : Launch} {d N n0 s0 : Nat} {out : Int} {A : AH} {x1 : Int} (hl : l.stackTraces = false) (hd : 4 ≤ d) (hx1 : inR x1) (h : fX9_overPilots N A x1 = some out) : J g l d RX9 "overPilots" cX9_overPilots 4 (some .int) n0 s0 ((0, some (vI out), A) : JO) (inR out) 0 [(0, .ref (gB g + 349)), (1, vI x1)] [] A := by
  unfold fX9_overPilots at h
  refine j_iconst dX9_overPilots_0 ?_
  refine j_istore_n (lv' := [(2, vI 0), (0, .ref (gB g + 349)), (1, vI x1)]) dX9_overPilots_1 rfl (by decide) (by first | rfl | (simp only [List.all_cons, List.all_nil, rv_cat]; rfl)) rfl ?_
  refine j_iconst dX9_overPilots_2 ?_
  refine j_istore_n (lv' := [(3, vI 0), (2, vI 0), (0, .ref (gB g + 349)), (1, vI x1)]) dX9_overPilots_3 rfl (by decide) (by first | rfl | (simp only [List.all_cons, List.all_nil, rv_cat]; rfl)) rfl ?_
  exact j_sub [2, 3, 1, 0] rfl (tX9_overPilots_4 hl (by omega) hx1  N 0 0 (inR_lit _ rfl) (inR_lit _ rfl) h)
theorem ctX9_overPilots {g : JG} {l : Launch} {d N : Nat} {A : AH} {out : Int} {x1 : Int} (hl : l.stackTraces = false) (hd : 4 ≤ d) (hx1 : inR x1) (h : fX9_overPilots N A x1 = some out) : CT g l yX9_overPilots cX9_overPilots 4 (some .int) d [.ref (gB g + 349), vI x1] A ((0, some (vI out), A) : JO) (inR out) :=
  CT_of (by decide +kernel) hl (by first | exact Nat.le_of_ble_eq_true rfl | (unfold rv; split <;> exact Nat.le_of_ble_eq_true rfl)) (by first | rfl | (unfold rv; split <;> rfl)) (j_sub (lv := [(0, .ref (gB g + 349)), (1, vI x1)]) [0, 1] rfl (tX9_overPilots_0 hl hd hx1 h))
set_option maxRecDepth 100000 in
theorem tX9_allPutOffs_4 {g : JG} {l : Launch} {d N n0 s0 : Nat} {out : Int} {A : AH} (hl : l.stackTraces = false) (hd : 1 ≤ d) : ∀ (n : Nat) (x1 : Int) (x2 : Int), inR x1 → inR x2 → fX9_allPutOffs_4 N A n x1 x2 = some out → J g l d RX9 "allPutOffs" cX9_allPutOffs 3 (some .int) n0 s0 ((0, some (vI out), A) : JO) (inR out) 4 [(0, .ref (gB g + 349)), (1, vI x1), (2, vI x2)] [] A := by
  intro n
  induction n with
  | zero =>
    intro x1 x2 hx1 hx2 h
    rw [fX9_allPutOffs_4] at h
    cases h
  | succ n ih =>
    intro x1 x2 hx1 hx2 h
    rw [fX9_allPutOffs_4] at h
    refine j_iload_n (j := 2) dX9_allPutOffs_4 rfl rfl ?_
    refine j_aload_n (j := 0) dX9_allPutOffs_5 rfl rfl ?_
    refine j_getI FX9_100 rfl dX9_allPutOffs_6 (VK_c 9 349 rfl).1 (VK_c 9 349 rfl).lt (VK_c 9 349 rfl).ka (fun r1 => ?_)
    by_cases c2 : (gI A 349 22) ≤ x2
    · rw [if_pos c2] at h
      refine j_icmp_ge_t hx2 r1 dX9_allPutOffs_9 (tgt := 27) (by decide) c2 ?_
      refine j_iload_n (j := 1) dX9_allPutOffs_27 rfl rfl ?_
      cases h
      exact j_iret dX9_allPutOffs_28 rfl rfl rfl hx1
    · rw [if_neg c2] at h
      refine j_icmp_ge_f hx2 r1 dX9_allPutOffs_9 (tgt := 27) (by decide) c2 ?_
      refine j_iload_n (j := 1) dX9_allPutOffs_12 rfl rfl ?_
      refine j_aload_n (j := 0) dX9_allPutOffs_13 rfl rfl ?_
      refine j_getR (q := 360) FX9_40 rfl dX9_allPutOffs_14 (by decide) (by decide) rfl rfl (by decide) ?_
      refine j_iload_n (j := 2) dX9_allPutOffs_17 rfl rfl ?_
      obtain ⟨c3, h⟩ := chk_elim h
      refine j_iald hx2 (by decide) (by decide) rfl dX9_allPutOffs_18 (VK_c 30 360 rfl).1 (VK_c 30 360 rfl).lt (VK_c 30 360 rfl).ka c3 (fun r4 => ?_)
      refine j_iadd dX9_allPutOffs_19 ?_
      obtain ⟨u5, eu5, h⟩ := bnd_elim h
      have hu5 : inR u5 := by rw [eu5]; exact (wrap_inR _)
      refine j_nm eu5 ?_
      refine j_istore_n (lv' := [(1, vI u5), (0, .ref (gB g + 349)), (2, vI x2)]) dX9_allPutOffs_20 rfl (by decide) (by first | rfl | (simp only [List.all_cons, List.all_nil, rv_cat]; rfl)) rfl ?_
      obtain ⟨u6, eu6, h⟩ := bnd_elim h
      have hu6 : inR u6 := by rw [eu6]; exact wrap_inR _
      refine j_iincN (k := 2) (lv' := [(2, vI u6), (1, vI u5), (0, .ref (gB g + 349))]) eu6 dX9_allPutOffs_21 rfl (by decide) (by first | rfl | (simp only [List.all_cons, List.all_nil, rv_cat]; rfl)) rfl ?_
      refine j_goto (tgt := 4) dX9_allPutOffs_24 (by decide) ?_
      exact j_sub [2, 1, 0] rfl (ih u5 u6 hu5 hu6 h)
set_option maxRecDepth 100000 in
theorem tX9_allPutOffs_0 {g : JG} {l : Launch} {d N n0 s0 : Nat} {out : Int} {A : AH} (hl : l.stackTraces = false) (hd : 1 ≤ d) (h : fX9_allPutOffs N A  = some out) : J g l d RX9 "allPutOffs" cX9_allPutOffs 3 (some .int) n0 s0 ((0, some (vI out), A) : JO) (inR out) 0 [(0, .ref (gB g + 349))] [] A := by
  unfold fX9_allPutOffs at h
  refine j_iconst dX9_allPutOffs_0 ?_
  refine j_istore_n (lv' := [(1, vI 0), (0, .ref (gB g + 349))]) dX9_allPutOffs_1 rfl (by decide) (by first | rfl | (simp only [List.all_cons, List.all_nil, rv_cat]; rfl)) rfl ?_
  refine j_iconst dX9_allPutOffs_2 ?_
  refine j_istore_n (lv' := [(2, vI 0), (1, vI 0), (0, .ref (gB g + 349))]) dX9_allPutOffs_3 rfl (by decide) (by first | rfl | (simp only [List.all_cons, List.all_nil, rv_cat]; rfl)) rfl ?_
  exact j_sub [2, 1, 0] rfl (tX9_allPutOffs_4 hl (by omega)   N 0 0 (inR_lit _ rfl) (inR_lit _ rfl) h)
theorem ctX9_allPutOffs {g : JG} {l : Launch} {d N : Nat} {A : AH} {out : Int} (hl : l.stackTraces = false) (hd : 1 ≤ d) (h : fX9_allPutOffs N A  = some out) : CT g l yX9_allPutOffs cX9_allPutOffs 3 (some .int) d [.ref (gB g + 349)] A ((0, some (vI out), A) : JO) (inR out) :=
  CT_of (by decide +kernel) hl (by first | exact Nat.le_of_ble_eq_true rfl | (unfold rv; split <;> exact Nat.le_of_ble_eq_true rfl)) (by first | rfl | (unfold rv; split <;> rfl)) (j_sub (lv := [(0, .ref (gB g + 349))]) [0] rfl (tX9_allPutOffs_0 hl hd  h))
set_option maxRecDepth 100000 in
theorem tX9_number_38 {g : JG} {l : Launch} {d N n0 s0 : Nat} {out : Int × AH} {A : AH} {x1 : Int} (hl : l.stackTraces = false) (hd : 5 ≤ d) (hx1 : inR x1) (h : fX9_number_38 N A x1 = some out) : J g l d RX9 "number" cX9_number 2 (some .int) n0 s0 ((0, some (vI out.1), out.2) : JO) (inR out.1) 38 [(0, .ref (gB g + 349)), (1, vI x1)] [] A := by
  unfold fX9_number_38 at h
  refine j_aload_n (j := 0) dX9_number_38 rfl rfl ?_
  refine j_iconst dX9_number_39 ?_
  obtain ⟨A1, eA1, h⟩ := bnd_elim h
  have xA1 : XT A A1 := by rw [eA1]; exact XT_sI _ _ _ _
  refine j_putI FX9_87 rfl rfl rfl (inR_lit _ rfl) dX9_number_40 (VK_c 9 349 rfl).1 (VK_c 9 349 rfl).lt (VK_c 9 349 rfl).ka ?_
  refine j_hB eA1 ?_
  refine j_iload_n (j := 1) dX9_number_43 rfl rfl ?_
  refine j_bipush dX9_number_44 rfl ?_
  by_cases c2 : x1 < 30
  · rw [if_pos c2] at h
    refine j_icmp_lt_t hx1 (inR_lit _ rfl) dX9_number_46 (tgt := 59) (by decide) c2 ?_
    refine j_iload_n (j := 1) dX9_number_59 rfl rfl ?_
    refine j_bipush dX9_number_60 rfl ?_
    by_cases c3 : x1 < 20
    · rw [if_pos c3] at h
      refine j_icmp_lt_t hx1 (inR_lit _ rfl) dX9_number_62 (tgt := 75) (by decide) c3 ?_
      refine j_iload_n (j := 1) dX9_number_75 rfl rfl ?_
      by_cases c4 : x1 = 0
      · rw [if_pos c4] at h
        refine j_table_in (tgt := 144) hx1 dX9_number_76 (by omega) (by omega) (by rw [c4]; rfl) (by decide) ?_
        refine j_aload_n (j := 0) dX9_number_144 rfl rfl ?_
        refine j_iload_n (j := 1) dX9_number_145 rfl rfl ?_
        obtain ⟨z6, e5, h⟩ := obind_elim h
        refine j_callV MX9_313 YX9_inState IX9_inState SX9_inState (by decide) rfl (by decide) (by omega) (Nat.le_of_ble_eq_true rfl) rfl (ctX9_inState (d := d - 1) hl (by omega) hx1 e5) dX9_number_146 (VK_c 9 349 rfl).1 (VK_c 9 349 rfl).lt (VK_c 9 349 rfl).ka rfl (fun z7 _ => ?_)
        cases h
        exact j_iret dX9_number_149 rfl rfl rfl z7
      · rw [if_neg c4] at h
        by_cases c9 : x1 = 1
        · rw [if_pos c9] at h
          refine j_table_in (tgt := 144) hx1 dX9_number_76 (by omega) (by omega) (by rw [c9]; rfl) (by decide) ?_
          refine j_aload_n (j := 0) dX9_number_144 rfl rfl ?_
          refine j_iload_n (j := 1) dX9_number_145 rfl rfl ?_
          obtain ⟨z11, e10, h⟩ := obind_elim h
          refine j_callV MX9_313 YX9_inState IX9_inState SX9_inState (by decide) rfl (by decide) (by omega) (Nat.le_of_ble_eq_true rfl) rfl (ctX9_inState (d := d - 1) hl (by omega) hx1 e10) dX9_number_146 (VK_c 9 349 rfl).1 (VK_c 9 349 rfl).lt (VK_c 9 349 rfl).ka rfl (fun z12 _ => ?_)
          cases h
          exact j_iret dX9_number_149 rfl rfl rfl z12
        · rw [if_neg c9] at h
          by_cases c14 : x1 = 2
          · rw [if_pos c14] at h
            refine j_table_in (tgt := 144) hx1 dX9_number_76 (by omega) (by omega) (by rw [c14]; rfl) (by decide) ?_
            refine j_aload_n (j := 0) dX9_number_144 rfl rfl ?_
            refine j_iload_n (j := 1) dX9_number_145 rfl rfl ?_
            obtain ⟨z16, e15, h⟩ := obind_elim h
            refine j_callV MX9_313 YX9_inState IX9_inState SX9_inState (by decide) rfl (by decide) (by omega) (Nat.le_of_ble_eq_true rfl) rfl (ctX9_inState (d := d - 1) hl (by omega) hx1 e15) dX9_number_146 (VK_c 9 349 rfl).1 (VK_c 9 349 rfl).lt (VK_c 9 349 rfl).ka rfl (fun z17 _ => ?_)
            cases h
            exact j_iret dX9_number_149 rfl rfl rfl z17
          · rw [if_neg c14] at h
            by_cases c19 : x1 = 3
            · rw [if_pos c19] at h
              refine j_table_in (tgt := 144) hx1 dX9_number_76 (by omega) (by omega) (by rw [c19]; rfl) (by decide) ?_
              refine j_aload_n (j := 0) dX9_number_144 rfl rfl ?_
              refine j_iload_n (j := 1) dX9_number_145 rfl rfl ?_
              obtain ⟨z21, e20, h⟩ := obind_elim h
              refine j_callV MX9_313 YX9_inState IX9_inState SX9_inState (by decide) rfl (by decide) (by omega) (Nat.le_of_ble_eq_true rfl) rfl (ctX9_inState (d := d - 1) hl (by omega) hx1 e20) dX9_number_146 (VK_c 9 349 rfl).1 (VK_c 9 349 rfl).lt (VK_c 9 349 rfl).ka rfl (fun z22 _ => ?_)
              cases h
              exact j_iret dX9_number_149 rfl rfl rfl z22
            · rw [if_neg c19] at h
              by_cases c24 : x1 = 4
              · rw [if_pos c24] at h
                refine j_table_in (tgt := 150) hx1 dX9_number_76 (by omega) (by omega) (by rw [c24]; rfl) (by decide) ?_
                refine j_aload_n (j := 0) dX9_number_150 rfl rfl ?_
                refine j_getI FX9_155 rfl dX9_number_151 (VK_c 9 349 rfl).1 (VK_c 9 349 rfl).lt (VK_c 9 349 rfl).ka (fun r25 => ?_)
                cases h
                exact j_iret dX9_number_154 rfl rfl rfl r25
              · rw [if_neg c24] at h
                by_cases c26 : x1 = 5
                · rw [if_pos c26] at h
                  refine j_table_in (tgt := 155) hx1 dX9_number_76 (by omega) (by omega) (by rw [c26]; rfl) (by decide) ?_
                  refine j_aload_n (j := 0) dX9_number_155 rfl rfl ?_
                  refine j_getI FX9_94 rfl dX9_number_156 (VK_c 9 349 rfl).1 (VK_c 9 349 rfl).lt (VK_c 9 349 rfl).ka (fun r27 => ?_)
                  cases h
                  exact j_iret dX9_number_159 rfl rfl rfl r27
                · rw [if_neg c26] at h
                  by_cases c28 : x1 = 6
                  · rw [if_pos c28] at h
                    refine j_table_in (tgt := 160) hx1 dX9_number_76 (by omega) (by omega) (by rw [c28]; rfl) (by decide) ?_
                    refine j_aload_n (j := 0) dX9_number_160 rfl rfl ?_
                    refine j_getI FX9_97 rfl dX9_number_161 (VK_c 9 349 rfl).1 (VK_c 9 349 rfl).lt (VK_c 9 349 rfl).ka (fun r29 => ?_)
                    cases h
                    exact j_iret dX9_number_164 rfl rfl rfl r29
                  · rw [if_neg c28] at h
                    by_cases c30 : x1 = 7
                    · rw [if_pos c30] at h
                      refine j_table_in (tgt := 165) hx1 dX9_number_76 (by omega) (by omega) (by rw [c30]; rfl) (by decide) ?_
                      refine j_aload_n (j := 0) dX9_number_165 rfl rfl ?_
                      refine j_getI FX9_137 rfl dX9_number_166 (VK_c 9 349 rfl).1 (VK_c 9 349 rfl).lt (VK_c 9 349 rfl).ka (fun r31 => ?_)
                      cases h
                      exact j_iret dX9_number_169 rfl rfl rfl r31
                    · rw [if_neg c30] at h
                      by_cases c32 : x1 = 8
                      · rw [if_pos c32] at h
                        refine j_table_in (tgt := 170) hx1 dX9_number_76 (by omega) (by omega) (by rw [c32]; rfl) (by decide) ?_
                        refine j_aload_n (j := 0) dX9_number_170 rfl rfl ?_
                        refine j_iload_n (j := 1) dX9_number_171 rfl rfl ?_
                        obtain ⟨z34, e33, h⟩ := obind_elim h
                        refine j_callV MX9_316 YX9_overPilots IX9_overPilots SX9_overPilots (by decide) rfl (by decide) (by omega) (Nat.le_of_ble_eq_true rfl) rfl (ctX9_overPilots (d := d - 1) hl (by omega) hx1 e33) dX9_number_172 (VK_c 9 349 rfl).1 (VK_c 9 349 rfl).lt (VK_c 9 349 rfl).ka rfl (fun z35 _ => ?_)
                        cases h
                        exact j_iret dX9_number_175 rfl rfl rfl z35
                      · rw [if_neg c32] at h
                        by_cases c37 : x1 = 9
                        · rw [if_pos c37] at h
                          refine j_table_in (tgt := 170) hx1 dX9_number_76 (by omega) (by omega) (by rw [c37]; rfl) (by decide) ?_
                          refine j_aload_n (j := 0) dX9_number_170 rfl rfl ?_
                          refine j_iload_n (j := 1) dX9_number_171 rfl rfl ?_
                          obtain ⟨z39, e38, h⟩ := obind_elim h
                          refine j_callV MX9_316 YX9_overPilots IX9_overPilots SX9_overPilots (by decide) rfl (by decide) (by omega) (Nat.le_of_ble_eq_true rfl) rfl (ctX9_overPilots (d := d - 1) hl (by omega) hx1 e38) dX9_number_172 (VK_c 9 349 rfl).1 (VK_c 9 349 rfl).lt (VK_c 9 349 rfl).ka rfl (fun z40 _ => ?_)
                          cases h
                          exact j_iret dX9_number_175 rfl rfl rfl z40
                        · rw [if_neg c37] at h
                          by_cases c42 : x1 = 10
                          · rw [if_pos c42] at h
                            refine j_table_in (tgt := 176) hx1 dX9_number_76 (by omega) (by omega) (by rw [c42]; rfl) (by decide) ?_
                            refine j_aload_n (j := 0) dX9_number_176 rfl rfl ?_
                            obtain ⟨z44, e43, h⟩ := obind_elim h
                            refine j_callV MX9_319 YX9_allPutOffs IX9_allPutOffs SX9_allPutOffs (by decide) rfl (by decide) (by omega) (Nat.le_of_ble_eq_true rfl) rfl (ctX9_allPutOffs (d := d - 1) hl (by omega)  e43) dX9_number_177 (VK_c 9 349 rfl).1 (VK_c 9 349 rfl).lt (VK_c 9 349 rfl).ka rfl (fun z45 _ => ?_)
                            cases h
                            exact j_iret dX9_number_180 rfl rfl rfl z45
                          · rw [if_neg c42] at h
                            by_cases c47 : x1 = 11
                            · rw [if_pos c47] at h
                              refine j_table_in (tgt := 170) hx1 dX9_number_76 (by omega) (by omega) (by rw [c47]; rfl) (by decide) ?_
                              refine j_aload_n (j := 0) dX9_number_170 rfl rfl ?_
                              refine j_iload_n (j := 1) dX9_number_171 rfl rfl ?_
                              obtain ⟨z49, e48, h⟩ := obind_elim h
                              refine j_callV MX9_316 YX9_overPilots IX9_overPilots SX9_overPilots (by decide) rfl (by decide) (by omega) (Nat.le_of_ble_eq_true rfl) rfl (ctX9_overPilots (d := d - 1) hl (by omega) hx1 e48) dX9_number_172 (VK_c 9 349 rfl).1 (VK_c 9 349 rfl).lt (VK_c 9 349 rfl).ka rfl (fun z50 _ => ?_)
                              cases h
                              exact j_iret dX9_number_175 rfl rfl rfl z50
                            · rw [if_neg c47] at h
                              by_cases c52 : x1 = 12
                              · rw [if_pos c52] at h
                                refine j_table_in (tgt := 181) hx1 dX9_number_76 (by omega) (by omega) (by rw [c52]; rfl) (by decide) ?_
                                refine j_aload_n (j := 0) dX9_number_181 rfl rfl ?_
                                refine j_getI FX9_322 rfl dX9_number_182 (VK_c 9 349 rfl).1 (VK_c 9 349 rfl).lt (VK_c 9 349 rfl).ka (fun r53 => ?_)
                                cases h
                                exact j_iret dX9_number_185 rfl rfl rfl r53
                              · rw [if_neg c52] at h
                                refine j_table_out (tgt := 186) hx1 dX9_number_76 (by omega) (by decide) ?_
                                refine j_aload_n (j := 0) dX9_number_186 rfl rfl ?_
                                refine j_getI FX9_325 rfl dX9_number_187 (VK_c 9 349 rfl).1 (VK_c 9 349 rfl).lt (VK_c 9 349 rfl).ka (fun r54 => ?_)
                                cases h
                                exact j_iret dX9_number_190 rfl rfl rfl r54
    · rw [if_neg c3] at h
      refine j_icmp_lt_f hx1 (inR_lit _ rfl) dX9_number_62 (tgt := 75) (by decide) c3 ?_
      refine j_aload_n (j := 0) dX9_number_65 rfl rfl ?_
      refine j_getR (q := 350) FX9_7 rfl dX9_number_66 (by decide) (by decide) rfl rfl (by decide) ?_
      refine j_iload_n (j := 1) dX9_number_69 rfl rfl ?_
      refine j_bipush dX9_number_70 rfl ?_
      refine j_isub dX9_number_72 ?_
      obtain ⟨c55, h⟩ := chk_elim h
      refine j_iald (wrap_inR _) (by decide) (by decide) rfl dX9_number_73 (VK_c 20 350 rfl).1 (VK_c 20 350 rfl).lt (VK_c 20 350 rfl).ka c55 (fun r56 => ?_)
      cases h
      exact j_iret dX9_number_74 rfl rfl rfl r56
  · rw [if_neg c2] at h
    refine j_icmp_lt_f hx1 (inR_lit _ rfl) dX9_number_46 (tgt := 59) (by decide) c2 ?_
    refine j_aload_n (j := 0) dX9_number_49 rfl rfl ?_
    refine j_getR (q := 351) FX9_13 rfl dX9_number_50 (by decide) (by decide) rfl rfl (by decide) ?_
    refine j_iload_n (j := 1) dX9_number_53 rfl rfl ?_
    refine j_bipush dX9_number_54 rfl ?_
    refine j_isub dX9_number_56 ?_
    obtain ⟨c57, h⟩ := chk_elim h
    refine j_iald (wrap_inR _) (by decide) (by decide) rfl dX9_number_57 (VK_c 21 351 rfl).1 (VK_c 21 351 rfl).lt (VK_c 21 351 rfl).ka c57 (fun r58 => ?_)
    cases h
    exact j_iret dX9_number_58 rfl rfl rfl r58
set_option maxRecDepth 100000 in
theorem tX9_number_0 {g : JG} {l : Launch} {d N n0 s0 : Nat} {out : Int × AH} {A : AH} {x1 : Int} (hl : l.stackTraces = false) (hd : 5 ≤ d) (hx1 : inR x1) (h : fX9_number N A x1 = some out) : J g l d RX9 "number" cX9_number 2 (some .int) n0 s0 ((0, some (vI out.1), out.2) : JO) (inR out.1) 0 [(0, .ref (gB g + 349)), (1, vI x1)] [] A := by
  unfold fX9_number at h
  refine j_iload_n (j := 1) dX9_number_0 rfl rfl ?_
  refine j_iconst dX9_number_1 ?_
  refine j_bipush dX9_number_2 rfl ?_
  obtain ⟨z2, e1, h⟩ := obind_elim h
  refine j_callS MX9_90 YX9_isBetween IX9_isBetween (by decide) (by omega) (Nat.le_of_ble_eq_true rfl) rfl (ctX9_isBetween (d := d - 1) hl (by omega) hx1 (inR_lit _ rfl) (inR_lit _ rfl) e1) dX9_number_4 rfl (fun z3 _ => ?_)
  by_cases c5 : z2 = 0
  · rw [if_pos c5] at h
    refine j_if_ne_f (bool_inR z3) dX9_number_7 (tgt := 38) (by decide) (fun q => q c5) ?_
    refine j_iload_n (j := 1) dX9_number_10 rfl rfl ?_
    refine j_bipush dX9_number_11 rfl ?_
    refine j_bipush dX9_number_13 rfl ?_
    obtain ⟨z7, e6, h⟩ := obind_elim h
    refine j_callS MX9_90 YX9_isBetween IX9_isBetween (by decide) (by omega) (Nat.le_of_ble_eq_true rfl) rfl (ctX9_isBetween (d := d - 1) hl (by omega) hx1 (inR_lit _ rfl) (inR_lit _ rfl) e6) dX9_number_15 rfl (fun z8 _ => ?_)
    by_cases c10 : z7 = 0
    · rw [if_pos c10] at h
      refine j_if_ne_f (bool_inR z8) dX9_number_18 (tgt := 38) (by decide) (fun q => q c10) ?_
      refine j_iload_n (j := 1) dX9_number_21 rfl rfl ?_
      refine j_bipush dX9_number_22 rfl ?_
      refine j_bipush dX9_number_24 rfl ?_
      obtain ⟨z12, e11, h⟩ := obind_elim h
      refine j_callS MX9_90 YX9_isBetween IX9_isBetween (by decide) (by omega) (Nat.le_of_ble_eq_true rfl) rfl (ctX9_isBetween (d := d - 1) hl (by omega) hx1 (inR_lit _ rfl) (inR_lit _ rfl) e11) dX9_number_26 rfl (fun z13 _ => ?_)
      by_cases c15 : z12 = 0
      · rw [if_pos c15] at h
        refine j_if_ne_f (bool_inR z13) dX9_number_29 (tgt := 38) (by decide) (fun q => q c15) ?_
        refine j_aload_n (j := 0) dX9_number_32 rfl rfl ?_
        refine j_iconst dX9_number_33 ?_
        obtain ⟨p17, e16, h⟩ := obind_elim h
        refine j_callV MX9_220 YX9_fails IX9_fails SX9_fails (by decide) rfl (by decide) (by omega) (Nat.le_of_ble_eq_true rfl) rfl (ctX9_fails (d := d - 1) hl (by omega) (inR_lit _ rfl) e16) dX9_number_34 (VK_c 9 349 rfl).1 (VK_c 9 349 rfl).lt (VK_c 9 349 rfl).ka rfl (fun z18 xt19 => ?_)
        cases h
        exact j_iret dX9_number_37 rfl rfl rfl z18
      · rw [if_neg c15] at h
        refine j_if_ne_t (bool_inR z13) dX9_number_29 (tgt := 38) (by decide) c15 ?_
        exact j_sub [0, 1] rfl (tX9_number_38 hl (by omega) hx1  h)
    · rw [if_neg c10] at h
      refine j_if_ne_t (bool_inR z8) dX9_number_18 (tgt := 38) (by decide) c10 ?_
      exact j_sub [0, 1] rfl (tX9_number_38 hl (by omega) hx1  h)
  · rw [if_neg c5] at h
    refine j_if_ne_t (bool_inR z3) dX9_number_7 (tgt := 38) (by decide) c5 ?_
    exact j_sub [0, 1] rfl (tX9_number_38 hl (by omega) hx1  h)
theorem ctX9_number {g : JG} {l : Launch} {d N : Nat} {A : AH} {out : Int × AH} {x1 : Int} (hl : l.stackTraces = false) (hd : 5 ≤ d) (hx1 : inR x1) (h : fX9_number N A x1 = some out) : CT g l yX9_number cX9_number 2 (some .int) d [.ref (gB g + 349), vI x1] A ((0, some (vI out.1), out.2) : JO) (inR out.1) :=
  CT_of (by decide +kernel) hl (by first | exact Nat.le_of_ble_eq_true rfl | (unfold rv; split <;> exact Nat.le_of_ble_eq_true rfl)) (by first | rfl | (unfold rv; split <;> rfl)) (j_sub (lv := [(0, .ref (gB g + 349)), (1, vI x1)]) [0, 1] rfl (tX9_number_0 hl hd hx1 h))
set_option maxRecDepth 100000 in
theorem tX9_meanWait_60 {g : JG} {l : Launch} {d N n0 s0 : Nat} {out : UInt64 × AH} {A : AH} {x1 : Int} {x2 : Int} {xs1 : Int} (hl : l.stackTraces = false) (hd : 2 ≤ d) (hx1 : inR x1) (hx2 : inR x2) (hxs1 : inR xs1) (h : fX9_meanWait_60 N A x1 x2 xs1 = some out) : J g l d RX9 "meanWait" cX9_meanWait 4 (some .double) n0 s0 ((0, some (.double out.1), out.2) : JO) (True) 60 [(1, vI x1), (2, vI x2)] [vI xs1, .ref (gB g + 349)] A := by
  unfold fX9_meanWait_60 at h
  obtain ⟨A1, eA1, h⟩ := bnd_elim h
  have xA1 : XT A A1 := by rw [eA1]; exact XT_sI _ _ _ _
  refine j_putI FX9_87 rfl rfl rfl hxs1 dX9_meanWait_60 (VK_c 9 349 rfl).1 (VK_c 9 349 rfl).lt (VK_c 9 349 rfl).ka ?_
  refine j_hB eA1 ?_
  refine j_iload_n (j := 1) dX9_meanWait_63 rfl rfl ?_
  by_cases c2 : x2 = 0
  · rw [if_pos c2] at h
    refine j_if_ne_f hx2 dX9_meanWait_64 (tgt := 71) (by decide) (fun q => q c2) ?_
    refine j_dconst0 dX9_meanWait_67 ?_
    refine j_goto (tgt := 76) dX9_meanWait_68 (by decide) ?_
    cases h
    exact j_dret dX9_meanWait_76 rfl rfl trivial
  · rw [if_neg c2] at h
    refine j_if_ne_t hx2 dX9_meanWait_64 (tgt := 71) (by decide) c2 ?_
    refine j_iload_n (j := 0) dX9_meanWait_71 rfl rfl ?_
    refine j_i2d dX9_meanWait_72 ?_
    refine j_iload_n (j := 1) dX9_meanWait_73 rfl rfl ?_
    refine j_i2d dX9_meanWait_74 ?_
    obtain ⟨c3, h⟩ := chk_elim h
    refine j_ddiv c3 dX9_meanWait_75 ?_
    cases h
    exact j_dret dX9_meanWait_76 rfl rfl trivial
set_option maxRecDepth 100000 in
theorem tX9_meanWait_6 {g : JG} {l : Launch} {d N n0 s0 : Nat} {out : UInt64 × AH} (hl : l.stackTraces = false) (hd : 2 ≤ d) : ∀ (n : Nat) (A : AH) (x1 : Int) (x2 : Int) (x3 : Int), inR x1 → inR x2 → inR x3 → fX9_meanWait_6 N n A x1 x2 x3 = some out → J g l d RX9 "meanWait" cX9_meanWait 4 (some .double) n0 s0 ((0, some (.double out.1), out.2) : JO) (True) 6 [(0, .ref (gB g + 349)), (1, vI x1), (2, vI x2), (3, vI x3)] [] A := by
  intro n
  induction n with
  | zero =>
    intro A x1 x2 x3 hx1 hx2 hx3 h
    rw [fX9_meanWait_6] at h
    cases h
  | succ n ih =>
    intro A x1 x2 x3 hx1 hx2 hx3 h
    rw [fX9_meanWait_6] at h
    refine j_iload_n (j := 3) dX9_meanWait_6 rfl rfl ?_
    refine j_aload_n (j := 0) dX9_meanWait_7 rfl rfl ?_
    refine j_getI FX9_100 rfl dX9_meanWait_8 (VK_c 9 349 rfl).1 (VK_c 9 349 rfl).lt (VK_c 9 349 rfl).ka (fun r1 => ?_)
    by_cases c2 : (gI A 349 22) ≤ x3
    · rw [if_pos c2] at h
      refine j_icmp_ge_t hx3 r1 dX9_meanWait_11 (tgt := 50) (by decide) c2 ?_
      refine j_aload_n (j := 0) dX9_meanWait_50 rfl rfl ?_
      refine j_iload_n (j := 2) dX9_meanWait_51 rfl rfl ?_
      by_cases c3 : x2 = 0
      · rw [if_pos c3] at h
        refine j_if_ne_f hx2 dX9_meanWait_52 (tgt := 59) (by decide) (fun q => q c3) ?_
        refine j_iconst dX9_meanWait_55 ?_
        refine j_goto (tgt := 60) dX9_meanWait_56 (by decide) ?_
        exact j_sub [1, 2] rfl (tX9_meanWait_60 hl (by omega) hx1 hx2 (inR_lit _ rfl)  h)
      · rw [if_neg c3] at h
        refine j_if_ne_t hx2 dX9_meanWait_52 (tgt := 59) (by decide) c3 ?_
        refine j_iconst dX9_meanWait_59 ?_
        exact j_sub [1, 2] rfl (tX9_meanWait_60 hl (by omega) hx1 hx2 (inR_lit _ rfl)  h)
    · rw [if_neg c2] at h
      refine j_icmp_ge_f hx3 r1 dX9_meanWait_11 (tgt := 50) (by decide) c2 ?_
      refine j_aload_n (j := 0) dX9_meanWait_14 rfl rfl ?_
      refine j_iload_n (j := 3) dX9_meanWait_15 rfl rfl ?_
      obtain ⟨z5, e4, h⟩ := obind_elim h
      refine j_callV MX9_107 YX9_hasTrip IX9_hasTrip SX9_hasTrip (by decide) rfl (by decide) (by omega) (Nat.le_of_ble_eq_true rfl) rfl (ctX9_hasTrip (d := d - 1) hl (by omega) hx3 e4) dX9_meanWait_16 (VK_c 9 349 rfl).1 (VK_c 9 349 rfl).lt (VK_c 9 349 rfl).ka rfl (fun z6 _ => ?_)
      by_cases c8 : z5 = 0
      · rw [if_pos c8] at h
        refine j_if_ne_f (bool_inR z6) dX9_meanWait_19 (tgt := 25) (by decide) (fun q => q c8) ?_
        refine j_goto (tgt := 44) dX9_meanWait_22 (by decide) ?_
        obtain ⟨u16, eu16, h⟩ := bnd_elim h
        have hu16 : inR u16 := by rw [eu16]; exact wrap_inR _
        refine j_iincN (k := 3) (lv' := [(3, vI u16), (0, .ref (gB g + 349)), (1, vI x1), (2, vI x2)]) eu16 dX9_meanWait_44 rfl (by decide) (by first | rfl | (simp only [List.all_cons, List.all_nil, rv_cat]; rfl)) rfl ?_
        refine j_goto (tgt := 6) dX9_meanWait_47 (by decide) ?_
        exact j_sub [1, 2, 3, 0] rfl (ih A x1 x2 u16 hx1 hx2 hu16 h)
      · rw [if_neg c8] at h
        refine j_if_ne_t (bool_inR z6) dX9_meanWait_19 (tgt := 25) (by decide) c8 ?_
        refine j_iload_n (j := 1) dX9_meanWait_25 rfl rfl ?_
        refine j_aload_n (j := 0) dX9_meanWait_26 rfl rfl ?_
        refine j_getR (q := 359) FX9_37 rfl dX9_meanWait_27 (by decide) (by decide) rfl rfl (by decide) ?_
        refine j_iload_n (j := 3) dX9_meanWait_30 rfl rfl ?_
        obtain ⟨c9, h⟩ := chk_elim h
        refine j_iald hx3 (by decide) (by decide) rfl dX9_meanWait_31 (VK_c 29 359 rfl).1 (VK_c 29 359 rfl).lt (VK_c 29 359 rfl).ka c9 (fun r10 => ?_)
        refine j_aload_n (j := 0) dX9_meanWait_32 rfl rfl ?_
        refine j_getR (q := 355) FX9_25 rfl dX9_meanWait_33 (by decide) (by decide) rfl rfl (by decide) ?_
        refine j_iload_n (j := 3) dX9_meanWait_36 rfl rfl ?_
        obtain ⟨c11, h⟩ := chk_elim h
        refine j_iald hx3 (by decide) (by decide) rfl dX9_meanWait_37 (VK_c 25 355 rfl).1 (VK_c 25 355 rfl).lt (VK_c 25 355 rfl).ka c11 (fun r12 => ?_)
        refine j_isub dX9_meanWait_38 ?_
        refine j_iadd dX9_meanWait_39 ?_
        obtain ⟨u13, eu13, h⟩ := bnd_elim h
        have hu13 : inR u13 := by rw [eu13]; exact (wrap_inR _)
        refine j_nm eu13 ?_
        refine j_istore_n (lv' := [(1, vI u13), (0, .ref (gB g + 349)), (2, vI x2), (3, vI x3)]) dX9_meanWait_40 rfl (by decide) (by first | rfl | (simp only [List.all_cons, List.all_nil, rv_cat]; rfl)) rfl ?_
        obtain ⟨u14, eu14, h⟩ := bnd_elim h
        have hu14 : inR u14 := by rw [eu14]; exact wrap_inR _
        refine j_iincN (k := 2) (lv' := [(2, vI u14), (1, vI u13), (0, .ref (gB g + 349)), (3, vI x3)]) eu14 dX9_meanWait_41 rfl (by decide) (by first | rfl | (simp only [List.all_cons, List.all_nil, rv_cat]; rfl)) rfl ?_
        obtain ⟨u15, eu15, h⟩ := bnd_elim h
        have hu15 : inR u15 := by rw [eu15]; exact wrap_inR _
        refine j_iincN (k := 3) (lv' := [(3, vI u15), (2, vI u14), (1, vI u13), (0, .ref (gB g + 349))]) eu15 dX9_meanWait_44 rfl (by decide) (by first | rfl | (simp only [List.all_cons, List.all_nil, rv_cat]; rfl)) rfl ?_
        refine j_goto (tgt := 6) dX9_meanWait_47 (by decide) ?_
        exact j_sub [3, 2, 1, 0] rfl (ih A u13 u14 u15 hu13 hu14 hu15 h)
set_option maxRecDepth 100000 in
theorem tX9_meanWait_0 {g : JG} {l : Launch} {d N n0 s0 : Nat} {out : UInt64 × AH} {A : AH} (hl : l.stackTraces = false) (hd : 2 ≤ d) (h : fX9_meanWait N A  = some out) : J g l d RX9 "meanWait" cX9_meanWait 4 (some .double) n0 s0 ((0, some (.double out.1), out.2) : JO) (True) 0 [(0, .ref (gB g + 349))] [] A := by
  unfold fX9_meanWait at h
  refine j_iconst dX9_meanWait_0 ?_
  refine j_istore_n (lv' := [(1, vI 0), (0, .ref (gB g + 349))]) dX9_meanWait_1 rfl (by decide) (by first | rfl | (simp only [List.all_cons, List.all_nil, rv_cat]; rfl)) rfl ?_
  refine j_iconst dX9_meanWait_2 ?_
  refine j_istore_n (lv' := [(2, vI 0), (1, vI 0), (0, .ref (gB g + 349))]) dX9_meanWait_3 rfl (by decide) (by first | rfl | (simp only [List.all_cons, List.all_nil, rv_cat]; rfl)) rfl ?_
  refine j_iconst dX9_meanWait_4 ?_
  refine j_istore_n (lv' := [(3, vI 0), (2, vI 0), (1, vI 0), (0, .ref (gB g + 349))]) dX9_meanWait_5 rfl (by decide) (by first | rfl | (simp only [List.all_cons, List.all_nil, rv_cat]; rfl)) rfl ?_
  exact j_sub [3, 2, 1, 0] rfl (tX9_meanWait_6 hl (by omega)   N A 0 0 0 (inR_lit _ rfl) (inR_lit _ rfl) (inR_lit _ rfl) h)
theorem ctX9_meanWait {g : JG} {l : Launch} {d N : Nat} {A : AH} {out : UInt64 × AH} (hl : l.stackTraces = false) (hd : 2 ≤ d) (h : fX9_meanWait N A  = some out) : CT g l yX9_meanWait cX9_meanWait 4 (some .double) d [.ref (gB g + 349)] A ((0, some (.double out.1), out.2) : JO) (True) :=
  CT_of (by decide +kernel) hl (by first | exact Nat.le_of_ble_eq_true rfl | (unfold rv; split <;> exact Nat.le_of_ble_eq_true rfl)) (by first | rfl | (unfold rv; split <;> rfl)) (j_sub (lv := [(0, .ref (gB g + 349))]) [0] rfl (tX9_meanWait_0 hl hd  h))
set_option maxRecDepth 100000 in
theorem tX9_hoursBefore_4 {g : JG} {l : Launch} {d N n0 s0 : Nat} {out : Int} {A : AH} {x1 : Int} (hl : l.stackTraces = false) (hd : 3 ≤ d) (hx1 : inR x1) : ∀ (n : Nat) (x2 : Int) (x3 : Int), inR x2 → inR x3 → fX9_hoursBefore_4 N A x1 n x2 x3 = some out → J g l d RX9 "hoursBefore" cX9_hoursBefore 4 (some .int) n0 s0 ((0, some (vI out), A) : JO) (inR out) 4 [(0, .ref (gB g + 349)), (1, vI x1), (2, vI x2), (3, vI x3)] [] A := by
  intro n
  induction n with
  | zero =>
    intro x2 x3 hx2 hx3 h
    rw [fX9_hoursBefore_4] at h
    cases h
  | succ n ih =>
    intro x2 x3 hx2 hx3 h
    rw [fX9_hoursBefore_4] at h
    refine j_iload_n (j := 3) dX9_hoursBefore_4 rfl rfl ?_
    refine j_aload_n (j := 0) dX9_hoursBefore_5 rfl rfl ?_
    refine j_getI FX9_100 rfl dX9_hoursBefore_6 (VK_c 9 349 rfl).1 (VK_c 9 349 rfl).lt (VK_c 9 349 rfl).ka (fun r1 => ?_)
    by_cases c2 : (gI A 349 22) ≤ x3
    · rw [if_pos c2] at h
      refine j_icmp_ge_t hx3 r1 dX9_hoursBefore_9 (tgt := 77) (by decide) c2 ?_
      refine j_iload_n (j := 2) dX9_hoursBefore_77 rfl rfl ?_
      cases h
      exact j_iret dX9_hoursBefore_78 rfl rfl rfl hx2
    · rw [if_neg c2] at h
      refine j_icmp_ge_f hx3 r1 dX9_hoursBefore_9 (tgt := 77) (by decide) c2 ?_
      refine j_aload_n (j := 0) dX9_hoursBefore_12 rfl rfl ?_
      refine j_iload_n (j := 3) dX9_hoursBefore_13 rfl rfl ?_
      refine j_iload_n (j := 1) dX9_hoursBefore_14 rfl rfl ?_
      obtain ⟨z4, e3, h⟩ := obind_elim h
      refine j_callV MX9_124 YX9_isTripOf IX9_isTripOf SX9_isTripOf (by decide) rfl (by decide) (by omega) (Nat.le_of_ble_eq_true rfl) rfl (ctX9_isTripOf (d := d - 1) hl (by omega) hx3 hx1 e3) dX9_hoursBefore_15 (VK_c 9 349 rfl).1 (VK_c 9 349 rfl).lt (VK_c 9 349 rfl).ka rfl (fun z5 _ => ?_)
      by_cases c7 : z4 = 0
      · rw [if_pos c7] at h
        refine j_if_eq_t (bool_inR z5) dX9_hoursBefore_18 (tgt := 71) (by decide) c7 ?_
        obtain ⟨u8, eu8, h⟩ := bnd_elim h
        have hu8 : inR u8 := by rw [eu8]; exact wrap_inR _
        refine j_iincN (k := 3) (lv' := [(3, vI u8), (0, .ref (gB g + 349)), (1, vI x1), (2, vI x2)]) eu8 dX9_hoursBefore_71 rfl (by decide) (by first | rfl | (simp only [List.all_cons, List.all_nil, rv_cat]; rfl)) rfl ?_
        refine j_goto (tgt := 4) dX9_hoursBefore_74 (by decide) ?_
        exact j_sub [1, 2, 3, 0] rfl (ih x2 u8 hx2 hu8 h)
      · rw [if_neg c7] at h
        refine j_if_eq_f (bool_inR z5) dX9_hoursBefore_18 (tgt := 71) (by decide) c7 ?_
        refine j_aload_n (j := 0) dX9_hoursBefore_21 rfl rfl ?_
        refine j_getR (q := 359) FX9_37 rfl dX9_hoursBefore_22 (by decide) (by decide) rfl rfl (by decide) ?_
        refine j_iload_n (j := 3) dX9_hoursBefore_25 rfl rfl ?_
        obtain ⟨c9, h⟩ := chk_elim h
        refine j_iald hx3 (by decide) (by decide) rfl dX9_hoursBefore_26 (VK_c 29 359 rfl).1 (VK_c 29 359 rfl).lt (VK_c 29 359 rfl).ka c9 (fun r10 => ?_)
        refine j_aload_n (j := 0) dX9_hoursBefore_27 rfl rfl ?_
        refine j_getI FX9_155 rfl dX9_hoursBefore_28 (VK_c 9 349 rfl).1 (VK_c 9 349 rfl).lt (VK_c 9 349 rfl).ka (fun r11 => ?_)
        by_cases c12 : (gI A 359 x3.toNat) < (gI A 349 19)
        · rw [if_pos c12] at h
          refine j_icmp_lt_t r10 r11 dX9_hoursBefore_31 (tgt := 37) (by decide) c12 ?_
          refine j_iload_n (j := 2) dX9_hoursBefore_37 rfl rfl ?_
          refine j_aload_n (j := 0) dX9_hoursBefore_38 rfl rfl ?_
          refine j_iload_n (j := 3) dX9_hoursBefore_39 rfl rfl ?_
          obtain ⟨z14, e13, h⟩ := obind_elim h
          refine j_callV MX9_127 YX9_end IX9_end SX9_end (by decide) rfl (by decide) (by omega) (Nat.le_of_ble_eq_true rfl) rfl (ctX9_end (d := d - 1) hl (by omega) hx3 e13) dX9_hoursBefore_40 (VK_c 9 349 rfl).1 (VK_c 9 349 rfl).lt (VK_c 9 349 rfl).ka rfl (fun z15 _ => ?_)
          refine j_aload_n (j := 0) dX9_hoursBefore_43 rfl rfl ?_
          refine j_getI FX9_155 rfl dX9_hoursBefore_44 (VK_c 9 349 rfl).1 (VK_c 9 349 rfl).lt (VK_c 9 349 rfl).ka (fun r17 => ?_)
          by_cases c18 : (gI A 349 19) ≤ z14
          · rw [if_pos c18] at h
            refine j_icmp_ge_t z15 r17 dX9_hoursBefore_47 (tgt := 58) (by decide) c18 ?_
            refine j_aload_n (j := 0) dX9_hoursBefore_58 rfl rfl ?_
            refine j_getI FX9_155 rfl dX9_hoursBefore_59 (VK_c 9 349 rfl).1 (VK_c 9 349 rfl).lt (VK_c 9 349 rfl).ka (fun r19 => ?_)
            refine j_aload_n (j := 0) dX9_hoursBefore_62 rfl rfl ?_
            refine j_getR (q := 359) FX9_37 rfl dX9_hoursBefore_63 (by decide) (by decide) rfl rfl (by decide) ?_
            refine j_iload_n (j := 3) dX9_hoursBefore_66 rfl rfl ?_
            obtain ⟨c20, h⟩ := chk_elim h
            refine j_iald hx3 (by decide) (by decide) rfl dX9_hoursBefore_67 (VK_c 29 359 rfl).1 (VK_c 29 359 rfl).lt (VK_c 29 359 rfl).ka c20 (fun r21 => ?_)
            refine j_isub dX9_hoursBefore_68 ?_
            refine j_iadd dX9_hoursBefore_69 ?_
            obtain ⟨u22, eu22, h⟩ := bnd_elim h
            have hu22 : inR u22 := by rw [eu22]; exact (wrap_inR _)
            refine j_nm eu22 ?_
            refine j_istore_n (lv' := [(2, vI u22), (0, .ref (gB g + 349)), (1, vI x1), (3, vI x3)]) dX9_hoursBefore_70 rfl (by decide) (by first | rfl | (simp only [List.all_cons, List.all_nil, rv_cat]; rfl)) rfl ?_
            obtain ⟨u23, eu23, h⟩ := bnd_elim h
            have hu23 : inR u23 := by rw [eu23]; exact wrap_inR _
            refine j_iincN (k := 3) (lv' := [(3, vI u23), (2, vI u22), (0, .ref (gB g + 349)), (1, vI x1)]) eu23 dX9_hoursBefore_71 rfl (by decide) (by first | rfl | (simp only [List.all_cons, List.all_nil, rv_cat]; rfl)) rfl ?_
            refine j_goto (tgt := 4) dX9_hoursBefore_74 (by decide) ?_
            exact j_sub [2, 3, 1, 0] rfl (ih u22 u23 hu22 hu23 h)
          · rw [if_neg c18] at h
            refine j_icmp_ge_f z15 r17 dX9_hoursBefore_47 (tgt := 58) (by decide) c18 ?_
            refine j_aload_n (j := 0) dX9_hoursBefore_50 rfl rfl ?_
            refine j_iload_n (j := 3) dX9_hoursBefore_51 rfl rfl ?_
            obtain ⟨z25, e24, h⟩ := obind_elim h
            refine j_callV MX9_103 YX9_length IX9_length SX9_length (by decide) rfl (by decide) (by omega) (Nat.le_of_ble_eq_true rfl) rfl (ctX9_length (d := d - 1) hl (by omega) hx3 e24) dX9_hoursBefore_52 (VK_c 9 349 rfl).1 (VK_c 9 349 rfl).lt (VK_c 9 349 rfl).ka rfl (fun z26 _ => ?_)
            refine j_goto (tgt := 69) dX9_hoursBefore_55 (by decide) ?_
            refine j_iadd dX9_hoursBefore_69 ?_
            obtain ⟨u28, eu28, h⟩ := bnd_elim h
            have hu28 : inR u28 := by rw [eu28]; exact (wrap_inR _)
            refine j_nm eu28 ?_
            refine j_istore_n (lv' := [(2, vI u28), (0, .ref (gB g + 349)), (1, vI x1), (3, vI x3)]) dX9_hoursBefore_70 rfl (by decide) (by first | rfl | (simp only [List.all_cons, List.all_nil, rv_cat]; rfl)) rfl ?_
            obtain ⟨u29, eu29, h⟩ := bnd_elim h
            have hu29 : inR u29 := by rw [eu29]; exact wrap_inR _
            refine j_iincN (k := 3) (lv' := [(3, vI u29), (2, vI u28), (0, .ref (gB g + 349)), (1, vI x1)]) eu29 dX9_hoursBefore_71 rfl (by decide) (by first | rfl | (simp only [List.all_cons, List.all_nil, rv_cat]; rfl)) rfl ?_
            refine j_goto (tgt := 4) dX9_hoursBefore_74 (by decide) ?_
            exact j_sub [2, 3, 1, 0] rfl (ih u28 u29 hu28 hu29 h)
        · rw [if_neg c12] at h
          refine j_icmp_lt_f r10 r11 dX9_hoursBefore_31 (tgt := 37) (by decide) c12 ?_
          refine j_goto (tgt := 71) dX9_hoursBefore_34 (by decide) ?_
          obtain ⟨u30, eu30, h⟩ := bnd_elim h
          have hu30 : inR u30 := by rw [eu30]; exact wrap_inR _
          refine j_iincN (k := 3) (lv' := [(3, vI u30), (0, .ref (gB g + 349)), (1, vI x1), (2, vI x2)]) eu30 dX9_hoursBefore_71 rfl (by decide) (by first | rfl | (simp only [List.all_cons, List.all_nil, rv_cat]; rfl)) rfl ?_
          refine j_goto (tgt := 4) dX9_hoursBefore_74 (by decide) ?_
          exact j_sub [1, 2, 3, 0] rfl (ih x2 u30 hx2 hu30 h)
set_option maxRecDepth 100000 in
theorem tX9_hoursBefore_0 {g : JG} {l : Launch} {d N n0 s0 : Nat} {out : Int} {A : AH} {x1 : Int} (hl : l.stackTraces = false) (hd : 3 ≤ d) (hx1 : inR x1) (h : fX9_hoursBefore N A x1 = some out) : J g l d RX9 "hoursBefore" cX9_hoursBefore 4 (some .int) n0 s0 ((0, some (vI out), A) : JO) (inR out) 0 [(0, .ref (gB g + 349)), (1, vI x1)] [] A := by
  unfold fX9_hoursBefore at h
  refine j_iconst dX9_hoursBefore_0 ?_
  refine j_istore_n (lv' := [(2, vI 0), (0, .ref (gB g + 349)), (1, vI x1)]) dX9_hoursBefore_1 rfl (by decide) (by first | rfl | (simp only [List.all_cons, List.all_nil, rv_cat]; rfl)) rfl ?_
  refine j_iconst dX9_hoursBefore_2 ?_
  refine j_istore_n (lv' := [(3, vI 0), (2, vI 0), (0, .ref (gB g + 349)), (1, vI x1)]) dX9_hoursBefore_3 rfl (by decide) (by first | rfl | (simp only [List.all_cons, List.all_nil, rv_cat]; rfl)) rfl ?_
  exact j_sub [2, 3, 1, 0] rfl (tX9_hoursBefore_4 hl (by omega) hx1  N 0 0 (inR_lit _ rfl) (inR_lit _ rfl) h)
theorem ctX9_hoursBefore {g : JG} {l : Launch} {d N : Nat} {A : AH} {out : Int} {x1 : Int} (hl : l.stackTraces = false) (hd : 3 ≤ d) (hx1 : inR x1) (h : fX9_hoursBefore N A x1 = some out) : CT g l yX9_hoursBefore cX9_hoursBefore 4 (some .int) d [.ref (gB g + 349), vI x1] A ((0, some (vI out), A) : JO) (inR out) :=
  CT_of (by decide +kernel) hl (by first | exact Nat.le_of_ble_eq_true rfl | (unfold rv; split <;> exact Nat.le_of_ble_eq_true rfl)) (by first | rfl | (unfold rv; split <;> rfl)) (j_sub (lv := [(0, .ref (gB g + 349)), (1, vI x1)]) [0, 1] rfl (tX9_hoursBefore_0 hl hd hx1 h))
set_option maxRecDepth 100000 in
theorem tX9_share_25 {g : JG} {l : Launch} {d N n0 s0 : Nat} {out : UInt32 × AH} {A : AH} {x1 : Int} {xs1 : Int} (hl : l.stackTraces = false) (hd : 4 ≤ d) (hx1 : inR x1) (hxs1 : inR xs1) (h : fX9_share_25 N A x1 xs1 = some out) : J g l d RX9 "share" cX9_share 2 (some .float) n0 s0 ((0, some (.float out.1), out.2) : JO) (True) 25 [(0, .ref (gB g + 349)), (1, vI x1)] [vI xs1, .ref (gB g + 349)] A := by
  unfold fX9_share_25 at h
  obtain ⟨A1, eA1, h⟩ := bnd_elim h
  have xA1 : XT A A1 := by rw [eA1]; exact XT_sI _ _ _ _
  refine j_putI FX9_87 rfl rfl rfl hxs1 dX9_share_25 (VK_c 9 349 rfl).1 (VK_c 9 349 rfl).lt (VK_c 9 349 rfl).ka ?_
  refine j_hB eA1 ?_
  refine j_aload_n (j := 0) dX9_share_28 rfl rfl ?_
  refine j_getI FX9_87 rfl dX9_share_29 (VK_c 9 349 rfl).1 (VK_c 9 349 rfl).lt (VK_c 9 349 rfl).ka (fun r2 => ?_)
  by_cases c3 : (gI A1 349 0) ≤ 0
  · rw [if_pos c3] at h
    refine j_if_le_t r2 dX9_share_32 (tgt := 39) (by decide) c3 ?_
    refine j_aload_n (j := 0) dX9_share_39 rfl rfl ?_
    refine j_iload_n (j := 1) dX9_share_40 rfl rfl ?_
    obtain ⟨z5, e4, h⟩ := obind_elim h
    refine j_callV MX9_327 YX9_hoursBefore IX9_hoursBefore SX9_hoursBefore (by decide) rfl (by decide) (by omega) (Nat.le_of_ble_eq_true rfl) rfl (ctX9_hoursBefore (d := d - 1) hl (by omega) hx1 e4) dX9_share_41 (VK_c 9 349 rfl).1 (VK_c 9 349 rfl).lt (VK_c 9 349 rfl).ka rfl (fun z6 _ => ?_)
    refine j_i2f dX9_share_44 ?_
    refine j_aload_n (j := 0) dX9_share_45 rfl rfl ?_
    refine j_getI FX9_155 rfl dX9_share_46 (VK_c 9 349 rfl).1 (VK_c 9 349 rfl).lt (VK_c 9 349 rfl).ka (fun r8 => ?_)
    refine j_i2f dX9_share_49 ?_
    obtain ⟨c9, h⟩ := chk_elim h
    refine j_fdiv c9 dX9_share_50 ?_
    cases h
    exact j_fret dX9_share_51 rfl rfl trivial
  · rw [if_neg c3] at h
    refine j_if_le_f r2 dX9_share_32 (tgt := 39) (by decide) c3 ?_
    refine j_fconst0 dX9_share_35 ?_
    refine j_goto (tgt := 51) dX9_share_36 (by decide) ?_
    cases h
    exact j_fret dX9_share_51 rfl rfl trivial
set_option maxRecDepth 100000 in
theorem tX9_share_0 {g : JG} {l : Launch} {d N n0 s0 : Nat} {out : UInt32 × AH} {A : AH} {x1 : Int} (hl : l.stackTraces = false) (hd : 4 ≤ d) (hx1 : inR x1) (h : fX9_share N A x1 = some out) : J g l d RX9 "share" cX9_share 2 (some .float) n0 s0 ((0, some (.float out.1), out.2) : JO) (True) 0 [(0, .ref (gB g + 349)), (1, vI x1)] [] A := by
  unfold fX9_share at h
  refine j_aload_n (j := 0) dX9_share_0 rfl rfl ?_
  refine j_aload_n (j := 0) dX9_share_1 rfl rfl ?_
  refine j_iload_n (j := 1) dX9_share_2 rfl rfl ?_
  obtain ⟨z2, e1, h⟩ := obind_elim h
  refine j_callV MX9_245 YX9_isPilot IX9_isPilot SX9_isPilot (by decide) rfl (by decide) (by omega) (Nat.le_of_ble_eq_true rfl) rfl (ctX9_isPilot (d := d - 1) hl (by omega) hx1 e1) dX9_share_3 (VK_c 9 349 rfl).1 (VK_c 9 349 rfl).lt (VK_c 9 349 rfl).ka rfl (fun z3 _ => ?_)
  by_cases c5 : z2 = 0
  · rw [if_pos c5] at h
    refine j_if_ne_f (bool_inR z3) dX9_share_6 (tgt := 13) (by decide) (fun q => q c5) ?_
    refine j_iconst dX9_share_9 ?_
    refine j_goto (tgt := 25) dX9_share_10 (by decide) ?_
    exact j_sub [0, 1] rfl (tX9_share_25 hl (by omega) hx1 (inR_lit _ rfl)  h)
  · rw [if_neg c5] at h
    refine j_if_ne_t (bool_inR z3) dX9_share_6 (tgt := 13) (by decide) c5 ?_
    refine j_aload_n (j := 0) dX9_share_13 rfl rfl ?_
    refine j_getI FX9_155 rfl dX9_share_14 (VK_c 9 349 rfl).1 (VK_c 9 349 rfl).lt (VK_c 9 349 rfl).ka (fun r6 => ?_)
    by_cases c7 : (gI A 349 19) = 0
    · rw [if_pos c7] at h
      refine j_if_ne_f r6 dX9_share_17 (tgt := 24) (by decide) (fun q => q c7) ?_
      refine j_iconst dX9_share_20 ?_
      refine j_goto (tgt := 25) dX9_share_21 (by decide) ?_
      exact j_sub [0, 1] rfl (tX9_share_25 hl (by omega) hx1 (inR_lit _ rfl)  h)
    · rw [if_neg c7] at h
      refine j_if_ne_t r6 dX9_share_17 (tgt := 24) (by decide) c7 ?_
      refine j_iconst dX9_share_24 ?_
      exact j_sub [0, 1] rfl (tX9_share_25 hl (by omega) hx1 (inR_lit _ rfl)  h)
theorem ctX9_share {g : JG} {l : Launch} {d N : Nat} {A : AH} {out : UInt32 × AH} {x1 : Int} (hl : l.stackTraces = false) (hd : 4 ≤ d) (hx1 : inR x1) (h : fX9_share N A x1 = some out) : CT g l yX9_share cX9_share 2 (some .float) d [.ref (gB g + 349), vI x1] A ((0, some (.float out.1), out.2) : JO) (True) :=
  CT_of (by decide +kernel) hl (by first | exact Nat.le_of_ble_eq_true rfl | (unfold rv; split <;> exact Nat.le_of_ble_eq_true rfl)) (by first | rfl | (unfold rv; split <;> rfl)) (j_sub (lv := [(0, .ref (gB g + 349)), (1, vI x1)]) [0, 1] rfl (tX9_share_0 hl hd hx1 h))
set_option maxRecDepth 100000 in
theorem tX9_feed_0 {g : JG} {l : Launch} {d N n0 s0 : Nat} {out : Int × AH} {A : AH} {x1 : Int} (hl : l.stackTraces = false) (hd : 2 ≤ d) (hx1 : 0 ≤ x1 ∧ x1 < 65536) (h : fX9_feed N A x1 = some out) : J g l d RX9 "feed" cX9_feed 2 (some .int) n0 s0 ((0, some (vI out.1), out.2) : JO) (inR out.1) 0 [(0, .ref (gB g + 349)), (1, vI x1)] [] A := by
  unfold fX9_feed at h
  refine j_aload_n (j := 0) dX9_feed_0 rfl rfl ?_
  refine j_getI FX9_325 rfl dX9_feed_1 (VK_c 9 349 rfl).1 (VK_c 9 349 rfl).lt (VK_c 9 349 rfl).ka (fun r1 => ?_)
  refine j_bipush dX9_feed_4 rfl ?_
  by_cases c2 : (gI A 349 34) = 60
  · rw [if_pos c2] at h
    refine j_icmp_ne_f r1 (inR_lit _ rfl) dX9_feed_6 (tgt := 15) (by decide) (fun q => q c2) ?_
    refine j_aload_n (j := 0) dX9_feed_9 rfl rfl ?_
    refine j_iconst dX9_feed_10 ?_
    obtain ⟨p11, e10, h⟩ := obind_elim h
    refine j_callV MX9_220 YX9_fails IX9_fails SX9_fails (by decide) rfl (by decide) (by omega) (Nat.le_of_ble_eq_true rfl) rfl (ctX9_fails (d := d - 1) hl (by omega) (inR_lit _ rfl) e10) dX9_feed_11 (VK_c 9 349 rfl).1 (VK_c 9 349 rfl).lt (VK_c 9 349 rfl).ka rfl (fun z12 xt13 => ?_)
    cases h
    exact j_iret dX9_feed_14 rfl rfl rfl z12
  · rw [if_neg c2] at h
    refine j_icmp_ne_t r1 (inR_lit _ rfl) dX9_feed_6 (tgt := 15) (by decide) c2 ?_
    refine j_aload_n (j := 0) dX9_feed_15 rfl rfl ?_
    refine j_iconst dX9_feed_16 ?_
    obtain ⟨A3, eA3, h⟩ := bnd_elim h
    have xA3 : XT A A3 := by rw [eA3]; exact XT_sI _ _ _ _
    refine j_putI FX9_87 rfl rfl rfl (inR_lit _ rfl) dX9_feed_17 (VK_c 9 349 rfl).1 (VK_c 9 349 rfl).lt (VK_c 9 349 rfl).ka ?_
    refine j_hB eA3 ?_
    refine j_aload_n (j := 0) dX9_feed_20 rfl rfl ?_
    refine j_getR (q := 368) FX9_64 rfl dX9_feed_21 (by decide) (by decide) rfl rfl (by decide) ?_
    refine j_aload_n (j := 0) dX9_feed_24 rfl rfl ?_
    refine j_getI FX9_325 rfl dX9_feed_25 (VK_c 9 349 rfl).1 (VK_c 9 349 rfl).lt (VK_c 9 349 rfl).ka (fun r4 => ?_)
    refine j_iload_n (j := 1) dX9_feed_28 rfl rfl ?_
    obtain ⟨c5, h⟩ := chk_elim h
    obtain ⟨A6, eA6, h⟩ := bnd_elim h
    have xA6 : XT A3 A6 := by rw [eA6]; exact XT_sI _ _ _ _
    refine j_cast r4 hx1 (by decide) (by decide) rfl dX9_feed_29 (VK_c 38 368 rfl).1 (VK_c 38 368 rfl).lt (VK_c 38 368 rfl).ka c5 ?_
    refine j_hB eA6 ?_
    refine j_aload_n (j := 0) dX9_feed_30 rfl rfl ?_
    refine j_dup dX9_feed_31 rfl ?_
    refine j_getI FX9_325 rfl dX9_feed_32 (VK_c 9 349 rfl).1 (VK_c 9 349 rfl).lt (VK_c 9 349 rfl).ka (fun r7 => ?_)
    refine j_iconst dX9_feed_35 ?_
    refine j_iadd dX9_feed_36 ?_
    obtain ⟨A8, eA8, h⟩ := bnd_elim h
    have xA8 : XT A6 A8 := by rw [eA8]; exact XT_sI _ _ _ _
    refine j_putI FX9_325 rfl rfl rfl (wrap_inR _) dX9_feed_37 (VK_c 9 349 rfl).1 (VK_c 9 349 rfl).lt (VK_c 9 349 rfl).ka ?_
    refine j_hB eA8 ?_
    refine j_aload_n (j := 0) dX9_feed_40 rfl rfl ?_
    refine j_getI FX9_325 rfl dX9_feed_41 (VK_c 9 349 rfl).1 (VK_c 9 349 rfl).lt (VK_c 9 349 rfl).ka (fun r9 => ?_)
    cases h
    exact j_iret dX9_feed_44 rfl rfl rfl r9
theorem ctX9_feed {g : JG} {l : Launch} {d N : Nat} {A : AH} {out : Int × AH} {x1 : Int} (hl : l.stackTraces = false) (hd : 2 ≤ d) (hx1 : 0 ≤ x1 ∧ x1 < 65536) (h : fX9_feed N A x1 = some out) : CT g l yX9_feed cX9_feed 2 (some .int) d [.ref (gB g + 349), vI x1] A ((0, some (vI out.1), out.2) : JO) (inR out.1) :=
  CT_of (by decide +kernel) hl (by first | exact Nat.le_of_ble_eq_true rfl | (unfold rv; split <;> exact Nat.le_of_ble_eq_true rfl)) (by first | rfl | (unfold rv; split <;> rfl)) (j_sub (lv := [(0, .ref (gB g + 349)), (1, vI x1)]) [0, 1] rfl (tX9_feed_0 hl hd hx1 h))
set_option maxRecDepth 100000 in
theorem tX9_sign_0 {g : JG} {l : Launch} {d N n0 s0 : Nat} {out : Int} {A : AH} (hl : l.stackTraces = false) (hd : 1 ≤ d) (h : fX9_sign N A  = some out) : J g l d RX9 "sign" cX9_sign 1 (some .int) n0 s0 ((0, some (vI out), A) : JO) (inR out) 0 [(0, .ref (gB g + 349))] [] A := by
  unfold fX9_sign at h
  refine j_aload_n (j := 0) dX9_sign_0 rfl rfl ?_
  refine j_getI FX9_330 rfl dX9_sign_1 (VK_c 9 349 rfl).1 (VK_c 9 349 rfl).lt (VK_c 9 349 rfl).ka (fun r1 => ?_)
  refine j_aload_n (j := 0) dX9_sign_4 rfl rfl ?_
  refine j_getI FX9_325 rfl dX9_sign_5 (VK_c 9 349 rfl).1 (VK_c 9 349 rfl).lt (VK_c 9 349 rfl).ka (fun r2 => ?_)
  by_cases c3 : (gI A 349 34) ≤ (gI A 349 35)
  · rw [if_pos c3] at h
    refine j_icmp_ge_t r1 r2 dX9_sign_8 (tgt := 23) (by decide) c3 ?_
    refine j_iconst dX9_sign_23 ?_
    cases h
    exact j_iret dX9_sign_24 rfl rfl rfl (inR_lit _ rfl)
  · rw [if_neg c3] at h
    refine j_icmp_ge_f r1 r2 dX9_sign_8 (tgt := 23) (by decide) c3 ?_
    refine j_aload_n (j := 0) dX9_sign_11 rfl rfl ?_
    refine j_getR (q := 368) FX9_64 rfl dX9_sign_12 (by decide) (by decide) rfl rfl (by decide) ?_
    refine j_aload_n (j := 0) dX9_sign_15 rfl rfl ?_
    refine j_getI FX9_330 rfl dX9_sign_16 (VK_c 9 349 rfl).1 (VK_c 9 349 rfl).lt (VK_c 9 349 rfl).ka (fun r4 => ?_)
    obtain ⟨c5, h⟩ := chk_elim h
    refine j_cald r4 (by decide) (by decide) rfl dX9_sign_19 (VK_c 38 368 rfl).1 (VK_c 38 368 rfl).lt (VK_c 38 368 rfl).ka c5 (fun r6 => ?_)
    refine j_goto (tgt := 24) dX9_sign_20 (by decide) ?_
    cases h
    exact j_iret dX9_sign_24 rfl rfl rfl r6
theorem ctX9_sign {g : JG} {l : Launch} {d N : Nat} {A : AH} {out : Int} (hl : l.stackTraces = false) (hd : 1 ≤ d) (h : fX9_sign N A  = some out) : CT g l yX9_sign cX9_sign 1 (some .int) d [.ref (gB g + 349)] A ((0, some (vI out), A) : JO) (inR out) :=
  CT_of (by decide +kernel) hl (by first | exact Nat.le_of_ble_eq_true rfl | (unfold rv; split <;> exact Nat.le_of_ble_eq_true rfl)) (by first | rfl | (unfold rv; split <;> rfl)) (j_sub (lv := [(0, .ref (gB g + 349))]) [0] rfl (tX9_sign_0 hl hd  h))
set_option maxRecDepth 100000 in
theorem tX9_skips_0 {g : JG} {l : Launch} {d N n0 s0 : Nat} {out : Int × AH} {A : AH} {x1 : Int} (hl : l.stackTraces = false) (hd : 2 ≤ d) (hx1 : inR x1) (h : fX9_skips N A x1 = some out) : J g l d RX9 "skips" cX9_skips 2 (some .boolean) n0 s0 ((0, some (vI out.1), out.2) : JO) ((out.1 = 0 ∨ out.1 = 1)) 0 [(0, .ref (gB g + 349)), (1, vI x1)] [] A := by
  unfold fX9_skips at h
  refine j_aload_n (j := 0) dX9_skips_0 rfl rfl ?_
  obtain ⟨z2, e1, h⟩ := obind_elim h
  refine j_callV MX9_333 YX9_sign IX9_sign SX9_sign (by decide) rfl (by decide) (by omega) (Nat.le_of_ble_eq_true rfl) rfl (ctX9_sign (d := d - 1) hl (by omega)  e1) dX9_skips_1 (VK_c 9 349 rfl).1 (VK_c 9 349 rfl).lt (VK_c 9 349 rfl).ka rfl (fun z3 _ => ?_)
  refine j_iload_n (j := 1) dX9_skips_4 rfl rfl ?_
  by_cases c5 : z2 = x1
  · rw [if_pos c5] at h
    refine j_icmp_eq_t z3 hx1 dX9_skips_5 (tgt := 10) (by decide) c5 ?_
    refine j_aload_n (j := 0) dX9_skips_10 rfl rfl ?_
    refine j_dup dX9_skips_11 rfl ?_
    refine j_getI FX9_330 rfl dX9_skips_12 (VK_c 9 349 rfl).1 (VK_c 9 349 rfl).lt (VK_c 9 349 rfl).ka (fun r6 => ?_)
    refine j_iconst dX9_skips_15 ?_
    refine j_iadd dX9_skips_16 ?_
    obtain ⟨A7, eA7, h⟩ := bnd_elim h
    have xA7 : XT A A7 := by rw [eA7]; exact XT_sI _ _ _ _
    refine j_putI FX9_330 rfl rfl rfl (wrap_inR _) dX9_skips_17 (VK_c 9 349 rfl).1 (VK_c 9 349 rfl).lt (VK_c 9 349 rfl).ka ?_
    refine j_hB eA7 ?_
    refine j_iconst dX9_skips_20 ?_
    cases h
    exact j_iret dX9_skips_21 rfl ((nar_bool (Or.inr rfl)).1) rfl (Or.inr rfl)
  · rw [if_neg c5] at h
    refine j_icmp_eq_f z3 hx1 dX9_skips_5 (tgt := 10) (by decide) c5 ?_
    refine j_iconst dX9_skips_8 ?_
    cases h
    exact j_iret dX9_skips_9 rfl ((nar_bool (Or.inl rfl)).1) rfl (Or.inl rfl)
theorem ctX9_skips {g : JG} {l : Launch} {d N : Nat} {A : AH} {out : Int × AH} {x1 : Int} (hl : l.stackTraces = false) (hd : 2 ≤ d) (hx1 : inR x1) (h : fX9_skips N A x1 = some out) : CT g l yX9_skips cX9_skips 2 (some .boolean) d [.ref (gB g + 349), vI x1] A ((0, some (vI out.1), out.2) : JO) ((out.1 = 0 ∨ out.1 = 1)) :=
  CT_of (by decide +kernel) hl (by first | exact Nat.le_of_ble_eq_true rfl | (unfold rv; split <;> exact Nat.le_of_ble_eq_true rfl)) (by first | rfl | (unfold rv; split <;> rfl)) (j_sub (lv := [(0, .ref (gB g + 349)), (1, vI x1)]) [0, 1] rfl (tX9_skips_0 hl hd hx1 h))
set_option maxRecDepth 100000 in
theorem tX9_takesNumber_68 {g : JG} {l : Launch} {d N n0 s0 : Nat} {out : Int × AH} {A : AH} {x1 : Int} {x2 : Int} (hl : l.stackTraces = false) (hd : 2 ≤ d) (hx1 : inR x1) (hx2 : inR x2) (h : fX9_takesNumber_68 N A x1 x2 = some out) : J g l d RX9 "takesNumber" cX9_takesNumber 4 (some .boolean) n0 s0 ((0, some (vI out.1), out.2) : JO) ((out.1 = 0 ∨ out.1 = 1)) 68 [(0, .ref (gB g + 349)), (1, vI x1), (2, vI x2)] [] A := by
  unfold fX9_takesNumber_68 at h
  refine j_aload_n (j := 0) dX9_takesNumber_68 rfl rfl ?_
  refine j_getR (q := 370) FX9_71 rfl dX9_takesNumber_69 (by decide) (by decide) rfl rfl (by decide) ?_
  refine j_iconst dX9_takesNumber_72 ?_
  refine j_aload_n (j := 0) dX9_takesNumber_73 rfl rfl ?_
  refine j_getI FX9_336 rfl dX9_takesNumber_74 (VK_c 9 349 rfl).1 (VK_c 9 349 rfl).lt (VK_c 9 349 rfl).ka (fun r1 => ?_)
  refine j_imul dX9_takesNumber_77 ?_
  refine j_iload_n (j := 1) dX9_takesNumber_78 rfl rfl ?_
  refine j_iadd dX9_takesNumber_79 ?_
  refine j_iload_n (j := 2) dX9_takesNumber_80 rfl rfl ?_
  obtain ⟨c2, h⟩ := chk_elim h
  obtain ⟨A3, eA3, h⟩ := bnd_elim h
  have xA3 : XT A A3 := by rw [eA3]; exact XT_sI _ _ _ _
  refine j_iast (wrap_inR _) hx2 (by decide) (by decide) rfl dX9_takesNumber_81 (VK_c 40 370 rfl).1 (VK_c 40 370 rfl).lt (VK_c 40 370 rfl).ka c2 ?_
  refine j_hB eA3 ?_
  refine j_iconst dX9_takesNumber_82 ?_
  cases h
  exact j_iret dX9_takesNumber_83 rfl ((nar_bool (Or.inr rfl)).1) rfl (Or.inr rfl)
set_option maxRecDepth 100000 in
theorem tX9_takesNumber_20 {g : JG} {l : Launch} {d N n0 s0 : Nat} {out : Int × AH} {x1 : Int} (hl : l.stackTraces = false) (hd : 2 ≤ d) (hx1 : inR x1) : ∀ (n : Nat) (A : AH) (x2 : Int) (x3 : Int), inR x2 → inR x3 → fX9_takesNumber_20 N x1 n A x2 x3 = some out → J g l d RX9 "takesNumber" cX9_takesNumber 4 (some .boolean) n0 s0 ((0, some (vI out.1), out.2) : JO) ((out.1 = 0 ∨ out.1 = 1)) 20 [(0, .ref (gB g + 349)), (1, vI x1), (2, vI x2), (3, vI x3)] [] A := by
  intro n
  induction n with
  | zero =>
    intro A x2 x3 hx2 hx3 h
    rw [fX9_takesNumber_20] at h
    cases h
  | succ n ih =>
    intro A x2 x3 hx2 hx3 h
    rw [fX9_takesNumber_20] at h
    refine j_iload_n (j := 3) dX9_takesNumber_20 rfl rfl ?_
    refine j_iconst dX9_takesNumber_21 ?_
    by_cases c1 : 3 ≤ x3
    · rw [if_pos c1] at h
      refine j_icmp_ge_t hx3 (inR_lit _ rfl) dX9_takesNumber_22 (tgt := 68) (by decide) c1 ?_
      exact j_sub [0, 1, 2] rfl (tX9_takesNumber_68 hl (by omega) hx1 hx2  h)
    · rw [if_neg c1] at h
      refine j_icmp_ge_f hx3 (inR_lit _ rfl) dX9_takesNumber_22 (tgt := 68) (by decide) c1 ?_
      refine j_aload_n (j := 0) dX9_takesNumber_25 rfl rfl ?_
      obtain ⟨z3, e2, h⟩ := obind_elim h
      refine j_callV MX9_333 YX9_sign IX9_sign SX9_sign (by decide) rfl (by decide) (by omega) (Nat.le_of_ble_eq_true rfl) rfl (ctX9_sign (d := d - 1) hl (by omega)  e2) dX9_takesNumber_26 (VK_c 9 349 rfl).1 (VK_c 9 349 rfl).lt (VK_c 9 349 rfl).ka rfl (fun z4 _ => ?_)
      refine j_bipush dX9_takesNumber_29 rfl ?_
      refine j_bipush dX9_takesNumber_31 rfl ?_
      obtain ⟨z7, e6, h⟩ := obind_elim h
      refine j_callS MX9_90 YX9_isBetween IX9_isBetween (by decide) (by omega) (Nat.le_of_ble_eq_true rfl) rfl (ctX9_isBetween (d := d - 1) hl (by omega) z4 (inR_lit _ rfl) (inR_lit _ rfl) e6) dX9_takesNumber_33 rfl (fun z8 _ => ?_)
      by_cases c10 : z7 = 0
      · rw [if_pos c10] at h
        refine j_if_eq_t (bool_inR z8) dX9_takesNumber_36 (tgt := 68) (by decide) c10 ?_
        exact j_sub [0, 1, 2] rfl (tX9_takesNumber_68 hl (by omega) hx1 hx2  h)
      · rw [if_neg c10] at h
        refine j_if_eq_f (bool_inR z8) dX9_takesNumber_36 (tgt := 68) (by decide) c10 ?_
        refine j_bipush dX9_takesNumber_39 rfl ?_
        refine j_iload_n (j := 2) dX9_takesNumber_41 rfl rfl ?_
        refine j_imul dX9_takesNumber_42 ?_
        refine j_aload_n (j := 0) dX9_takesNumber_43 rfl rfl ?_
        obtain ⟨z12, e11, h⟩ := obind_elim h
        refine j_callV MX9_333 YX9_sign IX9_sign SX9_sign (by decide) rfl (by decide) (by omega) (Nat.le_of_ble_eq_true rfl) rfl (ctX9_sign (d := d - 1) hl (by omega)  e11) dX9_takesNumber_44 (VK_c 9 349 rfl).1 (VK_c 9 349 rfl).lt (VK_c 9 349 rfl).ka rfl (fun z13 _ => ?_)
        refine j_iadd dX9_takesNumber_47 ?_
        refine j_bipush dX9_takesNumber_48 rfl ?_
        refine j_isub dX9_takesNumber_50 ?_
        obtain ⟨u15, eu15, h⟩ := bnd_elim h
        have hu15 : inR u15 := by rw [eu15]; exact (wrap_inR _)
        refine j_nm eu15 ?_
        refine j_istore_n (lv' := [(2, vI u15), (0, .ref (gB g + 349)), (1, vI x1), (3, vI x3)]) dX9_takesNumber_51 rfl (by decide) (by first | rfl | (simp only [List.all_cons, List.all_nil, rv_cat]; rfl)) rfl ?_
        refine j_aload_n (j := 1) dX9_takesNumber_52 rfl rfl ?_
        refine j_dup dX9_takesNumber_53 rfl ?_
        refine j_getI FX9_330 rfl dX9_takesNumber_54 (VK_c 9 349 rfl).1 (VK_c 9 349 rfl).lt (VK_c 9 349 rfl).ka (fun r16 => ?_)
        refine j_iconst dX9_takesNumber_57 ?_
        refine j_iadd dX9_takesNumber_58 ?_
        obtain ⟨A17, eA17, h⟩ := bnd_elim h
        have xA17 : XT A A17 := by rw [eA17]; exact XT_sI _ _ _ _
        refine j_putI FX9_330 rfl rfl rfl (wrap_inR _) dX9_takesNumber_59 (VK_c 9 349 rfl).1 (VK_c 9 349 rfl).lt (VK_c 9 349 rfl).ka ?_
        refine j_hB eA17 ?_
        obtain ⟨u18, eu18, h⟩ := bnd_elim h
        have hu18 : inR u18 := by rw [eu18]; exact wrap_inR _
        refine j_iincN (k := 3) (lv' := [(3, vI u18), (2, vI u15), (0, .ref (gB g + 349)), (1, vI x1)]) eu18 dX9_takesNumber_62 rfl (by decide) (by first | rfl | (simp only [List.all_cons, List.all_nil, rv_cat]; rfl)) rfl ?_
        refine j_goto (tgt := 20) dX9_takesNumber_65 (by decide) ?_
        exact j_sub [2, 3, 1, 0] rfl (ih A17 u15 u18 hu15 hu18 h)
