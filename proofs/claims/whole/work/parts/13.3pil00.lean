set_option maxRecDepth 100000 in
theorem tX4_copyFrom_0 {g : JG} {l : Launch} {d N n0 s0 : Nat} {out : AH} {A : AH} {y0 : Nat} {y1 : Nat} (hl : l.stackTraces = false) (hd : 1 ≤ d) (hy0 : VK 4 y0) (hy1 : VK 4 y1) (h : fX4_copyFrom N A y0 y1 = some out) : J g l d RX4 "copyFrom" cX4_copyFrom 2 none n0 s0 ((0, none, out) : JO) (True) 0 [(0, .ref (gB g + y0)), (1, .ref (gB g + y1))] [] A := by
  unfold fX4_copyFrom at h
  refine j_aload_n (j := 0) dX4_copyFrom_0 rfl rfl ?_
  refine j_aload_n (j := 1) dX4_copyFrom_1 rfl rfl ?_
  refine j_getI FX4_9 rfl dX4_copyFrom_2 hy1.1 hy1.lt hy1.ka (fun r1 => ?_)
  obtain ⟨A2, eA2, h⟩ := bnd_elim h
  have xA2 : XT A A2 := by rw [eA2]; exact XT_sI _ _ _ _
  refine j_putI FX4_9 rfl rfl rfl r1 dX4_copyFrom_5 hy0.1 hy0.lt hy0.ka ?_
  refine j_hB eA2 ?_
  refine j_aload_n (j := 0) dX4_copyFrom_8 rfl rfl ?_
  refine j_aload_n (j := 1) dX4_copyFrom_9 rfl rfl ?_
  refine j_getI FX4_15 rfl dX4_copyFrom_10 hy1.1 hy1.lt hy1.ka (fun r3 => ?_)
  obtain ⟨A4, eA4, h⟩ := bnd_elim h
  have xA4 : XT A2 A4 := by rw [eA4]; exact XT_sI _ _ _ _
  refine j_putI FX4_15 rfl rfl rfl r3 dX4_copyFrom_13 hy0.1 hy0.lt hy0.ka ?_
  refine j_hB eA4 ?_
  refine j_aload_n (j := 0) dX4_copyFrom_16 rfl rfl ?_
  refine j_aload_n (j := 1) dX4_copyFrom_17 rfl rfl ?_
  refine j_getQ FX4_18 rfl dX4_copyFrom_18 hy1.1 hy1.lt hy1.ka (Or.inl ⟨hy1.2.2, rfl, hy1.2.1⟩) (fun r5 => ?_)
  obtain ⟨A6, eA6, h⟩ := bnd_elim h
  have xA6 : XT A4 A6 := by rw [eA6]; exact XT_sP _ _ _ _
  refine j_putQ FX4_18 r5 dX4_copyFrom_21 hy0.1 hy0.2.1 hy0.2.2 ?_
  refine j_hB eA6 ?_
  cases h
  exact j_vret dX4_copyFrom_24 rfl rfl trivial
theorem ctX4_copyFrom {g : JG} {l : Launch} {d N : Nat} {A : AH} {out : AH} {y0 : Nat} {y1 : Nat} (hl : l.stackTraces = false) (hd : 1 ≤ d) (hy0 : VK 4 y0) (hy1 : VK 4 y1) (h : fX4_copyFrom N A y0 y1 = some out) : CT g l yX4_copyFrom cX4_copyFrom 2 none d [.ref (gB g + y0), .ref (gB g + y1)] A ((0, none, out) : JO) (True) :=
  CT_of (by decide +kernel) hl (by first | exact Nat.le_of_ble_eq_true rfl | (unfold rv; split <;> exact Nat.le_of_ble_eq_true rfl)) (by first | rfl | (unfold rv; split <;> rfl)) (j_sub (lv := [(0, .ref (gB g + y0)), (1, .ref (gB g + y1))]) [0, 1] rfl (tX4_copyFrom_0 hl hd hy0 hy1 h))
set_option maxRecDepth 100000 in
theorem tX4_start_0 {g : JG} {l : Launch} {d N n0 s0 : Nat} {out : AH} {A : AH} {y0 : Nat} {x1 : Int} (hl : l.stackTraces = false) (hd : 1 ≤ d) (hy0 : VK 4 y0) (hx1 : inR x1) (h : fX4_start N A y0 x1 = some out) : J g l d RX4 "start" cX4_start 2 none n0 s0 ((0, none, out) : JO) (True) 0 [(0, .ref (gB g + y0)), (1, vI x1)] [] A := by
  unfold fX4_start at h
  refine j_aload_n (j := 0) dX4_start_0 rfl rfl ?_
  refine j_iload_n (j := 1) dX4_start_1 rfl rfl ?_
  obtain ⟨A1, eA1, h⟩ := bnd_elim h
  have xA1 : XT A A1 := by rw [eA1]; exact XT_sI _ _ _ _
  refine j_putI FX4_9 rfl rfl rfl hx1 dX4_start_2 hy0.1 hy0.lt hy0.ka ?_
  refine j_hB eA1 ?_
  refine j_aload_n (j := 0) dX4_start_5 rfl rfl ?_
  refine j_iconst dX4_start_6 ?_
  obtain ⟨A2, eA2, h⟩ := bnd_elim h
  have xA2 : XT A1 A2 := by rw [eA2]; exact XT_sI _ _ _ _
  refine j_putI FX4_15 rfl rfl rfl (inR_lit _ rfl) dX4_start_7 hy0.1 hy0.lt hy0.ka ?_
  refine j_hB eA2 ?_
  refine j_aload_n (j := 0) dX4_start_10 rfl rfl ?_
  refine j_null dX4_start_11 ?_
  obtain ⟨A3, eA3, h⟩ := bnd_elim h
  have xA3 : XT A2 A3 := by rw [eA3]; exact XT_sP _ _ _ _
  refine j_putQ FX4_18 (Or.inl rfl) dX4_start_12 hy0.1 hy0.2.1 hy0.2.2 ?_
  refine j_hB eA3 ?_
  cases h
  exact j_vret dX4_start_15 rfl rfl trivial
theorem ctX4_start {g : JG} {l : Launch} {d N : Nat} {A : AH} {out : AH} {y0 : Nat} {x1 : Int} (hl : l.stackTraces = false) (hd : 1 ≤ d) (hy0 : VK 4 y0) (hx1 : inR x1) (h : fX4_start N A y0 x1 = some out) : CT g l yX4_start cX4_start 2 none d [.ref (gB g + y0), vI x1] A ((0, none, out) : JO) (True) :=
  CT_of (by decide +kernel) hl (by first | exact Nat.le_of_ble_eq_true rfl | (unfold rv; split <;> exact Nat.le_of_ble_eq_true rfl)) (by first | rfl | (unfold rv; split <;> rfl)) (j_sub (lv := [(0, .ref (gB g + y0)), (1, vI x1)]) [0, 1] rfl (tX4_start_0 hl hd hy0 hx1 h))
set_option maxRecDepth 100000 in
theorem tX4_add_0 {g : JG} {l : Launch} {d N n0 s0 : Nat} {out : AH} {A : AH} {y0 : Nat} {x1 : Int} {x2 : Int} {x3 : Int} {x4 : Int} {x5 : Int} (hl : l.stackTraces = false) (hd : 3 ≤ d) (hy0 : VK 4 y0) (hx1 : inR x1) (hx2 : inR x2) (hx3 : inR x3) (hx4 : inR x4) (hx5 : inR x5) (h : fX4_add N A y0 x1 x2 x3 x4 x5 = some out) : J g l d RX4 "add" cX4_add 6 none n0 s0 ((0, none, out) : JO) (True) 0 [(0, .ref (gB g + y0)), (1, vI x1), (2, vI x2), (3, vI x3), (4, vI x4), (5, vI x5)] [] A := by
  unfold fX4_add at h
  refine j_aload_n (j := 0) dX4_add_0 rfl rfl ?_
  obtain ⟨q2, eq2, h⟩ := bnd_elim h
  obtain ⟨A1, eA1, h⟩ := bnd_elim h
  have xA1 : XT A A1 := by rw [eA1]; exact XT_nC _ _ _
  refine j_newLeg (gdI (i := 521) (by decide +kernel) rfl) (gdI (i := 522) (by decide +kernel) rfl) (gdI (i := 96) (by decide +kernel) rfl) dX4_add_1 (fun gq2 => ?_)
  rw [← eA1, ← eq2] at gq2
  rw [← eq2]
  refine j_hB eA1 ?_
  refine j_dup dX4_add_4 rfl ?_
  refine j_aload_n (j := 0) dX4_add_5 rfl rfl ?_
  refine j_getQ FX4_18 rfl dX4_add_6 hy0.1 hy0.lt hy0.ka (Or.inl ⟨hy0.2.2, rfl, hy0.2.1⟩) (fun r3 => ?_)
  refine j_iload_n (j := 1) dX4_add_9 rfl rfl ?_
  refine j_iload_n (j := 2) dX4_add_10 rfl rfl ?_
  refine j_iload_n (j := 3) dX4_add_11 rfl rfl ?_
  refine j_iload (j := 4) dX4_add_12 rfl ?_
  refine j_iload (j := 5) dX4_add_14 rfl ?_
  obtain ⟨p5, e4, h⟩ := obind_elim h
  refine j_callI MX4_24 YX2_init IX2_init rfl (by decide) (by omega) (Nat.le_of_ble_eq_true rfl) rfl (ctX2_init (d := d - 1) hl (by omega) gq2 r3 hx1 hx2 hx3 hx4 hx5 e4) dX4_add_16 rfl (fun z6 xt7 => ?_)
  refine j_rv (gq2.xt xt7).ne ?_
  obtain ⟨A8, eA8, h⟩ := bnd_elim h
  have xA8 : XT p5 A8 := by rw [eA8]; exact XT_sP _ _ _ _
  refine j_putQ FX4_18 (Or.inr (gq2.xt xt7)) dX4_add_19 hy0.1 hy0.2.1 hy0.2.2 ?_
  refine j_hB eA8 ?_
  cases h
  exact j_vret dX4_add_22 rfl rfl trivial
theorem ctX4_add {g : JG} {l : Launch} {d N : Nat} {A : AH} {out : AH} {y0 : Nat} {x1 : Int} {x2 : Int} {x3 : Int} {x4 : Int} {x5 : Int} (hl : l.stackTraces = false) (hd : 3 ≤ d) (hy0 : VK 4 y0) (hx1 : inR x1) (hx2 : inR x2) (hx3 : inR x3) (hx4 : inR x4) (hx5 : inR x5) (h : fX4_add N A y0 x1 x2 x3 x4 x5 = some out) : CT g l yX4_add cX4_add 6 none d [.ref (gB g + y0), vI x1, vI x2, vI x3, vI x4, vI x5] A ((0, none, out) : JO) (True) :=
  CT_of (by decide +kernel) hl (by first | exact Nat.le_of_ble_eq_true rfl | (unfold rv; split <;> exact Nat.le_of_ble_eq_true rfl)) (by first | rfl | (unfold rv; split <;> rfl)) (j_sub (lv := [(0, .ref (gB g + y0)), (1, vI x1), (2, vI x2), (3, vI x3), (4, vI x4), (5, vI x5)]) [0, 1, 2, 3, 4, 5] rfl (tX4_add_0 hl hd hy0 hx1 hx2 hx3 hx4 hx5 h))
set_option maxRecDepth 100000 in
theorem tX4_removeLast_0 {g : JG} {l : Launch} {d N n0 s0 : Nat} {out : AH} {A : AH} {y0 : Nat} (hl : l.stackTraces = false) (hd : 1 ≤ d) (hy0 : VK 4 y0) (h : fX4_removeLast N A y0 = some out) : J g l d RX4 "removeLast" cX4_removeLast 1 none n0 s0 ((0, none, out) : JO) (True) 0 [(0, .ref (gB g + y0))] [] A := by
  unfold fX4_removeLast at h
  refine j_aload_n (j := 0) dX4_removeLast_0 rfl rfl ?_
  refine j_getQ FX4_18 rfl dX4_removeLast_1 hy0.1 hy0.lt hy0.ka (Or.inl ⟨hy0.2.2, rfl, hy0.2.1⟩) (fun r1 => ?_)
  by_cases c2 : (gP A y0 2) = 0
  · rw [if_pos c2] at h
    refine j_ifnull_t dX4_removeLast_4 (tgt := 18) (by decide) c2 ?_
    cases h
    exact j_vret dX4_removeLast_18 rfl rfl trivial
  · rw [if_neg c2] at h
    refine j_ifnull_f dX4_removeLast_4 c2 ?_
    refine j_aload_n (j := 0) dX4_removeLast_7 rfl rfl ?_
    refine j_aload_n (j := 0) dX4_removeLast_8 rfl rfl ?_
    refine j_getQ FX4_18 rfl dX4_removeLast_9 hy0.1 hy0.lt hy0.ka (Or.inl ⟨hy0.2.2, rfl, hy0.2.1⟩) (fun r3 => ?_)
    refine j_unrv c2 ?_
    refine j_getQ FX4_27 rfl dX4_removeLast_12 (r3.nz c2).pos (r3.nz c2).lt (r3.nz c2).ka (Or.inr ⟨(r3.nz c2).1, rfl⟩) (fun r4 => ?_)
    obtain ⟨A5, eA5, h⟩ := bnd_elim h
    have xA5 : XT A A5 := by rw [eA5]; exact XT_sP _ _ _ _
    refine j_putQ FX4_18 r4 dX4_removeLast_15 hy0.1 hy0.2.1 hy0.2.2 ?_
    refine j_hB eA5 ?_
    cases h
    exact j_vret dX4_removeLast_18 rfl rfl trivial
theorem ctX4_removeLast {g : JG} {l : Launch} {d N : Nat} {A : AH} {out : AH} {y0 : Nat} (hl : l.stackTraces = false) (hd : 1 ≤ d) (hy0 : VK 4 y0) (h : fX4_removeLast N A y0 = some out) : CT g l yX4_removeLast cX4_removeLast 1 none d [.ref (gB g + y0)] A ((0, none, out) : JO) (True) :=
  CT_of (by decide +kernel) hl (by first | exact Nat.le_of_ble_eq_true rfl | (unfold rv; split <;> exact Nat.le_of_ble_eq_true rfl)) (by first | rfl | (unfold rv; split <;> rfl)) (j_sub (lv := [(0, .ref (gB g + y0))]) [0] rfl (tX4_removeLast_0 hl hd hy0 h))
set_option maxRecDepth 100000 in
theorem tX4_credit_0 {g : JG} {l : Launch} {d N n0 s0 : Nat} {out : AH} {A : AH} {y0 : Nat} {x1 : Int} {x2 : Int} (hl : l.stackTraces = false) (hd : 1 ≤ d) (hy0 : VK 4 y0) (hx1 : inR x1) (hx2 : inR x2) (h : fX4_credit N A y0 x1 x2 = some out) : J g l d RX4 "credit" cX4_credit 3 none n0 s0 ((0, none, out) : JO) (True) 0 [(0, .ref (gB g + y0)), (1, vI x1), (2, vI x2)] [] A := by
  unfold fX4_credit at h
  refine j_iload_n (j := 1) dX4_credit_0 rfl rfl ?_
  refine j_aload_n (j := 0) dX4_credit_1 rfl rfl ?_
  refine j_getI FX4_9 rfl dX4_credit_2 hy0.1 hy0.lt hy0.ka (fun r1 => ?_)
  by_cases c2 : x1 = (gI A y0 0)
  · rw [if_pos c2] at h
    refine j_icmp_eq_t hx1 r1 dX4_credit_5 (tgt := 9) (by decide) c2 ?_
    refine j_aload_n (j := 0) dX4_credit_9 rfl rfl ?_
    refine j_dup dX4_credit_10 rfl ?_
    refine j_getI FX4_15 rfl dX4_credit_11 hy0.1 hy0.lt hy0.ka (fun r3 => ?_)
    refine j_iconst dX4_credit_14 ?_
    refine j_iadd dX4_credit_15 ?_
    obtain ⟨A4, eA4, h⟩ := bnd_elim h
    have xA4 : XT A A4 := by rw [eA4]; exact XT_sI _ _ _ _
    refine j_putI FX4_15 rfl rfl rfl (wrap_inR _) dX4_credit_16 hy0.1 hy0.lt hy0.ka ?_
    refine j_hB eA4 ?_
    refine j_aload_n (j := 0) dX4_credit_19 rfl rfl ?_
    refine j_getI FX4_15 rfl dX4_credit_20 hy0.1 hy0.lt hy0.ka (fun r5 => ?_)
    refine j_iload_n (j := 2) dX4_credit_23 rfl rfl ?_
    by_cases c6 : (gI A4 y0 1) < x2
    · rw [if_pos c6] at h
      refine j_icmp_lt_t r5 hx2 dX4_credit_24 (tgt := 50) (by decide) c6 ?_
      cases h
      exact j_vret dX4_credit_50 rfl rfl trivial
    · rw [if_neg c6] at h
      refine j_icmp_lt_f r5 hx2 dX4_credit_24 (tgt := 50) (by decide) c6 ?_
      refine j_aload_n (j := 0) dX4_credit_27 rfl rfl ?_
      refine j_getI FX4_9 rfl dX4_credit_28 hy0.1 hy0.lt hy0.ka (fun r7 => ?_)
      refine j_iconst dX4_credit_31 ?_
      by_cases c8 : 4 ≤ (gI A4 y0 0)
      · rw [if_pos c8] at h
        refine j_icmp_ge_t r7 (inR_lit _ rfl) dX4_credit_32 (tgt := 50) (by decide) c8 ?_
        cases h
        exact j_vret dX4_credit_50 rfl rfl trivial
      · rw [if_neg c8] at h
        refine j_icmp_ge_f r7 (inR_lit _ rfl) dX4_credit_32 (tgt := 50) (by decide) c8 ?_
        refine j_aload_n (j := 0) dX4_credit_35 rfl rfl ?_
        refine j_dup dX4_credit_36 rfl ?_
        refine j_getI FX4_9 rfl dX4_credit_37 hy0.1 hy0.lt hy0.ka (fun r9 => ?_)
        refine j_iconst dX4_credit_40 ?_
        refine j_iadd dX4_credit_41 ?_
        obtain ⟨A10, eA10, h⟩ := bnd_elim h
        have xA10 : XT A4 A10 := by rw [eA10]; exact XT_sI _ _ _ _
        refine j_putI FX4_9 rfl rfl rfl (wrap_inR _) dX4_credit_42 hy0.1 hy0.lt hy0.ka ?_
        refine j_hB eA10 ?_
        refine j_aload_n (j := 0) dX4_credit_45 rfl rfl ?_
        refine j_iconst dX4_credit_46 ?_
        obtain ⟨A11, eA11, h⟩ := bnd_elim h
        have xA11 : XT A10 A11 := by rw [eA11]; exact XT_sI _ _ _ _
        refine j_putI FX4_15 rfl rfl rfl (inR_lit _ rfl) dX4_credit_47 hy0.1 hy0.lt hy0.ka ?_
        refine j_hB eA11 ?_
        cases h
        exact j_vret dX4_credit_50 rfl rfl trivial
  · rw [if_neg c2] at h
    refine j_icmp_eq_f hx1 r1 dX4_credit_5 (tgt := 9) (by decide) c2 ?_
    cases h
    exact j_vret dX4_credit_8 rfl rfl trivial
theorem ctX4_credit {g : JG} {l : Launch} {d N : Nat} {A : AH} {out : AH} {y0 : Nat} {x1 : Int} {x2 : Int} (hl : l.stackTraces = false) (hd : 1 ≤ d) (hy0 : VK 4 y0) (hx1 : inR x1) (hx2 : inR x2) (h : fX4_credit N A y0 x1 x2 = some out) : CT g l yX4_credit cX4_credit 3 none d [.ref (gB g + y0), vI x1, vI x2] A ((0, none, out) : JO) (True) :=
  CT_of (by decide +kernel) hl (by first | exact Nat.le_of_ble_eq_true rfl | (unfold rv; split <;> exact Nat.le_of_ble_eq_true rfl)) (by first | rfl | (unfold rv; split <;> rfl)) (j_sub (lv := [(0, .ref (gB g + y0)), (1, vI x1), (2, vI x2)]) [0, 1, 2] rfl (tX4_credit_0 hl hd hy0 hx1 hx2 h))
set_option maxRecDepth 100000 in
theorem tX4_legs_0 {g : JG} {l : Launch} {d N n0 s0 : Nat} {out : Int} {A : AH} {y0 : Nat} (hl : l.stackTraces = false) (hd : 1 ≤ d) (hy0 : VK 4 y0) (h : fX4_legs N A y0 = some out) : J g l d RX4 "legs" cX4_legs 1 (some .int) n0 s0 ((0, some (vI out), A) : JO) (inR out) 0 [(0, .ref (gB g + y0))] [] A := by
  unfold fX4_legs at h
  refine j_aload_n (j := 0) dX4_legs_0 rfl rfl ?_
  refine j_getQ FX4_18 rfl dX4_legs_1 hy0.1 hy0.lt hy0.ka (Or.inl ⟨hy0.2.2, rfl, hy0.2.1⟩) (fun r1 => ?_)
  by_cases c2 : (gP A y0 2) = 0
  · rw [if_pos c2] at h
    refine j_ifnonnull_f dX4_legs_4 c2 ?_
    refine j_iconst dX4_legs_7 ?_
    refine j_goto (tgt := 20) dX4_legs_8 (by decide) ?_
    cases h
    exact j_iret dX4_legs_20 rfl rfl rfl (inR_lit _ rfl)
  · rw [if_neg c2] at h
    refine j_ifnonnull_t dX4_legs_4 (tgt := 11) (by decide) c2 ?_
    refine j_aload_n (j := 0) dX4_legs_11 rfl rfl ?_
    refine j_getQ FX4_18 rfl dX4_legs_12 hy0.1 hy0.lt hy0.ka (Or.inl ⟨hy0.2.2, rfl, hy0.2.1⟩) (fun r3 => ?_)
    refine j_unrv c2 ?_
    refine j_getI FX4_30 rfl dX4_legs_15 (r3.nz c2).pos (r3.nz c2).lt (r3.nz c2).ka (fun r4 => ?_)
    refine j_iconst dX4_legs_18 ?_
    refine j_iadd dX4_legs_19 ?_
    cases h
    exact j_iret dX4_legs_20 rfl rfl rfl (wrap_inR _)
theorem ctX4_legs {g : JG} {l : Launch} {d N : Nat} {A : AH} {out : Int} {y0 : Nat} (hl : l.stackTraces = false) (hd : 1 ≤ d) (hy0 : VK 4 y0) (h : fX4_legs N A y0 = some out) : CT g l yX4_legs cX4_legs 1 (some .int) d [.ref (gB g + y0)] A ((0, some (vI out), A) : JO) (inR out) :=
  CT_of (by decide +kernel) hl (by first | exact Nat.le_of_ble_eq_true rfl | (unfold rv; split <;> exact Nat.le_of_ble_eq_true rfl)) (by first | rfl | (unfold rv; split <;> rfl)) (j_sub (lv := [(0, .ref (gB g + y0))]) [0] rfl (tX4_legs_0 hl hd hy0 h))
set_option maxRecDepth 100000 in
theorem tX4_freeFrom_0 {g : JG} {l : Launch} {d N n0 s0 : Nat} {out : Int} {A : AH} {y0 : Nat} (hl : l.stackTraces = false) (hd : 1 ≤ d) (hy0 : VK 4 y0) (h : fX4_freeFrom N A y0 = some out) : J g l d RX4 "freeFrom" cX4_freeFrom 1 (some .int) n0 s0 ((0, some (vI out), A) : JO) (inR out) 0 [(0, .ref (gB g + y0))] [] A := by
  unfold fX4_freeFrom at h
  refine j_aload_n (j := 0) dX4_freeFrom_0 rfl rfl ?_
  refine j_getQ FX4_18 rfl dX4_freeFrom_1 hy0.1 hy0.lt hy0.ka (Or.inl ⟨hy0.2.2, rfl, hy0.2.1⟩) (fun r1 => ?_)
  by_cases c2 : (gP A y0 2) = 0
  · rw [if_pos c2] at h
    refine j_ifnonnull_f dX4_freeFrom_4 c2 ?_
    refine j_iconst dX4_freeFrom_7 ?_
    refine j_goto (tgt := 18) dX4_freeFrom_8 (by decide) ?_
    cases h
    exact j_iret dX4_freeFrom_18 rfl rfl rfl (inR_lit _ rfl)
  · rw [if_neg c2] at h
    refine j_ifnonnull_t dX4_freeFrom_4 (tgt := 11) (by decide) c2 ?_
    refine j_aload_n (j := 0) dX4_freeFrom_11 rfl rfl ?_
    refine j_getQ FX4_18 rfl dX4_freeFrom_12 hy0.1 hy0.lt hy0.ka (Or.inl ⟨hy0.2.2, rfl, hy0.2.1⟩) (fun r3 => ?_)
    refine j_unrv c2 ?_
    refine j_getI FX4_33 rfl dX4_freeFrom_15 (r3.nz c2).pos (r3.nz c2).lt (r3.nz c2).ka (fun r4 => ?_)
    cases h
    exact j_iret dX4_freeFrom_18 rfl rfl rfl r4
theorem ctX4_freeFrom {g : JG} {l : Launch} {d N : Nat} {A : AH} {out : Int} {y0 : Nat} (hl : l.stackTraces = false) (hd : 1 ≤ d) (hy0 : VK 4 y0) (h : fX4_freeFrom N A y0 = some out) : CT g l yX4_freeFrom cX4_freeFrom 1 (some .int) d [.ref (gB g + y0)] A ((0, some (vI out), A) : JO) (inR out) :=
  CT_of (by decide +kernel) hl (by first | exact Nat.le_of_ble_eq_true rfl | (unfold rv; split <;> exact Nat.le_of_ble_eq_true rfl)) (by first | rfl | (unfold rv; split <;> rfl)) (j_sub (lv := [(0, .ref (gB g + y0))]) [0] rfl (tX4_freeFrom_0 hl hd hy0 h))
set_option maxRecDepth 100000 in
theorem tX4_lastGoal_0 {g : JG} {l : Launch} {d N n0 s0 : Nat} {out : Int} {A : AH} {y0 : Nat} (hl : l.stackTraces = false) (hd : 1 ≤ d) (hy0 : VK 4 y0) (h : fX4_lastGoal N A y0 = some out) : J g l d RX4 "lastGoal" cX4_lastGoal 1 (some .int) n0 s0 ((0, some (vI out), A) : JO) (inR out) 0 [(0, .ref (gB g + y0))] [] A := by
  unfold fX4_lastGoal at h
  refine j_aload_n (j := 0) dX4_lastGoal_0 rfl rfl ?_
  refine j_getQ FX4_18 rfl dX4_lastGoal_1 hy0.1 hy0.lt hy0.ka (Or.inl ⟨hy0.2.2, rfl, hy0.2.1⟩) (fun r1 => ?_)
  by_cases c2 : (gP A y0 2) = 0
  · rw [if_pos c2] at h
    refine j_ifnonnull_f dX4_lastGoal_4 c2 ?_
    refine j_iconst dX4_lastGoal_7 ?_
    refine j_goto (tgt := 18) dX4_lastGoal_8 (by decide) ?_
    cases h
    exact j_iret dX4_lastGoal_18 rfl rfl rfl (inR_lit _ rfl)
  · rw [if_neg c2] at h
    refine j_ifnonnull_t dX4_lastGoal_4 (tgt := 11) (by decide) c2 ?_
    refine j_aload_n (j := 0) dX4_lastGoal_11 rfl rfl ?_
    refine j_getQ FX4_18 rfl dX4_lastGoal_12 hy0.1 hy0.lt hy0.ka (Or.inl ⟨hy0.2.2, rfl, hy0.2.1⟩) (fun r3 => ?_)
    refine j_unrv c2 ?_
    refine j_getI FX4_36 rfl dX4_lastGoal_15 (r3.nz c2).pos (r3.nz c2).lt (r3.nz c2).ka (fun r4 => ?_)
    cases h
    exact j_iret dX4_lastGoal_18 rfl rfl rfl r4
theorem ctX4_lastGoal {g : JG} {l : Launch} {d N : Nat} {A : AH} {out : Int} {y0 : Nat} (hl : l.stackTraces = false) (hd : 1 ≤ d) (hy0 : VK 4 y0) (h : fX4_lastGoal N A y0 = some out) : CT g l yX4_lastGoal cX4_lastGoal 1 (some .int) d [.ref (gB g + y0)] A ((0, some (vI out), A) : JO) (inR out) :=
  CT_of (by decide +kernel) hl (by first | exact Nat.le_of_ble_eq_true rfl | (unfold rv; split <;> exact Nat.le_of_ble_eq_true rfl)) (by first | rfl | (unfold rv; split <;> rfl)) (j_sub (lv := [(0, .ref (gB g + y0))]) [0] rfl (tX4_lastGoal_0 hl hd hy0 h))
set_option maxRecDepth 100000 in
theorem tX4_legAt_5 {g : JG} {l : Launch} {d N n0 s0 : Nat} {out : Nat} {A : AH} {x1 : Int} (hl : l.stackTraces = false) (hd : 1 ≤ d) (hx1 : inR x1) : ∀ (n : Nat) (y2 : Nat), LV A y2 → fX4_legAt_5 N A x1 n y2 = some out → J g l d RX4 "legAt" cX4_legAt 3 (some (.object "PilotRoster$Leg")) n0 s0 ((0, some (rv g out), A) : JO) (LV A out) 5 [(1, vI x1), (2, rv g y2)] [] A := by
  intro n
  induction n with
  | zero =>
    intro y2 hy2 h
    rw [fX4_legAt_5] at h
    cases h
  | succ n ih =>
    intro y2 hy2 h
    rw [fX4_legAt_5] at h
    refine j_aloadQ_n (j := 1) dX4_legAt_5 rfl rfl ?_
    by_cases c1 : y2 = 0
    · rw [if_pos c1] at h
      refine j_ifnull_t dX4_legAt_6 (tgt := 27) (by decide) c1 ?_
      refine j_null dX4_legAt_27 ?_
      cases h
      exact j_aret dX4_legAt_28 rfl rfl (Or.inl rfl)
    · rw [if_neg c1] at h
      refine j_ifnull_f dX4_legAt_6 c1 ?_
      refine j_aloadQ_n (j := 1) dX4_legAt_9 rfl rfl ?_
      refine j_unrv c1 ?_
      refine j_getI FX4_30 rfl dX4_legAt_10 (hy2.nz c1).pos (hy2.nz c1).lt (hy2.nz c1).ka (fun r2 => ?_)
      refine j_iload_n (j := 0) dX4_legAt_13 rfl rfl ?_
      by_cases c3 : (gI A y2 1) = x1
      · rw [if_pos c3] at h
        refine j_icmp_ne_f r2 hx1 dX4_legAt_14 (tgt := 19) (by decide) (fun q => q c3) ?_
        refine j_aloadQ_n (j := 1) dX4_legAt_17 rfl rfl ?_
        refine j_unrv c1 ?_
        refine j_rv c1 ?_
        cases h
        exact j_aret dX4_legAt_18 rfl rfl hy2
      · rw [if_neg c3] at h
        refine j_icmp_ne_t r2 hx1 dX4_legAt_14 (tgt := 19) (by decide) c3 ?_
        refine j_aloadQ_n (j := 1) dX4_legAt_19 rfl rfl ?_
        refine j_unrv c1 ?_
        refine j_getQ FX4_27 rfl dX4_legAt_20 (hy2.nz c1).pos (hy2.nz c1).lt (hy2.nz c1).ka (Or.inr ⟨(hy2.nz c1).1, rfl⟩) (fun r4 => ?_)
        refine j_astoreQ_n (lv' := [(2, rv g (gP A y2 0)), (1, vI x1)]) dX4_legAt_23 rfl (by decide) (by first | rfl | (simp only [List.all_cons, List.all_nil, rv_cat]; rfl)) rfl ?_
        refine j_goto (tgt := 5) dX4_legAt_24 (by decide) ?_
        exact j_sub [1, 0] rfl (ih (gP A y2 0) r4 h)
set_option maxRecDepth 100000 in
theorem tX4_legAt_0 {g : JG} {l : Launch} {d N n0 s0 : Nat} {out : Nat} {A : AH} {y0 : Nat} {x1 : Int} (hl : l.stackTraces = false) (hd : 1 ≤ d) (hy0 : VK 4 y0) (hx1 : inR x1) (h : fX4_legAt N A y0 x1 = some out) : J g l d RX4 "legAt" cX4_legAt 3 (some (.object "PilotRoster$Leg")) n0 s0 ((0, some (rv g out), A) : JO) (LV A out) 0 [(0, .ref (gB g + y0)), (1, vI x1)] [] A := by
  unfold fX4_legAt at h
  refine j_aload_n (j := 0) dX4_legAt_0 rfl rfl ?_
  refine j_getQ FX4_18 rfl dX4_legAt_1 hy0.1 hy0.lt hy0.ka (Or.inl ⟨hy0.2.2, rfl, hy0.2.1⟩) (fun r1 => ?_)
  refine j_astoreQ_n (lv' := [(2, rv g (gP A y0 2)), (0, .ref (gB g + y0)), (1, vI x1)]) dX4_legAt_4 rfl (by decide) (by first | rfl | (simp only [List.all_cons, List.all_nil, rv_cat]; rfl)) rfl ?_
  exact j_sub [2, 0] rfl (tX4_legAt_5 hl (by omega) hx1  N (gP A y0 2) r1 h)
theorem ctX4_legAt {g : JG} {l : Launch} {d N : Nat} {A : AH} {out : Nat} {y0 : Nat} {x1 : Int} (hl : l.stackTraces = false) (hd : 1 ≤ d) (hy0 : VK 4 y0) (hx1 : inR x1) (h : fX4_legAt N A y0 x1 = some out) : CT g l yX4_legAt cX4_legAt 3 (some (.object "PilotRoster$Leg")) d [.ref (gB g + y0), vI x1] A ((0, some (rv g out), A) : JO) (LV A out) :=
  CT_of (by decide +kernel) hl (by first | exact Nat.le_of_ble_eq_true rfl | (unfold rv; split <;> exact Nat.le_of_ble_eq_true rfl)) (by first | rfl | (unfold rv; split <;> rfl)) (j_sub (lv := [(0, .ref (gB g + y0)), (1, vI x1)]) [0, 1] rfl (tX4_legAt_0 hl hd hy0 hx1 h))
set_option maxRecDepth 100000 in
theorem tX4_lastTrip_5 {g : JG} {l : Launch} {d N n0 s0 : Nat} {out : Nat} {A : AH} (hl : l.stackTraces = false) (hd : 1 ≤ d) : ∀ (n : Nat) (y1 : Nat), LV A y1 → fX4_lastTrip_5 N A n y1 = some out → J g l d RX4 "lastTrip" cX4_lastTrip 2 (some (.object "PilotRoster$Leg")) n0 s0 ((0, some (rv g out), A) : JO) (LV A out) 5 [(1, rv g y1)] [] A := by
  intro n
  induction n with
  | zero =>
    intro y1 hy1 h
    rw [fX4_lastTrip_5] at h
    cases h
  | succ n ih =>
    intro y1 hy1 h
    rw [fX4_lastTrip_5] at h
    refine j_aloadQ_n (j := 0) dX4_lastTrip_5 rfl rfl ?_
    by_cases c1 : y1 = 0
    · rw [if_pos c1] at h
      refine j_ifnull_t dX4_lastTrip_6 (tgt := 26) (by decide) c1 ?_
      refine j_null dX4_lastTrip_26 ?_
      cases h
      exact j_aret dX4_lastTrip_27 rfl rfl (Or.inl rfl)
    · rw [if_neg c1] at h
      refine j_ifnull_f dX4_lastTrip_6 c1 ?_
      refine j_aloadQ_n (j := 0) dX4_lastTrip_9 rfl rfl ?_
      refine j_unrv c1 ?_
      refine j_getI FX4_39 rfl dX4_lastTrip_10 (hy1.nz c1).pos (hy1.nz c1).lt (hy1.nz c1).ka (fun r2 => ?_)
      by_cases c3 : (gI A y1 2) = 0
      · rw [if_pos c3] at h
        refine j_if_ne_f r2 dX4_lastTrip_13 (tgt := 18) (by decide) (fun q => q c3) ?_
        refine j_aloadQ_n (j := 0) dX4_lastTrip_16 rfl rfl ?_
        refine j_unrv c1 ?_
        refine j_rv c1 ?_
        cases h
        exact j_aret dX4_lastTrip_17 rfl rfl hy1
      · rw [if_neg c3] at h
        refine j_if_ne_t r2 dX4_lastTrip_13 (tgt := 18) (by decide) c3 ?_
        refine j_aloadQ_n (j := 0) dX4_lastTrip_18 rfl rfl ?_
        refine j_unrv c1 ?_
        refine j_getQ FX4_27 rfl dX4_lastTrip_19 (hy1.nz c1).pos (hy1.nz c1).lt (hy1.nz c1).ka (Or.inr ⟨(hy1.nz c1).1, rfl⟩) (fun r4 => ?_)
        refine j_astoreQ_n (lv' := [(1, rv g (gP A y1 0))]) dX4_lastTrip_22 rfl (by decide) (by first | rfl | (simp only [List.all_cons, List.all_nil, rv_cat]; rfl)) rfl ?_
        refine j_goto (tgt := 5) dX4_lastTrip_23 (by decide) ?_
        exact j_sub [0] rfl (ih (gP A y1 0) r4 h)
set_option maxRecDepth 100000 in
theorem tX4_lastTrip_0 {g : JG} {l : Launch} {d N n0 s0 : Nat} {out : Nat} {A : AH} {y0 : Nat} (hl : l.stackTraces = false) (hd : 1 ≤ d) (hy0 : VK 4 y0) (h : fX4_lastTrip N A y0 = some out) : J g l d RX4 "lastTrip" cX4_lastTrip 2 (some (.object "PilotRoster$Leg")) n0 s0 ((0, some (rv g out), A) : JO) (LV A out) 0 [(0, .ref (gB g + y0))] [] A := by
  unfold fX4_lastTrip at h
  refine j_aload_n (j := 0) dX4_lastTrip_0 rfl rfl ?_
  refine j_getQ FX4_18 rfl dX4_lastTrip_1 hy0.1 hy0.lt hy0.ka (Or.inl ⟨hy0.2.2, rfl, hy0.2.1⟩) (fun r1 => ?_)
  refine j_astoreQ_n (lv' := [(1, rv g (gP A y0 2)), (0, .ref (gB g + y0))]) dX4_lastTrip_4 rfl (by decide) (by first | rfl | (simp only [List.all_cons, List.all_nil, rv_cat]; rfl)) rfl ?_
  exact j_sub [0] rfl (tX4_lastTrip_5 hl (by omega)   N (gP A y0 2) r1 h)
theorem ctX4_lastTrip {g : JG} {l : Launch} {d N : Nat} {A : AH} {out : Nat} {y0 : Nat} (hl : l.stackTraces = false) (hd : 1 ≤ d) (hy0 : VK 4 y0) (h : fX4_lastTrip N A y0 = some out) : CT g l yX4_lastTrip cX4_lastTrip 2 (some (.object "PilotRoster$Leg")) d [.ref (gB g + y0)] A ((0, some (rv g out), A) : JO) (LV A out) :=
  CT_of (by decide +kernel) hl (by first | exact Nat.le_of_ble_eq_true rfl | (unfold rv; split <;> exact Nat.le_of_ble_eq_true rfl)) (by first | rfl | (unfold rv; split <;> rfl)) (j_sub (lv := [(0, .ref (gB g + y0))]) [0] rfl (tX4_lastTrip_0 hl hd hy0 h))
set_option maxRecDepth 100000 in
theorem tX4_endsWithTripFor_0 {g : JG} {l : Launch} {d N n0 s0 : Nat} {out : Int} {A : AH} {y0 : Nat} {x1 : Int} (hl : l.stackTraces = false) (hd : 1 ≤ d) (hy0 : VK 4 y0) (hx1 : inR x1) (h : fX4_endsWithTripFor N A y0 x1 = some out) : J g l d RX4 "endsWithTripFor" cX4_endsWithTripFor 2 (some .boolean) n0 s0 ((0, some (vI out), A) : JO) ((out = 0 ∨ out = 1)) 0 [(0, .ref (gB g + y0)), (1, vI x1)] [] A := by
  unfold fX4_endsWithTripFor at h
  refine j_aload_n (j := 0) dX4_endsWithTripFor_0 rfl rfl ?_
  refine j_getQ FX4_18 rfl dX4_endsWithTripFor_1 hy0.1 hy0.lt hy0.ka (Or.inl ⟨hy0.2.2, rfl, hy0.2.1⟩) (fun r1 => ?_)
  by_cases c2 : (gP A y0 2) = 0
  · rw [if_pos c2] at h
    refine j_ifnull_t dX4_endsWithTripFor_4 (tgt := 32) (by decide) c2 ?_
    refine j_iconst dX4_endsWithTripFor_32 ?_
    cases h
    exact j_iret dX4_endsWithTripFor_33 rfl ((nar_bool (Or.inl rfl)).1) rfl (Or.inl rfl)
  · rw [if_neg c2] at h
    refine j_ifnull_f dX4_endsWithTripFor_4 c2 ?_
    refine j_aload_n (j := 0) dX4_endsWithTripFor_7 rfl rfl ?_
    refine j_getQ FX4_18 rfl dX4_endsWithTripFor_8 hy0.1 hy0.lt hy0.ka (Or.inl ⟨hy0.2.2, rfl, hy0.2.1⟩) (fun r3 => ?_)
    refine j_unrv c2 ?_
    refine j_getI FX4_39 rfl dX4_endsWithTripFor_11 (r3.nz c2).pos (r3.nz c2).lt (r3.nz c2).ka (fun r4 => ?_)
    by_cases c5 : (gI A (gP A y0 2) 2) = 0
    · rw [if_pos c5] at h
      refine j_if_ne_f r4 dX4_endsWithTripFor_14 (tgt := 32) (by decide) (fun q => q c5) ?_
      refine j_aload_n (j := 0) dX4_endsWithTripFor_17 rfl rfl ?_
      refine j_getQ FX4_18 rfl dX4_endsWithTripFor_18 hy0.1 hy0.lt hy0.ka (Or.inl ⟨hy0.2.2, rfl, hy0.2.1⟩) (fun r6 => ?_)
      refine j_unrv c2 ?_
      refine j_getI FX4_42 rfl dX4_endsWithTripFor_21 (r6.nz c2).pos (r6.nz c2).lt (r6.nz c2).ka (fun r7 => ?_)
      refine j_iload_n (j := 1) dX4_endsWithTripFor_24 rfl rfl ?_
      by_cases c8 : (gI A (gP A y0 2) 3) = x1
      · rw [if_pos c8] at h
        refine j_icmp_ne_f r7 hx1 dX4_endsWithTripFor_25 (tgt := 32) (by decide) (fun q => q c8) ?_
        refine j_iconst dX4_endsWithTripFor_28 ?_
        refine j_goto (tgt := 33) dX4_endsWithTripFor_29 (by decide) ?_
        cases h
        exact j_iret dX4_endsWithTripFor_33 rfl ((nar_bool (Or.inr rfl)).1) rfl (Or.inr rfl)
      · rw [if_neg c8] at h
        refine j_icmp_ne_t r7 hx1 dX4_endsWithTripFor_25 (tgt := 32) (by decide) c8 ?_
        refine j_iconst dX4_endsWithTripFor_32 ?_
        cases h
        exact j_iret dX4_endsWithTripFor_33 rfl ((nar_bool (Or.inl rfl)).1) rfl (Or.inl rfl)
    · rw [if_neg c5] at h
      refine j_if_ne_t r4 dX4_endsWithTripFor_14 (tgt := 32) (by decide) c5 ?_
      refine j_iconst dX4_endsWithTripFor_32 ?_
      cases h
      exact j_iret dX4_endsWithTripFor_33 rfl ((nar_bool (Or.inl rfl)).1) rfl (Or.inl rfl)
theorem ctX4_endsWithTripFor {g : JG} {l : Launch} {d N : Nat} {A : AH} {out : Int} {y0 : Nat} {x1 : Int} (hl : l.stackTraces = false) (hd : 1 ≤ d) (hy0 : VK 4 y0) (hx1 : inR x1) (h : fX4_endsWithTripFor N A y0 x1 = some out) : CT g l yX4_endsWithTripFor cX4_endsWithTripFor 2 (some .boolean) d [.ref (gB g + y0), vI x1] A ((0, some (vI out), A) : JO) ((out = 0 ∨ out = 1)) :=
  CT_of (by decide +kernel) hl (by first | exact Nat.le_of_ble_eq_true rfl | (unfold rv; split <;> exact Nat.le_of_ble_eq_true rfl)) (by first | rfl | (unfold rv; split <;> rfl)) (j_sub (lv := [(0, .ref (gB g + y0)), (1, vI x1)]) [0, 1] rfl (tX4_endsWithTripFor_0 hl hd hy0 hx1 h))
set_option maxRecDepth 100000 in
theorem tX4_tripHours_7 {g : JG} {l : Launch} {d N n0 s0 : Nat} {out : Int} {A : AH} {x1 : Int} (hl : l.stackTraces = false) (hd : 2 ≤ d) (hx1 : inR x1) : ∀ (n : Nat) (x2 : Int) (y3 : Nat), inR x2 → LV A y3 → fX4_tripHours_7 N A x1 n x2 y3 = some out → J g l d RX4 "tripHours" cX4_tripHours 4 (some .int) n0 s0 ((0, some (vI out), A) : JO) (inR out) 7 [(1, vI x1), (2, vI x2), (3, rv g y3)] [] A := by
  intro n
  induction n with
  | zero =>
    intro x2 y3 hx2 hy3 h
    rw [fX4_tripHours_7] at h
    cases h
  | succ n ih =>
    intro x2 y3 hx2 hy3 h
    rw [fX4_tripHours_7] at h
    refine j_aloadQ_n (j := 2) dX4_tripHours_7 rfl rfl ?_
    by_cases c1 : y3 = 0
    · rw [if_pos c1] at h
      refine j_ifnull_t dX4_tripHours_8 (tgt := 50) (by decide) c1 ?_
      refine j_iload_n (j := 1) dX4_tripHours_50 rfl rfl ?_
      cases h
      exact j_iret dX4_tripHours_51 rfl rfl rfl hx2
    · rw [if_neg c1] at h
      refine j_ifnull_f dX4_tripHours_8 c1 ?_
      refine j_aloadQ_n (j := 2) dX4_tripHours_11 rfl rfl ?_
      refine j_unrv c1 ?_
      refine j_getI FX4_39 rfl dX4_tripHours_12 (hy3.nz c1).pos (hy3.nz c1).lt (hy3.nz c1).ka (fun r2 => ?_)
      by_cases c3 : (gI A y3 2) = 0
      · rw [if_pos c3] at h
        refine j_if_ne_f r2 dX4_tripHours_15 (tgt := 42) (by decide) (fun q => q c3) ?_
        refine j_aloadQ_n (j := 2) dX4_tripHours_18 rfl rfl ?_
        refine j_unrv c1 ?_
        refine j_getI FX4_45 rfl dX4_tripHours_19 (hy3.nz c1).pos (hy3.nz c1).lt (hy3.nz c1).ka (fun r5 => ?_)
        refine j_iload_n (j := 0) dX4_tripHours_22 rfl rfl ?_
        by_cases c6 : x1 ≤ (gI A y3 4)
        · rw [if_pos c6] at h
          refine j_icmp_ge_t r5 hx1 dX4_tripHours_23 (tgt := 42) (by decide) c6 ?_
          refine j_aloadQ_n (j := 2) dX4_tripHours_42 rfl rfl ?_
          refine j_unrv c1 ?_
          refine j_getQ FX4_27 rfl dX4_tripHours_43 (hy3.nz c1).pos (hy3.nz c1).lt (hy3.nz c1).ka (Or.inr ⟨(hy3.nz c1).1, rfl⟩) (fun r7 => ?_)
          refine j_astoreQ_n (lv' := [(3, rv g (gP A y3 0)), (1, vI x1), (2, vI x2)]) dX4_tripHours_46 rfl (by decide) (by first | rfl | (simp only [List.all_cons, List.all_nil, rv_cat]; rfl)) rfl ?_
          refine j_goto (tgt := 7) dX4_tripHours_47 (by decide) ?_
          exact j_sub [1, 2, 0] rfl (ih x2 (gP A y3 0) hx2 r7 h)
        · rw [if_neg c6] at h
          refine j_icmp_ge_f r5 hx1 dX4_tripHours_23 (tgt := 42) (by decide) c6 ?_
          refine j_iload_n (j := 1) dX4_tripHours_26 rfl rfl ?_
          refine j_aloadQ_n (j := 2) dX4_tripHours_27 rfl rfl ?_
          refine j_unrv c1 ?_
          refine j_getI FX4_33 rfl dX4_tripHours_28 (hy3.nz c1).pos (hy3.nz c1).lt (hy3.nz c1).ka (fun r8 => ?_)
          refine j_iload_n (j := 0) dX4_tripHours_31 rfl rfl ?_
          refine j_mmin r8 hx1 MX4_48 MMmina MMi MMminc dX4_tripHours_32 (Nat.le_of_ble_eq_true rfl) (by omega) ?_
          refine j_aloadQ_n (j := 2) dX4_tripHours_35 rfl rfl ?_
          refine j_unrv c1 ?_
          refine j_getI FX4_45 rfl dX4_tripHours_36 (hy3.nz c1).pos (hy3.nz c1).lt (hy3.nz c1).ka (fun r9 => ?_)
          refine j_isub dX4_tripHours_39 ?_
          refine j_iadd dX4_tripHours_40 ?_
          obtain ⟨u10, eu10, h⟩ := bnd_elim h
          have hu10 : inR u10 := by rw [eu10]; exact (wrap_inR _)
          refine j_nm eu10 ?_
          refine j_istore_n (lv' := [(2, vI u10), (1, vI x1), (3, rv g y3)]) dX4_tripHours_41 rfl (by decide) (by first | rfl | (simp only [List.all_cons, List.all_nil, rv_cat]; rfl)) rfl ?_
          refine j_aloadQ_n (j := 2) dX4_tripHours_42 rfl rfl ?_
          refine j_unrv c1 ?_
          refine j_getQ FX4_27 rfl dX4_tripHours_43 (hy3.nz c1).pos (hy3.nz c1).lt (hy3.nz c1).ka (Or.inr ⟨(hy3.nz c1).1, rfl⟩) (fun r11 => ?_)
          refine j_astoreQ_n (lv' := [(3, rv g (gP A y3 0)), (2, vI u10), (1, vI x1)]) dX4_tripHours_46 rfl (by decide) (by first | rfl | (simp only [List.all_cons, List.all_nil, rv_cat]; rfl)) rfl ?_
          refine j_goto (tgt := 7) dX4_tripHours_47 (by decide) ?_
          exact j_sub [2, 1, 0] rfl (ih u10 (gP A y3 0) hu10 r11 h)
      · rw [if_neg c3] at h
        refine j_if_ne_t r2 dX4_tripHours_15 (tgt := 42) (by decide) c3 ?_
        refine j_aloadQ_n (j := 2) dX4_tripHours_42 rfl rfl ?_
        refine j_unrv c1 ?_
        refine j_getQ FX4_27 rfl dX4_tripHours_43 (hy3.nz c1).pos (hy3.nz c1).lt (hy3.nz c1).ka (Or.inr ⟨(hy3.nz c1).1, rfl⟩) (fun r4 => ?_)
        refine j_astoreQ_n (lv' := [(3, rv g (gP A y3 0)), (1, vI x1), (2, vI x2)]) dX4_tripHours_46 rfl (by decide) (by first | rfl | (simp only [List.all_cons, List.all_nil, rv_cat]; rfl)) rfl ?_
        refine j_goto (tgt := 7) dX4_tripHours_47 (by decide) ?_
        exact j_sub [1, 2, 0] rfl (ih x2 (gP A y3 0) hx2 r4 h)
set_option maxRecDepth 100000 in
theorem tX4_tripHours_0 {g : JG} {l : Launch} {d N n0 s0 : Nat} {out : Int} {A : AH} {y0 : Nat} {x1 : Int} (hl : l.stackTraces = false) (hd : 2 ≤ d) (hy0 : VK 4 y0) (hx1 : inR x1) (h : fX4_tripHours N A y0 x1 = some out) : J g l d RX4 "tripHours" cX4_tripHours 4 (some .int) n0 s0 ((0, some (vI out), A) : JO) (inR out) 0 [(0, .ref (gB g + y0)), (1, vI x1)] [] A := by
  unfold fX4_tripHours at h
  refine j_iconst dX4_tripHours_0 ?_
  refine j_istore_n (lv' := [(2, vI 0), (0, .ref (gB g + y0)), (1, vI x1)]) dX4_tripHours_1 rfl (by decide) (by first | rfl | (simp only [List.all_cons, List.all_nil, rv_cat]; rfl)) rfl ?_
  refine j_aload_n (j := 1) dX4_tripHours_2 rfl rfl ?_
  refine j_getQ FX4_18 rfl dX4_tripHours_3 hy0.1 hy0.lt hy0.ka (Or.inl ⟨hy0.2.2, rfl, hy0.2.1⟩) (fun r1 => ?_)
  refine j_astoreQ_n (lv' := [(3, rv g (gP A y0 2)), (2, vI 0), (0, .ref (gB g + y0)), (1, vI x1)]) dX4_tripHours_6 rfl (by decide) (by first | rfl | (simp only [List.all_cons, List.all_nil, rv_cat]; rfl)) rfl ?_
  exact j_sub [3, 1, 0] rfl (tX4_tripHours_7 hl (by omega) hx1  N 0 (gP A y0 2) (inR_lit _ rfl) r1 h)
theorem ctX4_tripHours {g : JG} {l : Launch} {d N : Nat} {A : AH} {out : Int} {y0 : Nat} {x1 : Int} (hl : l.stackTraces = false) (hd : 2 ≤ d) (hy0 : VK 4 y0) (hx1 : inR x1) (h : fX4_tripHours N A y0 x1 = some out) : CT g l yX4_tripHours cX4_tripHours 4 (some .int) d [.ref (gB g + y0), vI x1] A ((0, some (vI out), A) : JO) (inR out) :=
  CT_of (by decide +kernel) hl (by first | exact Nat.le_of_ble_eq_true rfl | (unfold rv; split <;> exact Nat.le_of_ble_eq_true rfl)) (by first | rfl | (unfold rv; split <;> rfl)) (j_sub (lv := [(0, .ref (gB g + y0)), (1, vI x1)]) [0, 1] rfl (tX4_tripHours_0 hl hd hy0 hx1 h))
set_option maxRecDepth 100000 in
theorem tX4_placeAt_5 {g : JG} {l : Launch} {d N n0 s0 : Nat} {out : Int} {A : AH} {x1 : Int} (hl : l.stackTraces = false) (hd : 1 ≤ d) (hx1 : inR x1) : ∀ (n : Nat) (y2 : Nat), LV A y2 → fX4_placeAt_5 N A x1 n y2 = some out → J g l d RX4 "placeAt" cX4_placeAt 3 (some .int) n0 s0 ((0, some (vI out), A) : JO) (inR out) 5 [(1, vI x1), (2, rv g y2)] [] A := by
  intro n
  induction n with
  | zero =>
    intro y2 hy2 h
    rw [fX4_placeAt_5] at h
    cases h
  | succ n ih =>
    intro y2 hy2 h
    rw [fX4_placeAt_5] at h
    refine j_aloadQ_n (j := 1) dX4_placeAt_5 rfl rfl ?_
    by_cases c1 : y2 = 0
    · rw [if_pos c1] at h
      refine j_ifnull_t dX4_placeAt_6 (tgt := 40) (by decide) c1 ?_
      refine j_iconst dX4_placeAt_40 ?_
      cases h
      exact j_iret dX4_placeAt_41 rfl rfl rfl (inR_lit _ rfl)
    · rw [if_neg c1] at h
      refine j_ifnull_f dX4_placeAt_6 c1 ?_
      refine j_iload_n (j := 0) dX4_placeAt_9 rfl rfl ?_
      refine j_aloadQ_n (j := 1) dX4_placeAt_10 rfl rfl ?_
      refine j_unrv c1 ?_
      refine j_getI FX4_33 rfl dX4_placeAt_11 (hy2.nz c1).pos (hy2.nz c1).lt (hy2.nz c1).ka (fun r2 => ?_)
      by_cases c3 : x1 < (gI A y2 5)
      · rw [if_pos c3] at h
        refine j_icmp_lt_t hx1 r2 dX4_placeAt_14 (tgt := 22) (by decide) c3 ?_
        refine j_iload_n (j := 0) dX4_placeAt_22 rfl rfl ?_
        refine j_aloadQ_n (j := 1) dX4_placeAt_23 rfl rfl ?_
        refine j_unrv c1 ?_
        refine j_getI FX4_45 rfl dX4_placeAt_24 (hy2.nz c1).pos (hy2.nz c1).lt (hy2.nz c1).ka (fun r4 => ?_)
        by_cases c5 : x1 < (gI A y2 4)
        · rw [if_pos c5] at h
          refine j_icmp_lt_t hx1 r4 dX4_placeAt_27 (tgt := 32) (by decide) c5 ?_
          refine j_aloadQ_n (j := 1) dX4_placeAt_32 rfl rfl ?_
          refine j_unrv c1 ?_
          refine j_getQ FX4_27 rfl dX4_placeAt_33 (hy2.nz c1).pos (hy2.nz c1).lt (hy2.nz c1).ka (Or.inr ⟨(hy2.nz c1).1, rfl⟩) (fun r6 => ?_)
          refine j_astoreQ_n (lv' := [(2, rv g (gP A y2 0)), (1, vI x1)]) dX4_placeAt_36 rfl (by decide) (by first | rfl | (simp only [List.all_cons, List.all_nil, rv_cat]; rfl)) rfl ?_
          refine j_goto (tgt := 5) dX4_placeAt_37 (by decide) ?_
          exact j_sub [1, 0] rfl (ih (gP A y2 0) r6 h)
        · rw [if_neg c5] at h
          refine j_icmp_lt_f hx1 r4 dX4_placeAt_27 (tgt := 32) (by decide) c5 ?_
          refine j_iconst dX4_placeAt_30 ?_
          cases h
          exact j_iret dX4_placeAt_31 rfl rfl rfl (inR_lit _ rfl)
      · rw [if_neg c3] at h
        refine j_icmp_lt_f hx1 r2 dX4_placeAt_14 (tgt := 22) (by decide) c3 ?_
        refine j_aloadQ_n (j := 1) dX4_placeAt_17 rfl rfl ?_
        refine j_unrv c1 ?_
        refine j_getI FX4_36 rfl dX4_placeAt_18 (hy2.nz c1).pos (hy2.nz c1).lt (hy2.nz c1).ka (fun r7 => ?_)
        cases h
        exact j_iret dX4_placeAt_21 rfl rfl rfl r7
set_option maxRecDepth 100000 in
theorem tX4_placeAt_0 {g : JG} {l : Launch} {d N n0 s0 : Nat} {out : Int} {A : AH} {y0 : Nat} {x1 : Int} (hl : l.stackTraces = false) (hd : 1 ≤ d) (hy0 : VK 4 y0) (hx1 : inR x1) (h : fX4_placeAt N A y0 x1 = some out) : J g l d RX4 "placeAt" cX4_placeAt 3 (some .int) n0 s0 ((0, some (vI out), A) : JO) (inR out) 0 [(0, .ref (gB g + y0)), (1, vI x1)] [] A := by
  unfold fX4_placeAt at h
  refine j_aload_n (j := 0) dX4_placeAt_0 rfl rfl ?_
  refine j_getQ FX4_18 rfl dX4_placeAt_1 hy0.1 hy0.lt hy0.ka (Or.inl ⟨hy0.2.2, rfl, hy0.2.1⟩) (fun r1 => ?_)
  refine j_astoreQ_n (lv' := [(2, rv g (gP A y0 2)), (0, .ref (gB g + y0)), (1, vI x1)]) dX4_placeAt_4 rfl (by decide) (by first | rfl | (simp only [List.all_cons, List.all_nil, rv_cat]; rfl)) rfl ?_
  exact j_sub [2, 0] rfl (tX4_placeAt_5 hl (by omega) hx1  N (gP A y0 2) r1 h)
theorem ctX4_placeAt {g : JG} {l : Launch} {d N : Nat} {A : AH} {out : Int} {y0 : Nat} {x1 : Int} (hl : l.stackTraces = false) (hd : 1 ≤ d) (hy0 : VK 4 y0) (hx1 : inR x1) (h : fX4_placeAt N A y0 x1 = some out) : CT g l yX4_placeAt cX4_placeAt 3 (some .int) d [.ref (gB g + y0), vI x1] A ((0, some (vI out), A) : JO) (inR out) :=
  CT_of (by decide +kernel) hl (by first | exact Nat.le_of_ble_eq_true rfl | (unfold rv; split <;> exact Nat.le_of_ble_eq_true rfl)) (by first | rfl | (unfold rv; split <;> rfl)) (j_sub (lv := [(0, .ref (gB g + y0)), (1, vI x1)]) [0, 1] rfl (tX4_placeAt_0 hl hd hy0 hx1 h))
set_option maxRecDepth 100000 in
theorem tX4_placeHourByHour_46 {g : JG} {l : Launch} {d N n0 s0 : Nat} {out : Int} {A : AH} {y0 : Nat} {x1 : Int} {x2 : Int} {y3 : Nat} {x4 : Int} {k11 : Int → Nat → Int → Option (Int)} (hl : l.stackTraces = false) (hd : 2 ≤ d) (hy0 : VK 4 y0) (hx1 : inR x1) (hx2 : inR x2) (hy3 : LV A y3) (hx4 : inR x4) (hk11 : ∀ (x2 : Int) (y3 : Nat) (x4 : Int), inR x2 → LV A y3 → inR x4 → k11 x2 y3 x4 = some out → J g l d RX4 "placeHourByHour" cX4_placeHourByHour 5 (some .int) n0 s0 ((0, some (vI out), A) : JO) (inR out) 11 [(0, .ref (gB g + y0)), (1, vI x1), (2, vI x2), (3, rv g y3), (4, vI x4)] [] A) (h : fX4_placeHourByHour_46 N k11 A y0 x1 x2 y3 x4 = some out) : J g l d RX4 "placeHourByHour" cX4_placeHourByHour 5 (some .int) n0 s0 ((0, some (vI out), A) : JO) (inR out) 46 [(0, .ref (gB g + y0)), (1, vI x1), (2, vI x2), (3, rv g y3), (4, vI x4)] [] A := by
  unfold fX4_placeHourByHour_46 at h
  refine j_aloadQ_n (j := 3) dX4_placeHourByHour_46 rfl rfl ?_
  by_cases c1 : y3 = 0
  · rw [if_pos c1] at h
    refine j_ifnull_t dX4_placeHourByHour_47 (tgt := 61) (by decide) c1 ?_
    obtain ⟨u2, eu2, h⟩ := bnd_elim h
    have hu2 : inR u2 := by rw [eu2]; exact wrap_inR _
    refine j_iincN (k := 4) (lv' := [(4, vI u2), (0, .ref (gB g + y0)), (1, vI x1), (2, vI x2), (3, rv g y3)]) eu2 dX4_placeHourByHour_61 rfl (by decide) (by first | rfl | (simp only [List.all_cons, List.all_nil, rv_cat]; rfl)) rfl ?_
    refine j_goto (tgt := 11) dX4_placeHourByHour_64 (by decide) ?_
    exact j_sub [1, 2, 3, 4, 0] rfl (hk11 x2 y3 u2 hx2 hy3 hu2 h)
  · rw [if_neg c1] at h
    refine j_ifnull_f dX4_placeHourByHour_47 c1 ?_
    refine j_aloadQ_n (j := 3) dX4_placeHourByHour_50 rfl rfl ?_
    refine j_unrv c1 ?_
    refine j_getI FX4_45 rfl dX4_placeHourByHour_51 (hy3.nz c1).pos (hy3.nz c1).lt (hy3.nz c1).ka (fun r3 => ?_)
    refine j_iload (j := 4) dX4_placeHourByHour_54 rfl ?_
    by_cases c4 : (gI A y3 4) = x4
    · rw [if_pos c4] at h
      refine j_icmp_ne_f r3 hx4 dX4_placeHourByHour_56 (tgt := 61) (by decide) (fun q => q c4) ?_
      refine j_iconst dX4_placeHourByHour_59 ?_
      refine j_istore_n (lv' := [(2, vI (-1)), (0, .ref (gB g + y0)), (1, vI x1), (3, rv g y3), (4, vI x4)]) dX4_placeHourByHour_60 rfl (by decide) (by first | rfl | (simp only [List.all_cons, List.all_nil, rv_cat]; rfl)) rfl ?_
      obtain ⟨u6, eu6, h⟩ := bnd_elim h
      have hu6 : inR u6 := by rw [eu6]; exact wrap_inR _
      refine j_iincN (k := 4) (lv' := [(4, vI u6), (2, vI (-1)), (0, .ref (gB g + y0)), (1, vI x1), (3, rv g y3)]) eu6 dX4_placeHourByHour_61 rfl (by decide) (by first | rfl | (simp only [List.all_cons, List.all_nil, rv_cat]; rfl)) rfl ?_
      refine j_goto (tgt := 11) dX4_placeHourByHour_64 (by decide) ?_
      exact j_sub [2, 3, 1, 4, 0] rfl (hk11 (-1) y3 u6 (inR_lit _ rfl) hy3 hu6 h)
    · rw [if_neg c4] at h
      refine j_icmp_ne_t r3 hx4 dX4_placeHourByHour_56 (tgt := 61) (by decide) c4 ?_
      obtain ⟨u5, eu5, h⟩ := bnd_elim h
      have hu5 : inR u5 := by rw [eu5]; exact wrap_inR _
      refine j_iincN (k := 4) (lv' := [(4, vI u5), (0, .ref (gB g + y0)), (1, vI x1), (2, vI x2), (3, rv g y3)]) eu5 dX4_placeHourByHour_61 rfl (by decide) (by first | rfl | (simp only [List.all_cons, List.all_nil, rv_cat]; rfl)) rfl ?_
      refine j_goto (tgt := 11) dX4_placeHourByHour_64 (by decide) ?_
      exact j_sub [1, 2, 3, 4, 0] rfl (hk11 x2 y3 u5 hx2 hy3 hu5 h)
set_option maxRecDepth 100000 in
theorem tX4_placeHourByHour_11 {g : JG} {l : Launch} {d N n0 s0 : Nat} {out : Int} {A : AH} {y0 : Nat} {x1 : Int} (hl : l.stackTraces = false) (hd : 2 ≤ d) (hy0 : VK 4 y0) (hx1 : inR x1) : ∀ (n : Nat) (x2 : Int) (y3 : Nat) (x4 : Int), inR x2 → LV A y3 → inR x4 → fX4_placeHourByHour_11 N A y0 x1 n x2 y3 x4 = some out → J g l d RX4 "placeHourByHour" cX4_placeHourByHour 5 (some .int) n0 s0 ((0, some (vI out), A) : JO) (inR out) 11 [(0, .ref (gB g + y0)), (1, vI x1), (2, vI x2), (3, rv g y3), (4, vI x4)] [] A := by
  intro n
  induction n with
  | zero =>
    intro x2 y3 x4 hx2 hy3 hx4 h
    rw [fX4_placeHourByHour_11] at h
    cases h
  | succ n ih =>
    intro x2 y3 x4 hx2 hy3 hx4 h
    rw [fX4_placeHourByHour_11] at h
    refine j_iload (j := 4) dX4_placeHourByHour_11 rfl ?_
    refine j_iload_n (j := 1) dX4_placeHourByHour_13 rfl rfl ?_
    by_cases c1 : x1 < x4
    · rw [if_pos c1] at h
      refine j_icmp_gt_t hx4 hx1 dX4_placeHourByHour_14 (tgt := 67) (by decide) c1 ?_
      refine j_iload_n (j := 2) dX4_placeHourByHour_67 rfl rfl ?_
      cases h
      exact j_iret dX4_placeHourByHour_68 rfl rfl rfl hx2
    · rw [if_neg c1] at h
      refine j_icmp_gt_f hx4 hx1 dX4_placeHourByHour_14 (tgt := 67) (by decide) c1 ?_
      refine j_aloadQ_n (j := 3) dX4_placeHourByHour_17 rfl rfl ?_
      by_cases c2 : y3 = 0
      · rw [if_pos c2] at h
        refine j_ifnull_t dX4_placeHourByHour_18 (tgt := 46) (by decide) c2 ?_
        exact j_sub [0, 1, 2, 3, 4] rfl (tX4_placeHourByHour_46 hl (by omega) hy0 hx1 hx2 hy3 hx4 ih h)
      · rw [if_neg c2] at h
        refine j_ifnull_f dX4_placeHourByHour_18 c2 ?_
        refine j_aloadQ_n (j := 3) dX4_placeHourByHour_21 rfl rfl ?_
        refine j_unrv c2 ?_
        refine j_getI FX4_33 rfl dX4_placeHourByHour_22 (hy3.nz c2).pos (hy3.nz c2).lt (hy3.nz c2).ka (fun r3 => ?_)
        refine j_iload (j := 4) dX4_placeHourByHour_25 rfl ?_
        by_cases c4 : (gI A y3 5) = x4
        · rw [if_pos c4] at h
          refine j_icmp_ne_f r3 hx4 dX4_placeHourByHour_27 (tgt := 46) (by decide) (fun q => q c4) ?_
          refine j_aloadQ_n (j := 3) dX4_placeHourByHour_30 rfl rfl ?_
          refine j_unrv c2 ?_
          refine j_getI FX4_36 rfl dX4_placeHourByHour_31 (hy3.nz c2).pos (hy3.nz c2).lt (hy3.nz c2).ka (fun r5 => ?_)
          obtain ⟨u6, eu6, h⟩ := bnd_elim h
          have hu6 : inR u6 := by rw [eu6]; exact r5
          refine j_nm eu6 ?_
          refine j_istore_n (lv' := [(2, vI u6), (0, .ref (gB g + y0)), (1, vI x1), (3, rv g y3), (4, vI x4)]) dX4_placeHourByHour_34 rfl (by decide) (by first | rfl | (simp only [List.all_cons, List.all_nil, rv_cat]; rfl)) rfl ?_
          refine j_aload_n (j := 1) dX4_placeHourByHour_35 rfl rfl ?_
          refine j_aloadQ_n (j := 3) dX4_placeHourByHour_36 rfl rfl ?_
          refine j_unrv c2 ?_
          refine j_getI FX4_30 rfl dX4_placeHourByHour_37 (hy3.nz c2).pos (hy3.nz c2).lt (hy3.nz c2).ka (fun r7 => ?_)
          refine j_iconst dX4_placeHourByHour_40 ?_
          refine j_iadd dX4_placeHourByHour_41 ?_
          obtain ⟨z9, e8, h⟩ := obind_elim h
          refine j_callV MX4_54 YX4_legAt IX4_legAt SX4_legAt (by decide) rfl (by decide) (by omega) (Nat.le_of_ble_eq_true rfl) rfl (ctX4_legAt (d := d - 1) hl (by omega) hy0 (wrap_inR _) e8) dX4_placeHourByHour_42 hy0.1 hy0.lt hy0.ka rfl (fun z10 _ => ?_)
          refine j_astoreQ_n (lv' := [(3, rv g z9), (2, vI u6), (0, .ref (gB g + y0)), (1, vI x1), (4, vI x4)]) dX4_placeHourByHour_45 rfl (by decide) (by first | rfl | (simp only [List.all_cons, List.all_nil, rv_cat]; rfl)) rfl ?_
          exact j_sub [2, 3, 1, 0, 4] rfl (tX4_placeHourByHour_46 hl (by omega) hy0 hx1 hu6 z10 hx4 ih h)
        · rw [if_neg c4] at h
          refine j_icmp_ne_t r3 hx4 dX4_placeHourByHour_27 (tgt := 46) (by decide) c4 ?_
          exact j_sub [0, 1, 2, 3, 4] rfl (tX4_placeHourByHour_46 hl (by omega) hy0 hx1 hx2 hy3 hx4 ih h)
set_option maxRecDepth 100000 in
theorem tX4_placeHourByHour_0 {g : JG} {l : Launch} {d N n0 s0 : Nat} {out : Int} {A : AH} {y0 : Nat} {x1 : Int} (hl : l.stackTraces = false) (hd : 2 ≤ d) (hy0 : VK 4 y0) (hx1 : inR x1) (h : fX4_placeHourByHour N A y0 x1 = some out) : J g l d RX4 "placeHourByHour" cX4_placeHourByHour 5 (some .int) n0 s0 ((0, some (vI out), A) : JO) (inR out) 0 [(0, .ref (gB g + y0)), (1, vI x1)] [] A := by
  unfold fX4_placeHourByHour at h
  refine j_iconst dX4_placeHourByHour_0 ?_
  refine j_istore_n (lv' := [(2, vI 0), (0, .ref (gB g + y0)), (1, vI x1)]) dX4_placeHourByHour_1 rfl (by decide) (by first | rfl | (simp only [List.all_cons, List.all_nil, rv_cat]; rfl)) rfl ?_
  refine j_aload_n (j := 1) dX4_placeHourByHour_2 rfl rfl ?_
  refine j_iconst dX4_placeHourByHour_3 ?_
  obtain ⟨z2, e1, h⟩ := obind_elim h
  refine j_callV MX4_54 YX4_legAt IX4_legAt SX4_legAt (by decide) rfl (by decide) (by omega) (Nat.le_of_ble_eq_true rfl) rfl (ctX4_legAt (d := d - 1) hl (by omega) hy0 (inR_lit _ rfl) e1) dX4_placeHourByHour_4 hy0.1 hy0.lt hy0.ka rfl (fun z3 _ => ?_)
  refine j_astoreQ_n (lv' := [(3, rv g z2), (2, vI 0), (0, .ref (gB g + y0)), (1, vI x1)]) dX4_placeHourByHour_7 rfl (by decide) (by first | rfl | (simp only [List.all_cons, List.all_nil, rv_cat]; rfl)) rfl ?_
  refine j_iconst dX4_placeHourByHour_8 ?_
  refine j_istore (lv' := [(4, vI 0), (3, rv g z2), (2, vI 0), (0, .ref (gB g + y0)), (1, vI x1)]) dX4_placeHourByHour_9 (by decide) (by first | rfl | (simp only [List.all_cons, List.all_nil, rv_cat]; rfl)) rfl ?_
  exact j_sub [3, 4, 2, 1, 0] rfl (tX4_placeHourByHour_11 hl (by omega) hy0 hx1  N 0 z2 0 (inR_lit _ rfl) z3 (inR_lit _ rfl) h)
theorem ctX4_placeHourByHour {g : JG} {l : Launch} {d N : Nat} {A : AH} {out : Int} {y0 : Nat} {x1 : Int} (hl : l.stackTraces = false) (hd : 2 ≤ d) (hy0 : VK 4 y0) (hx1 : inR x1) (h : fX4_placeHourByHour N A y0 x1 = some out) : CT g l yX4_placeHourByHour cX4_placeHourByHour 5 (some .int) d [.ref (gB g + y0), vI x1] A ((0, some (vI out), A) : JO) (inR out) :=
  CT_of (by decide +kernel) hl (by first | exact Nat.le_of_ble_eq_true rfl | (unfold rv; split <;> exact Nat.le_of_ble_eq_true rfl)) (by first | rfl | (unfold rv; split <;> rfl)) (j_sub (lv := [(0, .ref (gB g + y0)), (1, vI x1)]) [0, 1] rfl (tX4_placeHourByHour_0 hl hd hy0 hx1 h))
