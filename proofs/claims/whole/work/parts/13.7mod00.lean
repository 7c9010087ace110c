set_option maxRecDepth 100000 in
theorem tX9_thrown_0 {g : JG} {l : Launch} {d N n0 s0 : Nat} {out : Int} {A : AH} (hl : l.stackTraces = false) (hd : 1 ≤ d) (h : fX9_thrown N A  = some out) : J g l d RX9 "thrown" cX9_thrown 1 (some .int) n0 s0 ((0, some (vI out), A) : JO) (inR out) 0 [(0, .ref (gB g + 349))] [] A := by
  unfold fX9_thrown at h
  refine j_aload_n (j := 0) dX9_thrown_0 rfl rfl ?_
  refine j_getI FX9_87 rfl dX9_thrown_1 (VK_c 9 349 rfl).1 (VK_c 9 349 rfl).lt (VK_c 9 349 rfl).ka (fun r1 => ?_)
  cases h
  exact j_iret dX9_thrown_4 rfl rfl rfl r1
theorem ctX9_thrown {g : JG} {l : Launch} {d N : Nat} {A : AH} {out : Int} (hl : l.stackTraces = false) (hd : 1 ≤ d) (h : fX9_thrown N A  = some out) : CT g l yX9_thrown cX9_thrown 1 (some .int) d [.ref (gB g + 349)] A ((0, some (vI out), A) : JO) (inR out) :=
  CT_of (by decide +kernel) hl (by first | exact Nat.le_of_ble_eq_true rfl | (unfold rv; split <;> exact Nat.le_of_ble_eq_true rfl)) (by first | rfl | (unfold rv; split <;> rfl)) (j_sub (lv := [(0, .ref (gB g + 349))]) [0] rfl (tX9_thrown_0 hl hd  h))
set_option maxRecDepth 100000 in
theorem tX9_fails_0 {g : JG} {l : Launch} {d N n0 s0 : Nat} {out : Int × AH} {A : AH} {x1 : Int} (hl : l.stackTraces = false) (hd : 1 ≤ d) (hx1 : inR x1) (h : fX9_fails N A x1 = some out) : J g l d RX9 "fails" cX9_fails 2 (some .int) n0 s0 ((0, some (vI out.1), out.2) : JO) (inR out.1) 0 [(0, .ref (gB g + 349)), (1, vI x1)] [] A := by
  unfold fX9_fails at h
  refine j_aload_n (j := 0) dX9_fails_0 rfl rfl ?_
  refine j_iload_n (j := 1) dX9_fails_1 rfl rfl ?_
  obtain ⟨A1, eA1, h⟩ := bnd_elim h
  have xA1 : XT A A1 := by rw [eA1]; exact XT_sI _ _ _ _
  refine j_putI FX9_87 rfl rfl rfl hx1 dX9_fails_2 (VK_c 9 349 rfl).1 (VK_c 9 349 rfl).lt (VK_c 9 349 rfl).ka ?_
  refine j_hB eA1 ?_
  refine j_iconst dX9_fails_5 ?_
  cases h
  exact j_iret dX9_fails_6 rfl rfl rfl (inR_lit _ rfl)
theorem ctX9_fails {g : JG} {l : Launch} {d N : Nat} {A : AH} {out : Int × AH} {x1 : Int} (hl : l.stackTraces = false) (hd : 1 ≤ d) (hx1 : inR x1) (h : fX9_fails N A x1 = some out) : CT g l yX9_fails cX9_fails 2 (some .int) d [.ref (gB g + 349), vI x1] A ((0, some (vI out.1), out.2) : JO) (inR out.1) :=
  CT_of (by decide +kernel) hl (by first | exact Nat.le_of_ble_eq_true rfl | (unfold rv; split <;> exact Nat.le_of_ble_eq_true rfl)) (by first | rfl | (unfold rv; split <;> rfl)) (j_sub (lv := [(0, .ref (gB g + 349)), (1, vI x1)]) [0, 1] rfl (tX9_fails_0 hl hd hx1 h))
set_option maxRecDepth 100000 in
theorem tX9_isBetween_0 {g : JG} {l : Launch} {d N n0 s0 : Nat} {out : Int} {A : AH} {x0 : Int} {x1 : Int} {x2 : Int} (hl : l.stackTraces = false) (hd : 1 ≤ d) (hx0 : inR x0) (hx1 : inR x1) (hx2 : inR x2) (h : fX9_isBetween N A x0 x1 x2 = some out) : J g l d RX9 "isBetween" cX9_isBetween 3 (some .boolean) n0 s0 ((0, some (vI out), A) : JO) ((out = 0 ∨ out = 1)) 0 [(0, vI x0), (1, vI x1), (2, vI x2)] [] A := by
  unfold fX9_isBetween at h
  refine j_iload_n (j := 0) dX9_isBetween_0 rfl rfl ?_
  refine j_iload_n (j := 1) dX9_isBetween_1 rfl rfl ?_
  by_cases c1 : x0 < x1
  · rw [if_pos c1] at h
    refine j_icmp_lt_t hx0 hx1 dX9_isBetween_2 (tgt := 14) (by decide) c1 ?_
    refine j_iconst dX9_isBetween_14 ?_
    cases h
    exact j_iret dX9_isBetween_15 rfl ((nar_bool (Or.inl rfl)).1) rfl (Or.inl rfl)
  · rw [if_neg c1] at h
    refine j_icmp_lt_f hx0 hx1 dX9_isBetween_2 (tgt := 14) (by decide) c1 ?_
    refine j_iload_n (j := 0) dX9_isBetween_5 rfl rfl ?_
    refine j_iload_n (j := 2) dX9_isBetween_6 rfl rfl ?_
    by_cases c2 : x2 < x0
    · rw [if_pos c2] at h
      refine j_icmp_gt_t hx0 hx2 dX9_isBetween_7 (tgt := 14) (by decide) c2 ?_
      refine j_iconst dX9_isBetween_14 ?_
      cases h
      exact j_iret dX9_isBetween_15 rfl ((nar_bool (Or.inl rfl)).1) rfl (Or.inl rfl)
    · rw [if_neg c2] at h
      refine j_icmp_gt_f hx0 hx2 dX9_isBetween_7 (tgt := 14) (by decide) c2 ?_
      refine j_iconst dX9_isBetween_10 ?_
      refine j_goto (tgt := 15) dX9_isBetween_11 (by decide) ?_
      cases h
      exact j_iret dX9_isBetween_15 rfl ((nar_bool (Or.inr rfl)).1) rfl (Or.inr rfl)
theorem ctX9_isBetween {g : JG} {l : Launch} {d N : Nat} {A : AH} {out : Int} {x0 : Int} {x1 : Int} {x2 : Int} (hl : l.stackTraces = false) (hd : 1 ≤ d) (hx0 : inR x0) (hx1 : inR x1) (hx2 : inR x2) (h : fX9_isBetween N A x0 x1 x2 = some out) : CT g l yX9_isBetween cX9_isBetween 3 (some .boolean) d [vI x0, vI x1, vI x2] A ((0, some (vI out), A) : JO) ((out = 0 ∨ out = 1)) :=
  CT_of (by decide +kernel) hl (by first | exact Nat.le_of_ble_eq_true rfl | (unfold rv; split <;> exact Nat.le_of_ble_eq_true rfl)) (by first | rfl | (unfold rv; split <;> rfl)) (j_sub (lv := [(0, vI x0), (1, vI x1), (2, vI x2)]) [0, 1, 2] rfl (tX9_isBetween_0 hl hd hx0 hx1 hx2 h))
set_option maxRecDepth 100000 in
theorem tX9_isHour_0 {g : JG} {l : Launch} {d N n0 s0 : Nat} {out : Int} {A : AH} {x0 : Int} (hl : l.stackTraces = false) (hd : 2 ≤ d) (hx0 : inR x0) (h : fX9_isHour N A x0 = some out) : J g l d RX9 "isHour" cX9_isHour 1 (some .boolean) n0 s0 ((0, some (vI out), A) : JO) ((out = 0 ∨ out = 1)) 0 [(0, vI x0)] [] A := by
  unfold fX9_isHour at h
  refine j_iload_n (j := 0) dX9_isHour_0 rfl rfl ?_
  refine j_iconst dX9_isHour_1 ?_
  refine j_sipush dX9_isHour_2 rfl ?_
  obtain ⟨z2, e1, h⟩ := obind_elim h
  refine j_callS MX9_90 YX9_isBetween IX9_isBetween (by decide) (by omega) (Nat.le_of_ble_eq_true rfl) rfl (ctX9_isBetween (d := d - 1) hl (by omega) hx0 (inR_lit _ rfl) (inR_lit _ rfl) e1) dX9_isHour_5 rfl (fun z3 _ => ?_)
  cases h
  exact j_iret dX9_isHour_8 rfl ((nar_bool z3).1) rfl z3
theorem ctX9_isHour {g : JG} {l : Launch} {d N : Nat} {A : AH} {out : Int} {x0 : Int} (hl : l.stackTraces = false) (hd : 2 ≤ d) (hx0 : inR x0) (h : fX9_isHour N A x0 = some out) : CT g l yX9_isHour cX9_isHour 1 (some .boolean) d [vI x0] A ((0, some (vI out), A) : JO) ((out = 0 ∨ out = 1)) :=
  CT_of (by decide +kernel) hl (by first | exact Nat.le_of_ble_eq_true rfl | (unfold rv; split <;> exact Nat.le_of_ble_eq_true rfl)) (by first | rfl | (unfold rv; split <;> rfl)) (j_sub (lv := [(0, vI x0)]) [0] rfl (tX9_isHour_0 hl hd hx0 h))
set_option maxRecDepth 100000 in
theorem tX9_bits_4 {g : JG} {l : Launch} {d N n0 s0 : Nat} {out : Int} {A : AH} {x0 : Int} (hl : l.stackTraces = false) (hd : 1 ≤ d) (hx0 : inR x0) : ∀ (n : Nat) (x1 : Int) (x2 : Int), inR x1 → inR x2 → fX9_bits_4 N A x0 n x1 x2 = some out → J g l d RX9 "bits" cX9_bits 3 (some .int) n0 s0 ((0, some (vI out), A) : JO) (inR out) 4 [(0, vI x0), (1, vI x1), (2, vI x2)] [] A := by
  intro n
  induction n with
  | zero =>
    intro x1 x2 hx1 hx2 h
    rw [fX9_bits_4] at h
    cases h
  | succ n ih =>
    intro x1 x2 hx1 hx2 h
    rw [fX9_bits_4] at h
    refine j_iload_n (j := 2) dX9_bits_4 rfl rfl ?_
    refine j_bipush dX9_bits_5 rfl ?_
    by_cases c1 : 6 ≤ x2
    · rw [if_pos c1] at h
      refine j_icmp_ge_t hx2 (inR_lit _ rfl) dX9_bits_7 (tgt := 24) (by decide) c1 ?_
      refine j_iload_n (j := 1) dX9_bits_24 rfl rfl ?_
      cases h
      exact j_iret dX9_bits_25 rfl rfl rfl hx1
    · rw [if_neg c1] at h
      refine j_icmp_ge_f hx2 (inR_lit _ rfl) dX9_bits_7 (tgt := 24) (by decide) c1 ?_
      refine j_iload_n (j := 1) dX9_bits_10 rfl rfl ?_
      refine j_iload_n (j := 0) dX9_bits_11 rfl rfl ?_
      refine j_iload_n (j := 2) dX9_bits_12 rfl rfl ?_
      refine j_ishr dX9_bits_13 ?_
      refine j_iconst dX9_bits_14 ?_
      refine j_iand dX9_bits_15 ?_
      refine j_iadd dX9_bits_16 ?_
      obtain ⟨u2, eu2, h⟩ := bnd_elim h
      have hu2 : inR u2 := by rw [eu2]; exact (wrap_inR _)
      refine j_nm eu2 ?_
      refine j_istore_n (lv' := [(1, vI u2), (0, vI x0), (2, vI x2)]) dX9_bits_17 rfl (by decide) (by first | rfl | (simp only [List.all_cons, List.all_nil, rv_cat]; rfl)) rfl ?_
      obtain ⟨u3, eu3, h⟩ := bnd_elim h
      have hu3 : inR u3 := by rw [eu3]; exact wrap_inR _
      refine j_iincN (k := 2) (lv' := [(2, vI u3), (1, vI u2), (0, vI x0)]) eu3 dX9_bits_18 rfl (by decide) (by first | rfl | (simp only [List.all_cons, List.all_nil, rv_cat]; rfl)) rfl ?_
      refine j_goto (tgt := 4) dX9_bits_21 (by decide) ?_
      exact j_sub [2, 1, 0] rfl (ih u2 u3 hu2 hu3 h)
set_option maxRecDepth 100000 in
theorem tX9_bits_0 {g : JG} {l : Launch} {d N n0 s0 : Nat} {out : Int} {A : AH} {x0 : Int} (hl : l.stackTraces = false) (hd : 1 ≤ d) (hx0 : inR x0) (h : fX9_bits N A x0 = some out) : J g l d RX9 "bits" cX9_bits 3 (some .int) n0 s0 ((0, some (vI out), A) : JO) (inR out) 0 [(0, vI x0)] [] A := by
  unfold fX9_bits at h
  refine j_iconst dX9_bits_0 ?_
  refine j_istore_n (lv' := [(1, vI 0), (0, vI x0)]) dX9_bits_1 rfl (by decide) (by first | rfl | (simp only [List.all_cons, List.all_nil, rv_cat]; rfl)) rfl ?_
  refine j_iconst dX9_bits_2 ?_
  refine j_istore_n (lv' := [(2, vI 0), (1, vI 0), (0, vI x0)]) dX9_bits_3 rfl (by decide) (by first | rfl | (simp only [List.all_cons, List.all_nil, rv_cat]; rfl)) rfl ?_
  exact j_sub [2, 1, 0] rfl (tX9_bits_4 hl (by omega) hx0  N 0 0 (inR_lit _ rfl) (inR_lit _ rfl) h)
theorem ctX9_bits {g : JG} {l : Launch} {d N : Nat} {A : AH} {out : Int} {x0 : Int} (hl : l.stackTraces = false) (hd : 1 ≤ d) (hx0 : inR x0) (h : fX9_bits N A x0 = some out) : CT g l yX9_bits cX9_bits 3 (some .int) d [vI x0] A ((0, some (vI out), A) : JO) (inR out) :=
  CT_of (by decide +kernel) hl (by first | exact Nat.le_of_ble_eq_true rfl | (unfold rv; split <;> exact Nat.le_of_ble_eq_true rfl)) (by first | rfl | (unfold rv; split <;> rfl)) (j_sub (lv := [(0, vI x0)]) [0] rfl (tX9_bits_0 hl hd hx0 h))
set_option maxRecDepth 100000 in
theorem tX9_isPilot_0 {g : JG} {l : Launch} {d N n0 s0 : Nat} {out : Int} {A : AH} {x1 : Int} (hl : l.stackTraces = false) (hd : 1 ≤ d) (hx1 : inR x1) (h : fX9_isPilot N A x1 = some out) : J g l d RX9 "isPilot" cX9_isPilot 2 (some .boolean) n0 s0 ((0, some (vI out), A) : JO) ((out = 0 ∨ out = 1)) 0 [(0, .ref (gB g + 349)), (1, vI x1)] [] A := by
  unfold fX9_isPilot at h
  refine j_iload_n (j := 1) dX9_isPilot_0 rfl rfl ?_
  by_cases c1 : x1 < 0
  · rw [if_pos c1] at h
    refine j_if_lt_t hx1 dX9_isPilot_1 (tgt := 16) (by decide) c1 ?_
    refine j_iconst dX9_isPilot_16 ?_
    cases h
    exact j_iret dX9_isPilot_17 rfl ((nar_bool (Or.inl rfl)).1) rfl (Or.inl rfl)
  · rw [if_neg c1] at h
    refine j_if_lt_f hx1 dX9_isPilot_1 (tgt := 16) (by decide) c1 ?_
    refine j_iload_n (j := 1) dX9_isPilot_4 rfl rfl ?_
    refine j_aload_n (j := 0) dX9_isPilot_5 rfl rfl ?_
    refine j_getI FX9_94 rfl dX9_isPilot_6 (VK_c 9 349 rfl).1 (VK_c 9 349 rfl).lt (VK_c 9 349 rfl).ka (fun r2 => ?_)
    by_cases c3 : (gI A 349 20) ≤ x1
    · rw [if_pos c3] at h
      refine j_icmp_ge_t hx1 r2 dX9_isPilot_9 (tgt := 16) (by decide) c3 ?_
      refine j_iconst dX9_isPilot_16 ?_
      cases h
      exact j_iret dX9_isPilot_17 rfl ((nar_bool (Or.inl rfl)).1) rfl (Or.inl rfl)
    · rw [if_neg c3] at h
      refine j_icmp_ge_f hx1 r2 dX9_isPilot_9 (tgt := 16) (by decide) c3 ?_
      refine j_iconst dX9_isPilot_12 ?_
      refine j_goto (tgt := 17) dX9_isPilot_13 (by decide) ?_
      cases h
      exact j_iret dX9_isPilot_17 rfl ((nar_bool (Or.inr rfl)).1) rfl (Or.inr rfl)
theorem ctX9_isPilot {g : JG} {l : Launch} {d N : Nat} {A : AH} {out : Int} {x1 : Int} (hl : l.stackTraces = false) (hd : 1 ≤ d) (hx1 : inR x1) (h : fX9_isPilot N A x1 = some out) : CT g l yX9_isPilot cX9_isPilot 2 (some .boolean) d [.ref (gB g + 349), vI x1] A ((0, some (vI out), A) : JO) ((out = 0 ∨ out = 1)) :=
  CT_of (by decide +kernel) hl (by first | exact Nat.le_of_ble_eq_true rfl | (unfold rv; split <;> exact Nat.le_of_ble_eq_true rfl)) (by first | rfl | (unfold rv; split <;> rfl)) (j_sub (lv := [(0, .ref (gB g + 349)), (1, vI x1)]) [0, 1] rfl (tX9_isPilot_0 hl hd hx1 h))
set_option maxRecDepth 100000 in
theorem tX9_isBoat_0 {g : JG} {l : Launch} {d N n0 s0 : Nat} {out : Int} {A : AH} {x1 : Int} (hl : l.stackTraces = false) (hd : 1 ≤ d) (hx1 : inR x1) (h : fX9_isBoat N A x1 = some out) : J g l d RX9 "isBoat" cX9_isBoat 2 (some .boolean) n0 s0 ((0, some (vI out), A) : JO) ((out = 0 ∨ out = 1)) 0 [(0, .ref (gB g + 349)), (1, vI x1)] [] A := by
  unfold fX9_isBoat at h
  refine j_iload_n (j := 1) dX9_isBoat_0 rfl rfl ?_
  by_cases c1 : x1 < 0
  · rw [if_pos c1] at h
    refine j_if_lt_t hx1 dX9_isBoat_1 (tgt := 16) (by decide) c1 ?_
    refine j_iconst dX9_isBoat_16 ?_
    cases h
    exact j_iret dX9_isBoat_17 rfl ((nar_bool (Or.inl rfl)).1) rfl (Or.inl rfl)
  · rw [if_neg c1] at h
    refine j_if_lt_f hx1 dX9_isBoat_1 (tgt := 16) (by decide) c1 ?_
    refine j_iload_n (j := 1) dX9_isBoat_4 rfl rfl ?_
    refine j_aload_n (j := 0) dX9_isBoat_5 rfl rfl ?_
    refine j_getI FX9_97 rfl dX9_isBoat_6 (VK_c 9 349 rfl).1 (VK_c 9 349 rfl).lt (VK_c 9 349 rfl).ka (fun r2 => ?_)
    by_cases c3 : (gI A 349 21) ≤ x1
    · rw [if_pos c3] at h
      refine j_icmp_ge_t hx1 r2 dX9_isBoat_9 (tgt := 16) (by decide) c3 ?_
      refine j_iconst dX9_isBoat_16 ?_
      cases h
      exact j_iret dX9_isBoat_17 rfl ((nar_bool (Or.inl rfl)).1) rfl (Or.inl rfl)
    · rw [if_neg c3] at h
      refine j_icmp_ge_f hx1 r2 dX9_isBoat_9 (tgt := 16) (by decide) c3 ?_
      refine j_iconst dX9_isBoat_12 ?_
      refine j_goto (tgt := 17) dX9_isBoat_13 (by decide) ?_
      cases h
      exact j_iret dX9_isBoat_17 rfl ((nar_bool (Or.inr rfl)).1) rfl (Or.inr rfl)
theorem ctX9_isBoat {g : JG} {l : Launch} {d N : Nat} {A : AH} {out : Int} {x1 : Int} (hl : l.stackTraces = false) (hd : 1 ≤ d) (hx1 : inR x1) (h : fX9_isBoat N A x1 = some out) : CT g l yX9_isBoat cX9_isBoat 2 (some .boolean) d [.ref (gB g + 349), vI x1] A ((0, some (vI out), A) : JO) ((out = 0 ∨ out = 1)) :=
  CT_of (by decide +kernel) hl (by first | exact Nat.le_of_ble_eq_true rfl | (unfold rv; split <;> exact Nat.le_of_ble_eq_true rfl)) (by first | rfl | (unfold rv; split <;> rfl)) (j_sub (lv := [(0, .ref (gB g + 349)), (1, vI x1)]) [0, 1] rfl (tX9_isBoat_0 hl hd hx1 h))
set_option maxRecDepth 100000 in
theorem tX9_isOrder_0 {g : JG} {l : Launch} {d N n0 s0 : Nat} {out : Int} {A : AH} {x1 : Int} (hl : l.stackTraces = false) (hd : 1 ≤ d) (hx1 : inR x1) (h : fX9_isOrder N A x1 = some out) : J g l d RX9 "isOrder" cX9_isOrder 2 (some .boolean) n0 s0 ((0, some (vI out), A) : JO) ((out = 0 ∨ out = 1)) 0 [(0, .ref (gB g + 349)), (1, vI x1)] [] A := by
  unfold fX9_isOrder at h
  refine j_iload_n (j := 1) dX9_isOrder_0 rfl rfl ?_
  by_cases c1 : x1 < 0
  · rw [if_pos c1] at h
    refine j_if_lt_t hx1 dX9_isOrder_1 (tgt := 16) (by decide) c1 ?_
    refine j_iconst dX9_isOrder_16 ?_
    cases h
    exact j_iret dX9_isOrder_17 rfl ((nar_bool (Or.inl rfl)).1) rfl (Or.inl rfl)
  · rw [if_neg c1] at h
    refine j_if_lt_f hx1 dX9_isOrder_1 (tgt := 16) (by decide) c1 ?_
    refine j_iload_n (j := 1) dX9_isOrder_4 rfl rfl ?_
    refine j_aload_n (j := 0) dX9_isOrder_5 rfl rfl ?_
    refine j_getI FX9_100 rfl dX9_isOrder_6 (VK_c 9 349 rfl).1 (VK_c 9 349 rfl).lt (VK_c 9 349 rfl).ka (fun r2 => ?_)
    by_cases c3 : (gI A 349 22) ≤ x1
    · rw [if_pos c3] at h
      refine j_icmp_ge_t hx1 r2 dX9_isOrder_9 (tgt := 16) (by decide) c3 ?_
      refine j_iconst dX9_isOrder_16 ?_
      cases h
      exact j_iret dX9_isOrder_17 rfl ((nar_bool (Or.inl rfl)).1) rfl (Or.inl rfl)
    · rw [if_neg c3] at h
      refine j_icmp_ge_f hx1 r2 dX9_isOrder_9 (tgt := 16) (by decide) c3 ?_
      refine j_iconst dX9_isOrder_12 ?_
      refine j_goto (tgt := 17) dX9_isOrder_13 (by decide) ?_
      cases h
      exact j_iret dX9_isOrder_17 rfl ((nar_bool (Or.inr rfl)).1) rfl (Or.inr rfl)
theorem ctX9_isOrder {g : JG} {l : Launch} {d N : Nat} {A : AH} {out : Int} {x1 : Int} (hl : l.stackTraces = false) (hd : 1 ≤ d) (hx1 : inR x1) (h : fX9_isOrder N A x1 = some out) : CT g l yX9_isOrder cX9_isOrder 2 (some .boolean) d [.ref (gB g + 349), vI x1] A ((0, some (vI out), A) : JO) ((out = 0 ∨ out = 1)) :=
  CT_of (by decide +kernel) hl (by first | exact Nat.le_of_ble_eq_true rfl | (unfold rv; split <;> exact Nat.le_of_ble_eq_true rfl)) (by first | rfl | (unfold rv; split <;> rfl)) (j_sub (lv := [(0, .ref (gB g + 349)), (1, vI x1)]) [0, 1] rfl (tX9_isOrder_0 hl hd hx1 h))
set_option maxRecDepth 100000 in
theorem tX9_packed_0 {g : JG} {l : Launch} {d N n0 s0 : Nat} {out : Int} {A : AH} {x0 : Int} {x1 : Int} {x2 : Int} {x3 : Int} {x4 : Int} (hl : l.stackTraces = false) (hd : 1 ≤ d) (hx0 : inR x0) (hx1 : inR x1) (hx2 : inR x2) (hx3 : inR x3) (hx4 : inR x4) (h : fX9_packed N A x0 x1 x2 x3 x4 = some out) : J g l d RX9 "packed" cX9_packed 5 (some .int) n0 s0 ((0, some (vI out), A) : JO) (inR out) 0 [(0, vI x0), (1, vI x1), (2, vI x2), (3, vI x3), (4, vI x4)] [] A := by
  unfold fX9_packed at h
  refine j_iload_n (j := 0) dX9_packed_0 rfl rfl ?_
  refine j_iload_n (j := 1) dX9_packed_1 rfl rfl ?_
  refine j_bipush dX9_packed_2 rfl ?_
  refine j_ishl dX9_packed_4 ?_
  refine j_ior dX9_packed_5 ?_
  refine j_iload_n (j := 2) dX9_packed_6 rfl rfl ?_
  refine j_bipush dX9_packed_7 rfl ?_
  refine j_ishl dX9_packed_9 ?_
  refine j_ior dX9_packed_10 ?_
  refine j_iload_n (j := 3) dX9_packed_11 rfl rfl ?_
  refine j_bipush dX9_packed_12 rfl ?_
  refine j_ishl dX9_packed_14 ?_
  refine j_ior dX9_packed_15 ?_
  refine j_iload (j := 4) dX9_packed_16 rfl ?_
  refine j_bipush dX9_packed_18 rfl ?_
  refine j_ishl dX9_packed_20 ?_
  refine j_ior dX9_packed_21 ?_
  cases h
  exact j_iret dX9_packed_22 rfl rfl rfl (iOr_inR _ _)
theorem ctX9_packed {g : JG} {l : Launch} {d N : Nat} {A : AH} {out : Int} {x0 : Int} {x1 : Int} {x2 : Int} {x3 : Int} {x4 : Int} (hl : l.stackTraces = false) (hd : 1 ≤ d) (hx0 : inR x0) (hx1 : inR x1) (hx2 : inR x2) (hx3 : inR x3) (hx4 : inR x4) (h : fX9_packed N A x0 x1 x2 x3 x4 = some out) : CT g l yX9_packed cX9_packed 5 (some .int) d [vI x0, vI x1, vI x2, vI x3, vI x4] A ((0, some (vI out), A) : JO) (inR out) :=
  CT_of (by decide +kernel) hl (by first | exact Nat.le_of_ble_eq_true rfl | (unfold rv; split <;> exact Nat.le_of_ble_eq_true rfl)) (by first | rfl | (unfold rv; split <;> rfl)) (j_sub (lv := [(0, vI x0), (1, vI x1), (2, vI x2), (3, vI x3), (4, vI x4)]) [0, 1, 2, 3, 4] rfl (tX9_packed_0 hl hd hx0 hx1 hx2 hx3 hx4 h))
set_option maxRecDepth 100000 in
theorem tX9_hourOf_0 {g : JG} {l : Launch} {d N n0 s0 : Nat} {out : Int} {A : AH} {x0 : Int} (hl : l.stackTraces = false) (hd : 1 ≤ d) (hx0 : inR x0) (h : fX9_hourOf N A x0 = some out) : J g l d RX9 "hourOf" cX9_hourOf 1 (some .int) n0 s0 ((0, some (vI out), A) : JO) (inR out) 0 [(0, vI x0)] [] A := by
  unfold fX9_hourOf at h
  refine j_iload_n (j := 0) dX9_hourOf_0 rfl rfl ?_
  refine j_sipush dX9_hourOf_1 rfl ?_
  refine j_iand dX9_hourOf_4 ?_
  cases h
  exact j_iret dX9_hourOf_5 rfl rfl rfl (iAnd_inR _ _)
theorem ctX9_hourOf {g : JG} {l : Launch} {d N : Nat} {A : AH} {out : Int} {x0 : Int} (hl : l.stackTraces = false) (hd : 1 ≤ d) (hx0 : inR x0) (h : fX9_hourOf N A x0 = some out) : CT g l yX9_hourOf cX9_hourOf 1 (some .int) d [vI x0] A ((0, some (vI out), A) : JO) (inR out) :=
  CT_of (by decide +kernel) hl (by first | exact Nat.le_of_ble_eq_true rfl | (unfold rv; split <;> exact Nat.le_of_ble_eq_true rfl)) (by first | rfl | (unfold rv; split <;> rfl)) (j_sub (lv := [(0, vI x0)]) [0] rfl (tX9_hourOf_0 hl hd hx0 h))
set_option maxRecDepth 100000 in
theorem tX9_endOf_0 {g : JG} {l : Launch} {d N n0 s0 : Nat} {out : Int} {A : AH} {x0 : Int} (hl : l.stackTraces = false) (hd : 1 ≤ d) (hx0 : inR x0) (h : fX9_endOf N A x0 = some out) : J g l d RX9 "endOf" cX9_endOf 1 (some .int) n0 s0 ((0, some (vI out), A) : JO) (inR out) 0 [(0, vI x0)] [] A := by
  unfold fX9_endOf at h
  refine j_iload_n (j := 0) dX9_endOf_0 rfl rfl ?_
  refine j_sipush dX9_endOf_1 rfl ?_
  refine j_iand dX9_endOf_4 ?_
  refine j_iload_n (j := 0) dX9_endOf_5 rfl rfl ?_
  refine j_bipush dX9_endOf_6 rfl ?_
  refine j_ishr dX9_endOf_8 ?_
  refine j_bipush dX9_endOf_9 rfl ?_
  refine j_iand dX9_endOf_11 ?_
  refine j_iadd dX9_endOf_12 ?_
  cases h
  exact j_iret dX9_endOf_13 rfl rfl rfl (wrap_inR _)
theorem ctX9_endOf {g : JG} {l : Launch} {d N : Nat} {A : AH} {out : Int} {x0 : Int} (hl : l.stackTraces = false) (hd : 1 ≤ d) (hx0 : inR x0) (h : fX9_endOf N A x0 = some out) : CT g l yX9_endOf cX9_endOf 1 (some .int) d [vI x0] A ((0, some (vI out), A) : JO) (inR out) :=
  CT_of (by decide +kernel) hl (by first | exact Nat.le_of_ble_eq_true rfl | (unfold rv; split <;> exact Nat.le_of_ble_eq_true rfl)) (by first | rfl | (unfold rv; split <;> rfl)) (j_sub (lv := [(0, vI x0)]) [0] rfl (tX9_endOf_0 hl hd hx0 h))
set_option maxRecDepth 100000 in
theorem tX9_has_0 {g : JG} {l : Launch} {d N n0 s0 : Nat} {out : Int} {A : AH} {x0 : Int} {x1 : Int} (hl : l.stackTraces = false) (hd : 1 ≤ d) (hx0 : inR x0) (hx1 : inR x1) (h : fX9_has N A x0 x1 = some out) : J g l d RX9 "has" cX9_has 2 (some .boolean) n0 s0 ((0, some (vI out), A) : JO) ((out = 0 ∨ out = 1)) 0 [(0, vI x0), (1, vI x1)] [] A := by
  unfold fX9_has at h
  refine j_iload_n (j := 0) dX9_has_0 rfl rfl ?_
  refine j_bipush dX9_has_1 rfl ?_
  refine j_iload_n (j := 1) dX9_has_3 rfl rfl ?_
  refine j_iadd dX9_has_4 ?_
  refine j_ishr dX9_has_5 ?_
  refine j_iconst dX9_has_6 ?_
  refine j_iand dX9_has_7 ?_
  refine j_iconst dX9_has_8 ?_
  by_cases c1 : (iAnd (iShr x0 (wrap (13 + x1))) 1) = 1
  · rw [if_pos c1] at h
    refine j_icmp_ne_f (iAnd_inR _ _) (inR_lit _ rfl) dX9_has_9 (tgt := 16) (by decide) (fun q => q c1) ?_
    refine j_iconst dX9_has_12 ?_
    refine j_goto (tgt := 17) dX9_has_13 (by decide) ?_
    cases h
    exact j_iret dX9_has_17 rfl ((nar_bool (Or.inr rfl)).1) rfl (Or.inr rfl)
  · rw [if_neg c1] at h
    refine j_icmp_ne_t (iAnd_inR _ _) (inR_lit _ rfl) dX9_has_9 (tgt := 16) (by decide) c1 ?_
    refine j_iconst dX9_has_16 ?_
    cases h
    exact j_iret dX9_has_17 rfl ((nar_bool (Or.inl rfl)).1) rfl (Or.inl rfl)
theorem ctX9_has {g : JG} {l : Launch} {d N : Nat} {A : AH} {out : Int} {x0 : Int} {x1 : Int} (hl : l.stackTraces = false) (hd : 1 ≤ d) (hx0 : inR x0) (hx1 : inR x1) (h : fX9_has N A x0 x1 = some out) : CT g l yX9_has cX9_has 2 (some .boolean) d [vI x0, vI x1] A ((0, some (vI out), A) : JO) ((out = 0 ∨ out = 1)) :=
  CT_of (by decide +kernel) hl (by first | exact Nat.le_of_ble_eq_true rfl | (unfold rv; split <;> exact Nat.le_of_ble_eq_true rfl)) (by first | rfl | (unfold rv; split <;> rfl)) (j_sub (lv := [(0, vI x0), (1, vI x1)]) [0, 1] rfl (tX9_has_0 hl hd hx0 hx1 h))
set_option maxRecDepth 100000 in
theorem tX9_toOf_0 {g : JG} {l : Launch} {d N n0 s0 : Nat} {out : Int} {A : AH} {x0 : Int} (hl : l.stackTraces = false) (hd : 1 ≤ d) (hx0 : inR x0) (h : fX9_toOf N A x0 = some out) : J g l d RX9 "toOf" cX9_toOf 1 (some .int) n0 s0 ((0, some (vI out), A) : JO) (inR out) 0 [(0, vI x0)] [] A := by
  unfold fX9_toOf at h
  refine j_iload_n (j := 0) dX9_toOf_0 rfl rfl ?_
  refine j_bipush dX9_toOf_1 rfl ?_
  refine j_ishr dX9_toOf_3 ?_
  refine j_iconst dX9_toOf_4 ?_
  refine j_iand dX9_toOf_5 ?_
  cases h
  exact j_iret dX9_toOf_6 rfl rfl rfl (iAnd_inR _ _)
theorem ctX9_toOf {g : JG} {l : Launch} {d N : Nat} {A : AH} {out : Int} {x0 : Int} (hl : l.stackTraces = false) (hd : 1 ≤ d) (hx0 : inR x0) (h : fX9_toOf N A x0 = some out) : CT g l yX9_toOf cX9_toOf 1 (some .int) d [vI x0] A ((0, some (vI out), A) : JO) (inR out) :=
  CT_of (by decide +kernel) hl (by first | exact Nat.le_of_ble_eq_true rfl | (unfold rv; split <;> exact Nat.le_of_ble_eq_true rfl)) (by first | rfl | (unfold rv; split <;> rfl)) (j_sub (lv := [(0, vI x0)]) [0] rfl (tX9_toOf_0 hl hd hx0 h))
set_option maxRecDepth 100000 in
theorem tX9_boatOf_0 {g : JG} {l : Launch} {d N n0 s0 : Nat} {out : Int} {A : AH} {x0 : Int} (hl : l.stackTraces = false) (hd : 1 ≤ d) (hx0 : inR x0) (h : fX9_boatOf N A x0 = some out) : J g l d RX9 "boatOf" cX9_boatOf 1 (some .int) n0 s0 ((0, some (vI out), A) : JO) (inR out) 0 [(0, vI x0)] [] A := by
  unfold fX9_boatOf at h
  refine j_iload_n (j := 0) dX9_boatOf_0 rfl rfl ?_
  refine j_bipush dX9_boatOf_1 rfl ?_
  refine j_ishr dX9_boatOf_3 ?_
  cases h
  exact j_iret dX9_boatOf_4 rfl rfl rfl (iShr_inR _ _)
theorem ctX9_boatOf {g : JG} {l : Launch} {d N : Nat} {A : AH} {out : Int} {x0 : Int} (hl : l.stackTraces = false) (hd : 1 ≤ d) (hx0 : inR x0) (h : fX9_boatOf N A x0 = some out) : CT g l yX9_boatOf cX9_boatOf 1 (some .int) d [vI x0] A ((0, some (vI out), A) : JO) (inR out) :=
  CT_of (by decide +kernel) hl (by first | exact Nat.le_of_ble_eq_true rfl | (unfold rv; split <;> exact Nat.le_of_ble_eq_true rfl)) (by first | rfl | (unfold rv; split <;> rfl)) (j_sub (lv := [(0, vI x0)]) [0] rfl (tX9_boatOf_0 hl hd hx0 h))
set_option maxRecDepth 100000 in
theorem tX9_length_0 {g : JG} {l : Launch} {d N n0 s0 : Nat} {out : Int} {A : AH} {x1 : Int} (hl : l.stackTraces = false) (hd : 1 ≤ d) (hx1 : inR x1) (h : fX9_length N A x1 = some out) : J g l d RX9 "length" cX9_length 2 (some .int) n0 s0 ((0, some (vI out), A) : JO) (inR out) 0 [(0, .ref (gB g + 349)), (1, vI x1)] [] A := by
  unfold fX9_length at h
  refine j_aload_n (j := 0) dX9_length_0 rfl rfl ?_
  refine j_getR (q := 352) FX9_16 rfl dX9_length_1 (by decide) (by decide) rfl rfl (by decide) ?_
  refine j_iload_n (j := 1) dX9_length_4 rfl rfl ?_
  obtain ⟨c1, h⟩ := chk_elim h
  refine j_iald hx1 (by decide) (by decide) rfl dX9_length_5 (VK_c 22 352 rfl).1 (VK_c 22 352 rfl).lt (VK_c 22 352 rfl).ka c1 (fun r2 => ?_)
  refine j_iconst dX9_length_6 ?_
  refine j_iadd dX9_length_7 ?_
  cases h
  exact j_iret dX9_length_8 rfl rfl rfl (wrap_inR _)
theorem ctX9_length {g : JG} {l : Launch} {d N : Nat} {A : AH} {out : Int} {x1 : Int} (hl : l.stackTraces = false) (hd : 1 ≤ d) (hx1 : inR x1) (h : fX9_length N A x1 = some out) : CT g l yX9_length cX9_length 2 (some .int) d [.ref (gB g + 349), vI x1] A ((0, some (vI out), A) : JO) (inR out) :=
  CT_of (by decide +kernel) hl (by first | exact Nat.le_of_ble_eq_true rfl | (unfold rv; split <;> exact Nat.le_of_ble_eq_true rfl)) (by first | rfl | (unfold rv; split <;> rfl)) (j_sub (lv := [(0, .ref (gB g + 349)), (1, vI x1)]) [0, 1] rfl (tX9_length_0 hl hd hx1 h))
set_option maxRecDepth 100000 in
theorem tX9_end_0 {g : JG} {l : Launch} {d N n0 s0 : Nat} {out : Int} {A : AH} {x1 : Int} (hl : l.stackTraces = false) (hd : 2 ≤ d) (hx1 : inR x1) (h : fX9_end N A x1 = some out) : J g l d RX9 "end" cX9_end 2 (some .int) n0 s0 ((0, some (vI out), A) : JO) (inR out) 0 [(0, .ref (gB g + 349)), (1, vI x1)] [] A := by
  unfold fX9_end at h
  refine j_aload_n (j := 0) dX9_end_0 rfl rfl ?_
  refine j_getR (q := 359) FX9_37 rfl dX9_end_1 (by decide) (by decide) rfl rfl (by decide) ?_
  refine j_iload_n (j := 1) dX9_end_4 rfl rfl ?_
  obtain ⟨c1, h⟩ := chk_elim h
  refine j_iald hx1 (by decide) (by decide) rfl dX9_end_5 (VK_c 29 359 rfl).1 (VK_c 29 359 rfl).lt (VK_c 29 359 rfl).ka c1 (fun r2 => ?_)
  refine j_aload_n (j := 0) dX9_end_6 rfl rfl ?_
  refine j_iload_n (j := 1) dX9_end_7 rfl rfl ?_
  obtain ⟨z4, e3, h⟩ := obind_elim h
  refine j_callV MX9_103 YX9_length IX9_length SX9_length (by decide) rfl (by decide) (by omega) (Nat.le_of_ble_eq_true rfl) rfl (ctX9_length (d := d - 1) hl (by omega) hx1 e3) dX9_end_8 (VK_c 9 349 rfl).1 (VK_c 9 349 rfl).lt (VK_c 9 349 rfl).ka rfl (fun z5 _ => ?_)
  refine j_iadd dX9_end_11 ?_
  cases h
  exact j_iret dX9_end_12 rfl rfl rfl (wrap_inR _)
theorem ctX9_end {g : JG} {l : Launch} {d N : Nat} {A : AH} {out : Int} {x1 : Int} (hl : l.stackTraces = false) (hd : 2 ≤ d) (hx1 : inR x1) (h : fX9_end N A x1 = some out) : CT g l yX9_end cX9_end 2 (some .int) d [.ref (gB g + 349), vI x1] A ((0, some (vI out), A) : JO) (inR out) :=
  CT_of (by decide +kernel) hl (by first | exact Nat.le_of_ble_eq_true rfl | (unfold rv; split <;> exact Nat.le_of_ble_eq_true rfl)) (by first | rfl | (unfold rv; split <;> rfl)) (j_sub (lv := [(0, .ref (gB g + 349)), (1, vI x1)]) [0, 1] rfl (tX9_end_0 hl hd hx1 h))
set_option maxRecDepth 100000 in
theorem tX9_hasTrip_0 {g : JG} {l : Launch} {d N n0 s0 : Nat} {out : Int} {A : AH} {x1 : Int} (hl : l.stackTraces = false) (hd : 1 ≤ d) (hx1 : inR x1) (h : fX9_hasTrip N A x1 = some out) : J g l d RX9 "hasTrip" cX9_hasTrip 2 (some .boolean) n0 s0 ((0, some (vI out), A) : JO) ((out = 0 ∨ out = 1)) 0 [(0, .ref (gB g + 349)), (1, vI x1)] [] A := by
  unfold fX9_hasTrip at h
  refine j_aload_n (j := 0) dX9_hasTrip_0 rfl rfl ?_
  refine j_getR (q := 357) FX9_31 rfl dX9_hasTrip_1 (by decide) (by decide) rfl rfl (by decide) ?_
  refine j_iload_n (j := 1) dX9_hasTrip_4 rfl rfl ?_
  obtain ⟨c1, h⟩ := chk_elim h
  refine j_iald hx1 (by decide) (by decide) rfl dX9_hasTrip_5 (VK_c 27 357 rfl).1 (VK_c 27 357 rfl).lt (VK_c 27 357 rfl).ka c1 (fun r2 => ?_)
  refine j_iconst dX9_hasTrip_6 ?_
  by_cases c3 : (gI A 357 x1.toNat) = 1
  · rw [if_pos c3] at h
    refine j_icmp_eq_t r2 (inR_lit _ rfl) dX9_hasTrip_7 (tgt := 20) (by decide) c3 ?_
    refine j_iconst dX9_hasTrip_20 ?_
    refine j_goto (tgt := 25) dX9_hasTrip_21 (by decide) ?_
    cases h
    exact j_iret dX9_hasTrip_25 rfl ((nar_bool (Or.inr rfl)).1) rfl (Or.inr rfl)
  · rw [if_neg c3] at h
    refine j_icmp_eq_f r2 (inR_lit _ rfl) dX9_hasTrip_7 (tgt := 20) (by decide) c3 ?_
    refine j_aload_n (j := 0) dX9_hasTrip_10 rfl rfl ?_
    refine j_getR (q := 357) FX9_31 rfl dX9_hasTrip_11 (by decide) (by decide) rfl rfl (by decide) ?_
    refine j_iload_n (j := 1) dX9_hasTrip_14 rfl rfl ?_
    obtain ⟨c4, h⟩ := chk_elim h
    refine j_iald hx1 (by decide) (by decide) rfl dX9_hasTrip_15 (VK_c 27 357 rfl).1 (VK_c 27 357 rfl).lt (VK_c 27 357 rfl).ka c4 (fun r5 => ?_)
    refine j_iconst dX9_hasTrip_16 ?_
    by_cases c6 : (gI A 357 x1.toNat) = 2
    · rw [if_pos c6] at h
      refine j_icmp_ne_f r5 (inR_lit _ rfl) dX9_hasTrip_17 (tgt := 24) (by decide) (fun q => q c6) ?_
      refine j_iconst dX9_hasTrip_20 ?_
      refine j_goto (tgt := 25) dX9_hasTrip_21 (by decide) ?_
      cases h
      exact j_iret dX9_hasTrip_25 rfl ((nar_bool (Or.inr rfl)).1) rfl (Or.inr rfl)
    · rw [if_neg c6] at h
      refine j_icmp_ne_t r5 (inR_lit _ rfl) dX9_hasTrip_17 (tgt := 24) (by decide) c6 ?_
      refine j_iconst dX9_hasTrip_24 ?_
      cases h
      exact j_iret dX9_hasTrip_25 rfl ((nar_bool (Or.inl rfl)).1) rfl (Or.inl rfl)
theorem ctX9_hasTrip {g : JG} {l : Launch} {d N : Nat} {A : AH} {out : Int} {x1 : Int} (hl : l.stackTraces = false) (hd : 1 ≤ d) (hx1 : inR x1) (h : fX9_hasTrip N A x1 = some out) : CT g l yX9_hasTrip cX9_hasTrip 2 (some .boolean) d [.ref (gB g + 349), vI x1] A ((0, some (vI out), A) : JO) ((out = 0 ∨ out = 1)) :=
  CT_of (by decide +kernel) hl (by first | exact Nat.le_of_ble_eq_true rfl | (unfold rv; split <;> exact Nat.le_of_ble_eq_true rfl)) (by first | rfl | (unfold rv; split <;> rfl)) (j_sub (lv := [(0, .ref (gB g + 349)), (1, vI x1)]) [0, 1] rfl (tX9_hasTrip_0 hl hd hx1 h))
set_option maxRecDepth 100000 in
theorem tX9_isTripOf_0 {g : JG} {l : Launch} {d N n0 s0 : Nat} {out : Int} {A : AH} {x1 : Int} {x2 : Int} (hl : l.stackTraces = false) (hd : 2 ≤ d) (hx1 : inR x1) (hx2 : inR x2) (h : fX9_isTripOf N A x1 x2 = some out) : J g l d RX9 "isTripOf" cX9_isTripOf 3 (some .boolean) n0 s0 ((0, some (vI out), A) : JO) ((out = 0 ∨ out = 1)) 0 [(0, .ref (gB g + 349)), (1, vI x1), (2, vI x2)] [] A := by
  unfold fX9_isTripOf at h
  refine j_aload_n (j := 0) dX9_isTripOf_0 rfl rfl ?_
  refine j_iload_n (j := 1) dX9_isTripOf_1 rfl rfl ?_
  obtain ⟨z2, e1, h⟩ := obind_elim h
  refine j_callV MX9_107 YX9_hasTrip IX9_hasTrip SX9_hasTrip (by decide) rfl (by decide) (by omega) (Nat.le_of_ble_eq_true rfl) rfl (ctX9_hasTrip (d := d - 1) hl (by omega) hx1 e1) dX9_isTripOf_2 (VK_c 9 349 rfl).1 (VK_c 9 349 rfl).lt (VK_c 9 349 rfl).ka rfl (fun z3 _ => ?_)
  by_cases c5 : z2 = 0
  · rw [if_pos c5] at h
    refine j_if_eq_t (bool_inR z3) dX9_isTripOf_5 (tgt := 22) (by decide) c5 ?_
    refine j_iconst dX9_isTripOf_22 ?_
    cases h
    exact j_iret dX9_isTripOf_23 rfl ((nar_bool (Or.inl rfl)).1) rfl (Or.inl rfl)
  · rw [if_neg c5] at h
    refine j_if_eq_f (bool_inR z3) dX9_isTripOf_5 (tgt := 22) (by decide) c5 ?_
    refine j_aload_n (j := 0) dX9_isTripOf_8 rfl rfl ?_
    refine j_getR (q := 358) FX9_34 rfl dX9_isTripOf_9 (by decide) (by decide) rfl rfl (by decide) ?_
    refine j_iload_n (j := 1) dX9_isTripOf_12 rfl rfl ?_
    obtain ⟨c6, h⟩ := chk_elim h
    refine j_iald hx1 (by decide) (by decide) rfl dX9_isTripOf_13 (VK_c 28 358 rfl).1 (VK_c 28 358 rfl).lt (VK_c 28 358 rfl).ka c6 (fun r7 => ?_)
    refine j_iload_n (j := 2) dX9_isTripOf_14 rfl rfl ?_
    by_cases c8 : (gI A 358 x1.toNat) = x2
    · rw [if_pos c8] at h
      refine j_icmp_ne_f r7 hx2 dX9_isTripOf_15 (tgt := 22) (by decide) (fun q => q c8) ?_
      refine j_iconst dX9_isTripOf_18 ?_
      refine j_goto (tgt := 23) dX9_isTripOf_19 (by decide) ?_
      cases h
      exact j_iret dX9_isTripOf_23 rfl ((nar_bool (Or.inr rfl)).1) rfl (Or.inr rfl)
    · rw [if_neg c8] at h
      refine j_icmp_ne_t r7 hx2 dX9_isTripOf_15 (tgt := 22) (by decide) c8 ?_
      refine j_iconst dX9_isTripOf_22 ?_
      cases h
      exact j_iret dX9_isTripOf_23 rfl ((nar_bool (Or.inl rfl)).1) rfl (Or.inl rfl)
theorem ctX9_isTripOf {g : JG} {l : Launch} {d N : Nat} {A : AH} {out : Int} {x1 : Int} {x2 : Int} (hl : l.stackTraces = false) (hd : 2 ≤ d) (hx1 : inR x1) (hx2 : inR x2) (h : fX9_isTripOf N A x1 x2 = some out) : CT g l yX9_isTripOf cX9_isTripOf 3 (some .boolean) d [.ref (gB g + 349), vI x1, vI x2] A ((0, some (vI out), A) : JO) ((out = 0 ∨ out = 1)) :=
  CT_of (by decide +kernel) hl (by first | exact Nat.le_of_ble_eq_true rfl | (unfold rv; split <;> exact Nat.le_of_ble_eq_true rfl)) (by first | rfl | (unfold rv; split <;> rfl)) (j_sub (lv := [(0, .ref (gB g + 349)), (1, vI x1), (2, vI x2)]) [0, 1, 2] rfl (tX9_isTripOf_0 hl hd hx1 hx2 h))
set_option maxRecDepth 100000 in
theorem tX9_startOf_0 {g : JG} {l : Launch} {d N n0 s0 : Nat} {out : Int} {A : AH} {x1 : Int} (hl : l.stackTraces = false) (hd : 1 ≤ d) (hx1 : inR x1) (h : fX9_startOf N A x1 = some out) : J g l d RX9 "startOf" cX9_startOf 2 (some .int) n0 s0 ((0, some (vI out), A) : JO) (inR out) 0 [(0, .ref (gB g + 349)), (1, vI x1)] [] A := by
  unfold fX9_startOf at h
  refine j_aload_n (j := 0) dX9_startOf_0 rfl rfl ?_
  refine j_getR (q := 353) FX9_19 rfl dX9_startOf_1 (by decide) (by decide) rfl rfl (by decide) ?_
  refine j_iload_n (j := 1) dX9_startOf_4 rfl rfl ?_
  obtain ⟨c1, h⟩ := chk_elim h
  refine j_iald hx1 (by decide) (by decide) rfl dX9_startOf_5 (VK_c 23 353 rfl).1 (VK_c 23 353 rfl).lt (VK_c 23 353 rfl).ka c1 (fun r2 => ?_)
  refine j_iconst dX9_startOf_6 ?_
  by_cases c3 : (gI A 353 x1.toNat) = 1
  · rw [if_pos c3] at h
    refine j_icmp_ne_f r2 (inR_lit _ rfl) dX9_startOf_7 (tgt := 14) (by decide) (fun q => q c3) ?_
    refine j_iconst dX9_startOf_10 ?_
    refine j_goto (tgt := 15) dX9_startOf_11 (by decide) ?_
    cases h
    exact j_iret dX9_startOf_15 rfl rfl rfl (inR_lit _ rfl)
  · rw [if_neg c3] at h
    refine j_icmp_ne_t r2 (inR_lit _ rfl) dX9_startOf_7 (tgt := 14) (by decide) c3 ?_
    refine j_iconst dX9_startOf_14 ?_
    cases h
    exact j_iret dX9_startOf_15 rfl rfl rfl (inR_lit _ rfl)
theorem ctX9_startOf {g : JG} {l : Launch} {d N : Nat} {A : AH} {out : Int} {x1 : Int} (hl : l.stackTraces = false) (hd : 1 ≤ d) (hx1 : inR x1) (h : fX9_startOf N A x1 = some out) : CT g l yX9_startOf cX9_startOf 2 (some .int) d [.ref (gB g + 349), vI x1] A ((0, some (vI out), A) : JO) (inR out) :=
  CT_of (by decide +kernel) hl (by first | exact Nat.le_of_ble_eq_true rfl | (unfold rv; split <;> exact Nat.le_of_ble_eq_true rfl)) (by first | rfl | (unfold rv; split <;> rfl)) (j_sub (lv := [(0, .ref (gB g + 349)), (1, vI x1)]) [0, 1] rfl (tX9_startOf_0 hl hd hx1 h))
set_option maxRecDepth 100000 in
theorem tX9_goalOf_0 {g : JG} {l : Launch} {d N n0 s0 : Nat} {out : Int} {A : AH} {x1 : Int} (hl : l.stackTraces = false) (hd : 1 ≤ d) (hx1 : inR x1) (h : fX9_goalOf N A x1 = some out) : J g l d RX9 "goalOf" cX9_goalOf 2 (some .int) n0 s0 ((0, some (vI out), A) : JO) (inR out) 0 [(0, .ref (gB g + 349)), (1, vI x1)] [] A := by
  unfold fX9_goalOf at h
  refine j_aload_n (j := 0) dX9_goalOf_0 rfl rfl ?_
  refine j_getR (q := 353) FX9_19 rfl dX9_goalOf_1 (by decide) (by decide) rfl rfl (by decide) ?_
  refine j_iload_n (j := 1) dX9_goalOf_4 rfl rfl ?_
  obtain ⟨c1, h⟩ := chk_elim h
  refine j_iald hx1 (by decide) (by decide) rfl dX9_goalOf_5 (VK_c 23 353 rfl).1 (VK_c 23 353 rfl).lt (VK_c 23 353 rfl).ka c1 (fun r2 => ?_)
  cases h
  exact j_iret dX9_goalOf_6 rfl rfl rfl r2
theorem ctX9_goalOf {g : JG} {l : Launch} {d N : Nat} {A : AH} {out : Int} {x1 : Int} (hl : l.stackTraces = false) (hd : 1 ≤ d) (hx1 : inR x1) (h : fX9_goalOf N A x1 = some out) : CT g l yX9_goalOf cX9_goalOf 2 (some .int) d [.ref (gB g + 349), vI x1] A ((0, some (vI out), A) : JO) (inR out) :=
  CT_of (by decide +kernel) hl (by first | exact Nat.le_of_ble_eq_true rfl | (unfold rv; split <;> exact Nat.le_of_ble_eq_true rfl)) (by first | rfl | (unfold rv; split <;> rfl)) (j_sub (lv := [(0, .ref (gB g + 349)), (1, vI x1)]) [0, 1] rfl (tX9_goalOf_0 hl hd hx1 h))
set_option maxRecDepth 100000 in
theorem tX9_depthAt_0 {g : JG} {l : Launch} {d N n0 s0 : Nat} {out : Int} {A : AH} {x1 : Int} (hl : l.stackTraces = false) (hd : 1 ≤ d) (hx1 : inR x1) (h : fX9_depthAt N A x1 = some out) : J g l d RX9 "depthAt" cX9_depthAt 2 (some .int) n0 s0 ((0, some (vI out), A) : JO) (inR out) 0 [(0, .ref (gB g + 349)), (1, vI x1)] [] A := by
  unfold fX9_depthAt at h
  refine j_aload_n (j := 0) dX9_depthAt_0 rfl rfl ?_
  refine j_getR (q := 350) FX9_7 rfl dX9_depthAt_1 (by decide) (by decide) rfl rfl (by decide) ?_
  refine j_iconst dX9_depthAt_4 ?_
  refine j_iald (inR_lit _ rfl) (by decide) (by decide) rfl dX9_depthAt_5 (VK_c 20 350 rfl).1 (VK_c 20 350 rfl).lt (VK_c 20 350 rfl).ka (by decide) (fun r1 => ?_)
  refine j_aload_n (j := 0) dX9_depthAt_6 rfl rfl ?_
  refine j_getR (q := 351) FX9_13 rfl dX9_depthAt_7 (by decide) (by decide) rfl rfl (by decide) ?_
  refine j_iload_n (j := 1) dX9_depthAt_10 rfl rfl ?_
  refine j_bipush dX9_depthAt_11 rfl ?_
  refine j_irem hx1 (inR_lit _ rfl) (by decide) dX9_depthAt_13 ?_
  obtain ⟨c2, h⟩ := chk_elim h
  refine j_iald (tmod_inR _ hx1) (by decide) (by decide) rfl dX9_depthAt_14 (VK_c 21 351 rfl).1 (VK_c 21 351 rfl).lt (VK_c 21 351 rfl).ka c2 (fun r3 => ?_)
  refine j_iadd dX9_depthAt_15 ?_
  cases h
  exact j_iret dX9_depthAt_16 rfl rfl rfl (wrap_inR _)
theorem ctX9_depthAt {g : JG} {l : Launch} {d N : Nat} {A : AH} {out : Int} {x1 : Int} (hl : l.stackTraces = false) (hd : 1 ≤ d) (hx1 : inR x1) (h : fX9_depthAt N A x1 = some out) : CT g l yX9_depthAt cX9_depthAt 2 (some .int) d [.ref (gB g + 349), vI x1] A ((0, some (vI out), A) : JO) (inR out) :=
  CT_of (by decide +kernel) hl (by first | exact Nat.le_of_ble_eq_true rfl | (unfold rv; split <;> exact Nat.le_of_ble_eq_true rfl)) (by first | rfl | (unfold rv; split <;> rfl)) (j_sub (lv := [(0, .ref (gB g + 349)), (1, vI x1)]) [0, 1] rfl (tX9_depthAt_0 hl hd hx1 h))
set_option maxRecDepth 100000 in
theorem tX9_isDeep_2 {g : JG} {l : Launch} {d N n0 s0 : Nat} {out : Int} {A : AH} {x1 : Int} {x2 : Int} (hl : l.stackTraces = false) (hd : 2 ≤ d) (hx1 : inR x1) (hx2 : inR x2) : ∀ (n : Nat) (x3 : Int), inR x3 → fX9_isDeep_2 N A x1 x2 n x3 = some out → J g l d RX9 "isDeep" cX9_isDeep 4 (some .boolean) n0 s0 ((0, some (vI out), A) : JO) ((out = 0 ∨ out = 1)) 2 [(0, .ref (gB g + 349)), (1, vI x1), (2, vI x2), (3, vI x3)] [] A := by
  intro n
  induction n with
  | zero =>
    intro x3 hx3 h
    rw [fX9_isDeep_2] at h
    cases h
  | succ n ih =>
    intro x3 hx3 h
    rw [fX9_isDeep_2] at h
    refine j_iload_n (j := 3) dX9_isDeep_2 rfl rfl ?_
    refine j_aload_n (j := 0) dX9_isDeep_3 rfl rfl ?_
    refine j_iload_n (j := 1) dX9_isDeep_4 rfl rfl ?_
    obtain ⟨z2, e1, h⟩ := obind_elim h
    refine j_callV MX9_103 YX9_length IX9_length SX9_length (by decide) rfl (by decide) (by omega) (Nat.le_of_ble_eq_true rfl) rfl (ctX9_length (d := d - 1) hl (by omega) hx1 e1) dX9_isDeep_5 (VK_c 9 349 rfl).1 (VK_c 9 349 rfl).lt (VK_c 9 349 rfl).ka rfl (fun z3 _ => ?_)
    by_cases c5 : z2 ≤ x3
    · rw [if_pos c5] at h
      refine j_icmp_ge_t hx3 z3 dX9_isDeep_8 (tgt := 35) (by decide) c5 ?_
      refine j_iconst dX9_isDeep_35 ?_
      cases h
      exact j_iret dX9_isDeep_36 rfl ((nar_bool (Or.inr rfl)).1) rfl (Or.inr rfl)
    · rw [if_neg c5] at h
      refine j_icmp_ge_f hx3 z3 dX9_isDeep_8 (tgt := 35) (by decide) c5 ?_
      refine j_aload_n (j := 0) dX9_isDeep_11 rfl rfl ?_
      refine j_iload_n (j := 2) dX9_isDeep_12 rfl rfl ?_
      refine j_iload_n (j := 3) dX9_isDeep_13 rfl rfl ?_
      refine j_iadd dX9_isDeep_14 ?_
      obtain ⟨z7, e6, h⟩ := obind_elim h
      refine j_callV MX9_111 YX9_depthAt IX9_depthAt SX9_depthAt (by decide) rfl (by decide) (by omega) (Nat.le_of_ble_eq_true rfl) rfl (ctX9_depthAt (d := d - 1) hl (by omega) (wrap_inR _) e6) dX9_isDeep_15 (VK_c 9 349 rfl).1 (VK_c 9 349 rfl).lt (VK_c 9 349 rfl).ka rfl (fun z8 _ => ?_)
      refine j_aload_n (j := 0) dX9_isDeep_18 rfl rfl ?_
      refine j_getR (q := 354) FX9_22 rfl dX9_isDeep_19 (by decide) (by decide) rfl rfl (by decide) ?_
      refine j_iload_n (j := 1) dX9_isDeep_22 rfl rfl ?_
      obtain ⟨c10, h⟩ := chk_elim h
      refine j_iald hx1 (by decide) (by decide) rfl dX9_isDeep_23 (VK_c 24 354 rfl).1 (VK_c 24 354 rfl).lt (VK_c 24 354 rfl).ka c10 (fun r11 => ?_)
      by_cases c12 : (gI A 354 x1.toNat) ≤ z7
      · rw [if_pos c12] at h
        refine j_icmp_ge_t z8 r11 dX9_isDeep_24 (tgt := 29) (by decide) c12 ?_
        obtain ⟨u13, eu13, h⟩ := bnd_elim h
        have hu13 : inR u13 := by rw [eu13]; exact wrap_inR _
        refine j_iincN (k := 3) (lv' := [(3, vI u13), (0, .ref (gB g + 349)), (1, vI x1), (2, vI x2)]) eu13 dX9_isDeep_29 rfl (by decide) (by first | rfl | (simp only [List.all_cons, List.all_nil, rv_cat]; rfl)) rfl ?_
        refine j_goto (tgt := 2) dX9_isDeep_32 (by decide) ?_
        exact j_sub [1, 2, 3, 0] rfl (ih u13 hu13 h)
      · rw [if_neg c12] at h
        refine j_icmp_ge_f z8 r11 dX9_isDeep_24 (tgt := 29) (by decide) c12 ?_
        refine j_iconst dX9_isDeep_27 ?_
        cases h
        exact j_iret dX9_isDeep_28 rfl ((nar_bool (Or.inl rfl)).1) rfl (Or.inl rfl)
set_option maxRecDepth 100000 in
theorem tX9_isDeep_0 {g : JG} {l : Launch} {d N n0 s0 : Nat} {out : Int} {A : AH} {x1 : Int} {x2 : Int} (hl : l.stackTraces = false) (hd : 2 ≤ d) (hx1 : inR x1) (hx2 : inR x2) (h : fX9_isDeep N A x1 x2 = some out) : J g l d RX9 "isDeep" cX9_isDeep 4 (some .boolean) n0 s0 ((0, some (vI out), A) : JO) ((out = 0 ∨ out = 1)) 0 [(0, .ref (gB g + 349)), (1, vI x1), (2, vI x2)] [] A := by
  unfold fX9_isDeep at h
  refine j_iconst dX9_isDeep_0 ?_
  refine j_istore_n (lv' := [(3, vI 0), (0, .ref (gB g + 349)), (1, vI x1), (2, vI x2)]) dX9_isDeep_1 rfl (by decide) (by first | rfl | (simp only [List.all_cons, List.all_nil, rv_cat]; rfl)) rfl ?_
  exact j_sub [1, 2, 3, 0] rfl (tX9_isDeep_2 hl (by omega) hx1 hx2  N 0 (inR_lit _ rfl) h)
theorem ctX9_isDeep {g : JG} {l : Launch} {d N : Nat} {A : AH} {out : Int} {x1 : Int} {x2 : Int} (hl : l.stackTraces = false) (hd : 2 ≤ d) (hx1 : inR x1) (hx2 : inR x2) (h : fX9_isDeep N A x1 x2 = some out) : CT g l yX9_isDeep cX9_isDeep 4 (some .boolean) d [.ref (gB g + 349), vI x1, vI x2] A ((0, some (vI out), A) : JO) ((out = 0 ∨ out = 1)) :=
  CT_of (by decide +kernel) hl (by first | exact Nat.le_of_ble_eq_true rfl | (unfold rv; split <;> exact Nat.le_of_ble_eq_true rfl)) (by first | rfl | (unfold rv; split <;> rfl)) (j_sub (lv := [(0, .ref (gB g + 349)), (1, vI x1), (2, vI x2)]) [0, 1, 2] rfl (tX9_isDeep_0 hl hd hx1 hx2 h))
set_option maxRecDepth 100000 in
theorem tX9_looks_0 {g : JG} {l : Launch} {d N n0 s0 : Nat} {out : AH} {A : AH} {x1 : Int} {x2 : Int} (hl : l.stackTraces = false) (hd : 1 ≤ d) (hx1 : inR x1) (hx2 : inR x2) (h : fX9_looks N A x1 x2 = some out) : J g l d RX9 "looks" cX9_looks 3 none n0 s0 ((0, none, out) : JO) (True) 0 [(0, .ref (gB g + 349)), (1, vI x1), (2, vI x2)] [] A := by
  unfold fX9_looks at h
  refine j_iload_n (j := 1) dX9_looks_0 rfl rfl ?_
  refine j_aload_n (j := 0) dX9_looks_1 rfl rfl ?_
  refine j_getI FX9_118 rfl dX9_looks_2 (VK_c 9 349 rfl).1 (VK_c 9 349 rfl).lt (VK_c 9 349 rfl).ka (fun r1 => ?_)
  by_cases c2 : (gI A 349 24) < x1
  · rw [if_pos c2] at h
    refine j_icmp_gt_t hx1 r1 dX9_looks_5 (tgt := 9) (by decide) c2 ?_
    refine j_aload_n (j := 0) dX9_looks_9 rfl rfl ?_
    refine j_iload_n (j := 1) dX9_looks_10 rfl rfl ?_
    obtain ⟨A3, eA3, h⟩ := bnd_elim h
    have xA3 : XT A A3 := by rw [eA3]; exact XT_sI _ _ _ _
    refine j_putI FX9_118 rfl rfl rfl hx1 dX9_looks_11 (VK_c 9 349 rfl).1 (VK_c 9 349 rfl).lt (VK_c 9 349 rfl).ka ?_
    refine j_hB eA3 ?_
    refine j_aload_n (j := 0) dX9_looks_14 rfl rfl ?_
    refine j_iload_n (j := 2) dX9_looks_15 rfl rfl ?_
    obtain ⟨A4, eA4, h⟩ := bnd_elim h
    have xA4 : XT A3 A4 := by rw [eA4]; exact XT_sI _ _ _ _
    refine j_putI FX9_121 rfl rfl rfl hx2 dX9_looks_16 (VK_c 9 349 rfl).1 (VK_c 9 349 rfl).lt (VK_c 9 349 rfl).ka ?_
    refine j_hB eA4 ?_
    cases h
    exact j_vret dX9_looks_19 rfl rfl trivial
  · rw [if_neg c2] at h
    refine j_icmp_gt_f hx1 r1 dX9_looks_5 (tgt := 9) (by decide) c2 ?_
    cases h
    exact j_vret dX9_looks_8 rfl rfl trivial
theorem ctX9_looks {g : JG} {l : Launch} {d N : Nat} {A : AH} {out : AH} {x1 : Int} {x2 : Int} (hl : l.stackTraces = false) (hd : 1 ≤ d) (hx1 : inR x1) (hx2 : inR x2) (h : fX9_looks N A x1 x2 = some out) : CT g l yX9_looks cX9_looks 3 none d [.ref (gB g + 349), vI x1, vI x2] A ((0, none, out) : JO) (True) :=
  CT_of (by decide +kernel) hl (by first | exact Nat.le_of_ble_eq_true rfl | (unfold rv; split <;> exact Nat.le_of_ble_eq_true rfl)) (by first | rfl | (unfold rv; split <;> rfl)) (j_sub (lv := [(0, .ref (gB g + 349)), (1, vI x1), (2, vI x2)]) [0, 1, 2] rfl (tX9_looks_0 hl hd hx1 hx2 h))
set_option maxRecDepth 100000 in
theorem tX9_findLast_51 {g : JG} {l : Launch} {d N n0 s0 : Nat} {out : AH} {x1 : Int} (hl : l.stackTraces = false) (hd : 3 ≤ d) (hx1 : inR x1) : ∀ (n : Nat) (A : AH) (x2 : Int), inR x2 → fX9_findLast_51 N x1 n A x2 = some out → J g l d RX9 "findLast" cX9_findLast 3 none n0 s0 ((0, none, out) : JO) (True) 51 [(0, .ref (gB g + 349)), (1, vI x1), (2, vI x2)] [] A := by
  intro n
  induction n with
  | zero =>
    intro A x2 hx2 h
    rw [fX9_findLast_51] at h
    cases h
  | succ n ih =>
    intro A x2 hx2 h
    rw [fX9_findLast_51] at h
    refine j_iload_n (j := 2) dX9_findLast_51 rfl rfl ?_
    refine j_aload_n (j := 0) dX9_findLast_52 rfl rfl ?_
    refine j_getI FX9_137 rfl dX9_findLast_53 (VK_c 9 349 rfl).1 (VK_c 9 349 rfl).lt (VK_c 9 349 rfl).ka (fun r1 => ?_)
    by_cases c2 : (gI A 349 23) ≤ x2
    · rw [if_pos c2] at h
      refine j_icmp_ge_t hx2 r1 dX9_findLast_56 (tgt := 100) (by decide) c2 ?_
      cases h
      exact j_vret dX9_findLast_100 rfl rfl trivial
    · rw [if_neg c2] at h
      refine j_icmp_ge_f hx2 r1 dX9_findLast_56 (tgt := 100) (by decide) c2 ?_
      refine j_aload_n (j := 0) dX9_findLast_59 rfl rfl ?_
      refine j_getR (q := 367) FX9_61 rfl dX9_findLast_60 (by decide) (by decide) rfl rfl (by decide) ?_
      refine j_iload_n (j := 2) dX9_findLast_63 rfl rfl ?_
      obtain ⟨c3, h⟩ := chk_elim h
      refine j_iald hx2 (by decide) (by decide) rfl dX9_findLast_64 (VK_c 37 367 rfl).1 (VK_c 37 367 rfl).lt (VK_c 37 367 rfl).ka c3 (fun r4 => ?_)
      refine j_iload_n (j := 1) dX9_findLast_65 rfl rfl ?_
      obtain ⟨z6, e5, h⟩ := obind_elim h
      refine j_callS MX9_140 YX9_has IX9_has (by decide) (by omega) (Nat.le_of_ble_eq_true rfl) rfl (ctX9_has (d := d - 1) hl (by omega) r4 hx1 e5) dX9_findLast_66 rfl (fun z7 _ => ?_)
      by_cases c9 : z6 = 0
      · rw [if_pos c9] at h
        refine j_if_eq_t (bool_inR z7) dX9_findLast_69 (tgt := 94) (by decide) c9 ?_
        obtain ⟨u10, eu10, h⟩ := bnd_elim h
        have hu10 : inR u10 := by rw [eu10]; exact wrap_inR _
        refine j_iincN (k := 2) (lv' := [(2, vI u10), (0, .ref (gB g + 349)), (1, vI x1)]) eu10 dX9_findLast_94 rfl (by decide) (by first | rfl | (simp only [List.all_cons, List.all_nil, rv_cat]; rfl)) rfl ?_
        refine j_goto (tgt := 51) dX9_findLast_97 (by decide) ?_
        exact j_sub [1, 2, 0] rfl (ih A u10 hu10 h)
      · rw [if_neg c9] at h
        refine j_if_eq_f (bool_inR z7) dX9_findLast_69 (tgt := 94) (by decide) c9 ?_
        refine j_aload_n (j := 0) dX9_findLast_72 rfl rfl ?_
        refine j_aload_n (j := 0) dX9_findLast_73 rfl rfl ?_
        refine j_getR (q := 367) FX9_61 rfl dX9_findLast_74 (by decide) (by decide) rfl rfl (by decide) ?_
        refine j_iload_n (j := 2) dX9_findLast_77 rfl rfl ?_
        obtain ⟨c11, h⟩ := chk_elim h
        refine j_iald hx2 (by decide) (by decide) rfl dX9_findLast_78 (VK_c 37 367 rfl).1 (VK_c 37 367 rfl).lt (VK_c 37 367 rfl).ka c11 (fun r12 => ?_)
        obtain ⟨z14, e13, h⟩ := obind_elim h
        refine j_callS MX9_143 YX9_endOf IX9_endOf (by decide) (by omega) (Nat.le_of_ble_eq_true rfl) rfl (ctX9_endOf (d := d - 1) hl (by omega) r12 e13) dX9_findLast_79 rfl (fun z15 _ => ?_)
        refine j_aload_n (j := 0) dX9_findLast_82 rfl rfl ?_
        refine j_getR (q := 367) FX9_61 rfl dX9_findLast_83 (by decide) (by decide) rfl rfl (by decide) ?_
        refine j_iload_n (j := 2) dX9_findLast_86 rfl rfl ?_
        obtain ⟨c17, h⟩ := chk_elim h
        refine j_iald hx2 (by decide) (by decide) rfl dX9_findLast_87 (VK_c 37 367 rfl).1 (VK_c 37 367 rfl).lt (VK_c 37 367 rfl).ka c17 (fun r18 => ?_)
        obtain ⟨z20, e19, h⟩ := obind_elim h
        refine j_callS MX9_146 YX9_toOf IX9_toOf (by decide) (by omega) (Nat.le_of_ble_eq_true rfl) rfl (ctX9_toOf (d := d - 1) hl (by omega) r18 e19) dX9_findLast_88 rfl (fun z21 _ => ?_)
        obtain ⟨p24, e23, h⟩ := obind_elim h
        refine j_callV MX9_133 YX9_looks IX9_looks SX9_looks (by decide) rfl (by decide) (by omega) (Nat.le_of_ble_eq_true rfl) rfl (ctX9_looks (d := d - 1) hl (by omega) z15 z21 e23) dX9_findLast_91 (VK_c 9 349 rfl).1 (VK_c 9 349 rfl).lt (VK_c 9 349 rfl).ka rfl (fun z25 xt26 => ?_)
        obtain ⟨u27, eu27, h⟩ := bnd_elim h
        have hu27 : inR u27 := by rw [eu27]; exact wrap_inR _
        refine j_iincN (k := 2) (lv' := [(2, vI u27), (0, .ref (gB g + 349)), (1, vI x1)]) eu27 dX9_findLast_94 rfl (by decide) (by first | rfl | (simp only [List.all_cons, List.all_nil, rv_cat]; rfl)) rfl ?_
        refine j_goto (tgt := 51) dX9_findLast_97 (by decide) ?_
        exact j_sub [1, 2, 0] rfl (ih p24 u27 hu27 h)
set_option maxRecDepth 100000 in
theorem tX9_findLast_12 {g : JG} {l : Launch} {d N n0 s0 : Nat} {out : AH} {x1 : Int} (hl : l.stackTraces = false) (hd : 3 ≤ d) (hx1 : inR x1) : ∀ (n : Nat) (A : AH) (x2 : Int), inR x2 → fX9_findLast_12 N x1 n A x2 = some out → J g l d RX9 "findLast" cX9_findLast 3 none n0 s0 ((0, none, out) : JO) (True) 12 [(0, .ref (gB g + 349)), (1, vI x1), (2, vI x2)] [] A := by
  intro n
  induction n with
  | zero =>
    intro A x2 hx2 h
    rw [fX9_findLast_12] at h
    cases h
  | succ n ih =>
    intro A x2 hx2 h
    rw [fX9_findLast_12] at h
    refine j_iload_n (j := 2) dX9_findLast_12 rfl rfl ?_
    refine j_aload_n (j := 0) dX9_findLast_13 rfl rfl ?_
    refine j_getI FX9_100 rfl dX9_findLast_14 (VK_c 9 349 rfl).1 (VK_c 9 349 rfl).lt (VK_c 9 349 rfl).ka (fun r1 => ?_)
    by_cases c2 : (gI A 349 22) ≤ x2
    · rw [if_pos c2] at h
      refine j_icmp_ge_t hx2 r1 dX9_findLast_17 (tgt := 49) (by decide) c2 ?_
      refine j_iconst dX9_findLast_49 ?_
      refine j_istore_n (lv' := [(2, vI 0), (0, .ref (gB g + 349)), (1, vI x1)]) dX9_findLast_50 rfl (by decide) (by first | rfl | (simp only [List.all_cons, List.all_nil, rv_cat]; rfl)) rfl ?_
      exact j_sub [1, 2, 0] rfl (tX9_findLast_51 hl (by omega) hx1  N A 0 (inR_lit _ rfl) h)
    · rw [if_neg c2] at h
      refine j_icmp_ge_f hx2 r1 dX9_findLast_17 (tgt := 49) (by decide) c2 ?_
      refine j_aload_n (j := 0) dX9_findLast_20 rfl rfl ?_
      refine j_iload_n (j := 2) dX9_findLast_21 rfl rfl ?_
      refine j_iload_n (j := 1) dX9_findLast_22 rfl rfl ?_
      obtain ⟨z4, e3, h⟩ := obind_elim h
      refine j_callV MX9_124 YX9_isTripOf IX9_isTripOf SX9_isTripOf (by decide) rfl (by decide) (by omega) (Nat.le_of_ble_eq_true rfl) rfl (ctX9_isTripOf (d := d - 1) hl (by omega) hx2 hx1 e3) dX9_findLast_23 (VK_c 9 349 rfl).1 (VK_c 9 349 rfl).lt (VK_c 9 349 rfl).ka rfl (fun z5 _ => ?_)
      by_cases c7 : z4 = 0
      · rw [if_pos c7] at h
        refine j_if_eq_t (bool_inR z5) dX9_findLast_26 (tgt := 43) (by decide) c7 ?_
        obtain ⟨u8, eu8, h⟩ := bnd_elim h
        have hu8 : inR u8 := by rw [eu8]; exact wrap_inR _
        refine j_iincN (k := 2) (lv' := [(2, vI u8), (0, .ref (gB g + 349)), (1, vI x1)]) eu8 dX9_findLast_43 rfl (by decide) (by first | rfl | (simp only [List.all_cons, List.all_nil, rv_cat]; rfl)) rfl ?_
        refine j_goto (tgt := 12) dX9_findLast_46 (by decide) ?_
        exact j_sub [1, 2, 0] rfl (ih A u8 hu8 h)
      · rw [if_neg c7] at h
        refine j_if_eq_f (bool_inR z5) dX9_findLast_26 (tgt := 43) (by decide) c7 ?_
        refine j_aload_n (j := 0) dX9_findLast_29 rfl rfl ?_
        refine j_aload_n (j := 0) dX9_findLast_30 rfl rfl ?_
        refine j_iload_n (j := 2) dX9_findLast_31 rfl rfl ?_
        obtain ⟨z10, e9, h⟩ := obind_elim h
        refine j_callV MX9_127 YX9_end IX9_end SX9_end (by decide) rfl (by decide) (by omega) (Nat.le_of_ble_eq_true rfl) rfl (ctX9_end (d := d - 1) hl (by omega) hx2 e9) dX9_findLast_32 (VK_c 9 349 rfl).1 (VK_c 9 349 rfl).lt (VK_c 9 349 rfl).ka rfl (fun z11 _ => ?_)
        refine j_aload_n (j := 0) dX9_findLast_35 rfl rfl ?_
        refine j_iload_n (j := 2) dX9_findLast_36 rfl rfl ?_
        obtain ⟨z14, e13, h⟩ := obind_elim h
        refine j_callV MX9_130 YX9_goalOf IX9_goalOf SX9_goalOf (by decide) rfl (by decide) (by omega) (Nat.le_of_ble_eq_true rfl) rfl (ctX9_goalOf (d := d - 1) hl (by omega) hx2 e13) dX9_findLast_37 (VK_c 9 349 rfl).1 (VK_c 9 349 rfl).lt (VK_c 9 349 rfl).ka rfl (fun z15 _ => ?_)
        obtain ⟨p18, e17, h⟩ := obind_elim h
        refine j_callV MX9_133 YX9_looks IX9_looks SX9_looks (by decide) rfl (by decide) (by omega) (Nat.le_of_ble_eq_true rfl) rfl (ctX9_looks (d := d - 1) hl (by omega) z11 z15 e17) dX9_findLast_40 (VK_c 9 349 rfl).1 (VK_c 9 349 rfl).lt (VK_c 9 349 rfl).ka rfl (fun z19 xt20 => ?_)
        obtain ⟨u21, eu21, h⟩ := bnd_elim h
        have hu21 : inR u21 := by rw [eu21]; exact wrap_inR _
        refine j_iincN (k := 2) (lv' := [(2, vI u21), (0, .ref (gB g + 349)), (1, vI x1)]) eu21 dX9_findLast_43 rfl (by decide) (by first | rfl | (simp only [List.all_cons, List.all_nil, rv_cat]; rfl)) rfl ?_
        refine j_goto (tgt := 12) dX9_findLast_46 (by decide) ?_
        exact j_sub [1, 2, 0] rfl (ih p18 u21 hu21 h)
set_option maxRecDepth 100000 in
theorem tX9_findLast_0 {g : JG} {l : Launch} {d N n0 s0 : Nat} {out : AH} {A : AH} {x1 : Int} (hl : l.stackTraces = false) (hd : 3 ≤ d) (hx1 : inR x1) (h : fX9_findLast N A x1 = some out) : J g l d RX9 "findLast" cX9_findLast 3 none n0 s0 ((0, none, out) : JO) (True) 0 [(0, .ref (gB g + 349)), (1, vI x1)] [] A := by
  unfold fX9_findLast at h
  refine j_aload_n (j := 0) dX9_findLast_0 rfl rfl ?_
  refine j_iconst dX9_findLast_1 ?_
  obtain ⟨A1, eA1, h⟩ := bnd_elim h
  have xA1 : XT A A1 := by rw [eA1]; exact XT_sI _ _ _ _
  refine j_putI FX9_118 rfl rfl rfl (inR_lit _ rfl) dX9_findLast_2 (VK_c 9 349 rfl).1 (VK_c 9 349 rfl).lt (VK_c 9 349 rfl).ka ?_
  refine j_hB eA1 ?_
  refine j_aload_n (j := 0) dX9_findLast_5 rfl rfl ?_
  refine j_iconst dX9_findLast_6 ?_
  obtain ⟨A2, eA2, h⟩ := bnd_elim h
  have xA2 : XT A1 A2 := by rw [eA2]; exact XT_sI _ _ _ _
  refine j_putI FX9_121 rfl rfl rfl (inR_lit _ rfl) dX9_findLast_7 (VK_c 9 349 rfl).1 (VK_c 9 349 rfl).lt (VK_c 9 349 rfl).ka ?_
  refine j_hB eA2 ?_
  refine j_iconst dX9_findLast_10 ?_
  refine j_istore_n (lv' := [(2, vI 0), (0, .ref (gB g + 349)), (1, vI x1)]) dX9_findLast_11 rfl (by decide) (by first | rfl | (simp only [List.all_cons, List.all_nil, rv_cat]; rfl)) rfl ?_
  exact j_sub [1, 2, 0] rfl (tX9_findLast_12 hl (by omega) hx1  N A2 0 (inR_lit _ rfl) h)
theorem ctX9_findLast {g : JG} {l : Launch} {d N : Nat} {A : AH} {out : AH} {x1 : Int} (hl : l.stackTraces = false) (hd : 3 ≤ d) (hx1 : inR x1) (h : fX9_findLast N A x1 = some out) : CT g l yX9_findLast cX9_findLast 3 none d [.ref (gB g + 349), vI x1] A ((0, none, out) : JO) (True) :=
  CT_of (by decide +kernel) hl (by first | exact Nat.le_of_ble_eq_true rfl | (unfold rv; split <;> exact Nat.le_of_ble_eq_true rfl)) (by first | rfl | (unfold rv; split <;> rfl)) (j_sub (lv := [(0, .ref (gB g + 349)), (1, vI x1)]) [0, 1] rfl (tX9_findLast_0 hl hd hx1 h))
set_option maxRecDepth 100000 in
theorem tX9_isNight_0 {g : JG} {l : Launch} {d N n0 s0 : Nat} {out : Int} {A : AH} {x0 : Int} (hl : l.stackTraces = false) (hd : 1 ≤ d) (hx0 : inR x0) (h : fX9_isNight N A x0 = some out) : J g l d RX9 "isNight" cX9_isNight 1 (some .boolean) n0 s0 ((0, some (vI out), A) : JO) ((out = 0 ∨ out = 1)) 0 [(0, vI x0)] [] A := by
  unfold fX9_isNight at h
  refine j_iload_n (j := 0) dX9_isNight_0 rfl rfl ?_
  refine j_bipush dX9_isNight_1 rfl ?_
  refine j_irem hx0 (inR_lit _ rfl) (by decide) dX9_isNight_3 ?_
  refine j_bipush dX9_isNight_4 rfl ?_
  by_cases c1 : 6 ≤ (Int.tmod x0 24)
  · rw [if_pos c1] at h
    refine j_icmp_ge_t (tmod_inR _ hx0) (inR_lit _ rfl) dX9_isNight_6 (tgt := 13) (by decide) c1 ?_
    refine j_iconst dX9_isNight_13 ?_
    cases h
    exact j_iret dX9_isNight_14 rfl ((nar_bool (Or.inl rfl)).1) rfl (Or.inl rfl)
  · rw [if_neg c1] at h
    refine j_icmp_ge_f (tmod_inR _ hx0) (inR_lit _ rfl) dX9_isNight_6 (tgt := 13) (by decide) c1 ?_
    refine j_iconst dX9_isNight_9 ?_
    refine j_goto (tgt := 14) dX9_isNight_10 (by decide) ?_
    cases h
    exact j_iret dX9_isNight_14 rfl ((nar_bool (Or.inr rfl)).1) rfl (Or.inr rfl)
theorem ctX9_isNight {g : JG} {l : Launch} {d N : Nat} {A : AH} {out : Int} {x0 : Int} (hl : l.stackTraces = false) (hd : 1 ≤ d) (hx0 : inR x0) (h : fX9_isNight N A x0 = some out) : CT g l yX9_isNight cX9_isNight 1 (some .boolean) d [vI x0] A ((0, some (vI out), A) : JO) ((out = 0 ∨ out = 1)) :=
  CT_of (by decide +kernel) hl (by first | exact Nat.le_of_ble_eq_true rfl | (unfold rv; split <;> exact Nat.le_of_ble_eq_true rfl)) (by first | rfl | (unfold rv; split <;> rfl)) (j_sub (lv := [(0, vI x0)]) [0] rfl (tX9_isNight_0 hl hd hx0 h))
set_option maxRecDepth 100000 in
theorem tX9_isInNight_7 {g : JG} {l : Launch} {d N n0 s0 : Nat} {out : Int} {A : AH} {x1 : Int} (hl : l.stackTraces = false) (hd : 3 ≤ d) (hx1 : inR x1) : ∀ (n : Nat) (x2 : Int), inR x2 → fX9_isInNight_7 N A x1 n x2 = some out → J g l d RX9 "isInNight" cX9_isInNight 3 (some .boolean) n0 s0 ((0, some (vI out), A) : JO) ((out = 0 ∨ out = 1)) 7 [(0, .ref (gB g + 349)), (1, vI x1), (2, vI x2)] [] A := by
  intro n
  induction n with
  | zero =>
    intro x2 hx2 h
    rw [fX9_isInNight_7] at h
    cases h
  | succ n ih =>
    intro x2 hx2 h
    rw [fX9_isInNight_7] at h
    refine j_iload_n (j := 2) dX9_isInNight_7 rfl rfl ?_
    refine j_aload_n (j := 0) dX9_isInNight_8 rfl rfl ?_
    refine j_iload_n (j := 1) dX9_isInNight_9 rfl rfl ?_
    obtain ⟨z2, e1, h⟩ := obind_elim h
    refine j_callV MX9_127 YX9_end IX9_end SX9_end (by decide) rfl (by decide) (by omega) (Nat.le_of_ble_eq_true rfl) rfl (ctX9_end (d := d - 1) hl (by omega) hx1 e1) dX9_isInNight_10 (VK_c 9 349 rfl).1 (VK_c 9 349 rfl).lt (VK_c 9 349 rfl).ka rfl (fun z3 _ => ?_)
    by_cases c5 : z2 ≤ x2
    · rw [if_pos c5] at h
      refine j_icmp_ge_t hx2 z3 dX9_isInNight_13 (tgt := 31) (by decide) c5 ?_
      refine j_iconst dX9_isInNight_31 ?_
      cases h
      exact j_iret dX9_isInNight_32 rfl ((nar_bool (Or.inl rfl)).1) rfl (Or.inl rfl)
    · rw [if_neg c5] at h
      refine j_icmp_ge_f hx2 z3 dX9_isInNight_13 (tgt := 31) (by decide) c5 ?_
      refine j_iload_n (j := 2) dX9_isInNight_16 rfl rfl ?_
      obtain ⟨z7, e6, h⟩ := obind_elim h
      refine j_callS MX9_149 YX9_isNight IX9_isNight (by decide) (by omega) (Nat.le_of_ble_eq_true rfl) rfl (ctX9_isNight (d := d - 1) hl (by omega) hx2 e6) dX9_isInNight_17 rfl (fun z8 _ => ?_)
      by_cases c10 : z7 = 0
      · rw [if_pos c10] at h
        refine j_if_eq_t (bool_inR z8) dX9_isInNight_20 (tgt := 25) (by decide) c10 ?_
        obtain ⟨u11, eu11, h⟩ := bnd_elim h
        have hu11 : inR u11 := by rw [eu11]; exact wrap_inR _
        refine j_iincN (k := 2) (lv' := [(2, vI u11), (0, .ref (gB g + 349)), (1, vI x1)]) eu11 dX9_isInNight_25 rfl (by decide) (by first | rfl | (simp only [List.all_cons, List.all_nil, rv_cat]; rfl)) rfl ?_
        refine j_goto (tgt := 7) dX9_isInNight_28 (by decide) ?_
        exact j_sub [1, 2, 0] rfl (ih u11 hu11 h)
      · rw [if_neg c10] at h
        refine j_if_eq_f (bool_inR z8) dX9_isInNight_20 (tgt := 25) (by decide) c10 ?_
        refine j_iconst dX9_isInNight_23 ?_
        cases h
        exact j_iret dX9_isInNight_24 rfl ((nar_bool (Or.inr rfl)).1) rfl (Or.inr rfl)
set_option maxRecDepth 100000 in
theorem tX9_isInNight_0 {g : JG} {l : Launch} {d N n0 s0 : Nat} {out : Int} {A : AH} {x1 : Int} (hl : l.stackTraces = false) (hd : 3 ≤ d) (hx1 : inR x1) (h : fX9_isInNight N A x1 = some out) : J g l d RX9 "isInNight" cX9_isInNight 3 (some .boolean) n0 s0 ((0, some (vI out), A) : JO) ((out = 0 ∨ out = 1)) 0 [(0, .ref (gB g + 349)), (1, vI x1)] [] A := by
  unfold fX9_isInNight at h
  refine j_aload_n (j := 0) dX9_isInNight_0 rfl rfl ?_
  refine j_getR (q := 359) FX9_37 rfl dX9_isInNight_1 (by decide) (by decide) rfl rfl (by decide) ?_
  refine j_iload_n (j := 1) dX9_isInNight_4 rfl rfl ?_
  obtain ⟨c1, h⟩ := chk_elim h
  refine j_iald hx1 (by decide) (by decide) rfl dX9_isInNight_5 (VK_c 29 359 rfl).1 (VK_c 29 359 rfl).lt (VK_c 29 359 rfl).ka c1 (fun r2 => ?_)
  obtain ⟨u3, eu3, h⟩ := bnd_elim h
  have hu3 : inR u3 := by rw [eu3]; exact r2
  refine j_nm eu3 ?_
  refine j_istore_n (lv' := [(2, vI u3), (0, .ref (gB g + 349)), (1, vI x1)]) dX9_isInNight_6 rfl (by decide) (by first | rfl | (simp only [List.all_cons, List.all_nil, rv_cat]; rfl)) rfl ?_
  exact j_sub [1, 2, 0] rfl (tX9_isInNight_7 hl (by omega) hx1  N u3 hu3 h)
theorem ctX9_isInNight {g : JG} {l : Launch} {d N : Nat} {A : AH} {out : Int} {x1 : Int} (hl : l.stackTraces = false) (hd : 3 ≤ d) (hx1 : inR x1) (h : fX9_isInNight N A x1 = some out) : CT g l yX9_isInNight cX9_isInNight 3 (some .boolean) d [.ref (gB g + 349), vI x1] A ((0, some (vI out), A) : JO) ((out = 0 ∨ out = 1)) :=
  CT_of (by decide +kernel) hl (by first | exact Nat.le_of_ble_eq_true rfl | (unfold rv; split <;> exact Nat.le_of_ble_eq_true rfl)) (by first | rfl | (unfold rv; split <;> rfl)) (j_sub (lv := [(0, .ref (gB g + 349)), (1, vI x1)]) [0, 1] rfl (tX9_isInNight_0 hl hd hx1 h))
set_option maxRecDepth 100000 in
theorem tX9_restedFrom_4 {g : JG} {l : Launch} {d N n0 s0 : Nat} {out : Int} {A : AH} {x1 : Int} (hl : l.stackTraces = false) (hd : 4 ≤ d) (hx1 : inR x1) : ∀ (n : Nat) (x2 : Int) (x3 : Int), inR x2 → inR x3 → fX9_restedFrom_4 N A x1 n x2 x3 = some out → J g l d RX9 "restedFrom" cX9_restedFrom 4 (some .int) n0 s0 ((0, some (vI out), A) : JO) (inR out) 4 [(0, .ref (gB g + 349)), (1, vI x1), (2, vI x2), (3, vI x3)] [] A := by
  intro n
  induction n with
  | zero =>
    intro x2 x3 hx2 hx3 h
    rw [fX9_restedFrom_4] at h
    cases h
  | succ n ih =>
    intro x2 x3 hx2 hx3 h
    rw [fX9_restedFrom_4] at h
    refine j_iload_n (j := 3) dX9_restedFrom_4 rfl rfl ?_
    refine j_aload_n (j := 0) dX9_restedFrom_5 rfl rfl ?_
    refine j_getI FX9_100 rfl dX9_restedFrom_6 (VK_c 9 349 rfl).1 (VK_c 9 349 rfl).lt (VK_c 9 349 rfl).ka (fun r1 => ?_)
    by_cases c2 : (gI A 349 22) ≤ x3
    · rw [if_pos c2] at h
      refine j_icmp_ge_t hx3 r1 dX9_restedFrom_9 (tgt := 48) (by decide) c2 ?_
      refine j_iload_n (j := 2) dX9_restedFrom_48 rfl rfl ?_
      by_cases c3 : 0 ≤ x2
      · rw [if_pos c3] at h
        refine j_if_ge_t hx2 dX9_restedFrom_49 (tgt := 56) (by decide) c3 ?_
        refine j_aload_n (j := 0) dX9_restedFrom_56 rfl rfl ?_
        refine j_iload_n (j := 2) dX9_restedFrom_57 rfl rfl ?_
        obtain ⟨z5, e4, h⟩ := obind_elim h
        refine j_callV MX9_127 YX9_end IX9_end SX9_end (by decide) rfl (by decide) (by omega) (Nat.le_of_ble_eq_true rfl) rfl (ctX9_end (d := d - 1) hl (by omega) hx2 e4) dX9_restedFrom_58 (VK_c 9 349 rfl).1 (VK_c 9 349 rfl).lt (VK_c 9 349 rfl).ka rfl (fun z6 _ => ?_)
        refine j_aload_n (j := 0) dX9_restedFrom_61 rfl rfl ?_
        refine j_getR (q := 350) FX9_7 rfl dX9_restedFrom_62 (by decide) (by decide) rfl rfl (by decide) ?_
        refine j_iconst dX9_restedFrom_65 ?_
        refine j_iald (inR_lit _ rfl) (by decide) (by decide) rfl dX9_restedFrom_66 (VK_c 20 350 rfl).1 (VK_c 20 350 rfl).lt (VK_c 20 350 rfl).ka (by decide) (fun r8 => ?_)
        refine j_iadd dX9_restedFrom_67 ?_
        refine j_aload_n (j := 0) dX9_restedFrom_68 rfl rfl ?_
        refine j_iload_n (j := 2) dX9_restedFrom_69 rfl rfl ?_
        obtain ⟨z10, e9, h⟩ := obind_elim h
        refine j_callV MX9_152 YX9_isInNight IX9_isInNight SX9_isInNight (by decide) rfl (by decide) (by omega) (Nat.le_of_ble_eq_true rfl) rfl (ctX9_isInNight (d := d - 1) hl (by omega) hx2 e9) dX9_restedFrom_70 (VK_c 9 349 rfl).1 (VK_c 9 349 rfl).lt (VK_c 9 349 rfl).ka rfl (fun z11 _ => ?_)
        by_cases c13 : z10 = 0
        · rw [if_pos c13] at h
          refine j_if_eq_t (bool_inR z11) dX9_restedFrom_73 (tgt := 85) (by decide) c13 ?_
          refine j_iconst dX9_restedFrom_85 ?_
          refine j_iadd dX9_restedFrom_86 ?_
          cases h
          exact j_iret dX9_restedFrom_87 rfl rfl rfl (wrap_inR _)
        · rw [if_neg c13] at h
          refine j_if_eq_f (bool_inR z11) dX9_restedFrom_73 (tgt := 85) (by decide) c13 ?_
          refine j_aload_n (j := 0) dX9_restedFrom_76 rfl rfl ?_
          refine j_getR (q := 350) FX9_7 rfl dX9_restedFrom_77 (by decide) (by decide) rfl rfl (by decide) ?_
          refine j_iconst dX9_restedFrom_80 ?_
          refine j_iald (inR_lit _ rfl) (by decide) (by decide) rfl dX9_restedFrom_81 (VK_c 20 350 rfl).1 (VK_c 20 350 rfl).lt (VK_c 20 350 rfl).ka (by decide) (fun r14 => ?_)
          refine j_goto (tgt := 86) dX9_restedFrom_82 (by decide) ?_
          refine j_iadd dX9_restedFrom_86 ?_
          cases h
          exact j_iret dX9_restedFrom_87 rfl rfl rfl (wrap_inR _)
      · rw [if_neg c3] at h
        refine j_if_ge_f hx2 dX9_restedFrom_49 (tgt := 56) (by decide) c3 ?_
        refine j_iconst dX9_restedFrom_52 ?_
        refine j_goto (tgt := 87) dX9_restedFrom_53 (by decide) ?_
        cases h
        exact j_iret dX9_restedFrom_87 rfl rfl rfl (inR_lit _ rfl)
    · rw [if_neg c2] at h
      refine j_icmp_ge_f hx3 r1 dX9_restedFrom_9 (tgt := 48) (by decide) c2 ?_
      refine j_aload_n (j := 0) dX9_restedFrom_12 rfl rfl ?_
      refine j_iload_n (j := 3) dX9_restedFrom_13 rfl rfl ?_
      refine j_iload_n (j := 1) dX9_restedFrom_14 rfl rfl ?_
      obtain ⟨z16, e15, h⟩ := obind_elim h
      refine j_callV MX9_124 YX9_isTripOf IX9_isTripOf SX9_isTripOf (by decide) rfl (by decide) (by omega) (Nat.le_of_ble_eq_true rfl) rfl (ctX9_isTripOf (d := d - 1) hl (by omega) hx3 hx1 e15) dX9_restedFrom_15 (VK_c 9 349 rfl).1 (VK_c 9 349 rfl).lt (VK_c 9 349 rfl).ka rfl (fun z17 _ => ?_)
      by_cases c19 : z16 = 0
      · rw [if_pos c19] at h
        refine j_if_eq_t (bool_inR z17) dX9_restedFrom_18 (tgt := 42) (by decide) c19 ?_
        obtain ⟨u20, eu20, h⟩ := bnd_elim h
        have hu20 : inR u20 := by rw [eu20]; exact wrap_inR _
        refine j_iincN (k := 3) (lv' := [(3, vI u20), (0, .ref (gB g + 349)), (1, vI x1), (2, vI x2)]) eu20 dX9_restedFrom_42 rfl (by decide) (by first | rfl | (simp only [List.all_cons, List.all_nil, rv_cat]; rfl)) rfl ?_
        refine j_goto (tgt := 4) dX9_restedFrom_45 (by decide) ?_
        exact j_sub [1, 2, 3, 0] rfl (ih x2 u20 hx2 hu20 h)
      · rw [if_neg c19] at h
        refine j_if_eq_f (bool_inR z17) dX9_restedFrom_18 (tgt := 42) (by decide) c19 ?_
        refine j_iload_n (j := 2) dX9_restedFrom_21 rfl rfl ?_
        by_cases c21 : x2 < 0
        · rw [if_pos c21] at h
          refine j_if_lt_t hx2 dX9_restedFrom_22 (tgt := 40) (by decide) c21 ?_
          refine j_iload_n (j := 3) dX9_restedFrom_40 rfl rfl ?_
          refine j_istore_n (lv' := [(2, vI x3), (0, .ref (gB g + 349)), (1, vI x1), (3, vI x3)]) dX9_restedFrom_41 rfl (by decide) (by first | rfl | (simp only [List.all_cons, List.all_nil, rv_cat]; rfl)) rfl ?_
          obtain ⟨u22, eu22, h⟩ := bnd_elim h
          have hu22 : inR u22 := by rw [eu22]; exact wrap_inR _
          refine j_iincN (k := 3) (lv' := [(3, vI u22), (2, vI x3), (0, .ref (gB g + 349)), (1, vI x1)]) eu22 dX9_restedFrom_42 rfl (by decide) (by first | rfl | (simp only [List.all_cons, List.all_nil, rv_cat]; rfl)) rfl ?_
          refine j_goto (tgt := 4) dX9_restedFrom_45 (by decide) ?_
          exact j_sub [2, 3, 1, 0] rfl (ih x3 u22 hx3 hu22 h)
        · rw [if_neg c21] at h
          refine j_if_lt_f hx2 dX9_restedFrom_22 (tgt := 40) (by decide) c21 ?_
          refine j_aload_n (j := 0) dX9_restedFrom_25 rfl rfl ?_
          refine j_getR (q := 359) FX9_37 rfl dX9_restedFrom_26 (by decide) (by decide) rfl rfl (by decide) ?_
          refine j_iload_n (j := 3) dX9_restedFrom_29 rfl rfl ?_
          obtain ⟨c23, h⟩ := chk_elim h
          refine j_iald hx3 (by decide) (by decide) rfl dX9_restedFrom_30 (VK_c 29 359 rfl).1 (VK_c 29 359 rfl).lt (VK_c 29 359 rfl).ka c23 (fun r24 => ?_)
          refine j_aload_n (j := 0) dX9_restedFrom_31 rfl rfl ?_
          refine j_getR (q := 359) FX9_37 rfl dX9_restedFrom_32 (by decide) (by decide) rfl rfl (by decide) ?_
          refine j_iload_n (j := 2) dX9_restedFrom_35 rfl rfl ?_
          obtain ⟨c25, h⟩ := chk_elim h
          refine j_iald hx2 (by decide) (by decide) rfl dX9_restedFrom_36 (VK_c 29 359 rfl).1 (VK_c 29 359 rfl).lt (VK_c 29 359 rfl).ka c25 (fun r26 => ?_)
          by_cases c27 : (gI A 359 x3.toNat) ≤ (gI A 359 x2.toNat)
          · rw [if_pos c27] at h
            refine j_icmp_le_t r24 r26 dX9_restedFrom_37 (tgt := 42) (by decide) c27 ?_
            obtain ⟨u28, eu28, h⟩ := bnd_elim h
            have hu28 : inR u28 := by rw [eu28]; exact wrap_inR _
            refine j_iincN (k := 3) (lv' := [(3, vI u28), (0, .ref (gB g + 349)), (1, vI x1), (2, vI x2)]) eu28 dX9_restedFrom_42 rfl (by decide) (by first | rfl | (simp only [List.all_cons, List.all_nil, rv_cat]; rfl)) rfl ?_
            refine j_goto (tgt := 4) dX9_restedFrom_45 (by decide) ?_
            exact j_sub [1, 2, 3, 0] rfl (ih x2 u28 hx2 hu28 h)
          · rw [if_neg c27] at h
            refine j_icmp_le_f r24 r26 dX9_restedFrom_37 (tgt := 42) (by decide) c27 ?_
            refine j_iload_n (j := 3) dX9_restedFrom_40 rfl rfl ?_
            refine j_istore_n (lv' := [(2, vI x3), (0, .ref (gB g + 349)), (1, vI x1), (3, vI x3)]) dX9_restedFrom_41 rfl (by decide) (by first | rfl | (simp only [List.all_cons, List.all_nil, rv_cat]; rfl)) rfl ?_
            obtain ⟨u29, eu29, h⟩ := bnd_elim h
            have hu29 : inR u29 := by rw [eu29]; exact wrap_inR _
            refine j_iincN (k := 3) (lv' := [(3, vI u29), (2, vI x3), (0, .ref (gB g + 349)), (1, vI x1)]) eu29 dX9_restedFrom_42 rfl (by decide) (by first | rfl | (simp only [List.all_cons, List.all_nil, rv_cat]; rfl)) rfl ?_
            refine j_goto (tgt := 4) dX9_restedFrom_45 (by decide) ?_
            exact j_sub [2, 3, 1, 0] rfl (ih x3 u29 hx3 hu29 h)
set_option maxRecDepth 100000 in
theorem tX9_restedFrom_0 {g : JG} {l : Launch} {d N n0 s0 : Nat} {out : Int} {A : AH} {x1 : Int} (hl : l.stackTraces = false) (hd : 4 ≤ d) (hx1 : inR x1) (h : fX9_restedFrom N A x1 = some out) : J g l d RX9 "restedFrom" cX9_restedFrom 4 (some .int) n0 s0 ((0, some (vI out), A) : JO) (inR out) 0 [(0, .ref (gB g + 349)), (1, vI x1)] [] A := by
  unfold fX9_restedFrom at h
  refine j_iconst dX9_restedFrom_0 ?_
  refine j_istore_n (lv' := [(2, vI (-1)), (0, .ref (gB g + 349)), (1, vI x1)]) dX9_restedFrom_1 rfl (by decide) (by first | rfl | (simp only [List.all_cons, List.all_nil, rv_cat]; rfl)) rfl ?_
  refine j_iconst dX9_restedFrom_2 ?_
  refine j_istore_n (lv' := [(3, vI 0), (2, vI (-1)), (0, .ref (gB g + 349)), (1, vI x1)]) dX9_restedFrom_3 rfl (by decide) (by first | rfl | (simp only [List.all_cons, List.all_nil, rv_cat]; rfl)) rfl ?_
  exact j_sub [2, 3, 1, 0] rfl (tX9_restedFrom_4 hl (by omega) hx1  N (-1) 0 (inR_lit _ rfl) (inR_lit _ rfl) h)
theorem ctX9_restedFrom {g : JG} {l : Launch} {d N : Nat} {A : AH} {out : Int} {x1 : Int} (hl : l.stackTraces = false) (hd : 4 ≤ d) (hx1 : inR x1) (h : fX9_restedFrom N A x1 = some out) : CT g l yX9_restedFrom cX9_restedFrom 4 (some .int) d [.ref (gB g + 349), vI x1] A ((0, some (vI out), A) : JO) (inR out) :=
  CT_of (by decide +kernel) hl (by first | exact Nat.le_of_ble_eq_true rfl | (unfold rv; split <;> exact Nat.le_of_ble_eq_true rfl)) (by first | rfl | (unfold rv; split <;> rfl)) (j_sub (lv := [(0, .ref (gB g + 349)), (1, vI x1)]) [0, 1] rfl (tX9_restedFrom_0 hl hd hx1 h))
set_option maxRecDepth 100000 in
theorem tX9_whyNot_0 {g : JG} {l : Launch} {d N n0 s0 : Nat} {out : Int} {A : AH} {x1 : Int} {x2 : Int} {x3 : Int} {x4 : Int} {x5 : Int} (hl : l.stackTraces = false) (hd : 5 ≤ d) (hx1 : inR x1) (hx2 : inR x2) (hx3 : inR x3) (hx4 : inR x4) (hx5 : inR x5) (h : fX9_whyNot N A x1 x2 x3 x4 x5 = some out) : J g l d RX9 "whyNot" cX9_whyNot 6 (some .int) n0 s0 ((0, some (vI out), A) : JO) (inR out) 0 [(0, .ref (gB g + 349)), (1, vI x1), (2, vI x2), (3, vI x3), (4, vI x4), (5, vI x5)] [] A := by
  unfold fX9_whyNot at h
  refine j_aload_n (j := 0) dX9_whyNot_0 rfl rfl ?_
  refine j_getR (q := 357) FX9_31 rfl dX9_whyNot_1 (by decide) (by decide) rfl rfl (by decide) ?_
  refine j_iload_n (j := 1) dX9_whyNot_4 rfl rfl ?_
  obtain ⟨c1, h⟩ := chk_elim h
  refine j_iald hx1 (by decide) (by decide) rfl dX9_whyNot_5 (VK_c 27 357 rfl).1 (VK_c 27 357 rfl).lt (VK_c 27 357 rfl).ka c1 (fun r2 => ?_)
  by_cases c3 : (gI A 357 x1.toNat) = 0
  · rw [if_pos c3] at h
    refine j_if_eq_t r2 dX9_whyNot_6 (tgt := 11) (by decide) c3 ?_
    refine j_iload_n (j := 3) dX9_whyNot_11 rfl rfl ?_
    refine j_aload_n (j := 0) dX9_whyNot_12 rfl rfl ?_
    refine j_getI FX9_155 rfl dX9_whyNot_13 (VK_c 9 349 rfl).1 (VK_c 9 349 rfl).lt (VK_c 9 349 rfl).ka (fun r4 => ?_)
    by_cases c5 : x3 < (gI A 349 19)
    · rw [if_pos c5] at h
      refine j_icmp_lt_t hx3 r4 dX9_whyNot_16 (tgt := 38) (by decide) c5 ?_
      refine j_iconst dX9_whyNot_38 ?_
      cases h
      exact j_iret dX9_whyNot_39 rfl rfl rfl (inR_lit _ rfl)
    · rw [if_neg c5] at h
      refine j_icmp_lt_f hx3 r4 dX9_whyNot_16 (tgt := 38) (by decide) c5 ?_
      refine j_iload_n (j := 3) dX9_whyNot_19 rfl rfl ?_
      refine j_aload_n (j := 0) dX9_whyNot_20 rfl rfl ?_
      refine j_getR (q := 355) FX9_25 rfl dX9_whyNot_21 (by decide) (by decide) rfl rfl (by decide) ?_
      refine j_iload_n (j := 1) dX9_whyNot_24 rfl rfl ?_
      obtain ⟨c6, h⟩ := chk_elim h
      refine j_iald hx1 (by decide) (by decide) rfl dX9_whyNot_25 (VK_c 25 355 rfl).1 (VK_c 25 355 rfl).lt (VK_c 25 355 rfl).ka c6 (fun r7 => ?_)
      refine j_aload_n (j := 0) dX9_whyNot_26 rfl rfl ?_
      refine j_getR (q := 356) FX9_28 rfl dX9_whyNot_27 (by decide) (by decide) rfl rfl (by decide) ?_
      refine j_iload_n (j := 1) dX9_whyNot_30 rfl rfl ?_
      obtain ⟨c8, h⟩ := chk_elim h
      refine j_iald hx1 (by decide) (by decide) rfl dX9_whyNot_31 (VK_c 26 356 rfl).1 (VK_c 26 356 rfl).lt (VK_c 26 356 rfl).ka c8 (fun r9 => ?_)
      obtain ⟨z11, e10, h⟩ := obind_elim h
      refine j_callS MX9_90 YX9_isBetween IX9_isBetween (by decide) (by omega) (Nat.le_of_ble_eq_true rfl) rfl (ctX9_isBetween (d := d - 1) hl (by omega) hx3 r7 r9 e10) dX9_whyNot_32 rfl (fun z12 _ => ?_)
      by_cases c14 : z11 = 0
      · rw [if_pos c14] at h
        refine j_if_ne_f (bool_inR z12) dX9_whyNot_35 (tgt := 40) (by decide) (fun q => q c14) ?_
        refine j_iconst dX9_whyNot_38 ?_
        cases h
        exact j_iret dX9_whyNot_39 rfl rfl rfl (inR_lit _ rfl)
      · rw [if_neg c14] at h
        refine j_if_ne_t (bool_inR z12) dX9_whyNot_35 (tgt := 40) (by decide) c14 ?_
        refine j_aload_n (j := 0) dX9_whyNot_40 rfl rfl ?_
        refine j_iload_n (j := 1) dX9_whyNot_41 rfl rfl ?_
        refine j_iload_n (j := 3) dX9_whyNot_42 rfl rfl ?_
        obtain ⟨z16, e15, h⟩ := obind_elim h
        refine j_callV MX9_114 YX9_isDeep IX9_isDeep SX9_isDeep (by decide) rfl (by decide) (by omega) (Nat.le_of_ble_eq_true rfl) rfl (ctX9_isDeep (d := d - 1) hl (by omega) hx1 hx3 e15) dX9_whyNot_43 (VK_c 9 349 rfl).1 (VK_c 9 349 rfl).lt (VK_c 9 349 rfl).ka rfl (fun z17 _ => ?_)
        by_cases c19 : z16 = 0
        · rw [if_pos c19] at h
          refine j_if_ne_f (bool_inR z17) dX9_whyNot_46 (tgt := 51) (by decide) (fun q => q c19) ?_
          refine j_iconst dX9_whyNot_49 ?_
          cases h
          exact j_iret dX9_whyNot_50 rfl rfl rfl (inR_lit _ rfl)
        · rw [if_neg c19] at h
          refine j_if_ne_t (bool_inR z17) dX9_whyNot_46 (tgt := 51) (by decide) c19 ?_
          refine j_aload_n (j := 0) dX9_whyNot_51 rfl rfl ?_
          refine j_getR (q := 361) FX9_43 rfl dX9_whyNot_52 (by decide) (by decide) rfl rfl (by decide) ?_
          refine j_iload_n (j := 2) dX9_whyNot_55 rfl rfl ?_
          obtain ⟨c20, h⟩ := chk_elim h
          refine j_iald hx2 (by decide) (by decide) rfl dX9_whyNot_56 (VK_c 31 361 rfl).1 (VK_c 31 361 rfl).lt (VK_c 31 361 rfl).ka c20 (fun r21 => ?_)
          refine j_aload_n (j := 0) dX9_whyNot_57 rfl rfl ?_
          refine j_getR (q := 352) FX9_16 rfl dX9_whyNot_58 (by decide) (by decide) rfl rfl (by decide) ?_
          refine j_iload_n (j := 1) dX9_whyNot_61 rfl rfl ?_
          obtain ⟨c22, h⟩ := chk_elim h
          refine j_iald hx1 (by decide) (by decide) rfl dX9_whyNot_62 (VK_c 22 352 rfl).1 (VK_c 22 352 rfl).lt (VK_c 22 352 rfl).ka c22 (fun r23 => ?_)
          by_cases c24 : (gI A 352 x1.toNat) ≤ (gI A 361 x2.toNat)
          · rw [if_pos c24] at h
            refine j_icmp_ge_t r21 r23 dX9_whyNot_63 (tgt := 68) (by decide) c24 ?_
            refine j_iload_n (j := 3) dX9_whyNot_68 rfl rfl ?_
            refine j_iload (j := 4) dX9_whyNot_69 rfl ?_
            by_cases c25 : x4 ≤ x3
            · rw [if_pos c25] at h
              refine j_icmp_ge_t hx3 hx4 dX9_whyNot_71 (tgt := 76) (by decide) c25 ?_
              refine j_iload (j := 5) dX9_whyNot_76 rfl ?_
              refine j_aload_n (j := 0) dX9_whyNot_78 rfl rfl ?_
              refine j_iload_n (j := 1) dX9_whyNot_79 rfl rfl ?_
              obtain ⟨z27, e26, h⟩ := obind_elim h
              refine j_callV MX9_158 YX9_startOf IX9_startOf SX9_startOf (by decide) rfl (by decide) (by omega) (Nat.le_of_ble_eq_true rfl) rfl (ctX9_startOf (d := d - 1) hl (by omega) hx1 e26) dX9_whyNot_80 (VK_c 9 349 rfl).1 (VK_c 9 349 rfl).lt (VK_c 9 349 rfl).ka rfl (fun z28 _ => ?_)
              by_cases c30 : x5 = z27
              · rw [if_pos c30] at h
                refine j_icmp_eq_t hx5 z28 dX9_whyNot_83 (tgt := 89) (by decide) c30 ?_
                refine j_iload_n (j := 3) dX9_whyNot_89 rfl rfl ?_
                refine j_aload_n (j := 0) dX9_whyNot_90 rfl rfl ?_
                refine j_iload_n (j := 2) dX9_whyNot_91 rfl rfl ?_
                obtain ⟨z32, e31, h⟩ := obind_elim h
                refine j_callV MX9_161 YX9_restedFrom IX9_restedFrom SX9_restedFrom (by decide) rfl (by decide) (by omega) (Nat.le_of_ble_eq_true rfl) rfl (ctX9_restedFrom (d := d - 1) hl (by omega) hx2 e31) dX9_whyNot_92 (VK_c 9 349 rfl).1 (VK_c 9 349 rfl).lt (VK_c 9 349 rfl).ka rfl (fun z33 _ => ?_)
                by_cases c35 : z32 ≤ x3
                · rw [if_pos c35] at h
                  refine j_icmp_ge_t hx3 z33 dX9_whyNot_95 (tgt := 103) (by decide) c35 ?_
                  refine j_iconst dX9_whyNot_103 ?_
                  cases h
                  exact j_iret dX9_whyNot_104 rfl rfl rfl (inR_lit _ rfl)
                · rw [if_neg c35] at h
                  refine j_icmp_ge_f hx3 z33 dX9_whyNot_95 (tgt := 103) (by decide) c35 ?_
                  refine j_bipush dX9_whyNot_98 rfl ?_
                  refine j_goto (tgt := 104) dX9_whyNot_100 (by decide) ?_
                  cases h
                  exact j_iret dX9_whyNot_104 rfl rfl rfl (inR_lit _ rfl)
              · rw [if_neg c30] at h
                refine j_icmp_eq_f hx5 z28 dX9_whyNot_83 (tgt := 89) (by decide) c30 ?_
                refine j_bipush dX9_whyNot_86 rfl ?_
                cases h
                exact j_iret dX9_whyNot_88 rfl rfl rfl (inR_lit _ rfl)
            · rw [if_neg c25] at h
              refine j_icmp_ge_f hx3 hx4 dX9_whyNot_71 (tgt := 76) (by decide) c25 ?_
              refine j_iconst dX9_whyNot_74 ?_
              cases h
              exact j_iret dX9_whyNot_75 rfl rfl rfl (inR_lit _ rfl)
          · rw [if_neg c24] at h
            refine j_icmp_ge_f r21 r23 dX9_whyNot_63 (tgt := 68) (by decide) c24 ?_
            refine j_iconst dX9_whyNot_66 ?_
            cases h
            exact j_iret dX9_whyNot_67 rfl rfl rfl (inR_lit _ rfl)
  · rw [if_neg c3] at h
    refine j_if_eq_f r2 dX9_whyNot_6 (tgt := 11) (by decide) c3 ?_
    refine j_iconst dX9_whyNot_9 ?_
    cases h
    exact j_iret dX9_whyNot_10 rfl rfl rfl (inR_lit _ rfl)
