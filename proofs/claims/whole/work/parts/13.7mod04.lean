theorem ctX9_putOff {g : JG} {l : Launch} {d N : Nat} {A : AH} {out : Int × AH} {x1 : Int} {x2 : Int} (hl : l.stackTraces = false) (hd : 4 ≤ d) (hx1 : inR x1) (hx2 : inR x2) (h : fX9_putOff N A x1 x2 = some out) : CT g l yX9_putOff cX9_putOff 3 (some .int) d [.ref (gB g + 349), vI x1, vI x2] A ((0, some (vI out.1), out.2) : JO) (inR out.1) :=
  CT_of (by decide +kernel) hl (by first | exact Nat.le_of_ble_eq_true rfl | (unfold rv; split <;> exact Nat.le_of_ble_eq_true rfl)) (by first | rfl | (unfold rv; split <;> rfl)) (j_sub (lv := [(0, .ref (gB g + 349)), (1, vI x1), (2, vI x2)]) [0, 1, 2] rfl (tX9_putOff_0 hl hd hx1 hx2 h))
set_option maxRecDepth 100000 in
theorem tX9_urgent_39 {g : JG} {l : Launch} {d N n0 s0 : Nat} {out : Int × AH} {A : AH} {x2 : Int} (hl : l.stackTraces = false) (hd : 3 ≤ d) (hx2 : inR x2) (h : fX9_urgent_39 N A x2 = some out) : J g l d RX9 "urgent" cX9_urgent 4 (some .int) n0 s0 ((0, some (vI out.1), out.2) : JO) (inR out.1) 39 [(0, .ref (gB g + 349)), (2, vI x2)] [] A := by
  unfold fX9_urgent_39 at h
  refine j_iload_n (j := 1) dX9_urgent_39 rfl rfl ?_
  by_cases c1 : 0 ≤ x2
  · rw [if_pos c1] at h
    refine j_if_ge_t hx2 dX9_urgent_40 (tgt := 49) (by decide) c1 ?_
    refine j_aload_n (j := 0) dX9_urgent_49 rfl rfl ?_
    refine j_iconst dX9_urgent_50 ?_
    obtain ⟨A2, eA2, h⟩ := bnd_elim h
    have xA2 : XT A A2 := by rw [eA2]; exact XT_sI _ _ _ _
    refine j_putI FX9_87 rfl rfl rfl (inR_lit _ rfl) dX9_urgent_51 (VK_c 9 349 rfl).1 (VK_c 9 349 rfl).lt (VK_c 9 349 rfl).ka ?_
    refine j_hB eA2 ?_
    refine j_iload_n (j := 1) dX9_urgent_54 rfl rfl ?_
    cases h
    exact j_iret dX9_urgent_55 rfl rfl rfl hx2
  · rw [if_neg c1] at h
    refine j_if_ge_f hx2 dX9_urgent_40 (tgt := 49) (by decide) c1 ?_
    refine j_aload_n (j := 0) dX9_urgent_43 rfl rfl ?_
    refine j_iconst dX9_urgent_44 ?_
    obtain ⟨p4, e3, h⟩ := obind_elim h
    refine j_callV MX9_220 YX9_fails IX9_fails SX9_fails (by decide) rfl (by decide) (by omega) (Nat.le_of_ble_eq_true rfl) rfl (ctX9_fails (d := d - 1) hl (by omega) (inR_lit _ rfl) e3) dX9_urgent_45 (VK_c 9 349 rfl).1 (VK_c 9 349 rfl).lt (VK_c 9 349 rfl).ka rfl (fun z5 xt6 => ?_)
    cases h
    exact j_iret dX9_urgent_48 rfl rfl rfl z5
set_option maxRecDepth 100000 in
theorem tX9_urgent_18 {g : JG} {l : Launch} {d N n0 s0 : Nat} {out : Int × AH} {x1 : Int} (hl : l.stackTraces = false) (hd : 3 ≤ d) (hx1 : inR x1) : ∀ (n : Nat) (A : AH) (x2 : Int) (x3 : Int), inR x2 → inR x3 → fX9_urgent_18 N x1 n A x2 x3 = some out → J g l d RX9 "urgent" cX9_urgent 4 (some .int) n0 s0 ((0, some (vI out.1), out.2) : JO) (inR out.1) 18 [(0, .ref (gB g + 349)), (1, vI x1), (2, vI x2), (3, vI x3)] [] A := by
  intro n
  induction n with
  | zero =>
    intro A x2 x3 hx2 hx3 h
    rw [fX9_urgent_18] at h
    cases h
  | succ n ih =>
    intro A x2 x3 hx2 hx3 h
    rw [fX9_urgent_18] at h
    refine j_iload_n (j := 3) dX9_urgent_18 rfl rfl ?_
    refine j_iload_n (j := 1) dX9_urgent_19 rfl rfl ?_
    by_cases c1 : x1 ≤ x3
    · rw [if_pos c1] at h
      refine j_icmp_ge_t hx3 hx1 dX9_urgent_20 (tgt := 39) (by decide) c1 ?_
      exact j_sub [0, 2] rfl (tX9_urgent_39 hl (by omega) hx2  h)
    · rw [if_neg c1] at h
      refine j_icmp_ge_f hx3 hx1 dX9_urgent_20 (tgt := 39) (by decide) c1 ?_
      refine j_iload_n (j := 2) dX9_urgent_23 rfl rfl ?_
      by_cases c2 : x2 < 0
      · rw [if_pos c2] at h
        refine j_if_lt_t hx2 dX9_urgent_24 (tgt := 39) (by decide) c2 ?_
        exact j_sub [0, 2] rfl (tX9_urgent_39 hl (by omega) hx2  h)
      · rw [if_neg c2] at h
        refine j_if_lt_f hx2 dX9_urgent_24 (tgt := 39) (by decide) c2 ?_
        refine j_aload_n (j := 0) dX9_urgent_27 rfl rfl ?_
        refine j_iload_n (j := 2) dX9_urgent_28 rfl rfl ?_
        obtain ⟨z4, e3, h⟩ := obind_elim h
        refine j_callV MX9_264 YX9_nextUrgent IX9_nextUrgent SX9_nextUrgent (by decide) rfl (by decide) (by omega) (Nat.le_of_ble_eq_true rfl) rfl (ctX9_nextUrgent (d := d - 1) hl (by omega) hx2 e3) dX9_urgent_29 (VK_c 9 349 rfl).1 (VK_c 9 349 rfl).lt (VK_c 9 349 rfl).ka rfl (fun z5 _ => ?_)
        refine j_istore_n (lv' := [(2, vI z4), (0, .ref (gB g + 349)), (1, vI x1), (3, vI x3)]) dX9_urgent_32 rfl (by decide) (by first | rfl | (simp only [List.all_cons, List.all_nil, rv_cat]; rfl)) rfl ?_
        obtain ⟨u7, eu7, h⟩ := bnd_elim h
        have hu7 : inR u7 := by rw [eu7]; exact wrap_inR _
        refine j_iincN (k := 3) (lv' := [(3, vI u7), (2, vI z4), (0, .ref (gB g + 349)), (1, vI x1)]) eu7 dX9_urgent_33 rfl (by decide) (by first | rfl | (simp only [List.all_cons, List.all_nil, rv_cat]; rfl)) rfl ?_
        refine j_goto (tgt := 18) dX9_urgent_36 (by decide) ?_
        exact j_sub [2, 3, 1, 0] rfl (ih A z4 u7 z5 hu7 h)
set_option maxRecDepth 100000 in
theorem tX9_urgent_0 {g : JG} {l : Launch} {d N n0 s0 : Nat} {out : Int × AH} {A : AH} {x1 : Int} (hl : l.stackTraces = false) (hd : 3 ≤ d) (hx1 : inR x1) (h : fX9_urgent N A x1 = some out) : J g l d RX9 "urgent" cX9_urgent 4 (some .int) n0 s0 ((0, some (vI out.1), out.2) : JO) (inR out.1) 0 [(0, .ref (gB g + 349)), (1, vI x1)] [] A := by
  unfold fX9_urgent at h
  refine j_iload_n (j := 1) dX9_urgent_0 rfl rfl ?_
  by_cases c1 : 0 ≤ x1
  · rw [if_pos c1] at h
    refine j_if_ge_t hx1 dX9_urgent_1 (tgt := 10) (by decide) c1 ?_
    refine j_aload_n (j := 0) dX9_urgent_10 rfl rfl ?_
    refine j_iconst dX9_urgent_11 ?_
    obtain ⟨z3, e2, h⟩ := obind_elim h
    refine j_callV MX9_264 YX9_nextUrgent IX9_nextUrgent SX9_nextUrgent (by decide) rfl (by decide) (by omega) (Nat.le_of_ble_eq_true rfl) rfl (ctX9_nextUrgent (d := d - 1) hl (by omega) (inR_lit _ rfl) e2) dX9_urgent_12 (VK_c 9 349 rfl).1 (VK_c 9 349 rfl).lt (VK_c 9 349 rfl).ka rfl (fun z4 _ => ?_)
    refine j_istore_n (lv' := [(2, vI z3), (0, .ref (gB g + 349)), (1, vI x1)]) dX9_urgent_15 rfl (by decide) (by first | rfl | (simp only [List.all_cons, List.all_nil, rv_cat]; rfl)) rfl ?_
    refine j_iconst dX9_urgent_16 ?_
    refine j_istore_n (lv' := [(3, vI 0), (2, vI z3), (0, .ref (gB g + 349)), (1, vI x1)]) dX9_urgent_17 rfl (by decide) (by first | rfl | (simp only [List.all_cons, List.all_nil, rv_cat]; rfl)) rfl ?_
    exact j_sub [2, 3, 1, 0] rfl (tX9_urgent_18 hl (by omega) hx1  N A z3 0 z4 (inR_lit _ rfl) h)
  · rw [if_neg c1] at h
    refine j_if_ge_f hx1 dX9_urgent_1 (tgt := 10) (by decide) c1 ?_
    refine j_aload_n (j := 0) dX9_urgent_4 rfl rfl ?_
    refine j_iconst dX9_urgent_5 ?_
    obtain ⟨p7, e6, h⟩ := obind_elim h
    refine j_callV MX9_220 YX9_fails IX9_fails SX9_fails (by decide) rfl (by decide) (by omega) (Nat.le_of_ble_eq_true rfl) rfl (ctX9_fails (d := d - 1) hl (by omega) (inR_lit _ rfl) e6) dX9_urgent_6 (VK_c 9 349 rfl).1 (VK_c 9 349 rfl).lt (VK_c 9 349 rfl).ka rfl (fun z8 xt9 => ?_)
    cases h
    exact j_iret dX9_urgent_9 rfl rfl rfl z8
theorem ctX9_urgent {g : JG} {l : Launch} {d N : Nat} {A : AH} {out : Int × AH} {x1 : Int} (hl : l.stackTraces = false) (hd : 3 ≤ d) (hx1 : inR x1) (h : fX9_urgent N A x1 = some out) : CT g l yX9_urgent cX9_urgent 4 (some .int) d [.ref (gB g + 349), vI x1] A ((0, some (vI out.1), out.2) : JO) (inR out.1) :=
  CT_of (by decide +kernel) hl (by first | exact Nat.le_of_ble_eq_true rfl | (unfold rv; split <;> exact Nat.le_of_ble_eq_true rfl)) (by first | rfl | (unfold rv; split <;> rfl)) (j_sub (lv := [(0, .ref (gB g + 349)), (1, vI x1)]) [0, 1] rfl (tX9_urgent_0 hl hd hx1 h))
set_option maxRecDepth 100000 in
theorem tX9_tripHours_4 {g : JG} {l : Launch} {d N n0 s0 : Nat} {out : Int} {A : AH} {x1 : Int} (hl : l.stackTraces = false) (hd : 3 ≤ d) (hx1 : inR x1) : ∀ (n : Nat) (x2 : Int) (x3 : Int), inR x2 → inR x3 → fX9_tripHours_4 N A x1 n x2 x3 = some out → J g l d RX9 "tripHours" cX9_tripHours 4 (some .int) n0 s0 ((0, some (vI out), A) : JO) (inR out) 4 [(0, .ref (gB g + 349)), (1, vI x1), (2, vI x2), (3, vI x3)] [] A := by
  intro n
  induction n with
  | zero =>
    intro x2 x3 hx2 hx3 h
    rw [fX9_tripHours_4] at h
    cases h
  | succ n ih =>
    intro x2 x3 hx2 hx3 h
    rw [fX9_tripHours_4] at h
    refine j_iload_n (j := 3) dX9_tripHours_4 rfl rfl ?_
    refine j_aload_n (j := 0) dX9_tripHours_5 rfl rfl ?_
    refine j_getI FX9_100 rfl dX9_tripHours_6 (VK_c 9 349 rfl).1 (VK_c 9 349 rfl).lt (VK_c 9 349 rfl).ka (fun r1 => ?_)
    by_cases c2 : (gI A 349 22) ≤ x3
    · rw [if_pos c2] at h
      refine j_icmp_ge_t hx3 r1 dX9_tripHours_9 (tgt := 39) (by decide) c2 ?_
      refine j_iload_n (j := 2) dX9_tripHours_39 rfl rfl ?_
      cases h
      exact j_iret dX9_tripHours_40 rfl rfl rfl hx2
    · rw [if_neg c2] at h
      refine j_icmp_ge_f hx3 r1 dX9_tripHours_9 (tgt := 39) (by decide) c2 ?_
      refine j_iload_n (j := 2) dX9_tripHours_12 rfl rfl ?_
      refine j_aload_n (j := 0) dX9_tripHours_13 rfl rfl ?_
      refine j_iload_n (j := 3) dX9_tripHours_14 rfl rfl ?_
      refine j_iload_n (j := 1) dX9_tripHours_15 rfl rfl ?_
      obtain ⟨z4, e3, h⟩ := obind_elim h
      refine j_callV MX9_124 YX9_isTripOf IX9_isTripOf SX9_isTripOf (by decide) rfl (by decide) (by omega) (Nat.le_of_ble_eq_true rfl) rfl (ctX9_isTripOf (d := d - 1) hl (by omega) hx3 hx1 e3) dX9_tripHours_16 (VK_c 9 349 rfl).1 (VK_c 9 349 rfl).lt (VK_c 9 349 rfl).ka rfl (fun z5 _ => ?_)
      by_cases c7 : z4 = 0
      · rw [if_pos c7] at h
        refine j_if_eq_t (bool_inR z5) dX9_tripHours_19 (tgt := 30) (by decide) c7 ?_
        refine j_iconst dX9_tripHours_30 ?_
        refine j_iadd dX9_tripHours_31 ?_
        obtain ⟨u8, eu8, h⟩ := bnd_elim h
        have hu8 : inR u8 := by rw [eu8]; exact (wrap_inR _)
        refine j_nm eu8 ?_
        refine j_istore_n (lv' := [(2, vI u8), (0, .ref (gB g + 349)), (1, vI x1), (3, vI x3)]) dX9_tripHours_32 rfl (by decide) (by first | rfl | (simp only [List.all_cons, List.all_nil, rv_cat]; rfl)) rfl ?_
        obtain ⟨u9, eu9, h⟩ := bnd_elim h
        have hu9 : inR u9 := by rw [eu9]; exact wrap_inR _
        refine j_iincN (k := 3) (lv' := [(3, vI u9), (2, vI u8), (0, .ref (gB g + 349)), (1, vI x1)]) eu9 dX9_tripHours_33 rfl (by decide) (by first | rfl | (simp only [List.all_cons, List.all_nil, rv_cat]; rfl)) rfl ?_
        refine j_goto (tgt := 4) dX9_tripHours_36 (by decide) ?_
        exact j_sub [2, 3, 1, 0] rfl (ih u8 u9 hu8 hu9 h)
      · rw [if_neg c7] at h
        refine j_if_eq_f (bool_inR z5) dX9_tripHours_19 (tgt := 30) (by decide) c7 ?_
        refine j_aload_n (j := 0) dX9_tripHours_22 rfl rfl ?_
        refine j_iload_n (j := 3) dX9_tripHours_23 rfl rfl ?_
        obtain ⟨z11, e10, h⟩ := obind_elim h
        refine j_callV MX9_103 YX9_length IX9_length SX9_length (by decide) rfl (by decide) (by omega) (Nat.le_of_ble_eq_true rfl) rfl (ctX9_length (d := d - 1) hl (by omega) hx3 e10) dX9_tripHours_24 (VK_c 9 349 rfl).1 (VK_c 9 349 rfl).lt (VK_c 9 349 rfl).ka rfl (fun z12 _ => ?_)
        refine j_goto (tgt := 31) dX9_tripHours_27 (by decide) ?_
        refine j_iadd dX9_tripHours_31 ?_
        obtain ⟨u14, eu14, h⟩ := bnd_elim h
        have hu14 : inR u14 := by rw [eu14]; exact (wrap_inR _)
        refine j_nm eu14 ?_
        refine j_istore_n (lv' := [(2, vI u14), (0, .ref (gB g + 349)), (1, vI x1), (3, vI x3)]) dX9_tripHours_32 rfl (by decide) (by first | rfl | (simp only [List.all_cons, List.all_nil, rv_cat]; rfl)) rfl ?_
        obtain ⟨u15, eu15, h⟩ := bnd_elim h
        have hu15 : inR u15 := by rw [eu15]; exact wrap_inR _
        refine j_iincN (k := 3) (lv' := [(3, vI u15), (2, vI u14), (0, .ref (gB g + 349)), (1, vI x1)]) eu15 dX9_tripHours_33 rfl (by decide) (by first | rfl | (simp only [List.all_cons, List.all_nil, rv_cat]; rfl)) rfl ?_
        refine j_goto (tgt := 4) dX9_tripHours_36 (by decide) ?_
        exact j_sub [2, 3, 1, 0] rfl (ih u14 u15 hu14 hu15 h)
set_option maxRecDepth 100000 in
theorem tX9_tripHours_0 {g : JG} {l : Launch} {d N n0 s0 : Nat} {out : Int} {A : AH} {x1 : Int} (hl : l.stackTraces = false) (hd : 3 ≤ d) (hx1 : inR x1) (h : fX9_tripHours N A x1 = some out) : J g l d RX9 "tripHours" cX9_tripHours 4 (some .int) n0 s0 ((0, some (vI out), A) : JO) (inR out) 0 [(0, .ref (gB g + 349)), (1, vI x1)] [] A := by
  unfold fX9_tripHours at h
  refine j_iconst dX9_tripHours_0 ?_
  refine j_istore_n (lv' := [(2, vI 0), (0, .ref (gB g + 349)), (1, vI x1)]) dX9_tripHours_1 rfl (by decide) (by first | rfl | (simp only [List.all_cons, List.all_nil, rv_cat]; rfl)) rfl ?_
  refine j_iconst dX9_tripHours_2 ?_
  refine j_istore_n (lv' := [(3, vI 0), (2, vI 0), (0, .ref (gB g + 349)), (1, vI x1)]) dX9_tripHours_3 rfl (by decide) (by first | rfl | (simp only [List.all_cons, List.all_nil, rv_cat]; rfl)) rfl ?_
  exact j_sub [2, 3, 1, 0] rfl (tX9_tripHours_4 hl (by omega) hx1  N 0 0 (inR_lit _ rfl) (inR_lit _ rfl) h)
theorem ctX9_tripHours {g : JG} {l : Launch} {d N : Nat} {A : AH} {out : Int} {x1 : Int} (hl : l.stackTraces = false) (hd : 3 ≤ d) (hx1 : inR x1) (h : fX9_tripHours N A x1 = some out) : CT g l yX9_tripHours cX9_tripHours 4 (some .int) d [.ref (gB g + 349), vI x1] A ((0, some (vI out), A) : JO) (inR out) :=
  CT_of (by decide +kernel) hl (by first | exact Nat.le_of_ble_eq_true rfl | (unfold rv; split <;> exact Nat.le_of_ble_eq_true rfl)) (by first | rfl | (unfold rv; split <;> rfl)) (j_sub (lv := [(0, .ref (gB g + 349)), (1, vI x1)]) [0, 1] rfl (tX9_tripHours_0 hl hd hx1 h))
set_option maxRecDepth 100000 in
theorem tX9_trips_4 {g : JG} {l : Launch} {d N n0 s0 : Nat} {out : Int} {A : AH} {x1 : Int} (hl : l.stackTraces = false) (hd : 3 ≤ d) (hx1 : inR x1) : ∀ (n : Nat) (x2 : Int) (x3 : Int), inR x2 → inR x3 → fX9_trips_4 N A x1 n x2 x3 = some out → J g l d RX9 "trips" cX9_trips 4 (some .int) n0 s0 ((0, some (vI out), A) : JO) (inR out) 4 [(0, .ref (gB g + 349)), (1, vI x1), (2, vI x2), (3, vI x3)] [] A := by
  intro n
  induction n with
  | zero =>
    intro x2 x3 hx2 hx3 h
    rw [fX9_trips_4] at h
    cases h
  | succ n ih =>
    intro x2 x3 hx2 hx3 h
    rw [fX9_trips_4] at h
    refine j_iload_n (j := 3) dX9_trips_4 rfl rfl ?_
    refine j_aload_n (j := 0) dX9_trips_5 rfl rfl ?_
    refine j_getI FX9_100 rfl dX9_trips_6 (VK_c 9 349 rfl).1 (VK_c 9 349 rfl).lt (VK_c 9 349 rfl).ka (fun r1 => ?_)
    by_cases c2 : (gI A 349 22) ≤ x3
    · rw [if_pos c2] at h
      refine j_icmp_ge_t hx3 r1 dX9_trips_9 (tgt := 35) (by decide) c2 ?_
      refine j_iload_n (j := 2) dX9_trips_35 rfl rfl ?_
      cases h
      exact j_iret dX9_trips_36 rfl rfl rfl hx2
    · rw [if_neg c2] at h
      refine j_icmp_ge_f hx3 r1 dX9_trips_9 (tgt := 35) (by decide) c2 ?_
      refine j_iload_n (j := 2) dX9_trips_12 rfl rfl ?_
      refine j_aload_n (j := 0) dX9_trips_13 rfl rfl ?_
      refine j_iload_n (j := 3) dX9_trips_14 rfl rfl ?_
      refine j_iload_n (j := 1) dX9_trips_15 rfl rfl ?_
      obtain ⟨z4, e3, h⟩ := obind_elim h
      refine j_callV MX9_124 YX9_isTripOf IX9_isTripOf SX9_isTripOf (by decide) rfl (by decide) (by omega) (Nat.le_of_ble_eq_true rfl) rfl (ctX9_isTripOf (d := d - 1) hl (by omega) hx3 hx1 e3) dX9_trips_16 (VK_c 9 349 rfl).1 (VK_c 9 349 rfl).lt (VK_c 9 349 rfl).ka rfl (fun z5 _ => ?_)
      by_cases c7 : z4 = 0
      · rw [if_pos c7] at h
        refine j_if_eq_t (bool_inR z5) dX9_trips_19 (tgt := 26) (by decide) c7 ?_
        refine j_iconst dX9_trips_26 ?_
        refine j_iadd dX9_trips_27 ?_
        obtain ⟨u8, eu8, h⟩ := bnd_elim h
        have hu8 : inR u8 := by rw [eu8]; exact (wrap_inR _)
        refine j_nm eu8 ?_
        refine j_istore_n (lv' := [(2, vI u8), (0, .ref (gB g + 349)), (1, vI x1), (3, vI x3)]) dX9_trips_28 rfl (by decide) (by first | rfl | (simp only [List.all_cons, List.all_nil, rv_cat]; rfl)) rfl ?_
        obtain ⟨u9, eu9, h⟩ := bnd_elim h
        have hu9 : inR u9 := by rw [eu9]; exact wrap_inR _
        refine j_iincN (k := 3) (lv' := [(3, vI u9), (2, vI u8), (0, .ref (gB g + 349)), (1, vI x1)]) eu9 dX9_trips_29 rfl (by decide) (by first | rfl | (simp only [List.all_cons, List.all_nil, rv_cat]; rfl)) rfl ?_
        refine j_goto (tgt := 4) dX9_trips_32 (by decide) ?_
        exact j_sub [2, 3, 1, 0] rfl (ih u8 u9 hu8 hu9 h)
      · rw [if_neg c7] at h
        refine j_if_eq_f (bool_inR z5) dX9_trips_19 (tgt := 26) (by decide) c7 ?_
        refine j_iconst dX9_trips_22 ?_
        refine j_goto (tgt := 27) dX9_trips_23 (by decide) ?_
        refine j_iadd dX9_trips_27 ?_
        obtain ⟨u10, eu10, h⟩ := bnd_elim h
        have hu10 : inR u10 := by rw [eu10]; exact (wrap_inR _)
        refine j_nm eu10 ?_
        refine j_istore_n (lv' := [(2, vI u10), (0, .ref (gB g + 349)), (1, vI x1), (3, vI x3)]) dX9_trips_28 rfl (by decide) (by first | rfl | (simp only [List.all_cons, List.all_nil, rv_cat]; rfl)) rfl ?_
        obtain ⟨u11, eu11, h⟩ := bnd_elim h
        have hu11 : inR u11 := by rw [eu11]; exact wrap_inR _
        refine j_iincN (k := 3) (lv' := [(3, vI u11), (2, vI u10), (0, .ref (gB g + 349)), (1, vI x1)]) eu11 dX9_trips_29 rfl (by decide) (by first | rfl | (simp only [List.all_cons, List.all_nil, rv_cat]; rfl)) rfl ?_
        refine j_goto (tgt := 4) dX9_trips_32 (by decide) ?_
        exact j_sub [2, 3, 1, 0] rfl (ih u10 u11 hu10 hu11 h)
set_option maxRecDepth 100000 in
theorem tX9_trips_0 {g : JG} {l : Launch} {d N n0 s0 : Nat} {out : Int} {A : AH} {x1 : Int} (hl : l.stackTraces = false) (hd : 3 ≤ d) (hx1 : inR x1) (h : fX9_trips N A x1 = some out) : J g l d RX9 "trips" cX9_trips 4 (some .int) n0 s0 ((0, some (vI out), A) : JO) (inR out) 0 [(0, .ref (gB g + 349)), (1, vI x1)] [] A := by
  unfold fX9_trips at h
  refine j_iconst dX9_trips_0 ?_
  refine j_istore_n (lv' := [(2, vI 0), (0, .ref (gB g + 349)), (1, vI x1)]) dX9_trips_1 rfl (by decide) (by first | rfl | (simp only [List.all_cons, List.all_nil, rv_cat]; rfl)) rfl ?_
  refine j_iconst dX9_trips_2 ?_
  refine j_istore_n (lv' := [(3, vI 0), (2, vI 0), (0, .ref (gB g + 349)), (1, vI x1)]) dX9_trips_3 rfl (by decide) (by first | rfl | (simp only [List.all_cons, List.all_nil, rv_cat]; rfl)) rfl ?_
  exact j_sub [2, 3, 1, 0] rfl (tX9_trips_4 hl (by omega) hx1  N 0 0 (inR_lit _ rfl) (inR_lit _ rfl) h)
theorem ctX9_trips {g : JG} {l : Launch} {d N : Nat} {A : AH} {out : Int} {x1 : Int} (hl : l.stackTraces = false) (hd : 3 ≤ d) (hx1 : inR x1) (h : fX9_trips N A x1 = some out) : CT g l yX9_trips cX9_trips 4 (some .int) d [.ref (gB g + 349), vI x1] A ((0, some (vI out), A) : JO) (inR out) :=
  CT_of (by decide +kernel) hl (by first | exact Nat.le_of_ble_eq_true rfl | (unfold rv; split <;> exact Nat.le_of_ble_eq_true rfl)) (by first | rfl | (unfold rv; split <;> rfl)) (j_sub (lv := [(0, .ref (gB g + 349)), (1, vI x1)]) [0, 1] rfl (tX9_trips_0 hl hd hx1 h))
set_option maxRecDepth 100000 in
theorem tX9_rides_4 {g : JG} {l : Launch} {d N n0 s0 : Nat} {out : Int} {A : AH} {x1 : Int} (hl : l.stackTraces = false) (hd : 2 ≤ d) (hx1 : inR x1) : ∀ (n : Nat) (x2 : Int) (x3 : Int), inR x2 → inR x3 → fX9_rides_4 N A x1 n x2 x3 = some out → J g l d RX9 "rides" cX9_rides 4 (some .int) n0 s0 ((0, some (vI out), A) : JO) (inR out) 4 [(0, .ref (gB g + 349)), (1, vI x1), (2, vI x2), (3, vI x3)] [] A := by
  intro n
  induction n with
  | zero =>
    intro x2 x3 hx2 hx3 h
    rw [fX9_rides_4] at h
    cases h
  | succ n ih =>
    intro x2 x3 hx2 hx3 h
    rw [fX9_rides_4] at h
    refine j_iload_n (j := 3) dX9_rides_4 rfl rfl ?_
    refine j_aload_n (j := 0) dX9_rides_5 rfl rfl ?_
    refine j_getI FX9_137 rfl dX9_rides_6 (VK_c 9 349 rfl).1 (VK_c 9 349 rfl).lt (VK_c 9 349 rfl).ka (fun r1 => ?_)
    by_cases c2 : (gI A 349 23) ≤ x3
    · rw [if_pos c2] at h
      refine j_icmp_ge_t hx3 r1 dX9_rides_9 (tgt := 39) (by decide) c2 ?_
      refine j_iload_n (j := 2) dX9_rides_39 rfl rfl ?_
      cases h
      exact j_iret dX9_rides_40 rfl rfl rfl hx2
    · rw [if_neg c2] at h
      refine j_icmp_ge_f hx3 r1 dX9_rides_9 (tgt := 39) (by decide) c2 ?_
      refine j_iload_n (j := 2) dX9_rides_12 rfl rfl ?_
      refine j_aload_n (j := 0) dX9_rides_13 rfl rfl ?_
      refine j_getR (q := 367) FX9_61 rfl dX9_rides_14 (by decide) (by decide) rfl rfl (by decide) ?_
      refine j_iload_n (j := 3) dX9_rides_17 rfl rfl ?_
      obtain ⟨c3, h⟩ := chk_elim h
      refine j_iald hx3 (by decide) (by decide) rfl dX9_rides_18 (VK_c 37 367 rfl).1 (VK_c 37 367 rfl).lt (VK_c 37 367 rfl).ka c3 (fun r4 => ?_)
      refine j_iload_n (j := 1) dX9_rides_19 rfl rfl ?_
      obtain ⟨z6, e5, h⟩ := obind_elim h
      refine j_callS MX9_140 YX9_has IX9_has (by decide) (by omega) (Nat.le_of_ble_eq_true rfl) rfl (ctX9_has (d := d - 1) hl (by omega) r4 hx1 e5) dX9_rides_20 rfl (fun z7 _ => ?_)
      by_cases c9 : z6 = 0
      · rw [if_pos c9] at h
        refine j_if_eq_t (bool_inR z7) dX9_rides_23 (tgt := 30) (by decide) c9 ?_
        refine j_iconst dX9_rides_30 ?_
        refine j_iadd dX9_rides_31 ?_
        obtain ⟨u10, eu10, h⟩ := bnd_elim h
        have hu10 : inR u10 := by rw [eu10]; exact (wrap_inR _)
        refine j_nm eu10 ?_
        refine j_istore_n (lv' := [(2, vI u10), (0, .ref (gB g + 349)), (1, vI x1), (3, vI x3)]) dX9_rides_32 rfl (by decide) (by first | rfl | (simp only [List.all_cons, List.all_nil, rv_cat]; rfl)) rfl ?_
        obtain ⟨u11, eu11, h⟩ := bnd_elim h
        have hu11 : inR u11 := by rw [eu11]; exact wrap_inR _
        refine j_iincN (k := 3) (lv' := [(3, vI u11), (2, vI u10), (0, .ref (gB g + 349)), (1, vI x1)]) eu11 dX9_rides_33 rfl (by decide) (by first | rfl | (simp only [List.all_cons, List.all_nil, rv_cat]; rfl)) rfl ?_
        refine j_goto (tgt := 4) dX9_rides_36 (by decide) ?_
        exact j_sub [2, 3, 1, 0] rfl (ih u10 u11 hu10 hu11 h)
      · rw [if_neg c9] at h
        refine j_if_eq_f (bool_inR z7) dX9_rides_23 (tgt := 30) (by decide) c9 ?_
        refine j_iconst dX9_rides_26 ?_
        refine j_goto (tgt := 31) dX9_rides_27 (by decide) ?_
        refine j_iadd dX9_rides_31 ?_
        obtain ⟨u12, eu12, h⟩ := bnd_elim h
        have hu12 : inR u12 := by rw [eu12]; exact (wrap_inR _)
        refine j_nm eu12 ?_
        refine j_istore_n (lv' := [(2, vI u12), (0, .ref (gB g + 349)), (1, vI x1), (3, vI x3)]) dX9_rides_32 rfl (by decide) (by first | rfl | (simp only [List.all_cons, List.all_nil, rv_cat]; rfl)) rfl ?_
        obtain ⟨u13, eu13, h⟩ := bnd_elim h
        have hu13 : inR u13 := by rw [eu13]; exact wrap_inR _
        refine j_iincN (k := 3) (lv' := [(3, vI u13), (2, vI u12), (0, .ref (gB g + 349)), (1, vI x1)]) eu13 dX9_rides_33 rfl (by decide) (by first | rfl | (simp only [List.all_cons, List.all_nil, rv_cat]; rfl)) rfl ?_
        refine j_goto (tgt := 4) dX9_rides_36 (by decide) ?_
        exact j_sub [2, 3, 1, 0] rfl (ih u12 u13 hu12 hu13 h)
set_option maxRecDepth 100000 in
theorem tX9_rides_0 {g : JG} {l : Launch} {d N n0 s0 : Nat} {out : Int} {A : AH} {x1 : Int} (hl : l.stackTraces = false) (hd : 2 ≤ d) (hx1 : inR x1) (h : fX9_rides N A x1 = some out) : J g l d RX9 "rides" cX9_rides 4 (some .int) n0 s0 ((0, some (vI out), A) : JO) (inR out) 0 [(0, .ref (gB g + 349)), (1, vI x1)] [] A := by
  unfold fX9_rides at h
  refine j_iconst dX9_rides_0 ?_
  refine j_istore_n (lv' := [(2, vI 0), (0, .ref (gB g + 349)), (1, vI x1)]) dX9_rides_1 rfl (by decide) (by first | rfl | (simp only [List.all_cons, List.all_nil, rv_cat]; rfl)) rfl ?_
  refine j_iconst dX9_rides_2 ?_
  refine j_istore_n (lv' := [(3, vI 0), (2, vI 0), (0, .ref (gB g + 349)), (1, vI x1)]) dX9_rides_3 rfl (by decide) (by first | rfl | (simp only [List.all_cons, List.all_nil, rv_cat]; rfl)) rfl ?_
  exact j_sub [2, 3, 1, 0] rfl (tX9_rides_4 hl (by omega) hx1  N 0 0 (inR_lit _ rfl) (inR_lit _ rfl) h)
theorem ctX9_rides {g : JG} {l : Launch} {d N : Nat} {A : AH} {out : Int} {x1 : Int} (hl : l.stackTraces = false) (hd : 2 ≤ d) (hx1 : inR x1) (h : fX9_rides N A x1 = some out) : CT g l yX9_rides cX9_rides 4 (some .int) d [.ref (gB g + 349), vI x1] A ((0, some (vI out), A) : JO) (inR out) :=
  CT_of (by decide +kernel) hl (by first | exact Nat.le_of_ble_eq_true rfl | (unfold rv; split <;> exact Nat.le_of_ble_eq_true rfl)) (by first | rfl | (unfold rv; split <;> rfl)) (j_sub (lv := [(0, .ref (gB g + 349)), (1, vI x1)]) [0, 1] rfl (tX9_rides_0 hl hd hx1 h))
set_option maxRecDepth 100000 in
theorem tX9_freeOf_0 {g : JG} {l : Launch} {d N n0 s0 : Nat} {out : Int × AH} {A : AH} {x1 : Int} (hl : l.stackTraces = false) (hd : 4 ≤ d) (hx1 : inR x1) (h : fX9_freeOf N A x1 = some out) : J g l d RX9 "freeOf" cX9_freeOf 2 (some .int) n0 s0 ((0, some (vI out.1), out.2) : JO) (inR out.1) 0 [(0, .ref (gB g + 349)), (1, vI x1)] [] A := by
  unfold fX9_freeOf at h
  refine j_aload_n (j := 0) dX9_freeOf_0 rfl rfl ?_
  refine j_iload_n (j := 1) dX9_freeOf_1 rfl rfl ?_
  obtain ⟨p2, e1, h⟩ := obind_elim h
  refine j_callV MX9_164 YX9_findLast IX9_findLast SX9_findLast (by decide) rfl (by decide) (by omega) (Nat.le_of_ble_eq_true rfl) rfl (ctX9_findLast (d := d - 1) hl (by omega) hx1 e1) dX9_freeOf_2 (VK_c 9 349 rfl).1 (VK_c 9 349 rfl).lt (VK_c 9 349 rfl).ka rfl (fun z3 xt4 => ?_)
  refine j_aload_n (j := 0) dX9_freeOf_5 rfl rfl ?_
  refine j_getI FX9_118 rfl dX9_freeOf_6 (VK_c 9 349 rfl).1 (VK_c 9 349 rfl).lt (VK_c 9 349 rfl).ka (fun r5 => ?_)
  cases h
  exact j_iret dX9_freeOf_9 rfl rfl rfl r5
theorem ctX9_freeOf {g : JG} {l : Launch} {d N : Nat} {A : AH} {out : Int × AH} {x1 : Int} (hl : l.stackTraces = false) (hd : 4 ≤ d) (hx1 : inR x1) (h : fX9_freeOf N A x1 = some out) : CT g l yX9_freeOf cX9_freeOf 2 (some .int) d [.ref (gB g + 349), vI x1] A ((0, some (vI out.1), out.2) : JO) (inR out.1) :=
  CT_of (by decide +kernel) hl (by first | exact Nat.le_of_ble_eq_true rfl | (unfold rv; split <;> exact Nat.le_of_ble_eq_true rfl)) (by first | rfl | (unfold rv; split <;> rfl)) (j_sub (lv := [(0, .ref (gB g + 349)), (1, vI x1)]) [0, 1] rfl (tX9_freeOf_0 hl hd hx1 h))
set_option maxRecDepth 100000 in
theorem tX9_pilot_0 {g : JG} {l : Launch} {d N n0 s0 : Nat} {out : Int × AH} {A : AH} {x1 : Int} {x2 : Int} (hl : l.stackTraces = false) (hd : 5 ≤ d) (hx1 : inR x1) (hx2 : inR x2) (h : fX9_pilot N A x1 x2 = some out) : J g l d RX9 "pilot" cX9_pilot 3 (some .int) n0 s0 ((0, some (vI out.1), out.2) : JO) (inR out.1) 0 [(0, .ref (gB g + 349)), (1, vI x1), (2, vI x2)] [] A := by
  unfold fX9_pilot at h
  refine j_aload_n (j := 0) dX9_pilot_0 rfl rfl ?_
  refine j_iload_n (j := 1) dX9_pilot_1 rfl rfl ?_
  obtain ⟨z2, e1, h⟩ := obind_elim h
  refine j_callV MX9_245 YX9_isPilot IX9_isPilot SX9_isPilot (by decide) rfl (by decide) (by omega) (Nat.le_of_ble_eq_true rfl) rfl (ctX9_isPilot (d := d - 1) hl (by omega) hx1 e1) dX9_pilot_2 (VK_c 9 349 rfl).1 (VK_c 9 349 rfl).lt (VK_c 9 349 rfl).ka rfl (fun z3 _ => ?_)
  by_cases c5 : z2 = 0
  · rw [if_pos c5] at h
    refine j_if_ne_f (bool_inR z3) dX9_pilot_5 (tgt := 14) (by decide) (fun q => q c5) ?_
    refine j_aload_n (j := 0) dX9_pilot_8 rfl rfl ?_
    refine j_iconst dX9_pilot_9 ?_
    obtain ⟨p49, e48, h⟩ := obind_elim h
    refine j_callV MX9_220 YX9_fails IX9_fails SX9_fails (by decide) rfl (by decide) (by omega) (Nat.le_of_ble_eq_true rfl) rfl (ctX9_fails (d := d - 1) hl (by omega) (inR_lit _ rfl) e48) dX9_pilot_10 (VK_c 9 349 rfl).1 (VK_c 9 349 rfl).lt (VK_c 9 349 rfl).ka rfl (fun z50 xt51 => ?_)
    cases h
    exact j_iret dX9_pilot_13 rfl rfl rfl z50
  · rw [if_neg c5] at h
    refine j_if_ne_t (bool_inR z3) dX9_pilot_5 (tgt := 14) (by decide) c5 ?_
    refine j_iload_n (j := 2) dX9_pilot_14 rfl rfl ?_
    refine j_iconst dX9_pilot_15 ?_
    refine j_bipush dX9_pilot_16 rfl ?_
    obtain ⟨z7, e6, h⟩ := obind_elim h
    refine j_callS MX9_90 YX9_isBetween IX9_isBetween (by decide) (by omega) (Nat.le_of_ble_eq_true rfl) rfl (ctX9_isBetween (d := d - 1) hl (by omega) hx2 (inR_lit _ rfl) (inR_lit _ rfl) e6) dX9_pilot_18 rfl (fun z8 _ => ?_)
    by_cases c10 : z7 = 0
    · rw [if_pos c10] at h
      refine j_if_ne_f (bool_inR z8) dX9_pilot_21 (tgt := 30) (by decide) (fun q => q c10) ?_
      refine j_aload_n (j := 0) dX9_pilot_24 rfl rfl ?_
      refine j_iconst dX9_pilot_25 ?_
      obtain ⟨p45, e44, h⟩ := obind_elim h
      refine j_callV MX9_220 YX9_fails IX9_fails SX9_fails (by decide) rfl (by decide) (by omega) (Nat.le_of_ble_eq_true rfl) rfl (ctX9_fails (d := d - 1) hl (by omega) (inR_lit _ rfl) e44) dX9_pilot_26 (VK_c 9 349 rfl).1 (VK_c 9 349 rfl).lt (VK_c 9 349 rfl).ka rfl (fun z46 xt47 => ?_)
      cases h
      exact j_iret dX9_pilot_29 rfl rfl rfl z46
    · rw [if_neg c10] at h
      refine j_if_ne_t (bool_inR z8) dX9_pilot_21 (tgt := 30) (by decide) c10 ?_
      refine j_aload_n (j := 0) dX9_pilot_30 rfl rfl ?_
      refine j_iconst dX9_pilot_31 ?_
      obtain ⟨A11, eA11, h⟩ := bnd_elim h
      have xA11 : XT A A11 := by rw [eA11]; exact XT_sI _ _ _ _
      refine j_putI FX9_87 rfl rfl rfl (inR_lit _ rfl) dX9_pilot_32 (VK_c 9 349 rfl).1 (VK_c 9 349 rfl).lt (VK_c 9 349 rfl).ka ?_
      refine j_hB eA11 ?_
      refine j_iload_n (j := 2) dX9_pilot_35 rfl rfl ?_
      by_cases c12 : x2 = 0
      · rw [if_pos c12] at h
        refine j_table_in (tgt := 76) hx2 dX9_pilot_36 (by omega) (by omega) (by rw [c12]; rfl) (by decide) ?_
        refine j_aload_n (j := 0) dX9_pilot_76 rfl rfl ?_
        refine j_getR (q := 361) FX9_43 rfl dX9_pilot_77 (by decide) (by decide) rfl rfl (by decide) ?_
        refine j_iload_n (j := 1) dX9_pilot_80 rfl rfl ?_
        obtain ⟨c13, h⟩ := chk_elim h
        refine j_iald hx1 (by decide) (by decide) rfl dX9_pilot_81 (VK_c 31 361 rfl).1 (VK_c 31 361 rfl).lt (VK_c 31 361 rfl).ka c13 (fun r14 => ?_)
        cases h
        exact j_iret dX9_pilot_82 rfl rfl rfl r14
      · rw [if_neg c12] at h
        by_cases c15 : x2 = 1
        · rw [if_pos c15] at h
          refine j_table_in (tgt := 83) hx2 dX9_pilot_36 (by omega) (by omega) (by rw [c15]; rfl) (by decide) ?_
          refine j_aload_n (j := 0) dX9_pilot_83 rfl rfl ?_
          refine j_getR (q := 362) FX9_46 rfl dX9_pilot_84 (by decide) (by decide) rfl rfl (by decide) ?_
          refine j_iload_n (j := 1) dX9_pilot_87 rfl rfl ?_
          obtain ⟨c16, h⟩ := chk_elim h
          refine j_iald hx1 (by decide) (by decide) rfl dX9_pilot_88 (VK_c 32 362 rfl).1 (VK_c 32 362 rfl).lt (VK_c 32 362 rfl).ka c16 (fun r17 => ?_)
          cases h
          exact j_iret dX9_pilot_89 rfl rfl rfl r17
        · rw [if_neg c15] at h
          by_cases c18 : x2 = 2
          · rw [if_pos c18] at h
            refine j_table_in (tgt := 90) hx2 dX9_pilot_36 (by omega) (by omega) (by rw [c18]; rfl) (by decide) ?_
            refine j_aload_n (j := 0) dX9_pilot_90 rfl rfl ?_
            refine j_getR (q := 363) FX9_49 rfl dX9_pilot_91 (by decide) (by decide) rfl rfl (by decide) ?_
            refine j_iload_n (j := 1) dX9_pilot_94 rfl rfl ?_
            obtain ⟨c19, h⟩ := chk_elim h
            refine j_iald hx1 (by decide) (by decide) rfl dX9_pilot_95 (VK_c 33 363 rfl).1 (VK_c 33 363 rfl).lt (VK_c 33 363 rfl).ka c19 (fun r20 => ?_)
            cases h
            exact j_iret dX9_pilot_96 rfl rfl rfl r20
          · rw [if_neg c18] at h
            by_cases c21 : x2 = 3
            · rw [if_pos c21] at h
              refine j_table_in (tgt := 97) hx2 dX9_pilot_36 (by omega) (by omega) (by rw [c21]; rfl) (by decide) ?_
              refine j_aload_n (j := 0) dX9_pilot_97 rfl rfl ?_
              refine j_iload_n (j := 1) dX9_pilot_98 rfl rfl ?_
              obtain ⟨z23, e22, h⟩ := obind_elim h
              refine j_callV MX9_267 YX9_trips IX9_trips SX9_trips (by decide) rfl (by decide) (by omega) (Nat.le_of_ble_eq_true rfl) rfl (ctX9_trips (d := d - 1) hl (by omega) hx1 e22) dX9_pilot_99 (VK_c 9 349 rfl).1 (VK_c 9 349 rfl).lt (VK_c 9 349 rfl).ka rfl (fun z24 _ => ?_)
              refine j_aload_n (j := 0) dX9_pilot_102 rfl rfl ?_
              refine j_iload_n (j := 1) dX9_pilot_103 rfl rfl ?_
              obtain ⟨z27, e26, h⟩ := obind_elim h
              refine j_callV MX9_270 YX9_rides IX9_rides SX9_rides (by decide) rfl (by decide) (by omega) (Nat.le_of_ble_eq_true rfl) rfl (ctX9_rides (d := d - 1) hl (by omega) hx1 e26) dX9_pilot_104 (VK_c 9 349 rfl).1 (VK_c 9 349 rfl).lt (VK_c 9 349 rfl).ka rfl (fun z28 _ => ?_)
              refine j_iadd dX9_pilot_107 ?_
              cases h
              exact j_iret dX9_pilot_108 rfl rfl rfl (wrap_inR _)
            · rw [if_neg c21] at h
              by_cases c30 : x2 = 4
              · rw [if_pos c30] at h
                refine j_table_in (tgt := 109) hx2 dX9_pilot_36 (by omega) (by omega) (by rw [c30]; rfl) (by decide) ?_
                refine j_aload_n (j := 0) dX9_pilot_109 rfl rfl ?_
                refine j_iload_n (j := 1) dX9_pilot_110 rfl rfl ?_
                obtain ⟨p32, e31, h⟩ := obind_elim h
                refine j_callV MX9_273 YX9_freeOf IX9_freeOf SX9_freeOf (by decide) rfl (by decide) (by omega) (Nat.le_of_ble_eq_true rfl) rfl (ctX9_freeOf (d := d - 1) hl (by omega) hx1 e31) dX9_pilot_111 (VK_c 9 349 rfl).1 (VK_c 9 349 rfl).lt (VK_c 9 349 rfl).ka rfl (fun z33 xt34 => ?_)
                cases h
                exact j_iret dX9_pilot_114 rfl rfl rfl z33
              · rw [if_neg c30] at h
                by_cases c35 : x2 = 5
                · rw [if_pos c35] at h
                  refine j_table_in (tgt := 115) hx2 dX9_pilot_36 (by omega) (by omega) (by rw [c35]; rfl) (by decide) ?_
                  refine j_aload_n (j := 0) dX9_pilot_115 rfl rfl ?_
                  refine j_iload_n (j := 1) dX9_pilot_116 rfl rfl ?_
                  obtain ⟨z37, e36, h⟩ := obind_elim h
                  refine j_callV MX9_161 YX9_restedFrom IX9_restedFrom SX9_restedFrom (by decide) rfl (by decide) (by omega) (Nat.le_of_ble_eq_true rfl) rfl (ctX9_restedFrom (d := d - 1) hl (by omega) hx1 e36) dX9_pilot_117 (VK_c 9 349 rfl).1 (VK_c 9 349 rfl).lt (VK_c 9 349 rfl).ka rfl (fun z38 _ => ?_)
                  cases h
                  exact j_iret dX9_pilot_120 rfl rfl rfl z38
                · rw [if_neg c35] at h
                  refine j_table_out (tgt := 121) hx2 dX9_pilot_36 (by omega) (by decide) ?_
                  refine j_aload_n (j := 0) dX9_pilot_121 rfl rfl ?_
                  refine j_iload_n (j := 1) dX9_pilot_122 rfl rfl ?_
                  obtain ⟨z41, e40, h⟩ := obind_elim h
                  refine j_callV MX9_276 YX9_tripHours IX9_tripHours SX9_tripHours (by decide) rfl (by decide) (by omega) (Nat.le_of_ble_eq_true rfl) rfl (ctX9_tripHours (d := d - 1) hl (by omega) hx1 e40) dX9_pilot_123 (VK_c 9 349 rfl).1 (VK_c 9 349 rfl).lt (VK_c 9 349 rfl).ka rfl (fun z42 _ => ?_)
                  cases h
                  exact j_iret dX9_pilot_126 rfl rfl rfl z42
theorem ctX9_pilot {g : JG} {l : Launch} {d N : Nat} {A : AH} {out : Int × AH} {x1 : Int} {x2 : Int} (hl : l.stackTraces = false) (hd : 5 ≤ d) (hx1 : inR x1) (hx2 : inR x2) (h : fX9_pilot N A x1 x2 = some out) : CT g l yX9_pilot cX9_pilot 3 (some .int) d [.ref (gB g + 349), vI x1, vI x2] A ((0, some (vI out.1), out.2) : JO) (inR out.1) :=
  CT_of (by decide +kernel) hl (by first | exact Nat.le_of_ble_eq_true rfl | (unfold rv; split <;> exact Nat.le_of_ble_eq_true rfl)) (by first | rfl | (unfold rv; split <;> rfl)) (j_sub (lv := [(0, .ref (gB g + 349)), (1, vI x1), (2, vI x2)]) [0, 1, 2] rfl (tX9_pilot_0 hl hd hx1 hx2 h))
set_option maxRecDepth 100000 in
theorem tX9_nextOf_57 {g : JG} {l : Launch} {d N n0 s0 : Nat} {out : Int} {A : AH} {x1 : Int} {x2 : Int} {x5 : Int} {k8 : Int → Int → Int → Option (Int)} (hl : l.stackTraces = false) (hd : 3 ≤ d) (hx1 : inR x1) (hx2 : inR x2) (hx5 : inR x5) (hk8 : ∀ (x3 : Int) (x4 : Int) (x5 : Int), inR x3 → inR x4 → inR x5 → k8 x3 x4 x5 = some out → J g l d RX9 "nextOf" cX9_nextOf 6 (some .int) n0 s0 ((0, some (vI out), A) : JO) (inR out) 8 [(0, .ref (gB g + 349)), (1, vI x1), (2, vI x2), (3, vI x3), (4, vI x4), (5, vI x5)] [] A) (h : fX9_nextOf_57 N k8 A x1 x2 x5 = some out) : J g l d RX9 "nextOf" cX9_nextOf 6 (some .int) n0 s0 ((0, some (vI out), A) : JO) (inR out) 57 [(0, .ref (gB g + 349)), (1, vI x1), (2, vI x2), (5, vI x5)] [] A := by
  unfold fX9_nextOf_57 at h
  refine j_iload (j := 3) dX9_nextOf_57 rfl ?_
  refine j_istore_n (lv' := [(3, vI x5), (0, .ref (gB g + 349)), (1, vI x1), (2, vI x2), (5, vI x5)]) dX9_nextOf_59 rfl (by decide) (by first | rfl | (simp only [List.all_cons, List.all_nil, rv_cat]; rfl)) rfl ?_
  refine j_aload_n (j := 1) dX9_nextOf_60 rfl rfl ?_
  refine j_getR (q := 359) FX9_37 rfl dX9_nextOf_61 (by decide) (by decide) rfl rfl (by decide) ?_
  refine j_iload (j := 4) dX9_nextOf_64 rfl ?_
  obtain ⟨c1, h⟩ := chk_elim h
  refine j_iald hx5 (by decide) (by decide) rfl dX9_nextOf_66 (VK_c 29 359 rfl).1 (VK_c 29 359 rfl).lt (VK_c 29 359 rfl).ka c1 (fun r2 => ?_)
  obtain ⟨u3, eu3, h⟩ := bnd_elim h
  have hu3 : inR u3 := by rw [eu3]; exact r2
  refine j_nm eu3 ?_
  refine j_istore (lv' := [(4, vI u3), (3, vI x5), (0, .ref (gB g + 349)), (1, vI x1), (2, vI x2), (5, vI x5)]) dX9_nextOf_67 (by decide) (by first | rfl | (simp only [List.all_cons, List.all_nil, rv_cat]; rfl)) rfl ?_
  obtain ⟨u4, eu4, h⟩ := bnd_elim h
  have hu4 : inR u4 := by rw [eu4]; exact wrap_inR _
  refine j_iincN (k := 5) (lv' := [(5, vI u4), (4, vI u3), (3, vI x5), (0, .ref (gB g + 349)), (1, vI x1), (2, vI x2)]) eu4 dX9_nextOf_69 rfl (by decide) (by first | rfl | (simp only [List.all_cons, List.all_nil, rv_cat]; rfl)) rfl ?_
  refine j_goto (tgt := 8) dX9_nextOf_72 (by decide) ?_
  exact j_sub [3, 4, 5, 2, 1, 0] rfl (hk8 x5 u3 u4 hx5 hu3 hu4 h)
set_option maxRecDepth 100000 in
theorem tX9_nextOf_137 {g : JG} {l : Launch} {d N n0 s0 : Nat} {out : Int} {A : AH} {x1 : Int} {x2 : Int} {x5 : Int} {k78 : Int → Int → Int → Option (Int)} (hl : l.stackTraces = false) (hd : 3 ≤ d) (hx1 : inR x1) (hx2 : inR x2) (hx5 : inR x5) (hk78 : ∀ (x3 : Int) (x4 : Int) (x5 : Int), inR x3 → inR x4 → inR x5 → k78 x3 x4 x5 = some out → J g l d RX9 "nextOf" cX9_nextOf 6 (some .int) n0 s0 ((0, some (vI out), A) : JO) (inR out) 78 [(0, .ref (gB g + 349)), (1, vI x1), (2, vI x2), (3, vI x3), (4, vI x4), (5, vI x5)] [] A) (h : fX9_nextOf_137 N k78 A x1 x2 x5 = some out) : J g l d RX9 "nextOf" cX9_nextOf 6 (some .int) n0 s0 ((0, some (vI out), A) : JO) (inR out) 137 [(0, .ref (gB g + 349)), (1, vI x1), (2, vI x2), (5, vI x5)] [] A := by
  unfold fX9_nextOf_137 at h
  refine j_bipush dX9_nextOf_137 rfl ?_
  refine j_iload (j := 3) dX9_nextOf_139 rfl ?_
  refine j_iadd dX9_nextOf_141 ?_
  obtain ⟨u1, eu1, h⟩ := bnd_elim h
  have hu1 : inR u1 := by rw [eu1]; exact (wrap_inR _)
  refine j_nm eu1 ?_
  refine j_istore_n (lv' := [(3, vI u1), (0, .ref (gB g + 349)), (1, vI x1), (2, vI x2), (5, vI x5)]) dX9_nextOf_142 rfl (by decide) (by first | rfl | (simp only [List.all_cons, List.all_nil, rv_cat]; rfl)) rfl ?_
  refine j_aload_n (j := 1) dX9_nextOf_143 rfl rfl ?_
  refine j_getR (q := 367) FX9_61 rfl dX9_nextOf_144 (by decide) (by decide) rfl rfl (by decide) ?_
  refine j_iload (j := 4) dX9_nextOf_147 rfl ?_
  obtain ⟨c2, h⟩ := chk_elim h
  refine j_iald hx5 (by decide) (by decide) rfl dX9_nextOf_149 (VK_c 37 367 rfl).1 (VK_c 37 367 rfl).lt (VK_c 37 367 rfl).ka c2 (fun r3 => ?_)
  obtain ⟨z5, e4, h⟩ := obind_elim h
  refine j_callS MX9_279 YX9_hourOf IX9_hourOf (by decide) (by omega) (Nat.le_of_ble_eq_true rfl) rfl (ctX9_hourOf (d := d - 1) hl (by omega) r3 e4) dX9_nextOf_150 rfl (fun z6 _ => ?_)
  refine j_istore (lv' := [(4, vI z5), (3, vI u1), (0, .ref (gB g + 349)), (1, vI x1), (2, vI x2), (5, vI x5)]) dX9_nextOf_153 (by decide) (by first | rfl | (simp only [List.all_cons, List.all_nil, rv_cat]; rfl)) rfl ?_
  obtain ⟨u8, eu8, h⟩ := bnd_elim h
  have hu8 : inR u8 := by rw [eu8]; exact wrap_inR _
  refine j_iincN (k := 5) (lv' := [(5, vI u8), (4, vI z5), (3, vI u1), (0, .ref (gB g + 349)), (1, vI x1), (2, vI x2)]) eu8 dX9_nextOf_155 rfl (by decide) (by first | rfl | (simp only [List.all_cons, List.all_nil, rv_cat]; rfl)) rfl ?_
  refine j_goto (tgt := 78) dX9_nextOf_158 (by decide) ?_
  exact j_sub [3, 4, 5, 2, 1, 0] rfl (hk78 u1 z5 u8 hu1 z6 hu8 h)
set_option maxRecDepth 100000 in
theorem tX9_nextOf_78 {g : JG} {l : Launch} {d N n0 s0 : Nat} {out : Int} {A : AH} {x1 : Int} {x2 : Int} (hl : l.stackTraces = false) (hd : 3 ≤ d) (hx1 : inR x1) (hx2 : inR x2) : ∀ (n : Nat) (x3 : Int) (x4 : Int) (x5 : Int), inR x3 → inR x4 → inR x5 → fX9_nextOf_78 N A x1 x2 n x3 x4 x5 = some out → J g l d RX9 "nextOf" cX9_nextOf 6 (some .int) n0 s0 ((0, some (vI out), A) : JO) (inR out) 78 [(0, .ref (gB g + 349)), (1, vI x1), (2, vI x2), (3, vI x3), (4, vI x4), (5, vI x5)] [] A := by
  intro n
  induction n with
  | zero =>
    intro x3 x4 x5 hx3 hx4 hx5 h
    rw [fX9_nextOf_78] at h
    cases h
  | succ n ih =>
    intro x3 x4 x5 hx3 hx4 hx5 h
    rw [fX9_nextOf_78] at h
    refine j_iload (j := 5) dX9_nextOf_78 rfl ?_
    refine j_aload_n (j := 0) dX9_nextOf_80 rfl rfl ?_
    refine j_getI FX9_137 rfl dX9_nextOf_81 (VK_c 9 349 rfl).1 (VK_c 9 349 rfl).lt (VK_c 9 349 rfl).ka (fun r1 => ?_)
    by_cases c2 : (gI A 349 23) ≤ x5
    · rw [if_pos c2] at h
      refine j_icmp_ge_t hx5 r1 dX9_nextOf_84 (tgt := 161) (by decide) c2 ?_
      refine j_iload_n (j := 3) dX9_nextOf_161 rfl rfl ?_
      cases h
      exact j_iret dX9_nextOf_162 rfl rfl rfl hx3
    · rw [if_neg c2] at h
      refine j_icmp_ge_f hx5 r1 dX9_nextOf_84 (tgt := 161) (by decide) c2 ?_
      refine j_aload_n (j := 0) dX9_nextOf_87 rfl rfl ?_
      refine j_getR (q := 367) FX9_61 rfl dX9_nextOf_88 (by decide) (by decide) rfl rfl (by decide) ?_
      refine j_iload (j := 5) dX9_nextOf_91 rfl ?_
      obtain ⟨c3, h⟩ := chk_elim h
      refine j_iald hx5 (by decide) (by decide) rfl dX9_nextOf_93 (VK_c 37 367 rfl).1 (VK_c 37 367 rfl).lt (VK_c 37 367 rfl).ka c3 (fun r4 => ?_)
      refine j_iload_n (j := 1) dX9_nextOf_94 rfl rfl ?_
      obtain ⟨z6, e5, h⟩ := obind_elim h
      refine j_callS MX9_140 YX9_has IX9_has (by decide) (by omega) (Nat.le_of_ble_eq_true rfl) rfl (ctX9_has (d := d - 1) hl (by omega) r4 hx1 e5) dX9_nextOf_95 rfl (fun z7 _ => ?_)
      by_cases c9 : z6 = 0
      · rw [if_pos c9] at h
        refine j_if_eq_t (bool_inR z7) dX9_nextOf_98 (tgt := 155) (by decide) c9 ?_
        obtain ⟨u10, eu10, h⟩ := bnd_elim h
        have hu10 : inR u10 := by rw [eu10]; exact wrap_inR _
        refine j_iincN (k := 5) (lv' := [(5, vI u10), (0, .ref (gB g + 349)), (1, vI x1), (2, vI x2), (3, vI x3), (4, vI x4)]) eu10 dX9_nextOf_155 rfl (by decide) (by first | rfl | (simp only [List.all_cons, List.all_nil, rv_cat]; rfl)) rfl ?_
        refine j_goto (tgt := 78) dX9_nextOf_158 (by decide) ?_
        exact j_sub [1, 2, 3, 4, 5, 0] rfl (ih x3 x4 u10 hx3 hx4 hu10 h)
      · rw [if_neg c9] at h
        refine j_if_eq_f (bool_inR z7) dX9_nextOf_98 (tgt := 155) (by decide) c9 ?_
        refine j_aload_n (j := 0) dX9_nextOf_101 rfl rfl ?_
        refine j_getR (q := 367) FX9_61 rfl dX9_nextOf_102 (by decide) (by decide) rfl rfl (by decide) ?_
        refine j_iload (j := 5) dX9_nextOf_105 rfl ?_
        obtain ⟨c11, h⟩ := chk_elim h
        refine j_iald hx5 (by decide) (by decide) rfl dX9_nextOf_107 (VK_c 37 367 rfl).1 (VK_c 37 367 rfl).lt (VK_c 37 367 rfl).ka c11 (fun r12 => ?_)
        obtain ⟨z14, e13, h⟩ := obind_elim h
        refine j_callS MX9_279 YX9_hourOf IX9_hourOf (by decide) (by omega) (Nat.le_of_ble_eq_true rfl) rfl (ctX9_hourOf (d := d - 1) hl (by omega) r12 e13) dX9_nextOf_108 rfl (fun z15 _ => ?_)
        refine j_iload_n (j := 2) dX9_nextOf_111 rfl rfl ?_
        by_cases c17 : z14 < x2
        · rw [if_pos c17] at h
          refine j_icmp_lt_t z15 hx2 dX9_nextOf_112 (tgt := 155) (by decide) c17 ?_
          obtain ⟨u18, eu18, h⟩ := bnd_elim h
          have hu18 : inR u18 := by rw [eu18]; exact wrap_inR _
          refine j_iincN (k := 5) (lv' := [(5, vI u18), (0, .ref (gB g + 349)), (1, vI x1), (2, vI x2), (3, vI x3), (4, vI x4)]) eu18 dX9_nextOf_155 rfl (by decide) (by first | rfl | (simp only [List.all_cons, List.all_nil, rv_cat]; rfl)) rfl ?_
          refine j_goto (tgt := 78) dX9_nextOf_158 (by decide) ?_
          exact j_sub [1, 2, 3, 4, 5, 0] rfl (ih x3 x4 u18 hx3 hx4 hu18 h)
        · rw [if_neg c17] at h
          refine j_icmp_lt_f z15 hx2 dX9_nextOf_112 (tgt := 155) (by decide) c17 ?_
          refine j_iload_n (j := 3) dX9_nextOf_115 rfl rfl ?_
          by_cases c19 : x3 < 0
          · rw [if_pos c19] at h
            refine j_if_lt_t hx3 dX9_nextOf_116 (tgt := 137) (by decide) c19 ?_
            exact j_sub [0, 1, 2, 5] rfl (tX9_nextOf_137 hl (by omega) hx1 hx2 hx5 ih h)
          · rw [if_neg c19] at h
            refine j_if_lt_f hx3 dX9_nextOf_116 (tgt := 137) (by decide) c19 ?_
            refine j_aload_n (j := 0) dX9_nextOf_119 rfl rfl ?_
            refine j_getR (q := 367) FX9_61 rfl dX9_nextOf_120 (by decide) (by decide) rfl rfl (by decide) ?_
            refine j_iload (j := 5) dX9_nextOf_123 rfl ?_
            obtain ⟨c20, h⟩ := chk_elim h
            refine j_iald hx5 (by decide) (by decide) rfl dX9_nextOf_125 (VK_c 37 367 rfl).1 (VK_c 37 367 rfl).lt (VK_c 37 367 rfl).ka c20 (fun r21 => ?_)
            obtain ⟨z23, e22, h⟩ := obind_elim h
            refine j_callS MX9_279 YX9_hourOf IX9_hourOf (by decide) (by omega) (Nat.le_of_ble_eq_true rfl) rfl (ctX9_hourOf (d := d - 1) hl (by omega) r21 e22) dX9_nextOf_126 rfl (fun z24 _ => ?_)
            refine j_iload (j := 4) dX9_nextOf_129 rfl ?_
            by_cases c26 : z23 < x4
            · rw [if_pos c26] at h
              refine j_icmp_lt_t z24 hx4 dX9_nextOf_131 (tgt := 137) (by decide) c26 ?_
              exact j_sub [0, 1, 2, 5] rfl (tX9_nextOf_137 hl (by omega) hx1 hx2 hx5 ih h)
            · rw [if_neg c26] at h
              refine j_icmp_lt_f z24 hx4 dX9_nextOf_131 (tgt := 137) (by decide) c26 ?_
              refine j_goto (tgt := 155) dX9_nextOf_134 (by decide) ?_
              obtain ⟨u27, eu27, h⟩ := bnd_elim h
              have hu27 : inR u27 := by rw [eu27]; exact wrap_inR _
              refine j_iincN (k := 5) (lv' := [(5, vI u27), (0, .ref (gB g + 349)), (1, vI x1), (2, vI x2), (3, vI x3), (4, vI x4)]) eu27 dX9_nextOf_155 rfl (by decide) (by first | rfl | (simp only [List.all_cons, List.all_nil, rv_cat]; rfl)) rfl ?_
              refine j_goto (tgt := 78) dX9_nextOf_158 (by decide) ?_
              exact j_sub [1, 2, 3, 4, 5, 0] rfl (ih x3 x4 u27 hx3 hx4 hu27 h)
set_option maxRecDepth 100000 in
theorem tX9_nextOf_8 {g : JG} {l : Launch} {d N n0 s0 : Nat} {out : Int} {A : AH} {x1 : Int} {x2 : Int} (hl : l.stackTraces = false) (hd : 3 ≤ d) (hx1 : inR x1) (hx2 : inR x2) : ∀ (n : Nat) (x3 : Int) (x4 : Int) (x5 : Int), inR x3 → inR x4 → inR x5 → fX9_nextOf_8 N A x1 x2 n x3 x4 x5 = some out → J g l d RX9 "nextOf" cX9_nextOf 6 (some .int) n0 s0 ((0, some (vI out), A) : JO) (inR out) 8 [(0, .ref (gB g + 349)), (1, vI x1), (2, vI x2), (3, vI x3), (4, vI x4), (5, vI x5)] [] A := by
  intro n
  induction n with
  | zero =>
    intro x3 x4 x5 hx3 hx4 hx5 h
    rw [fX9_nextOf_8] at h
    cases h
  | succ n ih =>
    intro x3 x4 x5 hx3 hx4 hx5 h
    rw [fX9_nextOf_8] at h
    refine j_iload (j := 5) dX9_nextOf_8 rfl ?_
    refine j_aload_n (j := 0) dX9_nextOf_10 rfl rfl ?_
    refine j_getI FX9_100 rfl dX9_nextOf_11 (VK_c 9 349 rfl).1 (VK_c 9 349 rfl).lt (VK_c 9 349 rfl).ka (fun r1 => ?_)
    by_cases c2 : (gI A 349 22) ≤ x5
    · rw [if_pos c2] at h
      refine j_icmp_ge_t hx5 r1 dX9_nextOf_14 (tgt := 75) (by decide) c2 ?_
      refine j_iconst dX9_nextOf_75 ?_
      refine j_istore (lv' := [(5, vI 0), (0, .ref (gB g + 349)), (1, vI x1), (2, vI x2), (3, vI x3), (4, vI x4)]) dX9_nextOf_76 (by decide) (by first | rfl | (simp only [List.all_cons, List.all_nil, rv_cat]; rfl)) rfl ?_
      exact j_sub [1, 2, 3, 4, 5, 0] rfl (tX9_nextOf_78 hl (by omega) hx1 hx2  N x3 x4 0 hx3 hx4 (inR_lit _ rfl) h)
    · rw [if_neg c2] at h
      refine j_icmp_ge_f hx5 r1 dX9_nextOf_14 (tgt := 75) (by decide) c2 ?_
      refine j_aload_n (j := 0) dX9_nextOf_17 rfl rfl ?_
      refine j_iload (j := 5) dX9_nextOf_18 rfl ?_
      refine j_iload_n (j := 1) dX9_nextOf_20 rfl rfl ?_
      obtain ⟨z4, e3, h⟩ := obind_elim h
      refine j_callV MX9_124 YX9_isTripOf IX9_isTripOf SX9_isTripOf (by decide) rfl (by decide) (by omega) (Nat.le_of_ble_eq_true rfl) rfl (ctX9_isTripOf (d := d - 1) hl (by omega) hx5 hx1 e3) dX9_nextOf_21 (VK_c 9 349 rfl).1 (VK_c 9 349 rfl).lt (VK_c 9 349 rfl).ka rfl (fun z5 _ => ?_)
      by_cases c7 : z4 = 0
      · rw [if_pos c7] at h
        refine j_if_eq_t (bool_inR z5) dX9_nextOf_24 (tgt := 69) (by decide) c7 ?_
        obtain ⟨u8, eu8, h⟩ := bnd_elim h
        have hu8 : inR u8 := by rw [eu8]; exact wrap_inR _
        refine j_iincN (k := 5) (lv' := [(5, vI u8), (0, .ref (gB g + 349)), (1, vI x1), (2, vI x2), (3, vI x3), (4, vI x4)]) eu8 dX9_nextOf_69 rfl (by decide) (by first | rfl | (simp only [List.all_cons, List.all_nil, rv_cat]; rfl)) rfl ?_
        refine j_goto (tgt := 8) dX9_nextOf_72 (by decide) ?_
        exact j_sub [1, 2, 3, 4, 5, 0] rfl (ih x3 x4 u8 hx3 hx4 hu8 h)
      · rw [if_neg c7] at h
        refine j_if_eq_f (bool_inR z5) dX9_nextOf_24 (tgt := 69) (by decide) c7 ?_
        refine j_aload_n (j := 0) dX9_nextOf_27 rfl rfl ?_
        refine j_getR (q := 359) FX9_37 rfl dX9_nextOf_28 (by decide) (by decide) rfl rfl (by decide) ?_
        refine j_iload (j := 5) dX9_nextOf_31 rfl ?_
        obtain ⟨c9, h⟩ := chk_elim h
        refine j_iald hx5 (by decide) (by decide) rfl dX9_nextOf_33 (VK_c 29 359 rfl).1 (VK_c 29 359 rfl).lt (VK_c 29 359 rfl).ka c9 (fun r10 => ?_)
        refine j_iload_n (j := 2) dX9_nextOf_34 rfl rfl ?_
        by_cases c11 : (gI A 359 x5.toNat) < x2
        · rw [if_pos c11] at h
          refine j_icmp_lt_t r10 hx2 dX9_nextOf_35 (tgt := 69) (by decide) c11 ?_
          obtain ⟨u12, eu12, h⟩ := bnd_elim h
          have hu12 : inR u12 := by rw [eu12]; exact wrap_inR _
          refine j_iincN (k := 5) (lv' := [(5, vI u12), (0, .ref (gB g + 349)), (1, vI x1), (2, vI x2), (3, vI x3), (4, vI x4)]) eu12 dX9_nextOf_69 rfl (by decide) (by first | rfl | (simp only [List.all_cons, List.all_nil, rv_cat]; rfl)) rfl ?_
          refine j_goto (tgt := 8) dX9_nextOf_72 (by decide) ?_
          exact j_sub [1, 2, 3, 4, 5, 0] rfl (ih x3 x4 u12 hx3 hx4 hu12 h)
        · rw [if_neg c11] at h
          refine j_icmp_lt_f r10 hx2 dX9_nextOf_35 (tgt := 69) (by decide) c11 ?_
          refine j_iload_n (j := 3) dX9_nextOf_38 rfl rfl ?_
          by_cases c13 : x3 < 0
          · rw [if_pos c13] at h
            refine j_if_lt_t hx3 dX9_nextOf_39 (tgt := 57) (by decide) c13 ?_
            exact j_sub [0, 1, 2, 5] rfl (tX9_nextOf_57 hl (by omega) hx1 hx2 hx5 ih h)
          · rw [if_neg c13] at h
            refine j_if_lt_f hx3 dX9_nextOf_39 (tgt := 57) (by decide) c13 ?_
            refine j_aload_n (j := 0) dX9_nextOf_42 rfl rfl ?_
            refine j_getR (q := 359) FX9_37 rfl dX9_nextOf_43 (by decide) (by decide) rfl rfl (by decide) ?_
            refine j_iload (j := 5) dX9_nextOf_46 rfl ?_
            obtain ⟨c14, h⟩ := chk_elim h
            refine j_iald hx5 (by decide) (by decide) rfl dX9_nextOf_48 (VK_c 29 359 rfl).1 (VK_c 29 359 rfl).lt (VK_c 29 359 rfl).ka c14 (fun r15 => ?_)
            refine j_iload (j := 4) dX9_nextOf_49 rfl ?_
            by_cases c16 : (gI A 359 x5.toNat) < x4
            · rw [if_pos c16] at h
              refine j_icmp_lt_t r15 hx4 dX9_nextOf_51 (tgt := 57) (by decide) c16 ?_
              exact j_sub [0, 1, 2, 5] rfl (tX9_nextOf_57 hl (by omega) hx1 hx2 hx5 ih h)
            · rw [if_neg c16] at h
              refine j_icmp_lt_f r15 hx4 dX9_nextOf_51 (tgt := 57) (by decide) c16 ?_
              refine j_goto (tgt := 69) dX9_nextOf_54 (by decide) ?_
              obtain ⟨u17, eu17, h⟩ := bnd_elim h
              have hu17 : inR u17 := by rw [eu17]; exact wrap_inR _
              refine j_iincN (k := 5) (lv' := [(5, vI u17), (0, .ref (gB g + 349)), (1, vI x1), (2, vI x2), (3, vI x3), (4, vI x4)]) eu17 dX9_nextOf_69 rfl (by decide) (by first | rfl | (simp only [List.all_cons, List.all_nil, rv_cat]; rfl)) rfl ?_
              refine j_goto (tgt := 8) dX9_nextOf_72 (by decide) ?_
              exact j_sub [1, 2, 3, 4, 5, 0] rfl (ih x3 x4 u17 hx3 hx4 hu17 h)
set_option maxRecDepth 100000 in
theorem tX9_nextOf_0 {g : JG} {l : Launch} {d N n0 s0 : Nat} {out : Int} {A : AH} {x1 : Int} {x2 : Int} (hl : l.stackTraces = false) (hd : 3 ≤ d) (hx1 : inR x1) (hx2 : inR x2) (h : fX9_nextOf N A x1 x2 = some out) : J g l d RX9 "nextOf" cX9_nextOf 6 (some .int) n0 s0 ((0, some (vI out), A) : JO) (inR out) 0 [(0, .ref (gB g + 349)), (1, vI x1), (2, vI x2)] [] A := by
  unfold fX9_nextOf at h
  refine j_iconst dX9_nextOf_0 ?_
  refine j_istore_n (lv' := [(3, vI (-1)), (0, .ref (gB g + 349)), (1, vI x1), (2, vI x2)]) dX9_nextOf_1 rfl (by decide) (by first | rfl | (simp only [List.all_cons, List.all_nil, rv_cat]; rfl)) rfl ?_
  refine j_iconst dX9_nextOf_2 ?_
  refine j_istore (lv' := [(4, vI 0), (3, vI (-1)), (0, .ref (gB g + 349)), (1, vI x1), (2, vI x2)]) dX9_nextOf_3 (by decide) (by first | rfl | (simp only [List.all_cons, List.all_nil, rv_cat]; rfl)) rfl ?_
  refine j_iconst dX9_nextOf_5 ?_
  refine j_istore (lv' := [(5, vI 0), (4, vI 0), (3, vI (-1)), (0, .ref (gB g + 349)), (1, vI x1), (2, vI x2)]) dX9_nextOf_6 (by decide) (by first | rfl | (simp only [List.all_cons, List.all_nil, rv_cat]; rfl)) rfl ?_
  exact j_sub [3, 4, 5, 2, 1, 0] rfl (tX9_nextOf_8 hl (by omega) hx1 hx2  N (-1) 0 0 (inR_lit _ rfl) (inR_lit _ rfl) (inR_lit _ rfl) h)
theorem ctX9_nextOf {g : JG} {l : Launch} {d N : Nat} {A : AH} {out : Int} {x1 : Int} {x2 : Int} (hl : l.stackTraces = false) (hd : 3 ≤ d) (hx1 : inR x1) (hx2 : inR x2) (h : fX9_nextOf N A x1 x2 = some out) : CT g l yX9_nextOf cX9_nextOf 6 (some .int) d [.ref (gB g + 349), vI x1, vI x2] A ((0, some (vI out), A) : JO) (inR out) :=
  CT_of (by decide +kernel) hl (by first | exact Nat.le_of_ble_eq_true rfl | (unfold rv; split <;> exact Nat.le_of_ble_eq_true rfl)) (by first | rfl | (unfold rv; split <;> rfl)) (j_sub (lv := [(0, .ref (gB g + 349)), (1, vI x1), (2, vI x2)]) [0, 1, 2] rfl (tX9_nextOf_0 hl hd hx1 hx2 h))
set_option maxRecDepth 100000 in
theorem tX9_beginOf_0 {g : JG} {l : Launch} {d N n0 s0 : Nat} {out : Int} {A : AH} {x1 : Int} (hl : l.stackTraces = false) (hd : 2 ≤ d) (hx1 : inR x1) (h : fX9_beginOf N A x1 = some out) : J g l d RX9 "beginOf" cX9_beginOf 2 (some .int) n0 s0 ((0, some (vI out), A) : JO) (inR out) 0 [(0, .ref (gB g + 349)), (1, vI x1)] [] A := by
  unfold fX9_beginOf at h
  refine j_iload_n (j := 1) dX9_beginOf_0 rfl rfl ?_
  refine j_bipush dX9_beginOf_1 rfl ?_
  by_cases c1 : 16 ≤ x1
  · rw [if_pos c1] at h
    refine j_icmp_ge_t hx1 (inR_lit _ rfl) dX9_beginOf_3 (tgt := 15) (by decide) c1 ?_
    refine j_aload_n (j := 0) dX9_beginOf_15 rfl rfl ?_
    refine j_getR (q := 367) FX9_61 rfl dX9_beginOf_16 (by decide) (by decide) rfl rfl (by decide) ?_
    refine j_iload_n (j := 1) dX9_beginOf_19 rfl rfl ?_
    refine j_bipush dX9_beginOf_20 rfl ?_
    refine j_isub dX9_beginOf_22 ?_
    obtain ⟨c2, h⟩ := chk_elim h
    refine j_iald (wrap_inR _) (by decide) (by decide) rfl dX9_beginOf_23 (VK_c 37 367 rfl).1 (VK_c 37 367 rfl).lt (VK_c 37 367 rfl).ka c2 (fun r3 => ?_)
    obtain ⟨z5, e4, h⟩ := obind_elim h
    refine j_callS MX9_279 YX9_hourOf IX9_hourOf (by decide) (by omega) (Nat.le_of_ble_eq_true rfl) rfl (ctX9_hourOf (d := d - 1) hl (by omega) r3 e4) dX9_beginOf_24 rfl (fun z6 _ => ?_)
    cases h
    exact j_iret dX9_beginOf_27 rfl rfl rfl z6
  · rw [if_neg c1] at h
    refine j_icmp_ge_f hx1 (inR_lit _ rfl) dX9_beginOf_3 (tgt := 15) (by decide) c1 ?_
    refine j_aload_n (j := 0) dX9_beginOf_6 rfl rfl ?_
    refine j_getR (q := 359) FX9_37 rfl dX9_beginOf_7 (by decide) (by decide) rfl rfl (by decide) ?_
    refine j_iload_n (j := 1) dX9_beginOf_10 rfl rfl ?_
    obtain ⟨c8, h⟩ := chk_elim h
    refine j_iald hx1 (by decide) (by decide) rfl dX9_beginOf_11 (VK_c 29 359 rfl).1 (VK_c 29 359 rfl).lt (VK_c 29 359 rfl).ka c8 (fun r9 => ?_)
    refine j_goto (tgt := 27) dX9_beginOf_12 (by decide) ?_
    cases h
    exact j_iret dX9_beginOf_27 rfl rfl rfl r9
theorem ctX9_beginOf {g : JG} {l : Launch} {d N : Nat} {A : AH} {out : Int} {x1 : Int} (hl : l.stackTraces = false) (hd : 2 ≤ d) (hx1 : inR x1) (h : fX9_beginOf N A x1 = some out) : CT g l yX9_beginOf cX9_beginOf 2 (some .int) d [.ref (gB g + 349), vI x1] A ((0, some (vI out), A) : JO) (inR out) :=
  CT_of (by decide +kernel) hl (by first | exact Nat.le_of_ble_eq_true rfl | (unfold rv; split <;> exact Nat.le_of_ble_eq_true rfl)) (by first | rfl | (unfold rv; split <;> rfl)) (j_sub (lv := [(0, .ref (gB g + 349)), (1, vI x1)]) [0, 1] rfl (tX9_beginOf_0 hl hd hx1 h))
set_option maxRecDepth 100000 in
theorem tX9_ofTrip_0 {g : JG} {l : Launch} {d N n0 s0 : Nat} {out : Int} {A : AH} {x1 : Int} {x2 : Int} (hl : l.stackTraces = false) (hd : 3 ≤ d) (hx1 : inR x1) (hx2 : inR x2) (h : fX9_ofTrip N A x1 x2 = some out) : J g l d RX9 "ofTrip" cX9_ofTrip 3 (some .int) n0 s0 ((0, some (vI out), A) : JO) (inR out) 0 [(0, .ref (gB g + 349)), (1, vI x1), (2, vI x2)] [] A := by
  unfold fX9_ofTrip at h
  refine j_iload_n (j := 2) dX9_ofTrip_0 rfl rfl ?_
  by_cases c1 : x2 = 0
  · rw [if_pos c1] at h
    refine j_if_ne_f hx2 dX9_ofTrip_1 (tgt := 8) (by decide) (fun q => q c1) ?_
    refine j_iconst dX9_ofTrip_4 ?_
    refine j_goto (tgt := 49) dX9_ofTrip_5 (by decide) ?_
    cases h
    exact j_iret dX9_ofTrip_49 rfl rfl rfl (inR_lit _ rfl)
  · rw [if_neg c1] at h
    refine j_if_ne_t hx2 dX9_ofTrip_1 (tgt := 8) (by decide) c1 ?_
    refine j_iload_n (j := 2) dX9_ofTrip_8 rfl rfl ?_
    refine j_iconst dX9_ofTrip_9 ?_
    by_cases c2 : x2 = 1
    · rw [if_pos c2] at h
      refine j_icmp_ne_f hx2 (inR_lit _ rfl) dX9_ofTrip_10 (tgt := 22) (by decide) (fun q => q c2) ?_
      refine j_aload_n (j := 0) dX9_ofTrip_13 rfl rfl ?_
      refine j_getR (q := 359) FX9_37 rfl dX9_ofTrip_14 (by decide) (by decide) rfl rfl (by decide) ?_
      refine j_iload_n (j := 1) dX9_ofTrip_17 rfl rfl ?_
      obtain ⟨c13, h⟩ := chk_elim h
      refine j_iald hx1 (by decide) (by decide) rfl dX9_ofTrip_18 (VK_c 29 359 rfl).1 (VK_c 29 359 rfl).lt (VK_c 29 359 rfl).ka c13 (fun r14 => ?_)
      refine j_goto (tgt := 49) dX9_ofTrip_19 (by decide) ?_
      cases h
      exact j_iret dX9_ofTrip_49 rfl rfl rfl r14
    · rw [if_neg c2] at h
      refine j_icmp_ne_t hx2 (inR_lit _ rfl) dX9_ofTrip_10 (tgt := 22) (by decide) c2 ?_
      refine j_iload_n (j := 2) dX9_ofTrip_22 rfl rfl ?_
      refine j_iconst dX9_ofTrip_23 ?_
      by_cases c3 : x2 = 2
      · rw [if_pos c3] at h
        refine j_icmp_ne_f hx2 (inR_lit _ rfl) dX9_ofTrip_24 (tgt := 35) (by decide) (fun q => q c3) ?_
        refine j_aload_n (j := 0) dX9_ofTrip_27 rfl rfl ?_
        refine j_iload_n (j := 1) dX9_ofTrip_28 rfl rfl ?_
        obtain ⟨z10, e9, h⟩ := obind_elim h
        refine j_callV MX9_127 YX9_end IX9_end SX9_end (by decide) rfl (by decide) (by omega) (Nat.le_of_ble_eq_true rfl) rfl (ctX9_end (d := d - 1) hl (by omega) hx1 e9) dX9_ofTrip_29 (VK_c 9 349 rfl).1 (VK_c 9 349 rfl).lt (VK_c 9 349 rfl).ka rfl (fun z11 _ => ?_)
        refine j_goto (tgt := 49) dX9_ofTrip_32 (by decide) ?_
        cases h
        exact j_iret dX9_ofTrip_49 rfl rfl rfl z11
      · rw [if_neg c3] at h
        refine j_icmp_ne_t hx2 (inR_lit _ rfl) dX9_ofTrip_24 (tgt := 35) (by decide) c3 ?_
        refine j_iload_n (j := 2) dX9_ofTrip_35 rfl rfl ?_
        refine j_iconst dX9_ofTrip_36 ?_
        by_cases c4 : x2 = 3
        · rw [if_pos c4] at h
          refine j_icmp_ne_f hx2 (inR_lit _ rfl) dX9_ofTrip_37 (tgt := 44) (by decide) (fun q => q c4) ?_
          refine j_iload_n (j := 1) dX9_ofTrip_40 rfl rfl ?_
          refine j_goto (tgt := 49) dX9_ofTrip_41 (by decide) ?_
          cases h
          exact j_iret dX9_ofTrip_49 rfl rfl rfl hx1
        · rw [if_neg c4] at h
          refine j_icmp_ne_t hx2 (inR_lit _ rfl) dX9_ofTrip_37 (tgt := 44) (by decide) c4 ?_
          refine j_aload_n (j := 0) dX9_ofTrip_44 rfl rfl ?_
          refine j_iload_n (j := 1) dX9_ofTrip_45 rfl rfl ?_
          obtain ⟨z6, e5, h⟩ := obind_elim h
          refine j_callV MX9_130 YX9_goalOf IX9_goalOf SX9_goalOf (by decide) rfl (by decide) (by omega) (Nat.le_of_ble_eq_true rfl) rfl (ctX9_goalOf (d := d - 1) hl (by omega) hx1 e5) dX9_ofTrip_46 (VK_c 9 349 rfl).1 (VK_c 9 349 rfl).lt (VK_c 9 349 rfl).ka rfl (fun z7 _ => ?_)
          cases h
          exact j_iret dX9_ofTrip_49 rfl rfl rfl z7
theorem ctX9_ofTrip {g : JG} {l : Launch} {d N : Nat} {A : AH} {out : Int} {x1 : Int} {x2 : Int} (hl : l.stackTraces = false) (hd : 3 ≤ d) (hx1 : inR x1) (hx2 : inR x2) (h : fX9_ofTrip N A x1 x2 = some out) : CT g l yX9_ofTrip cX9_ofTrip 3 (some .int) d [.ref (gB g + 349), vI x1, vI x2] A ((0, some (vI out), A) : JO) (inR out) :=
  CT_of (by decide +kernel) hl (by first | exact Nat.le_of_ble_eq_true rfl | (unfold rv; split <;> exact Nat.le_of_ble_eq_true rfl)) (by first | rfl | (unfold rv; split <;> rfl)) (j_sub (lv := [(0, .ref (gB g + 349)), (1, vI x1), (2, vI x2)]) [0, 1, 2] rfl (tX9_ofTrip_0 hl hd hx1 hx2 h))
set_option maxRecDepth 100000 in
theorem tX9_ofRide_0 {g : JG} {l : Launch} {d N n0 s0 : Nat} {out : Int} {A : AH} {x1 : Int} {x2 : Int} (hl : l.stackTraces = false) (hd : 2 ≤ d) (hx1 : inR x1) (hx2 : inR x2) (h : fX9_ofRide N A x1 x2 = some out) : J g l d RX9 "ofRide" cX9_ofRide 3 (some .int) n0 s0 ((0, some (vI out), A) : JO) (inR out) 0 [(1, vI x1), (2, vI x2)] [] A := by
  unfold fX9_ofRide at h
  refine j_iload_n (j := 1) dX9_ofRide_0 rfl rfl ?_
  by_cases c1 : x2 = 0
  · rw [if_pos c1] at h
    refine j_if_ne_f hx2 dX9_ofRide_1 (tgt := 8) (by decide) (fun q => q c1) ?_
    refine j_iconst dX9_ofRide_4 ?_
    refine j_goto (tgt := 48) dX9_ofRide_5 (by decide) ?_
    cases h
    exact j_iret dX9_ofRide_48 rfl rfl rfl (inR_lit _ rfl)
  · rw [if_neg c1] at h
    refine j_if_ne_t hx2 dX9_ofRide_1 (tgt := 8) (by decide) c1 ?_
    refine j_iload_n (j := 1) dX9_ofRide_8 rfl rfl ?_
    refine j_iconst dX9_ofRide_9 ?_
    by_cases c2 : x2 = 1
    · rw [if_pos c2] at h
      refine j_icmp_ne_f hx2 (inR_lit _ rfl) dX9_ofRide_10 (tgt := 20) (by decide) (fun q => q c2) ?_
      refine j_iload_n (j := 0) dX9_ofRide_13 rfl rfl ?_
      obtain ⟨z18, e17, h⟩ := obind_elim h
      refine j_callS MX9_279 YX9_hourOf IX9_hourOf (by decide) (by omega) (Nat.le_of_ble_eq_true rfl) rfl (ctX9_hourOf (d := d - 1) hl (by omega) hx1 e17) dX9_ofRide_14 rfl (fun z19 _ => ?_)
      refine j_goto (tgt := 48) dX9_ofRide_17 (by decide) ?_
      cases h
      exact j_iret dX9_ofRide_48 rfl rfl rfl z19
    · rw [if_neg c2] at h
      refine j_icmp_ne_t hx2 (inR_lit _ rfl) dX9_ofRide_10 (tgt := 20) (by decide) c2 ?_
      refine j_iload_n (j := 1) dX9_ofRide_20 rfl rfl ?_
      refine j_iconst dX9_ofRide_21 ?_
      by_cases c3 : x2 = 2
      · rw [if_pos c3] at h
        refine j_icmp_ne_f hx2 (inR_lit _ rfl) dX9_ofRide_22 (tgt := 32) (by decide) (fun q => q c3) ?_
        refine j_iload_n (j := 0) dX9_ofRide_25 rfl rfl ?_
        obtain ⟨z14, e13, h⟩ := obind_elim h
        refine j_callS MX9_143 YX9_endOf IX9_endOf (by decide) (by omega) (Nat.le_of_ble_eq_true rfl) rfl (ctX9_endOf (d := d - 1) hl (by omega) hx1 e13) dX9_ofRide_26 rfl (fun z15 _ => ?_)
        refine j_goto (tgt := 48) dX9_ofRide_29 (by decide) ?_
        cases h
        exact j_iret dX9_ofRide_48 rfl rfl rfl z15
      · rw [if_neg c3] at h
        refine j_icmp_ne_t hx2 (inR_lit _ rfl) dX9_ofRide_22 (tgt := 32) (by decide) c3 ?_
        refine j_iload_n (j := 1) dX9_ofRide_32 rfl rfl ?_
        refine j_iconst dX9_ofRide_33 ?_
        by_cases c4 : x2 = 3
        · rw [if_pos c4] at h
          refine j_icmp_ne_f hx2 (inR_lit _ rfl) dX9_ofRide_34 (tgt := 44) (by decide) (fun q => q c4) ?_
          refine j_iload_n (j := 0) dX9_ofRide_37 rfl rfl ?_
          obtain ⟨z10, e9, h⟩ := obind_elim h
          refine j_callS MX9_282 YX9_boatOf IX9_boatOf (by decide) (by omega) (Nat.le_of_ble_eq_true rfl) rfl (ctX9_boatOf (d := d - 1) hl (by omega) hx1 e9) dX9_ofRide_38 rfl (fun z11 _ => ?_)
          refine j_goto (tgt := 48) dX9_ofRide_41 (by decide) ?_
          cases h
          exact j_iret dX9_ofRide_48 rfl rfl rfl z11
        · rw [if_neg c4] at h
          refine j_icmp_ne_t hx2 (inR_lit _ rfl) dX9_ofRide_34 (tgt := 44) (by decide) c4 ?_
          refine j_iload_n (j := 0) dX9_ofRide_44 rfl rfl ?_
          obtain ⟨z6, e5, h⟩ := obind_elim h
          refine j_callS MX9_146 YX9_toOf IX9_toOf (by decide) (by omega) (Nat.le_of_ble_eq_true rfl) rfl (ctX9_toOf (d := d - 1) hl (by omega) hx1 e5) dX9_ofRide_45 rfl (fun z7 _ => ?_)
          cases h
          exact j_iret dX9_ofRide_48 rfl rfl rfl z7
theorem ctX9_ofRide {g : JG} {l : Launch} {d N : Nat} {A : AH} {out : Int} {x1 : Int} {x2 : Int} (hl : l.stackTraces = false) (hd : 2 ≤ d) (hx1 : inR x1) (hx2 : inR x2) (h : fX9_ofRide N A x1 x2 = some out) : CT g l yX9_ofRide cX9_ofRide 3 (some .int) d [.ref (gB g + 349), vI x1, vI x2] A ((0, some (vI out), A) : JO) (inR out) :=
  CT_of (by decide +kernel) hl (by first | exact Nat.le_of_ble_eq_true rfl | (unfold rv; split <;> exact Nat.le_of_ble_eq_true rfl)) (by first | rfl | (unfold rv; split <;> rfl)) (j_sub (lv := [(0, .ref (gB g + 349)), (1, vI x1), (2, vI x2)]) [1, 2] rfl (tX9_ofRide_0 hl hd hx1 hx2 h))
set_option maxRecDepth 100000 in
theorem tX9_planOf_65 {g : JG} {l : Launch} {d N n0 s0 : Nat} {out : Int × AH} {A : AH} {x3 : Int} {x4 : Int} (hl : l.stackTraces = false) (hd : 4 ≤ d) (hx3 : inR x3) (hx4 : inR x4) (h : fX9_planOf_65 N A x3 x4 = some out) : J g l d RX9 "planOf" cX9_planOf 6 (some .int) n0 s0 ((0, some (vI out.1), out.2) : JO) (inR out.1) 65 [(0, .ref (gB g + 349)), (3, vI x3), (4, vI x4)] [] A := by
  unfold fX9_planOf_65 at h
  refine j_iload (j := 2) dX9_planOf_65 rfl ?_
  by_cases c1 : 0 ≤ x4
  · rw [if_pos c1] at h
    refine j_if_ge_t hx4 dX9_planOf_67 (tgt := 76) (by decide) c1 ?_
    refine j_iload_n (j := 1) dX9_planOf_76 rfl rfl ?_
    refine j_iconst dX9_planOf_77 ?_
    refine j_iconst dX9_planOf_78 ?_
    obtain ⟨z3, e2, h⟩ := obind_elim h
    refine j_callS MX9_90 YX9_isBetween IX9_isBetween (by decide) (by omega) (Nat.le_of_ble_eq_true rfl) rfl (ctX9_isBetween (d := d - 1) hl (by omega) hx3 (inR_lit _ rfl) (inR_lit _ rfl) e2) dX9_planOf_79 rfl (fun z4 _ => ?_)
    by_cases c6 : z3 = 0
    · rw [if_pos c6] at h
      refine j_if_ne_f (bool_inR z4) dX9_planOf_82 (tgt := 91) (by decide) (fun q => q c6) ?_
      refine j_aload_n (j := 0) dX9_planOf_85 rfl rfl ?_
      refine j_iconst dX9_planOf_86 ?_
      obtain ⟨p20, e19, h⟩ := obind_elim h
      refine j_callV MX9_220 YX9_fails IX9_fails SX9_fails (by decide) rfl (by decide) (by omega) (Nat.le_of_ble_eq_true rfl) rfl (ctX9_fails (d := d - 1) hl (by omega) (inR_lit _ rfl) e19) dX9_planOf_87 (VK_c 9 349 rfl).1 (VK_c 9 349 rfl).lt (VK_c 9 349 rfl).ka rfl (fun z21 xt22 => ?_)
      cases h
      exact j_iret dX9_planOf_90 rfl rfl rfl z21
    · rw [if_neg c6] at h
      refine j_if_ne_t (bool_inR z4) dX9_planOf_82 (tgt := 91) (by decide) c6 ?_
      refine j_aload_n (j := 0) dX9_planOf_91 rfl rfl ?_
      refine j_iconst dX9_planOf_92 ?_
      obtain ⟨A7, eA7, h⟩ := bnd_elim h
      have xA7 : XT A A7 := by rw [eA7]; exact XT_sI _ _ _ _
      refine j_putI FX9_87 rfl rfl rfl (inR_lit _ rfl) dX9_planOf_93 (VK_c 9 349 rfl).1 (VK_c 9 349 rfl).lt (VK_c 9 349 rfl).ka ?_
      refine j_hB eA7 ?_
      refine j_iload (j := 2) dX9_planOf_96 rfl ?_
      refine j_bipush dX9_planOf_98 rfl ?_
      by_cases c8 : 16 ≤ x4
      · rw [if_pos c8] at h
        refine j_icmp_ge_t hx4 (inR_lit _ rfl) dX9_planOf_100 (tgt := 113) (by decide) c8 ?_
        refine j_aload_n (j := 0) dX9_planOf_113 rfl rfl ?_
        refine j_aload_n (j := 0) dX9_planOf_114 rfl rfl ?_
        refine j_getR (q := 367) FX9_61 rfl dX9_planOf_115 (by decide) (by decide) rfl rfl (by decide) ?_
        refine j_iload (j := 2) dX9_planOf_118 rfl ?_
        refine j_bipush dX9_planOf_120 rfl ?_
        refine j_isub dX9_planOf_122 ?_
        obtain ⟨c9, h⟩ := chk_elim h
        refine j_iald (wrap_inR _) (by decide) (by decide) rfl dX9_planOf_123 (VK_c 37 367 rfl).1 (VK_c 37 367 rfl).lt (VK_c 37 367 rfl).ka c9 (fun r10 => ?_)
        refine j_iload_n (j := 1) dX9_planOf_124 rfl rfl ?_
        obtain ⟨z12, e11, h⟩ := obind_elim h
        refine j_callV MX9_294 YX9_ofRide IX9_ofRide SX9_ofRide (by decide) rfl (by decide) (by omega) (Nat.le_of_ble_eq_true rfl) rfl (ctX9_ofRide (d := d - 1) hl (by omega) r10 hx3 e11) dX9_planOf_125 (VK_c 9 349 rfl).1 (VK_c 9 349 rfl).lt (VK_c 9 349 rfl).ka rfl (fun z13 _ => ?_)
        cases h
        exact j_iret dX9_planOf_128 rfl rfl rfl z13
      · rw [if_neg c8] at h
        refine j_icmp_ge_f hx4 (inR_lit _ rfl) dX9_planOf_100 (tgt := 113) (by decide) c8 ?_
        refine j_aload_n (j := 0) dX9_planOf_103 rfl rfl ?_
        refine j_iload (j := 2) dX9_planOf_104 rfl ?_
        refine j_iload_n (j := 1) dX9_planOf_106 rfl rfl ?_
        obtain ⟨z16, e15, h⟩ := obind_elim h
        refine j_callV MX9_291 YX9_ofTrip IX9_ofTrip SX9_ofTrip (by decide) rfl (by decide) (by omega) (Nat.le_of_ble_eq_true rfl) rfl (ctX9_ofTrip (d := d - 1) hl (by omega) hx4 hx3 e15) dX9_planOf_107 (VK_c 9 349 rfl).1 (VK_c 9 349 rfl).lt (VK_c 9 349 rfl).ka rfl (fun z17 _ => ?_)
        refine j_goto (tgt := 128) dX9_planOf_110 (by decide) ?_
        cases h
        exact j_iret dX9_planOf_128 rfl rfl rfl z17
  · rw [if_neg c1] at h
    refine j_if_ge_f hx4 dX9_planOf_67 (tgt := 76) (by decide) c1 ?_
    refine j_aload_n (j := 0) dX9_planOf_70 rfl rfl ?_
    refine j_iconst dX9_planOf_71 ?_
    obtain ⟨p24, e23, h⟩ := obind_elim h
    refine j_callV MX9_220 YX9_fails IX9_fails SX9_fails (by decide) rfl (by decide) (by omega) (Nat.le_of_ble_eq_true rfl) rfl (ctX9_fails (d := d - 1) hl (by omega) (inR_lit _ rfl) e23) dX9_planOf_72 (VK_c 9 349 rfl).1 (VK_c 9 349 rfl).lt (VK_c 9 349 rfl).ka rfl (fun z25 xt26 => ?_)
    cases h
    exact j_iret dX9_planOf_75 rfl rfl rfl z25
set_option maxRecDepth 100000 in
theorem tX9_planOf_33 {g : JG} {l : Launch} {d N n0 s0 : Nat} {out : Int × AH} {x1 : Int} {x2 : Int} {x3 : Int} (hl : l.stackTraces = false) (hd : 4 ≤ d) (hx1 : inR x1) (hx2 : inR x2) (hx3 : inR x3) : ∀ (n : Nat) (A : AH) (x4 : Int) (x5 : Int), inR x4 → inR x5 → fX9_planOf_33 N x1 x2 x3 n A x4 x5 = some out → J g l d RX9 "planOf" cX9_planOf 6 (some .int) n0 s0 ((0, some (vI out.1), out.2) : JO) (inR out.1) 33 [(0, .ref (gB g + 349)), (1, vI x1), (2, vI x2), (3, vI x3), (4, vI x4), (5, vI x5)] [] A := by
  intro n
  induction n with
  | zero =>
    intro A x4 x5 hx4 hx5 h
    rw [fX9_planOf_33] at h
    cases h
  | succ n ih =>
    intro A x4 x5 hx4 hx5 h
    rw [fX9_planOf_33] at h
    refine j_iload (j := 5) dX9_planOf_33 rfl ?_
    refine j_iload_n (j := 2) dX9_planOf_35 rfl rfl ?_
    by_cases c1 : x2 ≤ x5
    · rw [if_pos c1] at h
      refine j_icmp_ge_t hx5 hx2 dX9_planOf_36 (tgt := 65) (by decide) c1 ?_
      exact j_sub [0, 3, 4] rfl (tX9_planOf_65 hl (by omega) hx3 hx4  h)
    · rw [if_neg c1] at h
      refine j_icmp_ge_f hx5 hx2 dX9_planOf_36 (tgt := 65) (by decide) c1 ?_
      refine j_iload (j := 4) dX9_planOf_39 rfl ?_
      by_cases c2 : x4 < 0
      · rw [if_pos c2] at h
        refine j_if_lt_t hx4 dX9_planOf_41 (tgt := 65) (by decide) c2 ?_
        exact j_sub [0, 3, 4] rfl (tX9_planOf_65 hl (by omega) hx3 hx4  h)
      · rw [if_neg c2] at h
        refine j_if_lt_f hx4 dX9_planOf_41 (tgt := 65) (by decide) c2 ?_
        refine j_aload_n (j := 0) dX9_planOf_44 rfl rfl ?_
        refine j_iload_n (j := 1) dX9_planOf_45 rfl rfl ?_
        refine j_aload_n (j := 0) dX9_planOf_46 rfl rfl ?_
        refine j_iload (j := 4) dX9_planOf_47 rfl ?_
        obtain ⟨z4, e3, h⟩ := obind_elim h
        refine j_callV MX9_288 YX9_beginOf IX9_beginOf SX9_beginOf (by decide) rfl (by decide) (by omega) (Nat.le_of_ble_eq_true rfl) rfl (ctX9_beginOf (d := d - 1) hl (by omega) hx4 e3) dX9_planOf_49 (VK_c 9 349 rfl).1 (VK_c 9 349 rfl).lt (VK_c 9 349 rfl).ka rfl (fun z5 _ => ?_)
        refine j_iconst dX9_planOf_52 ?_
        refine j_iadd dX9_planOf_53 ?_
        obtain ⟨z8, e7, h⟩ := obind_elim h
        refine j_callV MX9_285 YX9_nextOf IX9_nextOf SX9_nextOf (by decide) rfl (by decide) (by omega) (Nat.le_of_ble_eq_true rfl) rfl (ctX9_nextOf (d := d - 1) hl (by omega) hx1 (wrap_inR _) e7) dX9_planOf_54 (VK_c 9 349 rfl).1 (VK_c 9 349 rfl).lt (VK_c 9 349 rfl).ka rfl (fun z9 _ => ?_)
        refine j_istore (lv' := [(4, vI z8), (0, .ref (gB g + 349)), (1, vI x1), (2, vI x2), (3, vI x3), (5, vI x5)]) dX9_planOf_57 (by decide) (by first | rfl | (simp only [List.all_cons, List.all_nil, rv_cat]; rfl)) rfl ?_
        obtain ⟨u11, eu11, h⟩ := bnd_elim h
        have hu11 : inR u11 := by rw [eu11]; exact wrap_inR _
        refine j_iincN (k := 5) (lv' := [(5, vI u11), (4, vI z8), (0, .ref (gB g + 349)), (1, vI x1), (2, vI x2), (3, vI x3)]) eu11 dX9_planOf_59 rfl (by decide) (by first | rfl | (simp only [List.all_cons, List.all_nil, rv_cat]; rfl)) rfl ?_
        refine j_goto (tgt := 33) dX9_planOf_62 (by decide) ?_
        exact j_sub [2, 3, 4, 5, 1, 0] rfl (ih A z8 u11 z9 hu11 h)
set_option maxRecDepth 100000 in
theorem tX9_planOf_0 {g : JG} {l : Launch} {d N n0 s0 : Nat} {out : Int × AH} {A : AH} {x1 : Int} {x2 : Int} {x3 : Int} (hl : l.stackTraces = false) (hd : 4 ≤ d) (hx1 : inR x1) (hx2 : inR x2) (hx3 : inR x3) (h : fX9_planOf N A x1 x2 x3 = some out) : J g l d RX9 "planOf" cX9_planOf 6 (some .int) n0 s0 ((0, some (vI out.1), out.2) : JO) (inR out.1) 0 [(0, .ref (gB g + 349)), (1, vI x1), (2, vI x2), (3, vI x3)] [] A := by
  unfold fX9_planOf at h
  refine j_aload_n (j := 0) dX9_planOf_0 rfl rfl ?_
  refine j_iload_n (j := 1) dX9_planOf_1 rfl rfl ?_
  obtain ⟨z2, e1, h⟩ := obind_elim h
  refine j_callV MX9_245 YX9_isPilot IX9_isPilot SX9_isPilot (by decide) rfl (by decide) (by omega) (Nat.le_of_ble_eq_true rfl) rfl (ctX9_isPilot (d := d - 1) hl (by omega) hx1 e1) dX9_planOf_2 (VK_c 9 349 rfl).1 (VK_c 9 349 rfl).lt (VK_c 9 349 rfl).ka rfl (fun z3 _ => ?_)
  by_cases c5 : z2 = 0
  · rw [if_pos c5] at h
    refine j_if_ne_f (bool_inR z3) dX9_planOf_5 (tgt := 14) (by decide) (fun q => q c5) ?_
    refine j_aload_n (j := 0) dX9_planOf_8 rfl rfl ?_
    refine j_iconst dX9_planOf_9 ?_
    obtain ⟨p12, e11, h⟩ := obind_elim h
    refine j_callV MX9_220 YX9_fails IX9_fails SX9_fails (by decide) rfl (by decide) (by omega) (Nat.le_of_ble_eq_true rfl) rfl (ctX9_fails (d := d - 1) hl (by omega) (inR_lit _ rfl) e11) dX9_planOf_10 (VK_c 9 349 rfl).1 (VK_c 9 349 rfl).lt (VK_c 9 349 rfl).ka rfl (fun z13 xt14 => ?_)
    cases h
    exact j_iret dX9_planOf_13 rfl rfl rfl z13
  · rw [if_neg c5] at h
    refine j_if_ne_t (bool_inR z3) dX9_planOf_5 (tgt := 14) (by decide) c5 ?_
    refine j_iload_n (j := 2) dX9_planOf_14 rfl rfl ?_
    by_cases c6 : 0 ≤ x2
    · rw [if_pos c6] at h
      refine j_if_ge_t hx2 dX9_planOf_15 (tgt := 22) (by decide) c6 ?_
      refine j_aload_n (j := 0) dX9_planOf_22 rfl rfl ?_
      refine j_iload_n (j := 1) dX9_planOf_23 rfl rfl ?_
      refine j_iconst dX9_planOf_24 ?_
      obtain ⟨z8, e7, h⟩ := obind_elim h
      refine j_callV MX9_285 YX9_nextOf IX9_nextOf SX9_nextOf (by decide) rfl (by decide) (by omega) (Nat.le_of_ble_eq_true rfl) rfl (ctX9_nextOf (d := d - 1) hl (by omega) hx1 (inR_lit _ rfl) e7) dX9_planOf_25 (VK_c 9 349 rfl).1 (VK_c 9 349 rfl).lt (VK_c 9 349 rfl).ka rfl (fun z9 _ => ?_)
      refine j_istore (lv' := [(4, vI z8), (0, .ref (gB g + 349)), (1, vI x1), (2, vI x2), (3, vI x3)]) dX9_planOf_28 (by decide) (by first | rfl | (simp only [List.all_cons, List.all_nil, rv_cat]; rfl)) rfl ?_
      refine j_iconst dX9_planOf_30 ?_
      refine j_istore (lv' := [(5, vI 0), (4, vI z8), (0, .ref (gB g + 349)), (1, vI x1), (2, vI x2), (3, vI x3)]) dX9_planOf_31 (by decide) (by first | rfl | (simp only [List.all_cons, List.all_nil, rv_cat]; rfl)) rfl ?_
      exact j_sub [2, 3, 4, 5, 1, 0] rfl (tX9_planOf_33 hl (by omega) hx1 hx2 hx3  N A z8 0 z9 (inR_lit _ rfl) h)
    · rw [if_neg c6] at h
      refine j_if_ge_f hx2 dX9_planOf_15 (tgt := 22) (by decide) c6 ?_
      refine j_iconst dX9_planOf_18 ?_
      refine j_goto (tgt := 28) dX9_planOf_19 (by decide) ?_
      refine j_istore (lv' := [(4, vI (-1)), (0, .ref (gB g + 349)), (1, vI x1), (2, vI x2), (3, vI x3)]) dX9_planOf_28 (by decide) (by first | rfl | (simp only [List.all_cons, List.all_nil, rv_cat]; rfl)) rfl ?_
      refine j_iconst dX9_planOf_30 ?_
      refine j_istore (lv' := [(5, vI 0), (4, vI (-1)), (0, .ref (gB g + 349)), (1, vI x1), (2, vI x2), (3, vI x3)]) dX9_planOf_31 (by decide) (by first | rfl | (simp only [List.all_cons, List.all_nil, rv_cat]; rfl)) rfl ?_
      exact j_sub [2, 3, 4, 5, 1, 0] rfl (tX9_planOf_33 hl (by omega) hx1 hx2 hx3  N A (-1) 0 (inR_lit _ rfl) (inR_lit _ rfl) h)
