set_option maxRecDepth 100000 in
theorem tL_rule_0 {g : JG} {l : Launch} {d N n0 s0 : Nat} {out : Int × AH} {A : AH} {x1 : Int} {x2 : Int} (hl : l.stackTraces = false) (hd : 8 ≤ d) (hx1 : inR x1) (hx2 : inR x2) (h : fL_rule N A x1 x2 = some out) : J g l d RL "rule" cL_rule 5 (some .int) n0 s0 ((0, some (vI out.1), out.2) : JO) (inR out.1) 0 [(0, .ref (gB g + 1)), (1, vI x1), (2, vI x2), (3, .ref (gB g + 374))] [] A := by
  unfold fL_rule at h
  refine j_aload_n (j := 3) dL_rule_0 rfl rfl ?_
  refine j_iconst dL_rule_1 ?_
  refine j_aload_n (j := 0) dL_rule_2 rfl rfl ?_
  refine j_iload_n (j := 1) dL_rule_3 rfl rfl ?_
  refine j_iload_n (j := 2) dL_rule_4 rfl rfl ?_
  obtain ⟨p2, e1, h⟩ := obind_elim h
  have t6 := ctX8_rule (d := d - 1) hl (by omega) hx1 hx2 e1 (g := g)
  by_cases c5 : p2.1 = 0
  rotate_left
  · rw [if_neg c5] at h
    by_cases c7 : p2.1 = 1
    · rw [if_pos c7] at h
      rw [c7] at t6
      refine j_callVc (k := 1) ML_7 YX8_rule IX8_rule SX8_rule (by decide) rfl (by decide) (by omega) (Nat.le_of_ble_eq_true rfl) rfl t6 dL_rule_5 (VK_c 8 1 rfl).1 (VK_c 8 1 rfl).lt (VK_c 8 1 rfl).ka rfl (by decide) [] (0, 10, 13, 13) [] rfl (fun z hz => nomatch hz) (by decide) (by decide) (by decide) (by decide) (gdI (i := 587) (by decide +kernel) rfl) (nwI (i := 594) (by decide +kernel) rfl) (fun _ qx => ?_)
      refine j_astore (lv' := [(4, .ref qx), (0, .ref (gB g + 1)), (1, vI x1), (2, vI x2), (3, .ref (gB g + 374))]) dL_rule_13 (by decide) (by first | rfl | (simp only [List.all_cons, List.all_nil, rv_cat]; rfl)) rfl ?_
      refine j_iconst dL_rule_15 ?_
      cases h
      exact j_iret dL_rule_16 rfl rfl rfl (inR_lit _ rfl)
    · rw [if_neg c7] at h
      cases h
  rw [if_pos c5] at h
  rw [c5] at t6
  change CT _ _ _ _ _ _ _ _ _ (0, some (vI p2.2.1), p2.2.2) _ at t6
  refine j_callV ML_7 YX8_rule IX8_rule SX8_rule (by decide) rfl (by decide) (by omega) (Nat.le_of_ble_eq_true rfl) rfl t6 dL_rule_5 (VK_c 8 1 rfl).1 (VK_c 8 1 rfl).lt (VK_c 8 1 rfl).ka rfl (fun z3 xt4 => ?_)
  refine j_i2l z3 dL_rule_8 ?_
  obtain ⟨A8, eA8, h⟩ := bnd_elim h
  have xA8 : XT p2.2.2 A8 := by rw [eA8]; exact XT_sI _ _ _ _
  refine j_last z3 dL_rule_9 ?_
  refine j_hB eA8 ?_
  refine j_goto (tgt := 17) dL_rule_10 (by decide) ?_
  refine j_iconst dL_rule_17 ?_
  cases h
  exact j_iret dL_rule_18 rfl rfl rfl (inR_lit _ rfl)
theorem ctL_rule {g : JG} {l : Launch} {d N : Nat} {A : AH} {out : Int × AH} {x1 : Int} {x2 : Int} (hl : l.stackTraces = false) (hd : 8 ≤ d) (hx1 : inR x1) (hx2 : inR x2) (h : fL_rule N A x1 x2 = some out) : CTW g l yL_rule cL_rule 5 (some .int) d [.ref (gB g + 1), vI x1, vI x2, .ref (gB g + 374)] A ((0, some (vI out.1), out.2) : JO) (inR out.1) :=
  CTW_of (by decide +kernel) hl (by first | exact Nat.le_of_ble_eq_true rfl | (unfold rv; split <;> exact Nat.le_of_ble_eq_true rfl)) (by first | rfl | (unfold rv; split <;> rfl)) (j_sub (lv := [(0, .ref (gB g + 1)), (1, vI x1), (2, vI x2), (3, .ref (gB g + 374))]) [0, 1, 2, 3] rfl (tL_rule_0 hl hd hx1 hx2 h))
set_option maxRecDepth 100000 in
theorem tL_tide_0 {g : JG} {l : Launch} {d N n0 s0 : Nat} {out : Int × AH} {A : AH} {x1 : Int} {x2 : Int} (hl : l.stackTraces = false) (hd : 8 ≤ d) (hx1 : inR x1) (hx2 : inR x2) (h : fL_tide N A x1 x2 = some out) : J g l d RL "tide" cL_tide 5 (some .int) n0 s0 ((0, some (vI out.1), out.2) : JO) (inR out.1) 0 [(0, .ref (gB g + 1)), (1, vI x1), (2, vI x2), (3, .ref (gB g + 374))] [] A := by
  unfold fL_tide at h
  refine j_aload_n (j := 3) dL_tide_0 rfl rfl ?_
  refine j_iconst dL_tide_1 ?_
  refine j_aload_n (j := 0) dL_tide_2 rfl rfl ?_
  refine j_iload_n (j := 1) dL_tide_3 rfl rfl ?_
  refine j_iload_n (j := 2) dL_tide_4 rfl rfl ?_
  obtain ⟨p2, e1, h⟩ := obind_elim h
  have t6 := ctX8_tide (d := d - 1) hl (by omega) hx1 hx2 e1 (g := g)
  by_cases c5 : p2.1 = 0
  rotate_left
  · rw [if_neg c5] at h
    by_cases c7 : p2.1 = 1
    · rw [if_pos c7] at h
      rw [c7] at t6
      refine j_callVc (k := 1) ML_15 YX8_tide IX8_tide SX8_tide (by decide) rfl (by decide) (by omega) (Nat.le_of_ble_eq_true rfl) rfl t6 dL_tide_5 (VK_c 8 1 rfl).1 (VK_c 8 1 rfl).lt (VK_c 8 1 rfl).ka rfl (by decide) [] (0, 10, 13, 13) [] rfl (fun z hz => nomatch hz) (by decide) (by decide) (by decide) (by decide) (gdI (i := 587) (by decide +kernel) rfl) (nwI (i := 594) (by decide +kernel) rfl) (fun _ qx => ?_)
      refine j_astore (lv' := [(4, .ref qx), (0, .ref (gB g + 1)), (1, vI x1), (2, vI x2), (3, .ref (gB g + 374))]) dL_tide_13 (by decide) (by first | rfl | (simp only [List.all_cons, List.all_nil, rv_cat]; rfl)) rfl ?_
      refine j_iconst dL_tide_15 ?_
      cases h
      exact j_iret dL_tide_16 rfl rfl rfl (inR_lit _ rfl)
    · rw [if_neg c7] at h
      cases h
  rw [if_pos c5] at h
  rw [c5] at t6
  change CT _ _ _ _ _ _ _ _ _ (0, some (vI p2.2.1), p2.2.2) _ at t6
  refine j_callV ML_15 YX8_tide IX8_tide SX8_tide (by decide) rfl (by decide) (by omega) (Nat.le_of_ble_eq_true rfl) rfl t6 dL_tide_5 (VK_c 8 1 rfl).1 (VK_c 8 1 rfl).lt (VK_c 8 1 rfl).ka rfl (fun z3 xt4 => ?_)
  refine j_i2l z3 dL_tide_8 ?_
  obtain ⟨A8, eA8, h⟩ := bnd_elim h
  have xA8 : XT p2.2.2 A8 := by rw [eA8]; exact XT_sI _ _ _ _
  refine j_last z3 dL_tide_9 ?_
  refine j_hB eA8 ?_
  refine j_goto (tgt := 17) dL_tide_10 (by decide) ?_
  refine j_iconst dL_tide_17 ?_
  cases h
  exact j_iret dL_tide_18 rfl rfl rfl (inR_lit _ rfl)
theorem ctL_tide {g : JG} {l : Launch} {d N : Nat} {A : AH} {out : Int × AH} {x1 : Int} {x2 : Int} (hl : l.stackTraces = false) (hd : 8 ≤ d) (hx1 : inR x1) (hx2 : inR x2) (h : fL_tide N A x1 x2 = some out) : CTW g l yL_tide cL_tide 5 (some .int) d [.ref (gB g + 1), vI x1, vI x2, .ref (gB g + 374)] A ((0, some (vI out.1), out.2) : JO) (inR out.1) :=
  CTW_of (by decide +kernel) hl (by first | exact Nat.le_of_ble_eq_true rfl | (unfold rv; split <;> exact Nat.le_of_ble_eq_true rfl)) (by first | rfl | (unfold rv; split <;> rfl)) (j_sub (lv := [(0, .ref (gB g + 1)), (1, vI x1), (2, vI x2), (3, .ref (gB g + 374))]) [0, 1, 2, 3] rfl (tL_tide_0 hl hd hx1 hx2 h))
set_option maxRecDepth 100000 in
theorem tL_depth_0 {g : JG} {l : Launch} {d N n0 s0 : Nat} {out : Int × AH} {A : AH} {x1 : Int} (hl : l.stackTraces = false) (hd : 9 ≤ d) (hx1 : inR x1) (h : fL_depth N A x1 = some out) : J g l d RL "depth" cL_depth 4 (some .int) n0 s0 ((0, some (vI out.1), out.2) : JO) (inR out.1) 0 [(0, .ref (gB g + 1)), (1, vI x1), (2, .ref (gB g + 374))] [] A := by
  unfold fL_depth at h
  refine j_aload_n (j := 2) dL_depth_0 rfl rfl ?_
  refine j_iconst dL_depth_1 ?_
  refine j_aload_n (j := 0) dL_depth_2 rfl rfl ?_
  refine j_iload_n (j := 1) dL_depth_3 rfl rfl ?_
  obtain ⟨p2, e1, h⟩ := obind_elim h
  have t6 := ctX8_depth (d := d - 1) hl (by omega) hx1 e1 (g := g)
  by_cases c5 : p2.1 = 0
  rotate_left
  · rw [if_neg c5] at h
    by_cases c7 : p2.1 = 3
    · rw [if_pos c7] at h
      rw [c7] at t6
      refine j_callVc (k := 3) ML_18 YX8_depth IX8_depth SX8_depth (by decide) rfl (by decide) (by omega) (Nat.le_of_ble_eq_true rfl) rfl t6 dL_depth_4 (VK_c 8 1 rfl).1 (VK_c 8 1 rfl).lt (VK_c 8 1 rfl).ka rfl (by decide) [] (0, 9, 12, 22) [] rfl (fun z hz => nomatch hz) (by decide) (by decide) (by decide) (by decide) (gdI (i := 681) (by decide +kernel) rfl) (nwI (i := 714) (by decide +kernel) rfl) (fun _ qx => ?_)
      refine j_astore_n (lv' := [(3, .ref qx), (0, .ref (gB g + 1)), (1, vI x1), (2, .ref (gB g + 374))]) dL_depth_12 rfl (by decide) (by first | rfl | (simp only [List.all_cons, List.all_nil, rv_cat]; rfl)) rfl ?_
      refine j_iconst dL_depth_13 ?_
      cases h
      exact j_iret dL_depth_14 rfl rfl rfl (inR_lit _ rfl)
    · rw [if_neg c7] at h
      cases h
  rw [if_pos c5] at h
  rw [c5] at t6
  change CT _ _ _ _ _ _ _ _ _ (0, some (vI p2.2.1), p2.2.2) _ at t6
  refine j_callV ML_18 YX8_depth IX8_depth SX8_depth (by decide) rfl (by decide) (by omega) (Nat.le_of_ble_eq_true rfl) rfl t6 dL_depth_4 (VK_c 8 1 rfl).1 (VK_c 8 1 rfl).lt (VK_c 8 1 rfl).ka rfl (fun z3 xt4 => ?_)
  refine j_i2l z3 dL_depth_7 ?_
  obtain ⟨A8, eA8, h⟩ := bnd_elim h
  have xA8 : XT p2.2.2 A8 := by rw [eA8]; exact XT_sI _ _ _ _
  refine j_last z3 dL_depth_8 ?_
  refine j_hB eA8 ?_
  refine j_goto (tgt := 15) dL_depth_9 (by decide) ?_
  refine j_iconst dL_depth_15 ?_
  cases h
  exact j_iret dL_depth_16 rfl rfl rfl (inR_lit _ rfl)
theorem ctL_depth {g : JG} {l : Launch} {d N : Nat} {A : AH} {out : Int × AH} {x1 : Int} (hl : l.stackTraces = false) (hd : 9 ≤ d) (hx1 : inR x1) (h : fL_depth N A x1 = some out) : CTW g l yL_depth cL_depth 4 (some .int) d [.ref (gB g + 1), vI x1, .ref (gB g + 374)] A ((0, some (vI out.1), out.2) : JO) (inR out.1) :=
  CTW_of (by decide +kernel) hl (by first | exact Nat.le_of_ble_eq_true rfl | (unfold rv; split <;> exact Nat.le_of_ble_eq_true rfl)) (by first | rfl | (unfold rv; split <;> rfl)) (j_sub (lv := [(0, .ref (gB g + 1)), (1, vI x1), (2, .ref (gB g + 374))]) [0, 1, 2] rfl (tL_depth_0 hl hd hx1 h))
set_option maxRecDepth 100000 in
theorem tL_addPilot_0 {g : JG} {l : Launch} {d N n0 s0 : Nat} {out : Int × AH} {A : AH} {x1 : Int} (hl : l.stackTraces = false) (hd : 8 ≤ d) (hx1 : inR x1) (h : fL_addPilot N A x1 = some out) : J g l d RL "addPilot" cL_addPilot 4 (some .int) n0 s0 ((0, some (vI out.1), out.2) : JO) (inR out.1) 0 [(0, .ref (gB g + 1)), (1, vI x1), (2, .ref (gB g + 374))] [] A := by
  unfold fL_addPilot at h
  refine j_aload_n (j := 2) dL_addPilot_0 rfl rfl ?_
  refine j_iconst dL_addPilot_1 ?_
  refine j_aload_n (j := 0) dL_addPilot_2 rfl rfl ?_
  refine j_iload_n (j := 1) dL_addPilot_3 rfl rfl ?_
  obtain ⟨p2, e1, h⟩ := obind_elim h
  have t6 := ctX8_addPilot (d := d - 1) hl (by omega) hx1 e1 (g := g)
  by_cases c5 : p2.1 = 0
  rotate_left
  · rw [if_neg c5] at h
    by_cases c8 : p2.1 = 1
    · rw [if_pos c8] at h
      rw [c8] at t6
      refine j_callVc (k := 1) ML_24 YX8_addPilot IX8_addPilot SX8_addPilot (by decide) rfl (by decide) (by omega) (Nat.le_of_ble_eq_true rfl) rfl t6 dL_addPilot_4 (VK_c 8 1 rfl).1 (VK_c 8 1 rfl).lt (VK_c 8 1 rfl).ka rfl (by decide) [] (0, 9, 12, 13) [(0, 9, 15, 27)] rfl (fun z hz => nomatch hz) (by decide) (by decide) (by decide) (by decide) (gdI (i := 587) (by decide +kernel) rfl) (nwI (i := 594) (by decide +kernel) rfl) (fun _ qx => ?_)
      refine j_astore_n (lv' := [(3, .ref qx), (0, .ref (gB g + 1)), (1, vI x1), (2, .ref (gB g + 374))]) dL_addPilot_12 rfl (by decide) (by first | rfl | (simp only [List.all_cons, List.all_nil, rv_cat]; rfl)) rfl ?_
      refine j_iconst dL_addPilot_13 ?_
      cases h
      exact j_iret dL_addPilot_14 rfl rfl rfl (inR_lit _ rfl)
    · rw [if_neg c8] at h
      by_cases c7 : p2.1 = 2
      · rw [if_pos c7] at h
        rw [c7] at t6
        refine j_callVc (k := 2) ML_24 YX8_addPilot IX8_addPilot SX8_addPilot (by decide) rfl (by decide) (by omega) (Nat.le_of_ble_eq_true rfl) rfl t6 dL_addPilot_4 (VK_c 8 1 rfl).1 (VK_c 8 1 rfl).lt (VK_c 8 1 rfl).ka rfl (by decide) [(0, 9, 12, 13)] (0, 9, 15, 27) [] rfl (List.forall_mem_cons.mpr ⟨⟨by decide, 1, gdI (i := 587) (by decide +kernel) rfl, by decide, by decide, by decide⟩, (fun z hz => nomatch hz)⟩) (by decide) (by decide) (by decide) (by decide) (gdI (i := 729) (by decide +kernel) rfl) (nwI (i := 737) (by decide +kernel) rfl) (fun _ qx => ?_)
        refine j_astore_n (lv' := [(3, .ref qx), (0, .ref (gB g + 1)), (1, vI x1), (2, .ref (gB g + 374))]) dL_addPilot_15 rfl (by decide) (by first | rfl | (simp only [List.all_cons, List.all_nil, rv_cat]; rfl)) rfl ?_
        refine j_iconst dL_addPilot_16 ?_
        cases h
        exact j_iret dL_addPilot_17 rfl rfl rfl (inR_lit _ rfl)
      · rw [if_neg c7] at h
        cases h
  rw [if_pos c5] at h
  rw [c5] at t6
  change CT _ _ _ _ _ _ _ _ _ (0, some (vI p2.2.1), p2.2.2) _ at t6
  refine j_callV ML_24 YX8_addPilot IX8_addPilot SX8_addPilot (by decide) rfl (by decide) (by omega) (Nat.le_of_ble_eq_true rfl) rfl t6 dL_addPilot_4 (VK_c 8 1 rfl).1 (VK_c 8 1 rfl).lt (VK_c 8 1 rfl).ka rfl (fun z3 xt4 => ?_)
  refine j_i2l z3 dL_addPilot_7 ?_
  obtain ⟨A9, eA9, h⟩ := bnd_elim h
  have xA9 : XT p2.2.2 A9 := by rw [eA9]; exact XT_sI _ _ _ _
  refine j_last z3 dL_addPilot_8 ?_
  refine j_hB eA9 ?_
  refine j_goto (tgt := 18) dL_addPilot_9 (by decide) ?_
  refine j_iconst dL_addPilot_18 ?_
  cases h
  exact j_iret dL_addPilot_19 rfl rfl rfl (inR_lit _ rfl)
theorem ctL_addPilot {g : JG} {l : Launch} {d N : Nat} {A : AH} {out : Int × AH} {x1 : Int} (hl : l.stackTraces = false) (hd : 8 ≤ d) (hx1 : inR x1) (h : fL_addPilot N A x1 = some out) : CTW g l yL_addPilot cL_addPilot 4 (some .int) d [.ref (gB g + 1), vI x1, .ref (gB g + 374)] A ((0, some (vI out.1), out.2) : JO) (inR out.1) :=
  CTW_of (by decide +kernel) hl (by first | exact Nat.le_of_ble_eq_true rfl | (unfold rv; split <;> exact Nat.le_of_ble_eq_true rfl)) (by first | rfl | (unfold rv; split <;> rfl)) (j_sub (lv := [(0, .ref (gB g + 1)), (1, vI x1), (2, .ref (gB g + 374))]) [0, 1, 2] rfl (tL_addPilot_0 hl hd hx1 h))
set_option maxRecDepth 100000 in
theorem tL_addBoat_0 {g : JG} {l : Launch} {d N n0 s0 : Nat} {out : Int × AH} {A : AH} {x1 : Int} (hl : l.stackTraces = false) (hd : 8 ≤ d) (hx1 : inR x1) (h : fL_addBoat N A x1 = some out) : J g l d RL "addBoat" cL_addBoat 4 (some .int) n0 s0 ((0, some (vI out.1), out.2) : JO) (inR out.1) 0 [(0, .ref (gB g + 1)), (1, vI x1), (2, .ref (gB g + 374))] [] A := by
  unfold fL_addBoat at h
  refine j_aload_n (j := 2) dL_addBoat_0 rfl rfl ?_
  refine j_iconst dL_addBoat_1 ?_
  refine j_aload_n (j := 0) dL_addBoat_2 rfl rfl ?_
  refine j_iload_n (j := 1) dL_addBoat_3 rfl rfl ?_
  obtain ⟨p2, e1, h⟩ := obind_elim h
  have t6 := ctX8_addBoat (d := d - 1) hl (by omega) hx1 e1 (g := g)
  by_cases c5 : p2.1 = 0
  rotate_left
  · rw [if_neg c5] at h
    by_cases c8 : p2.1 = 1
    · rw [if_pos c8] at h
      rw [c8] at t6
      refine j_callVc (k := 1) ML_29 YX8_addBoat IX8_addBoat SX8_addBoat (by decide) rfl (by decide) (by omega) (Nat.le_of_ble_eq_true rfl) rfl t6 dL_addBoat_4 (VK_c 8 1 rfl).1 (VK_c 8 1 rfl).lt (VK_c 8 1 rfl).ka rfl (by decide) [] (0, 9, 12, 13) [(0, 9, 15, 27)] rfl (fun z hz => nomatch hz) (by decide) (by decide) (by decide) (by decide) (gdI (i := 587) (by decide +kernel) rfl) (nwI (i := 594) (by decide +kernel) rfl) (fun _ qx => ?_)
      refine j_astore_n (lv' := [(3, .ref qx), (0, .ref (gB g + 1)), (1, vI x1), (2, .ref (gB g + 374))]) dL_addBoat_12 rfl (by decide) (by first | rfl | (simp only [List.all_cons, List.all_nil, rv_cat]; rfl)) rfl ?_
      refine j_iconst dL_addBoat_13 ?_
      cases h
      exact j_iret dL_addBoat_14 rfl rfl rfl (inR_lit _ rfl)
    · rw [if_neg c8] at h
      by_cases c7 : p2.1 = 2
      · rw [if_pos c7] at h
        rw [c7] at t6
        refine j_callVc (k := 2) ML_29 YX8_addBoat IX8_addBoat SX8_addBoat (by decide) rfl (by decide) (by omega) (Nat.le_of_ble_eq_true rfl) rfl t6 dL_addBoat_4 (VK_c 8 1 rfl).1 (VK_c 8 1 rfl).lt (VK_c 8 1 rfl).ka rfl (by decide) [(0, 9, 12, 13)] (0, 9, 15, 27) [] rfl (List.forall_mem_cons.mpr ⟨⟨by decide, 1, gdI (i := 587) (by decide +kernel) rfl, by decide, by decide, by decide⟩, (fun z hz => nomatch hz)⟩) (by decide) (by decide) (by decide) (by decide) (gdI (i := 729) (by decide +kernel) rfl) (nwI (i := 737) (by decide +kernel) rfl) (fun _ qx => ?_)
        refine j_astore_n (lv' := [(3, .ref qx), (0, .ref (gB g + 1)), (1, vI x1), (2, .ref (gB g + 374))]) dL_addBoat_15 rfl (by decide) (by first | rfl | (simp only [List.all_cons, List.all_nil, rv_cat]; rfl)) rfl ?_
        refine j_iconst dL_addBoat_16 ?_
        cases h
        exact j_iret dL_addBoat_17 rfl rfl rfl (inR_lit _ rfl)
      · rw [if_neg c7] at h
        cases h
  rw [if_pos c5] at h
  rw [c5] at t6
  change CT _ _ _ _ _ _ _ _ _ (0, some (vI p2.2.1), p2.2.2) _ at t6
  refine j_callV ML_29 YX8_addBoat IX8_addBoat SX8_addBoat (by decide) rfl (by decide) (by omega) (Nat.le_of_ble_eq_true rfl) rfl t6 dL_addBoat_4 (VK_c 8 1 rfl).1 (VK_c 8 1 rfl).lt (VK_c 8 1 rfl).ka rfl (fun z3 xt4 => ?_)
  refine j_i2l z3 dL_addBoat_7 ?_
  obtain ⟨A9, eA9, h⟩ := bnd_elim h
  have xA9 : XT p2.2.2 A9 := by rw [eA9]; exact XT_sI _ _ _ _
  refine j_last z3 dL_addBoat_8 ?_
  refine j_hB eA9 ?_
  refine j_goto (tgt := 18) dL_addBoat_9 (by decide) ?_
  refine j_iconst dL_addBoat_18 ?_
  cases h
  exact j_iret dL_addBoat_19 rfl rfl rfl (inR_lit _ rfl)
theorem ctL_addBoat {g : JG} {l : Launch} {d N : Nat} {A : AH} {out : Int × AH} {x1 : Int} (hl : l.stackTraces = false) (hd : 8 ≤ d) (hx1 : inR x1) (h : fL_addBoat N A x1 = some out) : CTW g l yL_addBoat cL_addBoat 4 (some .int) d [.ref (gB g + 1), vI x1, .ref (gB g + 374)] A ((0, some (vI out.1), out.2) : JO) (inR out.1) :=
  CTW_of (by decide +kernel) hl (by first | exact Nat.le_of_ble_eq_true rfl | (unfold rv; split <;> exact Nat.le_of_ble_eq_true rfl)) (by first | rfl | (unfold rv; split <;> rfl)) (j_sub (lv := [(0, .ref (gB g + 1)), (1, vI x1), (2, .ref (gB g + 374))]) [0, 1, 2] rfl (tL_addBoat_0 hl hd hx1 h))
set_option maxRecDepth 100000 in
theorem tL_order_0 {g : JG} {l : Launch} {d N n0 s0 : Nat} {out : Int × AH} {A : AH} {x1 : Int} {x2 : Int} {x3 : Int} {x4 : Int} {x5 : Int} (hl : l.stackTraces = false) (hd : 8 ≤ d) (hx1 : inR x1) (hx2 : x2 = 0 ∨ x2 = 1) (hx3 : inR x3) (hx4 : inR x4) (hx5 : inR x5) (h : fL_order N A x1 x2 x3 x4 x5 = some out) : J g l d RL "order" cL_order 8 (some .int) n0 s0 ((0, some (vI out.1), out.2) : JO) (inR out.1) 0 [(0, .ref (gB g + 1)), (1, vI x1), (2, vI x2), (3, vI x3), (4, vI x4), (5, vI x5), (6, .ref (gB g + 374))] [] A := by
  unfold fL_order at h
  refine j_aload (j := 6) dL_order_0 rfl ?_
  refine j_iconst dL_order_2 ?_
  refine j_aload_n (j := 0) dL_order_3 rfl rfl ?_
  refine j_iload_n (j := 1) dL_order_4 rfl rfl ?_
  refine j_iload_n (j := 2) dL_order_5 rfl rfl ?_
  refine j_iload_n (j := 3) dL_order_6 rfl rfl ?_
  refine j_iload (j := 4) dL_order_7 rfl ?_
  refine j_iload (j := 5) dL_order_9 rfl ?_
  obtain ⟨p2, e1, h⟩ := obind_elim h
  have t6 := ctX8_order (d := d - 1) hl (by omega) hx1 hx2 hx3 hx4 hx5 e1 (g := g)
  by_cases c5 : p2.1 = 0
  rotate_left
  · rw [if_neg c5] at h
    by_cases c8 : p2.1 = 1
    · rw [if_pos c8] at h
      rw [c8] at t6
      refine j_callVc (k := 1) ML_32 YX8_order IX8_order SX8_order (by decide) rfl (by decide) (by omega) (Nat.le_of_ble_eq_true rfl) rfl t6 dL_order_11 (VK_c 8 1 rfl).1 (VK_c 8 1 rfl).lt (VK_c 8 1 rfl).ka rfl (by decide) [] (0, 16, 19, 13) [(0, 16, 23, 27)] rfl (fun z hz => nomatch hz) (by decide) (by decide) (by decide) (by decide) (gdI (i := 587) (by decide +kernel) rfl) (nwI (i := 594) (by decide +kernel) rfl) (fun _ qx => ?_)
      refine j_astore (lv' := [(7, .ref qx), (0, .ref (gB g + 1)), (1, vI x1), (2, vI x2), (3, vI x3), (4, vI x4), (5, vI x5), (6, .ref (gB g + 374))]) dL_order_19 (by decide) (by first | rfl | (simp only [List.all_cons, List.all_nil, rv_cat]; rfl)) rfl ?_
      refine j_iconst dL_order_21 ?_
      cases h
      exact j_iret dL_order_22 rfl rfl rfl (inR_lit _ rfl)
    · rw [if_neg c8] at h
      by_cases c7 : p2.1 = 2
      · rw [if_pos c7] at h
        rw [c7] at t6
        refine j_callVc (k := 2) ML_32 YX8_order IX8_order SX8_order (by decide) rfl (by decide) (by omega) (Nat.le_of_ble_eq_true rfl) rfl t6 dL_order_11 (VK_c 8 1 rfl).1 (VK_c 8 1 rfl).lt (VK_c 8 1 rfl).ka rfl (by decide) [(0, 16, 19, 13)] (0, 16, 23, 27) [] rfl (List.forall_mem_cons.mpr ⟨⟨by decide, 1, gdI (i := 587) (by decide +kernel) rfl, by decide, by decide, by decide⟩, (fun z hz => nomatch hz)⟩) (by decide) (by decide) (by decide) (by decide) (gdI (i := 729) (by decide +kernel) rfl) (nwI (i := 737) (by decide +kernel) rfl) (fun _ qx => ?_)
        refine j_astore (lv' := [(7, .ref qx), (0, .ref (gB g + 1)), (1, vI x1), (2, vI x2), (3, vI x3), (4, vI x4), (5, vI x5), (6, .ref (gB g + 374))]) dL_order_23 (by decide) (by first | rfl | (simp only [List.all_cons, List.all_nil, rv_cat]; rfl)) rfl ?_
        refine j_iconst dL_order_25 ?_
        cases h
        exact j_iret dL_order_26 rfl rfl rfl (inR_lit _ rfl)
      · rw [if_neg c7] at h
        cases h
  rw [if_pos c5] at h
  rw [c5] at t6
  change CT _ _ _ _ _ _ _ _ _ (0, some (vI p2.2.1), p2.2.2) _ at t6
  refine j_callV ML_32 YX8_order IX8_order SX8_order (by decide) rfl (by decide) (by omega) (Nat.le_of_ble_eq_true rfl) rfl t6 dL_order_11 (VK_c 8 1 rfl).1 (VK_c 8 1 rfl).lt (VK_c 8 1 rfl).ka rfl (fun z3 xt4 => ?_)
  refine j_i2l z3 dL_order_14 ?_
  obtain ⟨A9, eA9, h⟩ := bnd_elim h
  have xA9 : XT p2.2.2 A9 := by rw [eA9]; exact XT_sI _ _ _ _
  refine j_last z3 dL_order_15 ?_
  refine j_hB eA9 ?_
  refine j_goto (tgt := 27) dL_order_16 (by decide) ?_
  refine j_iconst dL_order_27 ?_
  cases h
  exact j_iret dL_order_28 rfl rfl rfl (inR_lit _ rfl)
theorem ctL_order {g : JG} {l : Launch} {d N : Nat} {A : AH} {out : Int × AH} {x1 : Int} {x2 : Int} {x3 : Int} {x4 : Int} {x5 : Int} (hl : l.stackTraces = false) (hd : 8 ≤ d) (hx1 : inR x1) (hx2 : x2 = 0 ∨ x2 = 1) (hx3 : inR x3) (hx4 : inR x4) (hx5 : inR x5) (h : fL_order N A x1 x2 x3 x4 x5 = some out) : CTW g l yL_order cL_order 8 (some .int) d [.ref (gB g + 1), vI x1, vI x2, vI x3, vI x4, vI x5, .ref (gB g + 374)] A ((0, some (vI out.1), out.2) : JO) (inR out.1) :=
  CTW_of (by decide +kernel) hl (by first | exact Nat.le_of_ble_eq_true rfl | (unfold rv; split <;> exact Nat.le_of_ble_eq_true rfl)) (by first | rfl | (unfold rv; split <;> rfl)) (j_sub (lv := [(0, .ref (gB g + 1)), (1, vI x1), (2, vI x2), (3, vI x3), (4, vI x4), (5, vI x5), (6, .ref (gB g + 374))]) [0, 1, 2, 3, 4, 5, 6] rfl (tL_order_0 hl hd hx1 hx2 hx3 hx4 hx5 h))
set_option maxRecDepth 100000 in
theorem tL_orderOf_0 {g : JG} {l : Launch} {d N n0 s0 : Nat} {out : Int × AH} {A : AH} {x1 : Int} {x2 : Int} (hl : l.stackTraces = false) (hd : 9 ≤ d) (hx1 : inR x1) (hx2 : inR x2) (h : fL_orderOf N A x1 x2 = some out) : J g l d RL "orderOf" cL_orderOf 5 (some .int) n0 s0 ((0, some (vI out.1), out.2) : JO) (inR out.1) 0 [(0, .ref (gB g + 1)), (1, vI x1), (2, vI x2), (3, .ref (gB g + 374))] [] A := by
  unfold fL_orderOf at h
  refine j_aload_n (j := 3) dL_orderOf_0 rfl rfl ?_
  refine j_iconst dL_orderOf_1 ?_
  refine j_aload_n (j := 0) dL_orderOf_2 rfl rfl ?_
  refine j_iload_n (j := 1) dL_orderOf_3 rfl rfl ?_
  refine j_iload_n (j := 2) dL_orderOf_4 rfl rfl ?_
  obtain ⟨p2, e1, h⟩ := obind_elim h
  have t6 := ctX8_orderOf (d := d - 1) hl (by omega) hx1 hx2 e1 (g := g)
  by_cases c5 : p2.1 = 0
  rotate_left
  · rw [if_neg c5] at h
    by_cases c8 : p2.1 = 3
    · rw [if_pos c8] at h
      rw [c8] at t6
      refine j_callVc (k := 3) ML_36 YX8_orderOf IX8_orderOf SX8_orderOf (by decide) rfl (by decide) (by omega) (Nat.le_of_ble_eq_true rfl) rfl t6 dL_orderOf_5 (VK_c 8 1 rfl).1 (VK_c 8 1 rfl).lt (VK_c 8 1 rfl).ka rfl (by decide) [] (0, 10, 13, 22) [(0, 10, 17, 13)] rfl (fun z hz => nomatch hz) (by decide) (by decide) (by decide) (by decide) (gdI (i := 681) (by decide +kernel) rfl) (nwI (i := 714) (by decide +kernel) rfl) (fun _ qx => ?_)
      refine j_astore (lv' := [(4, .ref qx), (0, .ref (gB g + 1)), (1, vI x1), (2, vI x2), (3, .ref (gB g + 374))]) dL_orderOf_13 (by decide) (by first | rfl | (simp only [List.all_cons, List.all_nil, rv_cat]; rfl)) rfl ?_
      refine j_iconst dL_orderOf_15 ?_
      cases h
      exact j_iret dL_orderOf_16 rfl rfl rfl (inR_lit _ rfl)
    · rw [if_neg c8] at h
      by_cases c7 : p2.1 = 1
      · rw [if_pos c7] at h
        rw [c7] at t6
        refine j_callVc (k := 1) ML_36 YX8_orderOf IX8_orderOf SX8_orderOf (by decide) rfl (by decide) (by omega) (Nat.le_of_ble_eq_true rfl) rfl t6 dL_orderOf_5 (VK_c 8 1 rfl).1 (VK_c 8 1 rfl).lt (VK_c 8 1 rfl).ka rfl (by decide) [(0, 10, 13, 22)] (0, 10, 17, 13) [] rfl (List.forall_mem_cons.mpr ⟨⟨by decide, 3, gdI (i := 681) (by decide +kernel) rfl, by decide, by decide, by decide⟩, (fun z hz => nomatch hz)⟩) (by decide) (by decide) (by decide) (by decide) (gdI (i := 587) (by decide +kernel) rfl) (nwI (i := 594) (by decide +kernel) rfl) (fun _ qx => ?_)
        refine j_astore (lv' := [(4, .ref qx), (0, .ref (gB g + 1)), (1, vI x1), (2, vI x2), (3, .ref (gB g + 374))]) dL_orderOf_17 (by decide) (by first | rfl | (simp only [List.all_cons, List.all_nil, rv_cat]; rfl)) rfl ?_
        refine j_iconst dL_orderOf_19 ?_
        cases h
        exact j_iret dL_orderOf_20 rfl rfl rfl (inR_lit _ rfl)
      · rw [if_neg c7] at h
        cases h
  rw [if_pos c5] at h
  rw [c5] at t6
  change CT _ _ _ _ _ _ _ _ _ (0, some (vI p2.2.1), p2.2.2) _ at t6
  refine j_callV ML_36 YX8_orderOf IX8_orderOf SX8_orderOf (by decide) rfl (by decide) (by omega) (Nat.le_of_ble_eq_true rfl) rfl t6 dL_orderOf_5 (VK_c 8 1 rfl).1 (VK_c 8 1 rfl).lt (VK_c 8 1 rfl).ka rfl (fun z3 xt4 => ?_)
  refine j_i2l z3 dL_orderOf_8 ?_
  obtain ⟨A9, eA9, h⟩ := bnd_elim h
  have xA9 : XT p2.2.2 A9 := by rw [eA9]; exact XT_sI _ _ _ _
  refine j_last z3 dL_orderOf_9 ?_
  refine j_hB eA9 ?_
  refine j_goto (tgt := 21) dL_orderOf_10 (by decide) ?_
  refine j_iconst dL_orderOf_21 ?_
  cases h
  exact j_iret dL_orderOf_22 rfl rfl rfl (inR_lit _ rfl)
theorem ctL_orderOf {g : JG} {l : Launch} {d N : Nat} {A : AH} {out : Int × AH} {x1 : Int} {x2 : Int} (hl : l.stackTraces = false) (hd : 9 ≤ d) (hx1 : inR x1) (hx2 : inR x2) (h : fL_orderOf N A x1 x2 = some out) : CTW g l yL_orderOf cL_orderOf 5 (some .int) d [.ref (gB g + 1), vI x1, vI x2, .ref (gB g + 374)] A ((0, some (vI out.1), out.2) : JO) (inR out.1) :=
  CTW_of (by decide +kernel) hl (by first | exact Nat.le_of_ble_eq_true rfl | (unfold rv; split <;> exact Nat.le_of_ble_eq_true rfl)) (by first | rfl | (unfold rv; split <;> rfl)) (j_sub (lv := [(0, .ref (gB g + 1)), (1, vI x1), (2, vI x2), (3, .ref (gB g + 374))]) [0, 1, 2, 3] rfl (tL_orderOf_0 hl hd hx1 hx2 h))
set_option maxRecDepth 100000 in
theorem tL_window_0 {g : JG} {l : Launch} {d N n0 s0 : Nat} {out : Int × AH} {A : AH} {x1 : Int} {x2 : Int} (hl : l.stackTraces = false) (hd : 9 ≤ d) (hx1 : inR x1) (hx2 : inR x2) (h : fL_window N A x1 x2 = some out) : J g l d RL "window" cL_window 5 (some .int) n0 s0 ((0, some (vI out.1), out.2) : JO) (inR out.1) 0 [(0, .ref (gB g + 1)), (1, vI x1), (2, vI x2), (3, .ref (gB g + 374))] [] A := by
  unfold fL_window at h
  refine j_aload_n (j := 3) dL_window_0 rfl rfl ?_
  refine j_iconst dL_window_1 ?_
  refine j_aload_n (j := 0) dL_window_2 rfl rfl ?_
  refine j_iload_n (j := 1) dL_window_3 rfl rfl ?_
  refine j_iload_n (j := 2) dL_window_4 rfl rfl ?_
  obtain ⟨p2, e1, h⟩ := obind_elim h
  have t6 := ctX8_window (d := d - 1) hl (by omega) hx1 hx2 e1 (g := g)
  by_cases c5 : p2.1 = 0
  rotate_left
  · rw [if_neg c5] at h
    by_cases c8 : p2.1 = 3
    · rw [if_pos c8] at h
      rw [c8] at t6
      refine j_callVc (k := 3) ML_39 YX8_window IX8_window SX8_window (by decide) rfl (by decide) (by omega) (Nat.le_of_ble_eq_true rfl) rfl t6 dL_window_5 (VK_c 8 1 rfl).1 (VK_c 8 1 rfl).lt (VK_c 8 1 rfl).ka rfl (by decide) [] (0, 10, 13, 22) [(0, 10, 17, 42)] rfl (fun z hz => nomatch hz) (by decide) (by decide) (by decide) (by decide) (gdI (i := 681) (by decide +kernel) rfl) (nwI (i := 714) (by decide +kernel) rfl) (fun _ qx => ?_)
      refine j_astore (lv' := [(4, .ref qx), (0, .ref (gB g + 1)), (1, vI x1), (2, vI x2), (3, .ref (gB g + 374))]) dL_window_13 (by decide) (by first | rfl | (simp only [List.all_cons, List.all_nil, rv_cat]; rfl)) rfl ?_
      refine j_iconst dL_window_15 ?_
      cases h
      exact j_iret dL_window_16 rfl rfl rfl (inR_lit _ rfl)
    · rw [if_neg c8] at h
      by_cases c7 : p2.1 = 6
      · rw [if_pos c7] at h
        rw [c7] at t6
        refine j_callVc (k := 6) ML_39 YX8_window IX8_window SX8_window (by decide) rfl (by decide) (by omega) (Nat.le_of_ble_eq_true rfl) rfl t6 dL_window_5 (VK_c 8 1 rfl).1 (VK_c 8 1 rfl).lt (VK_c 8 1 rfl).ka rfl (by decide) [(0, 10, 13, 22)] (0, 10, 17, 42) [] rfl (List.forall_mem_cons.mpr ⟨⟨by decide, 3, gdI (i := 681) (by decide +kernel) rfl, by decide, by decide, by decide⟩, (fun z hz => nomatch hz)⟩) (by decide) (by decide) (by decide) (by decide) (gdI (i := 822) (by decide +kernel) rfl) (nwI (i := 830) (by decide +kernel) rfl) (fun _ qx => ?_)
        refine j_astore (lv' := [(4, .ref qx), (0, .ref (gB g + 1)), (1, vI x1), (2, vI x2), (3, .ref (gB g + 374))]) dL_window_17 (by decide) (by first | rfl | (simp only [List.all_cons, List.all_nil, rv_cat]; rfl)) rfl ?_
        refine j_iconst dL_window_19 ?_
        cases h
        exact j_iret dL_window_20 rfl rfl rfl (inR_lit _ rfl)
      · rw [if_neg c7] at h
        cases h
  rw [if_pos c5] at h
  rw [c5] at t6
  change CT _ _ _ _ _ _ _ _ _ (0, some (vI p2.2.1), p2.2.2) _ at t6
  refine j_callV ML_39 YX8_window IX8_window SX8_window (by decide) rfl (by decide) (by omega) (Nat.le_of_ble_eq_true rfl) rfl t6 dL_window_5 (VK_c 8 1 rfl).1 (VK_c 8 1 rfl).lt (VK_c 8 1 rfl).ka rfl (fun z3 xt4 => ?_)
  refine j_i2l z3 dL_window_8 ?_
  obtain ⟨A9, eA9, h⟩ := bnd_elim h
  have xA9 : XT p2.2.2 A9 := by rw [eA9]; exact XT_sI _ _ _ _
  refine j_last z3 dL_window_9 ?_
  refine j_hB eA9 ?_
  refine j_goto (tgt := 21) dL_window_10 (by decide) ?_
  refine j_iconst dL_window_21 ?_
  cases h
  exact j_iret dL_window_22 rfl rfl rfl (inR_lit _ rfl)
theorem ctL_window {g : JG} {l : Launch} {d N : Nat} {A : AH} {out : Int × AH} {x1 : Int} {x2 : Int} (hl : l.stackTraces = false) (hd : 9 ≤ d) (hx1 : inR x1) (hx2 : inR x2) (h : fL_window N A x1 x2 = some out) : CTW g l yL_window cL_window 5 (some .int) d [.ref (gB g + 1), vI x1, vI x2, .ref (gB g + 374)] A ((0, some (vI out.1), out.2) : JO) (inR out.1) :=
  CTW_of (by decide +kernel) hl (by first | exact Nat.le_of_ble_eq_true rfl | (unfold rv; split <;> exact Nat.le_of_ble_eq_true rfl)) (by first | rfl | (unfold rv; split <;> rfl)) (j_sub (lv := [(0, .ref (gB g + 1)), (1, vI x1), (2, vI x2), (3, .ref (gB g + 374))]) [0, 1, 2, 3] rfl (tL_window_0 hl hd hx1 hx2 h))
set_option maxRecDepth 100000 in
theorem tL_hinders_0 {g : JG} {l : Launch} {d N n0 s0 : Nat} {out : Int × AH} {A : AH} {x1 : Int} {x2 : Int} {x3 : Int} (hl : l.stackTraces = false) (hd : 9 ≤ d) (hx1 : inR x1) (hx2 : inR x2) (hx3 : inR x3) (h : fL_hinders N A x1 x2 x3 = some out) : J g l d RL "hinders" cL_hinders 6 (some .int) n0 s0 ((0, some (vI out.1), out.2) : JO) (inR out.1) 0 [(0, .ref (gB g + 1)), (1, vI x1), (2, vI x2), (3, vI x3), (4, .ref (gB g + 374))] [] A := by
  unfold fL_hinders at h
  refine j_aload (j := 4) dL_hinders_0 rfl ?_
  refine j_iconst dL_hinders_2 ?_
  refine j_aload_n (j := 0) dL_hinders_3 rfl rfl ?_
  refine j_iload_n (j := 1) dL_hinders_4 rfl rfl ?_
  refine j_iload_n (j := 2) dL_hinders_5 rfl rfl ?_
  refine j_iload_n (j := 3) dL_hinders_6 rfl rfl ?_
  obtain ⟨p2, e1, h⟩ := obind_elim h
  have t6 := ctX8_hinders (d := d - 1) hl (by omega) hx1 hx2 hx3 e1 (g := g)
  by_cases c5 : p2.1 = 0
  rotate_left
  · rw [if_neg c5] at h
    by_cases c7 : p2.1 = 3
    · rw [if_pos c7] at h
      rw [c7] at t6
      refine j_callVc (k := 3) ML_44 YX8_hinders IX8_hinders SX8_hinders (by decide) rfl (by decide) (by omega) (Nat.le_of_ble_eq_true rfl) rfl t6 dL_hinders_7 (VK_c 8 1 rfl).1 (VK_c 8 1 rfl).lt (VK_c 8 1 rfl).ka rfl (by decide) [] (0, 12, 15, 22) [] rfl (fun z hz => nomatch hz) (by decide) (by decide) (by decide) (by decide) (gdI (i := 681) (by decide +kernel) rfl) (nwI (i := 714) (by decide +kernel) rfl) (fun _ qx => ?_)
      refine j_astore (lv' := [(5, .ref qx), (0, .ref (gB g + 1)), (1, vI x1), (2, vI x2), (3, vI x3), (4, .ref (gB g + 374))]) dL_hinders_15 (by decide) (by first | rfl | (simp only [List.all_cons, List.all_nil, rv_cat]; rfl)) rfl ?_
      refine j_iconst dL_hinders_17 ?_
      cases h
      exact j_iret dL_hinders_18 rfl rfl rfl (inR_lit _ rfl)
    · rw [if_neg c7] at h
      cases h
  rw [if_pos c5] at h
  rw [c5] at t6
  change CT _ _ _ _ _ _ _ _ _ (0, some (vI p2.2.1), p2.2.2) _ at t6
  refine j_callV ML_44 YX8_hinders IX8_hinders SX8_hinders (by decide) rfl (by decide) (by omega) (Nat.le_of_ble_eq_true rfl) rfl t6 dL_hinders_7 (VK_c 8 1 rfl).1 (VK_c 8 1 rfl).lt (VK_c 8 1 rfl).ka rfl (fun z3 xt4 => ?_)
  refine j_i2l z3 dL_hinders_10 ?_
  obtain ⟨A8, eA8, h⟩ := bnd_elim h
  have xA8 : XT p2.2.2 A8 := by rw [eA8]; exact XT_sI _ _ _ _
  refine j_last z3 dL_hinders_11 ?_
  refine j_hB eA8 ?_
  refine j_goto (tgt := 19) dL_hinders_12 (by decide) ?_
  refine j_iconst dL_hinders_19 ?_
  cases h
  exact j_iret dL_hinders_20 rfl rfl rfl (inR_lit _ rfl)
theorem ctL_hinders {g : JG} {l : Launch} {d N : Nat} {A : AH} {out : Int × AH} {x1 : Int} {x2 : Int} {x3 : Int} (hl : l.stackTraces = false) (hd : 9 ≤ d) (hx1 : inR x1) (hx2 : inR x2) (hx3 : inR x3) (h : fL_hinders N A x1 x2 x3 = some out) : CTW g l yL_hinders cL_hinders 6 (some .int) d [.ref (gB g + 1), vI x1, vI x2, vI x3, .ref (gB g + 374)] A ((0, some (vI out.1), out.2) : JO) (inR out.1) :=
  CTW_of (by decide +kernel) hl (by first | exact Nat.le_of_ble_eq_true rfl | (unfold rv; split <;> exact Nat.le_of_ble_eq_true rfl)) (by first | rfl | (unfold rv; split <;> rfl)) (j_sub (lv := [(0, .ref (gB g + 1)), (1, vI x1), (2, vI x2), (3, vI x3), (4, .ref (gB g + 374))]) [0, 1, 2, 3, 4] rfl (tL_hinders_0 hl hd hx1 hx2 hx3 h))
set_option maxRecDepth 100000 in
theorem tL_plan_0 {g : JG} {l : Launch} {d N n0 s0 : Nat} {out : Int × AH} {A : AH} {x1 : Int} {x2 : Int} {x3 : Int} (hl : l.stackTraces = false) (hd : 9 ≤ d) (hx1 : inR x1) (hx2 : inR x2) (hx3 : inR x3) (h : fL_plan N A x1 x2 x3 = some out) : J g l d RL "plan" cL_plan 6 (some .int) n0 s0 ((0, some (vI out.1), out.2) : JO) (inR out.1) 0 [(0, .ref (gB g + 1)), (1, vI x1), (2, vI x2), (3, vI x3), (4, .ref (gB g + 374))] [] A := by
  unfold fL_plan at h
  refine j_aload (j := 4) dL_plan_0 rfl ?_
  refine j_iconst dL_plan_2 ?_
  refine j_aload_n (j := 0) dL_plan_3 rfl rfl ?_
  refine j_iload_n (j := 1) dL_plan_4 rfl rfl ?_
  refine j_iload_n (j := 2) dL_plan_5 rfl rfl ?_
  refine j_iload_n (j := 3) dL_plan_6 rfl rfl ?_
  obtain ⟨p2, e1, h⟩ := obind_elim h
  have t6 := ctX8_plan (d := d - 1) hl (by omega) hx1 hx2 hx3 e1 (g := g)
  by_cases c5 : p2.1 = 0
  rotate_left
  · rw [if_neg c5] at h
    by_cases c8 : p2.1 = 3
    · rw [if_pos c8] at h
      rw [c8] at t6
      refine j_callVc (k := 3) ML_48 YX8_plan IX8_plan SX8_plan (by decide) rfl (by decide) (by omega) (Nat.le_of_ble_eq_true rfl) rfl t6 dL_plan_7 (VK_c 8 1 rfl).1 (VK_c 8 1 rfl).lt (VK_c 8 1 rfl).ka rfl (by decide) [] (0, 12, 15, 22) [(0, 12, 19, 51)] rfl (fun z hz => nomatch hz) (by decide) (by decide) (by decide) (by decide) (gdI (i := 681) (by decide +kernel) rfl) (nwI (i := 714) (by decide +kernel) rfl) (fun _ qx => ?_)
      refine j_astore (lv' := [(5, .ref qx), (0, .ref (gB g + 1)), (1, vI x1), (2, vI x2), (3, vI x3), (4, .ref (gB g + 374))]) dL_plan_15 (by decide) (by first | rfl | (simp only [List.all_cons, List.all_nil, rv_cat]; rfl)) rfl ?_
      refine j_iconst dL_plan_17 ?_
      cases h
      exact j_iret dL_plan_18 rfl rfl rfl (inR_lit _ rfl)
    · rw [if_neg c8] at h
      by_cases c7 : p2.1 = 5
      · rw [if_pos c7] at h
        rw [c7] at t6
        refine j_callVc (k := 5) ML_48 YX8_plan IX8_plan SX8_plan (by decide) rfl (by decide) (by omega) (Nat.le_of_ble_eq_true rfl) rfl t6 dL_plan_7 (VK_c 8 1 rfl).1 (VK_c 8 1 rfl).lt (VK_c 8 1 rfl).ka rfl (by decide) [(0, 12, 15, 22)] (0, 12, 19, 51) [] rfl (List.forall_mem_cons.mpr ⟨⟨by decide, 3, gdI (i := 681) (by decide +kernel) rfl, by decide, by decide, by decide⟩, (fun z hz => nomatch hz)⟩) (by decide) (by decide) (by decide) (by decide) (gdI (i := 864) (by decide +kernel) rfl) (nwI (i := 879) (by decide +kernel) rfl) (fun _ qx => ?_)
        refine j_astore (lv' := [(5, .ref qx), (0, .ref (gB g + 1)), (1, vI x1), (2, vI x2), (3, vI x3), (4, .ref (gB g + 374))]) dL_plan_19 (by decide) (by first | rfl | (simp only [List.all_cons, List.all_nil, rv_cat]; rfl)) rfl ?_
        refine j_iconst dL_plan_21 ?_
        cases h
        exact j_iret dL_plan_22 rfl rfl rfl (inR_lit _ rfl)
      · rw [if_neg c7] at h
        cases h
  rw [if_pos c5] at h
  rw [c5] at t6
  change CT _ _ _ _ _ _ _ _ _ (0, some (vI p2.2.1), p2.2.2) _ at t6
  refine j_callV ML_48 YX8_plan IX8_plan SX8_plan (by decide) rfl (by decide) (by omega) (Nat.le_of_ble_eq_true rfl) rfl t6 dL_plan_7 (VK_c 8 1 rfl).1 (VK_c 8 1 rfl).lt (VK_c 8 1 rfl).ka rfl (fun z3 xt4 => ?_)
  refine j_i2l z3 dL_plan_10 ?_
  obtain ⟨A9, eA9, h⟩ := bnd_elim h
  have xA9 : XT p2.2.2 A9 := by rw [eA9]; exact XT_sI _ _ _ _
  refine j_last z3 dL_plan_11 ?_
  refine j_hB eA9 ?_
  refine j_goto (tgt := 23) dL_plan_12 (by decide) ?_
  refine j_iconst dL_plan_23 ?_
  cases h
  exact j_iret dL_plan_24 rfl rfl rfl (inR_lit _ rfl)
theorem ctL_plan {g : JG} {l : Launch} {d N : Nat} {A : AH} {out : Int × AH} {x1 : Int} {x2 : Int} {x3 : Int} (hl : l.stackTraces = false) (hd : 9 ≤ d) (hx1 : inR x1) (hx2 : inR x2) (hx3 : inR x3) (h : fL_plan N A x1 x2 x3 = some out) : CTW g l yL_plan cL_plan 6 (some .int) d [.ref (gB g + 1), vI x1, vI x2, vI x3, .ref (gB g + 374)] A ((0, some (vI out.1), out.2) : JO) (inR out.1) :=
  CTW_of (by decide +kernel) hl (by first | exact Nat.le_of_ble_eq_true rfl | (unfold rv; split <;> exact Nat.le_of_ble_eq_true rfl)) (by first | rfl | (unfold rv; split <;> rfl)) (j_sub (lv := [(0, .ref (gB g + 1)), (1, vI x1), (2, vI x2), (3, vI x3), (4, .ref (gB g + 374))]) [0, 1, 2, 3, 4] rfl (tL_plan_0 hl hd hx1 hx2 hx3 h))
set_option maxRecDepth 100000 in
theorem tL_run_0 {g : JG} {l : Launch} {d N n0 s0 : Nat} {out : Int × AH} {A : AH} {x1 : Int} {x2 : Int} {x3 : Int} (hl : l.stackTraces = false) (hd : 9 ≤ d) (hx1 : inR x1) (hx2 : inR x2) (hx3 : inR x3) (h : fL_run N A x1 x2 x3 = some out) : J g l d RL "run" cL_run 6 (some .int) n0 s0 ((0, some (vI out.1), out.2) : JO) (inR out.1) 0 [(0, .ref (gB g + 1)), (1, vI x1), (2, vI x2), (3, vI x3), (4, .ref (gB g + 374))] [] A := by
  unfold fL_run at h
  refine j_aload (j := 4) dL_run_0 rfl ?_
  refine j_iconst dL_run_2 ?_
  refine j_aload_n (j := 0) dL_run_3 rfl rfl ?_
  refine j_iload_n (j := 1) dL_run_4 rfl rfl ?_
  refine j_iload_n (j := 2) dL_run_5 rfl rfl ?_
  refine j_iload_n (j := 3) dL_run_6 rfl rfl ?_
  obtain ⟨p2, e1, h⟩ := obind_elim h
  have t6 := ctX8_run (d := d - 1) hl (by omega) hx1 hx2 hx3 e1 (g := g)
  by_cases c5 : p2.1 = 0
  rotate_left
  · rw [if_neg c5] at h
    by_cases c9 : p2.1 = 3
    · rw [if_pos c9] at h
      rw [c9] at t6
      refine j_callVc (k := 3) ML_53 YX8_run IX8_run SX8_run (by decide) rfl (by decide) (by omega) (Nat.le_of_ble_eq_true rfl) rfl t6 dL_run_7 (VK_c 8 1 rfl).1 (VK_c 8 1 rfl).lt (VK_c 8 1 rfl).ka rfl (by decide) [] (0, 12, 15, 22) [(0, 12, 19, 13), (0, 12, 23, 51)] rfl (fun z hz => nomatch hz) (by decide) (by decide) (by decide) (by decide) (gdI (i := 681) (by decide +kernel) rfl) (nwI (i := 714) (by decide +kernel) rfl) (fun _ qx => ?_)
      refine j_astore (lv' := [(5, .ref qx), (0, .ref (gB g + 1)), (1, vI x1), (2, vI x2), (3, vI x3), (4, .ref (gB g + 374))]) dL_run_15 (by decide) (by first | rfl | (simp only [List.all_cons, List.all_nil, rv_cat]; rfl)) rfl ?_
      refine j_iconst dL_run_17 ?_
      cases h
      exact j_iret dL_run_18 rfl rfl rfl (inR_lit _ rfl)
    · rw [if_neg c9] at h
      by_cases c8 : p2.1 = 1
      · rw [if_pos c8] at h
        rw [c8] at t6
        refine j_callVc (k := 1) ML_53 YX8_run IX8_run SX8_run (by decide) rfl (by decide) (by omega) (Nat.le_of_ble_eq_true rfl) rfl t6 dL_run_7 (VK_c 8 1 rfl).1 (VK_c 8 1 rfl).lt (VK_c 8 1 rfl).ka rfl (by decide) [(0, 12, 15, 22)] (0, 12, 19, 13) [(0, 12, 23, 51)] rfl (List.forall_mem_cons.mpr ⟨⟨by decide, 3, gdI (i := 681) (by decide +kernel) rfl, by decide, by decide, by decide⟩, (fun z hz => nomatch hz)⟩) (by decide) (by decide) (by decide) (by decide) (gdI (i := 587) (by decide +kernel) rfl) (nwI (i := 594) (by decide +kernel) rfl) (fun _ qx => ?_)
        refine j_astore (lv' := [(5, .ref qx), (0, .ref (gB g + 1)), (1, vI x1), (2, vI x2), (3, vI x3), (4, .ref (gB g + 374))]) dL_run_19 (by decide) (by first | rfl | (simp only [List.all_cons, List.all_nil, rv_cat]; rfl)) rfl ?_
        refine j_iconst dL_run_21 ?_
        cases h
        exact j_iret dL_run_22 rfl rfl rfl (inR_lit _ rfl)
      · rw [if_neg c8] at h
        by_cases c7 : p2.1 = 5
        · rw [if_pos c7] at h
          rw [c7] at t6
          refine j_callVc (k := 5) ML_53 YX8_run IX8_run SX8_run (by decide) rfl (by decide) (by omega) (Nat.le_of_ble_eq_true rfl) rfl t6 dL_run_7 (VK_c 8 1 rfl).1 (VK_c 8 1 rfl).lt (VK_c 8 1 rfl).ka rfl (by decide) [(0, 12, 15, 22), (0, 12, 19, 13)] (0, 12, 23, 51) [] rfl (List.forall_mem_cons.mpr ⟨⟨by decide, 3, gdI (i := 681) (by decide +kernel) rfl, by decide, by decide, by decide⟩, (List.forall_mem_cons.mpr ⟨⟨by decide, 1, gdI (i := 587) (by decide +kernel) rfl, by decide, by decide, by decide⟩, (fun z hz => nomatch hz)⟩)⟩) (by decide) (by decide) (by decide) (by decide) (gdI (i := 864) (by decide +kernel) rfl) (nwI (i := 879) (by decide +kernel) rfl) (fun _ qx => ?_)
          refine j_astore (lv' := [(5, .ref qx), (0, .ref (gB g + 1)), (1, vI x1), (2, vI x2), (3, vI x3), (4, .ref (gB g + 374))]) dL_run_23 (by decide) (by first | rfl | (simp only [List.all_cons, List.all_nil, rv_cat]; rfl)) rfl ?_
          refine j_iconst dL_run_25 ?_
          cases h
          exact j_iret dL_run_26 rfl rfl rfl (inR_lit _ rfl)
        · rw [if_neg c7] at h
          cases h
  rw [if_pos c5] at h
  rw [c5] at t6
  change CT _ _ _ _ _ _ _ _ _ (0, some (vI p2.2.1), p2.2.2) _ at t6
  refine j_callV ML_53 YX8_run IX8_run SX8_run (by decide) rfl (by decide) (by omega) (Nat.le_of_ble_eq_true rfl) rfl t6 dL_run_7 (VK_c 8 1 rfl).1 (VK_c 8 1 rfl).lt (VK_c 8 1 rfl).ka rfl (fun z3 xt4 => ?_)
  refine j_i2l z3 dL_run_10 ?_
  obtain ⟨A10, eA10, h⟩ := bnd_elim h
  have xA10 : XT p2.2.2 A10 := by rw [eA10]; exact XT_sI _ _ _ _
  refine j_last z3 dL_run_11 ?_
  refine j_hB eA10 ?_
  refine j_goto (tgt := 27) dL_run_12 (by decide) ?_
  refine j_iconst dL_run_27 ?_
  cases h
  exact j_iret dL_run_28 rfl rfl rfl (inR_lit _ rfl)
theorem ctL_run {g : JG} {l : Launch} {d N : Nat} {A : AH} {out : Int × AH} {x1 : Int} {x2 : Int} {x3 : Int} (hl : l.stackTraces = false) (hd : 9 ≤ d) (hx1 : inR x1) (hx2 : inR x2) (hx3 : inR x3) (h : fL_run N A x1 x2 x3 = some out) : CTW g l yL_run cL_run 6 (some .int) d [.ref (gB g + 1), vI x1, vI x2, vI x3, .ref (gB g + 374)] A ((0, some (vI out.1), out.2) : JO) (inR out.1) :=
  CTW_of (by decide +kernel) hl (by first | exact Nat.le_of_ble_eq_true rfl | (unfold rv; split <;> exact Nat.le_of_ble_eq_true rfl)) (by first | rfl | (unfold rv; split <;> rfl)) (j_sub (lv := [(0, .ref (gB g + 1)), (1, vI x1), (2, vI x2), (3, vI x3), (4, .ref (gB g + 374))]) [0, 1, 2, 3, 4] rfl (tL_run_0 hl hd hx1 hx2 hx3 h))
set_option maxRecDepth 100000 in
theorem tL_serving_0 {g : JG} {l : Launch} {d N n0 s0 : Nat} {out : Int × AH} {A : AH} {x1 : Int} {x2 : Int} (hl : l.stackTraces = false) (hd : 9 ≤ d) (hx1 : inR x1) (hx2 : inR x2) (h : fL_serving N A x1 x2 = some out) : J g l d RL "serving" cL_serving 5 (some .int) n0 s0 ((0, some (vI out.1), out.2) : JO) (inR out.1) 0 [(0, .ref (gB g + 1)), (1, vI x1), (2, vI x2), (3, .ref (gB g + 374))] [] A := by
  unfold fL_serving at h
  refine j_aload_n (j := 3) dL_serving_0 rfl rfl ?_
  refine j_iconst dL_serving_1 ?_
  refine j_aload_n (j := 0) dL_serving_2 rfl rfl ?_
  refine j_iload_n (j := 1) dL_serving_3 rfl rfl ?_
  refine j_iload_n (j := 2) dL_serving_4 rfl rfl ?_
  obtain ⟨p2, e1, h⟩ := obind_elim h
  have t6 := ctX8_serving (d := d - 1) hl (by omega) hx1 hx2 e1 (g := g)
  by_cases c5 : p2.1 = 0
  rotate_left
  · rw [if_neg c5] at h
    by_cases c9 : p2.1 = 3
    · rw [if_pos c9] at h
      rw [c9] at t6
      refine j_callVc (k := 3) ML_56 YX8_serving IX8_serving SX8_serving (by decide) rfl (by decide) (by omega) (Nat.le_of_ble_eq_true rfl) rfl t6 dL_serving_5 (VK_c 8 1 rfl).1 (VK_c 8 1 rfl).lt (VK_c 8 1 rfl).ka rfl (by decide) [] (0, 10, 13, 22) [(0, 10, 17, 13), (0, 10, 21, 42)] rfl (fun z hz => nomatch hz) (by decide) (by decide) (by decide) (by decide) (gdI (i := 681) (by decide +kernel) rfl) (nwI (i := 714) (by decide +kernel) rfl) (fun _ qx => ?_)
      refine j_astore (lv' := [(4, .ref qx), (0, .ref (gB g + 1)), (1, vI x1), (2, vI x2), (3, .ref (gB g + 374))]) dL_serving_13 (by decide) (by first | rfl | (simp only [List.all_cons, List.all_nil, rv_cat]; rfl)) rfl ?_
      refine j_iconst dL_serving_15 ?_
      cases h
      exact j_iret dL_serving_16 rfl rfl rfl (inR_lit _ rfl)
    · rw [if_neg c9] at h
      by_cases c8 : p2.1 = 1
      · rw [if_pos c8] at h
        rw [c8] at t6
        refine j_callVc (k := 1) ML_56 YX8_serving IX8_serving SX8_serving (by decide) rfl (by decide) (by omega) (Nat.le_of_ble_eq_true rfl) rfl t6 dL_serving_5 (VK_c 8 1 rfl).1 (VK_c 8 1 rfl).lt (VK_c 8 1 rfl).ka rfl (by decide) [(0, 10, 13, 22)] (0, 10, 17, 13) [(0, 10, 21, 42)] rfl (List.forall_mem_cons.mpr ⟨⟨by decide, 3, gdI (i := 681) (by decide +kernel) rfl, by decide, by decide, by decide⟩, (fun z hz => nomatch hz)⟩) (by decide) (by decide) (by decide) (by decide) (gdI (i := 587) (by decide +kernel) rfl) (nwI (i := 594) (by decide +kernel) rfl) (fun _ qx => ?_)
        refine j_astore (lv' := [(4, .ref qx), (0, .ref (gB g + 1)), (1, vI x1), (2, vI x2), (3, .ref (gB g + 374))]) dL_serving_17 (by decide) (by first | rfl | (simp only [List.all_cons, List.all_nil, rv_cat]; rfl)) rfl ?_
        refine j_iconst dL_serving_19 ?_
        cases h
        exact j_iret dL_serving_20 rfl rfl rfl (inR_lit _ rfl)
      · rw [if_neg c8] at h
        by_cases c7 : p2.1 = 6
        · rw [if_pos c7] at h
          rw [c7] at t6
          refine j_callVc (k := 6) ML_56 YX8_serving IX8_serving SX8_serving (by decide) rfl (by decide) (by omega) (Nat.le_of_ble_eq_true rfl) rfl t6 dL_serving_5 (VK_c 8 1 rfl).1 (VK_c 8 1 rfl).lt (VK_c 8 1 rfl).ka rfl (by decide) [(0, 10, 13, 22), (0, 10, 17, 13)] (0, 10, 21, 42) [] rfl (List.forall_mem_cons.mpr ⟨⟨by decide, 3, gdI (i := 681) (by decide +kernel) rfl, by decide, by decide, by decide⟩, (List.forall_mem_cons.mpr ⟨⟨by decide, 1, gdI (i := 587) (by decide +kernel) rfl, by decide, by decide, by decide⟩, (fun z hz => nomatch hz)⟩)⟩) (by decide) (by decide) (by decide) (by decide) (gdI (i := 822) (by decide +kernel) rfl) (nwI (i := 830) (by decide +kernel) rfl) (fun _ qx => ?_)
          refine j_astore (lv' := [(4, .ref qx), (0, .ref (gB g + 1)), (1, vI x1), (2, vI x2), (3, .ref (gB g + 374))]) dL_serving_21 (by decide) (by first | rfl | (simp only [List.all_cons, List.all_nil, rv_cat]; rfl)) rfl ?_
          refine j_iconst dL_serving_23 ?_
          cases h
          exact j_iret dL_serving_24 rfl rfl rfl (inR_lit _ rfl)
        · rw [if_neg c7] at h
          cases h
  rw [if_pos c5] at h
  rw [c5] at t6
  change CT _ _ _ _ _ _ _ _ _ (0, some (vI p2.2.1), p2.2.2) _ at t6
  refine j_callV ML_56 YX8_serving IX8_serving SX8_serving (by decide) rfl (by decide) (by omega) (Nat.le_of_ble_eq_true rfl) rfl t6 dL_serving_5 (VK_c 8 1 rfl).1 (VK_c 8 1 rfl).lt (VK_c 8 1 rfl).ka rfl (fun z3 xt4 => ?_)
  refine j_i2l z3 dL_serving_8 ?_
  obtain ⟨A10, eA10, h⟩ := bnd_elim h
  have xA10 : XT p2.2.2 A10 := by rw [eA10]; exact XT_sI _ _ _ _
  refine j_last z3 dL_serving_9 ?_
  refine j_hB eA10 ?_
  refine j_goto (tgt := 25) dL_serving_10 (by decide) ?_
  refine j_iconst dL_serving_25 ?_
  cases h
  exact j_iret dL_serving_26 rfl rfl rfl (inR_lit _ rfl)
theorem ctL_serving {g : JG} {l : Launch} {d N : Nat} {A : AH} {out : Int × AH} {x1 : Int} {x2 : Int} (hl : l.stackTraces = false) (hd : 9 ≤ d) (hx1 : inR x1) (hx2 : inR x2) (h : fL_serving N A x1 x2 = some out) : CTW g l yL_serving cL_serving 5 (some .int) d [.ref (gB g + 1), vI x1, vI x2, .ref (gB g + 374)] A ((0, some (vI out.1), out.2) : JO) (inR out.1) :=
  CTW_of (by decide +kernel) hl (by first | exact Nat.le_of_ble_eq_true rfl | (unfold rv; split <;> exact Nat.le_of_ble_eq_true rfl)) (by first | rfl | (unfold rv; split <;> rfl)) (j_sub (lv := [(0, .ref (gB g + 1)), (1, vI x1), (2, vI x2), (3, .ref (gB g + 374))]) [0, 1, 2, 3] rfl (tL_serving_0 hl hd hx1 hx2 h))
set_option maxRecDepth 100000 in
theorem tL_serve_0 {g : JG} {l : Launch} {d N n0 s0 : Nat} {out : Int × AH} {A : AH} {x1 : Int} (hl : l.stackTraces = false) (hd : 9 ≤ d) (hx1 : inR x1) (h : fL_serve N A x1 = some out) : J g l d RL "serve" cL_serve 4 (some .int) n0 s0 ((0, some (vI out.1), out.2) : JO) (inR out.1) 0 [(0, .ref (gB g + 1)), (1, vI x1), (2, .ref (gB g + 374))] [] A := by
  unfold fL_serve at h
  refine j_aload_n (j := 2) dL_serve_0 rfl rfl ?_
  refine j_iconst dL_serve_1 ?_
  refine j_aload_n (j := 0) dL_serve_2 rfl rfl ?_
  refine j_iload_n (j := 1) dL_serve_3 rfl rfl ?_
  obtain ⟨p2, e1, h⟩ := obind_elim h
  have t6 := ctX8_serve (d := d - 1) hl (by omega) hx1 e1 (g := g)
  by_cases c5 : p2.1 = 0
  rotate_left
  · rw [if_neg c5] at h
    by_cases c8 : p2.1 = 3
    · rw [if_pos c8] at h
      rw [c8] at t6
      refine j_callVc (k := 3) ML_59 YX8_serve IX8_serve SX8_serve (by decide) rfl (by decide) (by omega) (Nat.le_of_ble_eq_true rfl) rfl t6 dL_serve_4 (VK_c 8 1 rfl).1 (VK_c 8 1 rfl).lt (VK_c 8 1 rfl).ka rfl (by decide) [] (0, 9, 12, 22) [(0, 9, 15, 51)] rfl (fun z hz => nomatch hz) (by decide) (by decide) (by decide) (by decide) (gdI (i := 681) (by decide +kernel) rfl) (nwI (i := 714) (by decide +kernel) rfl) (fun _ qx => ?_)
      refine j_astore_n (lv' := [(3, .ref qx), (0, .ref (gB g + 1)), (1, vI x1), (2, .ref (gB g + 374))]) dL_serve_12 rfl (by decide) (by first | rfl | (simp only [List.all_cons, List.all_nil, rv_cat]; rfl)) rfl ?_
      refine j_iconst dL_serve_13 ?_
      cases h
      exact j_iret dL_serve_14 rfl rfl rfl (inR_lit _ rfl)
    · rw [if_neg c8] at h
      by_cases c7 : p2.1 = 5
      · rw [if_pos c7] at h
        rw [c7] at t6
        refine j_callVc (k := 5) ML_59 YX8_serve IX8_serve SX8_serve (by decide) rfl (by decide) (by omega) (Nat.le_of_ble_eq_true rfl) rfl t6 dL_serve_4 (VK_c 8 1 rfl).1 (VK_c 8 1 rfl).lt (VK_c 8 1 rfl).ka rfl (by decide) [(0, 9, 12, 22)] (0, 9, 15, 51) [] rfl (List.forall_mem_cons.mpr ⟨⟨by decide, 3, gdI (i := 681) (by decide +kernel) rfl, by decide, by decide, by decide⟩, (fun z hz => nomatch hz)⟩) (by decide) (by decide) (by decide) (by decide) (gdI (i := 864) (by decide +kernel) rfl) (nwI (i := 879) (by decide +kernel) rfl) (fun _ qx => ?_)
        refine j_astore_n (lv' := [(3, .ref qx), (0, .ref (gB g + 1)), (1, vI x1), (2, .ref (gB g + 374))]) dL_serve_15 rfl (by decide) (by first | rfl | (simp only [List.all_cons, List.all_nil, rv_cat]; rfl)) rfl ?_
        refine j_iconst dL_serve_16 ?_
        cases h
        exact j_iret dL_serve_17 rfl rfl rfl (inR_lit _ rfl)
      · rw [if_neg c7] at h
        cases h
  rw [if_pos c5] at h
  rw [c5] at t6
  change CT _ _ _ _ _ _ _ _ _ (0, some (vI p2.2.1), p2.2.2) _ at t6
  refine j_callV ML_59 YX8_serve IX8_serve SX8_serve (by decide) rfl (by decide) (by omega) (Nat.le_of_ble_eq_true rfl) rfl t6 dL_serve_4 (VK_c 8 1 rfl).1 (VK_c 8 1 rfl).lt (VK_c 8 1 rfl).ka rfl (fun z3 xt4 => ?_)
  refine j_i2l z3 dL_serve_7 ?_
  obtain ⟨A9, eA9, h⟩ := bnd_elim h
  have xA9 : XT p2.2.2 A9 := by rw [eA9]; exact XT_sI _ _ _ _
  refine j_last z3 dL_serve_8 ?_
  refine j_hB eA9 ?_
  refine j_goto (tgt := 18) dL_serve_9 (by decide) ?_
  refine j_iconst dL_serve_18 ?_
  cases h
  exact j_iret dL_serve_19 rfl rfl rfl (inR_lit _ rfl)
theorem ctL_serve {g : JG} {l : Launch} {d N : Nat} {A : AH} {out : Int × AH} {x1 : Int} (hl : l.stackTraces = false) (hd : 9 ≤ d) (hx1 : inR x1) (h : fL_serve N A x1 = some out) : CTW g l yL_serve cL_serve 4 (some .int) d [.ref (gB g + 1), vI x1, .ref (gB g + 374)] A ((0, some (vI out.1), out.2) : JO) (inR out.1) :=
  CTW_of (by decide +kernel) hl (by first | exact Nat.le_of_ble_eq_true rfl | (unfold rv; split <;> exact Nat.le_of_ble_eq_true rfl)) (by first | rfl | (unfold rv; split <;> rfl)) (j_sub (lv := [(0, .ref (gB g + 1)), (1, vI x1), (2, .ref (gB g + 374))]) [0, 1, 2] rfl (tL_serve_0 hl hd hx1 h))
set_option maxRecDepth 100000 in
theorem tL_release_0 {g : JG} {l : Launch} {d N n0 s0 : Nat} {out : Int × AH} {A : AH} {x1 : Int} (hl : l.stackTraces = false) (hd : 9 ≤ d) (hx1 : inR x1) (h : fL_release N A x1 = some out) : J g l d RL "release" cL_release 4 (some .int) n0 s0 ((0, some (vI out.1), out.2) : JO) (inR out.1) 0 [(0, .ref (gB g + 1)), (1, vI x1), (2, .ref (gB g + 374))] [] A := by
  unfold fL_release at h
  refine j_aload_n (j := 2) dL_release_0 rfl rfl ?_
  refine j_iconst dL_release_1 ?_
  refine j_aload_n (j := 0) dL_release_2 rfl rfl ?_
  refine j_iload_n (j := 1) dL_release_3 rfl rfl ?_
  obtain ⟨p2, e1, h⟩ := obind_elim h
  have t6 := ctX8_release (d := d - 1) hl (by omega) hx1 e1 (g := g)
  by_cases c5 : p2.1 = 0
  rotate_left
  · rw [if_neg c5] at h
    by_cases c8 : p2.1 = 3
    · rw [if_pos c8] at h
      rw [c8] at t6
      refine j_callVc (k := 3) ML_62 YX8_release IX8_release SX8_release (by decide) rfl (by decide) (by omega) (Nat.le_of_ble_eq_true rfl) rfl t6 dL_release_4 (VK_c 8 1 rfl).1 (VK_c 8 1 rfl).lt (VK_c 8 1 rfl).ka rfl (by decide) [] (0, 9, 12, 22) [(0, 9, 15, 51)] rfl (fun z hz => nomatch hz) (by decide) (by decide) (by decide) (by decide) (gdI (i := 681) (by decide +kernel) rfl) (nwI (i := 714) (by decide +kernel) rfl) (fun _ qx => ?_)
      refine j_astore_n (lv' := [(3, .ref qx), (0, .ref (gB g + 1)), (1, vI x1), (2, .ref (gB g + 374))]) dL_release_12 rfl (by decide) (by first | rfl | (simp only [List.all_cons, List.all_nil, rv_cat]; rfl)) rfl ?_
      refine j_iconst dL_release_13 ?_
      cases h
      exact j_iret dL_release_14 rfl rfl rfl (inR_lit _ rfl)
    · rw [if_neg c8] at h
      by_cases c7 : p2.1 = 5
      · rw [if_pos c7] at h
        rw [c7] at t6
        refine j_callVc (k := 5) ML_62 YX8_release IX8_release SX8_release (by decide) rfl (by decide) (by omega) (Nat.le_of_ble_eq_true rfl) rfl t6 dL_release_4 (VK_c 8 1 rfl).1 (VK_c 8 1 rfl).lt (VK_c 8 1 rfl).ka rfl (by decide) [(0, 9, 12, 22)] (0, 9, 15, 51) [] rfl (List.forall_mem_cons.mpr ⟨⟨by decide, 3, gdI (i := 681) (by decide +kernel) rfl, by decide, by decide, by decide⟩, (fun z hz => nomatch hz)⟩) (by decide) (by decide) (by decide) (by decide) (gdI (i := 864) (by decide +kernel) rfl) (nwI (i := 879) (by decide +kernel) rfl) (fun _ qx => ?_)
        refine j_astore_n (lv' := [(3, .ref qx), (0, .ref (gB g + 1)), (1, vI x1), (2, .ref (gB g + 374))]) dL_release_15 rfl (by decide) (by first | rfl | (simp only [List.all_cons, List.all_nil, rv_cat]; rfl)) rfl ?_
        refine j_iconst dL_release_16 ?_
        cases h
        exact j_iret dL_release_17 rfl rfl rfl (inR_lit _ rfl)
      · rw [if_neg c7] at h
        cases h
  rw [if_pos c5] at h
  rw [c5] at t6
  change CT _ _ _ _ _ _ _ _ _ (0, some (vI p2.2.1), p2.2.2) _ at t6
  refine j_callV ML_62 YX8_release IX8_release SX8_release (by decide) rfl (by decide) (by omega) (Nat.le_of_ble_eq_true rfl) rfl t6 dL_release_4 (VK_c 8 1 rfl).1 (VK_c 8 1 rfl).lt (VK_c 8 1 rfl).ka rfl (fun z3 xt4 => ?_)
  refine j_i2l z3 dL_release_7 ?_
  obtain ⟨A9, eA9, h⟩ := bnd_elim h
  have xA9 : XT p2.2.2 A9 := by rw [eA9]; exact XT_sI _ _ _ _
  refine j_last z3 dL_release_8 ?_
  refine j_hB eA9 ?_
  refine j_goto (tgt := 18) dL_release_9 (by decide) ?_
  refine j_iconst dL_release_18 ?_
  cases h
  exact j_iret dL_release_19 rfl rfl rfl (inR_lit _ rfl)
theorem ctL_release {g : JG} {l : Launch} {d N : Nat} {A : AH} {out : Int × AH} {x1 : Int} (hl : l.stackTraces = false) (hd : 9 ≤ d) (hx1 : inR x1) (h : fL_release N A x1 = some out) : CTW g l yL_release cL_release 4 (some .int) d [.ref (gB g + 1), vI x1, .ref (gB g + 374)] A ((0, some (vI out.1), out.2) : JO) (inR out.1) :=
  CTW_of (by decide +kernel) hl (by first | exact Nat.le_of_ble_eq_true rfl | (unfold rv; split <;> exact Nat.le_of_ble_eq_true rfl)) (by first | rfl | (unfold rv; split <;> rfl)) (j_sub (lv := [(0, .ref (gB g + 1)), (1, vI x1), (2, .ref (gB g + 374))]) [0, 1, 2] rfl (tL_release_0 hl hd hx1 h))
set_option maxRecDepth 100000 in
theorem tL_putOff_0 {g : JG} {l : Launch} {d N n0 s0 : Nat} {out : Int × AH} {A : AH} {x1 : Int} {x2 : Int} (hl : l.stackTraces = false) (hd : 9 ≤ d) (hx1 : inR x1) (hx2 : inR x2) (h : fL_putOff N A x1 x2 = some out) : J g l d RL "putOff" cL_putOff 5 (some .int) n0 s0 ((0, some (vI out.1), out.2) : JO) (inR out.1) 0 [(0, .ref (gB g + 1)), (1, vI x1), (2, vI x2), (3, .ref (gB g + 374))] [] A := by
  unfold fL_putOff at h
  refine j_aload_n (j := 3) dL_putOff_0 rfl rfl ?_
  refine j_iconst dL_putOff_1 ?_
  refine j_aload_n (j := 0) dL_putOff_2 rfl rfl ?_
  refine j_iload_n (j := 1) dL_putOff_3 rfl rfl ?_
  refine j_iload_n (j := 2) dL_putOff_4 rfl rfl ?_
  obtain ⟨p2, e1, h⟩ := obind_elim h
  have t6 := ctX8_putOff (d := d - 1) hl (by omega) hx1 hx2 e1 (g := g)
  by_cases c5 : p2.1 = 0
  rotate_left
  · rw [if_neg c5] at h
    by_cases c9 : p2.1 = 3
    · rw [if_pos c9] at h
      rw [c9] at t6
      refine j_callVc (k := 3) ML_65 YX8_putOff IX8_putOff SX8_putOff (by decide) rfl (by decide) (by omega) (Nat.le_of_ble_eq_true rfl) rfl t6 dL_putOff_5 (VK_c 8 1 rfl).1 (VK_c 8 1 rfl).lt (VK_c 8 1 rfl).ka rfl (by decide) [] (0, 10, 13, 22) [(0, 10, 17, 13), (0, 10, 21, 51)] rfl (fun z hz => nomatch hz) (by decide) (by decide) (by decide) (by decide) (gdI (i := 681) (by decide +kernel) rfl) (nwI (i := 714) (by decide +kernel) rfl) (fun _ qx => ?_)
      refine j_astore (lv' := [(4, .ref qx), (0, .ref (gB g + 1)), (1, vI x1), (2, vI x2), (3, .ref (gB g + 374))]) dL_putOff_13 (by decide) (by first | rfl | (simp only [List.all_cons, List.all_nil, rv_cat]; rfl)) rfl ?_
      refine j_iconst dL_putOff_15 ?_
      cases h
      exact j_iret dL_putOff_16 rfl rfl rfl (inR_lit _ rfl)
    · rw [if_neg c9] at h
      by_cases c8 : p2.1 = 1
      · rw [if_pos c8] at h
        rw [c8] at t6
        refine j_callVc (k := 1) ML_65 YX8_putOff IX8_putOff SX8_putOff (by decide) rfl (by decide) (by omega) (Nat.le_of_ble_eq_true rfl) rfl t6 dL_putOff_5 (VK_c 8 1 rfl).1 (VK_c 8 1 rfl).lt (VK_c 8 1 rfl).ka rfl (by decide) [(0, 10, 13, 22)] (0, 10, 17, 13) [(0, 10, 21, 51)] rfl (List.forall_mem_cons.mpr ⟨⟨by decide, 3, gdI (i := 681) (by decide +kernel) rfl, by decide, by decide, by decide⟩, (fun z hz => nomatch hz)⟩) (by decide) (by decide) (by decide) (by decide) (gdI (i := 587) (by decide +kernel) rfl) (nwI (i := 594) (by decide +kernel) rfl) (fun _ qx => ?_)
        refine j_astore (lv' := [(4, .ref qx), (0, .ref (gB g + 1)), (1, vI x1), (2, vI x2), (3, .ref (gB g + 374))]) dL_putOff_17 (by decide) (by first | rfl | (simp only [List.all_cons, List.all_nil, rv_cat]; rfl)) rfl ?_
        refine j_iconst dL_putOff_19 ?_
        cases h
        exact j_iret dL_putOff_20 rfl rfl rfl (inR_lit _ rfl)
      · rw [if_neg c8] at h
        by_cases c7 : p2.1 = 5
        · rw [if_pos c7] at h
          rw [c7] at t6
          refine j_callVc (k := 5) ML_65 YX8_putOff IX8_putOff SX8_putOff (by decide) rfl (by decide) (by omega) (Nat.le_of_ble_eq_true rfl) rfl t6 dL_putOff_5 (VK_c 8 1 rfl).1 (VK_c 8 1 rfl).lt (VK_c 8 1 rfl).ka rfl (by decide) [(0, 10, 13, 22), (0, 10, 17, 13)] (0, 10, 21, 51) [] rfl (List.forall_mem_cons.mpr ⟨⟨by decide, 3, gdI (i := 681) (by decide +kernel) rfl, by decide, by decide, by decide⟩, (List.forall_mem_cons.mpr ⟨⟨by decide, 1, gdI (i := 587) (by decide +kernel) rfl, by decide, by decide, by decide⟩, (fun z hz => nomatch hz)⟩)⟩) (by decide) (by decide) (by decide) (by decide) (gdI (i := 864) (by decide +kernel) rfl) (nwI (i := 879) (by decide +kernel) rfl) (fun _ qx => ?_)
          refine j_astore (lv' := [(4, .ref qx), (0, .ref (gB g + 1)), (1, vI x1), (2, vI x2), (3, .ref (gB g + 374))]) dL_putOff_21 (by decide) (by first | rfl | (simp only [List.all_cons, List.all_nil, rv_cat]; rfl)) rfl ?_
          refine j_iconst dL_putOff_23 ?_
          cases h
          exact j_iret dL_putOff_24 rfl rfl rfl (inR_lit _ rfl)
        · rw [if_neg c7] at h
          cases h
  rw [if_pos c5] at h
  rw [c5] at t6
  change CT _ _ _ _ _ _ _ _ _ (0, some (vI p2.2.1), p2.2.2) _ at t6
  refine j_callV ML_65 YX8_putOff IX8_putOff SX8_putOff (by decide) rfl (by decide) (by omega) (Nat.le_of_ble_eq_true rfl) rfl t6 dL_putOff_5 (VK_c 8 1 rfl).1 (VK_c 8 1 rfl).lt (VK_c 8 1 rfl).ka rfl (fun z3 xt4 => ?_)
  refine j_i2l z3 dL_putOff_8 ?_
  obtain ⟨A10, eA10, h⟩ := bnd_elim h
  have xA10 : XT p2.2.2 A10 := by rw [eA10]; exact XT_sI _ _ _ _
  refine j_last z3 dL_putOff_9 ?_
  refine j_hB eA10 ?_
  refine j_goto (tgt := 25) dL_putOff_10 (by decide) ?_
  refine j_iconst dL_putOff_25 ?_
  cases h
  exact j_iret dL_putOff_26 rfl rfl rfl (inR_lit _ rfl)
theorem ctL_putOff {g : JG} {l : Launch} {d N : Nat} {A : AH} {out : Int × AH} {x1 : Int} {x2 : Int} (hl : l.stackTraces = false) (hd : 9 ≤ d) (hx1 : inR x1) (hx2 : inR x2) (h : fL_putOff N A x1 x2 = some out) : CTW g l yL_putOff cL_putOff 5 (some .int) d [.ref (gB g + 1), vI x1, vI x2, .ref (gB g + 374)] A ((0, some (vI out.1), out.2) : JO) (inR out.1) :=
  CTW_of (by decide +kernel) hl (by first | exact Nat.le_of_ble_eq_true rfl | (unfold rv; split <;> exact Nat.le_of_ble_eq_true rfl)) (by first | rfl | (unfold rv; split <;> rfl)) (j_sub (lv := [(0, .ref (gB g + 1)), (1, vI x1), (2, vI x2), (3, .ref (gB g + 374))]) [0, 1, 2, 3] rfl (tL_putOff_0 hl hd hx1 hx2 h))
set_option maxRecDepth 100000 in
theorem tL_urgent_0 {g : JG} {l : Launch} {d N n0 s0 : Nat} {out : Int × AH} {A : AH} {x1 : Int} (hl : l.stackTraces = false) (hd : 8 ≤ d) (hx1 : inR x1) (h : fL_urgent N A x1 = some out) : J g l d RL "urgent" cL_urgent 4 (some .int) n0 s0 ((0, some (vI out.1), out.2) : JO) (inR out.1) 0 [(0, .ref (gB g + 1)), (1, vI x1), (2, .ref (gB g + 374))] [] A := by
  unfold fL_urgent at h
  refine j_aload_n (j := 2) dL_urgent_0 rfl rfl ?_
  refine j_iconst dL_urgent_1 ?_
  refine j_aload_n (j := 0) dL_urgent_2 rfl rfl ?_
  refine j_iload_n (j := 1) dL_urgent_3 rfl rfl ?_
  obtain ⟨p2, e1, h⟩ := obind_elim h
  have t6 := ctX8_urgent (d := d - 1) hl (by omega) hx1 e1 (g := g)
  by_cases c5 : p2.1 = 0
  rotate_left
  · rw [if_neg c5] at h
    by_cases c7 : p2.1 = 6
    · rw [if_pos c7] at h
      rw [c7] at t6
      refine j_callVc (k := 6) ML_68 YX8_urgent IX8_urgent SX8_urgent (by decide) rfl (by decide) (by omega) (Nat.le_of_ble_eq_true rfl) rfl t6 dL_urgent_4 (VK_c 8 1 rfl).1 (VK_c 8 1 rfl).lt (VK_c 8 1 rfl).ka rfl (by decide) [] (0, 9, 12, 42) [] rfl (fun z hz => nomatch hz) (by decide) (by decide) (by decide) (by decide) (gdI (i := 822) (by decide +kernel) rfl) (nwI (i := 830) (by decide +kernel) rfl) (fun _ qx => ?_)
      refine j_astore_n (lv' := [(3, .ref qx), (0, .ref (gB g + 1)), (1, vI x1), (2, .ref (gB g + 374))]) dL_urgent_12 rfl (by decide) (by first | rfl | (simp only [List.all_cons, List.all_nil, rv_cat]; rfl)) rfl ?_
      refine j_iconst dL_urgent_13 ?_
      cases h
      exact j_iret dL_urgent_14 rfl rfl rfl (inR_lit _ rfl)
    · rw [if_neg c7] at h
      cases h
  rw [if_pos c5] at h
  rw [c5] at t6
  change CT _ _ _ _ _ _ _ _ _ (0, some (vI p2.2.1), p2.2.2) _ at t6
  refine j_callV ML_68 YX8_urgent IX8_urgent SX8_urgent (by decide) rfl (by decide) (by omega) (Nat.le_of_ble_eq_true rfl) rfl t6 dL_urgent_4 (VK_c 8 1 rfl).1 (VK_c 8 1 rfl).lt (VK_c 8 1 rfl).ka rfl (fun z3 xt4 => ?_)
  refine j_i2l z3 dL_urgent_7 ?_
  obtain ⟨A8, eA8, h⟩ := bnd_elim h
  have xA8 : XT p2.2.2 A8 := by rw [eA8]; exact XT_sI _ _ _ _
  refine j_last z3 dL_urgent_8 ?_
  refine j_hB eA8 ?_
  refine j_goto (tgt := 15) dL_urgent_9 (by decide) ?_
  refine j_iconst dL_urgent_15 ?_
  cases h
  exact j_iret dL_urgent_16 rfl rfl rfl (inR_lit _ rfl)
theorem ctL_urgent {g : JG} {l : Launch} {d N : Nat} {A : AH} {out : Int × AH} {x1 : Int} (hl : l.stackTraces = false) (hd : 8 ≤ d) (hx1 : inR x1) (h : fL_urgent N A x1 = some out) : CTW g l yL_urgent cL_urgent 4 (some .int) d [.ref (gB g + 1), vI x1, .ref (gB g + 374)] A ((0, some (vI out.1), out.2) : JO) (inR out.1) :=
  CTW_of (by decide +kernel) hl (by first | exact Nat.le_of_ble_eq_true rfl | (unfold rv; split <;> exact Nat.le_of_ble_eq_true rfl)) (by first | rfl | (unfold rv; split <;> rfl)) (j_sub (lv := [(0, .ref (gB g + 1)), (1, vI x1), (2, .ref (gB g + 374))]) [0, 1, 2] rfl (tL_urgent_0 hl hd hx1 h))
set_option maxRecDepth 100000 in
theorem tL_pilot_0 {g : JG} {l : Launch} {d N n0 s0 : Nat} {out : Int × AH} {A : AH} {x1 : Int} {x2 : Int} (hl : l.stackTraces = false) (hd : 9 ≤ d) (hx1 : inR x1) (hx2 : inR x2) (h : fL_pilot N A x1 x2 = some out) : J g l d RL "pilot" cL_pilot 5 (some .int) n0 s0 ((0, some (vI out.1), out.2) : JO) (inR out.1) 0 [(0, .ref (gB g + 1)), (1, vI x1), (2, vI x2), (3, .ref (gB g + 374))] [] A := by
  unfold fL_pilot at h
  refine j_aload_n (j := 3) dL_pilot_0 rfl rfl ?_
  refine j_iconst dL_pilot_1 ?_
  refine j_aload_n (j := 0) dL_pilot_2 rfl rfl ?_
  refine j_iload_n (j := 1) dL_pilot_3 rfl rfl ?_
  refine j_iload_n (j := 2) dL_pilot_4 rfl rfl ?_
  obtain ⟨p2, e1, h⟩ := obind_elim h
  have t6 := ctX8_pilot (d := d - 1) hl (by omega) hx1 hx2 e1 (g := g)
  by_cases c5 : p2.1 = 0
  rotate_left
  · rw [if_neg c5] at h
    by_cases c8 : p2.1 = 3
    · rw [if_pos c8] at h
      rw [c8] at t6
      refine j_callVc (k := 3) ML_71 YX8_pilot IX8_pilot SX8_pilot (by decide) rfl (by decide) (by omega) (Nat.le_of_ble_eq_true rfl) rfl t6 dL_pilot_5 (VK_c 8 1 rfl).1 (VK_c 8 1 rfl).lt (VK_c 8 1 rfl).ka rfl (by decide) [] (0, 10, 13, 22) [(0, 10, 17, 13)] rfl (fun z hz => nomatch hz) (by decide) (by decide) (by decide) (by decide) (gdI (i := 681) (by decide +kernel) rfl) (nwI (i := 714) (by decide +kernel) rfl) (fun _ qx => ?_)
      refine j_astore (lv' := [(4, .ref qx), (0, .ref (gB g + 1)), (1, vI x1), (2, vI x2), (3, .ref (gB g + 374))]) dL_pilot_13 (by decide) (by first | rfl | (simp only [List.all_cons, List.all_nil, rv_cat]; rfl)) rfl ?_
      refine j_iconst dL_pilot_15 ?_
      cases h
      exact j_iret dL_pilot_16 rfl rfl rfl (inR_lit _ rfl)
    · rw [if_neg c8] at h
      by_cases c7 : p2.1 = 1
      · rw [if_pos c7] at h
        rw [c7] at t6
        refine j_callVc (k := 1) ML_71 YX8_pilot IX8_pilot SX8_pilot (by decide) rfl (by decide) (by omega) (Nat.le_of_ble_eq_true rfl) rfl t6 dL_pilot_5 (VK_c 8 1 rfl).1 (VK_c 8 1 rfl).lt (VK_c 8 1 rfl).ka rfl (by decide) [(0, 10, 13, 22)] (0, 10, 17, 13) [] rfl (List.forall_mem_cons.mpr ⟨⟨by decide, 3, gdI (i := 681) (by decide +kernel) rfl, by decide, by decide, by decide⟩, (fun z hz => nomatch hz)⟩) (by decide) (by decide) (by decide) (by decide) (gdI (i := 587) (by decide +kernel) rfl) (nwI (i := 594) (by decide +kernel) rfl) (fun _ qx => ?_)
        refine j_astore (lv' := [(4, .ref qx), (0, .ref (gB g + 1)), (1, vI x1), (2, vI x2), (3, .ref (gB g + 374))]) dL_pilot_17 (by decide) (by first | rfl | (simp only [List.all_cons, List.all_nil, rv_cat]; rfl)) rfl ?_
        refine j_iconst dL_pilot_19 ?_
        cases h
        exact j_iret dL_pilot_20 rfl rfl rfl (inR_lit _ rfl)
      · rw [if_neg c7] at h
        cases h
  rw [if_pos c5] at h
  rw [c5] at t6
  change CT _ _ _ _ _ _ _ _ _ (0, some (vI p2.2.1), p2.2.2) _ at t6
  refine j_callV ML_71 YX8_pilot IX8_pilot SX8_pilot (by decide) rfl (by decide) (by omega) (Nat.le_of_ble_eq_true rfl) rfl t6 dL_pilot_5 (VK_c 8 1 rfl).1 (VK_c 8 1 rfl).lt (VK_c 8 1 rfl).ka rfl (fun z3 xt4 => ?_)
  refine j_i2l z3 dL_pilot_8 ?_
  obtain ⟨A9, eA9, h⟩ := bnd_elim h
  have xA9 : XT p2.2.2 A9 := by rw [eA9]; exact XT_sI _ _ _ _
  refine j_last z3 dL_pilot_9 ?_
  refine j_hB eA9 ?_
  refine j_goto (tgt := 21) dL_pilot_10 (by decide) ?_
  refine j_iconst dL_pilot_21 ?_
  cases h
  exact j_iret dL_pilot_22 rfl rfl rfl (inR_lit _ rfl)
theorem ctL_pilot {g : JG} {l : Launch} {d N : Nat} {A : AH} {out : Int × AH} {x1 : Int} {x2 : Int} (hl : l.stackTraces = false) (hd : 9 ≤ d) (hx1 : inR x1) (hx2 : inR x2) (h : fL_pilot N A x1 x2 = some out) : CTW g l yL_pilot cL_pilot 5 (some .int) d [.ref (gB g + 1), vI x1, vI x2, .ref (gB g + 374)] A ((0, some (vI out.1), out.2) : JO) (inR out.1) :=
  CTW_of (by decide +kernel) hl (by first | exact Nat.le_of_ble_eq_true rfl | (unfold rv; split <;> exact Nat.le_of_ble_eq_true rfl)) (by first | rfl | (unfold rv; split <;> rfl)) (j_sub (lv := [(0, .ref (gB g + 1)), (1, vI x1), (2, vI x2), (3, .ref (gB g + 374))]) [0, 1, 2, 3] rfl (tL_pilot_0 hl hd hx1 hx2 h))
set_option maxRecDepth 100000 in
theorem tL_planOf_0 {g : JG} {l : Launch} {d N n0 s0 : Nat} {out : Int × AH} {A : AH} {x1 : Int} {x2 : Int} {x3 : Int} (hl : l.stackTraces = false) (hd : 9 ≤ d) (hx1 : inR x1) (hx2 : inR x2) (hx3 : inR x3) (h : fL_planOf N A x1 x2 x3 = some out) : J g l d RL "planOf" cL_planOf 6 (some .int) n0 s0 ((0, some (vI out.1), out.2) : JO) (inR out.1) 0 [(0, .ref (gB g + 1)), (1, vI x1), (2, vI x2), (3, vI x3), (4, .ref (gB g + 374))] [] A := by
  unfold fL_planOf at h
  refine j_aload (j := 4) dL_planOf_0 rfl ?_
  refine j_iconst dL_planOf_2 ?_
  refine j_aload_n (j := 0) dL_planOf_3 rfl rfl ?_
  refine j_iload_n (j := 1) dL_planOf_4 rfl rfl ?_
  refine j_iload_n (j := 2) dL_planOf_5 rfl rfl ?_
  refine j_iload_n (j := 3) dL_planOf_6 rfl rfl ?_
  obtain ⟨p2, e1, h⟩ := obind_elim h
  have t6 := ctX8_planOf (d := d - 1) hl (by omega) hx1 hx2 hx3 e1 (g := g)
  by_cases c5 : p2.1 = 0
  rotate_left
  · rw [if_neg c5] at h
    by_cases c9 : p2.1 = 3
    · rw [if_pos c9] at h
      rw [c9] at t6
      refine j_callVc (k := 3) ML_74 YX8_planOf IX8_planOf SX8_planOf (by decide) rfl (by decide) (by omega) (Nat.le_of_ble_eq_true rfl) rfl t6 dL_planOf_7 (VK_c 8 1 rfl).1 (VK_c 8 1 rfl).lt (VK_c 8 1 rfl).ka rfl (by decide) [] (0, 12, 15, 22) [(0, 12, 19, 42), (0, 12, 23, 13)] rfl (fun z hz => nomatch hz) (by decide) (by decide) (by decide) (by decide) (gdI (i := 681) (by decide +kernel) rfl) (nwI (i := 714) (by decide +kernel) rfl) (fun _ qx => ?_)
      refine j_astore (lv' := [(5, .ref qx), (0, .ref (gB g + 1)), (1, vI x1), (2, vI x2), (3, vI x3), (4, .ref (gB g + 374))]) dL_planOf_15 (by decide) (by first | rfl | (simp only [List.all_cons, List.all_nil, rv_cat]; rfl)) rfl ?_
      refine j_iconst dL_planOf_17 ?_
      cases h
      exact j_iret dL_planOf_18 rfl rfl rfl (inR_lit _ rfl)
    · rw [if_neg c9] at h
      by_cases c8 : p2.1 = 6
      · rw [if_pos c8] at h
        rw [c8] at t6
        refine j_callVc (k := 6) ML_74 YX8_planOf IX8_planOf SX8_planOf (by decide) rfl (by decide) (by omega) (Nat.le_of_ble_eq_true rfl) rfl t6 dL_planOf_7 (VK_c 8 1 rfl).1 (VK_c 8 1 rfl).lt (VK_c 8 1 rfl).ka rfl (by decide) [(0, 12, 15, 22)] (0, 12, 19, 42) [(0, 12, 23, 13)] rfl (List.forall_mem_cons.mpr ⟨⟨by decide, 3, gdI (i := 681) (by decide +kernel) rfl, by decide, by decide, by decide⟩, (fun z hz => nomatch hz)⟩) (by decide) (by decide) (by decide) (by decide) (gdI (i := 822) (by decide +kernel) rfl) (nwI (i := 830) (by decide +kernel) rfl) (fun _ qx => ?_)
        refine j_astore (lv' := [(5, .ref qx), (0, .ref (gB g + 1)), (1, vI x1), (2, vI x2), (3, vI x3), (4, .ref (gB g + 374))]) dL_planOf_19 (by decide) (by first | rfl | (simp only [List.all_cons, List.all_nil, rv_cat]; rfl)) rfl ?_
        refine j_iconst dL_planOf_21 ?_
        cases h
        exact j_iret dL_planOf_22 rfl rfl rfl (inR_lit _ rfl)
      · rw [if_neg c8] at h
        by_cases c7 : p2.1 = 1
        · rw [if_pos c7] at h
          rw [c7] at t6
          refine j_callVc (k := 1) ML_74 YX8_planOf IX8_planOf SX8_planOf (by decide) rfl (by decide) (by omega) (Nat.le_of_ble_eq_true rfl) rfl t6 dL_planOf_7 (VK_c 8 1 rfl).1 (VK_c 8 1 rfl).lt (VK_c 8 1 rfl).ka rfl (by decide) [(0, 12, 15, 22), (0, 12, 19, 42)] (0, 12, 23, 13) [] rfl (List.forall_mem_cons.mpr ⟨⟨by decide, 3, gdI (i := 681) (by decide +kernel) rfl, by decide, by decide, by decide⟩, (List.forall_mem_cons.mpr ⟨⟨by decide, 6, gdI (i := 822) (by decide +kernel) rfl, by decide, by decide, by decide⟩, (fun z hz => nomatch hz)⟩)⟩) (by decide) (by decide) (by decide) (by decide) (gdI (i := 587) (by decide +kernel) rfl) (nwI (i := 594) (by decide +kernel) rfl) (fun _ qx => ?_)
          refine j_astore (lv' := [(5, .ref qx), (0, .ref (gB g + 1)), (1, vI x1), (2, vI x2), (3, vI x3), (4, .ref (gB g + 374))]) dL_planOf_23 (by decide) (by first | rfl | (simp only [List.all_cons, List.all_nil, rv_cat]; rfl)) rfl ?_
          refine j_iconst dL_planOf_25 ?_
          cases h
          exact j_iret dL_planOf_26 rfl rfl rfl (inR_lit _ rfl)
        · rw [if_neg c7] at h
          cases h
  rw [if_pos c5] at h
  rw [c5] at t6
  change CT _ _ _ _ _ _ _ _ _ (0, some (vI p2.2.1), p2.2.2) _ at t6
  refine j_callV ML_74 YX8_planOf IX8_planOf SX8_planOf (by decide) rfl (by decide) (by omega) (Nat.le_of_ble_eq_true rfl) rfl t6 dL_planOf_7 (VK_c 8 1 rfl).1 (VK_c 8 1 rfl).lt (VK_c 8 1 rfl).ka rfl (fun z3 xt4 => ?_)
  refine j_i2l z3 dL_planOf_10 ?_
  obtain ⟨A10, eA10, h⟩ := bnd_elim h
  have xA10 : XT p2.2.2 A10 := by rw [eA10]; exact XT_sI _ _ _ _
  refine j_last z3 dL_planOf_11 ?_
  refine j_hB eA10 ?_
  refine j_goto (tgt := 27) dL_planOf_12 (by decide) ?_
  refine j_iconst dL_planOf_27 ?_
  cases h
  exact j_iret dL_planOf_28 rfl rfl rfl (inR_lit _ rfl)
theorem ctL_planOf {g : JG} {l : Launch} {d N : Nat} {A : AH} {out : Int × AH} {x1 : Int} {x2 : Int} {x3 : Int} (hl : l.stackTraces = false) (hd : 9 ≤ d) (hx1 : inR x1) (hx2 : inR x2) (hx3 : inR x3) (h : fL_planOf N A x1 x2 x3 = some out) : CTW g l yL_planOf cL_planOf 6 (some .int) d [.ref (gB g + 1), vI x1, vI x2, vI x3, .ref (gB g + 374)] A ((0, some (vI out.1), out.2) : JO) (inR out.1) :=
  CTW_of (by decide +kernel) hl (by first | exact Nat.le_of_ble_eq_true rfl | (unfold rv; split <;> exact Nat.le_of_ble_eq_true rfl)) (by first | rfl | (unfold rv; split <;> rfl)) (j_sub (lv := [(0, .ref (gB g + 1)), (1, vI x1), (2, vI x2), (3, vI x3), (4, .ref (gB g + 374))]) [0, 1, 2, 3, 4] rfl (tL_planOf_0 hl hd hx1 hx2 hx3 h))
set_option maxRecDepth 100000 in
theorem tL_place_0 {g : JG} {l : Launch} {d N n0 s0 : Nat} {out : Int × AH} {A : AH} {x1 : Int} {x2 : Int} (hl : l.stackTraces = false) (hd : 9 ≤ d) (hx1 : inR x1) (hx2 : inR x2) (h : fL_place N A x1 x2 = some out) : J g l d RL "place" cL_place 5 (some .int) n0 s0 ((0, some (vI out.1), out.2) : JO) (inR out.1) 0 [(0, .ref (gB g + 1)), (1, vI x1), (2, vI x2), (3, .ref (gB g + 374))] [] A := by
  unfold fL_place at h
  refine j_aload_n (j := 3) dL_place_0 rfl rfl ?_
  refine j_iconst dL_place_1 ?_
  refine j_aload_n (j := 0) dL_place_2 rfl rfl ?_
  refine j_iload_n (j := 1) dL_place_3 rfl rfl ?_
  refine j_iload_n (j := 2) dL_place_4 rfl rfl ?_
  obtain ⟨p2, e1, h⟩ := obind_elim h
  have t6 := ctX8_place (d := d - 1) hl (by omega) hx1 hx2 e1 (g := g)
  by_cases c5 : p2.1 = 0
  rotate_left
  · rw [if_neg c5] at h
    by_cases c7 : p2.1 = 3
    · rw [if_pos c7] at h
      rw [c7] at t6
      refine j_callVc (k := 3) ML_77 YX8_place IX8_place SX8_place (by decide) rfl (by decide) (by omega) (Nat.le_of_ble_eq_true rfl) rfl t6 dL_place_5 (VK_c 8 1 rfl).1 (VK_c 8 1 rfl).lt (VK_c 8 1 rfl).ka rfl (by decide) [] (0, 10, 13, 22) [] rfl (fun z hz => nomatch hz) (by decide) (by decide) (by decide) (by decide) (gdI (i := 681) (by decide +kernel) rfl) (nwI (i := 714) (by decide +kernel) rfl) (fun _ qx => ?_)
      refine j_astore (lv' := [(4, .ref qx), (0, .ref (gB g + 1)), (1, vI x1), (2, vI x2), (3, .ref (gB g + 374))]) dL_place_13 (by decide) (by first | rfl | (simp only [List.all_cons, List.all_nil, rv_cat]; rfl)) rfl ?_
      refine j_iconst dL_place_15 ?_
      cases h
      exact j_iret dL_place_16 rfl rfl rfl (inR_lit _ rfl)
    · rw [if_neg c7] at h
      cases h
  rw [if_pos c5] at h
  rw [c5] at t6
  change CT _ _ _ _ _ _ _ _ _ (0, some (vI p2.2.1), p2.2.2) _ at t6
  refine j_callV ML_77 YX8_place IX8_place SX8_place (by decide) rfl (by decide) (by omega) (Nat.le_of_ble_eq_true rfl) rfl t6 dL_place_5 (VK_c 8 1 rfl).1 (VK_c 8 1 rfl).lt (VK_c 8 1 rfl).ka rfl (fun z3 xt4 => ?_)
  refine j_i2l z3 dL_place_8 ?_
  obtain ⟨A8, eA8, h⟩ := bnd_elim h
  have xA8 : XT p2.2.2 A8 := by rw [eA8]; exact XT_sI _ _ _ _
  refine j_last z3 dL_place_9 ?_
  refine j_hB eA8 ?_
  refine j_goto (tgt := 17) dL_place_10 (by decide) ?_
  refine j_iconst dL_place_17 ?_
  cases h
  exact j_iret dL_place_18 rfl rfl rfl (inR_lit _ rfl)
theorem ctL_place {g : JG} {l : Launch} {d N : Nat} {A : AH} {out : Int × AH} {x1 : Int} {x2 : Int} (hl : l.stackTraces = false) (hd : 9 ≤ d) (hx1 : inR x1) (hx2 : inR x2) (h : fL_place N A x1 x2 = some out) : CTW g l yL_place cL_place 5 (some .int) d [.ref (gB g + 1), vI x1, vI x2, .ref (gB g + 374)] A ((0, some (vI out.1), out.2) : JO) (inR out.1) :=
  CTW_of (by decide +kernel) hl (by first | exact Nat.le_of_ble_eq_true rfl | (unfold rv; split <;> exact Nat.le_of_ble_eq_true rfl)) (by first | rfl | (unfold rv; split <;> rfl)) (j_sub (lv := [(0, .ref (gB g + 1)), (1, vI x1), (2, vI x2), (3, .ref (gB g + 374))]) [0, 1, 2, 3] rfl (tL_place_0 hl hd hx1 hx2 h))
set_option maxRecDepth 100000 in
theorem tL_placeAgain_0 {g : JG} {l : Launch} {d N n0 s0 : Nat} {out : Int × AH} {A : AH} {x1 : Int} {x2 : Int} (hl : l.stackTraces = false) (hd : 9 ≤ d) (hx1 : inR x1) (hx2 : inR x2) (h : fL_placeAgain N A x1 x2 = some out) : J g l d RL "placeAgain" cL_placeAgain 5 (some .int) n0 s0 ((0, some (vI out.1), out.2) : JO) (inR out.1) 0 [(0, .ref (gB g + 1)), (1, vI x1), (2, vI x2), (3, .ref (gB g + 374))] [] A := by
  unfold fL_placeAgain at h
  refine j_aload_n (j := 3) dL_placeAgain_0 rfl rfl ?_
  refine j_iconst dL_placeAgain_1 ?_
  refine j_aload_n (j := 0) dL_placeAgain_2 rfl rfl ?_
  refine j_iload_n (j := 1) dL_placeAgain_3 rfl rfl ?_
  refine j_iload_n (j := 2) dL_placeAgain_4 rfl rfl ?_
  obtain ⟨p2, e1, h⟩ := obind_elim h
  have t6 := ctX8_placeAgain (d := d - 1) hl (by omega) hx1 hx2 e1 (g := g)
  by_cases c5 : p2.1 = 0
  rotate_left
  · rw [if_neg c5] at h
    by_cases c7 : p2.1 = 3
    · rw [if_pos c7] at h
      rw [c7] at t6
      refine j_callVc (k := 3) ML_80 YX8_placeAgain IX8_placeAgain SX8_placeAgain (by decide) rfl (by decide) (by omega) (Nat.le_of_ble_eq_true rfl) rfl t6 dL_placeAgain_5 (VK_c 8 1 rfl).1 (VK_c 8 1 rfl).lt (VK_c 8 1 rfl).ka rfl (by decide) [] (0, 10, 13, 22) [] rfl (fun z hz => nomatch hz) (by decide) (by decide) (by decide) (by decide) (gdI (i := 681) (by decide +kernel) rfl) (nwI (i := 714) (by decide +kernel) rfl) (fun _ qx => ?_)
      refine j_astore (lv' := [(4, .ref qx), (0, .ref (gB g + 1)), (1, vI x1), (2, vI x2), (3, .ref (gB g + 374))]) dL_placeAgain_13 (by decide) (by first | rfl | (simp only [List.all_cons, List.all_nil, rv_cat]; rfl)) rfl ?_
      refine j_iconst dL_placeAgain_15 ?_
      cases h
      exact j_iret dL_placeAgain_16 rfl rfl rfl (inR_lit _ rfl)
    · rw [if_neg c7] at h
      cases h
  rw [if_pos c5] at h
  rw [c5] at t6
  change CT _ _ _ _ _ _ _ _ _ (0, some (vI p2.2.1), p2.2.2) _ at t6
  refine j_callV ML_80 YX8_placeAgain IX8_placeAgain SX8_placeAgain (by decide) rfl (by decide) (by omega) (Nat.le_of_ble_eq_true rfl) rfl t6 dL_placeAgain_5 (VK_c 8 1 rfl).1 (VK_c 8 1 rfl).lt (VK_c 8 1 rfl).ka rfl (fun z3 xt4 => ?_)
  refine j_i2l z3 dL_placeAgain_8 ?_
  obtain ⟨A8, eA8, h⟩ := bnd_elim h
  have xA8 : XT p2.2.2 A8 := by rw [eA8]; exact XT_sI _ _ _ _
  refine j_last z3 dL_placeAgain_9 ?_
  refine j_hB eA8 ?_
  refine j_goto (tgt := 17) dL_placeAgain_10 (by decide) ?_
  refine j_iconst dL_placeAgain_17 ?_
  cases h
  exact j_iret dL_placeAgain_18 rfl rfl rfl (inR_lit _ rfl)
theorem ctL_placeAgain {g : JG} {l : Launch} {d N : Nat} {A : AH} {out : Int × AH} {x1 : Int} {x2 : Int} (hl : l.stackTraces = false) (hd : 9 ≤ d) (hx1 : inR x1) (hx2 : inR x2) (h : fL_placeAgain N A x1 x2 = some out) : CTW g l yL_placeAgain cL_placeAgain 5 (some .int) d [.ref (gB g + 1), vI x1, vI x2, .ref (gB g + 374)] A ((0, some (vI out.1), out.2) : JO) (inR out.1) :=
  CTW_of (by decide +kernel) hl (by first | exact Nat.le_of_ble_eq_true rfl | (unfold rv; split <;> exact Nat.le_of_ble_eq_true rfl)) (by first | rfl | (unfold rv; split <;> rfl)) (j_sub (lv := [(0, .ref (gB g + 1)), (1, vI x1), (2, vI x2), (3, .ref (gB g + 374))]) [0, 1, 2, 3] rfl (tL_placeAgain_0 hl hd hx1 hx2 h))
set_option maxRecDepth 100000 in
theorem tL_boat_0 {g : JG} {l : Launch} {d N n0 s0 : Nat} {out : Int × AH} {A : AH} {x1 : Int} {x2 : Int} (hl : l.stackTraces = false) (hd : 8 ≤ d) (hx1 : inR x1) (hx2 : inR x2) (h : fL_boat N A x1 x2 = some out) : J g l d RL "boat" cL_boat 5 (some .int) n0 s0 ((0, some (vI out.1), out.2) : JO) (inR out.1) 0 [(0, .ref (gB g + 1)), (1, vI x1), (2, vI x2), (3, .ref (gB g + 374))] [] A := by
  unfold fL_boat at h
  refine j_aload_n (j := 3) dL_boat_0 rfl rfl ?_
  refine j_iconst dL_boat_1 ?_
  refine j_aload_n (j := 0) dL_boat_2 rfl rfl ?_
  refine j_iload_n (j := 1) dL_boat_3 rfl rfl ?_
  refine j_iload_n (j := 2) dL_boat_4 rfl rfl ?_
  obtain ⟨p2, e1, h⟩ := obind_elim h
  have t6 := ctX8_boat (d := d - 1) hl (by omega) hx1 hx2 e1 (g := g)
  by_cases c5 : p2.1 = 0
  rotate_left
  · rw [if_neg c5] at h
    by_cases c8 : p2.1 = 3
    · rw [if_pos c8] at h
      rw [c8] at t6
      refine j_callVc (k := 3) ML_83 YX8_boat IX8_boat SX8_boat (by decide) rfl (by decide) (by omega) (Nat.le_of_ble_eq_true rfl) rfl t6 dL_boat_5 (VK_c 8 1 rfl).1 (VK_c 8 1 rfl).lt (VK_c 8 1 rfl).ka rfl (by decide) [] (0, 10, 13, 22) [(0, 10, 17, 13)] rfl (fun z hz => nomatch hz) (by decide) (by decide) (by decide) (by decide) (gdI (i := 681) (by decide +kernel) rfl) (nwI (i := 714) (by decide +kernel) rfl) (fun _ qx => ?_)
      refine j_astore (lv' := [(4, .ref qx), (0, .ref (gB g + 1)), (1, vI x1), (2, vI x2), (3, .ref (gB g + 374))]) dL_boat_13 (by decide) (by first | rfl | (simp only [List.all_cons, List.all_nil, rv_cat]; rfl)) rfl ?_
      refine j_iconst dL_boat_15 ?_
      cases h
      exact j_iret dL_boat_16 rfl rfl rfl (inR_lit _ rfl)
    · rw [if_neg c8] at h
      by_cases c7 : p2.1 = 1
      · rw [if_pos c7] at h
        rw [c7] at t6
        refine j_callVc (k := 1) ML_83 YX8_boat IX8_boat SX8_boat (by decide) rfl (by decide) (by omega) (Nat.le_of_ble_eq_true rfl) rfl t6 dL_boat_5 (VK_c 8 1 rfl).1 (VK_c 8 1 rfl).lt (VK_c 8 1 rfl).ka rfl (by decide) [(0, 10, 13, 22)] (0, 10, 17, 13) [] rfl (List.forall_mem_cons.mpr ⟨⟨by decide, 3, gdI (i := 681) (by decide +kernel) rfl, by decide, by decide, by decide⟩, (fun z hz => nomatch hz)⟩) (by decide) (by decide) (by decide) (by decide) (gdI (i := 587) (by decide +kernel) rfl) (nwI (i := 594) (by decide +kernel) rfl) (fun _ qx => ?_)
        refine j_astore (lv' := [(4, .ref qx), (0, .ref (gB g + 1)), (1, vI x1), (2, vI x2), (3, .ref (gB g + 374))]) dL_boat_17 (by decide) (by first | rfl | (simp only [List.all_cons, List.all_nil, rv_cat]; rfl)) rfl ?_
        refine j_iconst dL_boat_19 ?_
        cases h
        exact j_iret dL_boat_20 rfl rfl rfl (inR_lit _ rfl)
      · rw [if_neg c7] at h
        cases h
  rw [if_pos c5] at h
  rw [c5] at t6
  change CT _ _ _ _ _ _ _ _ _ (0, some (vI p2.2.1), p2.2.2) _ at t6
  refine j_callV ML_83 YX8_boat IX8_boat SX8_boat (by decide) rfl (by decide) (by omega) (Nat.le_of_ble_eq_true rfl) rfl t6 dL_boat_5 (VK_c 8 1 rfl).1 (VK_c 8 1 rfl).lt (VK_c 8 1 rfl).ka rfl (fun z3 xt4 => ?_)
  refine j_i2l z3 dL_boat_8 ?_
  obtain ⟨A9, eA9, h⟩ := bnd_elim h
  have xA9 : XT p2.2.2 A9 := by rw [eA9]; exact XT_sI _ _ _ _
  refine j_last z3 dL_boat_9 ?_
  refine j_hB eA9 ?_
  refine j_goto (tgt := 21) dL_boat_10 (by decide) ?_
  refine j_iconst dL_boat_21 ?_
  cases h
  exact j_iret dL_boat_22 rfl rfl rfl (inR_lit _ rfl)
