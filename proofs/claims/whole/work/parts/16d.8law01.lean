theorem ctL_boat {g : JG} {l : Launch} {d N : Nat} {A : AH} {out : Int × AH} {x1 : Int} {x2 : Int} (hl : l.stackTraces = false) (hd : 8 ≤ d) (hx1 : inR x1) (hx2 : inR x2) (h : fL_boat N A x1 x2 = some out) : CTW g l yL_boat cL_boat 5 (some .int) d [.ref (gB g + 1), vI x1, vI x2, .ref (gB g + 374)] A ((0, some (vI out.1), out.2) : JO) (inR out.1) :=
  CTW_of (by decide +kernel) hl (by first | exact Nat.le_of_ble_eq_true rfl | (unfold rv; split <;> exact Nat.le_of_ble_eq_true rfl)) (by first | rfl | (unfold rv; split <;> rfl)) (j_sub (lv := [(0, .ref (gB g + 1)), (1, vI x1), (2, vI x2), (3, .ref (gB g + 374))]) [0, 1, 2, 3] rfl (tL_boat_0 hl hd hx1 hx2 h))
set_option maxRecDepth 100000 in
theorem tL_pass_0 {g : JG} {l : Launch} {d N n0 s0 : Nat} {out : Int × AH} {A : AH} {x1 : Int} (hl : l.stackTraces = false) (hd : 8 ≤ d) (hx1 : inR x1) (h : fL_pass N A x1 = some out) : J g l d RL "pass" cL_pass 4 (some .int) n0 s0 ((0, some (vI out.1), out.2) : JO) (inR out.1) 0 [(0, .ref (gB g + 1)), (1, vI x1), (2, .ref (gB g + 374))] [] A := by
  unfold fL_pass at h
  refine j_aload_n (j := 2) dL_pass_0 rfl rfl ?_
  refine j_iconst dL_pass_1 ?_
  refine j_aload_n (j := 0) dL_pass_2 rfl rfl ?_
  refine j_iload_n (j := 1) dL_pass_3 rfl rfl ?_
  obtain ⟨p2, e1, h⟩ := obind_elim h
  have t6 := ctX8_pass (d := d - 1) hl (by omega) hx1 e1 (g := g)
  by_cases c5 : p2.1 = 0
  rotate_left
  · rw [if_neg c5] at h
    by_cases c8 : p2.1 = 1
    · rw [if_pos c8] at h
      rw [c8] at t6
      refine j_callVc (k := 1) ML_86 YX8_pass IX8_pass SX8_pass (by decide) rfl (by decide) (by omega) (Nat.le_of_ble_eq_true rfl) rfl t6 dL_pass_4 (VK_c 8 1 rfl).1 (VK_c 8 1 rfl).lt (VK_c 8 1 rfl).ka rfl (by decide) [] (0, 9, 12, 13) [(0, 9, 15, 27)] rfl (fun z hz => nomatch hz) (by decide) (by decide) (by decide) (by decide) (gdI (i := 587) (by decide +kernel) rfl) (nwI (i := 594) (by decide +kernel) rfl) (fun _ qx => ?_)
      refine j_astore_n (lv' := [(3, .ref qx), (0, .ref (gB g + 1)), (1, vI x1), (2, .ref (gB g + 374))]) dL_pass_12 rfl (by decide) (by first | rfl | (simp only [List.all_cons, List.all_nil, rv_cat]; rfl)) rfl ?_
      refine j_iconst dL_pass_13 ?_
      cases h
      exact j_iret dL_pass_14 rfl rfl rfl (inR_lit _ rfl)
    · rw [if_neg c8] at h
      by_cases c7 : p2.1 = 2
      · rw [if_pos c7] at h
        rw [c7] at t6
        refine j_callVc (k := 2) ML_86 YX8_pass IX8_pass SX8_pass (by decide) rfl (by decide) (by omega) (Nat.le_of_ble_eq_true rfl) rfl t6 dL_pass_4 (VK_c 8 1 rfl).1 (VK_c 8 1 rfl).lt (VK_c 8 1 rfl).ka rfl (by decide) [(0, 9, 12, 13)] (0, 9, 15, 27) [] rfl (List.forall_mem_cons.mpr ⟨⟨by decide, 1, gdI (i := 587) (by decide +kernel) rfl, by decide, by decide, by decide⟩, (fun z hz => nomatch hz)⟩) (by decide) (by decide) (by decide) (by decide) (gdI (i := 729) (by decide +kernel) rfl) (nwI (i := 737) (by decide +kernel) rfl) (fun _ qx => ?_)
        refine j_astore_n (lv' := [(3, .ref qx), (0, .ref (gB g + 1)), (1, vI x1), (2, .ref (gB g + 374))]) dL_pass_15 rfl (by decide) (by first | rfl | (simp only [List.all_cons, List.all_nil, rv_cat]; rfl)) rfl ?_
        refine j_iconst dL_pass_16 ?_
        cases h
        exact j_iret dL_pass_17 rfl rfl rfl (inR_lit _ rfl)
      · rw [if_neg c7] at h
        cases h
  rw [if_pos c5] at h
  rw [c5] at t6
  change CT _ _ _ _ _ _ _ _ _ (0, some (vI p2.2.1), p2.2.2) _ at t6
  refine j_callV ML_86 YX8_pass IX8_pass SX8_pass (by decide) rfl (by decide) (by omega) (Nat.le_of_ble_eq_true rfl) rfl t6 dL_pass_4 (VK_c 8 1 rfl).1 (VK_c 8 1 rfl).lt (VK_c 8 1 rfl).ka rfl (fun z3 xt4 => ?_)
  refine j_i2l z3 dL_pass_7 ?_
  obtain ⟨A9, eA9, h⟩ := bnd_elim h
  have xA9 : XT p2.2.2 A9 := by rw [eA9]; exact XT_sI _ _ _ _
  refine j_last z3 dL_pass_8 ?_
  refine j_hB eA9 ?_
  refine j_goto (tgt := 18) dL_pass_9 (by decide) ?_
  refine j_iconst dL_pass_18 ?_
  cases h
  exact j_iret dL_pass_19 rfl rfl rfl (inR_lit _ rfl)
theorem ctL_pass {g : JG} {l : Launch} {d N : Nat} {A : AH} {out : Int × AH} {x1 : Int} (hl : l.stackTraces = false) (hd : 8 ≤ d) (hx1 : inR x1) (h : fL_pass N A x1 = some out) : CTW g l yL_pass cL_pass 4 (some .int) d [.ref (gB g + 1), vI x1, .ref (gB g + 374)] A ((0, some (vI out.1), out.2) : JO) (inR out.1) :=
  CTW_of (by decide +kernel) hl (by first | exact Nat.le_of_ble_eq_true rfl | (unfold rv; split <;> exact Nat.le_of_ble_eq_true rfl)) (by first | rfl | (unfold rv; split <;> rfl)) (j_sub (lv := [(0, .ref (gB g + 1)), (1, vI x1), (2, .ref (gB g + 374))]) [0, 1, 2] rfl (tL_pass_0 hl hd hx1 h))
set_option maxRecDepth 100000 in
theorem tL_number_0 {g : JG} {l : Launch} {d N n0 s0 : Nat} {out : Int × AH} {A : AH} {x1 : Int} (hl : l.stackTraces = false) (hd : 8 ≤ d) (hx1 : inR x1) (h : fL_number N A x1 = some out) : J g l d RL "number" cL_number 4 (some .int) n0 s0 ((0, some (vI out.1), out.2) : JO) (inR out.1) 0 [(0, .ref (gB g + 1)), (1, vI x1), (2, .ref (gB g + 374))] [] A := by
  unfold fL_number at h
  refine j_aload_n (j := 2) dL_number_0 rfl rfl ?_
  refine j_iconst dL_number_1 ?_
  refine j_aload_n (j := 0) dL_number_2 rfl rfl ?_
  refine j_iload_n (j := 1) dL_number_3 rfl rfl ?_
  obtain ⟨p2, e1, h⟩ := obind_elim h
  have t6 := ctX8_number (d := d - 1) hl (by omega) hx1 e1 (g := g)
  by_cases c5 : p2.1 = 0
  rotate_left
  · rw [if_neg c5] at h
    by_cases c7 : p2.1 = 1
    · rw [if_pos c7] at h
      rw [c7] at t6
      refine j_callVc (k := 1) ML_89 YX8_number IX8_number SX8_number (by decide) rfl (by decide) (by omega) (Nat.le_of_ble_eq_true rfl) rfl t6 dL_number_4 (VK_c 8 1 rfl).1 (VK_c 8 1 rfl).lt (VK_c 8 1 rfl).ka rfl (by decide) [] (0, 9, 12, 13) [] rfl (fun z hz => nomatch hz) (by decide) (by decide) (by decide) (by decide) (gdI (i := 587) (by decide +kernel) rfl) (nwI (i := 594) (by decide +kernel) rfl) (fun _ qx => ?_)
      refine j_astore_n (lv' := [(3, .ref qx), (0, .ref (gB g + 1)), (1, vI x1), (2, .ref (gB g + 374))]) dL_number_12 rfl (by decide) (by first | rfl | (simp only [List.all_cons, List.all_nil, rv_cat]; rfl)) rfl ?_
      refine j_iconst dL_number_13 ?_
      cases h
      exact j_iret dL_number_14 rfl rfl rfl (inR_lit _ rfl)
    · rw [if_neg c7] at h
      cases h
  rw [if_pos c5] at h
  rw [c5] at t6
  change CT _ _ _ _ _ _ _ _ _ (0, some (vI p2.2.1), p2.2.2) _ at t6
  refine j_callV ML_89 YX8_number IX8_number SX8_number (by decide) rfl (by decide) (by omega) (Nat.le_of_ble_eq_true rfl) rfl t6 dL_number_4 (VK_c 8 1 rfl).1 (VK_c 8 1 rfl).lt (VK_c 8 1 rfl).ka rfl (fun z3 xt4 => ?_)
  refine j_i2l z3 dL_number_7 ?_
  obtain ⟨A8, eA8, h⟩ := bnd_elim h
  have xA8 : XT p2.2.2 A8 := by rw [eA8]; exact XT_sI _ _ _ _
  refine j_last z3 dL_number_8 ?_
  refine j_hB eA8 ?_
  refine j_goto (tgt := 15) dL_number_9 (by decide) ?_
  refine j_iconst dL_number_15 ?_
  cases h
  exact j_iret dL_number_16 rfl rfl rfl (inR_lit _ rfl)
theorem ctL_number {g : JG} {l : Launch} {d N : Nat} {A : AH} {out : Int × AH} {x1 : Int} (hl : l.stackTraces = false) (hd : 8 ≤ d) (hx1 : inR x1) (h : fL_number N A x1 = some out) : CTW g l yL_number cL_number 4 (some .int) d [.ref (gB g + 1), vI x1, .ref (gB g + 374)] A ((0, some (vI out.1), out.2) : JO) (inR out.1) :=
  CTW_of (by decide +kernel) hl (by first | exact Nat.le_of_ble_eq_true rfl | (unfold rv; split <;> exact Nat.le_of_ble_eq_true rfl)) (by first | rfl | (unfold rv; split <;> rfl)) (j_sub (lv := [(0, .ref (gB g + 1)), (1, vI x1), (2, .ref (gB g + 374))]) [0, 1, 2] rfl (tL_number_0 hl hd hx1 h))
set_option maxRecDepth 100000 in
theorem tL_meanWait_0 {g : JG} {l : Launch} {d N n0 s0 : Nat} {out : Int × AH} {A : AH} (hl : l.stackTraces = false) (hd : 8 ≤ d) (h : fL_meanWait N A  = some out) : J g l d RL "meanWait" cL_meanWait 3 (some .int) n0 s0 ((0, some (vI out.1), out.2) : JO) (inR out.1) 0 [(0, .ref (gB g + 1)), (1, .ref (gB g + 375))] [] A := by
  unfold fL_meanWait at h
  refine j_aload_n (j := 1) dL_meanWait_0 rfl rfl ?_
  refine j_iconst dL_meanWait_1 ?_
  refine j_aload_n (j := 0) dL_meanWait_2 rfl rfl ?_
  obtain ⟨p2, e1, h⟩ := obind_elim h
  have t6 := ctX8_meanWait (d := d - 1) hl (by omega)  e1 (g := g)
  by_cases c5 : p2.1 = 0
  rotate_left
  · rw [if_neg c5] at h
    by_cases c7 : p2.1 = 4
    · rw [if_pos c7] at h
      rw [c7] at t6
      refine j_callVc (k := 4) ML_92 YX8_meanWait IX8_meanWait SX8_meanWait (by decide) rfl (by decide) (by omega) (Nat.le_of_ble_eq_true rfl) rfl t6 dL_meanWait_3 (VK_c 8 1 rfl).1 (VK_c 8 1 rfl).lt (VK_c 8 1 rfl).ka rfl (by decide) [] (0, 7, 10, 96) [] rfl (fun z hz => nomatch hz) (by decide) (by decide) (by decide) (by decide) (gdI (i := 1118) (by decide +kernel) rfl) (nwI (i := 1130) (by decide +kernel) rfl) (fun _ qx => ?_)
      refine j_astore_n (lv' := [(2, .ref qx), (0, .ref (gB g + 1)), (1, .ref (gB g + 375))]) dL_meanWait_10 rfl (by decide) (by first | rfl | (simp only [List.all_cons, List.all_nil, rv_cat]; rfl)) rfl ?_
      refine j_iconst dL_meanWait_11 ?_
      cases h
      exact j_iret dL_meanWait_12 rfl rfl rfl (inR_lit _ rfl)
    · rw [if_neg c7] at h
      cases h
  rw [if_pos c5] at h
  rw [c5] at t6
  change CT _ _ _ _ _ _ _ _ _ (0, some (.double p2.2.1), p2.2.2) _ at t6
  refine j_callV ML_92 YX8_meanWait IX8_meanWait SX8_meanWait (by decide) rfl (by decide) (by omega) (Nat.le_of_ble_eq_true rfl) rfl t6 dL_meanWait_3 (VK_c 8 1 rfl).1 (VK_c 8 1 rfl).lt (VK_c 8 1 rfl).ka rfl (fun z3 xt4 => ?_)
  obtain ⟨A8, eA8, h⟩ := bnd_elim h
  have xA8 : XT p2.2.2 A8 := by rw [eA8]; exact XT_sD _ _
  refine j_dast dL_meanWait_6 ?_
  refine j_hB eA8 ?_
  refine j_goto (tgt := 13) dL_meanWait_7 (by decide) ?_
  refine j_iconst dL_meanWait_13 ?_
  cases h
  exact j_iret dL_meanWait_14 rfl rfl rfl (inR_lit _ rfl)
theorem ctL_meanWait {g : JG} {l : Launch} {d N : Nat} {A : AH} {out : Int × AH} (hl : l.stackTraces = false) (hd : 8 ≤ d) (h : fL_meanWait N A  = some out) : CTW g l yL_meanWait cL_meanWait 3 (some .int) d [.ref (gB g + 1), .ref (gB g + 375)] A ((0, some (vI out.1), out.2) : JO) (inR out.1) :=
  CTW_of (by decide +kernel) hl (by first | exact Nat.le_of_ble_eq_true rfl | (unfold rv; split <;> exact Nat.le_of_ble_eq_true rfl)) (by first | rfl | (unfold rv; split <;> rfl)) (j_sub (lv := [(0, .ref (gB g + 1)), (1, .ref (gB g + 375))]) [0, 1] rfl (tL_meanWait_0 hl hd  h))
set_option maxRecDepth 100000 in
theorem tL_share_0 {g : JG} {l : Launch} {d N n0 s0 : Nat} {out : Int × AH} {A : AH} {x1 : Int} (hl : l.stackTraces = false) (hd : 9 ≤ d) (hx1 : inR x1) (h : fL_share N A x1 = some out) : J g l d RL "share" cL_share 4 (some .int) n0 s0 ((0, some (vI out.1), out.2) : JO) (inR out.1) 0 [(0, .ref (gB g + 1)), (1, vI x1), (2, .ref (gB g + 375))] [] A := by
  unfold fL_share at h
  refine j_aload_n (j := 2) dL_share_0 rfl rfl ?_
  refine j_iconst dL_share_1 ?_
  refine j_aload_n (j := 0) dL_share_2 rfl rfl ?_
  refine j_iload_n (j := 1) dL_share_3 rfl rfl ?_
  obtain ⟨p2, e1, h⟩ := obind_elim h
  have t6 := ctX8_share (d := d - 1) hl (by omega) hx1 e1 (g := g)
  by_cases c5 : p2.1 = 0
  rotate_left
  · rw [if_neg c5] at h
    by_cases c8 : p2.1 = 3
    · rw [if_pos c8] at h
      rw [c8] at t6
      refine j_callVc (k := 3) ML_98 YX8_share IX8_share SX8_share (by decide) rfl (by decide) (by omega) (Nat.le_of_ble_eq_true rfl) rfl t6 dL_share_4 (VK_c 8 1 rfl).1 (VK_c 8 1 rfl).lt (VK_c 8 1 rfl).ka rfl (by decide) [] (0, 9, 12, 22) [(0, 9, 15, 96)] rfl (fun z hz => nomatch hz) (by decide) (by decide) (by decide) (by decide) (gdI (i := 681) (by decide +kernel) rfl) (nwI (i := 714) (by decide +kernel) rfl) (fun _ qx => ?_)
      refine j_astore_n (lv' := [(3, .ref qx), (0, .ref (gB g + 1)), (1, vI x1), (2, .ref (gB g + 375))]) dL_share_12 rfl (by decide) (by first | rfl | (simp only [List.all_cons, List.all_nil, rv_cat]; rfl)) rfl ?_
      refine j_iconst dL_share_13 ?_
      cases h
      exact j_iret dL_share_14 rfl rfl rfl (inR_lit _ rfl)
    · rw [if_neg c8] at h
      by_cases c7 : p2.1 = 4
      · rw [if_pos c7] at h
        rw [c7] at t6
        refine j_callVc (k := 4) ML_98 YX8_share IX8_share SX8_share (by decide) rfl (by decide) (by omega) (Nat.le_of_ble_eq_true rfl) rfl t6 dL_share_4 (VK_c 8 1 rfl).1 (VK_c 8 1 rfl).lt (VK_c 8 1 rfl).ka rfl (by decide) [(0, 9, 12, 22)] (0, 9, 15, 96) [] rfl (List.forall_mem_cons.mpr ⟨⟨by decide, 3, gdI (i := 681) (by decide +kernel) rfl, by decide, by decide, by decide⟩, (fun z hz => nomatch hz)⟩) (by decide) (by decide) (by decide) (by decide) (gdI (i := 1118) (by decide +kernel) rfl) (nwI (i := 1130) (by decide +kernel) rfl) (fun _ qx => ?_)
        refine j_astore_n (lv' := [(3, .ref qx), (0, .ref (gB g + 1)), (1, vI x1), (2, .ref (gB g + 375))]) dL_share_15 rfl (by decide) (by first | rfl | (simp only [List.all_cons, List.all_nil, rv_cat]; rfl)) rfl ?_
        refine j_iconst dL_share_16 ?_
        cases h
        exact j_iret dL_share_17 rfl rfl rfl (inR_lit _ rfl)
      · rw [if_neg c7] at h
        cases h
  rw [if_pos c5] at h
  rw [c5] at t6
  change CT _ _ _ _ _ _ _ _ _ (0, some (.float p2.2.1), p2.2.2) _ at t6
  refine j_callV ML_98 YX8_share IX8_share SX8_share (by decide) rfl (by decide) (by omega) (Nat.le_of_ble_eq_true rfl) rfl t6 dL_share_4 (VK_c 8 1 rfl).1 (VK_c 8 1 rfl).lt (VK_c 8 1 rfl).ka rfl (fun z3 xt4 => ?_)
  obtain ⟨c9, h⟩ := chk_elim h
  refine j_f2d c9 dL_share_7 ?_
  obtain ⟨A10, eA10, h⟩ := bnd_elim h
  have xA10 : XT p2.2.2 A10 := by rw [eA10]; exact XT_sD _ _
  refine j_dast dL_share_8 ?_
  refine j_hB eA10 ?_
  refine j_goto (tgt := 18) dL_share_9 (by decide) ?_
  refine j_iconst dL_share_18 ?_
  cases h
  exact j_iret dL_share_19 rfl rfl rfl (inR_lit _ rfl)
theorem ctL_share {g : JG} {l : Launch} {d N : Nat} {A : AH} {out : Int × AH} {x1 : Int} (hl : l.stackTraces = false) (hd : 9 ≤ d) (hx1 : inR x1) (h : fL_share N A x1 = some out) : CTW g l yL_share cL_share 4 (some .int) d [.ref (gB g + 1), vI x1, .ref (gB g + 375)] A ((0, some (vI out.1), out.2) : JO) (inR out.1) :=
  CTW_of (by decide +kernel) hl (by first | exact Nat.le_of_ble_eq_true rfl | (unfold rv; split <;> exact Nat.le_of_ble_eq_true rfl)) (by first | rfl | (unfold rv; split <;> rfl)) (j_sub (lv := [(0, .ref (gB g + 1)), (1, vI x1), (2, .ref (gB g + 375))]) [0, 1, 2] rfl (tL_share_0 hl hd hx1 h))
set_option maxRecDepth 100000 in
theorem tL_feed_0 {g : JG} {l : Launch} {d N n0 s0 : Nat} {out : Int × AH} {A : AH} {x1 : Int} (hl : l.stackTraces = false) (hd : 8 ≤ d) (hx1 : 0 ≤ x1 ∧ x1 < 65536) (h : fL_feed N A x1 = some out) : J g l d RL "feed" cL_feed 4 (some .int) n0 s0 ((0, some (vI out.1), out.2) : JO) (inR out.1) 0 [(0, .ref (gB g + 1)), (1, vI x1), (2, .ref (gB g + 374))] [] A := by
  unfold fL_feed at h
  refine j_aload_n (j := 2) dL_feed_0 rfl rfl ?_
  refine j_iconst dL_feed_1 ?_
  refine j_aload_n (j := 0) dL_feed_2 rfl rfl ?_
  refine j_iload_n (j := 1) dL_feed_3 rfl rfl ?_
  obtain ⟨p2, e1, h⟩ := obind_elim h
  have t6 := ctX8_feed (d := d - 1) hl (by omega) hx1 e1 (g := g)
  by_cases c5 : p2.1 = 0
  rotate_left
  · rw [if_neg c5] at h
    by_cases c7 : p2.1 = 2
    · rw [if_pos c7] at h
      rw [c7] at t6
      refine j_callVc (k := 2) ML_102 YX8_feed IX8_feed SX8_feed (by decide) rfl (by decide) (by omega) (Nat.le_of_ble_eq_true rfl) rfl t6 dL_feed_4 (VK_c 8 1 rfl).1 (VK_c 8 1 rfl).lt (VK_c 8 1 rfl).ka rfl (by decide) [] (0, 9, 12, 27) [] rfl (fun z hz => nomatch hz) (by decide) (by decide) (by decide) (by decide) (gdI (i := 729) (by decide +kernel) rfl) (nwI (i := 737) (by decide +kernel) rfl) (fun _ qx => ?_)
      refine j_astore_n (lv' := [(3, .ref qx), (0, .ref (gB g + 1)), (1, vI x1), (2, .ref (gB g + 374))]) dL_feed_12 rfl (by decide) (by first | rfl | (simp only [List.all_cons, List.all_nil, rv_cat]; rfl)) rfl ?_
      refine j_iconst dL_feed_13 ?_
      cases h
      exact j_iret dL_feed_14 rfl rfl rfl (inR_lit _ rfl)
    · rw [if_neg c7] at h
      cases h
  rw [if_pos c5] at h
  rw [c5] at t6
  change CT _ _ _ _ _ _ _ _ _ (0, some (vI p2.2.1), p2.2.2) _ at t6
  refine j_callV ML_102 YX8_feed IX8_feed SX8_feed (by decide) rfl (by decide) (by omega) (Nat.le_of_ble_eq_true rfl) rfl t6 dL_feed_4 (VK_c 8 1 rfl).1 (VK_c 8 1 rfl).lt (VK_c 8 1 rfl).ka rfl (fun z3 xt4 => ?_)
  refine j_i2l z3 dL_feed_7 ?_
  obtain ⟨A8, eA8, h⟩ := bnd_elim h
  have xA8 : XT p2.2.2 A8 := by rw [eA8]; exact XT_sI _ _ _ _
  refine j_last z3 dL_feed_8 ?_
  refine j_hB eA8 ?_
  refine j_goto (tgt := 15) dL_feed_9 (by decide) ?_
  refine j_iconst dL_feed_15 ?_
  cases h
  exact j_iret dL_feed_16 rfl rfl rfl (inR_lit _ rfl)
theorem ctL_feed {g : JG} {l : Launch} {d N : Nat} {A : AH} {out : Int × AH} {x1 : Int} (hl : l.stackTraces = false) (hd : 8 ≤ d) (hx1 : 0 ≤ x1 ∧ x1 < 65536) (h : fL_feed N A x1 = some out) : CTW g l yL_feed cL_feed 4 (some .int) d [.ref (gB g + 1), vI x1, .ref (gB g + 374)] A ((0, some (vI out.1), out.2) : JO) (inR out.1) :=
  CTW_of (by decide +kernel) hl (by first | exact Nat.le_of_ble_eq_true rfl | (unfold rv; split <;> exact Nat.le_of_ble_eq_true rfl)) (by first | rfl | (unfold rv; split <;> rfl)) (j_sub (lv := [(0, .ref (gB g + 1)), (1, vI x1), (2, .ref (gB g + 374))]) [0, 1, 2] rfl (tL_feed_0 hl hd hx1 h))
set_option maxRecDepth 100000 in
theorem tL_read_0 {g : JG} {l : Launch} {d N n0 s0 : Nat} {out : Int × AH} {A : AH} (hl : l.stackTraces = false) (hd : 8 ≤ d) (h : fL_read N A  = some out) : J g l d RL "read" cL_read 3 (some .int) n0 s0 ((0, some (vI out.1), out.2) : JO) (inR out.1) 0 [(0, .ref (gB g + 1)), (1, .ref (gB g + 374))] [] A := by
  unfold fL_read at h
  refine j_aload_n (j := 1) dL_read_0 rfl rfl ?_
  refine j_iconst dL_read_1 ?_
  refine j_aload_n (j := 0) dL_read_2 rfl rfl ?_
  obtain ⟨p2, e1, h⟩ := obind_elim h
  have t6 := ctX8_read (d := d - 1) hl (by omega)  e1 (g := g)
  by_cases c5 : p2.1 = 0
  rotate_left
  · rw [if_neg c5] at h
    by_cases c8 : p2.1 = 1
    · rw [if_pos c8] at h
      rw [c8] at t6
      refine j_callVc (k := 1) ML_106 YX8_read IX8_read SX8_read (by decide) rfl (by decide) (by omega) (Nat.le_of_ble_eq_true rfl) rfl t6 dL_read_3 (VK_c 8 1 rfl).1 (VK_c 8 1 rfl).lt (VK_c 8 1 rfl).ka rfl (by decide) [] (0, 8, 11, 13) [(0, 8, 14, 51)] rfl (fun z hz => nomatch hz) (by decide) (by decide) (by decide) (by decide) (gdI (i := 587) (by decide +kernel) rfl) (nwI (i := 594) (by decide +kernel) rfl) (fun _ qx => ?_)
      refine j_astore_n (lv' := [(2, .ref qx), (0, .ref (gB g + 1)), (1, .ref (gB g + 374))]) dL_read_11 rfl (by decide) (by first | rfl | (simp only [List.all_cons, List.all_nil, rv_cat]; rfl)) rfl ?_
      refine j_iconst dL_read_12 ?_
      cases h
      exact j_iret dL_read_13 rfl rfl rfl (inR_lit _ rfl)
    · rw [if_neg c8] at h
      by_cases c7 : p2.1 = 5
      · rw [if_pos c7] at h
        rw [c7] at t6
        refine j_callVc (k := 5) ML_106 YX8_read IX8_read SX8_read (by decide) rfl (by decide) (by omega) (Nat.le_of_ble_eq_true rfl) rfl t6 dL_read_3 (VK_c 8 1 rfl).1 (VK_c 8 1 rfl).lt (VK_c 8 1 rfl).ka rfl (by decide) [(0, 8, 11, 13)] (0, 8, 14, 51) [] rfl (List.forall_mem_cons.mpr ⟨⟨by decide, 1, gdI (i := 587) (by decide +kernel) rfl, by decide, by decide, by decide⟩, (fun z hz => nomatch hz)⟩) (by decide) (by decide) (by decide) (by decide) (gdI (i := 864) (by decide +kernel) rfl) (nwI (i := 879) (by decide +kernel) rfl) (fun _ qx => ?_)
        refine j_astore_n (lv' := [(2, .ref qx), (0, .ref (gB g + 1)), (1, .ref (gB g + 374))]) dL_read_14 rfl (by decide) (by first | rfl | (simp only [List.all_cons, List.all_nil, rv_cat]; rfl)) rfl ?_
        refine j_iconst dL_read_15 ?_
        cases h
        exact j_iret dL_read_16 rfl rfl rfl (inR_lit _ rfl)
      · rw [if_neg c7] at h
        cases h
  rw [if_pos c5] at h
  rw [c5] at t6
  change CT _ _ _ _ _ _ _ _ _ (0, some (vI p2.2.1), p2.2.2) _ at t6
  refine j_callV ML_106 YX8_read IX8_read SX8_read (by decide) rfl (by decide) (by omega) (Nat.le_of_ble_eq_true rfl) rfl t6 dL_read_3 (VK_c 8 1 rfl).1 (VK_c 8 1 rfl).lt (VK_c 8 1 rfl).ka rfl (fun z3 xt4 => ?_)
  refine j_i2l z3 dL_read_6 ?_
  obtain ⟨A9, eA9, h⟩ := bnd_elim h
  have xA9 : XT p2.2.2 A9 := by rw [eA9]; exact XT_sI _ _ _ _
  refine j_last z3 dL_read_7 ?_
  refine j_hB eA9 ?_
  refine j_goto (tgt := 17) dL_read_8 (by decide) ?_
  refine j_iconst dL_read_17 ?_
  cases h
  exact j_iret dL_read_18 rfl rfl rfl (inR_lit _ rfl)
theorem ctL_read {g : JG} {l : Launch} {d N : Nat} {A : AH} {out : Int × AH} (hl : l.stackTraces = false) (hd : 8 ≤ d) (h : fL_read N A  = some out) : CTW g l yL_read cL_read 3 (some .int) d [.ref (gB g + 1), .ref (gB g + 374)] A ((0, some (vI out.1), out.2) : JO) (inR out.1) :=
  CTW_of (by decide +kernel) hl (by first | exact Nat.le_of_ble_eq_true rfl | (unfold rv; split <;> exact Nat.le_of_ble_eq_true rfl)) (by first | rfl | (unfold rv; split <;> rfl)) (j_sub (lv := [(0, .ref (gB g + 1)), (1, .ref (gB g + 374))]) [0, 1] rfl (tL_read_0 hl hd  h))
set_option maxRecDepth 100000 in
theorem tL_faultPosition_0 {g : JG} {l : Launch} {d N n0 s0 : Nat} {out : Int × AH} {A : AH} (hl : l.stackTraces = false) (hd : 8 ≤ d) (h : fL_faultPosition N A  = some out) : J g l d RL "faultPosition" cL_faultPosition 3 (some .int) n0 s0 ((0, some (vI out.1), out.2) : JO) (inR out.1) 0 [(0, .ref (gB g + 1)), (1, .ref (gB g + 374))] [] A := by
  unfold fL_faultPosition at h
  refine j_aload_n (j := 1) dL_faultPosition_0 rfl rfl ?_
  refine j_iconst dL_faultPosition_1 ?_
  refine j_aload_n (j := 0) dL_faultPosition_2 rfl rfl ?_
  obtain ⟨p2, e1, h⟩ := obind_elim h
  have t6 := ctX8_faultPosition (d := d - 1) hl (by omega)  e1 (g := g)
  by_cases c5 : p2.1 = 0
  rotate_left
  · rw [if_neg c5] at h
    by_cases c7 : p2.1 = 6
    · rw [if_pos c7] at h
      rw [c7] at t6
      refine j_callVc (k := 6) ML_110 YX8_faultPosition IX8_faultPosition SX8_faultPosition (by decide) rfl (by decide) (by omega) (Nat.le_of_ble_eq_true rfl) rfl t6 dL_faultPosition_3 (VK_c 8 1 rfl).1 (VK_c 8 1 rfl).lt (VK_c 8 1 rfl).ka rfl (by decide) [] (0, 8, 11, 42) [] rfl (fun z hz => nomatch hz) (by decide) (by decide) (by decide) (by decide) (gdI (i := 822) (by decide +kernel) rfl) (nwI (i := 830) (by decide +kernel) rfl) (fun _ qx => ?_)
      refine j_astore_n (lv' := [(2, .ref qx), (0, .ref (gB g + 1)), (1, .ref (gB g + 374))]) dL_faultPosition_11 rfl (by decide) (by first | rfl | (simp only [List.all_cons, List.all_nil, rv_cat]; rfl)) rfl ?_
      refine j_iconst dL_faultPosition_12 ?_
      cases h
      exact j_iret dL_faultPosition_13 rfl rfl rfl (inR_lit _ rfl)
    · rw [if_neg c7] at h
      cases h
  rw [if_pos c5] at h
  rw [c5] at t6
  change CT _ _ _ _ _ _ _ _ _ (0, some (vI p2.2.1), p2.2.2) _ at t6
  refine j_callV ML_110 YX8_faultPosition IX8_faultPosition SX8_faultPosition (by decide) rfl (by decide) (by omega) (Nat.le_of_ble_eq_true rfl) rfl t6 dL_faultPosition_3 (VK_c 8 1 rfl).1 (VK_c 8 1 rfl).lt (VK_c 8 1 rfl).ka rfl (fun z3 xt4 => ?_)
  refine j_i2l z3 dL_faultPosition_6 ?_
  obtain ⟨A8, eA8, h⟩ := bnd_elim h
  have xA8 : XT p2.2.2 A8 := by rw [eA8]; exact XT_sI _ _ _ _
  refine j_last z3 dL_faultPosition_7 ?_
  refine j_hB eA8 ?_
  refine j_goto (tgt := 14) dL_faultPosition_8 (by decide) ?_
  refine j_iconst dL_faultPosition_14 ?_
  cases h
  exact j_iret dL_faultPosition_15 rfl rfl rfl (inR_lit _ rfl)
theorem ctL_faultPosition {g : JG} {l : Launch} {d N : Nat} {A : AH} {out : Int × AH} (hl : l.stackTraces = false) (hd : 8 ≤ d) (h : fL_faultPosition N A  = some out) : CTW g l yL_faultPosition cL_faultPosition 3 (some .int) d [.ref (gB g + 1), .ref (gB g + 374)] A ((0, some (vI out.1), out.2) : JO) (inR out.1) :=
  CTW_of (by decide +kernel) hl (by first | exact Nat.le_of_ble_eq_true rfl | (unfold rv; split <;> exact Nat.le_of_ble_eq_true rfl)) (by first | rfl | (unfold rv; split <;> rfl)) (j_sub (lv := [(0, .ref (gB g + 1)), (1, .ref (gB g + 374))]) [0, 1] rfl (tL_faultPosition_0 hl hd  h))
set_option maxRecDepth 100000 in
theorem tL_refusal_0 {g : JG} {l : Launch} {d N n0 s0 : Nat} {out : Int × AH} {A : AH} {x1 : Int} (hl : l.stackTraces = false) (hd : 8 ≤ d) (hx1 : x1 = 0 ∨ x1 = 1) (h : fL_refusal N A x1 = some out) : J g l d RL "refusal" cL_refusal 4 (some .int) n0 s0 ((0, some (vI out.1), out.2) : JO) (inR out.1) 0 [(0, .ref (gB g + 1)), (1, vI x1), (2, .ref (gB g + 374))] [] A := by
  unfold fL_refusal at h
  refine j_aload_n (j := 2) dL_refusal_0 rfl rfl ?_
  refine j_iconst dL_refusal_1 ?_
  refine j_aload_n (j := 0) dL_refusal_2 rfl rfl ?_
  refine j_iload_n (j := 1) dL_refusal_3 rfl rfl ?_
  obtain ⟨p2, e1, h⟩ := obind_elim h
  have t6 := ctX8_refusal (d := d - 1) hl (by omega) hx1 e1 (g := g)
  by_cases c5 : p2.1 = 0
  rotate_left
  · rw [if_neg c5] at h
    by_cases c7 : p2.1 = 6
    · rw [if_pos c7] at h
      rw [c7] at t6
      refine j_callVc (k := 6) ML_113 YX8_refusal IX8_refusal SX8_refusal (by decide) rfl (by decide) (by omega) (Nat.le_of_ble_eq_true rfl) rfl t6 dL_refusal_4 (VK_c 8 1 rfl).1 (VK_c 8 1 rfl).lt (VK_c 8 1 rfl).ka rfl (by decide) [] (0, 9, 12, 42) [] rfl (fun z hz => nomatch hz) (by decide) (by decide) (by decide) (by decide) (gdI (i := 822) (by decide +kernel) rfl) (nwI (i := 830) (by decide +kernel) rfl) (fun _ qx => ?_)
      refine j_astore_n (lv' := [(3, .ref qx), (0, .ref (gB g + 1)), (1, vI x1), (2, .ref (gB g + 374))]) dL_refusal_12 rfl (by decide) (by first | rfl | (simp only [List.all_cons, List.all_nil, rv_cat]; rfl)) rfl ?_
      refine j_iconst dL_refusal_13 ?_
      cases h
      exact j_iret dL_refusal_14 rfl rfl rfl (inR_lit _ rfl)
    · rw [if_neg c7] at h
      cases h
  rw [if_pos c5] at h
  rw [c5] at t6
  change CT _ _ _ _ _ _ _ _ _ (0, some (vI p2.2.1), p2.2.2) _ at t6
  refine j_callV ML_113 YX8_refusal IX8_refusal SX8_refusal (by decide) rfl (by decide) (by omega) (Nat.le_of_ble_eq_true rfl) rfl t6 dL_refusal_4 (VK_c 8 1 rfl).1 (VK_c 8 1 rfl).lt (VK_c 8 1 rfl).ka rfl (fun z3 xt4 => ?_)
  refine j_i2l z3 dL_refusal_7 ?_
  obtain ⟨A8, eA8, h⟩ := bnd_elim h
  have xA8 : XT p2.2.2 A8 := by rw [eA8]; exact XT_sI _ _ _ _
  refine j_last z3 dL_refusal_8 ?_
  refine j_hB eA8 ?_
  refine j_goto (tgt := 15) dL_refusal_9 (by decide) ?_
  refine j_iconst dL_refusal_15 ?_
  cases h
  exact j_iret dL_refusal_16 rfl rfl rfl (inR_lit _ rfl)
theorem ctL_refusal {g : JG} {l : Launch} {d N : Nat} {A : AH} {out : Int × AH} {x1 : Int} (hl : l.stackTraces = false) (hd : 8 ≤ d) (hx1 : x1 = 0 ∨ x1 = 1) (h : fL_refusal N A x1 = some out) : CTW g l yL_refusal cL_refusal 4 (some .int) d [.ref (gB g + 1), vI x1, .ref (gB g + 374)] A ((0, some (vI out.1), out.2) : JO) (inR out.1) :=
  CTW_of (by decide +kernel) hl (by first | exact Nat.le_of_ble_eq_true rfl | (unfold rv; split <;> exact Nat.le_of_ble_eq_true rfl)) (by first | rfl | (unfold rv; split <;> rfl)) (j_sub (lv := [(0, .ref (gB g + 1)), (1, vI x1), (2, .ref (gB g + 374))]) [0, 1, 2] rfl (tL_refusal_0 hl hd hx1 h))
set_option maxRecDepth 100000 in
theorem tL_undo_0 {g : JG} {l : Launch} {d N n0 s0 : Nat} {out : Int × AH} {A : AH} (hl : l.stackTraces = false) (hd : 8 ≤ d) (h : fL_undo N A  = some out) : J g l d RL "undo" cL_undo 3 (some .int) n0 s0 ((0, some (vI out.1), out.2) : JO) (inR out.1) 0 [(0, .ref (gB g + 1)), (1, .ref (gB g + 374))] [] A := by
  unfold fL_undo at h
  refine j_aload_n (j := 1) dL_undo_0 rfl rfl ?_
  refine j_iconst dL_undo_1 ?_
  refine j_aload_n (j := 0) dL_undo_2 rfl rfl ?_
  obtain ⟨p2, e1, h⟩ := obind_elim h
  have t6 := ctX8_undo (d := d - 1) hl (by omega)  e1 (g := g)
  by_cases c5 : p2.1 = 0
  rotate_left
  · rw [if_neg c5] at h
    by_cases c7 : p2.1 = 2
    · rw [if_pos c7] at h
      rw [c7] at t6
      refine j_callVc (k := 2) ML_117 YX8_undo IX8_undo SX8_undo (by decide) rfl (by decide) (by omega) (Nat.le_of_ble_eq_true rfl) rfl t6 dL_undo_3 (VK_c 8 1 rfl).1 (VK_c 8 1 rfl).lt (VK_c 8 1 rfl).ka rfl (by decide) [] (0, 8, 11, 27) [] rfl (fun z hz => nomatch hz) (by decide) (by decide) (by decide) (by decide) (gdI (i := 729) (by decide +kernel) rfl) (nwI (i := 737) (by decide +kernel) rfl) (fun _ qx => ?_)
      refine j_astore_n (lv' := [(2, .ref qx), (0, .ref (gB g + 1)), (1, .ref (gB g + 374))]) dL_undo_11 rfl (by decide) (by first | rfl | (simp only [List.all_cons, List.all_nil, rv_cat]; rfl)) rfl ?_
      refine j_iconst dL_undo_12 ?_
      cases h
      exact j_iret dL_undo_13 rfl rfl rfl (inR_lit _ rfl)
    · rw [if_neg c7] at h
      cases h
  rw [if_pos c5] at h
  rw [c5] at t6
  change CT _ _ _ _ _ _ _ _ _ (0, some (vI p2.2.1), p2.2.2) _ at t6
  refine j_callV ML_117 YX8_undo IX8_undo SX8_undo (by decide) rfl (by decide) (by omega) (Nat.le_of_ble_eq_true rfl) rfl t6 dL_undo_3 (VK_c 8 1 rfl).1 (VK_c 8 1 rfl).lt (VK_c 8 1 rfl).ka rfl (fun z3 xt4 => ?_)
  refine j_i2l z3 dL_undo_6 ?_
  obtain ⟨A8, eA8, h⟩ := bnd_elim h
  have xA8 : XT p2.2.2 A8 := by rw [eA8]; exact XT_sI _ _ _ _
  refine j_last z3 dL_undo_7 ?_
  refine j_hB eA8 ?_
  refine j_goto (tgt := 14) dL_undo_8 (by decide) ?_
  refine j_iconst dL_undo_14 ?_
  cases h
  exact j_iret dL_undo_15 rfl rfl rfl (inR_lit _ rfl)
theorem ctL_undo {g : JG} {l : Launch} {d N : Nat} {A : AH} {out : Int × AH} (hl : l.stackTraces = false) (hd : 8 ≤ d) (h : fL_undo N A  = some out) : CTW g l yL_undo cL_undo 3 (some .int) d [.ref (gB g + 1), .ref (gB g + 374)] A ((0, some (vI out.1), out.2) : JO) (inR out.1) :=
  CTW_of (by decide +kernel) hl (by first | exact Nat.le_of_ble_eq_true rfl | (unfold rv; split <;> exact Nat.le_of_ble_eq_true rfl)) (by first | rfl | (unfold rv; split <;> rfl)) (j_sub (lv := [(0, .ref (gB g + 1)), (1, .ref (gB g + 374))]) [0, 1] rfl (tL_undo_0 hl hd  h))
set_option maxRecDepth 100000 in
theorem tL_restoreSnapshot_0 {g : JG} {l : Launch} {d N n0 s0 : Nat} {out : Int × AH} {A : AH} (hl : l.stackTraces = false) (hd : 8 ≤ d) (h : fL_restoreSnapshot N A  = some out) : J g l d RL "restoreSnapshot" cL_restoreSnapshot 3 (some .int) n0 s0 ((0, some (vI out.1), out.2) : JO) (inR out.1) 0 [(0, .ref (gB g + 1)), (1, .ref (gB g + 374))] [] A := by
  unfold fL_restoreSnapshot at h
  refine j_aload_n (j := 1) dL_restoreSnapshot_0 rfl rfl ?_
  refine j_iconst dL_restoreSnapshot_1 ?_
  refine j_aload_n (j := 0) dL_restoreSnapshot_2 rfl rfl ?_
  obtain ⟨p2, e1, h⟩ := obind_elim h
  have t6 := ctX8_restoreSnapshot (d := d - 1) hl (by omega)  e1 (g := g)
  by_cases c5 : p2.1 = 0
  rotate_left
  · rw [if_neg c5] at h
    by_cases c7 : p2.1 = 2
    · rw [if_pos c7] at h
      rw [c7] at t6
      refine j_callVc (k := 2) ML_120 YX8_restoreSnapshot IX8_restoreSnapshot SX8_restoreSnapshot (by decide) rfl (by decide) (by omega) (Nat.le_of_ble_eq_true rfl) rfl t6 dL_restoreSnapshot_3 (VK_c 8 1 rfl).1 (VK_c 8 1 rfl).lt (VK_c 8 1 rfl).ka rfl (by decide) [] (0, 8, 11, 27) [] rfl (fun z hz => nomatch hz) (by decide) (by decide) (by decide) (by decide) (gdI (i := 729) (by decide +kernel) rfl) (nwI (i := 737) (by decide +kernel) rfl) (fun _ qx => ?_)
      refine j_astore_n (lv' := [(2, .ref qx), (0, .ref (gB g + 1)), (1, .ref (gB g + 374))]) dL_restoreSnapshot_11 rfl (by decide) (by first | rfl | (simp only [List.all_cons, List.all_nil, rv_cat]; rfl)) rfl ?_
      refine j_iconst dL_restoreSnapshot_12 ?_
      cases h
      exact j_iret dL_restoreSnapshot_13 rfl rfl rfl (inR_lit _ rfl)
    · rw [if_neg c7] at h
      cases h
  rw [if_pos c5] at h
  rw [c5] at t6
  change CT _ _ _ _ _ _ _ _ _ (0, some (vI p2.2.1), p2.2.2) _ at t6
  refine j_callV ML_120 YX8_restoreSnapshot IX8_restoreSnapshot SX8_restoreSnapshot (by decide) rfl (by decide) (by omega) (Nat.le_of_ble_eq_true rfl) rfl t6 dL_restoreSnapshot_3 (VK_c 8 1 rfl).1 (VK_c 8 1 rfl).lt (VK_c 8 1 rfl).ka rfl (fun z3 xt4 => ?_)
  refine j_i2l z3 dL_restoreSnapshot_6 ?_
  obtain ⟨A8, eA8, h⟩ := bnd_elim h
  have xA8 : XT p2.2.2 A8 := by rw [eA8]; exact XT_sI _ _ _ _
  refine j_last z3 dL_restoreSnapshot_7 ?_
  refine j_hB eA8 ?_
  refine j_goto (tgt := 14) dL_restoreSnapshot_8 (by decide) ?_
  refine j_iconst dL_restoreSnapshot_14 ?_
  cases h
  exact j_iret dL_restoreSnapshot_15 rfl rfl rfl (inR_lit _ rfl)
theorem ctL_restoreSnapshot {g : JG} {l : Launch} {d N : Nat} {A : AH} {out : Int × AH} (hl : l.stackTraces = false) (hd : 8 ≤ d) (h : fL_restoreSnapshot N A  = some out) : CTW g l yL_restoreSnapshot cL_restoreSnapshot 3 (some .int) d [.ref (gB g + 1), .ref (gB g + 374)] A ((0, some (vI out.1), out.2) : JO) (inR out.1) :=
  CTW_of (by decide +kernel) hl (by first | exact Nat.le_of_ble_eq_true rfl | (unfold rv; split <;> exact Nat.le_of_ble_eq_true rfl)) (by first | rfl | (unfold rv; split <;> rfl)) (j_sub (lv := [(0, .ref (gB g + 1)), (1, .ref (gB g + 374))]) [0, 1] rfl (tL_restoreSnapshot_0 hl hd  h))
set_option maxRecDepth 100000 in
theorem tL_law_2098 {g : JG} {l : Launch} {d N n0 s0 : Nat} {out : Int × AH} {A : AH} {x5 : Int} {x6 : Int} {xs1 : Int} {k28 : AH → Int → Option (Int × AH)} (hl : l.stackTraces = false) (hd : 12 ≤ d) (hL : inR (gS g 7 : Int)) (hx5 : inR x5) (hx6 : inR x6) (hxs1 : inR xs1) (hk28 : ∀ (A : AH) (x5 : Int), inR x5 → k28 A x5 = some out → J g l d RL "law" cL_law 9 (some .boolean) n0 s0 ((0, some (vI out.1), out.2) : JO) ((out.1 = 0 ∨ out.1 = 1)) 28 [(0, .ref (gS g 6)), (1, .ref (gB g + 1)), (2, .ref (gB g + 349)), (3, .ref (gB g + 374)), (4, .ref (gB g + 375)), (5, vI x5)] [] A) (h : fL_law_2098 N (gS g 7 : Int) (gXi g) k28 A x5 x6 xs1 = some out) : J g l d RL "law" cL_law 9 (some .boolean) n0 s0 ((0, some (vI out.1), out.2) : JO) ((out.1 = 0 ∨ out.1 = 1)) 2098 [(0, .ref (gS g 6)), (1, .ref (gB g + 1)), (2, .ref (gB g + 349)), (3, .ref (gB g + 374)), (4, .ref (gB g + 375)), (5, vI x5), (6, vI x6)] [vI xs1, .ref (gB g + 349)] A := by
  unfold fL_law_2098 at h
  obtain ⟨c1, h⟩ := chk_elim h
  obtain ⟨p3, e2, h⟩ := obind_elim h
  refine j_callV ML_231 YX9_refusal IX9_refusal SX9_refusal (by decide) rfl (by decide) (by omega) (Nat.le_of_ble_eq_true rfl) rfl (ctX9_refusal (d := d - 1) hl (by omega) c1 e2) dL_law_2098 (VK_c 9 349 rfl).1 (VK_c 9 349 rfl).lt (VK_c 9 349 rfl).ka rfl (fun z4 xt5 => ?_)
  refine j_istore (lv' := [(7, vI p3.1), (0, .ref (gS g 6)), (1, .ref (gB g + 1)), (2, .ref (gB g + 349)), (3, .ref (gB g + 374)), (4, .ref (gB g + 375)), (5, vI x5), (6, vI x6)]) dL_law_2101 (by decide) (by first | rfl | (simp only [List.all_cons, List.all_nil, rv_cat]; rfl)) rfl ?_
  refine j_aload_n (j := 3) dL_law_2103 rfl rfl ?_
  obtain ⟨z7, e6, h⟩ := obind_elim h
  refine j_callV ML_133 YX9_thrown IX9_thrown SX9_thrown (by decide) rfl (by decide) (by omega) (Nat.le_of_ble_eq_true rfl) rfl (ctX9_thrown (d := d - 1) hl (by omega)  e6) dL_law_2104 (VK_c 9 349 rfl).1 (VK_c 9 349 rfl).lt (VK_c 9 349 rfl).ka rfl (fun z8 _ => ?_)
  refine j_iload (j := 7) dL_law_2107 rfl ?_
  by_cases c10 : z7 = x6
  · rw [if_pos c10] at h
    refine j_icmp_eq_t z8 hx6 dL_law_2109 (tgt := 2114) (by decide) c10 ?_
    refine j_iload (j := 7) dL_law_2114 rfl ?_
    by_cases c11 : x6 = 0
    · rw [if_pos c11] at h
      refine j_if_ne_f hx6 dL_law_2116 (tgt := 2131) (by decide) (fun q => q c11) ?_
      refine j_aload_n (j := 4) dL_law_2119 rfl rfl ?_
      refine j_iconst dL_law_2120 ?_
      refine j_lald dL_law_2121 (fun r13 => ?_)
      refine j_iload (j := 0) dL_law_2122 rfl ?_
      refine j_i2l z4 dL_law_2124 ?_
      refine j_lcmp r13 z4 dL_law_2125 ?_
      by_cases c14 : (icmp (gI p3.2 374 0) p3.1) = 0
      · rw [if_pos c14] at h
        refine j_if_eq_t (icmp_inR _ _) dL_law_2126 (tgt := 2131) (by decide) c14 ?_
        refine j_goto (tgt := 2235) dL_law_2131 (by decide) ?_
        obtain ⟨u15, eu15, h⟩ := bnd_elim h
        have hu15 : inR u15 := by rw [eu15]; exact wrap_inR _
        refine j_iincN (k := 6) (lv' := [(5, vI u15), (7, vI p3.1), (0, .ref (gS g 6)), (1, .ref (gB g + 1)), (2, .ref (gB g + 349)), (3, .ref (gB g + 374)), (4, .ref (gB g + 375)), (6, vI x6)]) eu15 dL_law_2235 rfl (by decide) (by first | rfl | (simp only [List.all_cons, List.all_nil, rv_cat]; rfl)) rfl ?_
        refine j_goto (tgt := 28) dL_law_2238 (by decide) ?_
        exact j_sub [2, 3, 4, 5, 6, 0] rfl (hk28 p3.2 u15 hu15 h)
      · rw [if_neg c14] at h
        refine j_if_eq_f (icmp_inR _ _) dL_law_2126 (tgt := 2131) (by decide) c14 ?_
        refine j_iconst dL_law_2129 ?_
        cases h
        exact j_iret dL_law_2130 rfl ((nar_bool (Or.inl rfl)).1) rfl (Or.inl rfl)
    · rw [if_neg c11] at h
      refine j_if_ne_t hx6 dL_law_2116 (tgt := 2131) (by decide) c11 ?_
      refine j_goto (tgt := 2235) dL_law_2131 (by decide) ?_
      obtain ⟨u12, eu12, h⟩ := bnd_elim h
      have hu12 : inR u12 := by rw [eu12]; exact wrap_inR _
      refine j_iincN (k := 6) (lv' := [(5, vI u12), (7, vI p3.1), (0, .ref (gS g 6)), (1, .ref (gB g + 1)), (2, .ref (gB g + 349)), (3, .ref (gB g + 374)), (4, .ref (gB g + 375)), (6, vI x6)]) eu12 dL_law_2235 rfl (by decide) (by first | rfl | (simp only [List.all_cons, List.all_nil, rv_cat]; rfl)) rfl ?_
      refine j_goto (tgt := 28) dL_law_2238 (by decide) ?_
      exact j_sub [2, 3, 4, 5, 6, 0] rfl (hk28 p3.2 u12 hu12 h)
  · rw [if_neg c10] at h
    refine j_icmp_eq_f z8 hx6 dL_law_2109 (tgt := 2114) (by decide) c10 ?_
    refine j_iconst dL_law_2112 ?_
    cases h
    exact j_iret dL_law_2113 rfl ((nar_bool (Or.inl rfl)).1) rfl (Or.inl rfl)
set_option maxRecDepth 100000 in
theorem tL_law_2077 {g : JG} {l : Launch} {d N n0 s0 : Nat} {out : Int × AH} {A : AH} {x5 : Int} {xs1 : Int} {k28 : AH → Int → Option (Int × AH)} (hl : l.stackTraces = false) (hd : 12 ≤ d) (hL : inR (gS g 7 : Int)) (hx5 : inR x5) (hxs1 : inR xs1) (hk28 : ∀ (A : AH) (x5 : Int), inR x5 → k28 A x5 = some out → J g l d RL "law" cL_law 9 (some .boolean) n0 s0 ((0, some (vI out.1), out.2) : JO) ((out.1 = 0 ∨ out.1 = 1)) 28 [(0, .ref (gS g 6)), (1, .ref (gB g + 1)), (2, .ref (gB g + 349)), (3, .ref (gB g + 374)), (4, .ref (gB g + 375)), (5, vI x5)] [] A) (h : fL_law_2077 N (gS g 7 : Int) (gXi g) k28 A x5 xs1 = some out) : J g l d RL "law" cL_law 9 (some .boolean) n0 s0 ((0, some (vI out.1), out.2) : JO) ((out.1 = 0 ∨ out.1 = 1)) 2077 [(0, .ref (gS g 6)), (1, .ref (gB g + 1)), (2, .ref (gB g + 349)), (3, .ref (gB g + 374)), (4, .ref (gB g + 375)), (5, vI x5)] [vI xs1, .ref (gB g + 1)] A := by
  unfold fL_law_2077 at h
  refine j_aload_n (j := 3) dL_law_2077 rfl rfl ?_
  obtain ⟨c1, h⟩ := chk_elim h
  obtain ⟨p3, e2, h⟩ := obind_elim h
  refine j_callSW (n := 3) ML_228 YL_refusali YL_refusalc (by decide) (by decide +kernel) IL_refusal (by decide) (by omega) (Nat.le_of_ble_eq_true rfl) rfl (ctL_refusal (d := d - 1) hl (by omega) c1 e2) dL_law_2078 rfl (fun z4 xt5 => ?_)
  refine j_istore (lv' := [(6, vI p3.1), (0, .ref (gS g 6)), (1, .ref (gB g + 1)), (2, .ref (gB g + 349)), (3, .ref (gB g + 374)), (4, .ref (gB g + 375)), (5, vI x5)]) dL_law_2081 (by decide) (by first | rfl | (simp only [List.all_cons, List.all_nil, rv_cat]; rfl)) rfl ?_
  refine j_aload_n (j := 3) dL_law_2083 rfl rfl ?_
  refine j_aload_n (j := 1) dL_law_2084 rfl rfl ?_
  refine j_iload (j := 6) dL_law_2085 rfl ?_
  refine j_iconst dL_law_2087 ?_
  refine j_iadd dL_law_2088 ?_
  obtain ⟨c6, h⟩ := chk_elim h
  refine j_scld (wrap_inR _) dL_law_2089 c6 ?_
  by_cases c7 : (gXi g (wrap (x5 + 1)).toNat) = 0
  · rw [if_pos c7] at h
    refine j_if_eq_t (i32_inR _) dL_law_2090 (tgt := 2097) (by decide) c7 ?_
    refine j_iconst dL_law_2097 ?_
    exact j_sub [1, 2, 3, 4, 5, 6, 0] rfl (tL_law_2098 hl (by omega) hL hx5 z4 (inR_lit _ rfl) hk28 h)
  · rw [if_neg c7] at h
    refine j_if_eq_f (i32_inR _) dL_law_2090 (tgt := 2097) (by decide) c7 ?_
    refine j_iconst dL_law_2093 ?_
    refine j_goto (tgt := 2098) dL_law_2094 (by decide) ?_
    exact j_sub [1, 2, 3, 4, 5, 6, 0] rfl (tL_law_2098 hl (by omega) hL hx5 z4 (inR_lit _ rfl) hk28 h)
set_option maxRecDepth 100000 in
theorem tL_law_562 {g : JG} {l : Launch} {d N n0 s0 : Nat} {out : Int × AH} {A : AH} {x5 : Int} {x6 : Int} {xs1 : Int} {xs2 : Int} {k28 : AH → Int → Option (Int × AH)} (hl : l.stackTraces = false) (hd : 12 ≤ d) (hL : inR (gS g 7 : Int)) (hx5 : inR x5) (hx6 : inR x6) (hxs1 : inR xs1) (hxs2 : inR xs2) (hk28 : ∀ (A : AH) (x5 : Int), inR x5 → k28 A x5 = some out → J g l d RL "law" cL_law 9 (some .boolean) n0 s0 ((0, some (vI out.1), out.2) : JO) ((out.1 = 0 ∨ out.1 = 1)) 28 [(0, .ref (gS g 6)), (1, .ref (gB g + 1)), (2, .ref (gB g + 349)), (3, .ref (gB g + 374)), (4, .ref (gB g + 375)), (5, vI x5)] [] A) (h : fL_law_562 N (gS g 7 : Int) (gXi g) k28 A x5 x6 xs1 xs2 = some out) : J g l d RL "law" cL_law 9 (some .boolean) n0 s0 ((0, some (vI out.1), out.2) : JO) ((out.1 = 0 ∨ out.1 = 1)) 562 [(0, .ref (gS g 6)), (1, .ref (gB g + 1)), (2, .ref (gB g + 349)), (3, .ref (gB g + 374)), (4, .ref (gB g + 375)), (5, vI x5), (6, vI x6)] [vI xs2, vI xs1, .ref (gB g + 349)] A := by
  unfold fL_law_562 at h
  refine j_aload_n (j := 0) dL_law_562 rfl rfl ?_
  refine j_iload (j := 5) dL_law_563 rfl ?_
  refine j_iconst dL_law_565 ?_
  refine j_iadd dL_law_566 ?_
  obtain ⟨c1, h⟩ := chk_elim h
  refine j_scld (wrap_inR _) dL_law_567 c1 ?_
  refine j_aload_n (j := 0) dL_law_568 rfl rfl ?_
  refine j_iload (j := 5) dL_law_569 rfl ?_
  refine j_iconst dL_law_571 ?_
  refine j_iadd dL_law_572 ?_
  obtain ⟨c2, h⟩ := chk_elim h
  refine j_scld (wrap_inR _) dL_law_573 c2 ?_
  refine j_aload_n (j := 0) dL_law_574 rfl rfl ?_
  refine j_iload (j := 5) dL_law_575 rfl ?_
  refine j_iconst dL_law_577 ?_
  refine j_iadd dL_law_578 ?_
  obtain ⟨c3, h⟩ := chk_elim h
  refine j_scld (wrap_inR _) dL_law_579 c3 ?_
  obtain ⟨c4, h⟩ := chk_elim h
  obtain ⟨p6, e5, h⟩ := obind_elim h
  refine j_callV ML_152 YX9_order IX9_order SX9_order (by decide) rfl (by decide) (by omega) (Nat.le_of_ble_eq_true rfl) rfl (ctX9_order (d := d - 1) hl (by omega) hxs1 c4 (i32_inR _) (i32_inR _) (i32_inR _) e5) dL_law_580 (VK_c 9 349 rfl).1 (VK_c 9 349 rfl).lt (VK_c 9 349 rfl).ka rfl (fun z7 xt8 => ?_)
  refine j_istore (lv' := [(7, vI p6.1), (0, .ref (gS g 6)), (1, .ref (gB g + 1)), (2, .ref (gB g + 349)), (3, .ref (gB g + 374)), (4, .ref (gB g + 375)), (5, vI x5), (6, vI x6)]) dL_law_583 (by decide) (by first | rfl | (simp only [List.all_cons, List.all_nil, rv_cat]; rfl)) rfl ?_
  refine j_aload_n (j := 3) dL_law_585 rfl rfl ?_
  obtain ⟨z10, e9, h⟩ := obind_elim h
  refine j_callV ML_133 YX9_thrown IX9_thrown SX9_thrown (by decide) rfl (by decide) (by omega) (Nat.le_of_ble_eq_true rfl) rfl (ctX9_thrown (d := d - 1) hl (by omega)  e9) dL_law_586 (VK_c 9 349 rfl).1 (VK_c 9 349 rfl).lt (VK_c 9 349 rfl).ka rfl (fun z11 _ => ?_)
  refine j_iload (j := 7) dL_law_589 rfl ?_
  by_cases c13 : z10 = x6
  · rw [if_pos c13] at h
    refine j_icmp_eq_t z11 hx6 dL_law_591 (tgt := 596) (by decide) c13 ?_
    refine j_iload (j := 7) dL_law_596 rfl ?_
    by_cases c14 : x6 = 0
    · rw [if_pos c14] at h
      refine j_if_ne_f hx6 dL_law_598 (tgt := 613) (by decide) (fun q => q c14) ?_
      refine j_aload_n (j := 4) dL_law_601 rfl rfl ?_
      refine j_iconst dL_law_602 ?_
      refine j_lald dL_law_603 (fun r16 => ?_)
      refine j_iload (j := 0) dL_law_604 rfl ?_
      refine j_i2l z7 dL_law_606 ?_
      refine j_lcmp r16 z7 dL_law_607 ?_
      by_cases c17 : (icmp (gI p6.2 374 0) p6.1) = 0
      · rw [if_pos c17] at h
        refine j_if_eq_t (icmp_inR _ _) dL_law_608 (tgt := 613) (by decide) c17 ?_
        refine j_goto (tgt := 2235) dL_law_613 (by decide) ?_
        obtain ⟨u18, eu18, h⟩ := bnd_elim h
        have hu18 : inR u18 := by rw [eu18]; exact wrap_inR _
        refine j_iincN (k := 6) (lv' := [(5, vI u18), (7, vI p6.1), (0, .ref (gS g 6)), (1, .ref (gB g + 1)), (2, .ref (gB g + 349)), (3, .ref (gB g + 374)), (4, .ref (gB g + 375)), (6, vI x6)]) eu18 dL_law_2235 rfl (by decide) (by first | rfl | (simp only [List.all_cons, List.all_nil, rv_cat]; rfl)) rfl ?_
        refine j_goto (tgt := 28) dL_law_2238 (by decide) ?_
        exact j_sub [2, 3, 4, 5, 6, 0] rfl (hk28 p6.2 u18 hu18 h)
      · rw [if_neg c17] at h
        refine j_if_eq_f (icmp_inR _ _) dL_law_608 (tgt := 613) (by decide) c17 ?_
        refine j_iconst dL_law_611 ?_
        cases h
        exact j_iret dL_law_612 rfl ((nar_bool (Or.inl rfl)).1) rfl (Or.inl rfl)
    · rw [if_neg c14] at h
      refine j_if_ne_t hx6 dL_law_598 (tgt := 613) (by decide) c14 ?_
      refine j_goto (tgt := 2235) dL_law_613 (by decide) ?_
      obtain ⟨u15, eu15, h⟩ := bnd_elim h
      have hu15 : inR u15 := by rw [eu15]; exact wrap_inR _
      refine j_iincN (k := 6) (lv' := [(5, vI u15), (7, vI p6.1), (0, .ref (gS g 6)), (1, .ref (gB g + 1)), (2, .ref (gB g + 349)), (3, .ref (gB g + 374)), (4, .ref (gB g + 375)), (6, vI x6)]) eu15 dL_law_2235 rfl (by decide) (by first | rfl | (simp only [List.all_cons, List.all_nil, rv_cat]; rfl)) rfl ?_
      refine j_goto (tgt := 28) dL_law_2238 (by decide) ?_
      exact j_sub [2, 3, 4, 5, 6, 0] rfl (hk28 p6.2 u15 hu15 h)
  · rw [if_neg c13] at h
    refine j_icmp_eq_f z11 hx6 dL_law_591 (tgt := 596) (by decide) c13 ?_
    refine j_iconst dL_law_594 ?_
    cases h
    exact j_iret dL_law_595 rfl ((nar_bool (Or.inl rfl)).1) rfl (Or.inl rfl)
set_option maxRecDepth 100000 in
theorem tL_law_517 {g : JG} {l : Launch} {d N n0 s0 : Nat} {out : Int × AH} {A : AH} {x5 : Int} {xs1 : Int} {xs2 : Int} {k28 : AH → Int → Option (Int × AH)} (hl : l.stackTraces = false) (hd : 12 ≤ d) (hL : inR (gS g 7 : Int)) (hx5 : inR x5) (hxs1 : inR xs1) (hxs2 : inR xs2) (hk28 : ∀ (A : AH) (x5 : Int), inR x5 → k28 A x5 = some out → J g l d RL "law" cL_law 9 (some .boolean) n0 s0 ((0, some (vI out.1), out.2) : JO) ((out.1 = 0 ∨ out.1 = 1)) 28 [(0, .ref (gS g 6)), (1, .ref (gB g + 1)), (2, .ref (gB g + 349)), (3, .ref (gB g + 374)), (4, .ref (gB g + 375)), (5, vI x5)] [] A) (h : fL_law_517 N (gS g 7 : Int) (gXi g) k28 A x5 xs1 xs2 = some out) : J g l d RL "law" cL_law 9 (some .boolean) n0 s0 ((0, some (vI out.1), out.2) : JO) ((out.1 = 0 ∨ out.1 = 1)) 517 [(0, .ref (gS g 6)), (1, .ref (gB g + 1)), (2, .ref (gB g + 349)), (3, .ref (gB g + 374)), (4, .ref (gB g + 375)), (5, vI x5)] [vI xs2, vI xs1, .ref (gB g + 1)] A := by
  unfold fL_law_517 at h
  refine j_aload_n (j := 0) dL_law_517 rfl rfl ?_
  refine j_iload (j := 5) dL_law_518 rfl ?_
  refine j_iconst dL_law_520 ?_
  refine j_iadd dL_law_521 ?_
  obtain ⟨c1, h⟩ := chk_elim h
  refine j_scld (wrap_inR _) dL_law_522 c1 ?_
  refine j_aload_n (j := 0) dL_law_523 rfl rfl ?_
  refine j_iload (j := 5) dL_law_524 rfl ?_
  refine j_iconst dL_law_526 ?_
  refine j_iadd dL_law_527 ?_
  obtain ⟨c2, h⟩ := chk_elim h
  refine j_scld (wrap_inR _) dL_law_528 c2 ?_
  refine j_aload_n (j := 0) dL_law_529 rfl rfl ?_
  refine j_iload (j := 5) dL_law_530 rfl ?_
  refine j_iconst dL_law_532 ?_
  refine j_iadd dL_law_533 ?_
  obtain ⟨c3, h⟩ := chk_elim h
  refine j_scld (wrap_inR _) dL_law_534 c3 ?_
  refine j_aload_n (j := 3) dL_law_535 rfl rfl ?_
  obtain ⟨c4, h⟩ := chk_elim h
  obtain ⟨p6, e5, h⟩ := obind_elim h
  refine j_callSW (n := 7) ML_149 YL_orderi YL_orderc (by decide) (by decide +kernel) IL_order (by decide) (by omega) (Nat.le_of_ble_eq_true rfl) rfl (ctL_order (d := d - 1) hl (by omega) hxs1 c4 (i32_inR _) (i32_inR _) (i32_inR _) e5) dL_law_536 rfl (fun z7 xt8 => ?_)
  refine j_istore (lv' := [(6, vI p6.1), (0, .ref (gS g 6)), (1, .ref (gB g + 1)), (2, .ref (gB g + 349)), (3, .ref (gB g + 374)), (4, .ref (gB g + 375)), (5, vI x5)]) dL_law_539 (by decide) (by first | rfl | (simp only [List.all_cons, List.all_nil, rv_cat]; rfl)) rfl ?_
  refine j_aload_n (j := 3) dL_law_541 rfl rfl ?_
  refine j_aload_n (j := 1) dL_law_542 rfl rfl ?_
  refine j_iload (j := 6) dL_law_543 rfl ?_
  refine j_iconst dL_law_545 ?_
  refine j_iadd dL_law_546 ?_
  obtain ⟨c9, h⟩ := chk_elim h
  refine j_scld (wrap_inR _) dL_law_547 c9 ?_
  refine j_aload_n (j := 1) dL_law_548 rfl rfl ?_
  refine j_iload (j := 6) dL_law_549 rfl ?_
  refine j_iconst dL_law_551 ?_
  refine j_iadd dL_law_552 ?_
  obtain ⟨c10, h⟩ := chk_elim h
  refine j_scld (wrap_inR _) dL_law_553 c10 ?_
  by_cases c11 : (gXi g (wrap (x5 + 2)).toNat) = 0
  · rw [if_pos c11] at h
    refine j_if_eq_t (i32_inR _) dL_law_554 (tgt := 561) (by decide) c11 ?_
    refine j_iconst dL_law_561 ?_
    exact j_sub [1, 2, 3, 4, 5, 6, 0] rfl (tL_law_562 hl (by omega) hL hx5 z7 (i32_inR _) (inR_lit _ rfl) hk28 h)
  · rw [if_neg c11] at h
    refine j_if_eq_f (i32_inR _) dL_law_554 (tgt := 561) (by decide) c11 ?_
    refine j_iconst dL_law_557 ?_
    refine j_goto (tgt := 562) dL_law_558 (by decide) ?_
    exact j_sub [1, 2, 3, 4, 5, 6, 0] rfl (tL_law_562 hl (by omega) hL hx5 z7 (i32_inR _) (inR_lit _ rfl) hk28 h)
set_option maxRecDepth 100000 in
theorem tL_law_28 {g : JG} {l : Launch} {d N n0 s0 : Nat} {out : Int × AH} (hl : l.stackTraces = false) (hd : 12 ≤ d) (hL : inR (gS g 7 : Int)) : ∀ (n : Nat) (A : AH) (x5 : Int), inR x5 → fL_law_28 N (gS g 7 : Int) (gXi g) n A x5 = some out → J g l d RL "law" cL_law 9 (some .boolean) n0 s0 ((0, some (vI out.1), out.2) : JO) ((out.1 = 0 ∨ out.1 = 1)) 28 [(0, .ref (gS g 6)), (1, .ref (gB g + 1)), (2, .ref (gB g + 349)), (3, .ref (gB g + 374)), (4, .ref (gB g + 375)), (5, vI x5)] [] A := by
  intro n
  induction n with
  | zero =>
    intro A x5 hx5 h
    rw [fL_law_28] at h
    cases h
  | succ n ih =>
    intro A x5 hx5 h
    rw [fL_law_28] at h
    refine j_iload (j := 5) dL_law_28 rfl ?_
    refine j_aload_n (j := 0) dL_law_30 rfl rfl ?_
    refine j_sclen hL dL_law_31 ?_
    refine j_bipush dL_law_32 rfl ?_
    refine j_isub dL_law_34 ?_
    by_cases c1 : (wrap ((gS g 7 : Int) - 6)) < x5
    · rw [if_pos c1] at h
      refine j_icmp_gt_t hx5 (wrap_inR _) dL_law_35 (tgt := 2241) (by decide) c1 ?_
      refine j_iconst dL_law_2241 ?_
      cases h
      exact j_iret dL_law_2242 rfl ((nar_bool (Or.inr rfl)).1) rfl (Or.inr rfl)
    · rw [if_neg c1] at h
      refine j_icmp_gt_f hx5 (wrap_inR _) dL_law_35 (tgt := 2241) (by decide) c1 ?_
      refine j_aload_n (j := 0) dL_law_38 rfl rfl ?_
      refine j_iload (j := 5) dL_law_39 rfl ?_
      obtain ⟨c2, h⟩ := chk_elim h
      refine j_scld hx5 dL_law_41 c2 ?_
      refine j_bipush dL_law_42 rfl ?_
      refine j_iand dL_law_44 ?_
      by_cases c3 : (iAnd (gXi g x5.toNat) 63) = 0
      · rw [if_pos c3] at h
        refine j_table_in (tgt := 192) (iAnd_inR _ _) dL_law_45 (by omega) (by omega) (by rw [c3]; rfl) (by decide) ?_
        refine j_aload_n (j := 1) dL_law_192 rfl rfl ?_
        refine j_aload_n (j := 0) dL_law_193 rfl rfl ?_
        refine j_iload (j := 5) dL_law_194 rfl ?_
        refine j_iconst dL_law_196 ?_
        refine j_iadd dL_law_197 ?_
        obtain ⟨c4, h⟩ := chk_elim h
        refine j_scld (wrap_inR _) dL_law_198 c4 ?_
        refine j_aload_n (j := 0) dL_law_199 rfl rfl ?_
        refine j_iload (j := 5) dL_law_200 rfl ?_
        refine j_iconst dL_law_202 ?_
        refine j_iadd dL_law_203 ?_
        obtain ⟨c5, h⟩ := chk_elim h
        refine j_scld (wrap_inR _) dL_law_204 c5 ?_
        refine j_aload_n (j := 3) dL_law_205 rfl rfl ?_
        obtain ⟨p7, e6, h⟩ := obind_elim h
        refine j_callSW (n := 4) ML_127 YL_rulei YL_rulec (by decide) (by decide +kernel) IL_rule (by decide) (by omega) (Nat.le_of_ble_eq_true rfl) rfl (ctL_rule (d := d - 1) hl (by omega) (i32_inR _) (i32_inR _) e6) dL_law_206 rfl (fun z8 xt9 => ?_)
        refine j_istore (lv' := [(6, vI p7.1), (0, .ref (gS g 6)), (1, .ref (gB g + 1)), (2, .ref (gB g + 349)), (3, .ref (gB g + 374)), (4, .ref (gB g + 375)), (5, vI x5)]) dL_law_209 (by decide) (by first | rfl | (simp only [List.all_cons, List.all_nil, rv_cat]; rfl)) rfl ?_
        refine j_aload_n (j := 3) dL_law_211 rfl rfl ?_
        refine j_aload_n (j := 1) dL_law_212 rfl rfl ?_
        refine j_iload (j := 6) dL_law_213 rfl ?_
        refine j_iconst dL_law_215 ?_
        refine j_iadd dL_law_216 ?_
        obtain ⟨c10, h⟩ := chk_elim h
        refine j_scld (wrap_inR _) dL_law_217 c10 ?_
        refine j_aload_n (j := 1) dL_law_218 rfl rfl ?_
        refine j_iload (j := 6) dL_law_219 rfl ?_
        refine j_iconst dL_law_221 ?_
        refine j_iadd dL_law_222 ?_
        obtain ⟨c11, h⟩ := chk_elim h
        refine j_scld (wrap_inR _) dL_law_223 c11 ?_
        obtain ⟨p13, e12, h⟩ := obind_elim h
        refine j_callV ML_132 YX9_rule IX9_rule SX9_rule (by decide) rfl (by decide) (by omega) (Nat.le_of_ble_eq_true rfl) rfl (ctX9_rule (d := d - 1) hl (by omega) (i32_inR _) (i32_inR _) e12) dL_law_224 (VK_c 9 349 rfl).1 (VK_c 9 349 rfl).lt (VK_c 9 349 rfl).ka rfl (fun z14 xt15 => ?_)
        refine j_istore (lv' := [(7, vI p13.1), (6, vI p7.1), (0, .ref (gS g 6)), (1, .ref (gB g + 1)), (2, .ref (gB g + 349)), (3, .ref (gB g + 374)), (4, .ref (gB g + 375)), (5, vI x5)]) dL_law_227 (by decide) (by first | rfl | (simp only [List.all_cons, List.all_nil, rv_cat]; rfl)) rfl ?_
        refine j_aload_n (j := 4) dL_law_229 rfl rfl ?_
        obtain ⟨z17, e16, h⟩ := obind_elim h
        refine j_callV ML_133 YX9_thrown IX9_thrown SX9_thrown (by decide) rfl (by decide) (by omega) (Nat.le_of_ble_eq_true rfl) rfl (ctX9_thrown (d := d - 1) hl (by omega)  e16) dL_law_230 (VK_c 9 349 rfl).1 (VK_c 9 349 rfl).lt (VK_c 9 349 rfl).ka rfl (fun z18 _ => ?_)
        refine j_iload (j := 1) dL_law_233 rfl ?_
        by_cases c20 : z17 = p7.1
        · rw [if_pos c20] at h
          refine j_icmp_eq_t z18 z8 dL_law_235 (tgt := 240) (by decide) c20 ?_
          refine j_iload (j := 1) dL_law_240 rfl ?_
          by_cases c21 : p7.1 = 0
          · rw [if_pos c21] at h
            refine j_if_ne_f z8 dL_law_242 (tgt := 257) (by decide) (fun q => q c21) ?_
            refine j_aload_n (j := 5) dL_law_245 rfl rfl ?_
            refine j_iconst dL_law_246 ?_
            refine j_lald dL_law_247 (fun r23 => ?_)
            refine j_iload (j := 0) dL_law_248 rfl ?_
            refine j_i2l z14 dL_law_250 ?_
            refine j_lcmp r23 z14 dL_law_251 ?_
            by_cases c24 : (icmp (gI p13.2 374 0) p13.1) = 0
            · rw [if_pos c24] at h
              refine j_if_eq_t (icmp_inR _ _) dL_law_252 (tgt := 257) (by decide) c24 ?_
              refine j_goto (tgt := 2235) dL_law_257 (by decide) ?_
              obtain ⟨u25, eu25, h⟩ := bnd_elim h
              have hu25 : inR u25 := by rw [eu25]; exact wrap_inR _
              refine j_iincN (k := 7) (lv' := [(5, vI u25), (7, vI p13.1), (6, vI p7.1), (0, .ref (gS g 6)), (1, .ref (gB g + 1)), (2, .ref (gB g + 349)), (3, .ref (gB g + 374)), (4, .ref (gB g + 375))]) eu25 dL_law_2235 rfl (by decide) (by first | rfl | (simp only [List.all_cons, List.all_nil, rv_cat]; rfl)) rfl ?_
              refine j_goto (tgt := 28) dL_law_2238 (by decide) ?_
              exact j_sub [3, 4, 5, 6, 7, 0] rfl (ih p13.2 u25 hu25 h)
            · rw [if_neg c24] at h
              refine j_if_eq_f (icmp_inR _ _) dL_law_252 (tgt := 257) (by decide) c24 ?_
              refine j_iconst dL_law_255 ?_
              cases h
              exact j_iret dL_law_256 rfl ((nar_bool (Or.inl rfl)).1) rfl (Or.inl rfl)
          · rw [if_neg c21] at h
            refine j_if_ne_t z8 dL_law_242 (tgt := 257) (by decide) c21 ?_
            refine j_goto (tgt := 2235) dL_law_257 (by decide) ?_
            obtain ⟨u22, eu22, h⟩ := bnd_elim h
            have hu22 : inR u22 := by rw [eu22]; exact wrap_inR _
            refine j_iincN (k := 7) (lv' := [(5, vI u22), (7, vI p13.1), (6, vI p7.1), (0, .ref (gS g 6)), (1, .ref (gB g + 1)), (2, .ref (gB g + 349)), (3, .ref (gB g + 374)), (4, .ref (gB g + 375))]) eu22 dL_law_2235 rfl (by decide) (by first | rfl | (simp only [List.all_cons, List.all_nil, rv_cat]; rfl)) rfl ?_
            refine j_goto (tgt := 28) dL_law_2238 (by decide) ?_
            exact j_sub [3, 4, 5, 6, 7, 0] rfl (ih p13.2 u22 hu22 h)
        · rw [if_neg c20] at h
          refine j_icmp_eq_f z18 z8 dL_law_235 (tgt := 240) (by decide) c20 ?_
          refine j_iconst dL_law_238 ?_
          cases h
          exact j_iret dL_law_239 rfl ((nar_bool (Or.inl rfl)).1) rfl (Or.inl rfl)
      · rw [if_neg c3] at h
        by_cases c26 : (iAnd (gXi g x5.toNat) 63) = 1
        · rw [if_pos c26] at h
          refine j_table_in (tgt := 260) (iAnd_inR _ _) dL_law_45 (by omega) (by omega) (by rw [c26]; rfl) (by decide) ?_
          refine j_aload_n (j := 1) dL_law_260 rfl rfl ?_
          refine j_aload_n (j := 0) dL_law_261 rfl rfl ?_
          refine j_iload (j := 5) dL_law_262 rfl ?_
          refine j_iconst dL_law_264 ?_
          refine j_iadd dL_law_265 ?_
          obtain ⟨c27, h⟩ := chk_elim h
          refine j_scld (wrap_inR _) dL_law_266 c27 ?_
          refine j_aload_n (j := 0) dL_law_267 rfl rfl ?_
          refine j_iload (j := 5) dL_law_268 rfl ?_
          refine j_iconst dL_law_270 ?_
          refine j_iadd dL_law_271 ?_
          obtain ⟨c28, h⟩ := chk_elim h
          refine j_scld (wrap_inR _) dL_law_272 c28 ?_
          refine j_aload_n (j := 3) dL_law_273 rfl rfl ?_
          obtain ⟨p30, e29, h⟩ := obind_elim h
          refine j_callSW (n := 4) ML_136 YL_tidei YL_tidec (by decide) (by decide +kernel) IL_tide (by decide) (by omega) (Nat.le_of_ble_eq_true rfl) rfl (ctL_tide (d := d - 1) hl (by omega) (i32_inR _) (i32_inR _) e29) dL_law_274 rfl (fun z31 xt32 => ?_)
          refine j_istore (lv' := [(6, vI p30.1), (0, .ref (gS g 6)), (1, .ref (gB g + 1)), (2, .ref (gB g + 349)), (3, .ref (gB g + 374)), (4, .ref (gB g + 375)), (5, vI x5)]) dL_law_277 (by decide) (by first | rfl | (simp only [List.all_cons, List.all_nil, rv_cat]; rfl)) rfl ?_
          refine j_aload_n (j := 3) dL_law_279 rfl rfl ?_
          refine j_aload_n (j := 1) dL_law_280 rfl rfl ?_
          refine j_iload (j := 6) dL_law_281 rfl ?_
          refine j_iconst dL_law_283 ?_
          refine j_iadd dL_law_284 ?_
          obtain ⟨c33, h⟩ := chk_elim h
          refine j_scld (wrap_inR _) dL_law_285 c33 ?_
          refine j_aload_n (j := 1) dL_law_286 rfl rfl ?_
          refine j_iload (j := 6) dL_law_287 rfl ?_
          refine j_iconst dL_law_289 ?_
          refine j_iadd dL_law_290 ?_
          obtain ⟨c34, h⟩ := chk_elim h
          refine j_scld (wrap_inR _) dL_law_291 c34 ?_
          obtain ⟨p36, e35, h⟩ := obind_elim h
          refine j_callV ML_138 YX9_tide IX9_tide SX9_tide (by decide) rfl (by decide) (by omega) (Nat.le_of_ble_eq_true rfl) rfl (ctX9_tide (d := d - 1) hl (by omega) (i32_inR _) (i32_inR _) e35) dL_law_292 (VK_c 9 349 rfl).1 (VK_c 9 349 rfl).lt (VK_c 9 349 rfl).ka rfl (fun z37 xt38 => ?_)
          refine j_istore (lv' := [(7, vI p36.1), (6, vI p30.1), (0, .ref (gS g 6)), (1, .ref (gB g + 1)), (2, .ref (gB g + 349)), (3, .ref (gB g + 374)), (4, .ref (gB g + 375)), (5, vI x5)]) dL_law_295 (by decide) (by first | rfl | (simp only [List.all_cons, List.all_nil, rv_cat]; rfl)) rfl ?_
          refine j_aload_n (j := 4) dL_law_297 rfl rfl ?_
          obtain ⟨z40, e39, h⟩ := obind_elim h
          refine j_callV ML_133 YX9_thrown IX9_thrown SX9_thrown (by decide) rfl (by decide) (by omega) (Nat.le_of_ble_eq_true rfl) rfl (ctX9_thrown (d := d - 1) hl (by omega)  e39) dL_law_298 (VK_c 9 349 rfl).1 (VK_c 9 349 rfl).lt (VK_c 9 349 rfl).ka rfl (fun z41 _ => ?_)
          refine j_iload (j := 1) dL_law_301 rfl ?_
          by_cases c43 : z40 = p30.1
          · rw [if_pos c43] at h
            refine j_icmp_eq_t z41 z31 dL_law_303 (tgt := 308) (by decide) c43 ?_
            refine j_iload (j := 1) dL_law_308 rfl ?_
            by_cases c44 : p30.1 = 0
            · rw [if_pos c44] at h
              refine j_if_ne_f z31 dL_law_310 (tgt := 325) (by decide) (fun q => q c44) ?_
              refine j_aload_n (j := 5) dL_law_313 rfl rfl ?_
              refine j_iconst dL_law_314 ?_
              refine j_lald dL_law_315 (fun r46 => ?_)
              refine j_iload (j := 0) dL_law_316 rfl ?_
              refine j_i2l z37 dL_law_318 ?_
              refine j_lcmp r46 z37 dL_law_319 ?_
              by_cases c47 : (icmp (gI p36.2 374 0) p36.1) = 0
              · rw [if_pos c47] at h
                refine j_if_eq_t (icmp_inR _ _) dL_law_320 (tgt := 325) (by decide) c47 ?_
                refine j_goto (tgt := 2235) dL_law_325 (by decide) ?_
                obtain ⟨u48, eu48, h⟩ := bnd_elim h
                have hu48 : inR u48 := by rw [eu48]; exact wrap_inR _
                refine j_iincN (k := 7) (lv' := [(5, vI u48), (7, vI p36.1), (6, vI p30.1), (0, .ref (gS g 6)), (1, .ref (gB g + 1)), (2, .ref (gB g + 349)), (3, .ref (gB g + 374)), (4, .ref (gB g + 375))]) eu48 dL_law_2235 rfl (by decide) (by first | rfl | (simp only [List.all_cons, List.all_nil, rv_cat]; rfl)) rfl ?_
                refine j_goto (tgt := 28) dL_law_2238 (by decide) ?_
                exact j_sub [3, 4, 5, 6, 7, 0] rfl (ih p36.2 u48 hu48 h)
              · rw [if_neg c47] at h
                refine j_if_eq_f (icmp_inR _ _) dL_law_320 (tgt := 325) (by decide) c47 ?_
                refine j_iconst dL_law_323 ?_
                cases h
                exact j_iret dL_law_324 rfl ((nar_bool (Or.inl rfl)).1) rfl (Or.inl rfl)
            · rw [if_neg c44] at h
              refine j_if_ne_t z31 dL_law_310 (tgt := 325) (by decide) c44 ?_
              refine j_goto (tgt := 2235) dL_law_325 (by decide) ?_
              obtain ⟨u45, eu45, h⟩ := bnd_elim h
              have hu45 : inR u45 := by rw [eu45]; exact wrap_inR _
              refine j_iincN (k := 7) (lv' := [(5, vI u45), (7, vI p36.1), (6, vI p30.1), (0, .ref (gS g 6)), (1, .ref (gB g + 1)), (2, .ref (gB g + 349)), (3, .ref (gB g + 374)), (4, .ref (gB g + 375))]) eu45 dL_law_2235 rfl (by decide) (by first | rfl | (simp only [List.all_cons, List.all_nil, rv_cat]; rfl)) rfl ?_
              refine j_goto (tgt := 28) dL_law_2238 (by decide) ?_
              exact j_sub [3, 4, 5, 6, 7, 0] rfl (ih p36.2 u45 hu45 h)
          · rw [if_neg c43] at h
            refine j_icmp_eq_f z41 z31 dL_law_303 (tgt := 308) (by decide) c43 ?_
            refine j_iconst dL_law_306 ?_
            cases h
            exact j_iret dL_law_307 rfl ((nar_bool (Or.inl rfl)).1) rfl (Or.inl rfl)
        · rw [if_neg c26] at h
          by_cases c49 : (iAnd (gXi g x5.toNat) 63) = 2
          · rw [if_pos c49] at h
            refine j_table_in (tgt := 328) (iAnd_inR _ _) dL_law_45 (by omega) (by omega) (by rw [c49]; rfl) (by decide) ?_
            refine j_aload_n (j := 1) dL_law_328 rfl rfl ?_
            refine j_aload_n (j := 0) dL_law_329 rfl rfl ?_
            refine j_iload (j := 5) dL_law_330 rfl ?_
            refine j_iconst dL_law_332 ?_
            refine j_iadd dL_law_333 ?_
            obtain ⟨c50, h⟩ := chk_elim h
            refine j_scld (wrap_inR _) dL_law_334 c50 ?_
            refine j_aload_n (j := 3) dL_law_335 rfl rfl ?_
            obtain ⟨p52, e51, h⟩ := obind_elim h
            refine j_callSW (n := 3) ML_139 YL_depthi YL_depthc (by decide) (by decide +kernel) IL_depth (by decide) (by omega) (Nat.le_of_ble_eq_true rfl) rfl (ctL_depth (d := d - 1) hl (by omega) (i32_inR _) e51) dL_law_336 rfl (fun z53 xt54 => ?_)
            refine j_istore (lv' := [(6, vI p52.1), (0, .ref (gS g 6)), (1, .ref (gB g + 1)), (2, .ref (gB g + 349)), (3, .ref (gB g + 374)), (4, .ref (gB g + 375)), (5, vI x5)]) dL_law_339 (by decide) (by first | rfl | (simp only [List.all_cons, List.all_nil, rv_cat]; rfl)) rfl ?_
            refine j_aload_n (j := 3) dL_law_341 rfl rfl ?_
            refine j_aload_n (j := 1) dL_law_342 rfl rfl ?_
            refine j_iload (j := 6) dL_law_343 rfl ?_
            refine j_iconst dL_law_345 ?_
            refine j_iadd dL_law_346 ?_
            obtain ⟨c55, h⟩ := chk_elim h
            refine j_scld (wrap_inR _) dL_law_347 c55 ?_
            obtain ⟨p57, e56, h⟩ := obind_elim h
            refine j_callV ML_142 YX9_depth IX9_depth SX9_depth (by decide) rfl (by decide) (by omega) (Nat.le_of_ble_eq_true rfl) rfl (ctX9_depth (d := d - 1) hl (by omega) (i32_inR _) e56) dL_law_348 (VK_c 9 349 rfl).1 (VK_c 9 349 rfl).lt (VK_c 9 349 rfl).ka rfl (fun z58 xt59 => ?_)
            refine j_istore (lv' := [(7, vI p57.1), (6, vI p52.1), (0, .ref (gS g 6)), (1, .ref (gB g + 1)), (2, .ref (gB g + 349)), (3, .ref (gB g + 374)), (4, .ref (gB g + 375)), (5, vI x5)]) dL_law_351 (by decide) (by first | rfl | (simp only [List.all_cons, List.all_nil, rv_cat]; rfl)) rfl ?_
            refine j_aload_n (j := 4) dL_law_353 rfl rfl ?_
            obtain ⟨z61, e60, h⟩ := obind_elim h
            refine j_callV ML_133 YX9_thrown IX9_thrown SX9_thrown (by decide) rfl (by decide) (by omega) (Nat.le_of_ble_eq_true rfl) rfl (ctX9_thrown (d := d - 1) hl (by omega)  e60) dL_law_354 (VK_c 9 349 rfl).1 (VK_c 9 349 rfl).lt (VK_c 9 349 rfl).ka rfl (fun z62 _ => ?_)
            refine j_iload (j := 1) dL_law_357 rfl ?_
            by_cases c64 : z61 = p52.1
            · rw [if_pos c64] at h
              refine j_icmp_eq_t z62 z53 dL_law_359 (tgt := 364) (by decide) c64 ?_
              refine j_iload (j := 1) dL_law_364 rfl ?_
              by_cases c65 : p52.1 = 0
              · rw [if_pos c65] at h
                refine j_if_ne_f z53 dL_law_366 (tgt := 381) (by decide) (fun q => q c65) ?_
                refine j_aload_n (j := 5) dL_law_369 rfl rfl ?_
                refine j_iconst dL_law_370 ?_
                refine j_lald dL_law_371 (fun r67 => ?_)
                refine j_iload (j := 0) dL_law_372 rfl ?_
                refine j_i2l z58 dL_law_374 ?_
                refine j_lcmp r67 z58 dL_law_375 ?_
                by_cases c68 : (icmp (gI p57.2 374 0) p57.1) = 0
                · rw [if_pos c68] at h
                  refine j_if_eq_t (icmp_inR _ _) dL_law_376 (tgt := 381) (by decide) c68 ?_
                  refine j_goto (tgt := 2235) dL_law_381 (by decide) ?_
                  obtain ⟨u69, eu69, h⟩ := bnd_elim h
                  have hu69 : inR u69 := by rw [eu69]; exact wrap_inR _
                  refine j_iincN (k := 7) (lv' := [(5, vI u69), (7, vI p57.1), (6, vI p52.1), (0, .ref (gS g 6)), (1, .ref (gB g + 1)), (2, .ref (gB g + 349)), (3, .ref (gB g + 374)), (4, .ref (gB g + 375))]) eu69 dL_law_2235 rfl (by decide) (by first | rfl | (simp only [List.all_cons, List.all_nil, rv_cat]; rfl)) rfl ?_
                  refine j_goto (tgt := 28) dL_law_2238 (by decide) ?_
                  exact j_sub [3, 4, 5, 6, 7, 0] rfl (ih p57.2 u69 hu69 h)
                · rw [if_neg c68] at h
                  refine j_if_eq_f (icmp_inR _ _) dL_law_376 (tgt := 381) (by decide) c68 ?_
                  refine j_iconst dL_law_379 ?_
                  cases h
                  exact j_iret dL_law_380 rfl ((nar_bool (Or.inl rfl)).1) rfl (Or.inl rfl)
              · rw [if_neg c65] at h
                refine j_if_ne_t z53 dL_law_366 (tgt := 381) (by decide) c65 ?_
                refine j_goto (tgt := 2235) dL_law_381 (by decide) ?_
                obtain ⟨u66, eu66, h⟩ := bnd_elim h
                have hu66 : inR u66 := by rw [eu66]; exact wrap_inR _
                refine j_iincN (k := 7) (lv' := [(5, vI u66), (7, vI p57.1), (6, vI p52.1), (0, .ref (gS g 6)), (1, .ref (gB g + 1)), (2, .ref (gB g + 349)), (3, .ref (gB g + 374)), (4, .ref (gB g + 375))]) eu66 dL_law_2235 rfl (by decide) (by first | rfl | (simp only [List.all_cons, List.all_nil, rv_cat]; rfl)) rfl ?_
                refine j_goto (tgt := 28) dL_law_2238 (by decide) ?_
                exact j_sub [3, 4, 5, 6, 7, 0] rfl (ih p57.2 u66 hu66 h)
            · rw [if_neg c64] at h
              refine j_icmp_eq_f z62 z53 dL_law_359 (tgt := 364) (by decide) c64 ?_
              refine j_iconst dL_law_362 ?_
              cases h
              exact j_iret dL_law_363 rfl ((nar_bool (Or.inl rfl)).1) rfl (Or.inl rfl)
          · rw [if_neg c49] at h
            by_cases c70 : (iAnd (gXi g x5.toNat) 63) = 3
            · rw [if_pos c70] at h
              refine j_table_in (tgt := 384) (iAnd_inR _ _) dL_law_45 (by omega) (by omega) (by rw [c70]; rfl) (by decide) ?_
              refine j_aload_n (j := 1) dL_law_384 rfl rfl ?_
              refine j_aload_n (j := 0) dL_law_385 rfl rfl ?_
              refine j_iload (j := 5) dL_law_386 rfl ?_
              refine j_iconst dL_law_388 ?_
              refine j_iadd dL_law_389 ?_
              obtain ⟨c71, h⟩ := chk_elim h
              refine j_scld (wrap_inR _) dL_law_390 c71 ?_
              refine j_aload_n (j := 3) dL_law_391 rfl rfl ?_
              obtain ⟨p73, e72, h⟩ := obind_elim h
              refine j_callSW (n := 3) ML_143 YL_addPiloti YL_addPilotc (by decide) (by decide +kernel) IL_addPilot (by decide) (by omega) (Nat.le_of_ble_eq_true rfl) rfl (ctL_addPilot (d := d - 1) hl (by omega) (i32_inR _) e72) dL_law_392 rfl (fun z74 xt75 => ?_)
              refine j_istore (lv' := [(6, vI p73.1), (0, .ref (gS g 6)), (1, .ref (gB g + 1)), (2, .ref (gB g + 349)), (3, .ref (gB g + 374)), (4, .ref (gB g + 375)), (5, vI x5)]) dL_law_395 (by decide) (by first | rfl | (simp only [List.all_cons, List.all_nil, rv_cat]; rfl)) rfl ?_
              refine j_aload_n (j := 3) dL_law_397 rfl rfl ?_
              refine j_aload_n (j := 1) dL_law_398 rfl rfl ?_
              refine j_iload (j := 6) dL_law_399 rfl ?_
              refine j_iconst dL_law_401 ?_
              refine j_iadd dL_law_402 ?_
              obtain ⟨c76, h⟩ := chk_elim h
              refine j_scld (wrap_inR _) dL_law_403 c76 ?_
              obtain ⟨p78, e77, h⟩ := obind_elim h
              refine j_callV ML_145 YX9_addPilot IX9_addPilot SX9_addPilot (by decide) rfl (by decide) (by omega) (Nat.le_of_ble_eq_true rfl) rfl (ctX9_addPilot (d := d - 1) hl (by omega) (i32_inR _) e77) dL_law_404 (VK_c 9 349 rfl).1 (VK_c 9 349 rfl).lt (VK_c 9 349 rfl).ka rfl (fun z79 xt80 => ?_)
              refine j_istore (lv' := [(7, vI p78.1), (6, vI p73.1), (0, .ref (gS g 6)), (1, .ref (gB g + 1)), (2, .ref (gB g + 349)), (3, .ref (gB g + 374)), (4, .ref (gB g + 375)), (5, vI x5)]) dL_law_407 (by decide) (by first | rfl | (simp only [List.all_cons, List.all_nil, rv_cat]; rfl)) rfl ?_
              refine j_aload_n (j := 4) dL_law_409 rfl rfl ?_
              obtain ⟨z82, e81, h⟩ := obind_elim h
              refine j_callV ML_133 YX9_thrown IX9_thrown SX9_thrown (by decide) rfl (by decide) (by omega) (Nat.le_of_ble_eq_true rfl) rfl (ctX9_thrown (d := d - 1) hl (by omega)  e81) dL_law_410 (VK_c 9 349 rfl).1 (VK_c 9 349 rfl).lt (VK_c 9 349 rfl).ka rfl (fun z83 _ => ?_)
              refine j_iload (j := 1) dL_law_413 rfl ?_
              by_cases c85 : z82 = p73.1
              · rw [if_pos c85] at h
                refine j_icmp_eq_t z83 z74 dL_law_415 (tgt := 420) (by decide) c85 ?_
                refine j_iload (j := 1) dL_law_420 rfl ?_
                by_cases c86 : p73.1 = 0
                · rw [if_pos c86] at h
                  refine j_if_ne_f z74 dL_law_422 (tgt := 437) (by decide) (fun q => q c86) ?_
                  refine j_aload_n (j := 5) dL_law_425 rfl rfl ?_
                  refine j_iconst dL_law_426 ?_
                  refine j_lald dL_law_427 (fun r88 => ?_)
                  refine j_iload (j := 0) dL_law_428 rfl ?_
                  refine j_i2l z79 dL_law_430 ?_
                  refine j_lcmp r88 z79 dL_law_431 ?_
                  by_cases c89 : (icmp (gI p78.2 374 0) p78.1) = 0
                  · rw [if_pos c89] at h
                    refine j_if_eq_t (icmp_inR _ _) dL_law_432 (tgt := 437) (by decide) c89 ?_
                    refine j_goto (tgt := 2235) dL_law_437 (by decide) ?_
                    obtain ⟨u90, eu90, h⟩ := bnd_elim h
                    have hu90 : inR u90 := by rw [eu90]; exact wrap_inR _
                    refine j_iincN (k := 7) (lv' := [(5, vI u90), (7, vI p78.1), (6, vI p73.1), (0, .ref (gS g 6)), (1, .ref (gB g + 1)), (2, .ref (gB g + 349)), (3, .ref (gB g + 374)), (4, .ref (gB g + 375))]) eu90 dL_law_2235 rfl (by decide) (by first | rfl | (simp only [List.all_cons, List.all_nil, rv_cat]; rfl)) rfl ?_
                    refine j_goto (tgt := 28) dL_law_2238 (by decide) ?_
                    exact j_sub [3, 4, 5, 6, 7, 0] rfl (ih p78.2 u90 hu90 h)
                  · rw [if_neg c89] at h
                    refine j_if_eq_f (icmp_inR _ _) dL_law_432 (tgt := 437) (by decide) c89 ?_
                    refine j_iconst dL_law_435 ?_
                    cases h
                    exact j_iret dL_law_436 rfl ((nar_bool (Or.inl rfl)).1) rfl (Or.inl rfl)
                · rw [if_neg c86] at h
                  refine j_if_ne_t z74 dL_law_422 (tgt := 437) (by decide) c86 ?_
                  refine j_goto (tgt := 2235) dL_law_437 (by decide) ?_
                  obtain ⟨u87, eu87, h⟩ := bnd_elim h
                  have hu87 : inR u87 := by rw [eu87]; exact wrap_inR _
                  refine j_iincN (k := 7) (lv' := [(5, vI u87), (7, vI p78.1), (6, vI p73.1), (0, .ref (gS g 6)), (1, .ref (gB g + 1)), (2, .ref (gB g + 349)), (3, .ref (gB g + 374)), (4, .ref (gB g + 375))]) eu87 dL_law_2235 rfl (by decide) (by first | rfl | (simp only [List.all_cons, List.all_nil, rv_cat]; rfl)) rfl ?_
                  refine j_goto (tgt := 28) dL_law_2238 (by decide) ?_
                  exact j_sub [3, 4, 5, 6, 7, 0] rfl (ih p78.2 u87 hu87 h)
              · rw [if_neg c85] at h
                refine j_icmp_eq_f z83 z74 dL_law_415 (tgt := 420) (by decide) c85 ?_
                refine j_iconst dL_law_418 ?_
                cases h
                exact j_iret dL_law_419 rfl ((nar_bool (Or.inl rfl)).1) rfl (Or.inl rfl)
            · rw [if_neg c70] at h
              by_cases c91 : (iAnd (gXi g x5.toNat) 63) = 4
              · rw [if_pos c91] at h
                refine j_table_in (tgt := 440) (iAnd_inR _ _) dL_law_45 (by omega) (by omega) (by rw [c91]; rfl) (by decide) ?_
                refine j_aload_n (j := 1) dL_law_440 rfl rfl ?_
                refine j_aload_n (j := 0) dL_law_441 rfl rfl ?_
                refine j_iload (j := 5) dL_law_442 rfl ?_
                refine j_iconst dL_law_444 ?_
                refine j_iadd dL_law_445 ?_
                obtain ⟨c92, h⟩ := chk_elim h
                refine j_scld (wrap_inR _) dL_law_446 c92 ?_
                refine j_aload_n (j := 3) dL_law_447 rfl rfl ?_
                obtain ⟨p94, e93, h⟩ := obind_elim h
                refine j_callSW (n := 3) ML_146 YL_addBoati YL_addBoatc (by decide) (by decide +kernel) IL_addBoat (by decide) (by omega) (Nat.le_of_ble_eq_true rfl) rfl (ctL_addBoat (d := d - 1) hl (by omega) (i32_inR _) e93) dL_law_448 rfl (fun z95 xt96 => ?_)
                refine j_istore (lv' := [(6, vI p94.1), (0, .ref (gS g 6)), (1, .ref (gB g + 1)), (2, .ref (gB g + 349)), (3, .ref (gB g + 374)), (4, .ref (gB g + 375)), (5, vI x5)]) dL_law_451 (by decide) (by first | rfl | (simp only [List.all_cons, List.all_nil, rv_cat]; rfl)) rfl ?_
                refine j_aload_n (j := 3) dL_law_453 rfl rfl ?_
                refine j_aload_n (j := 1) dL_law_454 rfl rfl ?_
                refine j_iload (j := 6) dL_law_455 rfl ?_
                refine j_iconst dL_law_457 ?_
                refine j_iadd dL_law_458 ?_
                obtain ⟨c97, h⟩ := chk_elim h
                refine j_scld (wrap_inR _) dL_law_459 c97 ?_
                obtain ⟨p99, e98, h⟩ := obind_elim h
                refine j_callV ML_148 YX9_addBoat IX9_addBoat SX9_addBoat (by decide) rfl (by decide) (by omega) (Nat.le_of_ble_eq_true rfl) rfl (ctX9_addBoat (d := d - 1) hl (by omega) (i32_inR _) e98) dL_law_460 (VK_c 9 349 rfl).1 (VK_c 9 349 rfl).lt (VK_c 9 349 rfl).ka rfl (fun z100 xt101 => ?_)
                refine j_istore (lv' := [(7, vI p99.1), (6, vI p94.1), (0, .ref (gS g 6)), (1, .ref (gB g + 1)), (2, .ref (gB g + 349)), (3, .ref (gB g + 374)), (4, .ref (gB g + 375)), (5, vI x5)]) dL_law_463 (by decide) (by first | rfl | (simp only [List.all_cons, List.all_nil, rv_cat]; rfl)) rfl ?_
                refine j_aload_n (j := 4) dL_law_465 rfl rfl ?_
                obtain ⟨z103, e102, h⟩ := obind_elim h
                refine j_callV ML_133 YX9_thrown IX9_thrown SX9_thrown (by decide) rfl (by decide) (by omega) (Nat.le_of_ble_eq_true rfl) rfl (ctX9_thrown (d := d - 1) hl (by omega)  e102) dL_law_466 (VK_c 9 349 rfl).1 (VK_c 9 349 rfl).lt (VK_c 9 349 rfl).ka rfl (fun z104 _ => ?_)
                refine j_iload (j := 1) dL_law_469 rfl ?_
                by_cases c106 : z103 = p94.1
                · rw [if_pos c106] at h
                  refine j_icmp_eq_t z104 z95 dL_law_471 (tgt := 476) (by decide) c106 ?_
                  refine j_iload (j := 1) dL_law_476 rfl ?_
                  by_cases c107 : p94.1 = 0
                  · rw [if_pos c107] at h
                    refine j_if_ne_f z95 dL_law_478 (tgt := 493) (by decide) (fun q => q c107) ?_
                    refine j_aload_n (j := 5) dL_law_481 rfl rfl ?_
                    refine j_iconst dL_law_482 ?_
                    refine j_lald dL_law_483 (fun r109 => ?_)
                    refine j_iload (j := 0) dL_law_484 rfl ?_
                    refine j_i2l z100 dL_law_486 ?_
                    refine j_lcmp r109 z100 dL_law_487 ?_
                    by_cases c110 : (icmp (gI p99.2 374 0) p99.1) = 0
                    · rw [if_pos c110] at h
                      refine j_if_eq_t (icmp_inR _ _) dL_law_488 (tgt := 493) (by decide) c110 ?_
                      refine j_goto (tgt := 2235) dL_law_493 (by decide) ?_
                      obtain ⟨u111, eu111, h⟩ := bnd_elim h
                      have hu111 : inR u111 := by rw [eu111]; exact wrap_inR _
                      refine j_iincN (k := 7) (lv' := [(5, vI u111), (7, vI p99.1), (6, vI p94.1), (0, .ref (gS g 6)), (1, .ref (gB g + 1)), (2, .ref (gB g + 349)), (3, .ref (gB g + 374)), (4, .ref (gB g + 375))]) eu111 dL_law_2235 rfl (by decide) (by first | rfl | (simp only [List.all_cons, List.all_nil, rv_cat]; rfl)) rfl ?_
                      refine j_goto (tgt := 28) dL_law_2238 (by decide) ?_
                      exact j_sub [3, 4, 5, 6, 7, 0] rfl (ih p99.2 u111 hu111 h)
                    · rw [if_neg c110] at h
                      refine j_if_eq_f (icmp_inR _ _) dL_law_488 (tgt := 493) (by decide) c110 ?_
                      refine j_iconst dL_law_491 ?_
                      cases h
                      exact j_iret dL_law_492 rfl ((nar_bool (Or.inl rfl)).1) rfl (Or.inl rfl)
                  · rw [if_neg c107] at h
                    refine j_if_ne_t z95 dL_law_478 (tgt := 493) (by decide) c107 ?_
                    refine j_goto (tgt := 2235) dL_law_493 (by decide) ?_
                    obtain ⟨u108, eu108, h⟩ := bnd_elim h
                    have hu108 : inR u108 := by rw [eu108]; exact wrap_inR _
                    refine j_iincN (k := 7) (lv' := [(5, vI u108), (7, vI p99.1), (6, vI p94.1), (0, .ref (gS g 6)), (1, .ref (gB g + 1)), (2, .ref (gB g + 349)), (3, .ref (gB g + 374)), (4, .ref (gB g + 375))]) eu108 dL_law_2235 rfl (by decide) (by first | rfl | (simp only [List.all_cons, List.all_nil, rv_cat]; rfl)) rfl ?_
                    refine j_goto (tgt := 28) dL_law_2238 (by decide) ?_
                    exact j_sub [3, 4, 5, 6, 7, 0] rfl (ih p99.2 u108 hu108 h)
                · rw [if_neg c106] at h
                  refine j_icmp_eq_f z104 z95 dL_law_471 (tgt := 476) (by decide) c106 ?_
                  refine j_iconst dL_law_474 ?_
                  cases h
                  exact j_iret dL_law_475 rfl ((nar_bool (Or.inl rfl)).1) rfl (Or.inl rfl)
              · rw [if_neg c91] at h
                by_cases c112 : (iAnd (gXi g x5.toNat) 63) = 5
                · rw [if_pos c112] at h
                  refine j_table_in (tgt := 496) (iAnd_inR _ _) dL_law_45 (by omega) (by omega) (by rw [c112]; rfl) (by decide) ?_
                  refine j_aload_n (j := 1) dL_law_496 rfl rfl ?_
                  refine j_aload_n (j := 0) dL_law_497 rfl rfl ?_
                  refine j_iload (j := 5) dL_law_498 rfl ?_
                  refine j_iconst dL_law_500 ?_
                  refine j_iadd dL_law_501 ?_
                  obtain ⟨c113, h⟩ := chk_elim h
                  refine j_scld (wrap_inR _) dL_law_502 c113 ?_
                  refine j_aload_n (j := 0) dL_law_503 rfl rfl ?_
                  refine j_iload (j := 5) dL_law_504 rfl ?_
                  refine j_iconst dL_law_506 ?_
                  refine j_iadd dL_law_507 ?_
                  obtain ⟨c114, h⟩ := chk_elim h
                  refine j_scld (wrap_inR _) dL_law_508 c114 ?_
                  by_cases c115 : (gXi g (wrap (x5 + 2)).toNat) = 0
                  · rw [if_pos c115] at h
                    refine j_if_eq_t (i32_inR _) dL_law_509 (tgt := 516) (by decide) c115 ?_
                    refine j_iconst dL_law_516 ?_
                    exact j_sub [0, 1, 2, 3, 4, 5] rfl (tL_law_517 hl (by omega) hL hx5 (i32_inR _) (inR_lit _ rfl) ih h)
                  · rw [if_neg c115] at h
                    refine j_if_eq_f (i32_inR _) dL_law_509 (tgt := 516) (by decide) c115 ?_
                    refine j_iconst dL_law_512 ?_
                    refine j_goto (tgt := 517) dL_law_513 (by decide) ?_
                    exact j_sub [0, 1, 2, 3, 4, 5] rfl (tL_law_517 hl (by omega) hL hx5 (i32_inR _) (inR_lit _ rfl) ih h)
                · rw [if_neg c112] at h
                  by_cases c116 : (iAnd (gXi g x5.toNat) 63) = 6
                  · rw [if_pos c116] at h
                    refine j_table_in (tgt := 616) (iAnd_inR _ _) dL_law_45 (by omega) (by omega) (by rw [c116]; rfl) (by decide) ?_
                    refine j_aload_n (j := 1) dL_law_616 rfl rfl ?_
                    refine j_aload_n (j := 0) dL_law_617 rfl rfl ?_
                    refine j_iload (j := 5) dL_law_618 rfl ?_
                    refine j_iconst dL_law_620 ?_
                    refine j_iadd dL_law_621 ?_
                    obtain ⟨c117, h⟩ := chk_elim h
                    refine j_scld (wrap_inR _) dL_law_622 c117 ?_
                    refine j_aload_n (j := 0) dL_law_623 rfl rfl ?_
                    refine j_iload (j := 5) dL_law_624 rfl ?_
                    refine j_iconst dL_law_626 ?_
                    refine j_iadd dL_law_627 ?_
                    obtain ⟨c118, h⟩ := chk_elim h
                    refine j_scld (wrap_inR _) dL_law_628 c118 ?_
                    refine j_aload_n (j := 3) dL_law_629 rfl rfl ?_
                    obtain ⟨p120, e119, h⟩ := obind_elim h
                    refine j_callSW (n := 4) ML_153 YL_orderOfi YL_orderOfc (by decide) (by decide +kernel) IL_orderOf (by decide) (by omega) (Nat.le_of_ble_eq_true rfl) rfl (ctL_orderOf (d := d - 1) hl (by omega) (i32_inR _) (i32_inR _) e119) dL_law_630 rfl (fun z121 xt122 => ?_)
                    refine j_istore (lv' := [(6, vI p120.1), (0, .ref (gS g 6)), (1, .ref (gB g + 1)), (2, .ref (gB g + 349)), (3, .ref (gB g + 374)), (4, .ref (gB g + 375)), (5, vI x5)]) dL_law_633 (by decide) (by first | rfl | (simp only [List.all_cons, List.all_nil, rv_cat]; rfl)) rfl ?_
                    refine j_aload_n (j := 3) dL_law_635 rfl rfl ?_
                    refine j_aload_n (j := 1) dL_law_636 rfl rfl ?_
                    refine j_iload (j := 6) dL_law_637 rfl ?_
                    refine j_iconst dL_law_639 ?_
                    refine j_iadd dL_law_640 ?_
                    obtain ⟨c123, h⟩ := chk_elim h
                    refine j_scld (wrap_inR _) dL_law_641 c123 ?_
                    refine j_aload_n (j := 1) dL_law_642 rfl rfl ?_
                    refine j_iload (j := 6) dL_law_643 rfl ?_
                    refine j_iconst dL_law_645 ?_
                    refine j_iadd dL_law_646 ?_
                    obtain ⟨c124, h⟩ := chk_elim h
                    refine j_scld (wrap_inR _) dL_law_647 c124 ?_
                    obtain ⟨p126, e125, h⟩ := obind_elim h
                    refine j_callV ML_155 YX9_orderOf IX9_orderOf SX9_orderOf (by decide) rfl (by decide) (by omega) (Nat.le_of_ble_eq_true rfl) rfl (ctX9_orderOf (d := d - 1) hl (by omega) (i32_inR _) (i32_inR _) e125) dL_law_648 (VK_c 9 349 rfl).1 (VK_c 9 349 rfl).lt (VK_c 9 349 rfl).ka rfl (fun z127 xt128 => ?_)
                    refine j_istore (lv' := [(7, vI p126.1), (6, vI p120.1), (0, .ref (gS g 6)), (1, .ref (gB g + 1)), (2, .ref (gB g + 349)), (3, .ref (gB g + 374)), (4, .ref (gB g + 375)), (5, vI x5)]) dL_law_651 (by decide) (by first | rfl | (simp only [List.all_cons, List.all_nil, rv_cat]; rfl)) rfl ?_
                    refine j_aload_n (j := 4) dL_law_653 rfl rfl ?_
                    obtain ⟨z130, e129, h⟩ := obind_elim h
                    refine j_callV ML_133 YX9_thrown IX9_thrown SX9_thrown (by decide) rfl (by decide) (by omega) (Nat.le_of_ble_eq_true rfl) rfl (ctX9_thrown (d := d - 1) hl (by omega)  e129) dL_law_654 (VK_c 9 349 rfl).1 (VK_c 9 349 rfl).lt (VK_c 9 349 rfl).ka rfl (fun z131 _ => ?_)
                    refine j_iload (j := 1) dL_law_657 rfl ?_
                    by_cases c133 : z130 = p120.1
                    · rw [if_pos c133] at h
                      refine j_icmp_eq_t z131 z121 dL_law_659 (tgt := 664) (by decide) c133 ?_
                      refine j_iload (j := 1) dL_law_664 rfl ?_
                      by_cases c134 : p120.1 = 0
                      · rw [if_pos c134] at h
                        refine j_if_ne_f z121 dL_law_666 (tgt := 681) (by decide) (fun q => q c134) ?_
                        refine j_aload_n (j := 5) dL_law_669 rfl rfl ?_
                        refine j_iconst dL_law_670 ?_
                        refine j_lald dL_law_671 (fun r136 => ?_)
                        refine j_iload (j := 0) dL_law_672 rfl ?_
                        refine j_i2l z127 dL_law_674 ?_
                        refine j_lcmp r136 z127 dL_law_675 ?_
                        by_cases c137 : (icmp (gI p126.2 374 0) p126.1) = 0
                        · rw [if_pos c137] at h
                          refine j_if_eq_t (icmp_inR _ _) dL_law_676 (tgt := 681) (by decide) c137 ?_
                          refine j_goto (tgt := 2235) dL_law_681 (by decide) ?_
                          obtain ⟨u138, eu138, h⟩ := bnd_elim h
                          have hu138 : inR u138 := by rw [eu138]; exact wrap_inR _
                          refine j_iincN (k := 7) (lv' := [(5, vI u138), (7, vI p126.1), (6, vI p120.1), (0, .ref (gS g 6)), (1, .ref (gB g + 1)), (2, .ref (gB g + 349)), (3, .ref (gB g + 374)), (4, .ref (gB g + 375))]) eu138 dL_law_2235 rfl (by decide) (by first | rfl | (simp only [List.all_cons, List.all_nil, rv_cat]; rfl)) rfl ?_
                          refine j_goto (tgt := 28) dL_law_2238 (by decide) ?_
                          exact j_sub [3, 4, 5, 6, 7, 0] rfl (ih p126.2 u138 hu138 h)
                        · rw [if_neg c137] at h
                          refine j_if_eq_f (icmp_inR _ _) dL_law_676 (tgt := 681) (by decide) c137 ?_
                          refine j_iconst dL_law_679 ?_
                          cases h
                          exact j_iret dL_law_680 rfl ((nar_bool (Or.inl rfl)).1) rfl (Or.inl rfl)
                      · rw [if_neg c134] at h
                        refine j_if_ne_t z121 dL_law_666 (tgt := 681) (by decide) c134 ?_
                        refine j_goto (tgt := 2235) dL_law_681 (by decide) ?_
                        obtain ⟨u135, eu135, h⟩ := bnd_elim h
                        have hu135 : inR u135 := by rw [eu135]; exact wrap_inR _
                        refine j_iincN (k := 7) (lv' := [(5, vI u135), (7, vI p126.1), (6, vI p120.1), (0, .ref (gS g 6)), (1, .ref (gB g + 1)), (2, .ref (gB g + 349)), (3, .ref (gB g + 374)), (4, .ref (gB g + 375))]) eu135 dL_law_2235 rfl (by decide) (by first | rfl | (simp only [List.all_cons, List.all_nil, rv_cat]; rfl)) rfl ?_
                        refine j_goto (tgt := 28) dL_law_2238 (by decide) ?_
                        exact j_sub [3, 4, 5, 6, 7, 0] rfl (ih p126.2 u135 hu135 h)
                    · rw [if_neg c133] at h
                      refine j_icmp_eq_f z131 z121 dL_law_659 (tgt := 664) (by decide) c133 ?_
                      refine j_iconst dL_law_662 ?_
                      cases h
                      exact j_iret dL_law_663 rfl ((nar_bool (Or.inl rfl)).1) rfl (Or.inl rfl)
                  · rw [if_neg c116] at h
                    by_cases c139 : (iAnd (gXi g x5.toNat) 63) = 7
                    · rw [if_pos c139] at h
                      refine j_table_in (tgt := 684) (iAnd_inR _ _) dL_law_45 (by omega) (by omega) (by rw [c139]; rfl) (by decide) ?_
                      refine j_aload_n (j := 1) dL_law_684 rfl rfl ?_
                      refine j_aload_n (j := 0) dL_law_685 rfl rfl ?_
                      refine j_iload (j := 5) dL_law_686 rfl ?_
                      refine j_iconst dL_law_688 ?_
                      refine j_iadd dL_law_689 ?_
                      obtain ⟨c140, h⟩ := chk_elim h
                      refine j_scld (wrap_inR _) dL_law_690 c140 ?_
                      refine j_aload_n (j := 0) dL_law_691 rfl rfl ?_
                      refine j_iload (j := 5) dL_law_692 rfl ?_
                      refine j_iconst dL_law_694 ?_
                      refine j_iadd dL_law_695 ?_
                      obtain ⟨c141, h⟩ := chk_elim h
                      refine j_scld (wrap_inR _) dL_law_696 c141 ?_
                      refine j_aload_n (j := 3) dL_law_697 rfl rfl ?_
                      obtain ⟨p143, e142, h⟩ := obind_elim h
                      refine j_callSW (n := 4) ML_156 YL_windowi YL_windowc (by decide) (by decide +kernel) IL_window (by decide) (by omega) (Nat.le_of_ble_eq_true rfl) rfl (ctL_window (d := d - 1) hl (by omega) (i32_inR _) (i32_inR _) e142) dL_law_698 rfl (fun z144 xt145 => ?_)
                      refine j_istore (lv' := [(6, vI p143.1), (0, .ref (gS g 6)), (1, .ref (gB g + 1)), (2, .ref (gB g + 349)), (3, .ref (gB g + 374)), (4, .ref (gB g + 375)), (5, vI x5)]) dL_law_701 (by decide) (by first | rfl | (simp only [List.all_cons, List.all_nil, rv_cat]; rfl)) rfl ?_
                      refine j_aload_n (j := 3) dL_law_703 rfl rfl ?_
                      refine j_aload_n (j := 1) dL_law_704 rfl rfl ?_
                      refine j_iload (j := 6) dL_law_705 rfl ?_
                      refine j_iconst dL_law_707 ?_
                      refine j_iadd dL_law_708 ?_
                      obtain ⟨c146, h⟩ := chk_elim h
                      refine j_scld (wrap_inR _) dL_law_709 c146 ?_
                      refine j_aload_n (j := 1) dL_law_710 rfl rfl ?_
                      refine j_iload (j := 6) dL_law_711 rfl ?_
                      refine j_iconst dL_law_713 ?_
                      refine j_iadd dL_law_714 ?_
                      obtain ⟨c147, h⟩ := chk_elim h
                      refine j_scld (wrap_inR _) dL_law_715 c147 ?_
                      obtain ⟨p149, e148, h⟩ := obind_elim h
                      refine j_callV ML_158 YX9_window IX9_window SX9_window (by decide) rfl (by decide) (by omega) (Nat.le_of_ble_eq_true rfl) rfl (ctX9_window (d := d - 1) hl (by omega) (i32_inR _) (i32_inR _) e148) dL_law_716 (VK_c 9 349 rfl).1 (VK_c 9 349 rfl).lt (VK_c 9 349 rfl).ka rfl (fun z150 xt151 => ?_)
                      refine j_istore (lv' := [(7, vI p149.1), (6, vI p143.1), (0, .ref (gS g 6)), (1, .ref (gB g + 1)), (2, .ref (gB g + 349)), (3, .ref (gB g + 374)), (4, .ref (gB g + 375)), (5, vI x5)]) dL_law_719 (by decide) (by first | rfl | (simp only [List.all_cons, List.all_nil, rv_cat]; rfl)) rfl ?_
                      refine j_aload_n (j := 4) dL_law_721 rfl rfl ?_
                      obtain ⟨z153, e152, h⟩ := obind_elim h
                      refine j_callV ML_133 YX9_thrown IX9_thrown SX9_thrown (by decide) rfl (by decide) (by omega) (Nat.le_of_ble_eq_true rfl) rfl (ctX9_thrown (d := d - 1) hl (by omega)  e152) dL_law_722 (VK_c 9 349 rfl).1 (VK_c 9 349 rfl).lt (VK_c 9 349 rfl).ka rfl (fun z154 _ => ?_)
                      refine j_iload (j := 1) dL_law_725 rfl ?_
                      by_cases c156 : z153 = p143.1
                      · rw [if_pos c156] at h
                        refine j_icmp_eq_t z154 z144 dL_law_727 (tgt := 732) (by decide) c156 ?_
                        refine j_iload (j := 1) dL_law_732 rfl ?_
                        by_cases c157 : p143.1 = 0
                        · rw [if_pos c157] at h
                          refine j_if_ne_f z144 dL_law_734 (tgt := 749) (by decide) (fun q => q c157) ?_
                          refine j_aload_n (j := 5) dL_law_737 rfl rfl ?_
                          refine j_iconst dL_law_738 ?_
                          refine j_lald dL_law_739 (fun r159 => ?_)
                          refine j_iload (j := 0) dL_law_740 rfl ?_
                          refine j_i2l z150 dL_law_742 ?_
                          refine j_lcmp r159 z150 dL_law_743 ?_
                          by_cases c160 : (icmp (gI p149.2 374 0) p149.1) = 0
                          · rw [if_pos c160] at h
                            refine j_if_eq_t (icmp_inR _ _) dL_law_744 (tgt := 749) (by decide) c160 ?_
                            refine j_goto (tgt := 2235) dL_law_749 (by decide) ?_
                            obtain ⟨u161, eu161, h⟩ := bnd_elim h
                            have hu161 : inR u161 := by rw [eu161]; exact wrap_inR _
                            refine j_iincN (k := 7) (lv' := [(5, vI u161), (7, vI p149.1), (6, vI p143.1), (0, .ref (gS g 6)), (1, .ref (gB g + 1)), (2, .ref (gB g + 349)), (3, .ref (gB g + 374)), (4, .ref (gB g + 375))]) eu161 dL_law_2235 rfl (by decide) (by first | rfl | (simp only [List.all_cons, List.all_nil, rv_cat]; rfl)) rfl ?_
                            refine j_goto (tgt := 28) dL_law_2238 (by decide) ?_
                            exact j_sub [3, 4, 5, 6, 7, 0] rfl (ih p149.2 u161 hu161 h)
                          · rw [if_neg c160] at h
                            refine j_if_eq_f (icmp_inR _ _) dL_law_744 (tgt := 749) (by decide) c160 ?_
                            refine j_iconst dL_law_747 ?_
                            cases h
                            exact j_iret dL_law_748 rfl ((nar_bool (Or.inl rfl)).1) rfl (Or.inl rfl)
                        · rw [if_neg c157] at h
                          refine j_if_ne_t z144 dL_law_734 (tgt := 749) (by decide) c157 ?_
                          refine j_goto (tgt := 2235) dL_law_749 (by decide) ?_
                          obtain ⟨u158, eu158, h⟩ := bnd_elim h
                          have hu158 : inR u158 := by rw [eu158]; exact wrap_inR _
                          refine j_iincN (k := 7) (lv' := [(5, vI u158), (7, vI p149.1), (6, vI p143.1), (0, .ref (gS g 6)), (1, .ref (gB g + 1)), (2, .ref (gB g + 349)), (3, .ref (gB g + 374)), (4, .ref (gB g + 375))]) eu158 dL_law_2235 rfl (by decide) (by first | rfl | (simp only [List.all_cons, List.all_nil, rv_cat]; rfl)) rfl ?_
                          refine j_goto (tgt := 28) dL_law_2238 (by decide) ?_
                          exact j_sub [3, 4, 5, 6, 7, 0] rfl (ih p149.2 u158 hu158 h)
                      · rw [if_neg c156] at h
                        refine j_icmp_eq_f z154 z144 dL_law_727 (tgt := 732) (by decide) c156 ?_
                        refine j_iconst dL_law_730 ?_
                        cases h
                        exact j_iret dL_law_731 rfl ((nar_bool (Or.inl rfl)).1) rfl (Or.inl rfl)
                    · rw [if_neg c139] at h
                      by_cases c162 : (iAnd (gXi g x5.toNat) 63) = 8
                      · rw [if_pos c162] at h
                        refine j_table_in (tgt := 752) (iAnd_inR _ _) dL_law_45 (by omega) (by omega) (by rw [c162]; rfl) (by decide) ?_
                        refine j_aload_n (j := 1) dL_law_752 rfl rfl ?_
                        refine j_aload_n (j := 0) dL_law_753 rfl rfl ?_
                        refine j_iload (j := 5) dL_law_754 rfl ?_
                        refine j_iconst dL_law_756 ?_
                        refine j_iadd dL_law_757 ?_
                        obtain ⟨c163, h⟩ := chk_elim h
                        refine j_scld (wrap_inR _) dL_law_758 c163 ?_
                        refine j_aload_n (j := 0) dL_law_759 rfl rfl ?_
                        refine j_iload (j := 5) dL_law_760 rfl ?_
                        refine j_iconst dL_law_762 ?_
                        refine j_iadd dL_law_763 ?_
                        obtain ⟨c164, h⟩ := chk_elim h
                        refine j_scld (wrap_inR _) dL_law_764 c164 ?_
                        refine j_aload_n (j := 0) dL_law_765 rfl rfl ?_
                        refine j_iload (j := 5) dL_law_766 rfl ?_
                        refine j_iconst dL_law_768 ?_
                        refine j_iadd dL_law_769 ?_
                        obtain ⟨c165, h⟩ := chk_elim h
                        refine j_scld (wrap_inR _) dL_law_770 c165 ?_
                        refine j_aload_n (j := 3) dL_law_771 rfl rfl ?_
                        obtain ⟨p167, e166, h⟩ := obind_elim h
                        refine j_callSW (n := 5) ML_159 YL_hindersi YL_hindersc (by decide) (by decide +kernel) IL_hinders (by decide) (by omega) (Nat.le_of_ble_eq_true rfl) rfl (ctL_hinders (d := d - 1) hl (by omega) (i32_inR _) (i32_inR _) (i32_inR _) e166) dL_law_772 rfl (fun z168 xt169 => ?_)
                        refine j_istore (lv' := [(6, vI p167.1), (0, .ref (gS g 6)), (1, .ref (gB g + 1)), (2, .ref (gB g + 349)), (3, .ref (gB g + 374)), (4, .ref (gB g + 375)), (5, vI x5)]) dL_law_775 (by decide) (by first | rfl | (simp only [List.all_cons, List.all_nil, rv_cat]; rfl)) rfl ?_
                        refine j_aload_n (j := 3) dL_law_777 rfl rfl ?_
                        refine j_aload_n (j := 1) dL_law_778 rfl rfl ?_
                        refine j_iload (j := 6) dL_law_779 rfl ?_
                        refine j_iconst dL_law_781 ?_
                        refine j_iadd dL_law_782 ?_
                        obtain ⟨c170, h⟩ := chk_elim h
                        refine j_scld (wrap_inR _) dL_law_783 c170 ?_
                        refine j_aload_n (j := 1) dL_law_784 rfl rfl ?_
                        refine j_iload (j := 6) dL_law_785 rfl ?_
                        refine j_iconst dL_law_787 ?_
                        refine j_iadd dL_law_788 ?_
                        obtain ⟨c171, h⟩ := chk_elim h
                        refine j_scld (wrap_inR _) dL_law_789 c171 ?_
                        refine j_aload_n (j := 1) dL_law_790 rfl rfl ?_
                        refine j_iload (j := 6) dL_law_791 rfl ?_
                        refine j_iconst dL_law_793 ?_
                        refine j_iadd dL_law_794 ?_
                        obtain ⟨c172, h⟩ := chk_elim h
                        refine j_scld (wrap_inR _) dL_law_795 c172 ?_
                        obtain ⟨p174, e173, h⟩ := obind_elim h
                        refine j_callV ML_162 YX9_hinders IX9_hinders SX9_hinders (by decide) rfl (by decide) (by omega) (Nat.le_of_ble_eq_true rfl) rfl (ctX9_hinders (d := d - 1) hl (by omega) (i32_inR _) (i32_inR _) (i32_inR _) e173) dL_law_796 (VK_c 9 349 rfl).1 (VK_c 9 349 rfl).lt (VK_c 9 349 rfl).ka rfl (fun z175 xt176 => ?_)
                        refine j_istore (lv' := [(7, vI p174.1), (6, vI p167.1), (0, .ref (gS g 6)), (1, .ref (gB g + 1)), (2, .ref (gB g + 349)), (3, .ref (gB g + 374)), (4, .ref (gB g + 375)), (5, vI x5)]) dL_law_799 (by decide) (by first | rfl | (simp only [List.all_cons, List.all_nil, rv_cat]; rfl)) rfl ?_
                        refine j_aload_n (j := 4) dL_law_801 rfl rfl ?_
                        obtain ⟨z178, e177, h⟩ := obind_elim h
                        refine j_callV ML_133 YX9_thrown IX9_thrown SX9_thrown (by decide) rfl (by decide) (by omega) (Nat.le_of_ble_eq_true rfl) rfl (ctX9_thrown (d := d - 1) hl (by omega)  e177) dL_law_802 (VK_c 9 349 rfl).1 (VK_c 9 349 rfl).lt (VK_c 9 349 rfl).ka rfl (fun z179 _ => ?_)
                        refine j_iload (j := 1) dL_law_805 rfl ?_
                        by_cases c181 : z178 = p167.1
                        · rw [if_pos c181] at h
                          refine j_icmp_eq_t z179 z168 dL_law_807 (tgt := 812) (by decide) c181 ?_
                          refine j_iload (j := 1) dL_law_812 rfl ?_
                          by_cases c182 : p167.1 = 0
                          · rw [if_pos c182] at h
                            refine j_if_ne_f z168 dL_law_814 (tgt := 829) (by decide) (fun q => q c182) ?_
                            refine j_aload_n (j := 5) dL_law_817 rfl rfl ?_
                            refine j_iconst dL_law_818 ?_
                            refine j_lald dL_law_819 (fun r184 => ?_)
                            refine j_iload (j := 0) dL_law_820 rfl ?_
                            refine j_i2l z175 dL_law_822 ?_
                            refine j_lcmp r184 z175 dL_law_823 ?_
                            by_cases c185 : (icmp (gI p174.2 374 0) p174.1) = 0
                            · rw [if_pos c185] at h
                              refine j_if_eq_t (icmp_inR _ _) dL_law_824 (tgt := 829) (by decide) c185 ?_
                              refine j_goto (tgt := 2235) dL_law_829 (by decide) ?_
                              obtain ⟨u186, eu186, h⟩ := bnd_elim h
                              have hu186 : inR u186 := by rw [eu186]; exact wrap_inR _
                              refine j_iincN (k := 7) (lv' := [(5, vI u186), (7, vI p174.1), (6, vI p167.1), (0, .ref (gS g 6)), (1, .ref (gB g + 1)), (2, .ref (gB g + 349)), (3, .ref (gB g + 374)), (4, .ref (gB g + 375))]) eu186 dL_law_2235 rfl (by decide) (by first | rfl | (simp only [List.all_cons, List.all_nil, rv_cat]; rfl)) rfl ?_
                              refine j_goto (tgt := 28) dL_law_2238 (by decide) ?_
                              exact j_sub [3, 4, 5, 6, 7, 0] rfl (ih p174.2 u186 hu186 h)
                            · rw [if_neg c185] at h
                              refine j_if_eq_f (icmp_inR _ _) dL_law_824 (tgt := 829) (by decide) c185 ?_
                              refine j_iconst dL_law_827 ?_
                              cases h
                              exact j_iret dL_law_828 rfl ((nar_bool (Or.inl rfl)).1) rfl (Or.inl rfl)
                          · rw [if_neg c182] at h
                            refine j_if_ne_t z168 dL_law_814 (tgt := 829) (by decide) c182 ?_
                            refine j_goto (tgt := 2235) dL_law_829 (by decide) ?_
                            obtain ⟨u183, eu183, h⟩ := bnd_elim h
                            have hu183 : inR u183 := by rw [eu183]; exact wrap_inR _
                            refine j_iincN (k := 7) (lv' := [(5, vI u183), (7, vI p174.1), (6, vI p167.1), (0, .ref (gS g 6)), (1, .ref (gB g + 1)), (2, .ref (gB g + 349)), (3, .ref (gB g + 374)), (4, .ref (gB g + 375))]) eu183 dL_law_2235 rfl (by decide) (by first | rfl | (simp only [List.all_cons, List.all_nil, rv_cat]; rfl)) rfl ?_
                            refine j_goto (tgt := 28) dL_law_2238 (by decide) ?_
                            exact j_sub [3, 4, 5, 6, 7, 0] rfl (ih p174.2 u183 hu183 h)
                        · rw [if_neg c181] at h
                          refine j_icmp_eq_f z179 z168 dL_law_807 (tgt := 812) (by decide) c181 ?_
                          refine j_iconst dL_law_810 ?_
                          cases h
                          exact j_iret dL_law_811 rfl ((nar_bool (Or.inl rfl)).1) rfl (Or.inl rfl)
                      · rw [if_neg c162] at h
                        by_cases c187 : (iAnd (gXi g x5.toNat) 63) = 9
                        · rw [if_pos c187] at h
                          refine j_table_in (tgt := 832) (iAnd_inR _ _) dL_law_45 (by omega) (by omega) (by rw [c187]; rfl) (by decide) ?_
                          refine j_aload_n (j := 1) dL_law_832 rfl rfl ?_
                          refine j_aload_n (j := 0) dL_law_833 rfl rfl ?_
                          refine j_iload (j := 5) dL_law_834 rfl ?_
                          refine j_iconst dL_law_836 ?_
                          refine j_iadd dL_law_837 ?_
                          obtain ⟨c188, h⟩ := chk_elim h
                          refine j_scld (wrap_inR _) dL_law_838 c188 ?_
                          refine j_aload_n (j := 0) dL_law_839 rfl rfl ?_
                          refine j_iload (j := 5) dL_law_840 rfl ?_
                          refine j_iconst dL_law_842 ?_
                          refine j_iadd dL_law_843 ?_
                          obtain ⟨c189, h⟩ := chk_elim h
                          refine j_scld (wrap_inR _) dL_law_844 c189 ?_
                          refine j_aload_n (j := 0) dL_law_845 rfl rfl ?_
                          refine j_iload (j := 5) dL_law_846 rfl ?_
                          refine j_iconst dL_law_848 ?_
                          refine j_iadd dL_law_849 ?_
                          obtain ⟨c190, h⟩ := chk_elim h
                          refine j_scld (wrap_inR _) dL_law_850 c190 ?_
                          refine j_aload_n (j := 3) dL_law_851 rfl rfl ?_
                          obtain ⟨p192, e191, h⟩ := obind_elim h
                          refine j_callSW (n := 5) ML_163 YL_plani YL_planc (by decide) (by decide +kernel) IL_plan (by decide) (by omega) (Nat.le_of_ble_eq_true rfl) rfl (ctL_plan (d := d - 1) hl (by omega) (i32_inR _) (i32_inR _) (i32_inR _) e191) dL_law_852 rfl (fun z193 xt194 => ?_)
                          refine j_istore (lv' := [(6, vI p192.1), (0, .ref (gS g 6)), (1, .ref (gB g + 1)), (2, .ref (gB g + 349)), (3, .ref (gB g + 374)), (4, .ref (gB g + 375)), (5, vI x5)]) dL_law_855 (by decide) (by first | rfl | (simp only [List.all_cons, List.all_nil, rv_cat]; rfl)) rfl ?_
                          refine j_aload_n (j := 3) dL_law_857 rfl rfl ?_
                          refine j_aload_n (j := 1) dL_law_858 rfl rfl ?_
                          refine j_iload (j := 6) dL_law_859 rfl ?_
                          refine j_iconst dL_law_861 ?_
                          refine j_iadd dL_law_862 ?_
                          obtain ⟨c195, h⟩ := chk_elim h
                          refine j_scld (wrap_inR _) dL_law_863 c195 ?_
                          refine j_aload_n (j := 1) dL_law_864 rfl rfl ?_
                          refine j_iload (j := 6) dL_law_865 rfl ?_
                          refine j_iconst dL_law_867 ?_
                          refine j_iadd dL_law_868 ?_
                          obtain ⟨c196, h⟩ := chk_elim h
                          refine j_scld (wrap_inR _) dL_law_869 c196 ?_
                          refine j_aload_n (j := 1) dL_law_870 rfl rfl ?_
                          refine j_iload (j := 6) dL_law_871 rfl ?_
                          refine j_iconst dL_law_873 ?_
                          refine j_iadd dL_law_874 ?_
                          obtain ⟨c197, h⟩ := chk_elim h
                          refine j_scld (wrap_inR _) dL_law_875 c197 ?_
                          obtain ⟨p199, e198, h⟩ := obind_elim h
                          refine j_callV ML_165 YX9_plan IX9_plan SX9_plan (by decide) rfl (by decide) (by omega) (Nat.le_of_ble_eq_true rfl) rfl (ctX9_plan (d := d - 1) hl (by omega) (i32_inR _) (i32_inR _) (i32_inR _) e198) dL_law_876 (VK_c 9 349 rfl).1 (VK_c 9 349 rfl).lt (VK_c 9 349 rfl).ka rfl (fun z200 xt201 => ?_)
                          refine j_istore (lv' := [(7, vI p199.1), (6, vI p192.1), (0, .ref (gS g 6)), (1, .ref (gB g + 1)), (2, .ref (gB g + 349)), (3, .ref (gB g + 374)), (4, .ref (gB g + 375)), (5, vI x5)]) dL_law_879 (by decide) (by first | rfl | (simp only [List.all_cons, List.all_nil, rv_cat]; rfl)) rfl ?_
                          refine j_aload_n (j := 4) dL_law_881 rfl rfl ?_
                          obtain ⟨z203, e202, h⟩ := obind_elim h
                          refine j_callV ML_133 YX9_thrown IX9_thrown SX9_thrown (by decide) rfl (by decide) (by omega) (Nat.le_of_ble_eq_true rfl) rfl (ctX9_thrown (d := d - 1) hl (by omega)  e202) dL_law_882 (VK_c 9 349 rfl).1 (VK_c 9 349 rfl).lt (VK_c 9 349 rfl).ka rfl (fun z204 _ => ?_)
                          refine j_iload (j := 1) dL_law_885 rfl ?_
                          by_cases c206 : z203 = p192.1
                          · rw [if_pos c206] at h
                            refine j_icmp_eq_t z204 z193 dL_law_887 (tgt := 892) (by decide) c206 ?_
                            refine j_iload (j := 1) dL_law_892 rfl ?_
                            by_cases c207 : p192.1 = 0
                            · rw [if_pos c207] at h
                              refine j_if_ne_f z193 dL_law_894 (tgt := 909) (by decide) (fun q => q c207) ?_
                              refine j_aload_n (j := 5) dL_law_897 rfl rfl ?_
                              refine j_iconst dL_law_898 ?_
                              refine j_lald dL_law_899 (fun r209 => ?_)
                              refine j_iload (j := 0) dL_law_900 rfl ?_
                              refine j_i2l z200 dL_law_902 ?_
                              refine j_lcmp r209 z200 dL_law_903 ?_
                              by_cases c210 : (icmp (gI p199.2 374 0) p199.1) = 0
                              · rw [if_pos c210] at h
                                refine j_if_eq_t (icmp_inR _ _) dL_law_904 (tgt := 909) (by decide) c210 ?_
                                refine j_goto (tgt := 2235) dL_law_909 (by decide) ?_
                                obtain ⟨u211, eu211, h⟩ := bnd_elim h
                                have hu211 : inR u211 := by rw [eu211]; exact wrap_inR _
                                refine j_iincN (k := 7) (lv' := [(5, vI u211), (7, vI p199.1), (6, vI p192.1), (0, .ref (gS g 6)), (1, .ref (gB g + 1)), (2, .ref (gB g + 349)), (3, .ref (gB g + 374)), (4, .ref (gB g + 375))]) eu211 dL_law_2235 rfl (by decide) (by first | rfl | (simp only [List.all_cons, List.all_nil, rv_cat]; rfl)) rfl ?_
                                refine j_goto (tgt := 28) dL_law_2238 (by decide) ?_
                                exact j_sub [3, 4, 5, 6, 7, 0] rfl (ih p199.2 u211 hu211 h)
                              · rw [if_neg c210] at h
                                refine j_if_eq_f (icmp_inR _ _) dL_law_904 (tgt := 909) (by decide) c210 ?_
                                refine j_iconst dL_law_907 ?_
                                cases h
                                exact j_iret dL_law_908 rfl ((nar_bool (Or.inl rfl)).1) rfl (Or.inl rfl)
                            · rw [if_neg c207] at h
                              refine j_if_ne_t z193 dL_law_894 (tgt := 909) (by decide) c207 ?_
                              refine j_goto (tgt := 2235) dL_law_909 (by decide) ?_
                              obtain ⟨u208, eu208, h⟩ := bnd_elim h
                              have hu208 : inR u208 := by rw [eu208]; exact wrap_inR _
                              refine j_iincN (k := 7) (lv' := [(5, vI u208), (7, vI p199.1), (6, vI p192.1), (0, .ref (gS g 6)), (1, .ref (gB g + 1)), (2, .ref (gB g + 349)), (3, .ref (gB g + 374)), (4, .ref (gB g + 375))]) eu208 dL_law_2235 rfl (by decide) (by first | rfl | (simp only [List.all_cons, List.all_nil, rv_cat]; rfl)) rfl ?_
                              refine j_goto (tgt := 28) dL_law_2238 (by decide) ?_
                              exact j_sub [3, 4, 5, 6, 7, 0] rfl (ih p199.2 u208 hu208 h)
                          · rw [if_neg c206] at h
                            refine j_icmp_eq_f z204 z193 dL_law_887 (tgt := 892) (by decide) c206 ?_
                            refine j_iconst dL_law_890 ?_
                            cases h
                            exact j_iret dL_law_891 rfl ((nar_bool (Or.inl rfl)).1) rfl (Or.inl rfl)
                        · rw [if_neg c187] at h
                          by_cases c212 : (iAnd (gXi g x5.toNat) 63) = 10
                          · rw [if_pos c212] at h
                            refine j_table_in (tgt := 912) (iAnd_inR _ _) dL_law_45 (by omega) (by omega) (by rw [c212]; rfl) (by decide) ?_
                            refine j_aload_n (j := 1) dL_law_912 rfl rfl ?_
                            refine j_aload_n (j := 0) dL_law_913 rfl rfl ?_
                            refine j_iload (j := 5) dL_law_914 rfl ?_
                            refine j_iconst dL_law_916 ?_
                            refine j_iadd dL_law_917 ?_
                            obtain ⟨c213, h⟩ := chk_elim h
                            refine j_scld (wrap_inR _) dL_law_918 c213 ?_
                            refine j_aload_n (j := 0) dL_law_919 rfl rfl ?_
                            refine j_iload (j := 5) dL_law_920 rfl ?_
                            refine j_iconst dL_law_922 ?_
                            refine j_iadd dL_law_923 ?_
                            obtain ⟨c214, h⟩ := chk_elim h
                            refine j_scld (wrap_inR _) dL_law_924 c214 ?_
                            refine j_aload_n (j := 0) dL_law_925 rfl rfl ?_
                            refine j_iload (j := 5) dL_law_926 rfl ?_
                            refine j_iconst dL_law_928 ?_
                            refine j_iadd dL_law_929 ?_
                            obtain ⟨c215, h⟩ := chk_elim h
                            refine j_scld (wrap_inR _) dL_law_930 c215 ?_
                            refine j_aload_n (j := 3) dL_law_931 rfl rfl ?_
                            obtain ⟨p217, e216, h⟩ := obind_elim h
                            refine j_callSW (n := 5) ML_166 YL_runi YL_runc (by decide) (by decide +kernel) IL_run (by decide) (by omega) (Nat.le_of_ble_eq_true rfl) rfl (ctL_run (d := d - 1) hl (by omega) (i32_inR _) (i32_inR _) (i32_inR _) e216) dL_law_932 rfl (fun z218 xt219 => ?_)
                            refine j_istore (lv' := [(6, vI p217.1), (0, .ref (gS g 6)), (1, .ref (gB g + 1)), (2, .ref (gB g + 349)), (3, .ref (gB g + 374)), (4, .ref (gB g + 375)), (5, vI x5)]) dL_law_935 (by decide) (by first | rfl | (simp only [List.all_cons, List.all_nil, rv_cat]; rfl)) rfl ?_
                            refine j_aload_n (j := 3) dL_law_937 rfl rfl ?_
                            refine j_aload_n (j := 1) dL_law_938 rfl rfl ?_
                            refine j_iload (j := 6) dL_law_939 rfl ?_
                            refine j_iconst dL_law_941 ?_
                            refine j_iadd dL_law_942 ?_
                            obtain ⟨c220, h⟩ := chk_elim h
                            refine j_scld (wrap_inR _) dL_law_943 c220 ?_
                            refine j_aload_n (j := 1) dL_law_944 rfl rfl ?_
                            refine j_iload (j := 6) dL_law_945 rfl ?_
                            refine j_iconst dL_law_947 ?_
                            refine j_iadd dL_law_948 ?_
                            obtain ⟨c221, h⟩ := chk_elim h
                            refine j_scld (wrap_inR _) dL_law_949 c221 ?_
                            refine j_aload_n (j := 1) dL_law_950 rfl rfl ?_
                            refine j_iload (j := 6) dL_law_951 rfl ?_
                            refine j_iconst dL_law_953 ?_
                            refine j_iadd dL_law_954 ?_
                            obtain ⟨c222, h⟩ := chk_elim h
                            refine j_scld (wrap_inR _) dL_law_955 c222 ?_
                            obtain ⟨p224, e223, h⟩ := obind_elim h
                            refine j_callV ML_168 YX9_run IX9_run SX9_run (by decide) rfl (by decide) (by omega) (Nat.le_of_ble_eq_true rfl) rfl (ctX9_run (d := d - 1) hl (by omega) (i32_inR _) (i32_inR _) (i32_inR _) e223) dL_law_956 (VK_c 9 349 rfl).1 (VK_c 9 349 rfl).lt (VK_c 9 349 rfl).ka rfl (fun z225 xt226 => ?_)
                            refine j_istore (lv' := [(7, vI p224.1), (6, vI p217.1), (0, .ref (gS g 6)), (1, .ref (gB g + 1)), (2, .ref (gB g + 349)), (3, .ref (gB g + 374)), (4, .ref (gB g + 375)), (5, vI x5)]) dL_law_959 (by decide) (by first | rfl | (simp only [List.all_cons, List.all_nil, rv_cat]; rfl)) rfl ?_
                            refine j_aload_n (j := 4) dL_law_961 rfl rfl ?_
                            obtain ⟨z228, e227, h⟩ := obind_elim h
                            refine j_callV ML_133 YX9_thrown IX9_thrown SX9_thrown (by decide) rfl (by decide) (by omega) (Nat.le_of_ble_eq_true rfl) rfl (ctX9_thrown (d := d - 1) hl (by omega)  e227) dL_law_962 (VK_c 9 349 rfl).1 (VK_c 9 349 rfl).lt (VK_c 9 349 rfl).ka rfl (fun z229 _ => ?_)
                            refine j_iload (j := 1) dL_law_965 rfl ?_
                            by_cases c231 : z228 = p217.1
                            · rw [if_pos c231] at h
                              refine j_icmp_eq_t z229 z218 dL_law_967 (tgt := 972) (by decide) c231 ?_
                              refine j_iload (j := 1) dL_law_972 rfl ?_
                              by_cases c232 : p217.1 = 0
                              · rw [if_pos c232] at h
                                refine j_if_ne_f z218 dL_law_974 (tgt := 989) (by decide) (fun q => q c232) ?_
                                refine j_aload_n (j := 5) dL_law_977 rfl rfl ?_
                                refine j_iconst dL_law_978 ?_
                                refine j_lald dL_law_979 (fun r234 => ?_)
                                refine j_iload (j := 0) dL_law_980 rfl ?_
                                refine j_i2l z225 dL_law_982 ?_
                                refine j_lcmp r234 z225 dL_law_983 ?_
                                by_cases c235 : (icmp (gI p224.2 374 0) p224.1) = 0
                                · rw [if_pos c235] at h
                                  refine j_if_eq_t (icmp_inR _ _) dL_law_984 (tgt := 989) (by decide) c235 ?_
                                  refine j_goto (tgt := 2235) dL_law_989 (by decide) ?_
                                  obtain ⟨u236, eu236, h⟩ := bnd_elim h
                                  have hu236 : inR u236 := by rw [eu236]; exact wrap_inR _
                                  refine j_iincN (k := 7) (lv' := [(5, vI u236), (7, vI p224.1), (6, vI p217.1), (0, .ref (gS g 6)), (1, .ref (gB g + 1)), (2, .ref (gB g + 349)), (3, .ref (gB g + 374)), (4, .ref (gB g + 375))]) eu236 dL_law_2235 rfl (by decide) (by first | rfl | (simp only [List.all_cons, List.all_nil, rv_cat]; rfl)) rfl ?_
                                  refine j_goto (tgt := 28) dL_law_2238 (by decide) ?_
                                  exact j_sub [3, 4, 5, 6, 7, 0] rfl (ih p224.2 u236 hu236 h)
                                · rw [if_neg c235] at h
                                  refine j_if_eq_f (icmp_inR _ _) dL_law_984 (tgt := 989) (by decide) c235 ?_
                                  refine j_iconst dL_law_987 ?_
                                  cases h
                                  exact j_iret dL_law_988 rfl ((nar_bool (Or.inl rfl)).1) rfl (Or.inl rfl)
                              · rw [if_neg c232] at h
                                refine j_if_ne_t z218 dL_law_974 (tgt := 989) (by decide) c232 ?_
                                refine j_goto (tgt := 2235) dL_law_989 (by decide) ?_
                                obtain ⟨u233, eu233, h⟩ := bnd_elim h
                                have hu233 : inR u233 := by rw [eu233]; exact wrap_inR _
                                refine j_iincN (k := 7) (lv' := [(5, vI u233), (7, vI p224.1), (6, vI p217.1), (0, .ref (gS g 6)), (1, .ref (gB g + 1)), (2, .ref (gB g + 349)), (3, .ref (gB g + 374)), (4, .ref (gB g + 375))]) eu233 dL_law_2235 rfl (by decide) (by first | rfl | (simp only [List.all_cons, List.all_nil, rv_cat]; rfl)) rfl ?_
                                refine j_goto (tgt := 28) dL_law_2238 (by decide) ?_
                                exact j_sub [3, 4, 5, 6, 7, 0] rfl (ih p224.2 u233 hu233 h)
                            · rw [if_neg c231] at h
                              refine j_icmp_eq_f z229 z218 dL_law_967 (tgt := 972) (by decide) c231 ?_
                              refine j_iconst dL_law_970 ?_
                              cases h
                              exact j_iret dL_law_971 rfl ((nar_bool (Or.inl rfl)).1) rfl (Or.inl rfl)
                          · rw [if_neg c212] at h
                            by_cases c237 : (iAnd (gXi g x5.toNat) 63) = 11
                            · rw [if_pos c237] at h
                              refine j_table_in (tgt := 992) (iAnd_inR _ _) dL_law_45 (by omega) (by omega) (by rw [c237]; rfl) (by decide) ?_
                              refine j_aload_n (j := 1) dL_law_992 rfl rfl ?_
                              refine j_aload_n (j := 0) dL_law_993 rfl rfl ?_
                              refine j_iload (j := 5) dL_law_994 rfl ?_
                              refine j_iconst dL_law_996 ?_
                              refine j_iadd dL_law_997 ?_
                              obtain ⟨c238, h⟩ := chk_elim h
                              refine j_scld (wrap_inR _) dL_law_998 c238 ?_
                              refine j_aload_n (j := 0) dL_law_999 rfl rfl ?_
                              refine j_iload (j := 5) dL_law_1000 rfl ?_
                              refine j_iconst dL_law_1002 ?_
                              refine j_iadd dL_law_1003 ?_
                              obtain ⟨c239, h⟩ := chk_elim h
                              refine j_scld (wrap_inR _) dL_law_1004 c239 ?_
                              refine j_aload_n (j := 3) dL_law_1005 rfl rfl ?_
                              obtain ⟨p241, e240, h⟩ := obind_elim h
                              refine j_callSW (n := 4) ML_169 YL_servingi YL_servingc (by decide) (by decide +kernel) IL_serving (by decide) (by omega) (Nat.le_of_ble_eq_true rfl) rfl (ctL_serving (d := d - 1) hl (by omega) (i32_inR _) (i32_inR _) e240) dL_law_1006 rfl (fun z242 xt243 => ?_)
                              refine j_istore (lv' := [(6, vI p241.1), (0, .ref (gS g 6)), (1, .ref (gB g + 1)), (2, .ref (gB g + 349)), (3, .ref (gB g + 374)), (4, .ref (gB g + 375)), (5, vI x5)]) dL_law_1009 (by decide) (by first | rfl | (simp only [List.all_cons, List.all_nil, rv_cat]; rfl)) rfl ?_
                              refine j_aload_n (j := 3) dL_law_1011 rfl rfl ?_
                              refine j_aload_n (j := 1) dL_law_1012 rfl rfl ?_
                              refine j_iload (j := 6) dL_law_1013 rfl ?_
                              refine j_iconst dL_law_1015 ?_
                              refine j_iadd dL_law_1016 ?_
                              obtain ⟨c244, h⟩ := chk_elim h
                              refine j_scld (wrap_inR _) dL_law_1017 c244 ?_
                              refine j_aload_n (j := 1) dL_law_1018 rfl rfl ?_
                              refine j_iload (j := 6) dL_law_1019 rfl ?_
                              refine j_iconst dL_law_1021 ?_
                              refine j_iadd dL_law_1022 ?_
                              obtain ⟨c245, h⟩ := chk_elim h
                              refine j_scld (wrap_inR _) dL_law_1023 c245 ?_
                              obtain ⟨p247, e246, h⟩ := obind_elim h
                              refine j_callV ML_171 YX9_serving IX9_serving SX9_serving (by decide) rfl (by decide) (by omega) (Nat.le_of_ble_eq_true rfl) rfl (ctX9_serving (d := d - 1) hl (by omega) (i32_inR _) (i32_inR _) e246) dL_law_1024 (VK_c 9 349 rfl).1 (VK_c 9 349 rfl).lt (VK_c 9 349 rfl).ka rfl (fun z248 xt249 => ?_)
                              refine j_istore (lv' := [(7, vI p247.1), (6, vI p241.1), (0, .ref (gS g 6)), (1, .ref (gB g + 1)), (2, .ref (gB g + 349)), (3, .ref (gB g + 374)), (4, .ref (gB g + 375)), (5, vI x5)]) dL_law_1027 (by decide) (by first | rfl | (simp only [List.all_cons, List.all_nil, rv_cat]; rfl)) rfl ?_
                              refine j_aload_n (j := 4) dL_law_1029 rfl rfl ?_
                              obtain ⟨z251, e250, h⟩ := obind_elim h
                              refine j_callV ML_133 YX9_thrown IX9_thrown SX9_thrown (by decide) rfl (by decide) (by omega) (Nat.le_of_ble_eq_true rfl) rfl (ctX9_thrown (d := d - 1) hl (by omega)  e250) dL_law_1030 (VK_c 9 349 rfl).1 (VK_c 9 349 rfl).lt (VK_c 9 349 rfl).ka rfl (fun z252 _ => ?_)
                              refine j_iload (j := 1) dL_law_1033 rfl ?_
                              by_cases c254 : z251 = p241.1
                              · rw [if_pos c254] at h
                                refine j_icmp_eq_t z252 z242 dL_law_1035 (tgt := 1040) (by decide) c254 ?_
                                refine j_iload (j := 1) dL_law_1040 rfl ?_
                                by_cases c255 : p241.1 = 0
                                · rw [if_pos c255] at h
                                  refine j_if_ne_f z242 dL_law_1042 (tgt := 1057) (by decide) (fun q => q c255) ?_
                                  refine j_aload_n (j := 5) dL_law_1045 rfl rfl ?_
                                  refine j_iconst dL_law_1046 ?_
                                  refine j_lald dL_law_1047 (fun r257 => ?_)
                                  refine j_iload (j := 0) dL_law_1048 rfl ?_
                                  refine j_i2l z248 dL_law_1050 ?_
                                  refine j_lcmp r257 z248 dL_law_1051 ?_
                                  by_cases c258 : (icmp (gI p247.2 374 0) p247.1) = 0
                                  · rw [if_pos c258] at h
                                    refine j_if_eq_t (icmp_inR _ _) dL_law_1052 (tgt := 1057) (by decide) c258 ?_
                                    refine j_goto (tgt := 2235) dL_law_1057 (by decide) ?_
                                    obtain ⟨u259, eu259, h⟩ := bnd_elim h
                                    have hu259 : inR u259 := by rw [eu259]; exact wrap_inR _
                                    refine j_iincN (k := 7) (lv' := [(5, vI u259), (7, vI p247.1), (6, vI p241.1), (0, .ref (gS g 6)), (1, .ref (gB g + 1)), (2, .ref (gB g + 349)), (3, .ref (gB g + 374)), (4, .ref (gB g + 375))]) eu259 dL_law_2235 rfl (by decide) (by first | rfl | (simp only [List.all_cons, List.all_nil, rv_cat]; rfl)) rfl ?_
                                    refine j_goto (tgt := 28) dL_law_2238 (by decide) ?_
                                    exact j_sub [3, 4, 5, 6, 7, 0] rfl (ih p247.2 u259 hu259 h)
                                  · rw [if_neg c258] at h
                                    refine j_if_eq_f (icmp_inR _ _) dL_law_1052 (tgt := 1057) (by decide) c258 ?_
                                    refine j_iconst dL_law_1055 ?_
                                    cases h
                                    exact j_iret dL_law_1056 rfl ((nar_bool (Or.inl rfl)).1) rfl (Or.inl rfl)
                                · rw [if_neg c255] at h
                                  refine j_if_ne_t z242 dL_law_1042 (tgt := 1057) (by decide) c255 ?_
                                  refine j_goto (tgt := 2235) dL_law_1057 (by decide) ?_
                                  obtain ⟨u256, eu256, h⟩ := bnd_elim h
                                  have hu256 : inR u256 := by rw [eu256]; exact wrap_inR _
                                  refine j_iincN (k := 7) (lv' := [(5, vI u256), (7, vI p247.1), (6, vI p241.1), (0, .ref (gS g 6)), (1, .ref (gB g + 1)), (2, .ref (gB g + 349)), (3, .ref (gB g + 374)), (4, .ref (gB g + 375))]) eu256 dL_law_2235 rfl (by decide) (by first | rfl | (simp only [List.all_cons, List.all_nil, rv_cat]; rfl)) rfl ?_
                                  refine j_goto (tgt := 28) dL_law_2238 (by decide) ?_
                                  exact j_sub [3, 4, 5, 6, 7, 0] rfl (ih p247.2 u256 hu256 h)
                              · rw [if_neg c254] at h
                                refine j_icmp_eq_f z252 z242 dL_law_1035 (tgt := 1040) (by decide) c254 ?_
                                refine j_iconst dL_law_1038 ?_
                                cases h
                                exact j_iret dL_law_1039 rfl ((nar_bool (Or.inl rfl)).1) rfl (Or.inl rfl)
                            · rw [if_neg c237] at h
                              by_cases c260 : (iAnd (gXi g x5.toNat) 63) = 12
                              · rw [if_pos c260] at h
                                refine j_table_in (tgt := 1060) (iAnd_inR _ _) dL_law_45 (by omega) (by omega) (by rw [c260]; rfl) (by decide) ?_
                                refine j_aload_n (j := 1) dL_law_1060 rfl rfl ?_
                                refine j_aload_n (j := 0) dL_law_1061 rfl rfl ?_
                                refine j_iload (j := 5) dL_law_1062 rfl ?_
                                refine j_iconst dL_law_1064 ?_
                                refine j_iadd dL_law_1065 ?_
                                obtain ⟨c261, h⟩ := chk_elim h
                                refine j_scld (wrap_inR _) dL_law_1066 c261 ?_
                                refine j_aload_n (j := 3) dL_law_1067 rfl rfl ?_
                                obtain ⟨p263, e262, h⟩ := obind_elim h
                                refine j_callSW (n := 3) ML_172 YL_servei YL_servec (by decide) (by decide +kernel) IL_serve (by decide) (by omega) (Nat.le_of_ble_eq_true rfl) rfl (ctL_serve (d := d - 1) hl (by omega) (i32_inR _) e262) dL_law_1068 rfl (fun z264 xt265 => ?_)
                                refine j_istore (lv' := [(6, vI p263.1), (0, .ref (gS g 6)), (1, .ref (gB g + 1)), (2, .ref (gB g + 349)), (3, .ref (gB g + 374)), (4, .ref (gB g + 375)), (5, vI x5)]) dL_law_1071 (by decide) (by first | rfl | (simp only [List.all_cons, List.all_nil, rv_cat]; rfl)) rfl ?_
                                refine j_aload_n (j := 3) dL_law_1073 rfl rfl ?_
                                refine j_aload_n (j := 1) dL_law_1074 rfl rfl ?_
                                refine j_iload (j := 6) dL_law_1075 rfl ?_
                                refine j_iconst dL_law_1077 ?_
                                refine j_iadd dL_law_1078 ?_
                                obtain ⟨c266, h⟩ := chk_elim h
                                refine j_scld (wrap_inR _) dL_law_1079 c266 ?_
                                obtain ⟨p268, e267, h⟩ := obind_elim h
                                refine j_callV ML_174 YX9_serve IX9_serve SX9_serve (by decide) rfl (by decide) (by omega) (Nat.le_of_ble_eq_true rfl) rfl (ctX9_serve (d := d - 1) hl (by omega) (i32_inR _) e267) dL_law_1080 (VK_c 9 349 rfl).1 (VK_c 9 349 rfl).lt (VK_c 9 349 rfl).ka rfl (fun z269 xt270 => ?_)
                                refine j_istore (lv' := [(7, vI p268.1), (6, vI p263.1), (0, .ref (gS g 6)), (1, .ref (gB g + 1)), (2, .ref (gB g + 349)), (3, .ref (gB g + 374)), (4, .ref (gB g + 375)), (5, vI x5)]) dL_law_1083 (by decide) (by first | rfl | (simp only [List.all_cons, List.all_nil, rv_cat]; rfl)) rfl ?_
                                refine j_aload_n (j := 4) dL_law_1085 rfl rfl ?_
                                obtain ⟨z272, e271, h⟩ := obind_elim h
                                refine j_callV ML_133 YX9_thrown IX9_thrown SX9_thrown (by decide) rfl (by decide) (by omega) (Nat.le_of_ble_eq_true rfl) rfl (ctX9_thrown (d := d - 1) hl (by omega)  e271) dL_law_1086 (VK_c 9 349 rfl).1 (VK_c 9 349 rfl).lt (VK_c 9 349 rfl).ka rfl (fun z273 _ => ?_)
                                refine j_iload (j := 1) dL_law_1089 rfl ?_
                                by_cases c275 : z272 = p263.1
                                · rw [if_pos c275] at h
                                  refine j_icmp_eq_t z273 z264 dL_law_1091 (tgt := 1096) (by decide) c275 ?_
                                  refine j_iload (j := 1) dL_law_1096 rfl ?_
                                  by_cases c276 : p263.1 = 0
                                  · rw [if_pos c276] at h
                                    refine j_if_ne_f z264 dL_law_1098 (tgt := 1113) (by decide) (fun q => q c276) ?_
                                    refine j_aload_n (j := 5) dL_law_1101 rfl rfl ?_
                                    refine j_iconst dL_law_1102 ?_
                                    refine j_lald dL_law_1103 (fun r278 => ?_)
                                    refine j_iload (j := 0) dL_law_1104 rfl ?_
                                    refine j_i2l z269 dL_law_1106 ?_
                                    refine j_lcmp r278 z269 dL_law_1107 ?_
                                    by_cases c279 : (icmp (gI p268.2 374 0) p268.1) = 0
                                    · rw [if_pos c279] at h
                                      refine j_if_eq_t (icmp_inR _ _) dL_law_1108 (tgt := 1113) (by decide) c279 ?_
                                      refine j_goto (tgt := 2235) dL_law_1113 (by decide) ?_
                                      obtain ⟨u280, eu280, h⟩ := bnd_elim h
                                      have hu280 : inR u280 := by rw [eu280]; exact wrap_inR _
                                      refine j_iincN (k := 7) (lv' := [(5, vI u280), (7, vI p268.1), (6, vI p263.1), (0, .ref (gS g 6)), (1, .ref (gB g + 1)), (2, .ref (gB g + 349)), (3, .ref (gB g + 374)), (4, .ref (gB g + 375))]) eu280 dL_law_2235 rfl (by decide) (by first | rfl | (simp only [List.all_cons, List.all_nil, rv_cat]; rfl)) rfl ?_
                                      refine j_goto (tgt := 28) dL_law_2238 (by decide) ?_
                                      exact j_sub [3, 4, 5, 6, 7, 0] rfl (ih p268.2 u280 hu280 h)
                                    · rw [if_neg c279] at h
                                      refine j_if_eq_f (icmp_inR _ _) dL_law_1108 (tgt := 1113) (by decide) c279 ?_
                                      refine j_iconst dL_law_1111 ?_
                                      cases h
                                      exact j_iret dL_law_1112 rfl ((nar_bool (Or.inl rfl)).1) rfl (Or.inl rfl)
                                  · rw [if_neg c276] at h
                                    refine j_if_ne_t z264 dL_law_1098 (tgt := 1113) (by decide) c276 ?_
                                    refine j_goto (tgt := 2235) dL_law_1113 (by decide) ?_
                                    obtain ⟨u277, eu277, h⟩ := bnd_elim h
                                    have hu277 : inR u277 := by rw [eu277]; exact wrap_inR _
                                    refine j_iincN (k := 7) (lv' := [(5, vI u277), (7, vI p268.1), (6, vI p263.1), (0, .ref (gS g 6)), (1, .ref (gB g + 1)), (2, .ref (gB g + 349)), (3, .ref (gB g + 374)), (4, .ref (gB g + 375))]) eu277 dL_law_2235 rfl (by decide) (by first | rfl | (simp only [List.all_cons, List.all_nil, rv_cat]; rfl)) rfl ?_
                                    refine j_goto (tgt := 28) dL_law_2238 (by decide) ?_
                                    exact j_sub [3, 4, 5, 6, 7, 0] rfl (ih p268.2 u277 hu277 h)
                                · rw [if_neg c275] at h
                                  refine j_icmp_eq_f z273 z264 dL_law_1091 (tgt := 1096) (by decide) c275 ?_
                                  refine j_iconst dL_law_1094 ?_
                                  cases h
                                  exact j_iret dL_law_1095 rfl ((nar_bool (Or.inl rfl)).1) rfl (Or.inl rfl)
                              · rw [if_neg c260] at h
                                by_cases c281 : (iAnd (gXi g x5.toNat) 63) = 13
                                · rw [if_pos c281] at h
                                  refine j_table_in (tgt := 1116) (iAnd_inR _ _) dL_law_45 (by omega) (by omega) (by rw [c281]; rfl) (by decide) ?_
                                  refine j_aload_n (j := 1) dL_law_1116 rfl rfl ?_
                                  obtain ⟨p283, e282, h⟩ := obind_elim h
                                  refine j_callV ML_175 YX8_serveAll IX8_serveAll SX8_serveAll (by decide) rfl (by decide) (by omega) (Nat.le_of_ble_eq_true rfl) rfl (ctX8_serveAll (d := d - 1) hl (by omega)  e282) dL_law_1117 (VK_c 8 1 rfl).1 (VK_c 8 1 rfl).lt (VK_c 8 1 rfl).ka rfl (fun z284 xt285 => ?_)
                                  refine j_aload_n (j := 2) dL_law_1120 rfl rfl ?_
                                  obtain ⟨p287, e286, h⟩ := obind_elim h
                                  refine j_callV ML_178 YX9_serveAll IX9_serveAll SX9_serveAll (by decide) rfl (by decide) (by omega) (Nat.le_of_ble_eq_true rfl) rfl (ctX9_serveAll (d := d - 1) hl (by omega)  e286) dL_law_1121 (VK_c 9 349 rfl).1 (VK_c 9 349 rfl).lt (VK_c 9 349 rfl).ka rfl (fun z288 xt289 => ?_)
                                  by_cases c290 : p283.1 = p287.1
                                  · rw [if_pos c290] at h
                                    refine j_icmp_eq_t z284 z288 dL_law_1124 (tgt := 2235) (by decide) c290 ?_
                                    obtain ⟨u291, eu291, h⟩ := bnd_elim h
                                    have hu291 : inR u291 := by rw [eu291]; exact wrap_inR _
                                    refine j_iincN (k := 5) (lv' := [(5, vI u291), (0, .ref (gS g 6)), (1, .ref (gB g + 1)), (2, .ref (gB g + 349)), (3, .ref (gB g + 374)), (4, .ref (gB g + 375))]) eu291 dL_law_2235 rfl (by decide) (by first | rfl | (simp only [List.all_cons, List.all_nil, rv_cat]; rfl)) rfl ?_
                                    refine j_goto (tgt := 28) dL_law_2238 (by decide) ?_
                                    exact j_sub [1, 2, 3, 4, 5, 0] rfl (ih p287.2 u291 hu291 h)
                                  · rw [if_neg c290] at h
                                    refine j_icmp_eq_f z284 z288 dL_law_1124 (tgt := 2235) (by decide) c290 ?_
                                    refine j_iconst dL_law_1127 ?_
                                    cases h
                                    exact j_iret dL_law_1128 rfl ((nar_bool (Or.inl rfl)).1) rfl (Or.inl rfl)
                                · rw [if_neg c281] at h
                                  by_cases c292 : (iAnd (gXi g x5.toNat) 63) = 14
                                  · rw [if_pos c292] at h
                                    refine j_table_in (tgt := 1129) (iAnd_inR _ _) dL_law_45 (by omega) (by omega) (by rw [c292]; rfl) (by decide) ?_
                                    refine j_aload_n (j := 1) dL_law_1129 rfl rfl ?_
                                    refine j_aload_n (j := 0) dL_law_1130 rfl rfl ?_
                                    refine j_iload (j := 5) dL_law_1131 rfl ?_
                                    refine j_iconst dL_law_1133 ?_
                                    refine j_iadd dL_law_1134 ?_
                                    obtain ⟨c293, h⟩ := chk_elim h
                                    refine j_scld (wrap_inR _) dL_law_1135 c293 ?_
                                    refine j_aload_n (j := 3) dL_law_1136 rfl rfl ?_
                                    obtain ⟨p295, e294, h⟩ := obind_elim h
                                    refine j_callSW (n := 3) ML_179 YL_releasei YL_releasec (by decide) (by decide +kernel) IL_release (by decide) (by omega) (Nat.le_of_ble_eq_true rfl) rfl (ctL_release (d := d - 1) hl (by omega) (i32_inR _) e294) dL_law_1137 rfl (fun z296 xt297 => ?_)
                                    refine j_istore (lv' := [(6, vI p295.1), (0, .ref (gS g 6)), (1, .ref (gB g + 1)), (2, .ref (gB g + 349)), (3, .ref (gB g + 374)), (4, .ref (gB g + 375)), (5, vI x5)]) dL_law_1140 (by decide) (by first | rfl | (simp only [List.all_cons, List.all_nil, rv_cat]; rfl)) rfl ?_
                                    refine j_aload_n (j := 3) dL_law_1142 rfl rfl ?_
                                    refine j_aload_n (j := 1) dL_law_1143 rfl rfl ?_
                                    refine j_iload (j := 6) dL_law_1144 rfl ?_
                                    refine j_iconst dL_law_1146 ?_
                                    refine j_iadd dL_law_1147 ?_
                                    obtain ⟨c298, h⟩ := chk_elim h
                                    refine j_scld (wrap_inR _) dL_law_1148 c298 ?_
                                    obtain ⟨p300, e299, h⟩ := obind_elim h
                                    refine j_callV ML_181 YX9_release IX9_release SX9_release (by decide) rfl (by decide) (by omega) (Nat.le_of_ble_eq_true rfl) rfl (ctX9_release (d := d - 1) hl (by omega) (i32_inR _) e299) dL_law_1149 (VK_c 9 349 rfl).1 (VK_c 9 349 rfl).lt (VK_c 9 349 rfl).ka rfl (fun z301 xt302 => ?_)
                                    refine j_istore (lv' := [(7, vI p300.1), (6, vI p295.1), (0, .ref (gS g 6)), (1, .ref (gB g + 1)), (2, .ref (gB g + 349)), (3, .ref (gB g + 374)), (4, .ref (gB g + 375)), (5, vI x5)]) dL_law_1152 (by decide) (by first | rfl | (simp only [List.all_cons, List.all_nil, rv_cat]; rfl)) rfl ?_
                                    refine j_aload_n (j := 4) dL_law_1154 rfl rfl ?_
                                    obtain ⟨z304, e303, h⟩ := obind_elim h
                                    refine j_callV ML_133 YX9_thrown IX9_thrown SX9_thrown (by decide) rfl (by decide) (by omega) (Nat.le_of_ble_eq_true rfl) rfl (ctX9_thrown (d := d - 1) hl (by omega)  e303) dL_law_1155 (VK_c 9 349 rfl).1 (VK_c 9 349 rfl).lt (VK_c 9 349 rfl).ka rfl (fun z305 _ => ?_)
                                    refine j_iload (j := 1) dL_law_1158 rfl ?_
                                    by_cases c307 : z304 = p295.1
                                    · rw [if_pos c307] at h
                                      refine j_icmp_eq_t z305 z296 dL_law_1160 (tgt := 1165) (by decide) c307 ?_
                                      refine j_iload (j := 1) dL_law_1165 rfl ?_
                                      by_cases c308 : p295.1 = 0
                                      · rw [if_pos c308] at h
                                        refine j_if_ne_f z296 dL_law_1167 (tgt := 1182) (by decide) (fun q => q c308) ?_
                                        refine j_aload_n (j := 5) dL_law_1170 rfl rfl ?_
                                        refine j_iconst dL_law_1171 ?_
                                        refine j_lald dL_law_1172 (fun r310 => ?_)
                                        refine j_iload (j := 0) dL_law_1173 rfl ?_
                                        refine j_i2l z301 dL_law_1175 ?_
                                        refine j_lcmp r310 z301 dL_law_1176 ?_
                                        by_cases c311 : (icmp (gI p300.2 374 0) p300.1) = 0
                                        · rw [if_pos c311] at h
                                          refine j_if_eq_t (icmp_inR _ _) dL_law_1177 (tgt := 1182) (by decide) c311 ?_
                                          refine j_goto (tgt := 2235) dL_law_1182 (by decide) ?_
                                          obtain ⟨u312, eu312, h⟩ := bnd_elim h
                                          have hu312 : inR u312 := by rw [eu312]; exact wrap_inR _
                                          refine j_iincN (k := 7) (lv' := [(5, vI u312), (7, vI p300.1), (6, vI p295.1), (0, .ref (gS g 6)), (1, .ref (gB g + 1)), (2, .ref (gB g + 349)), (3, .ref (gB g + 374)), (4, .ref (gB g + 375))]) eu312 dL_law_2235 rfl (by decide) (by first | rfl | (simp only [List.all_cons, List.all_nil, rv_cat]; rfl)) rfl ?_
                                          refine j_goto (tgt := 28) dL_law_2238 (by decide) ?_
                                          exact j_sub [3, 4, 5, 6, 7, 0] rfl (ih p300.2 u312 hu312 h)
                                        · rw [if_neg c311] at h
                                          refine j_if_eq_f (icmp_inR _ _) dL_law_1177 (tgt := 1182) (by decide) c311 ?_
                                          refine j_iconst dL_law_1180 ?_
                                          cases h
                                          exact j_iret dL_law_1181 rfl ((nar_bool (Or.inl rfl)).1) rfl (Or.inl rfl)
                                      · rw [if_neg c308] at h
                                        refine j_if_ne_t z296 dL_law_1167 (tgt := 1182) (by decide) c308 ?_
                                        refine j_goto (tgt := 2235) dL_law_1182 (by decide) ?_
                                        obtain ⟨u309, eu309, h⟩ := bnd_elim h
                                        have hu309 : inR u309 := by rw [eu309]; exact wrap_inR _
                                        refine j_iincN (k := 7) (lv' := [(5, vI u309), (7, vI p300.1), (6, vI p295.1), (0, .ref (gS g 6)), (1, .ref (gB g + 1)), (2, .ref (gB g + 349)), (3, .ref (gB g + 374)), (4, .ref (gB g + 375))]) eu309 dL_law_2235 rfl (by decide) (by first | rfl | (simp only [List.all_cons, List.all_nil, rv_cat]; rfl)) rfl ?_
                                        refine j_goto (tgt := 28) dL_law_2238 (by decide) ?_
                                        exact j_sub [3, 4, 5, 6, 7, 0] rfl (ih p300.2 u309 hu309 h)
                                    · rw [if_neg c307] at h
                                      refine j_icmp_eq_f z305 z296 dL_law_1160 (tgt := 1165) (by decide) c307 ?_
                                      refine j_iconst dL_law_1163 ?_
                                      cases h
                                      exact j_iret dL_law_1164 rfl ((nar_bool (Or.inl rfl)).1) rfl (Or.inl rfl)
                                  · rw [if_neg c292] at h
                                    by_cases c313 : (iAnd (gXi g x5.toNat) 63) = 15
                                    · rw [if_pos c313] at h
                                      refine j_table_in (tgt := 1185) (iAnd_inR _ _) dL_law_45 (by omega) (by omega) (by rw [c313]; rfl) (by decide) ?_
                                      refine j_aload_n (j := 1) dL_law_1185 rfl rfl ?_
                                      refine j_aload_n (j := 0) dL_law_1186 rfl rfl ?_
                                      refine j_iload (j := 5) dL_law_1187 rfl ?_
                                      refine j_iconst dL_law_1189 ?_
                                      refine j_iadd dL_law_1190 ?_
                                      obtain ⟨c314, h⟩ := chk_elim h
                                      refine j_scld (wrap_inR _) dL_law_1191 c314 ?_
                                      refine j_aload_n (j := 0) dL_law_1192 rfl rfl ?_
                                      refine j_iload (j := 5) dL_law_1193 rfl ?_
                                      refine j_iconst dL_law_1195 ?_
                                      refine j_iadd dL_law_1196 ?_
                                      obtain ⟨c315, h⟩ := chk_elim h
                                      refine j_scld (wrap_inR _) dL_law_1197 c315 ?_
                                      refine j_aload_n (j := 3) dL_law_1198 rfl rfl ?_
                                      obtain ⟨p317, e316, h⟩ := obind_elim h
                                      refine j_callSW (n := 4) ML_182 YL_putOffi YL_putOffc (by decide) (by decide +kernel) IL_putOff (by decide) (by omega) (Nat.le_of_ble_eq_true rfl) rfl (ctL_putOff (d := d - 1) hl (by omega) (i32_inR _) (i32_inR _) e316) dL_law_1199 rfl (fun z318 xt319 => ?_)
                                      refine j_istore (lv' := [(6, vI p317.1), (0, .ref (gS g 6)), (1, .ref (gB g + 1)), (2, .ref (gB g + 349)), (3, .ref (gB g + 374)), (4, .ref (gB g + 375)), (5, vI x5)]) dL_law_1202 (by decide) (by first | rfl | (simp only [List.all_cons, List.all_nil, rv_cat]; rfl)) rfl ?_
                                      refine j_aload_n (j := 3) dL_law_1204 rfl rfl ?_
                                      refine j_aload_n (j := 1) dL_law_1205 rfl rfl ?_
                                      refine j_iload (j := 6) dL_law_1206 rfl ?_
                                      refine j_iconst dL_law_1208 ?_
                                      refine j_iadd dL_law_1209 ?_
                                      obtain ⟨c320, h⟩ := chk_elim h
                                      refine j_scld (wrap_inR _) dL_law_1210 c320 ?_
                                      refine j_aload_n (j := 1) dL_law_1211 rfl rfl ?_
                                      refine j_iload (j := 6) dL_law_1212 rfl ?_
                                      refine j_iconst dL_law_1214 ?_
                                      refine j_iadd dL_law_1215 ?_
                                      obtain ⟨c321, h⟩ := chk_elim h
                                      refine j_scld (wrap_inR _) dL_law_1216 c321 ?_
                                      obtain ⟨p323, e322, h⟩ := obind_elim h
                                      refine j_callV ML_184 YX9_putOff IX9_putOff SX9_putOff (by decide) rfl (by decide) (by omega) (Nat.le_of_ble_eq_true rfl) rfl (ctX9_putOff (d := d - 1) hl (by omega) (i32_inR _) (i32_inR _) e322) dL_law_1217 (VK_c 9 349 rfl).1 (VK_c 9 349 rfl).lt (VK_c 9 349 rfl).ka rfl (fun z324 xt325 => ?_)
                                      refine j_istore (lv' := [(7, vI p323.1), (6, vI p317.1), (0, .ref (gS g 6)), (1, .ref (gB g + 1)), (2, .ref (gB g + 349)), (3, .ref (gB g + 374)), (4, .ref (gB g + 375)), (5, vI x5)]) dL_law_1220 (by decide) (by first | rfl | (simp only [List.all_cons, List.all_nil, rv_cat]; rfl)) rfl ?_
                                      refine j_aload_n (j := 4) dL_law_1222 rfl rfl ?_
                                      obtain ⟨z327, e326, h⟩ := obind_elim h
                                      refine j_callV ML_133 YX9_thrown IX9_thrown SX9_thrown (by decide) rfl (by decide) (by omega) (Nat.le_of_ble_eq_true rfl) rfl (ctX9_thrown (d := d - 1) hl (by omega)  e326) dL_law_1223 (VK_c 9 349 rfl).1 (VK_c 9 349 rfl).lt (VK_c 9 349 rfl).ka rfl (fun z328 _ => ?_)
                                      refine j_iload (j := 1) dL_law_1226 rfl ?_
                                      by_cases c330 : z327 = p317.1
                                      · rw [if_pos c330] at h
                                        refine j_icmp_eq_t z328 z318 dL_law_1228 (tgt := 1233) (by decide) c330 ?_
                                        refine j_iload (j := 1) dL_law_1233 rfl ?_
                                        by_cases c331 : p317.1 = 0
                                        · rw [if_pos c331] at h
                                          refine j_if_ne_f z318 dL_law_1235 (tgt := 1250) (by decide) (fun q => q c331) ?_
                                          refine j_aload_n (j := 5) dL_law_1238 rfl rfl ?_
                                          refine j_iconst dL_law_1239 ?_
                                          refine j_lald dL_law_1240 (fun r333 => ?_)
                                          refine j_iload (j := 0) dL_law_1241 rfl ?_
                                          refine j_i2l z324 dL_law_1243 ?_
                                          refine j_lcmp r333 z324 dL_law_1244 ?_
                                          by_cases c334 : (icmp (gI p323.2 374 0) p323.1) = 0
                                          · rw [if_pos c334] at h
                                            refine j_if_eq_t (icmp_inR _ _) dL_law_1245 (tgt := 1250) (by decide) c334 ?_
                                            refine j_goto (tgt := 2235) dL_law_1250 (by decide) ?_
                                            obtain ⟨u335, eu335, h⟩ := bnd_elim h
                                            have hu335 : inR u335 := by rw [eu335]; exact wrap_inR _
                                            refine j_iincN (k := 7) (lv' := [(5, vI u335), (7, vI p323.1), (6, vI p317.1), (0, .ref (gS g 6)), (1, .ref (gB g + 1)), (2, .ref (gB g + 349)), (3, .ref (gB g + 374)), (4, .ref (gB g + 375))]) eu335 dL_law_2235 rfl (by decide) (by first | rfl | (simp only [List.all_cons, List.all_nil, rv_cat]; rfl)) rfl ?_
                                            refine j_goto (tgt := 28) dL_law_2238 (by decide) ?_
                                            exact j_sub [3, 4, 5, 6, 7, 0] rfl (ih p323.2 u335 hu335 h)
                                          · rw [if_neg c334] at h
                                            refine j_if_eq_f (icmp_inR _ _) dL_law_1245 (tgt := 1250) (by decide) c334 ?_
                                            refine j_iconst dL_law_1248 ?_
                                            cases h
                                            exact j_iret dL_law_1249 rfl ((nar_bool (Or.inl rfl)).1) rfl (Or.inl rfl)
                                        · rw [if_neg c331] at h
                                          refine j_if_ne_t z318 dL_law_1235 (tgt := 1250) (by decide) c331 ?_
                                          refine j_goto (tgt := 2235) dL_law_1250 (by decide) ?_
                                          obtain ⟨u332, eu332, h⟩ := bnd_elim h
                                          have hu332 : inR u332 := by rw [eu332]; exact wrap_inR _
                                          refine j_iincN (k := 7) (lv' := [(5, vI u332), (7, vI p323.1), (6, vI p317.1), (0, .ref (gS g 6)), (1, .ref (gB g + 1)), (2, .ref (gB g + 349)), (3, .ref (gB g + 374)), (4, .ref (gB g + 375))]) eu332 dL_law_2235 rfl (by decide) (by first | rfl | (simp only [List.all_cons, List.all_nil, rv_cat]; rfl)) rfl ?_
                                          refine j_goto (tgt := 28) dL_law_2238 (by decide) ?_
                                          exact j_sub [3, 4, 5, 6, 7, 0] rfl (ih p323.2 u332 hu332 h)
                                      · rw [if_neg c330] at h
                                        refine j_icmp_eq_f z328 z318 dL_law_1228 (tgt := 1233) (by decide) c330 ?_
                                        refine j_iconst dL_law_1231 ?_
                                        cases h
                                        exact j_iret dL_law_1232 rfl ((nar_bool (Or.inl rfl)).1) rfl (Or.inl rfl)
                                    · rw [if_neg c313] at h
                                      by_cases c336 : (iAnd (gXi g x5.toNat) 63) = 16
                                      · rw [if_pos c336] at h
                                        refine j_table_in (tgt := 1253) (iAnd_inR _ _) dL_law_45 (by omega) (by omega) (by rw [c336]; rfl) (by decide) ?_
                                        refine j_aload_n (j := 1) dL_law_1253 rfl rfl ?_
                                        refine j_aload_n (j := 0) dL_law_1254 rfl rfl ?_
                                        refine j_iload (j := 5) dL_law_1255 rfl ?_
                                        refine j_iconst dL_law_1257 ?_
                                        refine j_iadd dL_law_1258 ?_
                                        obtain ⟨c337, h⟩ := chk_elim h
                                        refine j_scld (wrap_inR _) dL_law_1259 c337 ?_
                                        refine j_aload_n (j := 3) dL_law_1260 rfl rfl ?_
                                        obtain ⟨p339, e338, h⟩ := obind_elim h
                                        refine j_callSW (n := 3) ML_185 YL_urgenti YL_urgentc (by decide) (by decide +kernel) IL_urgent (by decide) (by omega) (Nat.le_of_ble_eq_true rfl) rfl (ctL_urgent (d := d - 1) hl (by omega) (i32_inR _) e338) dL_law_1261 rfl (fun z340 xt341 => ?_)
                                        refine j_istore (lv' := [(6, vI p339.1), (0, .ref (gS g 6)), (1, .ref (gB g + 1)), (2, .ref (gB g + 349)), (3, .ref (gB g + 374)), (4, .ref (gB g + 375)), (5, vI x5)]) dL_law_1264 (by decide) (by first | rfl | (simp only [List.all_cons, List.all_nil, rv_cat]; rfl)) rfl ?_
                                        refine j_aload_n (j := 3) dL_law_1266 rfl rfl ?_
                                        refine j_aload_n (j := 1) dL_law_1267 rfl rfl ?_
                                        refine j_iload (j := 6) dL_law_1268 rfl ?_
                                        refine j_iconst dL_law_1270 ?_
                                        refine j_iadd dL_law_1271 ?_
                                        obtain ⟨c342, h⟩ := chk_elim h
                                        refine j_scld (wrap_inR _) dL_law_1272 c342 ?_
                                        obtain ⟨p344, e343, h⟩ := obind_elim h
                                        refine j_callV ML_187 YX9_urgent IX9_urgent SX9_urgent (by decide) rfl (by decide) (by omega) (Nat.le_of_ble_eq_true rfl) rfl (ctX9_urgent (d := d - 1) hl (by omega) (i32_inR _) e343) dL_law_1273 (VK_c 9 349 rfl).1 (VK_c 9 349 rfl).lt (VK_c 9 349 rfl).ka rfl (fun z345 xt346 => ?_)
                                        refine j_istore (lv' := [(7, vI p344.1), (6, vI p339.1), (0, .ref (gS g 6)), (1, .ref (gB g + 1)), (2, .ref (gB g + 349)), (3, .ref (gB g + 374)), (4, .ref (gB g + 375)), (5, vI x5)]) dL_law_1276 (by decide) (by first | rfl | (simp only [List.all_cons, List.all_nil, rv_cat]; rfl)) rfl ?_
                                        refine j_aload_n (j := 4) dL_law_1278 rfl rfl ?_
                                        obtain ⟨z348, e347, h⟩ := obind_elim h
                                        refine j_callV ML_133 YX9_thrown IX9_thrown SX9_thrown (by decide) rfl (by decide) (by omega) (Nat.le_of_ble_eq_true rfl) rfl (ctX9_thrown (d := d - 1) hl (by omega)  e347) dL_law_1279 (VK_c 9 349 rfl).1 (VK_c 9 349 rfl).lt (VK_c 9 349 rfl).ka rfl (fun z349 _ => ?_)
                                        refine j_iload (j := 1) dL_law_1282 rfl ?_
                                        by_cases c351 : z348 = p339.1
                                        · rw [if_pos c351] at h
                                          refine j_icmp_eq_t z349 z340 dL_law_1284 (tgt := 1289) (by decide) c351 ?_
                                          refine j_iload (j := 1) dL_law_1289 rfl ?_
                                          by_cases c352 : p339.1 = 0
                                          · rw [if_pos c352] at h
                                            refine j_if_ne_f z340 dL_law_1291 (tgt := 1306) (by decide) (fun q => q c352) ?_
                                            refine j_aload_n (j := 5) dL_law_1294 rfl rfl ?_
                                            refine j_iconst dL_law_1295 ?_
                                            refine j_lald dL_law_1296 (fun r354 => ?_)
                                            refine j_iload (j := 0) dL_law_1297 rfl ?_
                                            refine j_i2l z345 dL_law_1299 ?_
                                            refine j_lcmp r354 z345 dL_law_1300 ?_
                                            by_cases c355 : (icmp (gI p344.2 374 0) p344.1) = 0
                                            · rw [if_pos c355] at h
                                              refine j_if_eq_t (icmp_inR _ _) dL_law_1301 (tgt := 1306) (by decide) c355 ?_
                                              refine j_goto (tgt := 2235) dL_law_1306 (by decide) ?_
                                              obtain ⟨u356, eu356, h⟩ := bnd_elim h
                                              have hu356 : inR u356 := by rw [eu356]; exact wrap_inR _
                                              refine j_iincN (k := 7) (lv' := [(5, vI u356), (7, vI p344.1), (6, vI p339.1), (0, .ref (gS g 6)), (1, .ref (gB g + 1)), (2, .ref (gB g + 349)), (3, .ref (gB g + 374)), (4, .ref (gB g + 375))]) eu356 dL_law_2235 rfl (by decide) (by first | rfl | (simp only [List.all_cons, List.all_nil, rv_cat]; rfl)) rfl ?_
                                              refine j_goto (tgt := 28) dL_law_2238 (by decide) ?_
                                              exact j_sub [3, 4, 5, 6, 7, 0] rfl (ih p344.2 u356 hu356 h)
                                            · rw [if_neg c355] at h
                                              refine j_if_eq_f (icmp_inR _ _) dL_law_1301 (tgt := 1306) (by decide) c355 ?_
                                              refine j_iconst dL_law_1304 ?_
                                              cases h
                                              exact j_iret dL_law_1305 rfl ((nar_bool (Or.inl rfl)).1) rfl (Or.inl rfl)
                                          · rw [if_neg c352] at h
                                            refine j_if_ne_t z340 dL_law_1291 (tgt := 1306) (by decide) c352 ?_
                                            refine j_goto (tgt := 2235) dL_law_1306 (by decide) ?_
                                            obtain ⟨u353, eu353, h⟩ := bnd_elim h
                                            have hu353 : inR u353 := by rw [eu353]; exact wrap_inR _
                                            refine j_iincN (k := 7) (lv' := [(5, vI u353), (7, vI p344.1), (6, vI p339.1), (0, .ref (gS g 6)), (1, .ref (gB g + 1)), (2, .ref (gB g + 349)), (3, .ref (gB g + 374)), (4, .ref (gB g + 375))]) eu353 dL_law_2235 rfl (by decide) (by first | rfl | (simp only [List.all_cons, List.all_nil, rv_cat]; rfl)) rfl ?_
                                            refine j_goto (tgt := 28) dL_law_2238 (by decide) ?_
                                            exact j_sub [3, 4, 5, 6, 7, 0] rfl (ih p344.2 u353 hu353 h)
                                        · rw [if_neg c351] at h
                                          refine j_icmp_eq_f z349 z340 dL_law_1284 (tgt := 1289) (by decide) c351 ?_
                                          refine j_iconst dL_law_1287 ?_
                                          cases h
                                          exact j_iret dL_law_1288 rfl ((nar_bool (Or.inl rfl)).1) rfl (Or.inl rfl)
                                      · rw [if_neg c336] at h
                                        by_cases c357 : (iAnd (gXi g x5.toNat) 63) = 17
                                        · rw [if_pos c357] at h
                                          refine j_table_in (tgt := 1309) (iAnd_inR _ _) dL_law_45 (by omega) (by omega) (by rw [c357]; rfl) (by decide) ?_
                                          refine j_aload_n (j := 1) dL_law_1309 rfl rfl ?_
                                          refine j_aload_n (j := 0) dL_law_1310 rfl rfl ?_
                                          refine j_iload (j := 5) dL_law_1311 rfl ?_
                                          refine j_iconst dL_law_1313 ?_
                                          refine j_iadd dL_law_1314 ?_
                                          obtain ⟨c358, h⟩ := chk_elim h
                                          refine j_scld (wrap_inR _) dL_law_1315 c358 ?_
                                          refine j_aload_n (j := 0) dL_law_1316 rfl rfl ?_
                                          refine j_iload (j := 5) dL_law_1317 rfl ?_
                                          refine j_iconst dL_law_1319 ?_
                                          refine j_iadd dL_law_1320 ?_
                                          obtain ⟨c359, h⟩ := chk_elim h
                                          refine j_scld (wrap_inR _) dL_law_1321 c359 ?_
                                          refine j_aload_n (j := 3) dL_law_1322 rfl rfl ?_
                                          obtain ⟨p361, e360, h⟩ := obind_elim h
                                          refine j_callSW (n := 4) ML_188 YL_piloti YL_pilotc (by decide) (by decide +kernel) IL_pilot (by decide) (by omega) (Nat.le_of_ble_eq_true rfl) rfl (ctL_pilot (d := d - 1) hl (by omega) (i32_inR _) (i32_inR _) e360) dL_law_1323 rfl (fun z362 xt363 => ?_)
                                          refine j_istore (lv' := [(6, vI p361.1), (0, .ref (gS g 6)), (1, .ref (gB g + 1)), (2, .ref (gB g + 349)), (3, .ref (gB g + 374)), (4, .ref (gB g + 375)), (5, vI x5)]) dL_law_1326 (by decide) (by first | rfl | (simp only [List.all_cons, List.all_nil, rv_cat]; rfl)) rfl ?_
                                          refine j_aload_n (j := 3) dL_law_1328 rfl rfl ?_
                                          refine j_aload_n (j := 1) dL_law_1329 rfl rfl ?_
                                          refine j_iload (j := 6) dL_law_1330 rfl ?_
                                          refine j_iconst dL_law_1332 ?_
                                          refine j_iadd dL_law_1333 ?_
                                          obtain ⟨c364, h⟩ := chk_elim h
                                          refine j_scld (wrap_inR _) dL_law_1334 c364 ?_
                                          refine j_aload_n (j := 1) dL_law_1335 rfl rfl ?_
                                          refine j_iload (j := 6) dL_law_1336 rfl ?_
                                          refine j_iconst dL_law_1338 ?_
                                          refine j_iadd dL_law_1339 ?_
                                          obtain ⟨c365, h⟩ := chk_elim h
                                          refine j_scld (wrap_inR _) dL_law_1340 c365 ?_
                                          obtain ⟨p367, e366, h⟩ := obind_elim h
                                          refine j_callV ML_190 YX9_pilot IX9_pilot SX9_pilot (by decide) rfl (by decide) (by omega) (Nat.le_of_ble_eq_true rfl) rfl (ctX9_pilot (d := d - 1) hl (by omega) (i32_inR _) (i32_inR _) e366) dL_law_1341 (VK_c 9 349 rfl).1 (VK_c 9 349 rfl).lt (VK_c 9 349 rfl).ka rfl (fun z368 xt369 => ?_)
                                          refine j_istore (lv' := [(7, vI p367.1), (6, vI p361.1), (0, .ref (gS g 6)), (1, .ref (gB g + 1)), (2, .ref (gB g + 349)), (3, .ref (gB g + 374)), (4, .ref (gB g + 375)), (5, vI x5)]) dL_law_1344 (by decide) (by first | rfl | (simp only [List.all_cons, List.all_nil, rv_cat]; rfl)) rfl ?_
                                          refine j_aload_n (j := 4) dL_law_1346 rfl rfl ?_
                                          obtain ⟨z371, e370, h⟩ := obind_elim h
                                          refine j_callV ML_133 YX9_thrown IX9_thrown SX9_thrown (by decide) rfl (by decide) (by omega) (Nat.le_of_ble_eq_true rfl) rfl (ctX9_thrown (d := d - 1) hl (by omega)  e370) dL_law_1347 (VK_c 9 349 rfl).1 (VK_c 9 349 rfl).lt (VK_c 9 349 rfl).ka rfl (fun z372 _ => ?_)
                                          refine j_iload (j := 1) dL_law_1350 rfl ?_
                                          by_cases c374 : z371 = p361.1
                                          · rw [if_pos c374] at h
                                            refine j_icmp_eq_t z372 z362 dL_law_1352 (tgt := 1357) (by decide) c374 ?_
                                            refine j_iload (j := 1) dL_law_1357 rfl ?_
                                            by_cases c375 : p361.1 = 0
                                            · rw [if_pos c375] at h
                                              refine j_if_ne_f z362 dL_law_1359 (tgt := 1374) (by decide) (fun q => q c375) ?_
                                              refine j_aload_n (j := 5) dL_law_1362 rfl rfl ?_
                                              refine j_iconst dL_law_1363 ?_
                                              refine j_lald dL_law_1364 (fun r377 => ?_)
                                              refine j_iload (j := 0) dL_law_1365 rfl ?_
                                              refine j_i2l z368 dL_law_1367 ?_
                                              refine j_lcmp r377 z368 dL_law_1368 ?_
                                              by_cases c378 : (icmp (gI p367.2 374 0) p367.1) = 0
                                              · rw [if_pos c378] at h
                                                refine j_if_eq_t (icmp_inR _ _) dL_law_1369 (tgt := 1374) (by decide) c378 ?_
                                                refine j_goto (tgt := 2235) dL_law_1374 (by decide) ?_
                                                obtain ⟨u379, eu379, h⟩ := bnd_elim h
                                                have hu379 : inR u379 := by rw [eu379]; exact wrap_inR _
                                                refine j_iincN (k := 7) (lv' := [(5, vI u379), (7, vI p367.1), (6, vI p361.1), (0, .ref (gS g 6)), (1, .ref (gB g + 1)), (2, .ref (gB g + 349)), (3, .ref (gB g + 374)), (4, .ref (gB g + 375))]) eu379 dL_law_2235 rfl (by decide) (by first | rfl | (simp only [List.all_cons, List.all_nil, rv_cat]; rfl)) rfl ?_
                                                refine j_goto (tgt := 28) dL_law_2238 (by decide) ?_
                                                exact j_sub [3, 4, 5, 6, 7, 0] rfl (ih p367.2 u379 hu379 h)
                                              · rw [if_neg c378] at h
                                                refine j_if_eq_f (icmp_inR _ _) dL_law_1369 (tgt := 1374) (by decide) c378 ?_
                                                refine j_iconst dL_law_1372 ?_
                                                cases h
                                                exact j_iret dL_law_1373 rfl ((nar_bool (Or.inl rfl)).1) rfl (Or.inl rfl)
                                            · rw [if_neg c375] at h
                                              refine j_if_ne_t z362 dL_law_1359 (tgt := 1374) (by decide) c375 ?_
                                              refine j_goto (tgt := 2235) dL_law_1374 (by decide) ?_
                                              obtain ⟨u376, eu376, h⟩ := bnd_elim h
                                              have hu376 : inR u376 := by rw [eu376]; exact wrap_inR _
                                              refine j_iincN (k := 7) (lv' := [(5, vI u376), (7, vI p367.1), (6, vI p361.1), (0, .ref (gS g 6)), (1, .ref (gB g + 1)), (2, .ref (gB g + 349)), (3, .ref (gB g + 374)), (4, .ref (gB g + 375))]) eu376 dL_law_2235 rfl (by decide) (by first | rfl | (simp only [List.all_cons, List.all_nil, rv_cat]; rfl)) rfl ?_
                                              refine j_goto (tgt := 28) dL_law_2238 (by decide) ?_
                                              exact j_sub [3, 4, 5, 6, 7, 0] rfl (ih p367.2 u376 hu376 h)
                                          · rw [if_neg c374] at h
                                            refine j_icmp_eq_f z372 z362 dL_law_1352 (tgt := 1357) (by decide) c374 ?_
                                            refine j_iconst dL_law_1355 ?_
                                            cases h
                                            exact j_iret dL_law_1356 rfl ((nar_bool (Or.inl rfl)).1) rfl (Or.inl rfl)
                                        · rw [if_neg c357] at h
                                          by_cases c380 : (iAnd (gXi g x5.toNat) 63) = 18
                                          · rw [if_pos c380] at h
                                            refine j_table_in (tgt := 1377) (iAnd_inR _ _) dL_law_45 (by omega) (by omega) (by rw [c380]; rfl) (by decide) ?_
                                            refine j_aload_n (j := 1) dL_law_1377 rfl rfl ?_
                                            refine j_aload_n (j := 0) dL_law_1378 rfl rfl ?_
                                            refine j_iload (j := 5) dL_law_1379 rfl ?_
                                            refine j_iconst dL_law_1381 ?_
                                            refine j_iadd dL_law_1382 ?_
                                            obtain ⟨c381, h⟩ := chk_elim h
                                            refine j_scld (wrap_inR _) dL_law_1383 c381 ?_
                                            refine j_aload_n (j := 0) dL_law_1384 rfl rfl ?_
                                            refine j_iload (j := 5) dL_law_1385 rfl ?_
                                            refine j_iconst dL_law_1387 ?_
                                            refine j_iadd dL_law_1388 ?_
                                            obtain ⟨c382, h⟩ := chk_elim h
                                            refine j_scld (wrap_inR _) dL_law_1389 c382 ?_
                                            refine j_aload_n (j := 0) dL_law_1390 rfl rfl ?_
                                            refine j_iload (j := 5) dL_law_1391 rfl ?_
                                            refine j_iconst dL_law_1393 ?_
                                            refine j_iadd dL_law_1394 ?_
                                            obtain ⟨c383, h⟩ := chk_elim h
                                            refine j_scld (wrap_inR _) dL_law_1395 c383 ?_
                                            refine j_aload_n (j := 3) dL_law_1396 rfl rfl ?_
                                            obtain ⟨p385, e384, h⟩ := obind_elim h
                                            refine j_callSW (n := 5) ML_191 YL_planOfi YL_planOfc (by decide) (by decide +kernel) IL_planOf (by decide) (by omega) (Nat.le_of_ble_eq_true rfl) rfl (ctL_planOf (d := d - 1) hl (by omega) (i32_inR _) (i32_inR _) (i32_inR _) e384) dL_law_1397 rfl (fun z386 xt387 => ?_)
                                            refine j_istore (lv' := [(6, vI p385.1), (0, .ref (gS g 6)), (1, .ref (gB g + 1)), (2, .ref (gB g + 349)), (3, .ref (gB g + 374)), (4, .ref (gB g + 375)), (5, vI x5)]) dL_law_1400 (by decide) (by first | rfl | (simp only [List.all_cons, List.all_nil, rv_cat]; rfl)) rfl ?_
                                            refine j_aload_n (j := 3) dL_law_1402 rfl rfl ?_
                                            refine j_aload_n (j := 1) dL_law_1403 rfl rfl ?_
                                            refine j_iload (j := 6) dL_law_1404 rfl ?_
                                            refine j_iconst dL_law_1406 ?_
                                            refine j_iadd dL_law_1407 ?_
                                            obtain ⟨c388, h⟩ := chk_elim h
                                            refine j_scld (wrap_inR _) dL_law_1408 c388 ?_
                                            refine j_aload_n (j := 1) dL_law_1409 rfl rfl ?_
                                            refine j_iload (j := 6) dL_law_1410 rfl ?_
                                            refine j_iconst dL_law_1412 ?_
                                            refine j_iadd dL_law_1413 ?_
                                            obtain ⟨c389, h⟩ := chk_elim h
                                            refine j_scld (wrap_inR _) dL_law_1414 c389 ?_
                                            refine j_aload_n (j := 1) dL_law_1415 rfl rfl ?_
                                            refine j_iload (j := 6) dL_law_1416 rfl ?_
                                            refine j_iconst dL_law_1418 ?_
                                            refine j_iadd dL_law_1419 ?_
                                            obtain ⟨c390, h⟩ := chk_elim h
                                            refine j_scld (wrap_inR _) dL_law_1420 c390 ?_
                                            obtain ⟨p392, e391, h⟩ := obind_elim h
                                            refine j_callV ML_193 YX9_planOf IX9_planOf SX9_planOf (by decide) rfl (by decide) (by omega) (Nat.le_of_ble_eq_true rfl) rfl (ctX9_planOf (d := d - 1) hl (by omega) (i32_inR _) (i32_inR _) (i32_inR _) e391) dL_law_1421 (VK_c 9 349 rfl).1 (VK_c 9 349 rfl).lt (VK_c 9 349 rfl).ka rfl (fun z393 xt394 => ?_)
                                            refine j_istore (lv' := [(7, vI p392.1), (6, vI p385.1), (0, .ref (gS g 6)), (1, .ref (gB g + 1)), (2, .ref (gB g + 349)), (3, .ref (gB g + 374)), (4, .ref (gB g + 375)), (5, vI x5)]) dL_law_1424 (by decide) (by first | rfl | (simp only [List.all_cons, List.all_nil, rv_cat]; rfl)) rfl ?_
                                            refine j_aload_n (j := 4) dL_law_1426 rfl rfl ?_
                                            obtain ⟨z396, e395, h⟩ := obind_elim h
                                            refine j_callV ML_133 YX9_thrown IX9_thrown SX9_thrown (by decide) rfl (by decide) (by omega) (Nat.le_of_ble_eq_true rfl) rfl (ctX9_thrown (d := d - 1) hl (by omega)  e395) dL_law_1427 (VK_c 9 349 rfl).1 (VK_c 9 349 rfl).lt (VK_c 9 349 rfl).ka rfl (fun z397 _ => ?_)
                                            refine j_iload (j := 1) dL_law_1430 rfl ?_
                                            by_cases c399 : z396 = p385.1
                                            · rw [if_pos c399] at h
                                              refine j_icmp_eq_t z397 z386 dL_law_1432 (tgt := 1437) (by decide) c399 ?_
                                              refine j_iload (j := 1) dL_law_1437 rfl ?_
                                              by_cases c400 : p385.1 = 0
                                              · rw [if_pos c400] at h
                                                refine j_if_ne_f z386 dL_law_1439 (tgt := 1454) (by decide) (fun q => q c400) ?_
                                                refine j_aload_n (j := 5) dL_law_1442 rfl rfl ?_
                                                refine j_iconst dL_law_1443 ?_
                                                refine j_lald dL_law_1444 (fun r402 => ?_)
                                                refine j_iload (j := 0) dL_law_1445 rfl ?_
                                                refine j_i2l z393 dL_law_1447 ?_
                                                refine j_lcmp r402 z393 dL_law_1448 ?_
                                                by_cases c403 : (icmp (gI p392.2 374 0) p392.1) = 0
                                                · rw [if_pos c403] at h
                                                  refine j_if_eq_t (icmp_inR _ _) dL_law_1449 (tgt := 1454) (by decide) c403 ?_
                                                  refine j_goto (tgt := 2235) dL_law_1454 (by decide) ?_
                                                  obtain ⟨u404, eu404, h⟩ := bnd_elim h
                                                  have hu404 : inR u404 := by rw [eu404]; exact wrap_inR _
                                                  refine j_iincN (k := 7) (lv' := [(5, vI u404), (7, vI p392.1), (6, vI p385.1), (0, .ref (gS g 6)), (1, .ref (gB g + 1)), (2, .ref (gB g + 349)), (3, .ref (gB g + 374)), (4, .ref (gB g + 375))]) eu404 dL_law_2235 rfl (by decide) (by first | rfl | (simp only [List.all_cons, List.all_nil, rv_cat]; rfl)) rfl ?_
                                                  refine j_goto (tgt := 28) dL_law_2238 (by decide) ?_
                                                  exact j_sub [3, 4, 5, 6, 7, 0] rfl (ih p392.2 u404 hu404 h)
                                                · rw [if_neg c403] at h
                                                  refine j_if_eq_f (icmp_inR _ _) dL_law_1449 (tgt := 1454) (by decide) c403 ?_
                                                  refine j_iconst dL_law_1452 ?_
                                                  cases h
                                                  exact j_iret dL_law_1453 rfl ((nar_bool (Or.inl rfl)).1) rfl (Or.inl rfl)
                                              · rw [if_neg c400] at h
                                                refine j_if_ne_t z386 dL_law_1439 (tgt := 1454) (by decide) c400 ?_
                                                refine j_goto (tgt := 2235) dL_law_1454 (by decide) ?_
                                                obtain ⟨u401, eu401, h⟩ := bnd_elim h
                                                have hu401 : inR u401 := by rw [eu401]; exact wrap_inR _
                                                refine j_iincN (k := 7) (lv' := [(5, vI u401), (7, vI p392.1), (6, vI p385.1), (0, .ref (gS g 6)), (1, .ref (gB g + 1)), (2, .ref (gB g + 349)), (3, .ref (gB g + 374)), (4, .ref (gB g + 375))]) eu401 dL_law_2235 rfl (by decide) (by first | rfl | (simp only [List.all_cons, List.all_nil, rv_cat]; rfl)) rfl ?_
                                                refine j_goto (tgt := 28) dL_law_2238 (by decide) ?_
                                                exact j_sub [3, 4, 5, 6, 7, 0] rfl (ih p392.2 u401 hu401 h)
                                            · rw [if_neg c399] at h
                                              refine j_icmp_eq_f z397 z386 dL_law_1432 (tgt := 1437) (by decide) c399 ?_
                                              refine j_iconst dL_law_1435 ?_
                                              cases h
                                              exact j_iret dL_law_1436 rfl ((nar_bool (Or.inl rfl)).1) rfl (Or.inl rfl)
                                          · rw [if_neg c380] at h
                                            by_cases c405 : (iAnd (gXi g x5.toNat) 63) = 19
                                            · rw [if_pos c405] at h
                                              refine j_table_in (tgt := 1457) (iAnd_inR _ _) dL_law_45 (by omega) (by omega) (by rw [c405]; rfl) (by decide) ?_
                                              refine j_aload_n (j := 1) dL_law_1457 rfl rfl ?_
                                              refine j_aload_n (j := 0) dL_law_1458 rfl rfl ?_
                                              refine j_iload (j := 5) dL_law_1459 rfl ?_
                                              refine j_iconst dL_law_1461 ?_
                                              refine j_iadd dL_law_1462 ?_
                                              obtain ⟨c406, h⟩ := chk_elim h
                                              refine j_scld (wrap_inR _) dL_law_1463 c406 ?_
                                              refine j_aload_n (j := 0) dL_law_1464 rfl rfl ?_
                                              refine j_iload (j := 5) dL_law_1465 rfl ?_
                                              refine j_iconst dL_law_1467 ?_
                                              refine j_iadd dL_law_1468 ?_
                                              obtain ⟨c407, h⟩ := chk_elim h
                                              refine j_scld (wrap_inR _) dL_law_1469 c407 ?_
                                              refine j_aload_n (j := 3) dL_law_1470 rfl rfl ?_
                                              obtain ⟨p409, e408, h⟩ := obind_elim h
                                              refine j_callSW (n := 4) ML_194 YL_placei YL_placec (by decide) (by decide +kernel) IL_place (by decide) (by omega) (Nat.le_of_ble_eq_true rfl) rfl (ctL_place (d := d - 1) hl (by omega) (i32_inR _) (i32_inR _) e408) dL_law_1471 rfl (fun z410 xt411 => ?_)
                                              refine j_istore (lv' := [(6, vI p409.1), (0, .ref (gS g 6)), (1, .ref (gB g + 1)), (2, .ref (gB g + 349)), (3, .ref (gB g + 374)), (4, .ref (gB g + 375)), (5, vI x5)]) dL_law_1474 (by decide) (by first | rfl | (simp only [List.all_cons, List.all_nil, rv_cat]; rfl)) rfl ?_
                                              refine j_aload_n (j := 3) dL_law_1476 rfl rfl ?_
                                              refine j_aload_n (j := 1) dL_law_1477 rfl rfl ?_
                                              refine j_iload (j := 6) dL_law_1478 rfl ?_
                                              refine j_iconst dL_law_1480 ?_
                                              refine j_iadd dL_law_1481 ?_
                                              obtain ⟨c412, h⟩ := chk_elim h
                                              refine j_scld (wrap_inR _) dL_law_1482 c412 ?_
                                              refine j_aload_n (j := 1) dL_law_1483 rfl rfl ?_
                                              refine j_iload (j := 6) dL_law_1484 rfl ?_
                                              refine j_iconst dL_law_1486 ?_
                                              refine j_iadd dL_law_1487 ?_
                                              obtain ⟨c413, h⟩ := chk_elim h
                                              refine j_scld (wrap_inR _) dL_law_1488 c413 ?_
                                              obtain ⟨p415, e414, h⟩ := obind_elim h
                                              refine j_callV ML_196 YX9_place IX9_place SX9_place (by decide) rfl (by decide) (by omega) (Nat.le_of_ble_eq_true rfl) rfl (ctX9_place (d := d - 1) hl (by omega) (i32_inR _) (i32_inR _) e414) dL_law_1489 (VK_c 9 349 rfl).1 (VK_c 9 349 rfl).lt (VK_c 9 349 rfl).ka rfl (fun z416 xt417 => ?_)
                                              refine j_istore (lv' := [(7, vI p415.1), (6, vI p409.1), (0, .ref (gS g 6)), (1, .ref (gB g + 1)), (2, .ref (gB g + 349)), (3, .ref (gB g + 374)), (4, .ref (gB g + 375)), (5, vI x5)]) dL_law_1492 (by decide) (by first | rfl | (simp only [List.all_cons, List.all_nil, rv_cat]; rfl)) rfl ?_
                                              refine j_aload_n (j := 4) dL_law_1494 rfl rfl ?_
                                              obtain ⟨z419, e418, h⟩ := obind_elim h
                                              refine j_callV ML_133 YX9_thrown IX9_thrown SX9_thrown (by decide) rfl (by decide) (by omega) (Nat.le_of_ble_eq_true rfl) rfl (ctX9_thrown (d := d - 1) hl (by omega)  e418) dL_law_1495 (VK_c 9 349 rfl).1 (VK_c 9 349 rfl).lt (VK_c 9 349 rfl).ka rfl (fun z420 _ => ?_)
                                              refine j_iload (j := 1) dL_law_1498 rfl ?_
                                              by_cases c422 : z419 = p409.1
                                              · rw [if_pos c422] at h
                                                refine j_icmp_eq_t z420 z410 dL_law_1500 (tgt := 1505) (by decide) c422 ?_
                                                refine j_iload (j := 1) dL_law_1505 rfl ?_
                                                by_cases c423 : p409.1 = 0
                                                · rw [if_pos c423] at h
                                                  refine j_if_ne_f z410 dL_law_1507 (tgt := 1522) (by decide) (fun q => q c423) ?_
                                                  refine j_aload_n (j := 5) dL_law_1510 rfl rfl ?_
                                                  refine j_iconst dL_law_1511 ?_
                                                  refine j_lald dL_law_1512 (fun r425 => ?_)
                                                  refine j_iload (j := 0) dL_law_1513 rfl ?_
                                                  refine j_i2l z416 dL_law_1515 ?_
                                                  refine j_lcmp r425 z416 dL_law_1516 ?_
                                                  by_cases c426 : (icmp (gI p415.2 374 0) p415.1) = 0
                                                  · rw [if_pos c426] at h
                                                    refine j_if_eq_t (icmp_inR _ _) dL_law_1517 (tgt := 1522) (by decide) c426 ?_
                                                    refine j_goto (tgt := 2235) dL_law_1522 (by decide) ?_
                                                    obtain ⟨u427, eu427, h⟩ := bnd_elim h
                                                    have hu427 : inR u427 := by rw [eu427]; exact wrap_inR _
                                                    refine j_iincN (k := 7) (lv' := [(5, vI u427), (7, vI p415.1), (6, vI p409.1), (0, .ref (gS g 6)), (1, .ref (gB g + 1)), (2, .ref (gB g + 349)), (3, .ref (gB g + 374)), (4, .ref (gB g + 375))]) eu427 dL_law_2235 rfl (by decide) (by first | rfl | (simp only [List.all_cons, List.all_nil, rv_cat]; rfl)) rfl ?_
                                                    refine j_goto (tgt := 28) dL_law_2238 (by decide) ?_
                                                    exact j_sub [3, 4, 5, 6, 7, 0] rfl (ih p415.2 u427 hu427 h)
                                                  · rw [if_neg c426] at h
                                                    refine j_if_eq_f (icmp_inR _ _) dL_law_1517 (tgt := 1522) (by decide) c426 ?_
                                                    refine j_iconst dL_law_1520 ?_
                                                    cases h
                                                    exact j_iret dL_law_1521 rfl ((nar_bool (Or.inl rfl)).1) rfl (Or.inl rfl)
                                                · rw [if_neg c423] at h
                                                  refine j_if_ne_t z410 dL_law_1507 (tgt := 1522) (by decide) c423 ?_
                                                  refine j_goto (tgt := 2235) dL_law_1522 (by decide) ?_
                                                  obtain ⟨u424, eu424, h⟩ := bnd_elim h
                                                  have hu424 : inR u424 := by rw [eu424]; exact wrap_inR _
                                                  refine j_iincN (k := 7) (lv' := [(5, vI u424), (7, vI p415.1), (6, vI p409.1), (0, .ref (gS g 6)), (1, .ref (gB g + 1)), (2, .ref (gB g + 349)), (3, .ref (gB g + 374)), (4, .ref (gB g + 375))]) eu424 dL_law_2235 rfl (by decide) (by first | rfl | (simp only [List.all_cons, List.all_nil, rv_cat]; rfl)) rfl ?_
                                                  refine j_goto (tgt := 28) dL_law_2238 (by decide) ?_
                                                  exact j_sub [3, 4, 5, 6, 7, 0] rfl (ih p415.2 u424 hu424 h)
                                              · rw [if_neg c422] at h
                                                refine j_icmp_eq_f z420 z410 dL_law_1500 (tgt := 1505) (by decide) c422 ?_
                                                refine j_iconst dL_law_1503 ?_
                                                cases h
                                                exact j_iret dL_law_1504 rfl ((nar_bool (Or.inl rfl)).1) rfl (Or.inl rfl)
                                            · rw [if_neg c405] at h
                                              by_cases c428 : (iAnd (gXi g x5.toNat) 63) = 20
                                              · rw [if_pos c428] at h
                                                refine j_table_in (tgt := 1525) (iAnd_inR _ _) dL_law_45 (by omega) (by omega) (by rw [c428]; rfl) (by decide) ?_
                                                refine j_aload_n (j := 1) dL_law_1525 rfl rfl ?_
                                                refine j_aload_n (j := 0) dL_law_1526 rfl rfl ?_
                                                refine j_iload (j := 5) dL_law_1527 rfl ?_
                                                refine j_iconst dL_law_1529 ?_
                                                refine j_iadd dL_law_1530 ?_
                                                obtain ⟨c429, h⟩ := chk_elim h
                                                refine j_scld (wrap_inR _) dL_law_1531 c429 ?_
                                                refine j_aload_n (j := 0) dL_law_1532 rfl rfl ?_
                                                refine j_iload (j := 5) dL_law_1533 rfl ?_
                                                refine j_iconst dL_law_1535 ?_
                                                refine j_iadd dL_law_1536 ?_
                                                obtain ⟨c430, h⟩ := chk_elim h
                                                refine j_scld (wrap_inR _) dL_law_1537 c430 ?_
                                                refine j_aload_n (j := 3) dL_law_1538 rfl rfl ?_
                                                obtain ⟨p432, e431, h⟩ := obind_elim h
                                                refine j_callSW (n := 4) ML_197 YL_placeAgaini YL_placeAgainc (by decide) (by decide +kernel) IL_placeAgain (by decide) (by omega) (Nat.le_of_ble_eq_true rfl) rfl (ctL_placeAgain (d := d - 1) hl (by omega) (i32_inR _) (i32_inR _) e431) dL_law_1539 rfl (fun z433 xt434 => ?_)
                                                refine j_istore (lv' := [(6, vI p432.1), (0, .ref (gS g 6)), (1, .ref (gB g + 1)), (2, .ref (gB g + 349)), (3, .ref (gB g + 374)), (4, .ref (gB g + 375)), (5, vI x5)]) dL_law_1542 (by decide) (by first | rfl | (simp only [List.all_cons, List.all_nil, rv_cat]; rfl)) rfl ?_
                                                refine j_aload_n (j := 3) dL_law_1544 rfl rfl ?_
                                                refine j_aload_n (j := 1) dL_law_1545 rfl rfl ?_
                                                refine j_iload (j := 6) dL_law_1546 rfl ?_
                                                refine j_iconst dL_law_1548 ?_
                                                refine j_iadd dL_law_1549 ?_
                                                obtain ⟨c435, h⟩ := chk_elim h
                                                refine j_scld (wrap_inR _) dL_law_1550 c435 ?_
                                                refine j_aload_n (j := 1) dL_law_1551 rfl rfl ?_
                                                refine j_iload (j := 6) dL_law_1552 rfl ?_
                                                refine j_iconst dL_law_1554 ?_
                                                refine j_iadd dL_law_1555 ?_
                                                obtain ⟨c436, h⟩ := chk_elim h
                                                refine j_scld (wrap_inR _) dL_law_1556 c436 ?_
                                                obtain ⟨p438, e437, h⟩ := obind_elim h
                                                refine j_callV ML_199 YX9_placeAgain IX9_placeAgain SX9_placeAgain (by decide) rfl (by decide) (by omega) (Nat.le_of_ble_eq_true rfl) rfl (ctX9_placeAgain (d := d - 1) hl (by omega) (i32_inR _) (i32_inR _) e437) dL_law_1557 (VK_c 9 349 rfl).1 (VK_c 9 349 rfl).lt (VK_c 9 349 rfl).ka rfl (fun z439 xt440 => ?_)
                                                refine j_istore (lv' := [(7, vI p438.1), (6, vI p432.1), (0, .ref (gS g 6)), (1, .ref (gB g + 1)), (2, .ref (gB g + 349)), (3, .ref (gB g + 374)), (4, .ref (gB g + 375)), (5, vI x5)]) dL_law_1560 (by decide) (by first | rfl | (simp only [List.all_cons, List.all_nil, rv_cat]; rfl)) rfl ?_
                                                refine j_aload_n (j := 4) dL_law_1562 rfl rfl ?_
                                                obtain ⟨z442, e441, h⟩ := obind_elim h
                                                refine j_callV ML_133 YX9_thrown IX9_thrown SX9_thrown (by decide) rfl (by decide) (by omega) (Nat.le_of_ble_eq_true rfl) rfl (ctX9_thrown (d := d - 1) hl (by omega)  e441) dL_law_1563 (VK_c 9 349 rfl).1 (VK_c 9 349 rfl).lt (VK_c 9 349 rfl).ka rfl (fun z443 _ => ?_)
                                                refine j_iload (j := 1) dL_law_1566 rfl ?_
                                                by_cases c445 : z442 = p432.1
                                                · rw [if_pos c445] at h
                                                  refine j_icmp_eq_t z443 z433 dL_law_1568 (tgt := 1573) (by decide) c445 ?_
                                                  refine j_iload (j := 1) dL_law_1573 rfl ?_
                                                  by_cases c446 : p432.1 = 0
                                                  · rw [if_pos c446] at h
                                                    refine j_if_ne_f z433 dL_law_1575 (tgt := 1590) (by decide) (fun q => q c446) ?_
                                                    refine j_aload_n (j := 5) dL_law_1578 rfl rfl ?_
                                                    refine j_iconst dL_law_1579 ?_
                                                    refine j_lald dL_law_1580 (fun r448 => ?_)
                                                    refine j_iload (j := 0) dL_law_1581 rfl ?_
                                                    refine j_i2l z439 dL_law_1583 ?_
                                                    refine j_lcmp r448 z439 dL_law_1584 ?_
                                                    by_cases c449 : (icmp (gI p438.2 374 0) p438.1) = 0
                                                    · rw [if_pos c449] at h
                                                      refine j_if_eq_t (icmp_inR _ _) dL_law_1585 (tgt := 1590) (by decide) c449 ?_
                                                      refine j_goto (tgt := 2235) dL_law_1590 (by decide) ?_
                                                      obtain ⟨u450, eu450, h⟩ := bnd_elim h
                                                      have hu450 : inR u450 := by rw [eu450]; exact wrap_inR _
                                                      refine j_iincN (k := 7) (lv' := [(5, vI u450), (7, vI p438.1), (6, vI p432.1), (0, .ref (gS g 6)), (1, .ref (gB g + 1)), (2, .ref (gB g + 349)), (3, .ref (gB g + 374)), (4, .ref (gB g + 375))]) eu450 dL_law_2235 rfl (by decide) (by first | rfl | (simp only [List.all_cons, List.all_nil, rv_cat]; rfl)) rfl ?_
                                                      refine j_goto (tgt := 28) dL_law_2238 (by decide) ?_
                                                      exact j_sub [3, 4, 5, 6, 7, 0] rfl (ih p438.2 u450 hu450 h)
                                                    · rw [if_neg c449] at h
                                                      refine j_if_eq_f (icmp_inR _ _) dL_law_1585 (tgt := 1590) (by decide) c449 ?_
                                                      refine j_iconst dL_law_1588 ?_
                                                      cases h
                                                      exact j_iret dL_law_1589 rfl ((nar_bool (Or.inl rfl)).1) rfl (Or.inl rfl)
                                                  · rw [if_neg c446] at h
                                                    refine j_if_ne_t z433 dL_law_1575 (tgt := 1590) (by decide) c446 ?_
                                                    refine j_goto (tgt := 2235) dL_law_1590 (by decide) ?_
                                                    obtain ⟨u447, eu447, h⟩ := bnd_elim h
                                                    have hu447 : inR u447 := by rw [eu447]; exact wrap_inR _
                                                    refine j_iincN (k := 7) (lv' := [(5, vI u447), (7, vI p438.1), (6, vI p432.1), (0, .ref (gS g 6)), (1, .ref (gB g + 1)), (2, .ref (gB g + 349)), (3, .ref (gB g + 374)), (4, .ref (gB g + 375))]) eu447 dL_law_2235 rfl (by decide) (by first | rfl | (simp only [List.all_cons, List.all_nil, rv_cat]; rfl)) rfl ?_
                                                    refine j_goto (tgt := 28) dL_law_2238 (by decide) ?_
                                                    exact j_sub [3, 4, 5, 6, 7, 0] rfl (ih p438.2 u447 hu447 h)
                                                · rw [if_neg c445] at h
                                                  refine j_icmp_eq_f z443 z433 dL_law_1568 (tgt := 1573) (by decide) c445 ?_
                                                  refine j_iconst dL_law_1571 ?_
                                                  cases h
                                                  exact j_iret dL_law_1572 rfl ((nar_bool (Or.inl rfl)).1) rfl (Or.inl rfl)
                                              · rw [if_neg c428] at h
                                                by_cases c451 : (iAnd (gXi g x5.toNat) 63) = 21
                                                · rw [if_pos c451] at h
                                                  refine j_table_in (tgt := 1593) (iAnd_inR _ _) dL_law_45 (by omega) (by omega) (by rw [c451]; rfl) (by decide) ?_
                                                  refine j_aload_n (j := 1) dL_law_1593 rfl rfl ?_
                                                  refine j_aload_n (j := 0) dL_law_1594 rfl rfl ?_
                                                  refine j_iload (j := 5) dL_law_1595 rfl ?_
                                                  refine j_iconst dL_law_1597 ?_
                                                  refine j_iadd dL_law_1598 ?_
                                                  obtain ⟨c452, h⟩ := chk_elim h
                                                  refine j_scld (wrap_inR _) dL_law_1599 c452 ?_
                                                  refine j_aload_n (j := 0) dL_law_1600 rfl rfl ?_
                                                  refine j_iload (j := 5) dL_law_1601 rfl ?_
                                                  refine j_iconst dL_law_1603 ?_
                                                  refine j_iadd dL_law_1604 ?_
                                                  obtain ⟨c453, h⟩ := chk_elim h
                                                  refine j_scld (wrap_inR _) dL_law_1605 c453 ?_
                                                  refine j_aload_n (j := 3) dL_law_1606 rfl rfl ?_
                                                  obtain ⟨p455, e454, h⟩ := obind_elim h
                                                  refine j_callSW (n := 4) ML_200 YL_boati YL_boatc (by decide) (by decide +kernel) IL_boat (by decide) (by omega) (Nat.le_of_ble_eq_true rfl) rfl (ctL_boat (d := d - 1) hl (by omega) (i32_inR _) (i32_inR _) e454) dL_law_1607 rfl (fun z456 xt457 => ?_)
                                                  refine j_istore (lv' := [(6, vI p455.1), (0, .ref (gS g 6)), (1, .ref (gB g + 1)), (2, .ref (gB g + 349)), (3, .ref (gB g + 374)), (4, .ref (gB g + 375)), (5, vI x5)]) dL_law_1610 (by decide) (by first | rfl | (simp only [List.all_cons, List.all_nil, rv_cat]; rfl)) rfl ?_
                                                  refine j_aload_n (j := 3) dL_law_1612 rfl rfl ?_
                                                  refine j_aload_n (j := 1) dL_law_1613 rfl rfl ?_
                                                  refine j_iload (j := 6) dL_law_1614 rfl ?_
                                                  refine j_iconst dL_law_1616 ?_
                                                  refine j_iadd dL_law_1617 ?_
                                                  obtain ⟨c458, h⟩ := chk_elim h
                                                  refine j_scld (wrap_inR _) dL_law_1618 c458 ?_
                                                  refine j_aload_n (j := 1) dL_law_1619 rfl rfl ?_
                                                  refine j_iload (j := 6) dL_law_1620 rfl ?_
                                                  refine j_iconst dL_law_1622 ?_
                                                  refine j_iadd dL_law_1623 ?_
                                                  obtain ⟨c459, h⟩ := chk_elim h
                                                  refine j_scld (wrap_inR _) dL_law_1624 c459 ?_
                                                  obtain ⟨p461, e460, h⟩ := obind_elim h
                                                  refine j_callV ML_202 YX9_boat IX9_boat SX9_boat (by decide) rfl (by decide) (by omega) (Nat.le_of_ble_eq_true rfl) rfl (ctX9_boat (d := d - 1) hl (by omega) (i32_inR _) (i32_inR _) e460) dL_law_1625 (VK_c 9 349 rfl).1 (VK_c 9 349 rfl).lt (VK_c 9 349 rfl).ka rfl (fun z462 xt463 => ?_)
                                                  refine j_istore (lv' := [(7, vI p461.1), (6, vI p455.1), (0, .ref (gS g 6)), (1, .ref (gB g + 1)), (2, .ref (gB g + 349)), (3, .ref (gB g + 374)), (4, .ref (gB g + 375)), (5, vI x5)]) dL_law_1628 (by decide) (by first | rfl | (simp only [List.all_cons, List.all_nil, rv_cat]; rfl)) rfl ?_
                                                  refine j_aload_n (j := 4) dL_law_1630 rfl rfl ?_
                                                  obtain ⟨z465, e464, h⟩ := obind_elim h
                                                  refine j_callV ML_133 YX9_thrown IX9_thrown SX9_thrown (by decide) rfl (by decide) (by omega) (Nat.le_of_ble_eq_true rfl) rfl (ctX9_thrown (d := d - 1) hl (by omega)  e464) dL_law_1631 (VK_c 9 349 rfl).1 (VK_c 9 349 rfl).lt (VK_c 9 349 rfl).ka rfl (fun z466 _ => ?_)
                                                  refine j_iload (j := 1) dL_law_1634 rfl ?_
                                                  by_cases c468 : z465 = p455.1
                                                  · rw [if_pos c468] at h
                                                    refine j_icmp_eq_t z466 z456 dL_law_1636 (tgt := 1641) (by decide) c468 ?_
                                                    refine j_iload (j := 1) dL_law_1641 rfl ?_
                                                    by_cases c469 : p455.1 = 0
                                                    · rw [if_pos c469] at h
                                                      refine j_if_ne_f z456 dL_law_1643 (tgt := 1658) (by decide) (fun q => q c469) ?_
                                                      refine j_aload_n (j := 5) dL_law_1646 rfl rfl ?_
                                                      refine j_iconst dL_law_1647 ?_
                                                      refine j_lald dL_law_1648 (fun r471 => ?_)
                                                      refine j_iload (j := 0) dL_law_1649 rfl ?_
                                                      refine j_i2l z462 dL_law_1651 ?_
                                                      refine j_lcmp r471 z462 dL_law_1652 ?_
                                                      by_cases c472 : (icmp (gI p461.2 374 0) p461.1) = 0
                                                      · rw [if_pos c472] at h
                                                        refine j_if_eq_t (icmp_inR _ _) dL_law_1653 (tgt := 1658) (by decide) c472 ?_
                                                        refine j_goto (tgt := 2235) dL_law_1658 (by decide) ?_
                                                        obtain ⟨u473, eu473, h⟩ := bnd_elim h
                                                        have hu473 : inR u473 := by rw [eu473]; exact wrap_inR _
                                                        refine j_iincN (k := 7) (lv' := [(5, vI u473), (7, vI p461.1), (6, vI p455.1), (0, .ref (gS g 6)), (1, .ref (gB g + 1)), (2, .ref (gB g + 349)), (3, .ref (gB g + 374)), (4, .ref (gB g + 375))]) eu473 dL_law_2235 rfl (by decide) (by first | rfl | (simp only [List.all_cons, List.all_nil, rv_cat]; rfl)) rfl ?_
                                                        refine j_goto (tgt := 28) dL_law_2238 (by decide) ?_
                                                        exact j_sub [3, 4, 5, 6, 7, 0] rfl (ih p461.2 u473 hu473 h)
                                                      · rw [if_neg c472] at h
                                                        refine j_if_eq_f (icmp_inR _ _) dL_law_1653 (tgt := 1658) (by decide) c472 ?_
                                                        refine j_iconst dL_law_1656 ?_
                                                        cases h
                                                        exact j_iret dL_law_1657 rfl ((nar_bool (Or.inl rfl)).1) rfl (Or.inl rfl)
                                                    · rw [if_neg c469] at h
                                                      refine j_if_ne_t z456 dL_law_1643 (tgt := 1658) (by decide) c469 ?_
                                                      refine j_goto (tgt := 2235) dL_law_1658 (by decide) ?_
                                                      obtain ⟨u470, eu470, h⟩ := bnd_elim h
                                                      have hu470 : inR u470 := by rw [eu470]; exact wrap_inR _
                                                      refine j_iincN (k := 7) (lv' := [(5, vI u470), (7, vI p461.1), (6, vI p455.1), (0, .ref (gS g 6)), (1, .ref (gB g + 1)), (2, .ref (gB g + 349)), (3, .ref (gB g + 374)), (4, .ref (gB g + 375))]) eu470 dL_law_2235 rfl (by decide) (by first | rfl | (simp only [List.all_cons, List.all_nil, rv_cat]; rfl)) rfl ?_
                                                      refine j_goto (tgt := 28) dL_law_2238 (by decide) ?_
                                                      exact j_sub [3, 4, 5, 6, 7, 0] rfl (ih p461.2 u470 hu470 h)
                                                  · rw [if_neg c468] at h
                                                    refine j_icmp_eq_f z466 z456 dL_law_1636 (tgt := 1641) (by decide) c468 ?_
                                                    refine j_iconst dL_law_1639 ?_
                                                    cases h
                                                    exact j_iret dL_law_1640 rfl ((nar_bool (Or.inl rfl)).1) rfl (Or.inl rfl)
                                                · rw [if_neg c451] at h
                                                  by_cases c474 : (iAnd (gXi g x5.toNat) 63) = 22
                                                  · rw [if_pos c474] at h
                                                    refine j_table_in (tgt := 1661) (iAnd_inR _ _) dL_law_45 (by omega) (by omega) (by rw [c474]; rfl) (by decide) ?_
                                                    refine j_aload_n (j := 1) dL_law_1661 rfl rfl ?_
                                                    refine j_aload_n (j := 0) dL_law_1662 rfl rfl ?_
                                                    refine j_iload (j := 5) dL_law_1663 rfl ?_
                                                    refine j_iconst dL_law_1665 ?_
                                                    refine j_iadd dL_law_1666 ?_
                                                    obtain ⟨c475, h⟩ := chk_elim h
                                                    refine j_scld (wrap_inR _) dL_law_1667 c475 ?_
                                                    refine j_aload_n (j := 3) dL_law_1668 rfl rfl ?_
                                                    obtain ⟨p477, e476, h⟩ := obind_elim h
                                                    refine j_callSW (n := 3) ML_203 YL_passi YL_passc (by decide) (by decide +kernel) IL_pass (by decide) (by omega) (Nat.le_of_ble_eq_true rfl) rfl (ctL_pass (d := d - 1) hl (by omega) (i32_inR _) e476) dL_law_1669 rfl (fun z478 xt479 => ?_)
                                                    refine j_istore (lv' := [(6, vI p477.1), (0, .ref (gS g 6)), (1, .ref (gB g + 1)), (2, .ref (gB g + 349)), (3, .ref (gB g + 374)), (4, .ref (gB g + 375)), (5, vI x5)]) dL_law_1672 (by decide) (by first | rfl | (simp only [List.all_cons, List.all_nil, rv_cat]; rfl)) rfl ?_
                                                    refine j_aload_n (j := 3) dL_law_1674 rfl rfl ?_
                                                    refine j_aload_n (j := 1) dL_law_1675 rfl rfl ?_
                                                    refine j_iload (j := 6) dL_law_1676 rfl ?_
                                                    refine j_iconst dL_law_1678 ?_
                                                    refine j_iadd dL_law_1679 ?_
                                                    obtain ⟨c480, h⟩ := chk_elim h
                                                    refine j_scld (wrap_inR _) dL_law_1680 c480 ?_
                                                    obtain ⟨p482, e481, h⟩ := obind_elim h
                                                    refine j_callV ML_205 YX9_pass IX9_pass SX9_pass (by decide) rfl (by decide) (by omega) (Nat.le_of_ble_eq_true rfl) rfl (ctX9_pass (d := d - 1) hl (by omega) (i32_inR _) e481) dL_law_1681 (VK_c 9 349 rfl).1 (VK_c 9 349 rfl).lt (VK_c 9 349 rfl).ka rfl (fun z483 xt484 => ?_)
                                                    refine j_istore (lv' := [(7, vI p482.1), (6, vI p477.1), (0, .ref (gS g 6)), (1, .ref (gB g + 1)), (2, .ref (gB g + 349)), (3, .ref (gB g + 374)), (4, .ref (gB g + 375)), (5, vI x5)]) dL_law_1684 (by decide) (by first | rfl | (simp only [List.all_cons, List.all_nil, rv_cat]; rfl)) rfl ?_
                                                    refine j_aload_n (j := 4) dL_law_1686 rfl rfl ?_
                                                    obtain ⟨z486, e485, h⟩ := obind_elim h
                                                    refine j_callV ML_133 YX9_thrown IX9_thrown SX9_thrown (by decide) rfl (by decide) (by omega) (Nat.le_of_ble_eq_true rfl) rfl (ctX9_thrown (d := d - 1) hl (by omega)  e485) dL_law_1687 (VK_c 9 349 rfl).1 (VK_c 9 349 rfl).lt (VK_c 9 349 rfl).ka rfl (fun z487 _ => ?_)
                                                    refine j_iload (j := 1) dL_law_1690 rfl ?_
                                                    by_cases c489 : z486 = p477.1
                                                    · rw [if_pos c489] at h
                                                      refine j_icmp_eq_t z487 z478 dL_law_1692 (tgt := 1697) (by decide) c489 ?_
                                                      refine j_iload (j := 1) dL_law_1697 rfl ?_
                                                      by_cases c490 : p477.1 = 0
                                                      · rw [if_pos c490] at h
                                                        refine j_if_ne_f z478 dL_law_1699 (tgt := 1714) (by decide) (fun q => q c490) ?_
                                                        refine j_aload_n (j := 5) dL_law_1702 rfl rfl ?_
                                                        refine j_iconst dL_law_1703 ?_
                                                        refine j_lald dL_law_1704 (fun r492 => ?_)
                                                        refine j_iload (j := 0) dL_law_1705 rfl ?_
                                                        refine j_i2l z483 dL_law_1707 ?_
                                                        refine j_lcmp r492 z483 dL_law_1708 ?_
                                                        by_cases c493 : (icmp (gI p482.2 374 0) p482.1) = 0
                                                        · rw [if_pos c493] at h
                                                          refine j_if_eq_t (icmp_inR _ _) dL_law_1709 (tgt := 1714) (by decide) c493 ?_
                                                          refine j_goto (tgt := 2235) dL_law_1714 (by decide) ?_
                                                          obtain ⟨u494, eu494, h⟩ := bnd_elim h
                                                          have hu494 : inR u494 := by rw [eu494]; exact wrap_inR _
                                                          refine j_iincN (k := 7) (lv' := [(5, vI u494), (7, vI p482.1), (6, vI p477.1), (0, .ref (gS g 6)), (1, .ref (gB g + 1)), (2, .ref (gB g + 349)), (3, .ref (gB g + 374)), (4, .ref (gB g + 375))]) eu494 dL_law_2235 rfl (by decide) (by first | rfl | (simp only [List.all_cons, List.all_nil, rv_cat]; rfl)) rfl ?_
                                                          refine j_goto (tgt := 28) dL_law_2238 (by decide) ?_
                                                          exact j_sub [3, 4, 5, 6, 7, 0] rfl (ih p482.2 u494 hu494 h)
                                                        · rw [if_neg c493] at h
                                                          refine j_if_eq_f (icmp_inR _ _) dL_law_1709 (tgt := 1714) (by decide) c493 ?_
                                                          refine j_iconst dL_law_1712 ?_
                                                          cases h
                                                          exact j_iret dL_law_1713 rfl ((nar_bool (Or.inl rfl)).1) rfl (Or.inl rfl)
                                                      · rw [if_neg c490] at h
                                                        refine j_if_ne_t z478 dL_law_1699 (tgt := 1714) (by decide) c490 ?_
                                                        refine j_goto (tgt := 2235) dL_law_1714 (by decide) ?_
                                                        obtain ⟨u491, eu491, h⟩ := bnd_elim h
                                                        have hu491 : inR u491 := by rw [eu491]; exact wrap_inR _
                                                        refine j_iincN (k := 7) (lv' := [(5, vI u491), (7, vI p482.1), (6, vI p477.1), (0, .ref (gS g 6)), (1, .ref (gB g + 1)), (2, .ref (gB g + 349)), (3, .ref (gB g + 374)), (4, .ref (gB g + 375))]) eu491 dL_law_2235 rfl (by decide) (by first | rfl | (simp only [List.all_cons, List.all_nil, rv_cat]; rfl)) rfl ?_
                                                        refine j_goto (tgt := 28) dL_law_2238 (by decide) ?_
                                                        exact j_sub [3, 4, 5, 6, 7, 0] rfl (ih p482.2 u491 hu491 h)
                                                    · rw [if_neg c489] at h
                                                      refine j_icmp_eq_f z487 z478 dL_law_1692 (tgt := 1697) (by decide) c489 ?_
                                                      refine j_iconst dL_law_1695 ?_
                                                      cases h
                                                      exact j_iret dL_law_1696 rfl ((nar_bool (Or.inl rfl)).1) rfl (Or.inl rfl)
                                                  · rw [if_neg c474] at h
                                                    by_cases c495 : (iAnd (gXi g x5.toNat) 63) = 23
                                                    · rw [if_pos c495] at h
                                                      refine j_table_in (tgt := 1717) (iAnd_inR _ _) dL_law_45 (by omega) (by omega) (by rw [c495]; rfl) (by decide) ?_
                                                      refine j_aload_n (j := 1) dL_law_1717 rfl rfl ?_
                                                      refine j_aload_n (j := 0) dL_law_1718 rfl rfl ?_
                                                      refine j_iload (j := 5) dL_law_1719 rfl ?_
                                                      refine j_iconst dL_law_1721 ?_
                                                      refine j_iadd dL_law_1722 ?_
                                                      obtain ⟨c496, h⟩ := chk_elim h
                                                      refine j_scld (wrap_inR _) dL_law_1723 c496 ?_
                                                      refine j_aload_n (j := 3) dL_law_1724 rfl rfl ?_
                                                      obtain ⟨p498, e497, h⟩ := obind_elim h
                                                      refine j_callSW (n := 3) ML_206 YL_numberi YL_numberc (by decide) (by decide +kernel) IL_number (by decide) (by omega) (Nat.le_of_ble_eq_true rfl) rfl (ctL_number (d := d - 1) hl (by omega) (i32_inR _) e497) dL_law_1725 rfl (fun z499 xt500 => ?_)
                                                      refine j_istore (lv' := [(6, vI p498.1), (0, .ref (gS g 6)), (1, .ref (gB g + 1)), (2, .ref (gB g + 349)), (3, .ref (gB g + 374)), (4, .ref (gB g + 375)), (5, vI x5)]) dL_law_1728 (by decide) (by first | rfl | (simp only [List.all_cons, List.all_nil, rv_cat]; rfl)) rfl ?_
                                                      refine j_aload_n (j := 3) dL_law_1730 rfl rfl ?_
                                                      refine j_aload_n (j := 1) dL_law_1731 rfl rfl ?_
                                                      refine j_iload (j := 6) dL_law_1732 rfl ?_
                                                      refine j_iconst dL_law_1734 ?_
                                                      refine j_iadd dL_law_1735 ?_
                                                      obtain ⟨c501, h⟩ := chk_elim h
                                                      refine j_scld (wrap_inR _) dL_law_1736 c501 ?_
                                                      obtain ⟨p503, e502, h⟩ := obind_elim h
                                                      refine j_callV ML_208 YX9_number IX9_number SX9_number (by decide) rfl (by decide) (by omega) (Nat.le_of_ble_eq_true rfl) rfl (ctX9_number (d := d - 1) hl (by omega) (i32_inR _) e502) dL_law_1737 (VK_c 9 349 rfl).1 (VK_c 9 349 rfl).lt (VK_c 9 349 rfl).ka rfl (fun z504 xt505 => ?_)
                                                      refine j_istore (lv' := [(7, vI p503.1), (6, vI p498.1), (0, .ref (gS g 6)), (1, .ref (gB g + 1)), (2, .ref (gB g + 349)), (3, .ref (gB g + 374)), (4, .ref (gB g + 375)), (5, vI x5)]) dL_law_1740 (by decide) (by first | rfl | (simp only [List.all_cons, List.all_nil, rv_cat]; rfl)) rfl ?_
                                                      refine j_aload_n (j := 4) dL_law_1742 rfl rfl ?_
                                                      obtain ⟨z507, e506, h⟩ := obind_elim h
                                                      refine j_callV ML_133 YX9_thrown IX9_thrown SX9_thrown (by decide) rfl (by decide) (by omega) (Nat.le_of_ble_eq_true rfl) rfl (ctX9_thrown (d := d - 1) hl (by omega)  e506) dL_law_1743 (VK_c 9 349 rfl).1 (VK_c 9 349 rfl).lt (VK_c 9 349 rfl).ka rfl (fun z508 _ => ?_)
                                                      refine j_iload (j := 1) dL_law_1746 rfl ?_
                                                      by_cases c510 : z507 = p498.1
                                                      · rw [if_pos c510] at h
                                                        refine j_icmp_eq_t z508 z499 dL_law_1748 (tgt := 1753) (by decide) c510 ?_
                                                        refine j_iload (j := 1) dL_law_1753 rfl ?_
                                                        by_cases c511 : p498.1 = 0
                                                        · rw [if_pos c511] at h
                                                          refine j_if_ne_f z499 dL_law_1755 (tgt := 1770) (by decide) (fun q => q c511) ?_
                                                          refine j_aload_n (j := 5) dL_law_1758 rfl rfl ?_
                                                          refine j_iconst dL_law_1759 ?_
                                                          refine j_lald dL_law_1760 (fun r513 => ?_)
                                                          refine j_iload (j := 0) dL_law_1761 rfl ?_
                                                          refine j_i2l z504 dL_law_1763 ?_
                                                          refine j_lcmp r513 z504 dL_law_1764 ?_
                                                          by_cases c514 : (icmp (gI p503.2 374 0) p503.1) = 0
                                                          · rw [if_pos c514] at h
                                                            refine j_if_eq_t (icmp_inR _ _) dL_law_1765 (tgt := 1770) (by decide) c514 ?_
                                                            refine j_goto (tgt := 2235) dL_law_1770 (by decide) ?_
                                                            obtain ⟨u515, eu515, h⟩ := bnd_elim h
                                                            have hu515 : inR u515 := by rw [eu515]; exact wrap_inR _
                                                            refine j_iincN (k := 7) (lv' := [(5, vI u515), (7, vI p503.1), (6, vI p498.1), (0, .ref (gS g 6)), (1, .ref (gB g + 1)), (2, .ref (gB g + 349)), (3, .ref (gB g + 374)), (4, .ref (gB g + 375))]) eu515 dL_law_2235 rfl (by decide) (by first | rfl | (simp only [List.all_cons, List.all_nil, rv_cat]; rfl)) rfl ?_
                                                            refine j_goto (tgt := 28) dL_law_2238 (by decide) ?_
                                                            exact j_sub [3, 4, 5, 6, 7, 0] rfl (ih p503.2 u515 hu515 h)
                                                          · rw [if_neg c514] at h
                                                            refine j_if_eq_f (icmp_inR _ _) dL_law_1765 (tgt := 1770) (by decide) c514 ?_
                                                            refine j_iconst dL_law_1768 ?_
                                                            cases h
                                                            exact j_iret dL_law_1769 rfl ((nar_bool (Or.inl rfl)).1) rfl (Or.inl rfl)
                                                        · rw [if_neg c511] at h
                                                          refine j_if_ne_t z499 dL_law_1755 (tgt := 1770) (by decide) c511 ?_
                                                          refine j_goto (tgt := 2235) dL_law_1770 (by decide) ?_
                                                          obtain ⟨u512, eu512, h⟩ := bnd_elim h
                                                          have hu512 : inR u512 := by rw [eu512]; exact wrap_inR _
                                                          refine j_iincN (k := 7) (lv' := [(5, vI u512), (7, vI p503.1), (6, vI p498.1), (0, .ref (gS g 6)), (1, .ref (gB g + 1)), (2, .ref (gB g + 349)), (3, .ref (gB g + 374)), (4, .ref (gB g + 375))]) eu512 dL_law_2235 rfl (by decide) (by first | rfl | (simp only [List.all_cons, List.all_nil, rv_cat]; rfl)) rfl ?_
                                                          refine j_goto (tgt := 28) dL_law_2238 (by decide) ?_
                                                          exact j_sub [3, 4, 5, 6, 7, 0] rfl (ih p503.2 u512 hu512 h)
                                                      · rw [if_neg c510] at h
                                                        refine j_icmp_eq_f z508 z499 dL_law_1748 (tgt := 1753) (by decide) c510 ?_
                                                        refine j_iconst dL_law_1751 ?_
                                                        cases h
                                                        exact j_iret dL_law_1752 rfl ((nar_bool (Or.inl rfl)).1) rfl (Or.inl rfl)
                                                    · rw [if_neg c495] at h
                                                      by_cases c516 : (iAnd (gXi g x5.toNat) 63) = 24
                                                      · rw [if_pos c516] at h
                                                        refine j_table_in (tgt := 1773) (iAnd_inR _ _) dL_law_45 (by omega) (by omega) (by rw [c516]; rfl) (by decide) ?_
                                                        refine j_aload_n (j := 1) dL_law_1773 rfl rfl ?_
                                                        refine j_aload (j := 4) dL_law_1774 rfl ?_
                                                        obtain ⟨p518, e517, h⟩ := obind_elim h
                                                        refine j_callSW (n := 2) ML_209 YL_meanWaiti YL_meanWaitc (by decide) (by decide +kernel) IL_meanWait (by decide) (by omega) (Nat.le_of_ble_eq_true rfl) rfl (ctL_meanWait (d := d - 1) hl (by omega)  e517) dL_law_1776 rfl (fun z519 xt520 => ?_)
                                                        refine j_istore (lv' := [(6, vI p518.1), (0, .ref (gS g 6)), (1, .ref (gB g + 1)), (2, .ref (gB g + 349)), (3, .ref (gB g + 374)), (4, .ref (gB g + 375)), (5, vI x5)]) dL_law_1779 (by decide) (by first | rfl | (simp only [List.all_cons, List.all_nil, rv_cat]; rfl)) rfl ?_
                                                        refine j_aload_n (j := 3) dL_law_1781 rfl rfl ?_
                                                        obtain ⟨p522, e521, h⟩ := obind_elim h
                                                        refine j_callV ML_212 YX9_meanWait IX9_meanWait SX9_meanWait (by decide) rfl (by decide) (by omega) (Nat.le_of_ble_eq_true rfl) rfl (ctX9_meanWait (d := d - 1) hl (by omega)  e521) dL_law_1782 (VK_c 9 349 rfl).1 (VK_c 9 349 rfl).lt (VK_c 9 349 rfl).ka rfl (fun z523 xt524 => ?_)
                                                        refine j_dstore (lv' := [(7, .double p522.1), (6, vI p518.1), (0, .ref (gS g 6)), (1, .ref (gB g + 1)), (2, .ref (gB g + 349)), (3, .ref (gB g + 374)), (4, .ref (gB g + 375)), (5, vI x5)]) dL_law_1785 (by decide) rfl ?_
                                                        refine j_aload_n (j := 4) dL_law_1787 rfl rfl ?_
                                                        obtain ⟨z526, e525, h⟩ := obind_elim h
                                                        refine j_callV ML_133 YX9_thrown IX9_thrown SX9_thrown (by decide) rfl (by decide) (by omega) (Nat.le_of_ble_eq_true rfl) rfl (ctX9_thrown (d := d - 1) hl (by omega)  e525) dL_law_1788 (VK_c 9 349 rfl).1 (VK_c 9 349 rfl).lt (VK_c 9 349 rfl).ka rfl (fun z527 _ => ?_)
                                                        refine j_iload (j := 1) dL_law_1791 rfl ?_
                                                        by_cases c529 : z526 = p518.1
                                                        · rw [if_pos c529] at h
                                                          refine j_icmp_eq_t z527 z519 dL_law_1793 (tgt := 1798) (by decide) c529 ?_
                                                          refine j_iload (j := 1) dL_law_1798 rfl ?_
                                                          by_cases c530 : p518.1 = 0
                                                          · rw [if_pos c530] at h
                                                            refine j_if_ne_f z519 dL_law_1800 (tgt := 1835) (by decide) (fun q => q c530) ?_
                                                            refine j_aload (j := 6) dL_law_1803 rfl ?_
                                                            refine j_iconst dL_law_1805 ?_
                                                            refine j_dald dL_law_1806 ?_
                                                            refine j_dload (j := 0) dL_law_1807 rfl ?_
                                                            refine j_dcmp dL_law_1809 ?_
                                                            by_cases c532 : ((Op.cmpValue (FP.dcmp (hDb p522.2) p522.1) .l).toInt) = 0
                                                            · rw [if_pos c532] at h
                                                              refine j_if_eq_t (i32_inR _) dL_law_1810 (tgt := 1835) (by decide) c532 ?_
                                                              refine j_goto (tgt := 2235) dL_law_1835 (by decide) ?_
                                                              obtain ⟨u533, eu533, h⟩ := bnd_elim h
                                                              have hu533 : inR u533 := by rw [eu533]; exact wrap_inR _
                                                              refine j_sub [2, 3, 4, 5, 6, 7] rfl ?_
                                                              refine j_iincN (k := 5) (lv' := [(5, vI u533), (0, .ref (gS g 6)), (1, .ref (gB g + 1)), (2, .ref (gB g + 349)), (3, .ref (gB g + 374)), (4, .ref (gB g + 375))]) eu533 dL_law_2235 rfl (by decide) (by first | rfl | (simp only [List.all_cons, List.all_nil, rv_cat]; rfl)) rfl ?_
                                                              refine j_goto (tgt := 28) dL_law_2238 (by decide) ?_
                                                              exact j_sub [1, 2, 3, 4, 5, 0] rfl (ih p522.2 u533 hu533 h)
                                                            · rw [if_neg c532] at h
                                                              refine j_if_eq_f (i32_inR _) dL_law_1810 (tgt := 1835) (by decide) c532 ?_
                                                              refine j_aload (j := 6) dL_law_1813 rfl ?_
                                                              refine j_iconst dL_law_1815 ?_
                                                              refine j_dald dL_law_1816 ?_
                                                              refine j_aload (j := 6) dL_law_1817 rfl ?_
                                                              refine j_iconst dL_law_1819 ?_
                                                              refine j_dald dL_law_1820 ?_
                                                              refine j_dcmp dL_law_1821 ?_
                                                              by_cases c534 : ((Op.cmpValue (FP.dcmp (hDb p522.2) (hDb p522.2)) .l).toInt) = 0
                                                              · rw [if_pos c534] at h
                                                                refine j_if_eq_t (i32_inR _) dL_law_1822 (tgt := 1833) (by decide) c534 ?_
                                                                refine j_iconst dL_law_1833 ?_
                                                                cases h
                                                                exact j_iret dL_law_1834 rfl ((nar_bool (Or.inl rfl)).1) rfl (Or.inl rfl)
                                                              · rw [if_neg c534] at h
                                                                refine j_if_eq_f (i32_inR _) dL_law_1822 (tgt := 1833) (by decide) c534 ?_
                                                                refine j_dload (j := 0) dL_law_1825 rfl ?_
                                                                refine j_dload (j := 0) dL_law_1827 rfl ?_
                                                                refine j_dcmp dL_law_1829 ?_
                                                                by_cases c535 : ((Op.cmpValue (FP.dcmp p522.1 p522.1) .l).toInt) = 0
                                                                · rw [if_pos c535] at h
                                                                  refine j_if_ne_f (i32_inR _) dL_law_1830 (tgt := 1835) (by decide) (fun q => q c535) ?_
                                                                  refine j_iconst dL_law_1833 ?_
                                                                  cases h
                                                                  exact j_iret dL_law_1834 rfl ((nar_bool (Or.inl rfl)).1) rfl (Or.inl rfl)
                                                                · rw [if_neg c535] at h
                                                                  refine j_if_ne_t (i32_inR _) dL_law_1830 (tgt := 1835) (by decide) c535 ?_
                                                                  refine j_goto (tgt := 2235) dL_law_1835 (by decide) ?_
                                                                  obtain ⟨u536, eu536, h⟩ := bnd_elim h
                                                                  have hu536 : inR u536 := by rw [eu536]; exact wrap_inR _
                                                                  refine j_sub [2, 3, 4, 5, 6, 7] rfl ?_
                                                                  refine j_iincN (k := 5) (lv' := [(5, vI u536), (0, .ref (gS g 6)), (1, .ref (gB g + 1)), (2, .ref (gB g + 349)), (3, .ref (gB g + 374)), (4, .ref (gB g + 375))]) eu536 dL_law_2235 rfl (by decide) (by first | rfl | (simp only [List.all_cons, List.all_nil, rv_cat]; rfl)) rfl ?_
                                                                  refine j_goto (tgt := 28) dL_law_2238 (by decide) ?_
                                                                  exact j_sub [1, 2, 3, 4, 5, 0] rfl (ih p522.2 u536 hu536 h)
                                                          · rw [if_neg c530] at h
                                                            refine j_if_ne_t z519 dL_law_1800 (tgt := 1835) (by decide) c530 ?_
                                                            refine j_goto (tgt := 2235) dL_law_1835 (by decide) ?_
                                                            obtain ⟨u531, eu531, h⟩ := bnd_elim h
                                                            have hu531 : inR u531 := by rw [eu531]; exact wrap_inR _
                                                            refine j_sub [2, 3, 4, 5, 6, 7] rfl ?_
                                                            refine j_iincN (k := 5) (lv' := [(5, vI u531), (0, .ref (gS g 6)), (1, .ref (gB g + 1)), (2, .ref (gB g + 349)), (3, .ref (gB g + 374)), (4, .ref (gB g + 375))]) eu531 dL_law_2235 rfl (by decide) (by first | rfl | (simp only [List.all_cons, List.all_nil, rv_cat]; rfl)) rfl ?_
                                                            refine j_goto (tgt := 28) dL_law_2238 (by decide) ?_
                                                            exact j_sub [1, 2, 3, 4, 5, 0] rfl (ih p522.2 u531 hu531 h)
                                                        · rw [if_neg c529] at h
                                                          refine j_icmp_eq_f z527 z519 dL_law_1793 (tgt := 1798) (by decide) c529 ?_
                                                          refine j_iconst dL_law_1796 ?_
                                                          cases h
                                                          exact j_iret dL_law_1797 rfl ((nar_bool (Or.inl rfl)).1) rfl (Or.inl rfl)
                                                      · rw [if_neg c516] at h
                                                        by_cases c537 : (iAnd (gXi g x5.toNat) 63) = 25
                                                        · rw [if_pos c537] at h
                                                          refine j_table_in (tgt := 1838) (iAnd_inR _ _) dL_law_45 (by omega) (by omega) (by rw [c537]; rfl) (by decide) ?_
                                                          refine j_aload_n (j := 1) dL_law_1838 rfl rfl ?_
                                                          refine j_aload_n (j := 0) dL_law_1839 rfl rfl ?_
                                                          refine j_iload (j := 5) dL_law_1840 rfl ?_
                                                          refine j_iconst dL_law_1842 ?_
                                                          refine j_iadd dL_law_1843 ?_
                                                          obtain ⟨c538, h⟩ := chk_elim h
                                                          refine j_scld (wrap_inR _) dL_law_1844 c538 ?_
                                                          refine j_aload (j := 4) dL_law_1845 rfl ?_
                                                          obtain ⟨p540, e539, h⟩ := obind_elim h
                                                          refine j_callSW (n := 3) ML_213 YL_sharei YL_sharec (by decide) (by decide +kernel) IL_share (by decide) (by omega) (Nat.le_of_ble_eq_true rfl) rfl (ctL_share (d := d - 1) hl (by omega) (i32_inR _) e539) dL_law_1847 rfl (fun z541 xt542 => ?_)
                                                          refine j_istore (lv' := [(6, vI p540.1), (0, .ref (gS g 6)), (1, .ref (gB g + 1)), (2, .ref (gB g + 349)), (3, .ref (gB g + 374)), (4, .ref (gB g + 375)), (5, vI x5)]) dL_law_1850 (by decide) (by first | rfl | (simp only [List.all_cons, List.all_nil, rv_cat]; rfl)) rfl ?_
                                                          refine j_aload_n (j := 3) dL_law_1852 rfl rfl ?_
                                                          refine j_aload_n (j := 1) dL_law_1853 rfl rfl ?_
                                                          refine j_iload (j := 6) dL_law_1854 rfl ?_
                                                          refine j_iconst dL_law_1856 ?_
                                                          refine j_iadd dL_law_1857 ?_
                                                          obtain ⟨c543, h⟩ := chk_elim h
                                                          refine j_scld (wrap_inR _) dL_law_1858 c543 ?_
                                                          obtain ⟨p545, e544, h⟩ := obind_elim h
                                                          refine j_callV ML_216 YX9_share IX9_share SX9_share (by decide) rfl (by decide) (by omega) (Nat.le_of_ble_eq_true rfl) rfl (ctX9_share (d := d - 1) hl (by omega) (i32_inR _) e544) dL_law_1859 (VK_c 9 349 rfl).1 (VK_c 9 349 rfl).lt (VK_c 9 349 rfl).ka rfl (fun z546 xt547 => ?_)
                                                          refine j_fstore (lv' := [(7, .float p545.1), (6, vI p540.1), (0, .ref (gS g 6)), (1, .ref (gB g + 1)), (2, .ref (gB g + 349)), (3, .ref (gB g + 374)), (4, .ref (gB g + 375)), (5, vI x5)]) dL_law_1862 (by decide) rfl ?_
                                                          refine j_aload_n (j := 4) dL_law_1864 rfl rfl ?_
                                                          obtain ⟨z549, e548, h⟩ := obind_elim h
                                                          refine j_callV ML_133 YX9_thrown IX9_thrown SX9_thrown (by decide) rfl (by decide) (by omega) (Nat.le_of_ble_eq_true rfl) rfl (ctX9_thrown (d := d - 1) hl (by omega)  e548) dL_law_1865 (VK_c 9 349 rfl).1 (VK_c 9 349 rfl).lt (VK_c 9 349 rfl).ka rfl (fun z550 _ => ?_)
                                                          refine j_iload (j := 1) dL_law_1868 rfl ?_
                                                          by_cases c552 : z549 = p540.1
                                                          · rw [if_pos c552] at h
                                                            refine j_icmp_eq_t z550 z541 dL_law_1870 (tgt := 1875) (by decide) c552 ?_
                                                            refine j_iload (j := 1) dL_law_1875 rfl ?_
                                                            by_cases c553 : p540.1 = 0
                                                            · rw [if_pos c553] at h
                                                              refine j_if_ne_f z541 dL_law_1877 (tgt := 1913) (by decide) (fun q => q c553) ?_
                                                              refine j_aload (j := 6) dL_law_1880 rfl ?_
                                                              refine j_iconst dL_law_1882 ?_
                                                              refine j_dald dL_law_1883 ?_
                                                              refine j_fload (j := 0) dL_law_1884 rfl ?_
                                                              obtain ⟨c555, h⟩ := chk_elim h
                                                              refine j_f2d c555 dL_law_1886 ?_
                                                              refine j_dcmp dL_law_1887 ?_
                                                              by_cases c556 : ((Op.cmpValue (FP.dcmp (hDb p545.2) (FP.f2d p545.1)) .l).toInt) = 0
                                                              · rw [if_pos c556] at h
                                                                refine j_if_eq_t (i32_inR _) dL_law_1888 (tgt := 1913) (by decide) c556 ?_
                                                                refine j_goto (tgt := 2235) dL_law_1913 (by decide) ?_
                                                                obtain ⟨u557, eu557, h⟩ := bnd_elim h
                                                                have hu557 : inR u557 := by rw [eu557]; exact wrap_inR _
                                                                refine j_iincN (k := 7) (lv' := [(5, vI u557), (7, .float p545.1), (6, vI p540.1), (0, .ref (gS g 6)), (1, .ref (gB g + 1)), (2, .ref (gB g + 349)), (3, .ref (gB g + 374)), (4, .ref (gB g + 375))]) eu557 dL_law_2235 rfl (by decide) (by first | rfl | (simp only [List.all_cons, List.all_nil, rv_cat]; rfl)) rfl ?_
                                                                refine j_goto (tgt := 28) dL_law_2238 (by decide) ?_
                                                                exact j_sub [3, 4, 5, 6, 7, 0] rfl (ih p545.2 u557 hu557 h)
                                                              · rw [if_neg c556] at h
                                                                refine j_if_eq_f (i32_inR _) dL_law_1888 (tgt := 1913) (by decide) c556 ?_
                                                                refine j_aload (j := 6) dL_law_1891 rfl ?_
                                                                refine j_iconst dL_law_1893 ?_
                                                                refine j_dald dL_law_1894 ?_
                                                                refine j_aload (j := 6) dL_law_1895 rfl ?_
                                                                refine j_iconst dL_law_1897 ?_
                                                                refine j_dald dL_law_1898 ?_
                                                                refine j_dcmp dL_law_1899 ?_
                                                                by_cases c558 : ((Op.cmpValue (FP.dcmp (hDb p545.2) (hDb p545.2)) .l).toInt) = 0
                                                                · rw [if_pos c558] at h
                                                                  refine j_if_eq_t (i32_inR _) dL_law_1900 (tgt := 1911) (by decide) c558 ?_
                                                                  refine j_iconst dL_law_1911 ?_
                                                                  cases h
                                                                  exact j_iret dL_law_1912 rfl ((nar_bool (Or.inl rfl)).1) rfl (Or.inl rfl)
                                                                · rw [if_neg c558] at h
                                                                  refine j_if_eq_f (i32_inR _) dL_law_1900 (tgt := 1911) (by decide) c558 ?_
                                                                  refine j_fload (j := 0) dL_law_1903 rfl ?_
                                                                  refine j_fload (j := 0) dL_law_1905 rfl ?_
                                                                  refine j_fcmp dL_law_1907 ?_
                                                                  by_cases c559 : ((Op.cmpValue (FP.fcmp p545.1 p545.1) .l).toInt) = 0
                                                                  · rw [if_pos c559] at h
                                                                    refine j_if_ne_f (i32_inR _) dL_law_1908 (tgt := 1913) (by decide) (fun q => q c559) ?_
                                                                    refine j_iconst dL_law_1911 ?_
                                                                    cases h
                                                                    exact j_iret dL_law_1912 rfl ((nar_bool (Or.inl rfl)).1) rfl (Or.inl rfl)
                                                                  · rw [if_neg c559] at h
                                                                    refine j_if_ne_t (i32_inR _) dL_law_1908 (tgt := 1913) (by decide) c559 ?_
                                                                    refine j_goto (tgt := 2235) dL_law_1913 (by decide) ?_
                                                                    obtain ⟨u560, eu560, h⟩ := bnd_elim h
                                                                    have hu560 : inR u560 := by rw [eu560]; exact wrap_inR _
                                                                    refine j_iincN (k := 7) (lv' := [(5, vI u560), (7, .float p545.1), (6, vI p540.1), (0, .ref (gS g 6)), (1, .ref (gB g + 1)), (2, .ref (gB g + 349)), (3, .ref (gB g + 374)), (4, .ref (gB g + 375))]) eu560 dL_law_2235 rfl (by decide) (by first | rfl | (simp only [List.all_cons, List.all_nil, rv_cat]; rfl)) rfl ?_
                                                                    refine j_goto (tgt := 28) dL_law_2238 (by decide) ?_
                                                                    exact j_sub [3, 4, 5, 6, 7, 0] rfl (ih p545.2 u560 hu560 h)
                                                            · rw [if_neg c553] at h
                                                              refine j_if_ne_t z541 dL_law_1877 (tgt := 1913) (by decide) c553 ?_
                                                              refine j_goto (tgt := 2235) dL_law_1913 (by decide) ?_
                                                              obtain ⟨u554, eu554, h⟩ := bnd_elim h
                                                              have hu554 : inR u554 := by rw [eu554]; exact wrap_inR _
                                                              refine j_iincN (k := 7) (lv' := [(5, vI u554), (7, .float p545.1), (6, vI p540.1), (0, .ref (gS g 6)), (1, .ref (gB g + 1)), (2, .ref (gB g + 349)), (3, .ref (gB g + 374)), (4, .ref (gB g + 375))]) eu554 dL_law_2235 rfl (by decide) (by first | rfl | (simp only [List.all_cons, List.all_nil, rv_cat]; rfl)) rfl ?_
                                                              refine j_goto (tgt := 28) dL_law_2238 (by decide) ?_
                                                              exact j_sub [3, 4, 5, 6, 7, 0] rfl (ih p545.2 u554 hu554 h)
                                                          · rw [if_neg c552] at h
                                                            refine j_icmp_eq_f z550 z541 dL_law_1870 (tgt := 1875) (by decide) c552 ?_
                                                            refine j_iconst dL_law_1873 ?_
                                                            cases h
                                                            exact j_iret dL_law_1874 rfl ((nar_bool (Or.inl rfl)).1) rfl (Or.inl rfl)
                                                        · rw [if_neg c537] at h
                                                          by_cases c561 : (iAnd (gXi g x5.toNat) 63) = 26
                                                          · rw [if_pos c561] at h
                                                            refine j_table_in (tgt := 1916) (iAnd_inR _ _) dL_law_45 (by omega) (by omega) (by rw [c561]; rfl) (by decide) ?_
                                                            refine j_aload_n (j := 1) dL_law_1916 rfl rfl ?_
                                                            refine j_aload_n (j := 0) dL_law_1917 rfl rfl ?_
                                                            refine j_iload (j := 5) dL_law_1918 rfl ?_
                                                            refine j_iconst dL_law_1920 ?_
                                                            refine j_iadd dL_law_1921 ?_
                                                            obtain ⟨c562, h⟩ := chk_elim h
                                                            refine j_scld (wrap_inR _) dL_law_1922 c562 ?_
                                                            refine j_i2c (i32_inR _) dL_law_1923 ?_
                                                            refine j_aload_n (j := 3) dL_law_1924 rfl rfl ?_
                                                            obtain ⟨p564, e563, h⟩ := obind_elim h
                                                            refine j_callSW (n := 3) ML_217 YL_feedi YL_feedc (by decide) (by decide +kernel) IL_feed (by decide) (by omega) (Nat.le_of_ble_eq_true rfl) rfl (ctL_feed (d := d - 1) hl (by omega) (chr_mod _) e563) dL_law_1925 rfl (fun z565 xt566 => ?_)
                                                            refine j_istore (lv' := [(6, vI p564.1), (0, .ref (gS g 6)), (1, .ref (gB g + 1)), (2, .ref (gB g + 349)), (3, .ref (gB g + 374)), (4, .ref (gB g + 375)), (5, vI x5)]) dL_law_1928 (by decide) (by first | rfl | (simp only [List.all_cons, List.all_nil, rv_cat]; rfl)) rfl ?_
                                                            refine j_aload_n (j := 3) dL_law_1930 rfl rfl ?_
                                                            refine j_aload_n (j := 1) dL_law_1931 rfl rfl ?_
                                                            refine j_iload (j := 6) dL_law_1932 rfl ?_
                                                            refine j_iconst dL_law_1934 ?_
                                                            refine j_iadd dL_law_1935 ?_
                                                            obtain ⟨c567, h⟩ := chk_elim h
                                                            refine j_scld (wrap_inR _) dL_law_1936 c567 ?_
                                                            refine j_i2c (i32_inR _) dL_law_1937 ?_
                                                            obtain ⟨p569, e568, h⟩ := obind_elim h
                                                            refine j_callV ML_220 YX9_feed IX9_feed SX9_feed (by decide) rfl (by decide) (by omega) (Nat.le_of_ble_eq_true rfl) rfl (ctX9_feed (d := d - 1) hl (by omega) (chr_mod _) e568) dL_law_1938 (VK_c 9 349 rfl).1 (VK_c 9 349 rfl).lt (VK_c 9 349 rfl).ka rfl (fun z570 xt571 => ?_)
                                                            refine j_istore (lv' := [(7, vI p569.1), (6, vI p564.1), (0, .ref (gS g 6)), (1, .ref (gB g + 1)), (2, .ref (gB g + 349)), (3, .ref (gB g + 374)), (4, .ref (gB g + 375)), (5, vI x5)]) dL_law_1941 (by decide) (by first | rfl | (simp only [List.all_cons, List.all_nil, rv_cat]; rfl)) rfl ?_
                                                            refine j_aload_n (j := 4) dL_law_1943 rfl rfl ?_
                                                            obtain ⟨z573, e572, h⟩ := obind_elim h
                                                            refine j_callV ML_133 YX9_thrown IX9_thrown SX9_thrown (by decide) rfl (by decide) (by omega) (Nat.le_of_ble_eq_true rfl) rfl (ctX9_thrown (d := d - 1) hl (by omega)  e572) dL_law_1944 (VK_c 9 349 rfl).1 (VK_c 9 349 rfl).lt (VK_c 9 349 rfl).ka rfl (fun z574 _ => ?_)
                                                            refine j_iload (j := 1) dL_law_1947 rfl ?_
                                                            by_cases c576 : z573 = p564.1
                                                            · rw [if_pos c576] at h
                                                              refine j_icmp_eq_t z574 z565 dL_law_1949 (tgt := 1954) (by decide) c576 ?_
                                                              refine j_iload (j := 1) dL_law_1954 rfl ?_
                                                              by_cases c577 : p564.1 = 0
                                                              · rw [if_pos c577] at h
                                                                refine j_if_ne_f z565 dL_law_1956 (tgt := 1971) (by decide) (fun q => q c577) ?_
                                                                refine j_aload_n (j := 5) dL_law_1959 rfl rfl ?_
                                                                refine j_iconst dL_law_1960 ?_
                                                                refine j_lald dL_law_1961 (fun r579 => ?_)
                                                                refine j_iload (j := 0) dL_law_1962 rfl ?_
                                                                refine j_i2l z570 dL_law_1964 ?_
                                                                refine j_lcmp r579 z570 dL_law_1965 ?_
                                                                by_cases c580 : (icmp (gI p569.2 374 0) p569.1) = 0
                                                                · rw [if_pos c580] at h
                                                                  refine j_if_eq_t (icmp_inR _ _) dL_law_1966 (tgt := 1971) (by decide) c580 ?_
                                                                  refine j_goto (tgt := 2235) dL_law_1971 (by decide) ?_
                                                                  obtain ⟨u581, eu581, h⟩ := bnd_elim h
                                                                  have hu581 : inR u581 := by rw [eu581]; exact wrap_inR _
                                                                  refine j_iincN (k := 7) (lv' := [(5, vI u581), (7, vI p569.1), (6, vI p564.1), (0, .ref (gS g 6)), (1, .ref (gB g + 1)), (2, .ref (gB g + 349)), (3, .ref (gB g + 374)), (4, .ref (gB g + 375))]) eu581 dL_law_2235 rfl (by decide) (by first | rfl | (simp only [List.all_cons, List.all_nil, rv_cat]; rfl)) rfl ?_
                                                                  refine j_goto (tgt := 28) dL_law_2238 (by decide) ?_
                                                                  exact j_sub [3, 4, 5, 6, 7, 0] rfl (ih p569.2 u581 hu581 h)
                                                                · rw [if_neg c580] at h
                                                                  refine j_if_eq_f (icmp_inR _ _) dL_law_1966 (tgt := 1971) (by decide) c580 ?_
                                                                  refine j_iconst dL_law_1969 ?_
                                                                  cases h
                                                                  exact j_iret dL_law_1970 rfl ((nar_bool (Or.inl rfl)).1) rfl (Or.inl rfl)
                                                              · rw [if_neg c577] at h
                                                                refine j_if_ne_t z565 dL_law_1956 (tgt := 1971) (by decide) c577 ?_
                                                                refine j_goto (tgt := 2235) dL_law_1971 (by decide) ?_
                                                                obtain ⟨u578, eu578, h⟩ := bnd_elim h
                                                                have hu578 : inR u578 := by rw [eu578]; exact wrap_inR _
                                                                refine j_iincN (k := 7) (lv' := [(5, vI u578), (7, vI p569.1), (6, vI p564.1), (0, .ref (gS g 6)), (1, .ref (gB g + 1)), (2, .ref (gB g + 349)), (3, .ref (gB g + 374)), (4, .ref (gB g + 375))]) eu578 dL_law_2235 rfl (by decide) (by first | rfl | (simp only [List.all_cons, List.all_nil, rv_cat]; rfl)) rfl ?_
                                                                refine j_goto (tgt := 28) dL_law_2238 (by decide) ?_
                                                                exact j_sub [3, 4, 5, 6, 7, 0] rfl (ih p569.2 u578 hu578 h)
                                                            · rw [if_neg c576] at h
                                                              refine j_icmp_eq_f z574 z565 dL_law_1949 (tgt := 1954) (by decide) c576 ?_
                                                              refine j_iconst dL_law_1952 ?_
                                                              cases h
                                                              exact j_iret dL_law_1953 rfl ((nar_bool (Or.inl rfl)).1) rfl (Or.inl rfl)
                                                          · rw [if_neg c561] at h
                                                            by_cases c582 : (iAnd (gXi g x5.toNat) 63) = 27
                                                            · rw [if_pos c582] at h
                                                              refine j_table_in (tgt := 1974) (iAnd_inR _ _) dL_law_45 (by omega) (by omega) (by rw [c582]; rfl) (by decide) ?_
                                                              refine j_aload_n (j := 1) dL_law_1974 rfl rfl ?_
                                                              refine j_aload_n (j := 3) dL_law_1975 rfl rfl ?_
                                                              obtain ⟨p584, e583, h⟩ := obind_elim h
                                                              refine j_callSW (n := 2) ML_221 YL_readi YL_readc (by decide) (by decide +kernel) IL_read (by decide) (by omega) (Nat.le_of_ble_eq_true rfl) rfl (ctL_read (d := d - 1) hl (by omega)  e583) dL_law_1976 rfl (fun z585 xt586 => ?_)
                                                              refine j_istore (lv' := [(6, vI p584.1), (0, .ref (gS g 6)), (1, .ref (gB g + 1)), (2, .ref (gB g + 349)), (3, .ref (gB g + 374)), (4, .ref (gB g + 375)), (5, vI x5)]) dL_law_1979 (by decide) (by first | rfl | (simp only [List.all_cons, List.all_nil, rv_cat]; rfl)) rfl ?_
                                                              refine j_aload_n (j := 3) dL_law_1981 rfl rfl ?_
                                                              obtain ⟨p588, e587, h⟩ := obind_elim h
                                                              refine j_callV ML_224 YX9_read IX9_read SX9_read (by decide) rfl (by decide) (by omega) (Nat.le_of_ble_eq_true rfl) rfl (ctX9_read (d := d - 1) hl (by omega)  e587) dL_law_1982 (VK_c 9 349 rfl).1 (VK_c 9 349 rfl).lt (VK_c 9 349 rfl).ka rfl (fun z589 xt590 => ?_)
                                                              refine j_istore (lv' := [(7, vI p588.1), (6, vI p584.1), (0, .ref (gS g 6)), (1, .ref (gB g + 1)), (2, .ref (gB g + 349)), (3, .ref (gB g + 374)), (4, .ref (gB g + 375)), (5, vI x5)]) dL_law_1985 (by decide) (by first | rfl | (simp only [List.all_cons, List.all_nil, rv_cat]; rfl)) rfl ?_
                                                              refine j_aload_n (j := 4) dL_law_1987 rfl rfl ?_
                                                              obtain ⟨z592, e591, h⟩ := obind_elim h
                                                              refine j_callV ML_133 YX9_thrown IX9_thrown SX9_thrown (by decide) rfl (by decide) (by omega) (Nat.le_of_ble_eq_true rfl) rfl (ctX9_thrown (d := d - 1) hl (by omega)  e591) dL_law_1988 (VK_c 9 349 rfl).1 (VK_c 9 349 rfl).lt (VK_c 9 349 rfl).ka rfl (fun z593 _ => ?_)
                                                              refine j_iload (j := 1) dL_law_1991 rfl ?_
                                                              by_cases c595 : z592 = p584.1
                                                              · rw [if_pos c595] at h
                                                                refine j_icmp_eq_t z593 z585 dL_law_1993 (tgt := 1998) (by decide) c595 ?_
                                                                refine j_iload (j := 1) dL_law_1998 rfl ?_
                                                                by_cases c596 : p584.1 = 0
                                                                · rw [if_pos c596] at h
                                                                  refine j_if_ne_f z585 dL_law_2000 (tgt := 2015) (by decide) (fun q => q c596) ?_
                                                                  refine j_aload_n (j := 5) dL_law_2003 rfl rfl ?_
                                                                  refine j_iconst dL_law_2004 ?_
                                                                  refine j_lald dL_law_2005 (fun r598 => ?_)
                                                                  refine j_iload (j := 0) dL_law_2006 rfl ?_
                                                                  refine j_i2l z589 dL_law_2008 ?_
                                                                  refine j_lcmp r598 z589 dL_law_2009 ?_
                                                                  by_cases c599 : (icmp (gI p588.2 374 0) p588.1) = 0
                                                                  · rw [if_pos c599] at h
                                                                    refine j_if_eq_t (icmp_inR _ _) dL_law_2010 (tgt := 2015) (by decide) c599 ?_
                                                                    refine j_goto (tgt := 2235) dL_law_2015 (by decide) ?_
                                                                    obtain ⟨u600, eu600, h⟩ := bnd_elim h
                                                                    have hu600 : inR u600 := by rw [eu600]; exact wrap_inR _
                                                                    refine j_iincN (k := 7) (lv' := [(5, vI u600), (7, vI p588.1), (6, vI p584.1), (0, .ref (gS g 6)), (1, .ref (gB g + 1)), (2, .ref (gB g + 349)), (3, .ref (gB g + 374)), (4, .ref (gB g + 375))]) eu600 dL_law_2235 rfl (by decide) (by first | rfl | (simp only [List.all_cons, List.all_nil, rv_cat]; rfl)) rfl ?_
                                                                    refine j_goto (tgt := 28) dL_law_2238 (by decide) ?_
                                                                    exact j_sub [3, 4, 5, 6, 7, 0] rfl (ih p588.2 u600 hu600 h)
                                                                  · rw [if_neg c599] at h
                                                                    refine j_if_eq_f (icmp_inR _ _) dL_law_2010 (tgt := 2015) (by decide) c599 ?_
                                                                    refine j_iconst dL_law_2013 ?_
                                                                    cases h
                                                                    exact j_iret dL_law_2014 rfl ((nar_bool (Or.inl rfl)).1) rfl (Or.inl rfl)
                                                                · rw [if_neg c596] at h
                                                                  refine j_if_ne_t z585 dL_law_2000 (tgt := 2015) (by decide) c596 ?_
                                                                  refine j_goto (tgt := 2235) dL_law_2015 (by decide) ?_
                                                                  obtain ⟨u597, eu597, h⟩ := bnd_elim h
                                                                  have hu597 : inR u597 := by rw [eu597]; exact wrap_inR _
                                                                  refine j_iincN (k := 7) (lv' := [(5, vI u597), (7, vI p588.1), (6, vI p584.1), (0, .ref (gS g 6)), (1, .ref (gB g + 1)), (2, .ref (gB g + 349)), (3, .ref (gB g + 374)), (4, .ref (gB g + 375))]) eu597 dL_law_2235 rfl (by decide) (by first | rfl | (simp only [List.all_cons, List.all_nil, rv_cat]; rfl)) rfl ?_
                                                                  refine j_goto (tgt := 28) dL_law_2238 (by decide) ?_
                                                                  exact j_sub [3, 4, 5, 6, 7, 0] rfl (ih p588.2 u597 hu597 h)
                                                              · rw [if_neg c595] at h
                                                                refine j_icmp_eq_f z593 z585 dL_law_1993 (tgt := 1998) (by decide) c595 ?_
                                                                refine j_iconst dL_law_1996 ?_
                                                                cases h
                                                                exact j_iret dL_law_1997 rfl ((nar_bool (Or.inl rfl)).1) rfl (Or.inl rfl)
                                                            · rw [if_neg c582] at h
                                                              by_cases c601 : (iAnd (gXi g x5.toNat) 63) = 28
                                                              · rw [if_pos c601] at h
                                                                refine j_table_in (tgt := 2018) (iAnd_inR _ _) dL_law_45 (by omega) (by omega) (by rw [c601]; rfl) (by decide) ?_
                                                                refine j_aload_n (j := 1) dL_law_2018 rfl rfl ?_
                                                                refine j_aload_n (j := 3) dL_law_2019 rfl rfl ?_
                                                                obtain ⟨p603, e602, h⟩ := obind_elim h
                                                                refine j_callSW (n := 2) ML_225 YL_faultPositioni YL_faultPositionc (by decide) (by decide +kernel) IL_faultPosition (by decide) (by omega) (Nat.le_of_ble_eq_true rfl) rfl (ctL_faultPosition (d := d - 1) hl (by omega)  e602) dL_law_2020 rfl (fun z604 xt605 => ?_)
                                                                refine j_istore (lv' := [(6, vI p603.1), (0, .ref (gS g 6)), (1, .ref (gB g + 1)), (2, .ref (gB g + 349)), (3, .ref (gB g + 374)), (4, .ref (gB g + 375)), (5, vI x5)]) dL_law_2023 (by decide) (by first | rfl | (simp only [List.all_cons, List.all_nil, rv_cat]; rfl)) rfl ?_
                                                                refine j_aload_n (j := 3) dL_law_2025 rfl rfl ?_
                                                                obtain ⟨p607, e606, h⟩ := obind_elim h
                                                                refine j_callV ML_227 YX9_faultPosition IX9_faultPosition SX9_faultPosition (by decide) rfl (by decide) (by omega) (Nat.le_of_ble_eq_true rfl) rfl (ctX9_faultPosition (d := d - 1) hl (by omega)  e606) dL_law_2026 (VK_c 9 349 rfl).1 (VK_c 9 349 rfl).lt (VK_c 9 349 rfl).ka rfl (fun z608 xt609 => ?_)
                                                                refine j_istore (lv' := [(7, vI p607.1), (6, vI p603.1), (0, .ref (gS g 6)), (1, .ref (gB g + 1)), (2, .ref (gB g + 349)), (3, .ref (gB g + 374)), (4, .ref (gB g + 375)), (5, vI x5)]) dL_law_2029 (by decide) (by first | rfl | (simp only [List.all_cons, List.all_nil, rv_cat]; rfl)) rfl ?_
                                                                refine j_aload_n (j := 4) dL_law_2031 rfl rfl ?_
                                                                obtain ⟨z611, e610, h⟩ := obind_elim h
                                                                refine j_callV ML_133 YX9_thrown IX9_thrown SX9_thrown (by decide) rfl (by decide) (by omega) (Nat.le_of_ble_eq_true rfl) rfl (ctX9_thrown (d := d - 1) hl (by omega)  e610) dL_law_2032 (VK_c 9 349 rfl).1 (VK_c 9 349 rfl).lt (VK_c 9 349 rfl).ka rfl (fun z612 _ => ?_)
                                                                refine j_iload (j := 1) dL_law_2035 rfl ?_
                                                                by_cases c614 : z611 = p603.1
                                                                · rw [if_pos c614] at h
                                                                  refine j_icmp_eq_t z612 z604 dL_law_2037 (tgt := 2042) (by decide) c614 ?_
                                                                  refine j_iload (j := 1) dL_law_2042 rfl ?_
                                                                  by_cases c615 : p603.1 = 0
                                                                  · rw [if_pos c615] at h
                                                                    refine j_if_ne_f z604 dL_law_2044 (tgt := 2059) (by decide) (fun q => q c615) ?_
                                                                    refine j_aload_n (j := 5) dL_law_2047 rfl rfl ?_
                                                                    refine j_iconst dL_law_2048 ?_
                                                                    refine j_lald dL_law_2049 (fun r617 => ?_)
                                                                    refine j_iload (j := 0) dL_law_2050 rfl ?_
                                                                    refine j_i2l z608 dL_law_2052 ?_
                                                                    refine j_lcmp r617 z608 dL_law_2053 ?_
                                                                    by_cases c618 : (icmp (gI p607.2 374 0) p607.1) = 0
                                                                    · rw [if_pos c618] at h
                                                                      refine j_if_eq_t (icmp_inR _ _) dL_law_2054 (tgt := 2059) (by decide) c618 ?_
                                                                      refine j_goto (tgt := 2235) dL_law_2059 (by decide) ?_
                                                                      obtain ⟨u619, eu619, h⟩ := bnd_elim h
                                                                      have hu619 : inR u619 := by rw [eu619]; exact wrap_inR _
                                                                      refine j_iincN (k := 7) (lv' := [(5, vI u619), (7, vI p607.1), (6, vI p603.1), (0, .ref (gS g 6)), (1, .ref (gB g + 1)), (2, .ref (gB g + 349)), (3, .ref (gB g + 374)), (4, .ref (gB g + 375))]) eu619 dL_law_2235 rfl (by decide) (by first | rfl | (simp only [List.all_cons, List.all_nil, rv_cat]; rfl)) rfl ?_
                                                                      refine j_goto (tgt := 28) dL_law_2238 (by decide) ?_
                                                                      exact j_sub [3, 4, 5, 6, 7, 0] rfl (ih p607.2 u619 hu619 h)
                                                                    · rw [if_neg c618] at h
                                                                      refine j_if_eq_f (icmp_inR _ _) dL_law_2054 (tgt := 2059) (by decide) c618 ?_
                                                                      refine j_iconst dL_law_2057 ?_
                                                                      cases h
                                                                      exact j_iret dL_law_2058 rfl ((nar_bool (Or.inl rfl)).1) rfl (Or.inl rfl)
                                                                  · rw [if_neg c615] at h
                                                                    refine j_if_ne_t z604 dL_law_2044 (tgt := 2059) (by decide) c615 ?_
                                                                    refine j_goto (tgt := 2235) dL_law_2059 (by decide) ?_
                                                                    obtain ⟨u616, eu616, h⟩ := bnd_elim h
                                                                    have hu616 : inR u616 := by rw [eu616]; exact wrap_inR _
                                                                    refine j_iincN (k := 7) (lv' := [(5, vI u616), (7, vI p607.1), (6, vI p603.1), (0, .ref (gS g 6)), (1, .ref (gB g + 1)), (2, .ref (gB g + 349)), (3, .ref (gB g + 374)), (4, .ref (gB g + 375))]) eu616 dL_law_2235 rfl (by decide) (by first | rfl | (simp only [List.all_cons, List.all_nil, rv_cat]; rfl)) rfl ?_
                                                                    refine j_goto (tgt := 28) dL_law_2238 (by decide) ?_
                                                                    exact j_sub [3, 4, 5, 6, 7, 0] rfl (ih p607.2 u616 hu616 h)
                                                                · rw [if_neg c614] at h
                                                                  refine j_icmp_eq_f z612 z604 dL_law_2037 (tgt := 2042) (by decide) c614 ?_
                                                                  refine j_iconst dL_law_2040 ?_
                                                                  cases h
                                                                  exact j_iret dL_law_2041 rfl ((nar_bool (Or.inl rfl)).1) rfl (Or.inl rfl)
                                                              · rw [if_neg c601] at h
                                                                by_cases c620 : (iAnd (gXi g x5.toNat) 63) = 29
                                                                · rw [if_pos c620] at h
                                                                  refine j_table_in (tgt := 2062) (iAnd_inR _ _) dL_law_45 (by omega) (by omega) (by rw [c620]; rfl) (by decide) ?_
                                                                  refine j_aload_n (j := 1) dL_law_2062 rfl rfl ?_
                                                                  refine j_aload_n (j := 0) dL_law_2063 rfl rfl ?_
                                                                  refine j_iload (j := 5) dL_law_2064 rfl ?_
                                                                  refine j_iconst dL_law_2066 ?_
                                                                  refine j_iadd dL_law_2067 ?_
                                                                  obtain ⟨c621, h⟩ := chk_elim h
                                                                  refine j_scld (wrap_inR _) dL_law_2068 c621 ?_
                                                                  by_cases c622 : (gXi g (wrap (x5 + 1)).toNat) = 0
                                                                  · rw [if_pos c622] at h
                                                                    refine j_if_eq_t (i32_inR _) dL_law_2069 (tgt := 2076) (by decide) c622 ?_
                                                                    refine j_iconst dL_law_2076 ?_
                                                                    exact j_sub [0, 1, 2, 3, 4, 5] rfl (tL_law_2077 hl (by omega) hL hx5 (inR_lit _ rfl) ih h)
                                                                  · rw [if_neg c622] at h
                                                                    refine j_if_eq_f (i32_inR _) dL_law_2069 (tgt := 2076) (by decide) c622 ?_
                                                                    refine j_iconst dL_law_2072 ?_
                                                                    refine j_goto (tgt := 2077) dL_law_2073 (by decide) ?_
                                                                    exact j_sub [0, 1, 2, 3, 4, 5] rfl (tL_law_2077 hl (by omega) hL hx5 (inR_lit _ rfl) ih h)
                                                                · rw [if_neg c620] at h
                                                                  by_cases c623 : (iAnd (gXi g x5.toNat) 63) = 30
                                                                  · rw [if_pos c623] at h
                                                                    refine j_table_in (tgt := 2134) (iAnd_inR _ _) dL_law_45 (by omega) (by omega) (by rw [c623]; rfl) (by decide) ?_
                                                                    refine j_aload_n (j := 1) dL_law_2134 rfl rfl ?_
                                                                    refine j_aload_n (j := 3) dL_law_2135 rfl rfl ?_
                                                                    obtain ⟨p625, e624, h⟩ := obind_elim h
                                                                    refine j_callSW (n := 2) ML_232 YL_undoi YL_undoc (by decide) (by decide +kernel) IL_undo (by decide) (by omega) (Nat.le_of_ble_eq_true rfl) rfl (ctL_undo (d := d - 1) hl (by omega)  e624) dL_law_2136 rfl (fun z626 xt627 => ?_)
                                                                    refine j_istore (lv' := [(6, vI p625.1), (0, .ref (gS g 6)), (1, .ref (gB g + 1)), (2, .ref (gB g + 349)), (3, .ref (gB g + 374)), (4, .ref (gB g + 375)), (5, vI x5)]) dL_law_2139 (by decide) (by first | rfl | (simp only [List.all_cons, List.all_nil, rv_cat]; rfl)) rfl ?_
                                                                    refine j_aload_n (j := 3) dL_law_2141 rfl rfl ?_
                                                                    obtain ⟨p629, e628, h⟩ := obind_elim h
                                                                    refine j_callV ML_234 YX9_undo IX9_undo SX9_undo (by decide) rfl (by decide) (by omega) (Nat.le_of_ble_eq_true rfl) rfl (ctX9_undo (d := d - 1) hl (by omega)  e628) dL_law_2142 (VK_c 9 349 rfl).1 (VK_c 9 349 rfl).lt (VK_c 9 349 rfl).ka rfl (fun z630 xt631 => ?_)
                                                                    refine j_istore (lv' := [(7, vI p629.1), (6, vI p625.1), (0, .ref (gS g 6)), (1, .ref (gB g + 1)), (2, .ref (gB g + 349)), (3, .ref (gB g + 374)), (4, .ref (gB g + 375)), (5, vI x5)]) dL_law_2145 (by decide) (by first | rfl | (simp only [List.all_cons, List.all_nil, rv_cat]; rfl)) rfl ?_
                                                                    refine j_aload_n (j := 4) dL_law_2147 rfl rfl ?_
                                                                    obtain ⟨z633, e632, h⟩ := obind_elim h
                                                                    refine j_callV ML_133 YX9_thrown IX9_thrown SX9_thrown (by decide) rfl (by decide) (by omega) (Nat.le_of_ble_eq_true rfl) rfl (ctX9_thrown (d := d - 1) hl (by omega)  e632) dL_law_2148 (VK_c 9 349 rfl).1 (VK_c 9 349 rfl).lt (VK_c 9 349 rfl).ka rfl (fun z634 _ => ?_)
                                                                    refine j_iload (j := 1) dL_law_2151 rfl ?_
                                                                    by_cases c636 : z633 = p625.1
                                                                    · rw [if_pos c636] at h
                                                                      refine j_icmp_eq_t z634 z626 dL_law_2153 (tgt := 2158) (by decide) c636 ?_
                                                                      refine j_iload (j := 1) dL_law_2158 rfl ?_
                                                                      by_cases c637 : p625.1 = 0
                                                                      · rw [if_pos c637] at h
                                                                        refine j_if_ne_f z626 dL_law_2160 (tgt := 2175) (by decide) (fun q => q c637) ?_
                                                                        refine j_aload_n (j := 5) dL_law_2163 rfl rfl ?_
                                                                        refine j_iconst dL_law_2164 ?_
                                                                        refine j_lald dL_law_2165 (fun r639 => ?_)
                                                                        refine j_iload (j := 0) dL_law_2166 rfl ?_
                                                                        refine j_i2l z630 dL_law_2168 ?_
                                                                        refine j_lcmp r639 z630 dL_law_2169 ?_
                                                                        by_cases c640 : (icmp (gI p629.2 374 0) p629.1) = 0
                                                                        · rw [if_pos c640] at h
                                                                          refine j_if_eq_t (icmp_inR _ _) dL_law_2170 (tgt := 2175) (by decide) c640 ?_
                                                                          refine j_goto (tgt := 2235) dL_law_2175 (by decide) ?_
                                                                          obtain ⟨u641, eu641, h⟩ := bnd_elim h
                                                                          have hu641 : inR u641 := by rw [eu641]; exact wrap_inR _
                                                                          refine j_iincN (k := 7) (lv' := [(5, vI u641), (7, vI p629.1), (6, vI p625.1), (0, .ref (gS g 6)), (1, .ref (gB g + 1)), (2, .ref (gB g + 349)), (3, .ref (gB g + 374)), (4, .ref (gB g + 375))]) eu641 dL_law_2235 rfl (by decide) (by first | rfl | (simp only [List.all_cons, List.all_nil, rv_cat]; rfl)) rfl ?_
                                                                          refine j_goto (tgt := 28) dL_law_2238 (by decide) ?_
                                                                          exact j_sub [3, 4, 5, 6, 7, 0] rfl (ih p629.2 u641 hu641 h)
                                                                        · rw [if_neg c640] at h
                                                                          refine j_if_eq_f (icmp_inR _ _) dL_law_2170 (tgt := 2175) (by decide) c640 ?_
                                                                          refine j_iconst dL_law_2173 ?_
                                                                          cases h
                                                                          exact j_iret dL_law_2174 rfl ((nar_bool (Or.inl rfl)).1) rfl (Or.inl rfl)
                                                                      · rw [if_neg c637] at h
                                                                        refine j_if_ne_t z626 dL_law_2160 (tgt := 2175) (by decide) c637 ?_
                                                                        refine j_goto (tgt := 2235) dL_law_2175 (by decide) ?_
                                                                        obtain ⟨u638, eu638, h⟩ := bnd_elim h
                                                                        have hu638 : inR u638 := by rw [eu638]; exact wrap_inR _
                                                                        refine j_iincN (k := 7) (lv' := [(5, vI u638), (7, vI p629.1), (6, vI p625.1), (0, .ref (gS g 6)), (1, .ref (gB g + 1)), (2, .ref (gB g + 349)), (3, .ref (gB g + 374)), (4, .ref (gB g + 375))]) eu638 dL_law_2235 rfl (by decide) (by first | rfl | (simp only [List.all_cons, List.all_nil, rv_cat]; rfl)) rfl ?_
                                                                        refine j_goto (tgt := 28) dL_law_2238 (by decide) ?_
                                                                        exact j_sub [3, 4, 5, 6, 7, 0] rfl (ih p629.2 u638 hu638 h)
                                                                    · rw [if_neg c636] at h
                                                                      refine j_icmp_eq_f z634 z626 dL_law_2153 (tgt := 2158) (by decide) c636 ?_
                                                                      refine j_iconst dL_law_2156 ?_
                                                                      cases h
                                                                      exact j_iret dL_law_2157 rfl ((nar_bool (Or.inl rfl)).1) rfl (Or.inl rfl)
                                                                  · rw [if_neg c623] at h
                                                                    by_cases c642 : (iAnd (gXi g x5.toNat) 63) = 31
                                                                    · rw [if_pos c642] at h
                                                                      refine j_table_in (tgt := 2178) (iAnd_inR _ _) dL_law_45 (by omega) (by omega) (by rw [c642]; rfl) (by decide) ?_
                                                                      refine j_aload_n (j := 1) dL_law_2178 rfl rfl ?_
                                                                      obtain ⟨p644, e643, h⟩ := obind_elim h
                                                                      refine j_callV ML_235 YX8_saveSnapshot IX8_saveSnapshot SX8_saveSnapshot (by decide) rfl (by decide) (by omega) (Nat.le_of_ble_eq_true rfl) rfl (ctX8_saveSnapshot (d := d - 1) hl (by omega)  e643) dL_law_2179 (VK_c 8 1 rfl).1 (VK_c 8 1 rfl).lt (VK_c 8 1 rfl).ka rfl (fun z645 xt646 => ?_)
                                                                      refine j_aload_n (j := 2) dL_law_2182 rfl rfl ?_
                                                                      obtain ⟨p648, e647, h⟩ := obind_elim h
                                                                      refine j_callV ML_238 YX9_saveSnapshot IX9_saveSnapshot SX9_saveSnapshot (by decide) rfl (by decide) (by omega) (Nat.le_of_ble_eq_true rfl) rfl (ctX9_saveSnapshot (d := d - 1) hl (by omega)  e647) dL_law_2183 (VK_c 9 349 rfl).1 (VK_c 9 349 rfl).lt (VK_c 9 349 rfl).ka rfl (fun z649 xt650 => ?_)
                                                                      by_cases c651 : p644.1 = p648.1
                                                                      · rw [if_pos c651] at h
                                                                        refine j_icmp_eq_t z645 z649 dL_law_2186 (tgt := 2235) (by decide) c651 ?_
                                                                        obtain ⟨u652, eu652, h⟩ := bnd_elim h
                                                                        have hu652 : inR u652 := by rw [eu652]; exact wrap_inR _
                                                                        refine j_iincN (k := 5) (lv' := [(5, vI u652), (0, .ref (gS g 6)), (1, .ref (gB g + 1)), (2, .ref (gB g + 349)), (3, .ref (gB g + 374)), (4, .ref (gB g + 375))]) eu652 dL_law_2235 rfl (by decide) (by first | rfl | (simp only [List.all_cons, List.all_nil, rv_cat]; rfl)) rfl ?_
                                                                        refine j_goto (tgt := 28) dL_law_2238 (by decide) ?_
                                                                        exact j_sub [1, 2, 3, 4, 5, 0] rfl (ih p648.2 u652 hu652 h)
                                                                      · rw [if_neg c651] at h
                                                                        refine j_icmp_eq_f z645 z649 dL_law_2186 (tgt := 2235) (by decide) c651 ?_
                                                                        refine j_iconst dL_law_2189 ?_
                                                                        cases h
                                                                        exact j_iret dL_law_2190 rfl ((nar_bool (Or.inl rfl)).1) rfl (Or.inl rfl)
                                                                    · rw [if_neg c642] at h
                                                                      by_cases c653 : (iAnd (gXi g x5.toNat) 63) = 32
                                                                      · rw [if_pos c653] at h
                                                                        refine j_table_in (tgt := 2191) (iAnd_inR _ _) dL_law_45 (by omega) (by omega) (by rw [c653]; rfl) (by decide) ?_
                                                                        refine j_aload_n (j := 1) dL_law_2191 rfl rfl ?_
                                                                        refine j_aload_n (j := 3) dL_law_2192 rfl rfl ?_
                                                                        obtain ⟨p655, e654, h⟩ := obind_elim h
                                                                        refine j_callSW (n := 2) ML_239 YL_restoreSnapshoti YL_restoreSnapshotc (by decide) (by decide +kernel) IL_restoreSnapshot (by decide) (by omega) (Nat.le_of_ble_eq_true rfl) rfl (ctL_restoreSnapshot (d := d - 1) hl (by omega)  e654) dL_law_2193 rfl (fun z656 xt657 => ?_)
                                                                        refine j_istore (lv' := [(6, vI p655.1), (0, .ref (gS g 6)), (1, .ref (gB g + 1)), (2, .ref (gB g + 349)), (3, .ref (gB g + 374)), (4, .ref (gB g + 375)), (5, vI x5)]) dL_law_2196 (by decide) (by first | rfl | (simp only [List.all_cons, List.all_nil, rv_cat]; rfl)) rfl ?_
                                                                        refine j_aload_n (j := 3) dL_law_2198 rfl rfl ?_
                                                                        obtain ⟨p659, e658, h⟩ := obind_elim h
                                                                        refine j_callV ML_241 YX9_restoreSnapshot IX9_restoreSnapshot SX9_restoreSnapshot (by decide) rfl (by decide) (by omega) (Nat.le_of_ble_eq_true rfl) rfl (ctX9_restoreSnapshot (d := d - 1) hl (by omega)  e658) dL_law_2199 (VK_c 9 349 rfl).1 (VK_c 9 349 rfl).lt (VK_c 9 349 rfl).ka rfl (fun z660 xt661 => ?_)
                                                                        refine j_istore (lv' := [(7, vI p659.1), (6, vI p655.1), (0, .ref (gS g 6)), (1, .ref (gB g + 1)), (2, .ref (gB g + 349)), (3, .ref (gB g + 374)), (4, .ref (gB g + 375)), (5, vI x5)]) dL_law_2202 (by decide) (by first | rfl | (simp only [List.all_cons, List.all_nil, rv_cat]; rfl)) rfl ?_
                                                                        refine j_aload_n (j := 4) dL_law_2204 rfl rfl ?_
                                                                        obtain ⟨z663, e662, h⟩ := obind_elim h
                                                                        refine j_callV ML_133 YX9_thrown IX9_thrown SX9_thrown (by decide) rfl (by decide) (by omega) (Nat.le_of_ble_eq_true rfl) rfl (ctX9_thrown (d := d - 1) hl (by omega)  e662) dL_law_2205 (VK_c 9 349 rfl).1 (VK_c 9 349 rfl).lt (VK_c 9 349 rfl).ka rfl (fun z664 _ => ?_)
                                                                        refine j_iload (j := 1) dL_law_2208 rfl ?_
                                                                        by_cases c666 : z663 = p655.1
                                                                        · rw [if_pos c666] at h
                                                                          refine j_icmp_eq_t z664 z656 dL_law_2210 (tgt := 2215) (by decide) c666 ?_
                                                                          refine j_iload (j := 1) dL_law_2215 rfl ?_
                                                                          by_cases c667 : p655.1 = 0
                                                                          · rw [if_pos c667] at h
                                                                            refine j_if_ne_f z656 dL_law_2217 (tgt := 2232) (by decide) (fun q => q c667) ?_
                                                                            refine j_aload_n (j := 5) dL_law_2220 rfl rfl ?_
                                                                            refine j_iconst dL_law_2221 ?_
                                                                            refine j_lald dL_law_2222 (fun r669 => ?_)
                                                                            refine j_iload (j := 0) dL_law_2223 rfl ?_
                                                                            refine j_i2l z660 dL_law_2225 ?_
                                                                            refine j_lcmp r669 z660 dL_law_2226 ?_
                                                                            by_cases c670 : (icmp (gI p659.2 374 0) p659.1) = 0
                                                                            · rw [if_pos c670] at h
                                                                              refine j_if_eq_t (icmp_inR _ _) dL_law_2227 (tgt := 2232) (by decide) c670 ?_
                                                                              refine j_goto (tgt := 2235) dL_law_2232 (by decide) ?_
                                                                              obtain ⟨u671, eu671, h⟩ := bnd_elim h
                                                                              have hu671 : inR u671 := by rw [eu671]; exact wrap_inR _
                                                                              refine j_iincN (k := 7) (lv' := [(5, vI u671), (7, vI p659.1), (6, vI p655.1), (0, .ref (gS g 6)), (1, .ref (gB g + 1)), (2, .ref (gB g + 349)), (3, .ref (gB g + 374)), (4, .ref (gB g + 375))]) eu671 dL_law_2235 rfl (by decide) (by first | rfl | (simp only [List.all_cons, List.all_nil, rv_cat]; rfl)) rfl ?_
                                                                              refine j_goto (tgt := 28) dL_law_2238 (by decide) ?_
                                                                              exact j_sub [3, 4, 5, 6, 7, 0] rfl (ih p659.2 u671 hu671 h)
                                                                            · rw [if_neg c670] at h
                                                                              refine j_if_eq_f (icmp_inR _ _) dL_law_2227 (tgt := 2232) (by decide) c670 ?_
                                                                              refine j_iconst dL_law_2230 ?_
                                                                              cases h
                                                                              exact j_iret dL_law_2231 rfl ((nar_bool (Or.inl rfl)).1) rfl (Or.inl rfl)
                                                                          · rw [if_neg c667] at h
                                                                            refine j_if_ne_t z656 dL_law_2217 (tgt := 2232) (by decide) c667 ?_
                                                                            refine j_goto (tgt := 2235) dL_law_2232 (by decide) ?_
                                                                            obtain ⟨u668, eu668, h⟩ := bnd_elim h
                                                                            have hu668 : inR u668 := by rw [eu668]; exact wrap_inR _
                                                                            refine j_iincN (k := 7) (lv' := [(5, vI u668), (7, vI p659.1), (6, vI p655.1), (0, .ref (gS g 6)), (1, .ref (gB g + 1)), (2, .ref (gB g + 349)), (3, .ref (gB g + 374)), (4, .ref (gB g + 375))]) eu668 dL_law_2235 rfl (by decide) (by first | rfl | (simp only [List.all_cons, List.all_nil, rv_cat]; rfl)) rfl ?_
                                                                            refine j_goto (tgt := 28) dL_law_2238 (by decide) ?_
                                                                            exact j_sub [3, 4, 5, 6, 7, 0] rfl (ih p659.2 u668 hu668 h)
                                                                        · rw [if_neg c666] at h
                                                                          refine j_icmp_eq_f z664 z656 dL_law_2210 (tgt := 2215) (by decide) c666 ?_
                                                                          refine j_iconst dL_law_2213 ?_
                                                                          cases h
                                                                          exact j_iret dL_law_2214 rfl ((nar_bool (Or.inl rfl)).1) rfl (Or.inl rfl)
                                                                      · rw [if_neg c653] at h
                                                                        refine j_table_out (tgt := 2235) (iAnd_inR _ _) dL_law_45 (by omega) (by decide) ?_
                                                                        obtain ⟨u672, eu672, h⟩ := bnd_elim h
                                                                        have hu672 : inR u672 := by rw [eu672]; exact wrap_inR _
                                                                        refine j_iincN (k := 5) (lv' := [(5, vI u672), (0, .ref (gS g 6)), (1, .ref (gB g + 1)), (2, .ref (gB g + 349)), (3, .ref (gB g + 374)), (4, .ref (gB g + 375))]) eu672 dL_law_2235 rfl (by decide) (by first | rfl | (simp only [List.all_cons, List.all_nil, rv_cat]; rfl)) rfl ?_
                                                                        refine j_goto (tgt := 28) dL_law_2238 (by decide) ?_
                                                                        exact j_sub [1, 2, 3, 4, 5, 0] rfl (ih A u672 hu672 h)
