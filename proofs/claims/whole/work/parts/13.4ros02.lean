set_option maxRecDepth 100000 in
theorem tX5_lineUp_4 {g : JG} {l : Launch} {d N n0 s0 : Nat} {out : Int × AH} {y0 : Nat} {y1 : Nat} (hl : l.stackTraces = false) (hd : 2 ≤ d) (hy0 : VK 5 y0) (hy1 : VI y1) : ∀ (n : Nat) (A : AH) (x2 : Int) (x3 : Int), inR x2 → inR x3 → fX5_lineUp_4 N y0 y1 n A x2 x3 = some out → J g l d RX5 "lineUp" cX5_lineUp 5 (some .int) n0 s0 ((0, some (vI out.1), out.2) : JO) (inR out.1) 4 [(0, .ref (gB g + y0)), (1, .ref (gB g + y1)), (2, vI x2), (3, vI x3)] [] A := by
  intro n
  induction n with
  | zero =>
    intro A x2 x3 hx2 hx3 h
    rw [fX5_lineUp_4] at h
    cases h
  | succ n ih =>
    intro A x2 x3 hx2 hx3 h
    rw [fX5_lineUp_4] at h
    refine j_iload_n (j := 3) dX5_lineUp_4 rfl rfl ?_
    refine j_aload_n (j := 0) dX5_lineUp_5 rfl rfl ?_
    refine j_getI FX5_55 rfl dX5_lineUp_6 hy0.1 hy0.lt hy0.ka (fun r1 => ?_)
    by_cases c2 : (gI A y0 6) ≤ x3
    · rw [if_pos c2] at h
      refine j_icmp_ge_t hx3 r1 dX5_lineUp_9 (tgt := 91) (by decide) c2 ?_
      refine j_iload_n (j := 2) dX5_lineUp_91 rfl rfl ?_
      cases h
      exact j_iret dX5_lineUp_92 rfl rfl rfl hx2
    · rw [if_neg c2] at h
      refine j_icmp_ge_f hx3 r1 dX5_lineUp_9 (tgt := 91) (by decide) c2 ?_
      refine j_iload_n (j := 2) dX5_lineUp_12 rfl rfl ?_
      refine j_aload_n (j := 1) dX5_lineUp_13 rfl rfl ?_
      refine j_alen hy1.2.2.1 hy1.2.2.2.1 (by rw [hy1.2.2.2.2]; decide) dX5_lineUp_14 hy1.1 hy1.lt hy1.ka ?_
      by_cases c3 : (jal (kd y1) : Int) ≤ x2
      · rw [if_pos c3] at h
        refine j_icmp_ge_t hx2 (jal_inR _) dX5_lineUp_15 (tgt := 91) (by decide) c3 ?_
        refine j_iload_n (j := 2) dX5_lineUp_91 rfl rfl ?_
        cases h
        exact j_iret dX5_lineUp_92 rfl rfl rfl hx2
      · rw [if_neg c3] at h
        refine j_icmp_ge_f hx2 (jal_inR _) dX5_lineUp_15 (tgt := 91) (by decide) c3 ?_
        refine j_aload_n (j := 0) dX5_lineUp_18 rfl rfl ?_
        refine j_getR (q := (y0 + 3)) FX5_20 rfl dX5_lineUp_19 hy0.1 hy0.2.1 hy0.2.2 (lay5 hy0 (by decide)) (by omega) ?_
        refine j_iload_n (j := 3) dX5_lineUp_22 rfl rfl ?_
        obtain ⟨c4, h⟩ := chk_elim h
        have v5 : VK 3 (y0 + 6 + x3.toNat) := (VK.o hy0 c4)
        refine j_aald (q := (y0 + 6 + x3.toNat)) hx3 (by decide) (by decide) (by decide) (by decide) dX5_lineUp_23 (VK.f3 hy0).1 (VK.f3 hy0).2.1 (VK.f3 hy0).2.2 c4 (lay13 hy0 c4) (by omega) ?_
        refine j_getI FX5_128 rfl dX5_lineUp_24 v5.1 v5.lt v5.ka (fun r6 => ?_)
        by_cases c7 : (gI A (y0 + 6 + x3.toNat) 5) = 0
        · rw [if_pos c7] at h
          refine j_if_ne_f r6 dX5_lineUp_27 (tgt := 85) (by decide) (fun q => q c7) ?_
          refine j_iload_n (j := 2) dX5_lineUp_30 rfl rfl ?_
          refine j_istore (lv' := [(4, vI x2), (0, .ref (gB g + y0)), (1, .ref (gB g + y1)), (2, vI x2), (3, vI x3)]) dX5_lineUp_31 (by decide) (by first | rfl | (simp only [List.all_cons, List.all_nil, rv_cat]; rfl)) rfl ?_
          exact j_sub [1, 2, 3, 4, 0] rfl (tX5_lineUp_33 hl (by omega) hy0 hy1 hx2 hx3 ih N A x2 hx2 h)
        · rw [if_neg c7] at h
          refine j_if_ne_t r6 dX5_lineUp_27 (tgt := 85) (by decide) c7 ?_
          obtain ⟨u8, eu8, h⟩ := bnd_elim h
          have hu8 : inR u8 := by rw [eu8]; exact wrap_inR _
          refine j_iincN (k := 3) (lv' := [(3, vI u8), (0, .ref (gB g + y0)), (1, .ref (gB g + y1)), (2, vI x2)]) eu8 dX5_lineUp_85 rfl (by decide) (by first | rfl | (simp only [List.all_cons, List.all_nil, rv_cat]; rfl)) rfl ?_
          refine j_goto (tgt := 4) dX5_lineUp_88 (by decide) ?_
          exact j_sub [1, 2, 3, 0] rfl (ih A x2 u8 hx2 hu8 h)
set_option maxRecDepth 100000 in
theorem tX5_lineUp_0 {g : JG} {l : Launch} {d N n0 s0 : Nat} {out : Int × AH} {A : AH} {y0 : Nat} {y1 : Nat} (hl : l.stackTraces = false) (hd : 2 ≤ d) (hy0 : VK 5 y0) (hy1 : VI y1) (h : fX5_lineUp N A y0 y1 = some out) : J g l d RX5 "lineUp" cX5_lineUp 5 (some .int) n0 s0 ((0, some (vI out.1), out.2) : JO) (inR out.1) 0 [(0, .ref (gB g + y0)), (1, .ref (gB g + y1))] [] A := by
  unfold fX5_lineUp at h
  refine j_iconst dX5_lineUp_0 ?_
  refine j_istore_n (lv' := [(2, vI 0), (0, .ref (gB g + y0)), (1, .ref (gB g + y1))]) dX5_lineUp_1 rfl (by decide) (by first | rfl | (simp only [List.all_cons, List.all_nil, rv_cat]; rfl)) rfl ?_
  refine j_iconst dX5_lineUp_2 ?_
  refine j_istore_n (lv' := [(3, vI 0), (2, vI 0), (0, .ref (gB g + y0)), (1, .ref (gB g + y1))]) dX5_lineUp_3 rfl (by decide) (by first | rfl | (simp only [List.all_cons, List.all_nil, rv_cat]; rfl)) rfl ?_
  exact j_sub [2, 3, 1, 0] rfl (tX5_lineUp_4 hl (by omega) hy0 hy1  N A 0 0 (inR_lit _ rfl) (inR_lit _ rfl) h)
theorem ctX5_lineUp {g : JG} {l : Launch} {d N : Nat} {A : AH} {out : Int × AH} {y0 : Nat} {y1 : Nat} (hl : l.stackTraces = false) (hd : 2 ≤ d) (hy0 : VK 5 y0) (hy1 : VI y1) (h : fX5_lineUp N A y0 y1 = some out) : CT g l yX5_lineUp cX5_lineUp 5 (some .int) d [.ref (gB g + y0), .ref (gB g + y1)] A ((0, some (vI out.1), out.2) : JO) (inR out.1) :=
  CT_of (by decide +kernel) hl (by first | exact Nat.le_of_ble_eq_true rfl | (unfold rv; split <;> exact Nat.le_of_ble_eq_true rfl)) (by first | rfl | (unfold rv; split <;> rfl)) (j_sub (lv := [(0, .ref (gB g + y0)), (1, .ref (gB g + y1))]) [0, 1] rfl (tX5_lineUp_0 hl hd hy0 hy1 h))
set_option maxRecDepth 100000 in
theorem tX5_firstEnded_4 {g : JG} {l : Launch} {d N n0 s0 : Nat} {out : Nat} {A : AH} {y0 : Nat} (hl : l.stackTraces = false) (hd : 1 ≤ d) (hy0 : VK 5 y0) : ∀ (n : Nat) (y1 : Nat) (x2 : Int), VQ 3 y1 → inR x2 → fX5_firstEnded_4 N A y0 n y1 x2 = some out → J g l d RX5 "firstEnded" cX5_firstEnded 3 (some (.object "PilotRoster$Order")) n0 s0 ((0, some (rv g out), A) : JO) (VQ 3 out) 4 [(0, .ref (gB g + y0)), (1, rv g y1), (2, vI x2)] [] A := by
  intro n
  induction n with
  | zero =>
    intro y1 x2 hy1 hx2 h
    rw [fX5_firstEnded_4] at h
    cases h
  | succ n ih =>
    intro y1 x2 hy1 hx2 h
    rw [fX5_firstEnded_4] at h
    refine j_iload_n (j := 2) dX5_firstEnded_4 rfl rfl ?_
    refine j_aload_n (j := 0) dX5_firstEnded_5 rfl rfl ?_
    refine j_getI FX5_55 rfl dX5_firstEnded_6 hy0.1 hy0.lt hy0.ka (fun r1 => ?_)
    by_cases c2 : (gI A y0 6) ≤ x2
    · rw [if_pos c2] at h
      refine j_icmp_ge_t hx2 r1 dX5_firstEnded_9 (tgt := 74) (by decide) c2 ?_
      refine j_aloadQ_n (j := 1) dX5_firstEnded_74 rfl rfl ?_
      cases h
      exact j_aret dX5_firstEnded_75 rfl rfl hy1
    · rw [if_neg c2] at h
      refine j_icmp_ge_f hx2 r1 dX5_firstEnded_9 (tgt := 74) (by decide) c2 ?_
      refine j_aload_n (j := 0) dX5_firstEnded_12 rfl rfl ?_
      refine j_getR (q := (y0 + 3)) FX5_20 rfl dX5_firstEnded_13 hy0.1 hy0.2.1 hy0.2.2 (lay5 hy0 (by decide)) (by omega) ?_
      refine j_iload_n (j := 2) dX5_firstEnded_16 rfl rfl ?_
      obtain ⟨c3, h⟩ := chk_elim h
      have v4 : VK 3 (y0 + 6 + x2.toNat) := (VK.o hy0 c3)
      refine j_aald (q := (y0 + 6 + x2.toNat)) hx2 (by decide) (by decide) (by decide) (by decide) dX5_firstEnded_17 (VK.f3 hy0).1 (VK.f3 hy0).2.1 (VK.f3 hy0).2.2 c3 (lay13 hy0 c3) (by omega) ?_
      refine j_getI FX5_128 rfl dX5_firstEnded_18 v4.1 v4.lt v4.ka (fun r5 => ?_)
      refine j_iconst dX5_firstEnded_21 ?_
      by_cases c6 : (gI A (y0 + 6 + x2.toNat) 5) = 1
      · rw [if_pos c6] at h
        refine j_icmp_ne_f r5 (inR_lit _ rfl) dX5_firstEnded_22 (tgt := 68) (by decide) (fun q => q c6) ?_
        refine j_aload_n (j := 0) dX5_firstEnded_25 rfl rfl ?_
        refine j_getR (q := (y0 + 3)) FX5_20 rfl dX5_firstEnded_26 hy0.1 hy0.2.1 hy0.2.2 (lay5 hy0 (by decide)) (by omega) ?_
        refine j_iload_n (j := 2) dX5_firstEnded_29 rfl rfl ?_
        obtain ⟨c8, h⟩ := chk_elim h
        have v9 : VK 3 (y0 + 6 + x2.toNat) := (VK.o hy0 c8)
        refine j_aald (q := (y0 + 6 + x2.toNat)) hx2 (by decide) (by decide) (by decide) (by decide) dX5_firstEnded_30 (VK.f3 hy0).1 (VK.f3 hy0).2.1 (VK.f3 hy0).2.2 c8 (lay13 hy0 c8) (by omega) ?_
        refine j_getI FX5_161 rfl dX5_firstEnded_31 v9.1 v9.lt v9.ka (fun r10 => ?_)
        refine j_aload_n (j := 0) dX5_firstEnded_34 rfl rfl ?_
        refine j_getI FX5_51 rfl dX5_firstEnded_35 hy0.1 hy0.lt hy0.ka (fun r11 => ?_)
        by_cases c12 : (gI A y0 5) < (gI A (y0 + 6 + x2.toNat) 8)
        · rw [if_pos c12] at h
          refine j_icmp_gt_t r10 r11 dX5_firstEnded_38 (tgt := 68) (by decide) c12 ?_
          obtain ⟨u13, eu13, h⟩ := bnd_elim h
          have hu13 : inR u13 := by rw [eu13]; exact wrap_inR _
          refine j_iincN (k := 2) (lv' := [(2, vI u13), (0, .ref (gB g + y0)), (1, rv g y1)]) eu13 dX5_firstEnded_68 rfl (by decide) (by first | rfl | (simp only [List.all_cons, List.all_nil, rv_cat]; rfl)) rfl ?_
          refine j_goto (tgt := 4) dX5_firstEnded_71 (by decide) ?_
          exact j_sub [1, 2, 0] rfl (ih y1 u13 hy1 hu13 h)
        · rw [if_neg c12] at h
          refine j_icmp_gt_f r10 r11 dX5_firstEnded_38 (tgt := 68) (by decide) c12 ?_
          refine j_aloadQ_n (j := 1) dX5_firstEnded_41 rfl rfl ?_
          by_cases c14 : y1 = 0
          · rw [if_pos c14] at h
            refine j_ifnull_t dX5_firstEnded_42 (tgt := 61) (by decide) c14 ?_
            refine j_aload_n (j := 0) dX5_firstEnded_61 rfl rfl ?_
            refine j_getR (q := (y0 + 3)) FX5_20 rfl dX5_firstEnded_62 hy0.1 hy0.2.1 hy0.2.2 (lay5 hy0 (by decide)) (by omega) ?_
            refine j_iload_n (j := 2) dX5_firstEnded_65 rfl rfl ?_
            obtain ⟨c15, h⟩ := chk_elim h
            have v16 : VK 3 (y0 + 6 + x2.toNat) := (VK.o hy0 c15)
            refine j_aald (q := (y0 + 6 + x2.toNat)) hx2 (by decide) (by decide) (by decide) (by decide) dX5_firstEnded_66 (VK.f3 hy0).1 (VK.f3 hy0).2.1 (VK.f3 hy0).2.2 c15 (lay13 hy0 c15) (by omega) ?_
            refine j_rv v16.ne ?_
            refine j_astoreQ_n (lv' := [(1, rv g (y0 + 6 + x2.toNat)), (0, .ref (gB g + y0)), (2, vI x2)]) dX5_firstEnded_67 rfl (by decide) (by first | rfl | (simp only [List.all_cons, List.all_nil, rv_cat]; rfl)) rfl ?_
            obtain ⟨u17, eu17, h⟩ := bnd_elim h
            have hu17 : inR u17 := by rw [eu17]; exact wrap_inR _
            refine j_iincN (k := 2) (lv' := [(2, vI u17), (1, rv g (y0 + 6 + x2.toNat)), (0, .ref (gB g + y0))]) eu17 dX5_firstEnded_68 rfl (by decide) (by first | rfl | (simp only [List.all_cons, List.all_nil, rv_cat]; rfl)) rfl ?_
            refine j_goto (tgt := 4) dX5_firstEnded_71 (by decide) ?_
            exact j_sub [2, 1, 0] rfl (ih (y0 + 6 + x2.toNat) u17 (Or.inr v16) hu17 h)
          · rw [if_neg c14] at h
            refine j_ifnull_f dX5_firstEnded_42 c14 ?_
            refine j_aload_n (j := 0) dX5_firstEnded_45 rfl rfl ?_
            refine j_getR (q := (y0 + 3)) FX5_20 rfl dX5_firstEnded_46 hy0.1 hy0.2.1 hy0.2.2 (lay5 hy0 (by decide)) (by omega) ?_
            refine j_iload_n (j := 2) dX5_firstEnded_49 rfl rfl ?_
            obtain ⟨c18, h⟩ := chk_elim h
            have v19 : VK 3 (y0 + 6 + x2.toNat) := (VK.o hy0 c18)
            refine j_aald (q := (y0 + 6 + x2.toNat)) hx2 (by decide) (by decide) (by decide) (by decide) dX5_firstEnded_50 (VK.f3 hy0).1 (VK.f3 hy0).2.1 (VK.f3 hy0).2.2 c18 (lay13 hy0 c18) (by omega) ?_
            refine j_getI FX5_161 rfl dX5_firstEnded_51 v19.1 v19.lt v19.ka (fun r20 => ?_)
            refine j_aloadQ_n (j := 1) dX5_firstEnded_54 rfl rfl ?_
            refine j_unrv c14 ?_
            refine j_getI FX5_161 rfl dX5_firstEnded_55 (hy1.nz c14).1 (hy1.nz c14).lt (hy1.nz c14).ka (fun r21 => ?_)
            by_cases c22 : (gI A y1 8) ≤ (gI A (y0 + 6 + x2.toNat) 8)
            · rw [if_pos c22] at h
              refine j_icmp_ge_t r20 r21 dX5_firstEnded_58 (tgt := 68) (by decide) c22 ?_
              obtain ⟨u23, eu23, h⟩ := bnd_elim h
              have hu23 : inR u23 := by rw [eu23]; exact wrap_inR _
              refine j_iincN (k := 2) (lv' := [(2, vI u23), (0, .ref (gB g + y0)), (1, rv g y1)]) eu23 dX5_firstEnded_68 rfl (by decide) (by first | rfl | (simp only [List.all_cons, List.all_nil, rv_cat]; rfl)) rfl ?_
              refine j_goto (tgt := 4) dX5_firstEnded_71 (by decide) ?_
              exact j_sub [1, 2, 0] rfl (ih y1 u23 hy1 hu23 h)
            · rw [if_neg c22] at h
              refine j_icmp_ge_f r20 r21 dX5_firstEnded_58 (tgt := 68) (by decide) c22 ?_
              refine j_aload_n (j := 0) dX5_firstEnded_61 rfl rfl ?_
              refine j_getR (q := (y0 + 3)) FX5_20 rfl dX5_firstEnded_62 hy0.1 hy0.2.1 hy0.2.2 (lay5 hy0 (by decide)) (by omega) ?_
              refine j_iload_n (j := 2) dX5_firstEnded_65 rfl rfl ?_
              obtain ⟨c24, h⟩ := chk_elim h
              have v25 : VK 3 (y0 + 6 + x2.toNat) := (VK.o hy0 c24)
              refine j_aald (q := (y0 + 6 + x2.toNat)) hx2 (by decide) (by decide) (by decide) (by decide) dX5_firstEnded_66 (VK.f3 hy0).1 (VK.f3 hy0).2.1 (VK.f3 hy0).2.2 c24 (lay13 hy0 c24) (by omega) ?_
              refine j_rv v25.ne ?_
              refine j_astoreQ_n (lv' := [(1, rv g (y0 + 6 + x2.toNat)), (0, .ref (gB g + y0)), (2, vI x2)]) dX5_firstEnded_67 rfl (by decide) (by first | rfl | (simp only [List.all_cons, List.all_nil, rv_cat]; rfl)) rfl ?_
              obtain ⟨u26, eu26, h⟩ := bnd_elim h
              have hu26 : inR u26 := by rw [eu26]; exact wrap_inR _
              refine j_iincN (k := 2) (lv' := [(2, vI u26), (1, rv g (y0 + 6 + x2.toNat)), (0, .ref (gB g + y0))]) eu26 dX5_firstEnded_68 rfl (by decide) (by first | rfl | (simp only [List.all_cons, List.all_nil, rv_cat]; rfl)) rfl ?_
              refine j_goto (tgt := 4) dX5_firstEnded_71 (by decide) ?_
              exact j_sub [2, 1, 0] rfl (ih (y0 + 6 + x2.toNat) u26 (Or.inr v25) hu26 h)
      · rw [if_neg c6] at h
        refine j_icmp_ne_t r5 (inR_lit _ rfl) dX5_firstEnded_22 (tgt := 68) (by decide) c6 ?_
        obtain ⟨u7, eu7, h⟩ := bnd_elim h
        have hu7 : inR u7 := by rw [eu7]; exact wrap_inR _
        refine j_iincN (k := 2) (lv' := [(2, vI u7), (0, .ref (gB g + y0)), (1, rv g y1)]) eu7 dX5_firstEnded_68 rfl (by decide) (by first | rfl | (simp only [List.all_cons, List.all_nil, rv_cat]; rfl)) rfl ?_
        refine j_goto (tgt := 4) dX5_firstEnded_71 (by decide) ?_
        exact j_sub [1, 2, 0] rfl (ih y1 u7 hy1 hu7 h)
set_option maxRecDepth 100000 in
theorem tX5_firstEnded_0 {g : JG} {l : Launch} {d N n0 s0 : Nat} {out : Nat} {A : AH} {y0 : Nat} (hl : l.stackTraces = false) (hd : 1 ≤ d) (hy0 : VK 5 y0) (h : fX5_firstEnded N A y0 = some out) : J g l d RX5 "firstEnded" cX5_firstEnded 3 (some (.object "PilotRoster$Order")) n0 s0 ((0, some (rv g out), A) : JO) (VQ 3 out) 0 [(0, .ref (gB g + y0))] [] A := by
  unfold fX5_firstEnded at h
  refine j_null dX5_firstEnded_0 ?_
  refine j_astoreQ_n (lv' := [(1, rv g 0), (0, .ref (gB g + y0))]) dX5_firstEnded_1 rfl (by decide) (by first | rfl | (simp only [List.all_cons, List.all_nil, rv_cat]; rfl)) rfl ?_
  refine j_iconst dX5_firstEnded_2 ?_
  refine j_istore_n (lv' := [(2, vI 0), (1, rv g 0), (0, .ref (gB g + y0))]) dX5_firstEnded_3 rfl (by decide) (by first | rfl | (simp only [List.all_cons, List.all_nil, rv_cat]; rfl)) rfl ?_
  exact j_sub [2, 1, 0] rfl (tX5_firstEnded_4 hl (by omega) hy0  N 0 0 (Or.inl rfl) (inR_lit _ rfl) h)
theorem ctX5_firstEnded {g : JG} {l : Launch} {d N : Nat} {A : AH} {out : Nat} {y0 : Nat} (hl : l.stackTraces = false) (hd : 1 ≤ d) (hy0 : VK 5 y0) (h : fX5_firstEnded N A y0 = some out) : CT g l yX5_firstEnded cX5_firstEnded 3 (some (.object "PilotRoster$Order")) d [.ref (gB g + y0)] A ((0, some (rv g out), A) : JO) (VQ 3 out) :=
  CT_of (by decide +kernel) hl (by first | exact Nat.le_of_ble_eq_true rfl | (unfold rv; split <;> exact Nat.le_of_ble_eq_true rfl)) (by first | rfl | (unfold rv; split <;> rfl)) (j_sub (lv := [(0, .ref (gB g + y0))]) [0] rfl (tX5_firstEnded_0 hl hd hy0 h))
set_option maxRecDepth 100000 in
theorem tX5_finish_0 {g : JG} {l : Launch} {d N n0 s0 : Nat} {out : AH} {A : AH} {y0 : Nat} {y1 : Nat} (hl : l.stackTraces = false) (hd : 2 ≤ d) (hy0 : VK 5 y0) (hy1 : VK 3 y1) (h : fX5_finish N A y0 y1 = some out) : J g l d RX5 "finish" cX5_finish 2 none n0 s0 ((0, none, out) : JO) (True) 0 [(0, .ref (gB g + y0)), (1, .ref (gB g + y1))] [] A := by
  unfold fX5_finish at h
  refine j_aload_n (j := 1) dX5_finish_0 rfl rfl ?_
  refine j_iconst dX5_finish_1 ?_
  obtain ⟨A1, eA1, h⟩ := bnd_elim h
  have xA1 : XT A A1 := by rw [eA1]; exact XT_sI _ _ _ _
  refine j_putI FX5_128 rfl rfl rfl (inR_lit _ rfl) dX5_finish_2 hy1.1 hy1.lt hy1.ka ?_
  refine j_hB eA1 ?_
  refine j_aload_n (j := 0) dX5_finish_5 rfl rfl ?_
  refine j_aload_n (j := 1) dX5_finish_6 rfl rfl ?_
  refine j_getI FX5_171 rfl dX5_finish_7 hy1.1 hy1.lt hy1.ka (fun r2 => ?_)
  obtain ⟨z4, e3, h⟩ := obind_elim h
  refine j_callV MX5_154 YX5_hasPilot IX5_hasPilot SX5_hasPilot (by decide) rfl (by decide) (by omega) (Nat.le_of_ble_eq_true rfl) rfl (ctX5_hasPilot (d := d - 1) hl (by omega) hy0 r2 e3) dX5_finish_10 hy0.1 hy0.lt hy0.ka rfl (fun z5 _ => ?_)
  by_cases c7 : z4 = 0
  · rw [if_pos c7] at h
    refine j_if_eq_t (bool_inR z5) dX5_finish_13 (tgt := 38) (by decide) c7 ?_
    cases h
    exact j_vret dX5_finish_38 rfl rfl trivial
  · rw [if_neg c7] at h
    refine j_if_eq_f (bool_inR z5) dX5_finish_13 (tgt := 38) (by decide) c7 ?_
    refine j_aload_n (j := 0) dX5_finish_16 rfl rfl ?_
    refine j_getR (q := (y0 + 4)) FX5_26 rfl dX5_finish_17 hy0.1 hy0.2.1 hy0.2.2 (lay5 hy0 (by decide)) (by omega) ?_
    refine j_aload_n (j := 1) dX5_finish_20 rfl rfl ?_
    refine j_getI FX5_171 rfl dX5_finish_21 hy1.1 hy1.lt hy1.ka (fun r8 => ?_)
    obtain ⟨c9, h⟩ := chk_elim h
    have v10 : VK 4 (y0 + 22 + (gI A1 y1 6).toNat) := (VK.p hy0 c9)
    refine j_aald (q := (y0 + 22 + (gI A1 y1 6).toNat)) r8 (by decide) (by decide) (by decide) (by decide) dX5_finish_24 (VK.f4 hy0).1 (VK.f4 hy0).2.1 (VK.f4 hy0).2.2 c9 (lay14 hy0 c9) (by omega) ?_
    refine j_aload_n (j := 1) dX5_finish_25 rfl rfl ?_
    refine j_getI FX5_134 rfl dX5_finish_26 hy1.1 hy1.lt hy1.ka (fun r11 => ?_)
    refine j_aload_n (j := 0) dX5_finish_29 rfl rfl ?_
    refine j_getR (q := (y0 + 1)) FX5_9 rfl dX5_finish_30 hy0.1 hy0.2.1 hy0.2.2 (lay5 hy0 (by decide)) (by omega) ?_
    refine j_iconst dX5_finish_33 ?_
    refine j_iald (inR_lit _ rfl) (by decide) (by decide) rfl dX5_finish_34 (VK.f1 hy0).1 (VK.f1 hy0).lt (VK.f1 hy0).ka (by decide) (fun r12 => ?_)
    obtain ⟨p14, e13, h⟩ := obind_elim h
    refine j_callV MX5_260 YX4_credit IX4_credit SX4_credit (by decide) rfl (by decide) (by omega) (Nat.le_of_ble_eq_true rfl) rfl (ctX4_credit (d := d - 1) hl (by omega) v10 r11 r12 e13) dX5_finish_35 v10.1 v10.lt v10.ka rfl (fun z15 xt16 => ?_)
    cases h
    exact j_vret dX5_finish_38 rfl rfl trivial
theorem ctX5_finish {g : JG} {l : Launch} {d N : Nat} {A : AH} {out : AH} {y0 : Nat} {y1 : Nat} (hl : l.stackTraces = false) (hd : 2 ≤ d) (hy0 : VK 5 y0) (hy1 : VK 3 y1) (h : fX5_finish N A y0 y1 = some out) : CT g l yX5_finish cX5_finish 2 none d [.ref (gB g + y0), .ref (gB g + y1)] A ((0, none, out) : JO) (True) :=
  CT_of (by decide +kernel) hl (by first | exact Nat.le_of_ble_eq_true rfl | (unfold rv; split <;> exact Nat.le_of_ble_eq_true rfl)) (by first | rfl | (unfold rv; split <;> rfl)) (j_sub (lv := [(0, .ref (gB g + y0)), (1, .ref (gB g + y1))]) [0, 1] rfl (tX5_finish_0 hl hd hy0 hy1 h))
set_option maxRecDepth 100000 in
theorem tX5_advance_44 {g : JG} {l : Launch} {d N n0 s0 : Nat} {out : Int × AH} {y0 : Nat} (hl : l.stackTraces = false) (hd : 3 ≤ d) (hy0 : VK 5 y0) : ∀ (n : Nat) (A : AH) (x2 : Int) (x3 : Int), inR x2 → inR x3 → fX5_advance_44 N y0 n A x2 x3 = some out → J g l d RX5 "advance" cX5_advance 4 (some .int) n0 s0 ((0, some (vI out.1), out.2) : JO) (inR out.1) 44 [(0, .ref (gB g + y0)), (2, vI x2), (3, vI x3)] [] A := by
  intro n
  induction n with
  | zero =>
    intro A x2 x3 hx2 hx3 h
    rw [fX5_advance_44] at h
    cases h
  | succ n ih =>
    intro A x2 x3 hx2 hx3 h
    rw [fX5_advance_44] at h
    refine j_iload_n (j := 2) dX5_advance_44 rfl rfl ?_
    refine j_aload_n (j := 0) dX5_advance_45 rfl rfl ?_
    refine j_getI FX5_55 rfl dX5_advance_46 hy0.1 hy0.lt hy0.ka (fun r1 => ?_)
    by_cases c2 : (gI A y0 6) ≤ x3
    · rw [if_pos c2] at h
      refine j_icmp_ge_t hx3 r1 dX5_advance_49 (tgt := 99) (by decide) c2 ?_
      refine j_iload_n (j := 1) dX5_advance_99 rfl rfl ?_
      cases h
      exact j_iret dX5_advance_100 rfl rfl rfl hx2
    · rw [if_neg c2] at h
      refine j_icmp_ge_f hx3 r1 dX5_advance_49 (tgt := 99) (by decide) c2 ?_
      refine j_aload_n (j := 0) dX5_advance_52 rfl rfl ?_
      refine j_getR (q := (y0 + 3)) FX5_20 rfl dX5_advance_53 hy0.1 hy0.2.1 hy0.2.2 (lay5 hy0 (by decide)) (by omega) ?_
      refine j_iload_n (j := 2) dX5_advance_56 rfl rfl ?_
      obtain ⟨c3, h⟩ := chk_elim h
      have v4 : VK 3 (y0 + 6 + x3.toNat) := (VK.o hy0 c3)
      refine j_aald (q := (y0 + 6 + x3.toNat)) hx3 (by decide) (by decide) (by decide) (by decide) dX5_advance_57 (VK.f3 hy0).1 (VK.f3 hy0).2.1 (VK.f3 hy0).2.2 c3 (lay13 hy0 c3) (by omega) ?_
      refine j_getI FX5_128 rfl dX5_advance_58 v4.1 v4.lt v4.ka (fun r5 => ?_)
      by_cases c6 : (gI A (y0 + 6 + x3.toNat) 5) = 0
      · rw [if_pos c6] at h
        refine j_if_ne_f r5 dX5_advance_61 (tgt := 93) (by decide) (fun q => q c6) ?_
        refine j_aload_n (j := 0) dX5_advance_64 rfl rfl ?_
        refine j_getR (q := (y0 + 3)) FX5_20 rfl dX5_advance_65 hy0.1 hy0.2.1 hy0.2.2 (lay5 hy0 (by decide)) (by omega) ?_
        refine j_iload_n (j := 2) dX5_advance_68 rfl rfl ?_
        obtain ⟨c8, h⟩ := chk_elim h
        have v9 : VK 3 (y0 + 6 + x3.toNat) := (VK.o hy0 c8)
        refine j_aald (q := (y0 + 6 + x3.toNat)) hx3 (by decide) (by decide) (by decide) (by decide) dX5_advance_69 (VK.f3 hy0).1 (VK.f3 hy0).2.1 (VK.f3 hy0).2.2 c8 (lay13 hy0 c8) (by omega) ?_
        refine j_getI FX5_105 rfl dX5_advance_70 v9.1 v9.lt v9.ka (fun r10 => ?_)
        refine j_aload_n (j := 0) dX5_advance_73 rfl rfl ?_
        refine j_getI FX5_51 rfl dX5_advance_74 hy0.1 hy0.lt hy0.ka (fun r11 => ?_)
        by_cases c12 : (gI A y0 5) ≤ (gI A (y0 + 6 + x3.toNat) 4)
        · rw [if_pos c12] at h
          refine j_icmp_ge_t r10 r11 dX5_advance_77 (tgt := 93) (by decide) c12 ?_
          obtain ⟨u13, eu13, h⟩ := bnd_elim h
          have hu13 : inR u13 := by rw [eu13]; exact wrap_inR _
          refine j_iincN (k := 2) (lv' := [(3, vI u13), (0, .ref (gB g + y0)), (2, vI x2)]) eu13 dX5_advance_93 rfl (by decide) (by first | rfl | (simp only [List.all_cons, List.all_nil, rv_cat]; rfl)) rfl ?_
          refine j_goto (tgt := 44) dX5_advance_96 (by decide) ?_
          exact j_sub [1, 2, 0] rfl (ih A x2 u13 hx2 hu13 h)
        · rw [if_neg c12] at h
          refine j_icmp_ge_f r10 r11 dX5_advance_77 (tgt := 93) (by decide) c12 ?_
          refine j_aload_n (j := 0) dX5_advance_80 rfl rfl ?_
          refine j_getR (q := (y0 + 3)) FX5_20 rfl dX5_advance_81 hy0.1 hy0.2.1 hy0.2.2 (lay5 hy0 (by decide)) (by omega) ?_
          refine j_iload_n (j := 2) dX5_advance_84 rfl rfl ?_
          obtain ⟨c14, h⟩ := chk_elim h
          have v15 : VK 3 (y0 + 6 + x3.toNat) := (VK.o hy0 c14)
          refine j_aald (q := (y0 + 6 + x3.toNat)) hx3 (by decide) (by decide) (by decide) (by decide) dX5_advance_85 (VK.f3 hy0).1 (VK.f3 hy0).2.1 (VK.f3 hy0).2.2 c14 (lay13 hy0 c14) (by omega) ?_
          refine j_iconst dX5_advance_86 ?_
          obtain ⟨A16, eA16, h⟩ := bnd_elim h
          have xA16 : XT A A16 := by rw [eA16]; exact XT_sI _ _ _ _
          refine j_putI FX5_128 rfl rfl rfl (inR_lit _ rfl) dX5_advance_87 v15.1 v15.lt v15.ka ?_
          refine j_hB eA16 ?_
          obtain ⟨u17, eu17, h⟩ := bnd_elim h
          have hu17 : inR u17 := by rw [eu17]; exact wrap_inR _
          refine j_iincN (k := 1) (lv' := [(2, vI u17), (0, .ref (gB g + y0)), (3, vI x3)]) eu17 dX5_advance_90 rfl (by decide) (by first | rfl | (simp only [List.all_cons, List.all_nil, rv_cat]; rfl)) rfl ?_
          obtain ⟨u18, eu18, h⟩ := bnd_elim h
          have hu18 : inR u18 := by rw [eu18]; exact wrap_inR _
          refine j_iincN (k := 2) (lv' := [(3, vI u18), (2, vI u17), (0, .ref (gB g + y0))]) eu18 dX5_advance_93 rfl (by decide) (by first | rfl | (simp only [List.all_cons, List.all_nil, rv_cat]; rfl)) rfl ?_
          refine j_goto (tgt := 44) dX5_advance_96 (by decide) ?_
          exact j_sub [2, 1, 0] rfl (ih A16 u17 u18 hu17 hu18 h)
      · rw [if_neg c6] at h
        refine j_if_ne_t r5 dX5_advance_61 (tgt := 93) (by decide) c6 ?_
        obtain ⟨u7, eu7, h⟩ := bnd_elim h
        have hu7 : inR u7 := by rw [eu7]; exact wrap_inR _
        refine j_iincN (k := 2) (lv' := [(3, vI u7), (0, .ref (gB g + y0)), (2, vI x2)]) eu7 dX5_advance_93 rfl (by decide) (by first | rfl | (simp only [List.all_cons, List.all_nil, rv_cat]; rfl)) rfl ?_
        refine j_goto (tgt := 44) dX5_advance_96 (by decide) ?_
        exact j_sub [1, 2, 0] rfl (ih A x2 u7 hx2 hu7 h)
set_option maxRecDepth 100000 in
theorem tX5_advance_12 {g : JG} {l : Launch} {d N n0 s0 : Nat} {out : Int × AH} {y0 : Nat} (hl : l.stackTraces = false) (hd : 3 ≤ d) (hy0 : VK 5 y0) : ∀ (n : Nat) (A : AH) (x2 : Int), inR x2 → fX5_advance_12 N y0 n A x2 = some out → J g l d RX5 "advance" cX5_advance 4 (some .int) n0 s0 ((0, some (vI out.1), out.2) : JO) (inR out.1) 12 [(0, .ref (gB g + y0)), (2, vI x2)] [] A := by
  intro n
  induction n with
  | zero =>
    intro A x2 hx2 h
    rw [fX5_advance_12] at h
    cases h
  | succ n ih =>
    intro A x2 hx2 h
    rw [fX5_advance_12] at h
    refine j_iload_n (j := 1) dX5_advance_12 rfl rfl ?_
    refine j_aload_n (j := 0) dX5_advance_13 rfl rfl ?_
    refine j_getI FX5_55 rfl dX5_advance_14 hy0.1 hy0.lt hy0.ka (fun r1 => ?_)
    by_cases c2 : (gI A y0 6) ≤ x2
    · rw [if_pos c2] at h
      refine j_icmp_ge_t hx2 r1 dX5_advance_17 (tgt := 40) (by decide) c2 ?_
      refine j_iconst dX5_advance_40 ?_
      refine j_istore_n (lv' := [(2, vI 0), (0, .ref (gB g + y0))]) dX5_advance_41 rfl (by decide) (by first | rfl | (simp only [List.all_cons, List.all_nil, rv_cat]; rfl)) rfl ?_
      refine j_iconst dX5_advance_42 ?_
      refine j_istore_n (lv' := [(3, vI 0), (2, vI 0), (0, .ref (gB g + y0))]) dX5_advance_43 rfl (by decide) (by first | rfl | (simp only [List.all_cons, List.all_nil, rv_cat]; rfl)) rfl ?_
      exact j_sub [2, 1, 0] rfl (tX5_advance_44 hl (by omega) hy0  N A 0 0 (inR_lit _ rfl) (inR_lit _ rfl) h)
    · rw [if_neg c2] at h
      refine j_icmp_ge_f hx2 r1 dX5_advance_17 (tgt := 40) (by decide) c2 ?_
      refine j_aload_n (j := 0) dX5_advance_20 rfl rfl ?_
      obtain ⟨z4, e3, h⟩ := obind_elim h
      refine j_callV MX5_253 YX5_firstEnded IX5_firstEnded SX5_firstEnded (by decide) rfl (by decide) (by omega) (Nat.le_of_ble_eq_true rfl) rfl (ctX5_firstEnded (d := d - 1) hl (by omega) hy0 e3) dX5_advance_21 hy0.1 hy0.lt hy0.ka rfl (fun z5 _ => ?_)
      refine j_astoreQ_n (lv' := [(3, rv g z4), (0, .ref (gB g + y0)), (2, vI x2)]) dX5_advance_24 rfl (by decide) (by first | rfl | (simp only [List.all_cons, List.all_nil, rv_cat]; rfl)) rfl ?_
      refine j_aloadQ_n (j := 0) dX5_advance_25 rfl rfl ?_
      by_cases c7 : z4 = 0
      · rw [if_pos c7] at h
        refine j_ifnull_t dX5_advance_26 (tgt := 34) (by decide) c7 ?_
        obtain ⟨u8, eu8, h⟩ := bnd_elim h
        have hu8 : inR u8 := by rw [eu8]; exact wrap_inR _
        refine j_iincN (k := 2) (lv' := [(2, vI u8), (3, rv g z4), (0, .ref (gB g + y0))]) eu8 dX5_advance_34 rfl (by decide) (by first | rfl | (simp only [List.all_cons, List.all_nil, rv_cat]; rfl)) rfl ?_
        refine j_goto (tgt := 12) dX5_advance_37 (by decide) ?_
        exact j_sub [2, 0] rfl (ih A u8 hu8 h)
      · rw [if_neg c7] at h
        refine j_ifnull_f dX5_advance_26 c7 ?_
        refine j_aload_n (j := 1) dX5_advance_29 rfl rfl ?_
        refine j_aloadQ_n (j := 0) dX5_advance_30 rfl rfl ?_
        refine j_unrv c7 ?_
        obtain ⟨p10, e9, h⟩ := obind_elim h
        refine j_callV MX5_257 YX5_finish IX5_finish SX5_finish (by decide) rfl (by decide) (by omega) (Nat.le_of_ble_eq_true rfl) rfl (ctX5_finish (d := d - 1) hl (by omega) hy0 (z5.nz c7) e9) dX5_advance_31 hy0.1 hy0.lt hy0.ka rfl (fun z11 xt12 => ?_)
        obtain ⟨u13, eu13, h⟩ := bnd_elim h
        have hu13 : inR u13 := by rw [eu13]; exact wrap_inR _
        refine j_iincN (k := 2) (lv' := [(2, vI u13), (3, rv g z4), (0, .ref (gB g + y0))]) eu13 dX5_advance_34 rfl (by decide) (by first | rfl | (simp only [List.all_cons, List.all_nil, rv_cat]; rfl)) rfl ?_
        refine j_goto (tgt := 12) dX5_advance_37 (by decide) ?_
        exact j_sub [2, 0] rfl (ih p10 u13 hu13 h)
set_option maxRecDepth 100000 in
theorem tX5_advance_0 {g : JG} {l : Launch} {d N n0 s0 : Nat} {out : Int × AH} {A : AH} {y0 : Nat} {x1 : Int} (hl : l.stackTraces = false) (hd : 3 ≤ d) (hy0 : VK 5 y0) (hx1 : inR x1) (h : fX5_advance N A y0 x1 = some out) : J g l d RX5 "advance" cX5_advance 4 (some .int) n0 s0 ((0, some (vI out.1), out.2) : JO) (inR out.1) 0 [(0, .ref (gB g + y0)), (1, vI x1)] [] A := by
  unfold fX5_advance at h
  refine j_aload_n (j := 0) dX5_advance_0 rfl rfl ?_
  refine j_dup dX5_advance_1 rfl ?_
  refine j_getI FX5_51 rfl dX5_advance_2 hy0.1 hy0.lt hy0.ka (fun r1 => ?_)
  refine j_iload_n (j := 1) dX5_advance_5 rfl rfl ?_
  refine j_iadd dX5_advance_6 ?_
  obtain ⟨A2, eA2, h⟩ := bnd_elim h
  have xA2 : XT A A2 := by rw [eA2]; exact XT_sI _ _ _ _
  refine j_putI FX5_51 rfl rfl rfl (wrap_inR _) dX5_advance_7 hy0.1 hy0.lt hy0.ka ?_
  refine j_hB eA2 ?_
  refine j_iconst dX5_advance_10 ?_
  refine j_istore_n (lv' := [(2, vI 0), (0, .ref (gB g + y0)), (1, vI x1)]) dX5_advance_11 rfl (by decide) (by first | rfl | (simp only [List.all_cons, List.all_nil, rv_cat]; rfl)) rfl ?_
  exact j_sub [1, 0] rfl (tX5_advance_12 hl (by omega) hy0  N A2 0 (inR_lit _ rfl) h)
theorem ctX5_advance {g : JG} {l : Launch} {d N : Nat} {A : AH} {out : Int × AH} {y0 : Nat} {x1 : Int} (hl : l.stackTraces = false) (hd : 3 ≤ d) (hy0 : VK 5 y0) (hx1 : inR x1) (h : fX5_advance N A y0 x1 = some out) : CT g l yX5_advance cX5_advance 4 (some .int) d [.ref (gB g + y0), vI x1] A ((0, some (vI out.1), out.2) : JO) (inR out.1) :=
  CT_of (by decide +kernel) hl (by first | exact Nat.le_of_ble_eq_true rfl | (unfold rv; split <;> exact Nat.le_of_ble_eq_true rfl)) (by first | rfl | (unfold rv; split <;> rfl)) (j_sub (lv := [(0, .ref (gB g + y0)), (1, vI x1)]) [0, 1] rfl (tX5_advance_0 hl hd hy0 hx1 h))
set_option maxRecDepth 100000 in
theorem tX5_ordersIn_4 {g : JG} {l : Launch} {d N n0 s0 : Nat} {out : Int} {A : AH} {y0 : Nat} {x1 : Int} (hl : l.stackTraces = false) (hd : 1 ≤ d) (hy0 : VK 5 y0) (hx1 : inR x1) : ∀ (n : Nat) (x2 : Int) (x3 : Int), inR x2 → inR x3 → fX5_ordersIn_4 N A y0 x1 n x2 x3 = some out → J g l d RX5 "ordersIn" cX5_ordersIn 4 (some .int) n0 s0 ((0, some (vI out), A) : JO) (inR out) 4 [(0, .ref (gB g + y0)), (1, vI x1), (2, vI x2), (3, vI x3)] [] A := by
  intro n
  induction n with
  | zero =>
    intro x2 x3 hx2 hx3 h
    rw [fX5_ordersIn_4] at h
    cases h
  | succ n ih =>
    intro x2 x3 hx2 hx3 h
    rw [fX5_ordersIn_4] at h
    refine j_iload_n (j := 3) dX5_ordersIn_4 rfl rfl ?_
    refine j_aload_n (j := 0) dX5_ordersIn_5 rfl rfl ?_
    refine j_getI FX5_55 rfl dX5_ordersIn_6 hy0.1 hy0.lt hy0.ka (fun r1 => ?_)
    by_cases c2 : (gI A y0 6) ≤ x3
    · rw [if_pos c2] at h
      refine j_icmp_ge_t hx3 r1 dX5_ordersIn_9 (tgt := 34) (by decide) c2 ?_
      refine j_iload_n (j := 2) dX5_ordersIn_34 rfl rfl ?_
      cases h
      exact j_iret dX5_ordersIn_35 rfl rfl rfl hx2
    · rw [if_neg c2] at h
      refine j_icmp_ge_f hx3 r1 dX5_ordersIn_9 (tgt := 34) (by decide) c2 ?_
      refine j_aload_n (j := 0) dX5_ordersIn_12 rfl rfl ?_
      refine j_getR (q := (y0 + 3)) FX5_20 rfl dX5_ordersIn_13 hy0.1 hy0.2.1 hy0.2.2 (lay5 hy0 (by decide)) (by omega) ?_
      refine j_iload_n (j := 3) dX5_ordersIn_16 rfl rfl ?_
      obtain ⟨c3, h⟩ := chk_elim h
      have v4 : VK 3 (y0 + 6 + x3.toNat) := (VK.o hy0 c3)
      refine j_aald (q := (y0 + 6 + x3.toNat)) hx3 (by decide) (by decide) (by decide) (by decide) dX5_ordersIn_17 (VK.f3 hy0).1 (VK.f3 hy0).2.1 (VK.f3 hy0).2.2 c3 (lay13 hy0 c3) (by omega) ?_
      refine j_getI FX5_128 rfl dX5_ordersIn_18 v4.1 v4.lt v4.ka (fun r5 => ?_)
      refine j_iload_n (j := 1) dX5_ordersIn_21 rfl rfl ?_
      by_cases c6 : (gI A (y0 + 6 + x3.toNat) 5) = x1
      · rw [if_pos c6] at h
        refine j_icmp_ne_f r5 hx1 dX5_ordersIn_22 (tgt := 28) (by decide) (fun q => q c6) ?_
        obtain ⟨u8, eu8, h⟩ := bnd_elim h
        have hu8 : inR u8 := by rw [eu8]; exact wrap_inR _
        refine j_iincN (k := 2) (lv' := [(2, vI u8), (0, .ref (gB g + y0)), (1, vI x1), (3, vI x3)]) eu8 dX5_ordersIn_25 rfl (by decide) (by first | rfl | (simp only [List.all_cons, List.all_nil, rv_cat]; rfl)) rfl ?_
        obtain ⟨u9, eu9, h⟩ := bnd_elim h
        have hu9 : inR u9 := by rw [eu9]; exact wrap_inR _
        refine j_iincN (k := 3) (lv' := [(3, vI u9), (2, vI u8), (0, .ref (gB g + y0)), (1, vI x1)]) eu9 dX5_ordersIn_28 rfl (by decide) (by first | rfl | (simp only [List.all_cons, List.all_nil, rv_cat]; rfl)) rfl ?_
        refine j_goto (tgt := 4) dX5_ordersIn_31 (by decide) ?_
        exact j_sub [2, 3, 1, 0] rfl (ih u8 u9 hu8 hu9 h)
      · rw [if_neg c6] at h
        refine j_icmp_ne_t r5 hx1 dX5_ordersIn_22 (tgt := 28) (by decide) c6 ?_
        obtain ⟨u7, eu7, h⟩ := bnd_elim h
        have hu7 : inR u7 := by rw [eu7]; exact wrap_inR _
        refine j_iincN (k := 3) (lv' := [(3, vI u7), (0, .ref (gB g + y0)), (1, vI x1), (2, vI x2)]) eu7 dX5_ordersIn_28 rfl (by decide) (by first | rfl | (simp only [List.all_cons, List.all_nil, rv_cat]; rfl)) rfl ?_
        refine j_goto (tgt := 4) dX5_ordersIn_31 (by decide) ?_
        exact j_sub [1, 2, 3, 0] rfl (ih x2 u7 hx2 hu7 h)
set_option maxRecDepth 100000 in
theorem tX5_ordersIn_0 {g : JG} {l : Launch} {d N n0 s0 : Nat} {out : Int} {A : AH} {y0 : Nat} {x1 : Int} (hl : l.stackTraces = false) (hd : 1 ≤ d) (hy0 : VK 5 y0) (hx1 : inR x1) (h : fX5_ordersIn N A y0 x1 = some out) : J g l d RX5 "ordersIn" cX5_ordersIn 4 (some .int) n0 s0 ((0, some (vI out), A) : JO) (inR out) 0 [(0, .ref (gB g + y0)), (1, vI x1)] [] A := by
  unfold fX5_ordersIn at h
  refine j_iconst dX5_ordersIn_0 ?_
  refine j_istore_n (lv' := [(2, vI 0), (0, .ref (gB g + y0)), (1, vI x1)]) dX5_ordersIn_1 rfl (by decide) (by first | rfl | (simp only [List.all_cons, List.all_nil, rv_cat]; rfl)) rfl ?_
  refine j_iconst dX5_ordersIn_2 ?_
  refine j_istore_n (lv' := [(3, vI 0), (2, vI 0), (0, .ref (gB g + y0)), (1, vI x1)]) dX5_ordersIn_3 rfl (by decide) (by first | rfl | (simp only [List.all_cons, List.all_nil, rv_cat]; rfl)) rfl ?_
  exact j_sub [2, 3, 1, 0] rfl (tX5_ordersIn_4 hl (by omega) hy0 hx1  N 0 0 (inR_lit _ rfl) (inR_lit _ rfl) h)
theorem ctX5_ordersIn {g : JG} {l : Launch} {d N : Nat} {A : AH} {out : Int} {y0 : Nat} {x1 : Int} (hl : l.stackTraces = false) (hd : 1 ≤ d) (hy0 : VK 5 y0) (hx1 : inR x1) (h : fX5_ordersIn N A y0 x1 = some out) : CT g l yX5_ordersIn cX5_ordersIn 4 (some .int) d [.ref (gB g + y0), vI x1] A ((0, some (vI out), A) : JO) (inR out) :=
  CT_of (by decide +kernel) hl (by first | exact Nat.le_of_ble_eq_true rfl | (unfold rv; split <;> exact Nat.le_of_ble_eq_true rfl)) (by first | rfl | (unfold rv; split <;> rfl)) (j_sub (lv := [(0, .ref (gB g + y0)), (1, vI x1)]) [0, 1] rfl (tX5_ordersIn_0 hl hd hy0 hx1 h))
set_option maxRecDepth 100000 in
theorem tX5_tripsDone_4 {g : JG} {l : Launch} {d N n0 s0 : Nat} {out : Int} {A : AH} {y0 : Nat} {x1 : Int} (hl : l.stackTraces = false) (hd : 1 ≤ d) (hy0 : VK 5 y0) (hx1 : inR x1) : ∀ (n : Nat) (x2 : Int) (x3 : Int), inR x2 → inR x3 → fX5_tripsDone_4 N A y0 x1 n x2 x3 = some out → J g l d RX5 "tripsDone" cX5_tripsDone 4 (some .int) n0 s0 ((0, some (vI out), A) : JO) (inR out) 4 [(0, .ref (gB g + y0)), (1, vI x1), (2, vI x2), (3, vI x3)] [] A := by
  intro n
  induction n with
  | zero =>
    intro x2 x3 hx2 hx3 h
    rw [fX5_tripsDone_4] at h
    cases h
  | succ n ih =>
    intro x2 x3 hx2 hx3 h
    rw [fX5_tripsDone_4] at h
    refine j_iload_n (j := 3) dX5_tripsDone_4 rfl rfl ?_
    refine j_aload_n (j := 0) dX5_tripsDone_5 rfl rfl ?_
    refine j_getI FX5_55 rfl dX5_tripsDone_6 hy0.1 hy0.lt hy0.ka (fun r1 => ?_)
    by_cases c2 : (gI A y0 6) ≤ x3
    · rw [if_pos c2] at h
      refine j_icmp_ge_t hx3 r1 dX5_tripsDone_9 (tgt := 47) (by decide) c2 ?_
      refine j_iload_n (j := 2) dX5_tripsDone_47 rfl rfl ?_
      cases h
      exact j_iret dX5_tripsDone_48 rfl rfl rfl hx2
    · rw [if_neg c2] at h
      refine j_icmp_ge_f hx3 r1 dX5_tripsDone_9 (tgt := 47) (by decide) c2 ?_
      refine j_aload_n (j := 0) dX5_tripsDone_12 rfl rfl ?_
      refine j_getR (q := (y0 + 3)) FX5_20 rfl dX5_tripsDone_13 hy0.1 hy0.2.1 hy0.2.2 (lay5 hy0 (by decide)) (by omega) ?_
      refine j_iload_n (j := 3) dX5_tripsDone_16 rfl rfl ?_
      obtain ⟨c3, h⟩ := chk_elim h
      have v4 : VK 3 (y0 + 6 + x3.toNat) := (VK.o hy0 c3)
      refine j_aald (q := (y0 + 6 + x3.toNat)) hx3 (by decide) (by decide) (by decide) (by decide) dX5_tripsDone_17 (VK.f3 hy0).1 (VK.f3 hy0).2.1 (VK.f3 hy0).2.2 c3 (lay13 hy0 c3) (by omega) ?_
      refine j_getI FX5_128 rfl dX5_tripsDone_18 v4.1 v4.lt v4.ka (fun r5 => ?_)
      refine j_iconst dX5_tripsDone_21 ?_
      by_cases c6 : (gI A (y0 + 6 + x3.toNat) 5) = 2
      · rw [if_pos c6] at h
        refine j_icmp_ne_f r5 (inR_lit _ rfl) dX5_tripsDone_22 (tgt := 41) (by decide) (fun q => q c6) ?_
        refine j_aload_n (j := 0) dX5_tripsDone_25 rfl rfl ?_
        refine j_getR (q := (y0 + 3)) FX5_20 rfl dX5_tripsDone_26 hy0.1 hy0.2.1 hy0.2.2 (lay5 hy0 (by decide)) (by omega) ?_
        refine j_iload_n (j := 3) dX5_tripsDone_29 rfl rfl ?_
        obtain ⟨c8, h⟩ := chk_elim h
        have v9 : VK 3 (y0 + 6 + x3.toNat) := (VK.o hy0 c8)
        refine j_aald (q := (y0 + 6 + x3.toNat)) hx3 (by decide) (by decide) (by decide) (by decide) dX5_tripsDone_30 (VK.f3 hy0).1 (VK.f3 hy0).2.1 (VK.f3 hy0).2.2 c8 (lay13 hy0 c8) (by omega) ?_
        refine j_getI FX5_171 rfl dX5_tripsDone_31 v9.1 v9.lt v9.ka (fun r10 => ?_)
        refine j_iload_n (j := 1) dX5_tripsDone_34 rfl rfl ?_
        by_cases c11 : (gI A (y0 + 6 + x3.toNat) 6) = x1
        · rw [if_pos c11] at h
          refine j_icmp_ne_f r10 hx1 dX5_tripsDone_35 (tgt := 41) (by decide) (fun q => q c11) ?_
          obtain ⟨u13, eu13, h⟩ := bnd_elim h
          have hu13 : inR u13 := by rw [eu13]; exact wrap_inR _
          refine j_iincN (k := 2) (lv' := [(2, vI u13), (0, .ref (gB g + y0)), (1, vI x1), (3, vI x3)]) eu13 dX5_tripsDone_38 rfl (by decide) (by first | rfl | (simp only [List.all_cons, List.all_nil, rv_cat]; rfl)) rfl ?_
          obtain ⟨u14, eu14, h⟩ := bnd_elim h
          have hu14 : inR u14 := by rw [eu14]; exact wrap_inR _
          refine j_iincN (k := 3) (lv' := [(3, vI u14), (2, vI u13), (0, .ref (gB g + y0)), (1, vI x1)]) eu14 dX5_tripsDone_41 rfl (by decide) (by first | rfl | (simp only [List.all_cons, List.all_nil, rv_cat]; rfl)) rfl ?_
          refine j_goto (tgt := 4) dX5_tripsDone_44 (by decide) ?_
          exact j_sub [2, 3, 1, 0] rfl (ih u13 u14 hu13 hu14 h)
        · rw [if_neg c11] at h
          refine j_icmp_ne_t r10 hx1 dX5_tripsDone_35 (tgt := 41) (by decide) c11 ?_
          obtain ⟨u12, eu12, h⟩ := bnd_elim h
          have hu12 : inR u12 := by rw [eu12]; exact wrap_inR _
          refine j_iincN (k := 3) (lv' := [(3, vI u12), (0, .ref (gB g + y0)), (1, vI x1), (2, vI x2)]) eu12 dX5_tripsDone_41 rfl (by decide) (by first | rfl | (simp only [List.all_cons, List.all_nil, rv_cat]; rfl)) rfl ?_
          refine j_goto (tgt := 4) dX5_tripsDone_44 (by decide) ?_
          exact j_sub [1, 2, 3, 0] rfl (ih x2 u12 hx2 hu12 h)
      · rw [if_neg c6] at h
        refine j_icmp_ne_t r5 (inR_lit _ rfl) dX5_tripsDone_22 (tgt := 41) (by decide) c6 ?_
        obtain ⟨u7, eu7, h⟩ := bnd_elim h
        have hu7 : inR u7 := by rw [eu7]; exact wrap_inR _
        refine j_iincN (k := 3) (lv' := [(3, vI u7), (0, .ref (gB g + y0)), (1, vI x1), (2, vI x2)]) eu7 dX5_tripsDone_41 rfl (by decide) (by first | rfl | (simp only [List.all_cons, List.all_nil, rv_cat]; rfl)) rfl ?_
        refine j_goto (tgt := 4) dX5_tripsDone_44 (by decide) ?_
        exact j_sub [1, 2, 3, 0] rfl (ih x2 u7 hx2 hu7 h)
set_option maxRecDepth 100000 in
theorem tX5_tripsDone_0 {g : JG} {l : Launch} {d N n0 s0 : Nat} {out : Int} {A : AH} {y0 : Nat} {x1 : Int} (hl : l.stackTraces = false) (hd : 1 ≤ d) (hy0 : VK 5 y0) (hx1 : inR x1) (h : fX5_tripsDone N A y0 x1 = some out) : J g l d RX5 "tripsDone" cX5_tripsDone 4 (some .int) n0 s0 ((0, some (vI out), A) : JO) (inR out) 0 [(0, .ref (gB g + y0)), (1, vI x1)] [] A := by
  unfold fX5_tripsDone at h
  refine j_iconst dX5_tripsDone_0 ?_
  refine j_istore_n (lv' := [(2, vI 0), (0, .ref (gB g + y0)), (1, vI x1)]) dX5_tripsDone_1 rfl (by decide) (by first | rfl | (simp only [List.all_cons, List.all_nil, rv_cat]; rfl)) rfl ?_
  refine j_iconst dX5_tripsDone_2 ?_
  refine j_istore_n (lv' := [(3, vI 0), (2, vI 0), (0, .ref (gB g + y0)), (1, vI x1)]) dX5_tripsDone_3 rfl (by decide) (by first | rfl | (simp only [List.all_cons, List.all_nil, rv_cat]; rfl)) rfl ?_
  exact j_sub [2, 3, 1, 0] rfl (tX5_tripsDone_4 hl (by omega) hy0 hx1  N 0 0 (inR_lit _ rfl) (inR_lit _ rfl) h)
theorem ctX5_tripsDone {g : JG} {l : Launch} {d N : Nat} {A : AH} {out : Int} {y0 : Nat} {x1 : Int} (hl : l.stackTraces = false) (hd : 1 ≤ d) (hy0 : VK 5 y0) (hx1 : inR x1) (h : fX5_tripsDone N A y0 x1 = some out) : CT g l yX5_tripsDone cX5_tripsDone 4 (some .int) d [.ref (gB g + y0), vI x1] A ((0, some (vI out), A) : JO) (inR out) :=
  CT_of (by decide +kernel) hl (by first | exact Nat.le_of_ble_eq_true rfl | (unfold rv; split <;> exact Nat.le_of_ble_eq_true rfl)) (by first | rfl | (unfold rv; split <;> rfl)) (j_sub (lv := [(0, .ref (gB g + y0)), (1, vI x1)]) [0, 1] rfl (tX5_tripsDone_0 hl hd hy0 hx1 h))
set_option maxRecDepth 100000 in
theorem tX5_allRuns_4 {g : JG} {l : Launch} {d N n0 s0 : Nat} {out : Int} {A : AH} {y0 : Nat} (hl : l.stackTraces = false) (hd : 1 ≤ d) (hy0 : VK 5 y0) : ∀ (n : Nat) (x1 : Int) (x2 : Int), inR x1 → inR x2 → fX5_allRuns_4 N A y0 n x1 x2 = some out → J g l d RX5 "allRuns" cX5_allRuns 3 (some .int) n0 s0 ((0, some (vI out), A) : JO) (inR out) 4 [(0, .ref (gB g + y0)), (1, vI x1), (2, vI x2)] [] A := by
  intro n
  induction n with
  | zero =>
    intro x1 x2 hx1 hx2 h
    rw [fX5_allRuns_4] at h
    cases h
  | succ n ih =>
    intro x1 x2 hx1 hx2 h
    rw [fX5_allRuns_4] at h
    refine j_iload_n (j := 2) dX5_allRuns_4 rfl rfl ?_
    refine j_aload_n (j := 0) dX5_allRuns_5 rfl rfl ?_
    refine j_getI FX5_61 rfl dX5_allRuns_6 hy0.1 hy0.lt hy0.ka (fun r1 => ?_)
    by_cases c2 : (gI A y0 8) ≤ x2
    · rw [if_pos c2] at h
      refine j_icmp_ge_t hx2 r1 dX5_allRuns_9 (tgt := 30) (by decide) c2 ?_
      refine j_iload_n (j := 1) dX5_allRuns_30 rfl rfl ?_
      cases h
      exact j_iret dX5_allRuns_31 rfl rfl rfl hx1
    · rw [if_neg c2] at h
      refine j_icmp_ge_f hx2 r1 dX5_allRuns_9 (tgt := 30) (by decide) c2 ?_
      refine j_iload_n (j := 1) dX5_allRuns_12 rfl rfl ?_
      refine j_aload_n (j := 0) dX5_allRuns_13 rfl rfl ?_
      refine j_getR (q := (y0 + 5)) FX5_32 rfl dX5_allRuns_14 hy0.1 hy0.2.1 hy0.2.2 (lay5 hy0 (by decide)) (by omega) ?_
      refine j_iload_n (j := 2) dX5_allRuns_17 rfl rfl ?_
      obtain ⟨c3, h⟩ := chk_elim h
      have v4 : VK 0 (y0 + 28 + x2.toNat) := (VK.b hy0 c3)
      refine j_aald (q := (y0 + 28 + x2.toNat)) hx2 (by decide) (by decide) (by decide) (by decide) dX5_allRuns_18 (VK.f5 hy0).1 (VK.f5 hy0).2.1 (VK.f5 hy0).2.2 c3 (lay15 hy0 c3) (by omega) ?_
      refine j_getI FX5_207 rfl dX5_allRuns_19 v4.1 v4.lt v4.ka (fun r5 => ?_)
      refine j_iadd dX5_allRuns_22 ?_
      obtain ⟨u6, eu6, h⟩ := bnd_elim h
      have hu6 : inR u6 := by rw [eu6]; exact (wrap_inR _)
      refine j_nm eu6 ?_
      refine j_istore_n (lv' := [(1, vI u6), (0, .ref (gB g + y0)), (2, vI x2)]) dX5_allRuns_23 rfl (by decide) (by first | rfl | (simp only [List.all_cons, List.all_nil, rv_cat]; rfl)) rfl ?_
      obtain ⟨u7, eu7, h⟩ := bnd_elim h
      have hu7 : inR u7 := by rw [eu7]; exact wrap_inR _
      refine j_iincN (k := 2) (lv' := [(2, vI u7), (1, vI u6), (0, .ref (gB g + y0))]) eu7 dX5_allRuns_24 rfl (by decide) (by first | rfl | (simp only [List.all_cons, List.all_nil, rv_cat]; rfl)) rfl ?_
      refine j_goto (tgt := 4) dX5_allRuns_27 (by decide) ?_
      exact j_sub [2, 1, 0] rfl (ih u6 u7 hu6 hu7 h)
set_option maxRecDepth 100000 in
theorem tX5_allRuns_0 {g : JG} {l : Launch} {d N n0 s0 : Nat} {out : Int} {A : AH} {y0 : Nat} (hl : l.stackTraces = false) (hd : 1 ≤ d) (hy0 : VK 5 y0) (h : fX5_allRuns N A y0 = some out) : J g l d RX5 "allRuns" cX5_allRuns 3 (some .int) n0 s0 ((0, some (vI out), A) : JO) (inR out) 0 [(0, .ref (gB g + y0))] [] A := by
  unfold fX5_allRuns at h
  refine j_iconst dX5_allRuns_0 ?_
  refine j_istore_n (lv' := [(1, vI 0), (0, .ref (gB g + y0))]) dX5_allRuns_1 rfl (by decide) (by first | rfl | (simp only [List.all_cons, List.all_nil, rv_cat]; rfl)) rfl ?_
  refine j_iconst dX5_allRuns_2 ?_
  refine j_istore_n (lv' := [(2, vI 0), (1, vI 0), (0, .ref (gB g + y0))]) dX5_allRuns_3 rfl (by decide) (by first | rfl | (simp only [List.all_cons, List.all_nil, rv_cat]; rfl)) rfl ?_
  exact j_sub [2, 1, 0] rfl (tX5_allRuns_4 hl (by omega) hy0  N 0 0 (inR_lit _ rfl) (inR_lit _ rfl) h)
theorem ctX5_allRuns {g : JG} {l : Launch} {d N : Nat} {A : AH} {out : Int} {y0 : Nat} (hl : l.stackTraces = false) (hd : 1 ≤ d) (hy0 : VK 5 y0) (h : fX5_allRuns N A y0 = some out) : CT g l yX5_allRuns cX5_allRuns 3 (some .int) d [.ref (gB g + y0)] A ((0, some (vI out), A) : JO) (inR out) :=
  CT_of (by decide +kernel) hl (by first | exact Nat.le_of_ble_eq_true rfl | (unfold rv; split <;> exact Nat.le_of_ble_eq_true rfl)) (by first | rfl | (unfold rv; split <;> rfl)) (j_sub (lv := [(0, .ref (gB g + y0))]) [0] rfl (tX5_allRuns_0 hl hd hy0 h))
set_option maxRecDepth 100000 in
theorem tX5_allRides_4 {g : JG} {l : Launch} {d N n0 s0 : Nat} {out : Int} {A : AH} {y0 : Nat} (hl : l.stackTraces = false) (hd : 1 ≤ d) (hy0 : VK 5 y0) : ∀ (n : Nat) (x1 : Int) (x2 : Int), inR x1 → inR x2 → fX5_allRides_4 N A y0 n x1 x2 = some out → J g l d RX5 "allRides" cX5_allRides 3 (some .int) n0 s0 ((0, some (vI out), A) : JO) (inR out) 4 [(0, .ref (gB g + y0)), (1, vI x1), (2, vI x2)] [] A := by
  intro n
  induction n with
  | zero =>
    intro x1 x2 hx1 hx2 h
    rw [fX5_allRides_4] at h
    cases h
  | succ n ih =>
    intro x1 x2 hx1 hx2 h
    rw [fX5_allRides_4] at h
    refine j_iload_n (j := 2) dX5_allRides_4 rfl rfl ?_
    refine j_aload_n (j := 0) dX5_allRides_5 rfl rfl ?_
    refine j_getI FX5_61 rfl dX5_allRides_6 hy0.1 hy0.lt hy0.ka (fun r1 => ?_)
    by_cases c2 : (gI A y0 8) ≤ x2
    · rw [if_pos c2] at h
      refine j_icmp_ge_t hx2 r1 dX5_allRides_9 (tgt := 30) (by decide) c2 ?_
      refine j_iload_n (j := 1) dX5_allRides_30 rfl rfl ?_
      cases h
      exact j_iret dX5_allRides_31 rfl rfl rfl hx1
    · rw [if_neg c2] at h
      refine j_icmp_ge_f hx2 r1 dX5_allRides_9 (tgt := 30) (by decide) c2 ?_
      refine j_iload_n (j := 1) dX5_allRides_12 rfl rfl ?_
      refine j_aload_n (j := 0) dX5_allRides_13 rfl rfl ?_
      refine j_getR (q := (y0 + 5)) FX5_32 rfl dX5_allRides_14 hy0.1 hy0.2.1 hy0.2.2 (lay5 hy0 (by decide)) (by omega) ?_
      refine j_iload_n (j := 2) dX5_allRides_17 rfl rfl ?_
      obtain ⟨c3, h⟩ := chk_elim h
      have v4 : VK 0 (y0 + 28 + x2.toNat) := (VK.b hy0 c3)
      refine j_aald (q := (y0 + 28 + x2.toNat)) hx2 (by decide) (by decide) (by decide) (by decide) dX5_allRides_18 (VK.f5 hy0).1 (VK.f5 hy0).2.1 (VK.f5 hy0).2.2 c3 (lay15 hy0 c3) (by omega) ?_
      refine j_getI FX5_204 rfl dX5_allRides_19 v4.1 v4.lt v4.ka (fun r5 => ?_)
      refine j_iadd dX5_allRides_22 ?_
      obtain ⟨u6, eu6, h⟩ := bnd_elim h
      have hu6 : inR u6 := by rw [eu6]; exact (wrap_inR _)
      refine j_nm eu6 ?_
      refine j_istore_n (lv' := [(1, vI u6), (0, .ref (gB g + y0)), (2, vI x2)]) dX5_allRides_23 rfl (by decide) (by first | rfl | (simp only [List.all_cons, List.all_nil, rv_cat]; rfl)) rfl ?_
      obtain ⟨u7, eu7, h⟩ := bnd_elim h
      have hu7 : inR u7 := by rw [eu7]; exact wrap_inR _
      refine j_iincN (k := 2) (lv' := [(2, vI u7), (1, vI u6), (0, .ref (gB g + y0))]) eu7 dX5_allRides_24 rfl (by decide) (by first | rfl | (simp only [List.all_cons, List.all_nil, rv_cat]; rfl)) rfl ?_
      refine j_goto (tgt := 4) dX5_allRides_27 (by decide) ?_
      exact j_sub [2, 1, 0] rfl (ih u6 u7 hu6 hu7 h)
set_option maxRecDepth 100000 in
theorem tX5_allRides_0 {g : JG} {l : Launch} {d N n0 s0 : Nat} {out : Int} {A : AH} {y0 : Nat} (hl : l.stackTraces = false) (hd : 1 ≤ d) (hy0 : VK 5 y0) (h : fX5_allRides N A y0 = some out) : J g l d RX5 "allRides" cX5_allRides 3 (some .int) n0 s0 ((0, some (vI out), A) : JO) (inR out) 0 [(0, .ref (gB g + y0))] [] A := by
  unfold fX5_allRides at h
  refine j_iconst dX5_allRides_0 ?_
  refine j_istore_n (lv' := [(1, vI 0), (0, .ref (gB g + y0))]) dX5_allRides_1 rfl (by decide) (by first | rfl | (simp only [List.all_cons, List.all_nil, rv_cat]; rfl)) rfl ?_
  refine j_iconst dX5_allRides_2 ?_
  refine j_istore_n (lv' := [(2, vI 0), (1, vI 0), (0, .ref (gB g + y0))]) dX5_allRides_3 rfl (by decide) (by first | rfl | (simp only [List.all_cons, List.all_nil, rv_cat]; rfl)) rfl ?_
  exact j_sub [2, 1, 0] rfl (tX5_allRides_4 hl (by omega) hy0  N 0 0 (inR_lit _ rfl) (inR_lit _ rfl) h)
theorem ctX5_allRides {g : JG} {l : Launch} {d N : Nat} {A : AH} {out : Int} {y0 : Nat} (hl : l.stackTraces = false) (hd : 1 ≤ d) (hy0 : VK 5 y0) (h : fX5_allRides N A y0 = some out) : CT g l yX5_allRides cX5_allRides 3 (some .int) d [.ref (gB g + y0)] A ((0, some (vI out), A) : JO) (inR out) :=
  CT_of (by decide +kernel) hl (by first | exact Nat.le_of_ble_eq_true rfl | (unfold rv; split <;> exact Nat.le_of_ble_eq_true rfl)) (by first | rfl | (unfold rv; split <;> rfl)) (j_sub (lv := [(0, .ref (gB g + y0))]) [0] rfl (tX5_allRides_0 hl hd hy0 h))
set_option maxRecDepth 100000 in
theorem tX5_allTripHours_4 {g : JG} {l : Launch} {d N n0 s0 : Nat} {out : Int} {A : AH} {y0 : Nat} (hl : l.stackTraces = false) (hd : 2 ≤ d) (hy0 : VK 5 y0) : ∀ (n : Nat) (x1 : Int) (x2 : Int), inR x1 → inR x2 → fX5_allTripHours_4 N A y0 n x1 x2 = some out → J g l d RX5 "allTripHours" cX5_allTripHours 3 (some .int) n0 s0 ((0, some (vI out), A) : JO) (inR out) 4 [(0, .ref (gB g + y0)), (1, vI x1), (2, vI x2)] [] A := by
  intro n
  induction n with
  | zero =>
    intro x1 x2 hx1 hx2 h
    rw [fX5_allTripHours_4] at h
    cases h
  | succ n ih =>
    intro x1 x2 hx1 hx2 h
    rw [fX5_allTripHours_4] at h
    refine j_iload_n (j := 2) dX5_allTripHours_4 rfl rfl ?_
    refine j_aload_n (j := 0) dX5_allTripHours_5 rfl rfl ?_
    refine j_getI FX5_55 rfl dX5_allTripHours_6 hy0.1 hy0.lt hy0.ka (fun r1 => ?_)
    by_cases c2 : (gI A y0 6) ≤ x2
    · rw [if_pos c2] at h
      refine j_icmp_ge_t hx2 r1 dX5_allTripHours_9 (tgt := 42) (by decide) c2 ?_
      refine j_iload_n (j := 1) dX5_allTripHours_42 rfl rfl ?_
      cases h
      exact j_iret dX5_allTripHours_43 rfl rfl rfl hx1
    · rw [if_neg c2] at h
      refine j_icmp_ge_f hx2 r1 dX5_allTripHours_9 (tgt := 42) (by decide) c2 ?_
      refine j_aload_n (j := 0) dX5_allTripHours_12 rfl rfl ?_
      refine j_getR (q := (y0 + 3)) FX5_20 rfl dX5_allTripHours_13 hy0.1 hy0.2.1 hy0.2.2 (lay5 hy0 (by decide)) (by omega) ?_
      refine j_iload_n (j := 2) dX5_allTripHours_16 rfl rfl ?_
      obtain ⟨c3, h⟩ := chk_elim h
      have v4 : VK 3 (y0 + 6 + x2.toNat) := (VK.o hy0 c3)
      refine j_aald (q := (y0 + 6 + x2.toNat)) hx2 (by decide) (by decide) (by decide) (by decide) dX5_allTripHours_17 (VK.f3 hy0).1 (VK.f3 hy0).2.1 (VK.f3 hy0).2.2 c3 (lay13 hy0 c3) (by omega) ?_
      obtain ⟨z6, e5, h⟩ := obind_elim h
      refine j_callV MX5_263 YX3_hasTrip IX3_hasTrip SX3_hasTrip (by decide) rfl (by decide) (by omega) (Nat.le_of_ble_eq_true rfl) rfl (ctX3_hasTrip (d := d - 1) hl (by omega) v4 e5) dX5_allTripHours_18 v4.1 v4.lt v4.ka rfl (fun z7 _ => ?_)
      by_cases c9 : z6 = 0
      · rw [if_pos c9] at h
        refine j_if_eq_t (bool_inR z7) dX5_allTripHours_21 (tgt := 36) (by decide) c9 ?_
        obtain ⟨u10, eu10, h⟩ := bnd_elim h
        have hu10 : inR u10 := by rw [eu10]; exact wrap_inR _
        refine j_iincN (k := 2) (lv' := [(2, vI u10), (0, .ref (gB g + y0)), (1, vI x1)]) eu10 dX5_allTripHours_36 rfl (by decide) (by first | rfl | (simp only [List.all_cons, List.all_nil, rv_cat]; rfl)) rfl ?_
        refine j_goto (tgt := 4) dX5_allTripHours_39 (by decide) ?_
        exact j_sub [1, 2, 0] rfl (ih x1 u10 hx1 hu10 h)
      · rw [if_neg c9] at h
        refine j_if_eq_f (bool_inR z7) dX5_allTripHours_21 (tgt := 36) (by decide) c9 ?_
        refine j_iload_n (j := 1) dX5_allTripHours_24 rfl rfl ?_
        refine j_aload_n (j := 0) dX5_allTripHours_25 rfl rfl ?_
        refine j_getR (q := (y0 + 3)) FX5_20 rfl dX5_allTripHours_26 hy0.1 hy0.2.1 hy0.2.2 (lay5 hy0 (by decide)) (by omega) ?_
        refine j_iload_n (j := 2) dX5_allTripHours_29 rfl rfl ?_
        obtain ⟨c11, h⟩ := chk_elim h
        have v12 : VK 3 (y0 + 6 + x2.toNat) := (VK.o hy0 c11)
        refine j_aald (q := (y0 + 6 + x2.toNat)) hx2 (by decide) (by decide) (by decide) (by decide) dX5_allTripHours_30 (VK.f3 hy0).1 (VK.f3 hy0).2.1 (VK.f3 hy0).2.2 c11 (lay13 hy0 c11) (by omega) ?_
        obtain ⟨z14, e13, h⟩ := obind_elim h
        refine j_callV MX5_88 YX3_tripHours IX3_tripHours SX3_tripHours (by decide) rfl (by decide) (by omega) (Nat.le_of_ble_eq_true rfl) rfl (ctX3_tripHours (d := d - 1) hl (by omega) v12 e13) dX5_allTripHours_31 v12.1 v12.lt v12.ka rfl (fun z15 _ => ?_)
        refine j_iadd dX5_allTripHours_34 ?_
        obtain ⟨u17, eu17, h⟩ := bnd_elim h
        have hu17 : inR u17 := by rw [eu17]; exact (wrap_inR _)
        refine j_nm eu17 ?_
        refine j_istore_n (lv' := [(1, vI u17), (0, .ref (gB g + y0)), (2, vI x2)]) dX5_allTripHours_35 rfl (by decide) (by first | rfl | (simp only [List.all_cons, List.all_nil, rv_cat]; rfl)) rfl ?_
        obtain ⟨u18, eu18, h⟩ := bnd_elim h
        have hu18 : inR u18 := by rw [eu18]; exact wrap_inR _
        refine j_iincN (k := 2) (lv' := [(2, vI u18), (1, vI u17), (0, .ref (gB g + y0))]) eu18 dX5_allTripHours_36 rfl (by decide) (by first | rfl | (simp only [List.all_cons, List.all_nil, rv_cat]; rfl)) rfl ?_
        refine j_goto (tgt := 4) dX5_allTripHours_39 (by decide) ?_
        exact j_sub [2, 1, 0] rfl (ih u17 u18 hu17 hu18 h)
set_option maxRecDepth 100000 in
theorem tX5_allTripHours_0 {g : JG} {l : Launch} {d N n0 s0 : Nat} {out : Int} {A : AH} {y0 : Nat} (hl : l.stackTraces = false) (hd : 2 ≤ d) (hy0 : VK 5 y0) (h : fX5_allTripHours N A y0 = some out) : J g l d RX5 "allTripHours" cX5_allTripHours 3 (some .int) n0 s0 ((0, some (vI out), A) : JO) (inR out) 0 [(0, .ref (gB g + y0))] [] A := by
  unfold fX5_allTripHours at h
  refine j_iconst dX5_allTripHours_0 ?_
  refine j_istore_n (lv' := [(1, vI 0), (0, .ref (gB g + y0))]) dX5_allTripHours_1 rfl (by decide) (by first | rfl | (simp only [List.all_cons, List.all_nil, rv_cat]; rfl)) rfl ?_
  refine j_iconst dX5_allTripHours_2 ?_
  refine j_istore_n (lv' := [(2, vI 0), (1, vI 0), (0, .ref (gB g + y0))]) dX5_allTripHours_3 rfl (by decide) (by first | rfl | (simp only [List.all_cons, List.all_nil, rv_cat]; rfl)) rfl ?_
  exact j_sub [2, 1, 0] rfl (tX5_allTripHours_4 hl (by omega) hy0  N 0 0 (inR_lit _ rfl) (inR_lit _ rfl) h)
theorem ctX5_allTripHours {g : JG} {l : Launch} {d N : Nat} {A : AH} {out : Int} {y0 : Nat} (hl : l.stackTraces = false) (hd : 2 ≤ d) (hy0 : VK 5 y0) (h : fX5_allTripHours N A y0 = some out) : CT g l yX5_allTripHours cX5_allTripHours 3 (some .int) d [.ref (gB g + y0)] A ((0, some (vI out), A) : JO) (inR out) :=
  CT_of (by decide +kernel) hl (by first | exact Nat.le_of_ble_eq_true rfl | (unfold rv; split <;> exact Nat.le_of_ble_eq_true rfl)) (by first | rfl | (unfold rv; split <;> rfl)) (j_sub (lv := [(0, .ref (gB g + y0))]) [0] rfl (tX5_allTripHours_0 hl hd hy0 h))
set_option maxRecDepth 100000 in
theorem tX5_allWaits_4 {g : JG} {l : Launch} {d N n0 s0 : Nat} {out : Int} {A : AH} {y0 : Nat} (hl : l.stackTraces = false) (hd : 2 ≤ d) (hy0 : VK 5 y0) : ∀ (n : Nat) (x1 : Int) (x2 : Int), inR x1 → inR x2 → fX5_allWaits_4 N A y0 n x1 x2 = some out → J g l d RX5 "allWaits" cX5_allWaits 3 (some .int) n0 s0 ((0, some (vI out), A) : JO) (inR out) 4 [(0, .ref (gB g + y0)), (1, vI x1), (2, vI x2)] [] A := by
  intro n
  induction n with
  | zero =>
    intro x1 x2 hx1 hx2 h
    rw [fX5_allWaits_4] at h
    cases h
  | succ n ih =>
    intro x1 x2 hx1 hx2 h
    rw [fX5_allWaits_4] at h
    refine j_iload_n (j := 2) dX5_allWaits_4 rfl rfl ?_
    refine j_aload_n (j := 0) dX5_allWaits_5 rfl rfl ?_
    refine j_getI FX5_55 rfl dX5_allWaits_6 hy0.1 hy0.lt hy0.ka (fun r1 => ?_)
    by_cases c2 : (gI A y0 6) ≤ x2
    · rw [if_pos c2] at h
      refine j_icmp_ge_t hx2 r1 dX5_allWaits_9 (tgt := 52) (by decide) c2 ?_
      refine j_iload_n (j := 1) dX5_allWaits_52 rfl rfl ?_
      cases h
      exact j_iret dX5_allWaits_53 rfl rfl rfl hx1
    · rw [if_neg c2] at h
      refine j_icmp_ge_f hx2 r1 dX5_allWaits_9 (tgt := 52) (by decide) c2 ?_
      refine j_aload_n (j := 0) dX5_allWaits_12 rfl rfl ?_
      refine j_getR (q := (y0 + 3)) FX5_20 rfl dX5_allWaits_13 hy0.1 hy0.2.1 hy0.2.2 (lay5 hy0 (by decide)) (by omega) ?_
      refine j_iload_n (j := 2) dX5_allWaits_16 rfl rfl ?_
      obtain ⟨c3, h⟩ := chk_elim h
      have v4 : VK 3 (y0 + 6 + x2.toNat) := (VK.o hy0 c3)
      refine j_aald (q := (y0 + 6 + x2.toNat)) hx2 (by decide) (by decide) (by decide) (by decide) dX5_allWaits_17 (VK.f3 hy0).1 (VK.f3 hy0).2.1 (VK.f3 hy0).2.2 c3 (lay13 hy0 c3) (by omega) ?_
      obtain ⟨z6, e5, h⟩ := obind_elim h
      refine j_callV MX5_263 YX3_hasTrip IX3_hasTrip SX3_hasTrip (by decide) rfl (by decide) (by omega) (Nat.le_of_ble_eq_true rfl) rfl (ctX3_hasTrip (d := d - 1) hl (by omega) v4 e5) dX5_allWaits_18 v4.1 v4.lt v4.ka rfl (fun z7 _ => ?_)
      by_cases c9 : z6 = 0
      · rw [if_pos c9] at h
        refine j_if_eq_t (bool_inR z7) dX5_allWaits_21 (tgt := 46) (by decide) c9 ?_
        obtain ⟨u10, eu10, h⟩ := bnd_elim h
        have hu10 : inR u10 := by rw [eu10]; exact wrap_inR _
        refine j_iincN (k := 2) (lv' := [(2, vI u10), (0, .ref (gB g + y0)), (1, vI x1)]) eu10 dX5_allWaits_46 rfl (by decide) (by first | rfl | (simp only [List.all_cons, List.all_nil, rv_cat]; rfl)) rfl ?_
        refine j_goto (tgt := 4) dX5_allWaits_49 (by decide) ?_
        exact j_sub [1, 2, 0] rfl (ih x1 u10 hx1 hu10 h)
      · rw [if_neg c9] at h
        refine j_if_eq_f (bool_inR z7) dX5_allWaits_21 (tgt := 46) (by decide) c9 ?_
        refine j_iload_n (j := 1) dX5_allWaits_24 rfl rfl ?_
        refine j_aload_n (j := 0) dX5_allWaits_25 rfl rfl ?_
        refine j_getR (q := (y0 + 3)) FX5_20 rfl dX5_allWaits_26 hy0.1 hy0.2.1 hy0.2.2 (lay5 hy0 (by decide)) (by omega) ?_
        refine j_iload_n (j := 2) dX5_allWaits_29 rfl rfl ?_
        obtain ⟨c11, h⟩ := chk_elim h
        have v12 : VK 3 (y0 + 6 + x2.toNat) := (VK.o hy0 c11)
        refine j_aald (q := (y0 + 6 + x2.toNat)) hx2 (by decide) (by decide) (by decide) (by decide) dX5_allWaits_30 (VK.f3 hy0).1 (VK.f3 hy0).2.1 (VK.f3 hy0).2.2 c11 (lay13 hy0 c11) (by omega) ?_
        refine j_getI FX5_168 rfl dX5_allWaits_31 v12.1 v12.lt v12.ka (fun r13 => ?_)
        refine j_aload_n (j := 0) dX5_allWaits_34 rfl rfl ?_
        refine j_getR (q := (y0 + 3)) FX5_20 rfl dX5_allWaits_35 hy0.1 hy0.2.1 hy0.2.2 (lay5 hy0 (by decide)) (by omega) ?_
        refine j_iload_n (j := 2) dX5_allWaits_38 rfl rfl ?_
        obtain ⟨c14, h⟩ := chk_elim h
        have v15 : VK 3 (y0 + 6 + x2.toNat) := (VK.o hy0 c14)
        refine j_aald (q := (y0 + 6 + x2.toNat)) hx2 (by decide) (by decide) (by decide) (by decide) dX5_allWaits_39 (VK.f3 hy0).1 (VK.f3 hy0).2.1 (VK.f3 hy0).2.2 c14 (lay13 hy0 c14) (by omega) ?_
        refine j_getI FX5_99 rfl dX5_allWaits_40 v15.1 v15.lt v15.ka (fun r16 => ?_)
        refine j_isub dX5_allWaits_43 ?_
        refine j_iadd dX5_allWaits_44 ?_
        obtain ⟨u17, eu17, h⟩ := bnd_elim h
        have hu17 : inR u17 := by rw [eu17]; exact (wrap_inR _)
        refine j_nm eu17 ?_
        refine j_istore_n (lv' := [(1, vI u17), (0, .ref (gB g + y0)), (2, vI x2)]) dX5_allWaits_45 rfl (by decide) (by first | rfl | (simp only [List.all_cons, List.all_nil, rv_cat]; rfl)) rfl ?_
        obtain ⟨u18, eu18, h⟩ := bnd_elim h
        have hu18 : inR u18 := by rw [eu18]; exact wrap_inR _
        refine j_iincN (k := 2) (lv' := [(2, vI u18), (1, vI u17), (0, .ref (gB g + y0))]) eu18 dX5_allWaits_46 rfl (by decide) (by first | rfl | (simp only [List.all_cons, List.all_nil, rv_cat]; rfl)) rfl ?_
        refine j_goto (tgt := 4) dX5_allWaits_49 (by decide) ?_
        exact j_sub [2, 1, 0] rfl (ih u17 u18 hu17 hu18 h)
set_option maxRecDepth 100000 in
theorem tX5_allWaits_0 {g : JG} {l : Launch} {d N n0 s0 : Nat} {out : Int} {A : AH} {y0 : Nat} (hl : l.stackTraces = false) (hd : 2 ≤ d) (hy0 : VK 5 y0) (h : fX5_allWaits N A y0 = some out) : J g l d RX5 "allWaits" cX5_allWaits 3 (some .int) n0 s0 ((0, some (vI out), A) : JO) (inR out) 0 [(0, .ref (gB g + y0))] [] A := by
  unfold fX5_allWaits at h
  refine j_iconst dX5_allWaits_0 ?_
  refine j_istore_n (lv' := [(1, vI 0), (0, .ref (gB g + y0))]) dX5_allWaits_1 rfl (by decide) (by first | rfl | (simp only [List.all_cons, List.all_nil, rv_cat]; rfl)) rfl ?_
  refine j_iconst dX5_allWaits_2 ?_
  refine j_istore_n (lv' := [(2, vI 0), (1, vI 0), (0, .ref (gB g + y0))]) dX5_allWaits_3 rfl (by decide) (by first | rfl | (simp only [List.all_cons, List.all_nil, rv_cat]; rfl)) rfl ?_
  exact j_sub [2, 1, 0] rfl (tX5_allWaits_4 hl (by omega) hy0  N 0 0 (inR_lit _ rfl) (inR_lit _ rfl) h)
theorem ctX5_allWaits {g : JG} {l : Launch} {d N : Nat} {A : AH} {out : Int} {y0 : Nat} (hl : l.stackTraces = false) (hd : 2 ≤ d) (hy0 : VK 5 y0) (h : fX5_allWaits N A y0 = some out) : CT g l yX5_allWaits cX5_allWaits 3 (some .int) d [.ref (gB g + y0)] A ((0, some (vI out), A) : JO) (inR out) :=
  CT_of (by decide +kernel) hl (by first | exact Nat.le_of_ble_eq_true rfl | (unfold rv; split <;> exact Nat.le_of_ble_eq_true rfl)) (by first | rfl | (unfold rv; split <;> rfl)) (j_sub (lv := [(0, .ref (gB g + y0))]) [0] rfl (tX5_allWaits_0 hl hd hy0 h))
set_option maxRecDepth 100000 in
theorem tX5_allPutOffs_4 {g : JG} {l : Launch} {d N n0 s0 : Nat} {out : Int} {A : AH} {y0 : Nat} (hl : l.stackTraces = false) (hd : 1 ≤ d) (hy0 : VK 5 y0) : ∀ (n : Nat) (x1 : Int) (x2 : Int), inR x1 → inR x2 → fX5_allPutOffs_4 N A y0 n x1 x2 = some out → J g l d RX5 "allPutOffs" cX5_allPutOffs 3 (some .int) n0 s0 ((0, some (vI out), A) : JO) (inR out) 4 [(0, .ref (gB g + y0)), (1, vI x1), (2, vI x2)] [] A := by
  intro n
  induction n with
  | zero =>
    intro x1 x2 hx1 hx2 h
    rw [fX5_allPutOffs_4] at h
    cases h
  | succ n ih =>
    intro x1 x2 hx1 hx2 h
    rw [fX5_allPutOffs_4] at h
    refine j_iload_n (j := 2) dX5_allPutOffs_4 rfl rfl ?_
    refine j_aload_n (j := 0) dX5_allPutOffs_5 rfl rfl ?_
    refine j_getI FX5_55 rfl dX5_allPutOffs_6 hy0.1 hy0.lt hy0.ka (fun r1 => ?_)
    by_cases c2 : (gI A y0 6) ≤ x2
    · rw [if_pos c2] at h
      refine j_icmp_ge_t hx2 r1 dX5_allPutOffs_9 (tgt := 30) (by decide) c2 ?_
      refine j_iload_n (j := 1) dX5_allPutOffs_30 rfl rfl ?_
      cases h
      exact j_iret dX5_allPutOffs_31 rfl rfl rfl hx1
    · rw [if_neg c2] at h
      refine j_icmp_ge_f hx2 r1 dX5_allPutOffs_9 (tgt := 30) (by decide) c2 ?_
      refine j_iload_n (j := 1) dX5_allPutOffs_12 rfl rfl ?_
      refine j_aload_n (j := 0) dX5_allPutOffs_13 rfl rfl ?_
      refine j_getR (q := (y0 + 3)) FX5_20 rfl dX5_allPutOffs_14 hy0.1 hy0.2.1 hy0.2.2 (lay5 hy0 (by decide)) (by omega) ?_
      refine j_iload_n (j := 2) dX5_allPutOffs_17 rfl rfl ?_
      obtain ⟨c3, h⟩ := chk_elim h
      have v4 : VK 3 (y0 + 6 + x2.toNat) := (VK.o hy0 c3)
      refine j_aald (q := (y0 + 6 + x2.toNat)) hx2 (by decide) (by decide) (by decide) (by decide) dX5_allPutOffs_18 (VK.f3 hy0).1 (VK.f3 hy0).2.1 (VK.f3 hy0).2.2 c3 (lay13 hy0 c3) (by omega) ?_
      refine j_getI FX5_266 rfl dX5_allPutOffs_19 v4.1 v4.lt v4.ka (fun r5 => ?_)
      refine j_iadd dX5_allPutOffs_22 ?_
      obtain ⟨u6, eu6, h⟩ := bnd_elim h
      have hu6 : inR u6 := by rw [eu6]; exact (wrap_inR _)
      refine j_nm eu6 ?_
      refine j_istore_n (lv' := [(1, vI u6), (0, .ref (gB g + y0)), (2, vI x2)]) dX5_allPutOffs_23 rfl (by decide) (by first | rfl | (simp only [List.all_cons, List.all_nil, rv_cat]; rfl)) rfl ?_
      obtain ⟨u7, eu7, h⟩ := bnd_elim h
      have hu7 : inR u7 := by rw [eu7]; exact wrap_inR _
      refine j_iincN (k := 2) (lv' := [(2, vI u7), (1, vI u6), (0, .ref (gB g + y0))]) eu7 dX5_allPutOffs_24 rfl (by decide) (by first | rfl | (simp only [List.all_cons, List.all_nil, rv_cat]; rfl)) rfl ?_
      refine j_goto (tgt := 4) dX5_allPutOffs_27 (by decide) ?_
      exact j_sub [2, 1, 0] rfl (ih u6 u7 hu6 hu7 h)
set_option maxRecDepth 100000 in
theorem tX5_allPutOffs_0 {g : JG} {l : Launch} {d N n0 s0 : Nat} {out : Int} {A : AH} {y0 : Nat} (hl : l.stackTraces = false) (hd : 1 ≤ d) (hy0 : VK 5 y0) (h : fX5_allPutOffs N A y0 = some out) : J g l d RX5 "allPutOffs" cX5_allPutOffs 3 (some .int) n0 s0 ((0, some (vI out), A) : JO) (inR out) 0 [(0, .ref (gB g + y0))] [] A := by
  unfold fX5_allPutOffs at h
  refine j_iconst dX5_allPutOffs_0 ?_
  refine j_istore_n (lv' := [(1, vI 0), (0, .ref (gB g + y0))]) dX5_allPutOffs_1 rfl (by decide) (by first | rfl | (simp only [List.all_cons, List.all_nil, rv_cat]; rfl)) rfl ?_
  refine j_iconst dX5_allPutOffs_2 ?_
  refine j_istore_n (lv' := [(2, vI 0), (1, vI 0), (0, .ref (gB g + y0))]) dX5_allPutOffs_3 rfl (by decide) (by first | rfl | (simp only [List.all_cons, List.all_nil, rv_cat]; rfl)) rfl ?_
  exact j_sub [2, 1, 0] rfl (tX5_allPutOffs_4 hl (by omega) hy0  N 0 0 (inR_lit _ rfl) (inR_lit _ rfl) h)
theorem ctX5_allPutOffs {g : JG} {l : Launch} {d N : Nat} {A : AH} {out : Int} {y0 : Nat} (hl : l.stackTraces = false) (hd : 1 ≤ d) (hy0 : VK 5 y0) (h : fX5_allPutOffs N A y0 = some out) : CT g l yX5_allPutOffs cX5_allPutOffs 3 (some .int) d [.ref (gB g + y0)] A ((0, some (vI out), A) : JO) (inR out) :=
  CT_of (by decide +kernel) hl (by first | exact Nat.le_of_ble_eq_true rfl | (unfold rv; split <;> exact Nat.le_of_ble_eq_true rfl)) (by first | rfl | (unfold rv; split <;> rfl)) (j_sub (lv := [(0, .ref (gB g + y0))]) [0] rfl (tX5_allPutOffs_0 hl hd hy0 h))
set_option maxRecDepth 100000 in
theorem tX5_pilotsUnderWay_4 {g : JG} {l : Launch} {d N n0 s0 : Nat} {out : Int} {A : AH} {y0 : Nat} (hl : l.stackTraces = false) (hd : 2 ≤ d) (hy0 : VK 5 y0) : ∀ (n : Nat) (x1 : Int) (x2 : Int), inR x1 → inR x2 → fX5_pilotsUnderWay_4 N A y0 n x1 x2 = some out → J g l d RX5 "pilotsUnderWay" cX5_pilotsUnderWay 3 (some .int) n0 s0 ((0, some (vI out), A) : JO) (inR out) 4 [(0, .ref (gB g + y0)), (1, vI x1), (2, vI x2)] [] A := by
  intro n
  induction n with
  | zero =>
    intro x1 x2 hx1 hx2 h
    rw [fX5_pilotsUnderWay_4] at h
    cases h
  | succ n ih =>
    intro x1 x2 hx1 hx2 h
    rw [fX5_pilotsUnderWay_4] at h
    refine j_iload_n (j := 2) dX5_pilotsUnderWay_4 rfl rfl ?_
    refine j_aload_n (j := 0) dX5_pilotsUnderWay_5 rfl rfl ?_
    refine j_getI FX5_58 rfl dX5_pilotsUnderWay_6 hy0.1 hy0.lt hy0.ka (fun r1 => ?_)
    by_cases c2 : (gI A y0 7) ≤ x2
    · rw [if_pos c2] at h
      refine j_icmp_ge_t hx2 r1 dX5_pilotsUnderWay_9 (tgt := 38) (by decide) c2 ?_
      refine j_iload_n (j := 1) dX5_pilotsUnderWay_38 rfl rfl ?_
      cases h
      exact j_iret dX5_pilotsUnderWay_39 rfl rfl rfl hx1
    · rw [if_neg c2] at h
      refine j_icmp_ge_f hx2 r1 dX5_pilotsUnderWay_9 (tgt := 38) (by decide) c2 ?_
      refine j_aload_n (j := 0) dX5_pilotsUnderWay_12 rfl rfl ?_
      refine j_getR (q := (y0 + 4)) FX5_26 rfl dX5_pilotsUnderWay_13 hy0.1 hy0.2.1 hy0.2.2 (lay5 hy0 (by decide)) (by omega) ?_
      refine j_iload_n (j := 2) dX5_pilotsUnderWay_16 rfl rfl ?_
      obtain ⟨c3, h⟩ := chk_elim h
      have v4 : VK 4 (y0 + 22 + x2.toNat) := (VK.p hy0 c3)
      refine j_aald (q := (y0 + 22 + x2.toNat)) hx2 (by decide) (by decide) (by decide) (by decide) dX5_pilotsUnderWay_17 (VK.f4 hy0).1 (VK.f4 hy0).2.1 (VK.f4 hy0).2.2 c3 (lay14 hy0 c3) (by omega) ?_
      refine j_aload_n (j := 0) dX5_pilotsUnderWay_18 rfl rfl ?_
      refine j_getI FX5_51 rfl dX5_pilotsUnderWay_19 hy0.1 hy0.lt hy0.ka (fun r5 => ?_)
      obtain ⟨z7, e6, h⟩ := obind_elim h
      refine j_callV MX5_269 YX4_placeAt IX4_placeAt SX4_placeAt (by decide) rfl (by decide) (by omega) (Nat.le_of_ble_eq_true rfl) rfl (ctX4_placeAt (d := d - 1) hl (by omega) v4 r5 e6) dX5_pilotsUnderWay_22 v4.1 v4.lt v4.ka rfl (fun z8 _ => ?_)
      refine j_iconst dX5_pilotsUnderWay_25 ?_
      by_cases c10 : z7 = (-1)
      · rw [if_pos c10] at h
        refine j_icmp_ne_f z8 (inR_lit _ rfl) dX5_pilotsUnderWay_26 (tgt := 32) (by decide) (fun q => q c10) ?_
        obtain ⟨u12, eu12, h⟩ := bnd_elim h
        have hu12 : inR u12 := by rw [eu12]; exact wrap_inR _
        refine j_iincN (k := 1) (lv' := [(1, vI u12), (0, .ref (gB g + y0)), (2, vI x2)]) eu12 dX5_pilotsUnderWay_29 rfl (by decide) (by first | rfl | (simp only [List.all_cons, List.all_nil, rv_cat]; rfl)) rfl ?_
        obtain ⟨u13, eu13, h⟩ := bnd_elim h
        have hu13 : inR u13 := by rw [eu13]; exact wrap_inR _
        refine j_iincN (k := 2) (lv' := [(2, vI u13), (1, vI u12), (0, .ref (gB g + y0))]) eu13 dX5_pilotsUnderWay_32 rfl (by decide) (by first | rfl | (simp only [List.all_cons, List.all_nil, rv_cat]; rfl)) rfl ?_
        refine j_goto (tgt := 4) dX5_pilotsUnderWay_35 (by decide) ?_
        exact j_sub [2, 1, 0] rfl (ih u12 u13 hu12 hu13 h)
      · rw [if_neg c10] at h
        refine j_icmp_ne_t z8 (inR_lit _ rfl) dX5_pilotsUnderWay_26 (tgt := 32) (by decide) c10 ?_
        obtain ⟨u11, eu11, h⟩ := bnd_elim h
        have hu11 : inR u11 := by rw [eu11]; exact wrap_inR _
        refine j_iincN (k := 2) (lv' := [(2, vI u11), (0, .ref (gB g + y0)), (1, vI x1)]) eu11 dX5_pilotsUnderWay_32 rfl (by decide) (by first | rfl | (simp only [List.all_cons, List.all_nil, rv_cat]; rfl)) rfl ?_
        refine j_goto (tgt := 4) dX5_pilotsUnderWay_35 (by decide) ?_
        exact j_sub [1, 2, 0] rfl (ih x1 u11 hx1 hu11 h)
set_option maxRecDepth 100000 in
theorem tX5_pilotsUnderWay_0 {g : JG} {l : Launch} {d N n0 s0 : Nat} {out : Int} {A : AH} {y0 : Nat} (hl : l.stackTraces = false) (hd : 2 ≤ d) (hy0 : VK 5 y0) (h : fX5_pilotsUnderWay N A y0 = some out) : J g l d RX5 "pilotsUnderWay" cX5_pilotsUnderWay 3 (some .int) n0 s0 ((0, some (vI out), A) : JO) (inR out) 0 [(0, .ref (gB g + y0))] [] A := by
  unfold fX5_pilotsUnderWay at h
  refine j_iconst dX5_pilotsUnderWay_0 ?_
  refine j_istore_n (lv' := [(1, vI 0), (0, .ref (gB g + y0))]) dX5_pilotsUnderWay_1 rfl (by decide) (by first | rfl | (simp only [List.all_cons, List.all_nil, rv_cat]; rfl)) rfl ?_
  refine j_iconst dX5_pilotsUnderWay_2 ?_
  refine j_istore_n (lv' := [(2, vI 0), (1, vI 0), (0, .ref (gB g + y0))]) dX5_pilotsUnderWay_3 rfl (by decide) (by first | rfl | (simp only [List.all_cons, List.all_nil, rv_cat]; rfl)) rfl ?_
  exact j_sub [2, 1, 0] rfl (tX5_pilotsUnderWay_4 hl (by omega) hy0  N 0 0 (inR_lit _ rfl) (inR_lit _ rfl) h)
theorem ctX5_pilotsUnderWay {g : JG} {l : Launch} {d N : Nat} {A : AH} {out : Int} {y0 : Nat} (hl : l.stackTraces = false) (hd : 2 ≤ d) (hy0 : VK 5 y0) (h : fX5_pilotsUnderWay N A y0 = some out) : CT g l yX5_pilotsUnderWay cX5_pilotsUnderWay 3 (some .int) d [.ref (gB g + y0)] A ((0, some (vI out), A) : JO) (inR out) :=
  CT_of (by decide +kernel) hl (by first | exact Nat.le_of_ble_eq_true rfl | (unfold rv; split <;> exact Nat.le_of_ble_eq_true rfl)) (by first | rfl | (unfold rv; split <;> rfl)) (j_sub (lv := [(0, .ref (gB g + y0))]) [0] rfl (tX5_pilotsUnderWay_0 hl hd hy0 h))
