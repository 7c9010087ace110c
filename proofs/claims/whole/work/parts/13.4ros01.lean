theorem ctX5_reasonAgainstRelease {g : JG} {l : Launch} {d N : Nat} {A : AH} {out : Int} {y0 : Nat} {x1 : Int} (hl : l.stackTraces = false) (hd : 2 ≤ d) (hy0 : VK 5 y0) (hx1 : inR x1) (h : fX5_reasonAgainstRelease N A y0 x1 = some out) : CT g l yX5_reasonAgainstRelease cX5_reasonAgainstRelease 3 (some .int) d [.ref (gB g + y0), vI x1] A ((0, some (vI out), A) : JO) (inR out) :=
  CT_of (by decide +kernel) hl (by first | exact Nat.le_of_ble_eq_true rfl | (unfold rv; split <;> exact Nat.le_of_ble_eq_true rfl)) (by first | rfl | (unfold rv; split <;> rfl)) (j_sub (lv := [(0, .ref (gB g + y0)), (1, vI x1)]) [0, 1] rfl (tX5_reasonAgainstRelease_0 hl hd hy0 hx1 h))
set_option maxRecDepth 100000 in
theorem tX5_removeTrip_0 {g : JG} {l : Launch} {d N n0 s0 : Nat} {out : AH} {A : AH} {y0 : Nat} {x1 : Int} (hl : l.stackTraces = false) (hd : 2 ≤ d) (hy0 : VK 5 y0) (hx1 : inR x1) (h : fX5_removeTrip N A y0 x1 = some out) : J g l d RX5 "removeTrip" cX5_removeTrip 2 none n0 s0 ((0, none, out) : JO) (True) 0 [(0, .ref (gB g + y0)), (1, vI x1)] [] A := by
  unfold fX5_removeTrip at h
  refine j_aload_n (j := 0) dX5_removeTrip_0 rfl rfl ?_
  refine j_iload_n (j := 1) dX5_removeTrip_1 rfl rfl ?_
  obtain ⟨z2, e1, h⟩ := obind_elim h
  refine j_callV MX5_150 YX5_hasOrder IX5_hasOrder SX5_hasOrder (by decide) rfl (by decide) (by omega) (Nat.le_of_ble_eq_true rfl) rfl (ctX5_hasOrder (d := d - 1) hl (by omega) hy0 hx1 e1) dX5_removeTrip_2 hy0.1 hy0.lt hy0.ka rfl (fun z3 _ => ?_)
  by_cases c5 : z2 = 0
  · rw [if_pos c5] at h
    refine j_if_eq_t (bool_inR z3) dX5_removeTrip_5 (tgt := 24) (by decide) c5 ?_
    cases h
    exact j_vret dX5_removeTrip_24 rfl rfl trivial
  · rw [if_neg c5] at h
    refine j_if_eq_f (bool_inR z3) dX5_removeTrip_5 (tgt := 24) (by decide) c5 ?_
    refine j_aload_n (j := 0) dX5_removeTrip_8 rfl rfl ?_
    refine j_aload_n (j := 0) dX5_removeTrip_9 rfl rfl ?_
    refine j_getR (q := (y0 + 3)) FX5_20 rfl dX5_removeTrip_10 hy0.1 hy0.2.1 hy0.2.2 (lay5 hy0 (by decide)) (by omega) ?_
    refine j_iload_n (j := 1) dX5_removeTrip_13 rfl rfl ?_
    obtain ⟨c6, h⟩ := chk_elim h
    have v7 : VK 3 (y0 + 6 + x1.toNat) := (VK.o hy0 c6)
    refine j_aald (q := (y0 + 6 + x1.toNat)) hx1 (by decide) (by decide) (by decide) (by decide) dX5_removeTrip_14 (VK.f3 hy0).1 (VK.f3 hy0).2.1 (VK.f3 hy0).2.2 c6 (lay13 hy0 c6) (by omega) ?_
    refine j_getI FX5_171 rfl dX5_removeTrip_15 v7.1 v7.lt v7.ka (fun r8 => ?_)
    obtain ⟨z10, e9, h⟩ := obind_elim h
    refine j_callV MX5_154 YX5_hasPilot IX5_hasPilot SX5_hasPilot (by decide) rfl (by decide) (by omega) (Nat.le_of_ble_eq_true rfl) rfl (ctX5_hasPilot (d := d - 1) hl (by omega) hy0 r8 e9) dX5_removeTrip_18 hy0.1 hy0.lt hy0.ka rfl (fun z11 _ => ?_)
    by_cases c13 : z10 = 0
    · rw [if_pos c13] at h
      refine j_if_ne_f (bool_inR z11) dX5_removeTrip_21 (tgt := 25) (by decide) (fun q => q c13) ?_
      cases h
      exact j_vret dX5_removeTrip_24 rfl rfl trivial
    · rw [if_neg c13] at h
      refine j_if_ne_t (bool_inR z11) dX5_removeTrip_21 (tgt := 25) (by decide) c13 ?_
      refine j_aload_n (j := 0) dX5_removeTrip_25 rfl rfl ?_
      refine j_getR (q := (y0 + 4)) FX5_26 rfl dX5_removeTrip_26 hy0.1 hy0.2.1 hy0.2.2 (lay5 hy0 (by decide)) (by omega) ?_
      refine j_aload_n (j := 0) dX5_removeTrip_29 rfl rfl ?_
      refine j_getR (q := (y0 + 3)) FX5_20 rfl dX5_removeTrip_30 hy0.1 hy0.2.1 hy0.2.2 (lay5 hy0 (by decide)) (by omega) ?_
      refine j_iload_n (j := 1) dX5_removeTrip_33 rfl rfl ?_
      obtain ⟨c14, h⟩ := chk_elim h
      have v15 : VK 3 (y0 + 6 + x1.toNat) := (VK.o hy0 c14)
      refine j_aald (q := (y0 + 6 + x1.toNat)) hx1 (by decide) (by decide) (by decide) (by decide) dX5_removeTrip_34 (VK.f3 hy0).1 (VK.f3 hy0).2.1 (VK.f3 hy0).2.2 c14 (lay13 hy0 c14) (by omega) ?_
      refine j_getI FX5_171 rfl dX5_removeTrip_35 v15.1 v15.lt v15.ka (fun r16 => ?_)
      obtain ⟨c17, h⟩ := chk_elim h
      have v18 : VK 4 (y0 + 22 + (gI A (y0 + 6 + x1.toNat) 6).toNat) := (VK.p hy0 c17)
      refine j_aald (q := (y0 + 22 + (gI A (y0 + 6 + x1.toNat) 6).toNat)) r16 (by decide) (by decide) (by decide) (by decide) dX5_removeTrip_38 (VK.f4 hy0).1 (VK.f4 hy0).2.1 (VK.f4 hy0).2.2 c17 (lay14 hy0 c17) (by omega) ?_
      obtain ⟨p20, e19, h⟩ := obind_elim h
      refine j_callV MX5_177 YX4_removeLast IX4_removeLast SX4_removeLast (by decide) rfl (by decide) (by omega) (Nat.le_of_ble_eq_true rfl) rfl (ctX4_removeLast (d := d - 1) hl (by omega) v18 e19) dX5_removeTrip_39 v18.1 v18.lt v18.ka rfl (fun z21 xt22 => ?_)
      refine j_aload_n (j := 0) dX5_removeTrip_42 rfl rfl ?_
      refine j_getR (q := (y0 + 3)) FX5_20 rfl dX5_removeTrip_43 hy0.1 hy0.2.1 hy0.2.2 (lay5 hy0 (by decide)) (by omega) ?_
      refine j_iload_n (j := 1) dX5_removeTrip_46 rfl rfl ?_
      obtain ⟨c23, h⟩ := chk_elim h
      have v24 : VK 3 (y0 + 6 + x1.toNat) := (VK.o hy0 c23)
      refine j_aald (q := (y0 + 6 + x1.toNat)) hx1 (by decide) (by decide) (by decide) (by decide) dX5_removeTrip_47 (VK.f3 hy0).1 (VK.f3 hy0).2.1 (VK.f3 hy0).2.2 c23 (lay13 hy0 c23) (by omega) ?_
      obtain ⟨p26, e25, h⟩ := obind_elim h
      refine j_callV MX5_180 YX3_setOpen IX3_setOpen SX3_setOpen (by decide) rfl (by decide) (by omega) (Nat.le_of_ble_eq_true rfl) rfl (ctX3_setOpen (d := d - 1) hl (by omega) v24 e25) dX5_removeTrip_48 v24.1 v24.lt v24.ka rfl (fun z27 xt28 => ?_)
      cases h
      exact j_vret dX5_removeTrip_51 rfl rfl trivial
theorem ctX5_removeTrip {g : JG} {l : Launch} {d N : Nat} {A : AH} {out : AH} {y0 : Nat} {x1 : Int} (hl : l.stackTraces = false) (hd : 2 ≤ d) (hy0 : VK 5 y0) (hx1 : inR x1) (h : fX5_removeTrip N A y0 x1 = some out) : CT g l yX5_removeTrip cX5_removeTrip 2 none d [.ref (gB g + y0), vI x1] A ((0, none, out) : JO) (True) :=
  CT_of (by decide +kernel) hl (by first | exact Nat.le_of_ble_eq_true rfl | (unfold rv; split <;> exact Nat.le_of_ble_eq_true rfl)) (by first | rfl | (unfold rv; split <;> rfl)) (j_sub (lv := [(0, .ref (gB g + y0)), (1, vI x1)]) [0, 1] rfl (tX5_removeTrip_0 hl hd hy0 hx1 h))
set_option maxRecDepth 100000 in
theorem tX5_isRider_0 {g : JG} {l : Launch} {d N n0 s0 : Nat} {out : Int} {A : AH} {x0 : Int} {x1 : Int} (hl : l.stackTraces = false) (hd : 1 ≤ d) (hx0 : inR x0) (hx1 : inR x1) (h : fX5_isRider N A x0 x1 = some out) : J g l d RX5 "isRider" cX5_isRider 2 (some .boolean) n0 s0 ((0, some (vI out), A) : JO) ((out = 0 ∨ out = 1)) 0 [(0, vI x0), (1, vI x1)] [] A := by
  unfold fX5_isRider at h
  refine j_iload_n (j := 0) dX5_isRider_0 rfl rfl ?_
  refine j_iload_n (j := 1) dX5_isRider_1 rfl rfl ?_
  refine j_ishr dX5_isRider_2 ?_
  refine j_iconst dX5_isRider_3 ?_
  refine j_iand dX5_isRider_4 ?_
  by_cases c1 : (iAnd (iShr x0 x1) 1) = 0
  · rw [if_pos c1] at h
    refine j_if_eq_t (iAnd_inR _ _) dX5_isRider_5 (tgt := 12) (by decide) c1 ?_
    refine j_iconst dX5_isRider_12 ?_
    cases h
    exact j_iret dX5_isRider_13 rfl ((nar_bool (Or.inl rfl)).1) rfl (Or.inl rfl)
  · rw [if_neg c1] at h
    refine j_if_eq_f (iAnd_inR _ _) dX5_isRider_5 (tgt := 12) (by decide) c1 ?_
    refine j_iconst dX5_isRider_8 ?_
    refine j_goto (tgt := 13) dX5_isRider_9 (by decide) ?_
    cases h
    exact j_iret dX5_isRider_13 rfl ((nar_bool (Or.inr rfl)).1) rfl (Or.inr rfl)
theorem ctX5_isRider {g : JG} {l : Launch} {d N : Nat} {A : AH} {out : Int} {x0 : Int} {x1 : Int} (hl : l.stackTraces = false) (hd : 1 ≤ d) (hx0 : inR x0) (hx1 : inR x1) (h : fX5_isRider N A x0 x1 = some out) : CT g l yX5_isRider cX5_isRider 2 (some .boolean) d [vI x0, vI x1] A ((0, some (vI out), A) : JO) ((out = 0 ∨ out = 1)) :=
  CT_of (by decide +kernel) hl (by first | exact Nat.le_of_ble_eq_true rfl | (unfold rv; split <;> exact Nat.le_of_ble_eq_true rfl)) (by first | rfl | (unfold rv; split <;> rfl)) (j_sub (lv := [(0, vI x0), (1, vI x1)]) [0, 1] rfl (tX5_isRider_0 hl hd hx0 hx1 h))
set_option maxRecDepth 100000 in
theorem tX5_reasonAgainstRun_82 {g : JG} {l : Launch} {d N n0 s0 : Nat} {out : Int} {A : AH} {y0 : Nat} {y1 : Nat} {x3 : Int} (hl : l.stackTraces = false) (hd : 2 ≤ d) (hy0 : VK 5 y0) (hy1 : VK 0 y1) (hx3 : inR x3) : ∀ (n : Nat) (x4 : Int), inR x4 → fX5_reasonAgainstRun_82 N A y0 y1 x3 n x4 = some out → J g l d RX5 "reasonAgainstRun" cX5_reasonAgainstRun 5 (some .int) n0 s0 ((0, some (vI out), A) : JO) (inR out) 82 [(0, .ref (gB g + y0)), (1, .ref (gB g + y1)), (3, vI x3), (4, vI x4)] [] A := by
  intro n
  induction n with
  | zero =>
    intro x4 hx4 h
    rw [fX5_reasonAgainstRun_82] at h
    cases h
  | succ n ih =>
    intro x4 hx4 h
    rw [fX5_reasonAgainstRun_82] at h
    refine j_iload (j := 3) dX5_reasonAgainstRun_82 rfl ?_
    refine j_aload_n (j := 0) dX5_reasonAgainstRun_84 rfl rfl ?_
    refine j_getI FX5_58 rfl dX5_reasonAgainstRun_85 hy0.1 hy0.lt hy0.ka (fun r1 => ?_)
    by_cases c2 : (gI A y0 7) ≤ x4
    · rw [if_pos c2] at h
      refine j_icmp_ge_t hx4 r1 dX5_reasonAgainstRun_88 (tgt := 126) (by decide) c2 ?_
      refine j_iconst dX5_reasonAgainstRun_126 ?_
      cases h
      exact j_iret dX5_reasonAgainstRun_127 rfl rfl rfl (inR_lit _ rfl)
    · rw [if_neg c2] at h
      refine j_icmp_ge_f hx4 r1 dX5_reasonAgainstRun_88 (tgt := 126) (by decide) c2 ?_
      refine j_iload_n (j := 2) dX5_reasonAgainstRun_91 rfl rfl ?_
      refine j_iload (j := 3) dX5_reasonAgainstRun_92 rfl ?_
      obtain ⟨z4, e3, h⟩ := obind_elim h
      refine j_callS MX5_193 YX5_isRider IX5_isRider (by decide) (by omega) (Nat.le_of_ble_eq_true rfl) rfl (ctX5_isRider (d := d - 1) hl (by omega) hx3 hx4 e3) dX5_reasonAgainstRun_94 rfl (fun z5 _ => ?_)
      by_cases c7 : z4 = 0
      · rw [if_pos c7] at h
        refine j_if_eq_t (bool_inR z5) dX5_reasonAgainstRun_97 (tgt := 120) (by decide) c7 ?_
        obtain ⟨u8, eu8, h⟩ := bnd_elim h
        have hu8 : inR u8 := by rw [eu8]; exact wrap_inR _
        refine j_iincN (k := 3) (lv' := [(4, vI u8), (0, .ref (gB g + y0)), (1, .ref (gB g + y1)), (3, vI x3)]) eu8 dX5_reasonAgainstRun_120 rfl (by decide) (by first | rfl | (simp only [List.all_cons, List.all_nil, rv_cat]; rfl)) rfl ?_
        refine j_goto (tgt := 82) dX5_reasonAgainstRun_123 (by decide) ?_
        exact j_sub [1, 2, 3, 0] rfl (ih u8 hu8 h)
      · rw [if_neg c7] at h
        refine j_if_eq_f (bool_inR z5) dX5_reasonAgainstRun_97 (tgt := 120) (by decide) c7 ?_
        refine j_aload_n (j := 0) dX5_reasonAgainstRun_100 rfl rfl ?_
        refine j_getR (q := (y0 + 4)) FX5_26 rfl dX5_reasonAgainstRun_101 hy0.1 hy0.2.1 hy0.2.2 (lay5 hy0 (by decide)) (by omega) ?_
        refine j_iload (j := 3) dX5_reasonAgainstRun_104 rfl ?_
        obtain ⟨c9, h⟩ := chk_elim h
        have v10 : VK 4 (y0 + 22 + x4.toNat) := (VK.p hy0 c9)
        refine j_aald (q := (y0 + 22 + x4.toNat)) hx4 (by decide) (by decide) (by decide) (by decide) dX5_reasonAgainstRun_106 (VK.f4 hy0).1 (VK.f4 hy0).2.1 (VK.f4 hy0).2.2 c9 (lay14 hy0 c9) (by omega) ?_
        obtain ⟨z12, e11, h⟩ := obind_elim h
        refine j_callV MX5_140 YX4_lastGoal IX4_lastGoal SX4_lastGoal (by decide) rfl (by decide) (by omega) (Nat.le_of_ble_eq_true rfl) rfl (ctX4_lastGoal (d := d - 1) hl (by omega) v10 e11) dX5_reasonAgainstRun_107 v10.1 v10.lt v10.ka rfl (fun z13 _ => ?_)
        refine j_aload_n (j := 1) dX5_reasonAgainstRun_110 rfl rfl ?_
        refine j_getI FX5_197 rfl dX5_reasonAgainstRun_111 hy1.1 hy1.lt hy1.ka (fun r15 => ?_)
        by_cases c16 : z12 = (gI A y1 2)
        · rw [if_pos c16] at h
          refine j_icmp_eq_t z13 r15 dX5_reasonAgainstRun_114 (tgt := 120) (by decide) c16 ?_
          obtain ⟨u17, eu17, h⟩ := bnd_elim h
          have hu17 : inR u17 := by rw [eu17]; exact wrap_inR _
          refine j_iincN (k := 3) (lv' := [(4, vI u17), (0, .ref (gB g + y0)), (1, .ref (gB g + y1)), (3, vI x3)]) eu17 dX5_reasonAgainstRun_120 rfl (by decide) (by first | rfl | (simp only [List.all_cons, List.all_nil, rv_cat]; rfl)) rfl ?_
          refine j_goto (tgt := 82) dX5_reasonAgainstRun_123 (by decide) ?_
          exact j_sub [1, 2, 3, 0] rfl (ih u17 hu17 h)
        · rw [if_neg c16] at h
          refine j_icmp_eq_f z13 r15 dX5_reasonAgainstRun_114 (tgt := 120) (by decide) c16 ?_
          refine j_bipush dX5_reasonAgainstRun_117 rfl ?_
          cases h
          exact j_iret dX5_reasonAgainstRun_119 rfl rfl rfl (inR_lit _ rfl)
set_option maxRecDepth 100000 in
theorem tX5_reasonAgainstRun_38 {g : JG} {l : Launch} {d N n0 s0 : Nat} {out : Int} {A : AH} {y0 : Nat} {y1 : Nat} {x2 : Int} {x3 : Int} (hl : l.stackTraces = false) (hd : 2 ≤ d) (hy0 : VK 5 y0) (hy1 : VK 0 y1) (hx2 : inR x2) (hx3 : inR x3) : ∀ (n : Nat) (x4 : Int), inR x4 → fX5_reasonAgainstRun_38 N A y0 y1 x2 x3 n x4 = some out → J g l d RX5 "reasonAgainstRun" cX5_reasonAgainstRun 5 (some .int) n0 s0 ((0, some (vI out), A) : JO) (inR out) 38 [(0, .ref (gB g + y0)), (1, .ref (gB g + y1)), (2, vI x2), (3, vI x3), (4, vI x4)] [] A := by
  intro n
  induction n with
  | zero =>
    intro x4 hx4 h
    rw [fX5_reasonAgainstRun_38] at h
    cases h
  | succ n ih =>
    intro x4 hx4 h
    rw [fX5_reasonAgainstRun_38] at h
    refine j_iload (j := 4) dX5_reasonAgainstRun_38 rfl ?_
    refine j_aload_n (j := 0) dX5_reasonAgainstRun_40 rfl rfl ?_
    refine j_getI FX5_58 rfl dX5_reasonAgainstRun_41 hy0.1 hy0.lt hy0.ka (fun r1 => ?_)
    by_cases c2 : (gI A y0 7) ≤ x4
    · rw [if_pos c2] at h
      refine j_icmp_ge_t hx4 r1 dX5_reasonAgainstRun_44 (tgt := 79) (by decide) c2 ?_
      refine j_iconst dX5_reasonAgainstRun_79 ?_
      refine j_istore (lv' := [(4, vI 0), (0, .ref (gB g + y0)), (1, .ref (gB g + y1)), (2, vI x2), (3, vI x3)]) dX5_reasonAgainstRun_80 (by decide) (by first | rfl | (simp only [List.all_cons, List.all_nil, rv_cat]; rfl)) rfl ?_
      exact j_sub [1, 2, 4, 0] rfl (tX5_reasonAgainstRun_82 hl (by omega) hy0 hy1 hx3  N 0 (inR_lit _ rfl) h)
    · rw [if_neg c2] at h
      refine j_icmp_ge_f hx4 r1 dX5_reasonAgainstRun_44 (tgt := 79) (by decide) c2 ?_
      refine j_iload_n (j := 3) dX5_reasonAgainstRun_47 rfl rfl ?_
      refine j_iload (j := 4) dX5_reasonAgainstRun_48 rfl ?_
      obtain ⟨z4, e3, h⟩ := obind_elim h
      refine j_callS MX5_193 YX5_isRider IX5_isRider (by decide) (by omega) (Nat.le_of_ble_eq_true rfl) rfl (ctX5_isRider (d := d - 1) hl (by omega) hx3 hx4 e3) dX5_reasonAgainstRun_50 rfl (fun z5 _ => ?_)
      by_cases c7 : z4 = 0
      · rw [if_pos c7] at h
        refine j_if_eq_t (bool_inR z5) dX5_reasonAgainstRun_53 (tgt := 73) (by decide) c7 ?_
        obtain ⟨u8, eu8, h⟩ := bnd_elim h
        have hu8 : inR u8 := by rw [eu8]; exact wrap_inR _
        refine j_iincN (k := 4) (lv' := [(4, vI u8), (0, .ref (gB g + y0)), (1, .ref (gB g + y1)), (2, vI x2), (3, vI x3)]) eu8 dX5_reasonAgainstRun_73 rfl (by decide) (by first | rfl | (simp only [List.all_cons, List.all_nil, rv_cat]; rfl)) rfl ?_
        refine j_goto (tgt := 38) dX5_reasonAgainstRun_76 (by decide) ?_
        exact j_sub [1, 2, 3, 4, 0] rfl (ih u8 hu8 h)
      · rw [if_neg c7] at h
        refine j_if_eq_f (bool_inR z5) dX5_reasonAgainstRun_53 (tgt := 73) (by decide) c7 ?_
        refine j_iload_n (j := 2) dX5_reasonAgainstRun_56 rfl rfl ?_
        refine j_aload_n (j := 0) dX5_reasonAgainstRun_57 rfl rfl ?_
        refine j_getR (q := (y0 + 4)) FX5_26 rfl dX5_reasonAgainstRun_58 hy0.1 hy0.2.1 hy0.2.2 (lay5 hy0 (by decide)) (by omega) ?_
        refine j_iload (j := 4) dX5_reasonAgainstRun_61 rfl ?_
        obtain ⟨c9, h⟩ := chk_elim h
        have v10 : VK 4 (y0 + 22 + x4.toNat) := (VK.p hy0 c9)
        refine j_aald (q := (y0 + 22 + x4.toNat)) hx4 (by decide) (by decide) (by decide) (by decide) dX5_reasonAgainstRun_63 (VK.f4 hy0).1 (VK.f4 hy0).2.1 (VK.f4 hy0).2.2 c9 (lay14 hy0 c9) (by omega) ?_
        obtain ⟨z12, e11, h⟩ := obind_elim h
        refine j_callV MX5_137 YX4_freeFrom IX4_freeFrom SX4_freeFrom (by decide) rfl (by decide) (by omega) (Nat.le_of_ble_eq_true rfl) rfl (ctX4_freeFrom (d := d - 1) hl (by omega) v10 e11) dX5_reasonAgainstRun_64 v10.1 v10.lt v10.ka rfl (fun z13 _ => ?_)
        by_cases c15 : z12 ≤ x2
        · rw [if_pos c15] at h
          refine j_icmp_ge_t hx2 z13 dX5_reasonAgainstRun_67 (tgt := 73) (by decide) c15 ?_
          obtain ⟨u16, eu16, h⟩ := bnd_elim h
          have hu16 : inR u16 := by rw [eu16]; exact wrap_inR _
          refine j_iincN (k := 4) (lv' := [(4, vI u16), (0, .ref (gB g + y0)), (1, .ref (gB g + y1)), (2, vI x2), (3, vI x3)]) eu16 dX5_reasonAgainstRun_73 rfl (by decide) (by first | rfl | (simp only [List.all_cons, List.all_nil, rv_cat]; rfl)) rfl ?_
          refine j_goto (tgt := 38) dX5_reasonAgainstRun_76 (by decide) ?_
          exact j_sub [1, 2, 3, 4, 0] rfl (ih u16 hu16 h)
        · rw [if_neg c15] at h
          refine j_icmp_ge_f hx2 z13 dX5_reasonAgainstRun_67 (tgt := 73) (by decide) c15 ?_
          refine j_bipush dX5_reasonAgainstRun_70 rfl ?_
          cases h
          exact j_iret dX5_reasonAgainstRun_72 rfl rfl rfl (inR_lit _ rfl)
set_option maxRecDepth 100000 in
theorem tX5_reasonAgainstRun_0 {g : JG} {l : Launch} {d N n0 s0 : Nat} {out : Int} {A : AH} {y0 : Nat} {y1 : Nat} {x2 : Int} {x3 : Int} (hl : l.stackTraces = false) (hd : 2 ≤ d) (hy0 : VK 5 y0) (hy1 : VK 0 y1) (hx2 : inR x2) (hx3 : inR x3) (h : fX5_reasonAgainstRun N A y0 y1 x2 x3 = some out) : J g l d RX5 "reasonAgainstRun" cX5_reasonAgainstRun 5 (some .int) n0 s0 ((0, some (vI out), A) : JO) (inR out) 0 [(0, .ref (gB g + y0)), (1, .ref (gB g + y1)), (2, vI x2), (3, vI x3)] [] A := by
  unfold fX5_reasonAgainstRun at h
  refine j_iload_n (j := 2) dX5_reasonAgainstRun_0 rfl rfl ?_
  refine j_aload_n (j := 0) dX5_reasonAgainstRun_1 rfl rfl ?_
  refine j_getI FX5_51 rfl dX5_reasonAgainstRun_2 hy0.1 hy0.lt hy0.ka (fun r1 => ?_)
  by_cases c2 : (gI A y0 5) ≤ x2
  · rw [if_pos c2] at h
    refine j_icmp_ge_t hx2 r1 dX5_reasonAgainstRun_5 (tgt := 10) (by decide) c2 ?_
    refine j_iload_n (j := 2) dX5_reasonAgainstRun_10 rfl rfl ?_
    refine j_aload_n (j := 1) dX5_reasonAgainstRun_11 rfl rfl ?_
    refine j_getI FX5_183 rfl dX5_reasonAgainstRun_12 hy1.1 hy1.lt hy1.ka (fun r3 => ?_)
    by_cases c4 : (gI A y1 3) ≤ x2
    · rw [if_pos c4] at h
      refine j_icmp_ge_t hx2 r3 dX5_reasonAgainstRun_15 (tgt := 21) (by decide) c4 ?_
      refine j_iload_n (j := 3) dX5_reasonAgainstRun_21 rfl rfl ?_
      obtain ⟨z6, e5, h⟩ := obind_elim h
      refine j_callS MX5_185 YJ6_bitCount_0f7a4 IJ6_bitCount_0f7a4 (by decide) (by omega) (Nat.le_of_ble_eq_true rfl) rfl (ctJ6_bitCount_0f7a4 (d := d - 1) hl (by omega) hx3 e5) dX5_reasonAgainstRun_22 rfl (fun z7 _ => ?_)
      refine j_aload_n (j := 1) dX5_reasonAgainstRun_25 rfl rfl ?_
      refine j_getI FX5_190 rfl dX5_reasonAgainstRun_26 hy1.1 hy1.lt hy1.ka (fun r9 => ?_)
      by_cases c10 : z6 ≤ (gI A y1 0)
      · rw [if_pos c10] at h
        refine j_icmp_le_t z7 r9 dX5_reasonAgainstRun_29 (tgt := 35) (by decide) c10 ?_
        refine j_iconst dX5_reasonAgainstRun_35 ?_
        refine j_istore (lv' := [(4, vI 0), (0, .ref (gB g + y0)), (1, .ref (gB g + y1)), (2, vI x2), (3, vI x3)]) dX5_reasonAgainstRun_36 (by decide) (by first | rfl | (simp only [List.all_cons, List.all_nil, rv_cat]; rfl)) rfl ?_
        exact j_sub [1, 2, 3, 4, 0] rfl (tX5_reasonAgainstRun_38 hl (by omega) hy0 hy1 hx2 hx3  N 0 (inR_lit _ rfl) h)
      · rw [if_neg c10] at h
        refine j_icmp_le_f z7 r9 dX5_reasonAgainstRun_29 (tgt := 35) (by decide) c10 ?_
        refine j_bipush dX5_reasonAgainstRun_32 rfl ?_
        cases h
        exact j_iret dX5_reasonAgainstRun_34 rfl rfl rfl (inR_lit _ rfl)
    · rw [if_neg c4] at h
      refine j_icmp_ge_f hx2 r3 dX5_reasonAgainstRun_15 (tgt := 21) (by decide) c4 ?_
      refine j_bipush dX5_reasonAgainstRun_18 rfl ?_
      cases h
      exact j_iret dX5_reasonAgainstRun_20 rfl rfl rfl (inR_lit _ rfl)
  · rw [if_neg c2] at h
    refine j_icmp_ge_f hx2 r1 dX5_reasonAgainstRun_5 (tgt := 10) (by decide) c2 ?_
    refine j_iconst dX5_reasonAgainstRun_8 ?_
    cases h
    exact j_iret dX5_reasonAgainstRun_9 rfl rfl rfl (inR_lit _ rfl)
theorem ctX5_reasonAgainstRun {g : JG} {l : Launch} {d N : Nat} {A : AH} {out : Int} {y0 : Nat} {y1 : Nat} {x2 : Int} {x3 : Int} (hl : l.stackTraces = false) (hd : 2 ≤ d) (hy0 : VK 5 y0) (hy1 : VK 0 y1) (hx2 : inR x2) (hx3 : inR x3) (h : fX5_reasonAgainstRun N A y0 y1 x2 x3 = some out) : CT g l yX5_reasonAgainstRun cX5_reasonAgainstRun 5 (some .int) d [.ref (gB g + y0), .ref (gB g + y1), vI x2, vI x3] A ((0, some (vI out), A) : JO) (inR out) :=
  CT_of (by decide +kernel) hl (by first | exact Nat.le_of_ble_eq_true rfl | (unfold rv; split <;> exact Nat.le_of_ble_eq_true rfl)) (by first | rfl | (unfold rv; split <;> rfl)) (j_sub (lv := [(0, .ref (gB g + y0)), (1, .ref (gB g + y1)), (2, vI x2), (3, vI x3)]) [0, 1, 2, 3] rfl (tX5_reasonAgainstRun_0 hl hd hy0 hy1 hx2 hx3 h))
set_option maxRecDepth 100000 in
theorem tX5_addRun_30 {g : JG} {l : Launch} {d N n0 s0 : Nat} {out : AH} {y0 : Nat} {x1 : Int} {x2 : Int} {x3 : Int} {y4 : Nat} {x5 : Int} (hl : l.stackTraces = false) (hd : 4 ≤ d) (hy0 : VK 5 y0) (hx1 : inR x1) (hx2 : inR x2) (hx3 : inR x3) (hy4 : VK 0 y4) (hx5 : inR x5) : ∀ (n : Nat) (A : AH) (x6 : Int), inR x6 → fX5_addRun_30 N y0 x1 x2 x3 y4 x5 n A x6 = some out → J g l d RX5 "addRun" cX5_addRun 7 none n0 s0 ((0, none, out) : JO) (True) 30 [(0, .ref (gB g + y0)), (1, vI x1), (2, vI x2), (3, vI x3), (4, .ref (gB g + y4)), (5, vI x5), (6, vI x6)] [] A := by
  intro n
  induction n with
  | zero =>
    intro A x6 hx6 h
    rw [fX5_addRun_30] at h
    cases h
  | succ n ih =>
    intro A x6 hx6 h
    rw [fX5_addRun_30] at h
    refine j_iload (j := 6) dX5_addRun_30 rfl ?_
    refine j_aload_n (j := 0) dX5_addRun_32 rfl rfl ?_
    refine j_getI FX5_58 rfl dX5_addRun_33 hy0.1 hy0.lt hy0.ka (fun r1 => ?_)
    by_cases c2 : (gI A y0 7) ≤ x6
    · rw [if_pos c2] at h
      refine j_icmp_ge_t hx6 r1 dX5_addRun_36 (tgt := 85) (by decide) c2 ?_
      refine j_aload (j := 4) dX5_addRun_85 rfl ?_
      refine j_aload (j := 4) dX5_addRun_87 rfl ?_
      obtain ⟨z4, e3, h⟩ := obind_elim h
      refine j_callV MX5_203 YX0_goal IX0_goal SX0_goal (by decide) rfl (by decide) (by omega) (Nat.le_of_ble_eq_true rfl) rfl (ctX0_goal (d := d - 1) hl (by omega) hy4 e3) dX5_addRun_89 hy4.1 hy4.lt hy4.ka rfl (fun z5 _ => ?_)
      obtain ⟨A7, eA7, h⟩ := bnd_elim h
      have xA7 : XT A A7 := by rw [eA7]; exact XT_sI _ _ _ _
      refine j_putI FX5_197 rfl rfl rfl z5 dX5_addRun_92 hy4.1 hy4.lt hy4.ka ?_
      refine j_hB eA7 ?_
      refine j_aload (j := 4) dX5_addRun_95 rfl ?_
      refine j_iload (j := 5) dX5_addRun_97 rfl ?_
      obtain ⟨A8, eA8, h⟩ := bnd_elim h
      have xA8 : XT A7 A8 := by rw [eA8]; exact XT_sI _ _ _ _
      refine j_putI FX5_183 rfl rfl rfl hx5 dX5_addRun_99 hy4.1 hy4.lt hy4.ka ?_
      refine j_hB eA8 ?_
      refine j_aload (j := 4) dX5_addRun_102 rfl ?_
      refine j_dup dX5_addRun_104 rfl ?_
      refine j_getI FX5_207 rfl dX5_addRun_105 hy4.1 hy4.lt hy4.ka (fun r9 => ?_)
      refine j_iconst dX5_addRun_108 ?_
      refine j_iadd dX5_addRun_109 ?_
      obtain ⟨A10, eA10, h⟩ := bnd_elim h
      have xA10 : XT A8 A10 := by rw [eA10]; exact XT_sI _ _ _ _
      refine j_putI FX5_207 rfl rfl rfl (wrap_inR _) dX5_addRun_110 hy4.1 hy4.lt hy4.ka ?_
      refine j_hB eA10 ?_
      cases h
      exact j_vret dX5_addRun_113 rfl rfl trivial
    · rw [if_neg c2] at h
      refine j_icmp_ge_f hx6 r1 dX5_addRun_36 (tgt := 85) (by decide) c2 ?_
      refine j_iload_n (j := 3) dX5_addRun_39 rfl rfl ?_
      refine j_iload (j := 6) dX5_addRun_40 rfl ?_
      obtain ⟨z12, e11, h⟩ := obind_elim h
      refine j_callS MX5_193 YX5_isRider IX5_isRider (by decide) (by omega) (Nat.le_of_ble_eq_true rfl) rfl (ctX5_isRider (d := d - 1) hl (by omega) hx3 hx6 e11) dX5_addRun_42 rfl (fun z13 _ => ?_)
      by_cases c15 : z12 = 0
      · rw [if_pos c15] at h
        refine j_if_eq_t (bool_inR z13) dX5_addRun_45 (tgt := 79) (by decide) c15 ?_
        obtain ⟨u16, eu16, h⟩ := bnd_elim h
        have hu16 : inR u16 := by rw [eu16]; exact wrap_inR _
        refine j_iincN (k := 6) (lv' := [(6, vI u16), (0, .ref (gB g + y0)), (1, vI x1), (2, vI x2), (3, vI x3), (4, .ref (gB g + y4)), (5, vI x5)]) eu16 dX5_addRun_79 rfl (by decide) (by first | rfl | (simp only [List.all_cons, List.all_nil, rv_cat]; rfl)) rfl ?_
        refine j_goto (tgt := 30) dX5_addRun_82 (by decide) ?_
        exact j_sub [1, 2, 3, 4, 5, 6, 0] rfl (ih A u16 hu16 h)
      · rw [if_neg c15] at h
        refine j_if_eq_f (bool_inR z13) dX5_addRun_45 (tgt := 79) (by decide) c15 ?_
        refine j_aload_n (j := 0) dX5_addRun_48 rfl rfl ?_
        refine j_getR (q := (y0 + 4)) FX5_26 rfl dX5_addRun_49 hy0.1 hy0.2.1 hy0.2.2 (lay5 hy0 (by decide)) (by omega) ?_
        refine j_iload (j := 6) dX5_addRun_52 rfl ?_
        obtain ⟨c17, h⟩ := chk_elim h
        have v18 : VK 4 (y0 + 22 + x6.toNat) := (VK.p hy0 c17)
        refine j_aald (q := (y0 + 22 + x6.toNat)) hx6 (by decide) (by decide) (by decide) (by decide) dX5_addRun_54 (VK.f4 hy0).1 (VK.f4 hy0).2.1 (VK.f4 hy0).2.2 c17 (lay14 hy0 c17) (by omega) ?_
        refine j_iconst dX5_addRun_55 ?_
        refine j_iload_n (j := 1) dX5_addRun_56 rfl rfl ?_
        refine j_iload_n (j := 2) dX5_addRun_57 rfl rfl ?_
        refine j_iload (j := 5) dX5_addRun_58 rfl ?_
        refine j_aload (j := 4) dX5_addRun_60 rfl ?_
        obtain ⟨z20, e19, h⟩ := obind_elim h
        refine j_callV MX5_203 YX0_goal IX0_goal SX0_goal (by decide) rfl (by decide) (by omega) (Nat.le_of_ble_eq_true rfl) rfl (ctX0_goal (d := d - 1) hl (by omega) hy4 e19) dX5_addRun_62 hy4.1 hy4.lt hy4.ka rfl (fun z21 _ => ?_)
        obtain ⟨p24, e23, h⟩ := obind_elim h
        refine j_callV MX5_165 YX4_add IX4_add SX4_add (by decide) rfl (by decide) (by omega) (Nat.le_of_ble_eq_true rfl) rfl (ctX4_add (d := d - 1) hl (by omega) v18 (inR_lit _ rfl) hx1 hx2 hx5 z21 e23) dX5_addRun_65 v18.1 v18.lt v18.ka rfl (fun z25 xt26 => ?_)
        refine j_aload (j := 4) dX5_addRun_68 rfl ?_
        refine j_dup dX5_addRun_70 rfl ?_
        refine j_getI FX5_204 rfl dX5_addRun_71 hy4.1 hy4.lt hy4.ka (fun r27 => ?_)
        refine j_iconst dX5_addRun_74 ?_
        refine j_iadd dX5_addRun_75 ?_
        obtain ⟨A28, eA28, h⟩ := bnd_elim h
        have xA28 : XT p24 A28 := by rw [eA28]; exact XT_sI _ _ _ _
        refine j_putI FX5_204 rfl rfl rfl (wrap_inR _) dX5_addRun_76 hy4.1 hy4.lt hy4.ka ?_
        refine j_hB eA28 ?_
        obtain ⟨u29, eu29, h⟩ := bnd_elim h
        have hu29 : inR u29 := by rw [eu29]; exact wrap_inR _
        refine j_iincN (k := 6) (lv' := [(6, vI u29), (0, .ref (gB g + y0)), (1, vI x1), (2, vI x2), (3, vI x3), (4, .ref (gB g + y4)), (5, vI x5)]) eu29 dX5_addRun_79 rfl (by decide) (by first | rfl | (simp only [List.all_cons, List.all_nil, rv_cat]; rfl)) rfl ?_
        refine j_goto (tgt := 30) dX5_addRun_82 (by decide) ?_
        exact j_sub [1, 2, 3, 4, 5, 6, 0] rfl (ih A28 u29 hu29 h)
set_option maxRecDepth 100000 in
theorem tX5_addRun_0 {g : JG} {l : Launch} {d N n0 s0 : Nat} {out : AH} {A : AH} {y0 : Nat} {x1 : Int} {x2 : Int} {x3 : Int} (hl : l.stackTraces = false) (hd : 4 ≤ d) (hy0 : VK 5 y0) (hx1 : inR x1) (hx2 : inR x2) (hx3 : inR x3) (h : fX5_addRun N A y0 x1 x2 x3 = some out) : J g l d RX5 "addRun" cX5_addRun 7 none n0 s0 ((0, none, out) : JO) (True) 0 [(0, .ref (gB g + y0)), (1, vI x1), (2, vI x2), (3, vI x3)] [] A := by
  unfold fX5_addRun at h
  refine j_aload_n (j := 0) dX5_addRun_0 rfl rfl ?_
  refine j_iload_n (j := 1) dX5_addRun_1 rfl rfl ?_
  obtain ⟨z2, e1, h⟩ := obind_elim h
  refine j_callV MX5_200 YX5_hasBoat IX5_hasBoat SX5_hasBoat (by decide) rfl (by decide) (by omega) (Nat.le_of_ble_eq_true rfl) rfl (ctX5_hasBoat (d := d - 1) hl (by omega) hy0 hx1 e1) dX5_addRun_2 hy0.1 hy0.lt hy0.ka rfl (fun z3 _ => ?_)
  by_cases c5 : z2 = 0
  · rw [if_pos c5] at h
    refine j_if_ne_f (bool_inR z3) dX5_addRun_5 (tgt := 9) (by decide) (fun q => q c5) ?_
    cases h
    exact j_vret dX5_addRun_8 rfl rfl trivial
  · rw [if_neg c5] at h
    refine j_if_ne_t (bool_inR z3) dX5_addRun_5 (tgt := 9) (by decide) c5 ?_
    refine j_aload_n (j := 0) dX5_addRun_9 rfl rfl ?_
    refine j_getR (q := (y0 + 5)) FX5_32 rfl dX5_addRun_10 hy0.1 hy0.2.1 hy0.2.2 (lay5 hy0 (by decide)) (by omega) ?_
    refine j_iload_n (j := 1) dX5_addRun_13 rfl rfl ?_
    obtain ⟨c6, h⟩ := chk_elim h
    have v7 : VK 0 (y0 + 28 + x1.toNat) := (VK.b hy0 c6)
    refine j_aald (q := (y0 + 28 + x1.toNat)) hx1 (by decide) (by decide) (by decide) (by decide) dX5_addRun_14 (VK.f5 hy0).1 (VK.f5 hy0).2.1 (VK.f5 hy0).2.2 c6 (lay15 hy0 c6) (by omega) ?_
    refine j_astore (lv' := [(4, .ref (gB g + (y0 + 28 + x1.toNat))), (0, .ref (gB g + y0)), (1, vI x1), (2, vI x2), (3, vI x3)]) dX5_addRun_15 (by decide) (by first | rfl | (simp only [List.all_cons, List.all_nil, rv_cat]; rfl)) rfl ?_
    refine j_iload_n (j := 3) dX5_addRun_17 rfl rfl ?_
    refine j_aload_n (j := 1) dX5_addRun_18 rfl rfl ?_
    refine j_getR (q := (y0 + 1)) FX5_9 rfl dX5_addRun_19 hy0.1 hy0.2.1 hy0.2.2 (lay5 hy0 (by decide)) (by omega) ?_
    refine j_iconst dX5_addRun_22 ?_
    refine j_iald (inR_lit _ rfl) (by decide) (by decide) rfl dX5_addRun_23 (VK.f1 hy0).1 (VK.f1 hy0).lt (VK.f1 hy0).ka (by decide) (fun r8 => ?_)
    refine j_iadd dX5_addRun_24 ?_
    obtain ⟨u9, eu9, h⟩ := bnd_elim h
    have hu9 : inR u9 := by rw [eu9]; exact (wrap_inR _)
    refine j_nm eu9 ?_
    refine j_istore (lv' := [(5, vI u9), (4, .ref (gB g + (y0 + 28 + x1.toNat))), (0, .ref (gB g + y0)), (1, vI x1), (2, vI x2), (3, vI x3)]) dX5_addRun_25 (by decide) (by first | rfl | (simp only [List.all_cons, List.all_nil, rv_cat]; rfl)) rfl ?_
    refine j_iconst dX5_addRun_27 ?_
    refine j_istore (lv' := [(6, vI 0), (5, vI u9), (4, .ref (gB g + (y0 + 28 + x1.toNat))), (0, .ref (gB g + y0)), (1, vI x1), (2, vI x2), (3, vI x3)]) dX5_addRun_28 (by decide) (by first | rfl | (simp only [List.all_cons, List.all_nil, rv_cat]; rfl)) rfl ?_
    exact j_sub [3, 4, 5, 6, 2, 1, 0] rfl (tX5_addRun_30 hl (by omega) hy0 hx1 hx2 hx3 v7 hu9  N A 0 (inR_lit _ rfl) h)
theorem ctX5_addRun {g : JG} {l : Launch} {d N : Nat} {A : AH} {out : AH} {y0 : Nat} {x1 : Int} {x2 : Int} {x3 : Int} (hl : l.stackTraces = false) (hd : 4 ≤ d) (hy0 : VK 5 y0) (hx1 : inR x1) (hx2 : inR x2) (hx3 : inR x3) (h : fX5_addRun N A y0 x1 x2 x3 = some out) : CT g l yX5_addRun cX5_addRun 7 none d [.ref (gB g + y0), vI x1, vI x2, vI x3] A ((0, none, out) : JO) (True) :=
  CT_of (by decide +kernel) hl (by first | exact Nat.le_of_ble_eq_true rfl | (unfold rv; split <;> exact Nat.le_of_ble_eq_true rfl)) (by first | rfl | (unfold rv; split <;> rfl)) (j_sub (lv := [(0, .ref (gB g + y0)), (1, vI x1), (2, vI x2), (3, vI x3)]) [0, 1, 2, 3] rfl (tX5_addRun_0 hl hd hy0 hx1 hx2 hx3 h))
set_option maxRecDepth 100000 in
theorem tX5_fromWithoutRide_0 {g : JG} {l : Launch} {d N n0 s0 : Nat} {out : Int} {A : AH} {y0 : Nat} {y1 : Nat} {y2 : Nat} (hl : l.stackTraces = false) (hd : 3 ≤ d) (hy0 : VK 5 y0) (hy1 : VK 3 y1) (hy2 : VK 4 y2) (h : fX5_fromWithoutRide N A y0 y1 y2 = some out) : J g l d RX5 "fromWithoutRide" cX5_fromWithoutRide 3 (some .int) n0 s0 ((0, some (vI out), A) : JO) (inR out) 0 [(0, .ref (gB g + y0)), (1, .ref (gB g + y1)), (2, .ref (gB g + y2))] [] A := by
  unfold fX5_fromWithoutRide at h
  refine j_aload_n (j := 2) dX5_fromWithoutRide_0 rfl rfl ?_
  refine j_getI FX5_131 rfl dX5_fromWithoutRide_1 hy2.1 hy2.lt hy2.ka (fun r1 => ?_)
  refine j_aload_n (j := 1) dX5_fromWithoutRide_4 rfl rfl ?_
  refine j_getI FX5_134 rfl dX5_fromWithoutRide_5 hy1.1 hy1.lt hy1.ka (fun r2 => ?_)
  by_cases c3 : (gI A y2 0) < (gI A y1 0)
  · rw [if_pos c3] at h
    refine j_icmp_lt_t r1 r2 dX5_fromWithoutRide_8 (tgt := 22) (by decide) c3 ?_
    refine j_sipush dX5_fromWithoutRide_22 rfl ?_
    cases h
    exact j_iret dX5_fromWithoutRide_25 rfl rfl rfl (inR_lit _ rfl)
  · rw [if_neg c3] at h
    refine j_icmp_lt_f r1 r2 dX5_fromWithoutRide_8 (tgt := 22) (by decide) c3 ?_
    refine j_aload_n (j := 2) dX5_fromWithoutRide_11 rfl rfl ?_
    obtain ⟨z5, e4, h⟩ := obind_elim h
    refine j_callV MX5_140 YX4_lastGoal IX4_lastGoal SX4_lastGoal (by decide) rfl (by decide) (by omega) (Nat.le_of_ble_eq_true rfl) rfl (ctX4_lastGoal (d := d - 1) hl (by omega) hy2 e4) dX5_fromWithoutRide_12 hy2.1 hy2.lt hy2.ka rfl (fun z6 _ => ?_)
    refine j_aload_n (j := 1) dX5_fromWithoutRide_15 rfl rfl ?_
    obtain ⟨z9, e8, h⟩ := obind_elim h
    refine j_callV MX5_143 YX3_origin IX3_origin SX3_origin (by decide) rfl (by decide) (by omega) (Nat.le_of_ble_eq_true rfl) rfl (ctX3_origin (d := d - 1) hl (by omega) hy1 e8) dX5_fromWithoutRide_16 hy1.1 hy1.lt hy1.ka rfl (fun z10 _ => ?_)
    by_cases c12 : z5 = z9
    · rw [if_pos c12] at h
      refine j_icmp_eq_t z6 z10 dX5_fromWithoutRide_19 (tgt := 26) (by decide) c12 ?_
      refine j_aload_n (j := 2) dX5_fromWithoutRide_26 rfl rfl ?_
      obtain ⟨z14, e13, h⟩ := obind_elim h
      refine j_callV MX5_137 YX4_freeFrom IX4_freeFrom SX4_freeFrom (by decide) rfl (by decide) (by omega) (Nat.le_of_ble_eq_true rfl) rfl (ctX4_freeFrom (d := d - 1) hl (by omega) hy2 e13) dX5_fromWithoutRide_27 hy2.1 hy2.lt hy2.ka rfl (fun z15 _ => ?_)
      refine j_aload_n (j := 0) dX5_fromWithoutRide_30 rfl rfl ?_
      refine j_aload_n (j := 2) dX5_fromWithoutRide_31 rfl rfl ?_
      obtain ⟨z18, e17, h⟩ := obind_elim h
      refine j_callV MX5_146 YX5_restedFrom IX5_restedFrom SX5_restedFrom (by decide) rfl (by decide) (by omega) (Nat.le_of_ble_eq_true rfl) rfl (ctX5_restedFrom (d := d - 1) hl (by omega) hy0 hy2 e17) dX5_fromWithoutRide_32 hy0.1 hy0.lt hy0.ka rfl (fun z19 _ => ?_)
      refine j_mmax z15 z19 MX5_102 MMmaxa MMi MMmaxc dX5_fromWithoutRide_35 (Nat.le_of_ble_eq_true rfl) (by omega) ?_
      cases h
      exact j_iret dX5_fromWithoutRide_38 rfl rfl rfl (max_inR z15 z19)
    · rw [if_neg c12] at h
      refine j_icmp_eq_f z6 z10 dX5_fromWithoutRide_19 (tgt := 26) (by decide) c12 ?_
      refine j_sipush dX5_fromWithoutRide_22 rfl ?_
      cases h
      exact j_iret dX5_fromWithoutRide_25 rfl rfl rfl (inR_lit _ rfl)
theorem ctX5_fromWithoutRide {g : JG} {l : Launch} {d N : Nat} {A : AH} {out : Int} {y0 : Nat} {y1 : Nat} {y2 : Nat} (hl : l.stackTraces = false) (hd : 3 ≤ d) (hy0 : VK 5 y0) (hy1 : VK 3 y1) (hy2 : VK 4 y2) (h : fX5_fromWithoutRide N A y0 y1 y2 = some out) : CT g l yX5_fromWithoutRide cX5_fromWithoutRide 3 (some .int) d [.ref (gB g + y0), .ref (gB g + y1), .ref (gB g + y2)] A ((0, some (vI out), A) : JO) (inR out) :=
  CT_of (by decide +kernel) hl (by first | exact Nat.le_of_ble_eq_true rfl | (unfold rv; split <;> exact Nat.le_of_ble_eq_true rfl)) (by first | rfl | (unfold rv; split <;> rfl)) (j_sub (lv := [(0, .ref (gB g + y0)), (1, .ref (gB g + y1)), (2, .ref (gB g + y2))]) [0, 1, 2] rfl (tX5_fromWithoutRide_0 hl hd hy0 hy1 hy2 h))
set_option maxRecDepth 100000 in
theorem tX5_fromWithRide_0 {g : JG} {l : Launch} {d N n0 s0 : Nat} {out : Int} {A : AH} {y0 : Nat} {y1 : Nat} {y2 : Nat} {y3 : Nat} (hl : l.stackTraces = false) (hd : 3 ≤ d) (hy0 : VK 5 y0) (hy1 : VK 3 y1) (hy2 : VK 4 y2) (hy3 : VK 0 y3) (h : fX5_fromWithRide N A y0 y1 y2 y3 = some out) : J g l d RX5 "fromWithRide" cX5_fromWithRide 5 (some .int) n0 s0 ((0, some (vI out), A) : JO) (inR out) 0 [(0, .ref (gB g + y0)), (1, .ref (gB g + y1)), (2, .ref (gB g + y2)), (3, .ref (gB g + y3))] [] A := by
  unfold fX5_fromWithRide at h
  refine j_aload_n (j := 2) dX5_fromWithRide_0 rfl rfl ?_
  refine j_getI FX5_131 rfl dX5_fromWithRide_1 hy2.1 hy2.lt hy2.ka (fun r1 => ?_)
  refine j_aload_n (j := 1) dX5_fromWithRide_4 rfl rfl ?_
  refine j_getI FX5_134 rfl dX5_fromWithRide_5 hy1.1 hy1.lt hy1.ka (fun r2 => ?_)
  by_cases c3 : (gI A y2 0) < (gI A y1 0)
  · rw [if_pos c3] at h
    refine j_icmp_lt_t r1 r2 dX5_fromWithRide_8 (tgt := 33) (by decide) c3 ?_
    refine j_sipush dX5_fromWithRide_33 rfl ?_
    cases h
    exact j_iret dX5_fromWithRide_36 rfl rfl rfl (inR_lit _ rfl)
  · rw [if_neg c3] at h
    refine j_icmp_lt_f r1 r2 dX5_fromWithRide_8 (tgt := 33) (by decide) c3 ?_
    refine j_aload_n (j := 2) dX5_fromWithRide_11 rfl rfl ?_
    obtain ⟨z5, e4, h⟩ := obind_elim h
    refine j_callV MX5_140 YX4_lastGoal IX4_lastGoal SX4_lastGoal (by decide) rfl (by decide) (by omega) (Nat.le_of_ble_eq_true rfl) rfl (ctX4_lastGoal (d := d - 1) hl (by omega) hy2 e4) dX5_fromWithRide_12 hy2.1 hy2.lt hy2.ka rfl (fun z6 _ => ?_)
    refine j_aload_n (j := 3) dX5_fromWithRide_15 rfl rfl ?_
    refine j_getI FX5_197 rfl dX5_fromWithRide_16 hy3.1 hy3.lt hy3.ka (fun r8 => ?_)
    by_cases c9 : z5 = (gI A y3 2)
    · rw [if_pos c9] at h
      refine j_icmp_ne_f z6 r8 dX5_fromWithRide_19 (tgt := 33) (by decide) (fun q => q c9) ?_
      refine j_aload_n (j := 3) dX5_fromWithRide_22 rfl rfl ?_
      obtain ⟨z11, e10, h⟩ := obind_elim h
      refine j_callV MX5_203 YX0_goal IX0_goal SX0_goal (by decide) rfl (by decide) (by omega) (Nat.le_of_ble_eq_true rfl) rfl (ctX0_goal (d := d - 1) hl (by omega) hy3 e10) dX5_fromWithRide_23 hy3.1 hy3.lt hy3.ka rfl (fun z12 _ => ?_)
      refine j_aload_n (j := 1) dX5_fromWithRide_26 rfl rfl ?_
      obtain ⟨z15, e14, h⟩ := obind_elim h
      refine j_callV MX5_143 YX3_origin IX3_origin SX3_origin (by decide) rfl (by decide) (by omega) (Nat.le_of_ble_eq_true rfl) rfl (ctX3_origin (d := d - 1) hl (by omega) hy1 e14) dX5_fromWithRide_27 hy1.1 hy1.lt hy1.ka rfl (fun z16 _ => ?_)
      by_cases c18 : z11 = z15
      · rw [if_pos c18] at h
        refine j_icmp_eq_t z12 z16 dX5_fromWithRide_30 (tgt := 37) (by decide) c18 ?_
        refine j_aload_n (j := 0) dX5_fromWithRide_37 rfl rfl ?_
        refine j_getI FX5_51 rfl dX5_fromWithRide_38 hy0.1 hy0.lt hy0.ka (fun r19 => ?_)
        refine j_aload_n (j := 2) dX5_fromWithRide_41 rfl rfl ?_
        obtain ⟨z21, e20, h⟩ := obind_elim h
        refine j_callV MX5_137 YX4_freeFrom IX4_freeFrom SX4_freeFrom (by decide) rfl (by decide) (by omega) (Nat.le_of_ble_eq_true rfl) rfl (ctX4_freeFrom (d := d - 1) hl (by omega) hy2 e20) dX5_fromWithRide_42 hy2.1 hy2.lt hy2.ka rfl (fun z22 _ => ?_)
        refine j_aload_n (j := 3) dX5_fromWithRide_45 rfl rfl ?_
        refine j_getI FX5_183 rfl dX5_fromWithRide_46 hy3.1 hy3.lt hy3.ka (fun r24 => ?_)
        refine j_mmax z22 r24 MX5_102 MMmaxa MMi MMmaxc dX5_fromWithRide_49 (Nat.le_of_ble_eq_true rfl) (by omega) ?_
        refine j_mmax r19 (max_inR z22 r24) MX5_102 MMmaxa MMi MMmaxc dX5_fromWithRide_52 (Nat.le_of_ble_eq_true rfl) (by omega) ?_
        obtain ⟨u25, eu25, h⟩ := bnd_elim h
        have hu25 : inR u25 := by rw [eu25]; exact (max_inR r19 (max_inR z22 r24))
        refine j_nm eu25 ?_
        refine j_istore (lv' := [(4, vI u25), (0, .ref (gB g + y0)), (1, .ref (gB g + y1)), (2, .ref (gB g + y2)), (3, .ref (gB g + y3))]) dX5_fromWithRide_55 (by decide) (by first | rfl | (simp only [List.all_cons, List.all_nil, rv_cat]; rfl)) rfl ?_
        refine j_iload (j := 0) dX5_fromWithRide_57 rfl ?_
        refine j_aload_n (j := 1) dX5_fromWithRide_59 rfl rfl ?_
        refine j_getR (q := (y0 + 1)) FX5_9 rfl dX5_fromWithRide_60 hy0.1 hy0.2.1 hy0.2.2 (lay5 hy0 (by decide)) (by omega) ?_
        refine j_iconst dX5_fromWithRide_63 ?_
        refine j_iald (inR_lit _ rfl) (by decide) (by decide) rfl dX5_fromWithRide_64 (VK.f1 hy0).1 (VK.f1 hy0).lt (VK.f1 hy0).ka (by decide) (fun r26 => ?_)
        refine j_iadd dX5_fromWithRide_65 ?_
        refine j_aload_n (j := 1) dX5_fromWithRide_66 rfl rfl ?_
        refine j_aload_n (j := 3) dX5_fromWithRide_67 rfl rfl ?_
        obtain ⟨z28, e27, h⟩ := obind_elim h
        refine j_callV MX5_146 YX5_restedFrom IX5_restedFrom SX5_restedFrom (by decide) rfl (by decide) (by omega) (Nat.le_of_ble_eq_true rfl) rfl (ctX5_restedFrom (d := d - 1) hl (by omega) hy0 hy2 e27) dX5_fromWithRide_68 hy0.1 hy0.lt hy0.ka rfl (fun z29 _ => ?_)
        refine j_mmax (wrap_inR _) z29 MX5_102 MMmaxa MMi MMmaxc dX5_fromWithRide_71 (Nat.le_of_ble_eq_true rfl) (by omega) ?_
        cases h
        exact j_iret dX5_fromWithRide_74 rfl rfl rfl (max_inR (wrap_inR _) z29)
      · rw [if_neg c18] at h
        refine j_icmp_eq_f z12 z16 dX5_fromWithRide_30 (tgt := 37) (by decide) c18 ?_
        refine j_sipush dX5_fromWithRide_33 rfl ?_
        cases h
        exact j_iret dX5_fromWithRide_36 rfl rfl rfl (inR_lit _ rfl)
    · rw [if_neg c9] at h
      refine j_icmp_ne_t z6 r8 dX5_fromWithRide_19 (tgt := 33) (by decide) c9 ?_
      refine j_sipush dX5_fromWithRide_33 rfl ?_
      cases h
      exact j_iret dX5_fromWithRide_36 rfl rfl rfl (inR_lit _ rfl)
theorem ctX5_fromWithRide {g : JG} {l : Launch} {d N : Nat} {A : AH} {out : Int} {y0 : Nat} {y1 : Nat} {y2 : Nat} {y3 : Nat} (hl : l.stackTraces = false) (hd : 3 ≤ d) (hy0 : VK 5 y0) (hy1 : VK 3 y1) (hy2 : VK 4 y2) (hy3 : VK 0 y3) (h : fX5_fromWithRide N A y0 y1 y2 y3 = some out) : CT g l yX5_fromWithRide cX5_fromWithRide 5 (some .int) d [.ref (gB g + y0), .ref (gB g + y1), .ref (gB g + y2), .ref (gB g + y3)] A ((0, some (vI out), A) : JO) (inR out) :=
  CT_of (by decide +kernel) hl (by first | exact Nat.le_of_ble_eq_true rfl | (unfold rv; split <;> exact Nat.le_of_ble_eq_true rfl)) (by first | rfl | (unfold rv; split <;> rfl)) (j_sub (lv := [(0, .ref (gB g + y0)), (1, .ref (gB g + y1)), (2, .ref (gB g + y2)), (3, .ref (gB g + y3))]) [0, 1, 2, 3] rfl (tX5_fromWithRide_0 hl hd hy0 hy1 hy2 hy3 h))
set_option maxRecDepth 100000 in
theorem tX5_fromAnyWay_33 {g : JG} {l : Launch} {d N n0 s0 : Nat} {out : Int} {A : AH} {y0 : Nat} {y1 : Nat} {x3 : Int} {k6 : Int → Int → Option (Int)} (hl : l.stackTraces = false) (hd : 4 ≤ d) (hy0 : VK 5 y0) (hy1 : VK 3 y1) (hx3 : inR x3) (hk6 : ∀ (x2 : Int) (x3 : Int), inR x2 → inR x3 → k6 x2 x3 = some out → J g l d RX5 "fromAnyWay" cX5_fromAnyWay 5 (some .int) n0 s0 ((0, some (vI out), A) : JO) (inR out) 6 [(0, .ref (gB g + y0)), (1, .ref (gB g + y1)), (2, vI x2), (3, vI x3)] [] A) : ∀ (n : Nat) (x2 : Int) (x4 : Int), inR x2 → inR x4 → fX5_fromAnyWay_33 N A k6 y0 y1 x3 n x2 x4 = some out → J g l d RX5 "fromAnyWay" cX5_fromAnyWay 5 (some .int) n0 s0 ((0, some (vI out), A) : JO) (inR out) 33 [(0, .ref (gB g + y0)), (1, .ref (gB g + y1)), (2, vI x2), (3, vI x3), (4, vI x4)] [] A := by
  intro n
  induction n with
  | zero =>
    intro x2 x4 hx2 hx4 h
    rw [fX5_fromAnyWay_33] at h
    cases h
  | succ n ih =>
    intro x2 x4 hx2 hx4 h
    rw [fX5_fromAnyWay_33] at h
    refine j_iload (j := 4) dX5_fromAnyWay_33 rfl ?_
    refine j_aload_n (j := 0) dX5_fromAnyWay_35 rfl rfl ?_
    refine j_getI FX5_61 rfl dX5_fromAnyWay_36 hy0.1 hy0.lt hy0.ka (fun r1 => ?_)
    by_cases c2 : (gI A y0 8) ≤ x4
    · rw [if_pos c2] at h
      refine j_icmp_ge_t hx4 r1 dX5_fromAnyWay_39 (tgt := 71) (by decide) c2 ?_
      obtain ⟨u3, eu3, h⟩ := bnd_elim h
      have hu3 : inR u3 := by rw [eu3]; exact wrap_inR _
      refine j_iincN (k := 3) (lv' := [(3, vI u3), (0, .ref (gB g + y0)), (1, .ref (gB g + y1)), (2, vI x2), (4, vI x4)]) eu3 dX5_fromAnyWay_71 rfl (by decide) (by first | rfl | (simp only [List.all_cons, List.all_nil, rv_cat]; rfl)) rfl ?_
      refine j_goto (tgt := 6) dX5_fromAnyWay_74 (by decide) ?_
      exact j_sub [1, 2, 3, 0] rfl (hk6 x2 u3 hx2 hu3 h)
    · rw [if_neg c2] at h
      refine j_icmp_ge_f hx4 r1 dX5_fromAnyWay_39 (tgt := 71) (by decide) c2 ?_
      refine j_iload_n (j := 2) dX5_fromAnyWay_42 rfl rfl ?_
      refine j_aload_n (j := 0) dX5_fromAnyWay_43 rfl rfl ?_
      refine j_aload_n (j := 1) dX5_fromAnyWay_44 rfl rfl ?_
      refine j_aload_n (j := 0) dX5_fromAnyWay_45 rfl rfl ?_
      refine j_getR (q := (y0 + 4)) FX5_26 rfl dX5_fromAnyWay_46 hy0.1 hy0.2.1 hy0.2.2 (lay5 hy0 (by decide)) (by omega) ?_
      refine j_iload_n (j := 3) dX5_fromAnyWay_49 rfl rfl ?_
      obtain ⟨c4, h⟩ := chk_elim h
      have v5 : VK 4 (y0 + 22 + x3.toNat) := (VK.p hy0 c4)
      refine j_aald (q := (y0 + 22 + x3.toNat)) hx3 (by decide) (by decide) (by decide) (by decide) dX5_fromAnyWay_50 (VK.f4 hy0).1 (VK.f4 hy0).2.1 (VK.f4 hy0).2.2 c4 (lay14 hy0 c4) (by omega) ?_
      refine j_aload_n (j := 0) dX5_fromAnyWay_51 rfl rfl ?_
      refine j_getR (q := (y0 + 5)) FX5_32 rfl dX5_fromAnyWay_52 hy0.1 hy0.2.1 hy0.2.2 (lay5 hy0 (by decide)) (by omega) ?_
      refine j_iload (j := 4) dX5_fromAnyWay_55 rfl ?_
      obtain ⟨c6, h⟩ := chk_elim h
      have v7 : VK 0 (y0 + 28 + x4.toNat) := (VK.b hy0 c6)
      refine j_aald (q := (y0 + 28 + x4.toNat)) hx4 (by decide) (by decide) (by decide) (by decide) dX5_fromAnyWay_57 (VK.f5 hy0).1 (VK.f5 hy0).2.1 (VK.f5 hy0).2.2 c6 (lay15 hy0 c6) (by omega) ?_
      obtain ⟨z9, e8, h⟩ := obind_elim h
      refine j_callV MX5_214 YX5_fromWithRide IX5_fromWithRide SX5_fromWithRide (by decide) rfl (by decide) (by omega) (Nat.le_of_ble_eq_true rfl) rfl (ctX5_fromWithRide (d := d - 1) hl (by omega) hy0 hy1 v5 v7 e8) dX5_fromAnyWay_58 hy0.1 hy0.lt hy0.ka rfl (fun z10 _ => ?_)
      refine j_mmin hx2 z10 MX5_108 MMmina MMi MMminc dX5_fromAnyWay_61 (Nat.le_of_ble_eq_true rfl) (by omega) ?_
      obtain ⟨u12, eu12, h⟩ := bnd_elim h
      have hu12 : inR u12 := by rw [eu12]; exact (min_inR hx2 z10)
      refine j_nm eu12 ?_
      refine j_istore_n (lv' := [(2, vI u12), (0, .ref (gB g + y0)), (1, .ref (gB g + y1)), (3, vI x3), (4, vI x4)]) dX5_fromAnyWay_64 rfl (by decide) (by first | rfl | (simp only [List.all_cons, List.all_nil, rv_cat]; rfl)) rfl ?_
      obtain ⟨u13, eu13, h⟩ := bnd_elim h
      have hu13 : inR u13 := by rw [eu13]; exact wrap_inR _
      refine j_iincN (k := 4) (lv' := [(4, vI u13), (2, vI u12), (0, .ref (gB g + y0)), (1, .ref (gB g + y1)), (3, vI x3)]) eu13 dX5_fromAnyWay_65 rfl (by decide) (by first | rfl | (simp only [List.all_cons, List.all_nil, rv_cat]; rfl)) rfl ?_
      refine j_goto (tgt := 33) dX5_fromAnyWay_68 (by decide) ?_
      exact j_sub [2, 3, 1, 4, 0] rfl (ih u12 u13 hu12 hu13 h)
set_option maxRecDepth 100000 in
theorem tX5_fromAnyWay_6 {g : JG} {l : Launch} {d N n0 s0 : Nat} {out : Int} {A : AH} {y0 : Nat} {y1 : Nat} (hl : l.stackTraces = false) (hd : 4 ≤ d) (hy0 : VK 5 y0) (hy1 : VK 3 y1) : ∀ (n : Nat) (x2 : Int) (x3 : Int), inR x2 → inR x3 → fX5_fromAnyWay_6 N A y0 y1 n x2 x3 = some out → J g l d RX5 "fromAnyWay" cX5_fromAnyWay 5 (some .int) n0 s0 ((0, some (vI out), A) : JO) (inR out) 6 [(0, .ref (gB g + y0)), (1, .ref (gB g + y1)), (2, vI x2), (3, vI x3)] [] A := by
  intro n
  induction n with
  | zero =>
    intro x2 x3 hx2 hx3 h
    rw [fX5_fromAnyWay_6] at h
    cases h
  | succ n ih =>
    intro x2 x3 hx2 hx3 h
    rw [fX5_fromAnyWay_6] at h
    refine j_iload_n (j := 3) dX5_fromAnyWay_6 rfl rfl ?_
    refine j_aload_n (j := 0) dX5_fromAnyWay_7 rfl rfl ?_
    refine j_getI FX5_58 rfl dX5_fromAnyWay_8 hy0.1 hy0.lt hy0.ka (fun r1 => ?_)
    by_cases c2 : (gI A y0 7) ≤ x3
    · rw [if_pos c2] at h
      refine j_icmp_ge_t hx3 r1 dX5_fromAnyWay_11 (tgt := 77) (by decide) c2 ?_
      refine j_iload_n (j := 2) dX5_fromAnyWay_77 rfl rfl ?_
      cases h
      exact j_iret dX5_fromAnyWay_78 rfl rfl rfl hx2
    · rw [if_neg c2] at h
      refine j_icmp_ge_f hx3 r1 dX5_fromAnyWay_11 (tgt := 77) (by decide) c2 ?_
      refine j_iload_n (j := 2) dX5_fromAnyWay_14 rfl rfl ?_
      refine j_aload_n (j := 0) dX5_fromAnyWay_15 rfl rfl ?_
      refine j_aload_n (j := 1) dX5_fromAnyWay_16 rfl rfl ?_
      refine j_aload_n (j := 0) dX5_fromAnyWay_17 rfl rfl ?_
      refine j_getR (q := (y0 + 4)) FX5_26 rfl dX5_fromAnyWay_18 hy0.1 hy0.2.1 hy0.2.2 (lay5 hy0 (by decide)) (by omega) ?_
      refine j_iload_n (j := 3) dX5_fromAnyWay_21 rfl rfl ?_
      obtain ⟨c3, h⟩ := chk_elim h
      have v4 : VK 4 (y0 + 22 + x3.toNat) := (VK.p hy0 c3)
      refine j_aald (q := (y0 + 22 + x3.toNat)) hx3 (by decide) (by decide) (by decide) (by decide) dX5_fromAnyWay_22 (VK.f4 hy0).1 (VK.f4 hy0).2.1 (VK.f4 hy0).2.2 c3 (lay14 hy0 c3) (by omega) ?_
      obtain ⟨z6, e5, h⟩ := obind_elim h
      refine j_callV MX5_210 YX5_fromWithoutRide IX5_fromWithoutRide SX5_fromWithoutRide (by decide) rfl (by decide) (by omega) (Nat.le_of_ble_eq_true rfl) rfl (ctX5_fromWithoutRide (d := d - 1) hl (by omega) hy0 hy1 v4 e5) dX5_fromAnyWay_23 hy0.1 hy0.lt hy0.ka rfl (fun z7 _ => ?_)
      refine j_mmin hx2 z7 MX5_108 MMmina MMi MMminc dX5_fromAnyWay_26 (Nat.le_of_ble_eq_true rfl) (by omega) ?_
      obtain ⟨u9, eu9, h⟩ := bnd_elim h
      have hu9 : inR u9 := by rw [eu9]; exact (min_inR hx2 z7)
      refine j_nm eu9 ?_
      refine j_istore_n (lv' := [(2, vI u9), (0, .ref (gB g + y0)), (1, .ref (gB g + y1)), (3, vI x3)]) dX5_fromAnyWay_29 rfl (by decide) (by first | rfl | (simp only [List.all_cons, List.all_nil, rv_cat]; rfl)) rfl ?_
      refine j_iconst dX5_fromAnyWay_30 ?_
      refine j_istore (lv' := [(4, vI 0), (2, vI u9), (0, .ref (gB g + y0)), (1, .ref (gB g + y1)), (3, vI x3)]) dX5_fromAnyWay_31 (by decide) (by first | rfl | (simp only [List.all_cons, List.all_nil, rv_cat]; rfl)) rfl ?_
      exact j_sub [2, 3, 1, 4, 0] rfl (tX5_fromAnyWay_33 hl (by omega) hy0 hy1 hx3 ih N u9 0 hu9 (inR_lit _ rfl) h)
set_option maxRecDepth 100000 in
theorem tX5_fromAnyWay_0 {g : JG} {l : Launch} {d N n0 s0 : Nat} {out : Int} {A : AH} {y0 : Nat} {y1 : Nat} (hl : l.stackTraces = false) (hd : 4 ≤ d) (hy0 : VK 5 y0) (hy1 : VK 3 y1) (h : fX5_fromAnyWay N A y0 y1 = some out) : J g l d RX5 "fromAnyWay" cX5_fromAnyWay 5 (some .int) n0 s0 ((0, some (vI out), A) : JO) (inR out) 0 [(0, .ref (gB g + y0)), (1, .ref (gB g + y1))] [] A := by
  unfold fX5_fromAnyWay at h
  refine j_sipush dX5_fromAnyWay_0 rfl ?_
  refine j_istore_n (lv' := [(2, vI 5000), (0, .ref (gB g + y0)), (1, .ref (gB g + y1))]) dX5_fromAnyWay_3 rfl (by decide) (by first | rfl | (simp only [List.all_cons, List.all_nil, rv_cat]; rfl)) rfl ?_
  refine j_iconst dX5_fromAnyWay_4 ?_
  refine j_istore_n (lv' := [(3, vI 0), (2, vI 5000), (0, .ref (gB g + y0)), (1, .ref (gB g + y1))]) dX5_fromAnyWay_5 rfl (by decide) (by first | rfl | (simp only [List.all_cons, List.all_nil, rv_cat]; rfl)) rfl ?_
  exact j_sub [2, 3, 1, 0] rfl (tX5_fromAnyWay_6 hl (by omega) hy0 hy1  N 5000 0 (inR_lit _ rfl) (inR_lit _ rfl) h)
theorem ctX5_fromAnyWay {g : JG} {l : Launch} {d N : Nat} {A : AH} {out : Int} {y0 : Nat} {y1 : Nat} (hl : l.stackTraces = false) (hd : 4 ≤ d) (hy0 : VK 5 y0) (hy1 : VK 3 y1) (h : fX5_fromAnyWay N A y0 y1 = some out) : CT g l yX5_fromAnyWay cX5_fromAnyWay 5 (some .int) d [.ref (gB g + y0), .ref (gB g + y1)] A ((0, some (vI out), A) : JO) (inR out) :=
  CT_of (by decide +kernel) hl (by first | exact Nat.le_of_ble_eq_true rfl | (unfold rv; split <;> exact Nat.le_of_ble_eq_true rfl)) (by first | rfl | (unfold rv; split <;> rfl)) (j_sub (lv := [(0, .ref (gB g + y0)), (1, .ref (gB g + y1))]) [0, 1] rfl (tX5_fromAnyWay_0 hl hd hy0 hy1 h))
set_option maxRecDepth 100000 in
theorem tX5_chooseWay_59 {g : JG} {l : Launch} {d N n0 s0 : Nat} {out : Int × AH} {y0 : Nat} {y1 : Nat} {x2 : Int} {x4 : Int} {k47 : AH → Int → Option (Int × AH)} (hl : l.stackTraces = false) (hd : 4 ≤ d) (hy0 : VK 5 y0) (hy1 : VK 3 y1) (hx2 : inR x2) (hx4 : inR x4) (hk47 : ∀ (A : AH) (x4 : Int), inR x4 → k47 A x4 = some out → J g l d RX5 "chooseWay" cX5_chooseWay 6 (some .boolean) n0 s0 ((0, some (vI out.1), out.2) : JO) ((out.1 = 0 ∨ out.1 = 1)) 47 [(0, .ref (gB g + y0)), (1, .ref (gB g + y1)), (2, vI x2), (3, .ref (gB g + 347)), (4, vI x4)] [] A) : ∀ (n : Nat) (A : AH) (x5 : Int), inR x5 → fX5_chooseWay_59 N k47 y0 y1 x2 x4 n A x5 = some out → J g l d RX5 "chooseWay" cX5_chooseWay 6 (some .boolean) n0 s0 ((0, some (vI out.1), out.2) : JO) ((out.1 = 0 ∨ out.1 = 1)) 59 [(0, .ref (gB g + y0)), (1, .ref (gB g + y1)), (2, vI x2), (3, .ref (gB g + 347)), (4, vI x4), (5, vI x5)] [] A := by
  intro n
  induction n with
  | zero =>
    intro A x5 hx5 h
    rw [fX5_chooseWay_59] at h
    cases h
  | succ n ih =>
    intro A x5 hx5 h
    rw [fX5_chooseWay_59] at h
    refine j_iload (j := 5) dX5_chooseWay_59 rfl ?_
    refine j_aload_n (j := 0) dX5_chooseWay_61 rfl rfl ?_
    refine j_getI FX5_61 rfl dX5_chooseWay_62 hy0.1 hy0.lt hy0.ka (fun r1 => ?_)
    by_cases c2 : (gI A y0 8) ≤ x5
    · rw [if_pos c2] at h
      refine j_icmp_ge_t hx5 r1 dX5_chooseWay_65 (tgt := 108) (by decide) c2 ?_
      obtain ⟨u3, eu3, h⟩ := bnd_elim h
      have hu3 : inR u3 := by rw [eu3]; exact wrap_inR _
      refine j_iincN (k := 4) (lv' := [(4, vI u3), (0, .ref (gB g + y0)), (1, .ref (gB g + y1)), (2, vI x2), (3, .ref (gB g + 347)), (5, vI x5)]) eu3 dX5_chooseWay_108 rfl (by decide) (by first | rfl | (simp only [List.all_cons, List.all_nil, rv_cat]; rfl)) rfl ?_
      refine j_goto (tgt := 47) dX5_chooseWay_111 (by decide) ?_
      exact j_sub [1, 2, 3, 4, 0] rfl (hk47 A u3 hu3 h)
    · rw [if_neg c2] at h
      refine j_icmp_ge_f hx5 r1 dX5_chooseWay_65 (tgt := 108) (by decide) c2 ?_
      refine j_aload_n (j := 0) dX5_chooseWay_68 rfl rfl ?_
      refine j_aload_n (j := 1) dX5_chooseWay_69 rfl rfl ?_
      refine j_aload_n (j := 0) dX5_chooseWay_70 rfl rfl ?_
      refine j_getR (q := (y0 + 4)) FX5_26 rfl dX5_chooseWay_71 hy0.1 hy0.2.1 hy0.2.2 (lay5 hy0 (by decide)) (by omega) ?_
      refine j_iload (j := 4) dX5_chooseWay_74 rfl ?_
      obtain ⟨c4, h⟩ := chk_elim h
      have v5 : VK 4 (y0 + 22 + x4.toNat) := (VK.p hy0 c4)
      refine j_aald (q := (y0 + 22 + x4.toNat)) hx4 (by decide) (by decide) (by decide) (by decide) dX5_chooseWay_76 (VK.f4 hy0).1 (VK.f4 hy0).2.1 (VK.f4 hy0).2.2 c4 (lay14 hy0 c4) (by omega) ?_
      refine j_aload_n (j := 0) dX5_chooseWay_77 rfl rfl ?_
      refine j_getR (q := (y0 + 5)) FX5_32 rfl dX5_chooseWay_78 hy0.1 hy0.2.1 hy0.2.2 (lay5 hy0 (by decide)) (by omega) ?_
      refine j_iload (j := 5) dX5_chooseWay_81 rfl ?_
      obtain ⟨c6, h⟩ := chk_elim h
      have v7 : VK 0 (y0 + 28 + x5.toNat) := (VK.b hy0 c6)
      refine j_aald (q := (y0 + 28 + x5.toNat)) hx5 (by decide) (by decide) (by decide) (by decide) dX5_chooseWay_83 (VK.f5 hy0).1 (VK.f5 hy0).2.1 (VK.f5 hy0).2.2 c6 (lay15 hy0 c6) (by omega) ?_
      obtain ⟨z9, e8, h⟩ := obind_elim h
      refine j_callV MX5_214 YX5_fromWithRide IX5_fromWithRide SX5_fromWithRide (by decide) rfl (by decide) (by omega) (Nat.le_of_ble_eq_true rfl) rfl (ctX5_fromWithRide (d := d - 1) hl (by omega) hy0 hy1 v5 v7 e8) dX5_chooseWay_84 hy0.1 hy0.lt hy0.ka rfl (fun z10 _ => ?_)
      refine j_iload_n (j := 2) dX5_chooseWay_87 rfl rfl ?_
      by_cases c12 : x2 < z9
      · rw [if_pos c12] at h
        refine j_icmp_gt_t z10 hx2 dX5_chooseWay_88 (tgt := 102) (by decide) c12 ?_
        obtain ⟨u13, eu13, h⟩ := bnd_elim h
        have hu13 : inR u13 := by rw [eu13]; exact wrap_inR _
        refine j_iincN (k := 5) (lv' := [(5, vI u13), (0, .ref (gB g + y0)), (1, .ref (gB g + y1)), (2, vI x2), (3, .ref (gB g + 347)), (4, vI x4)]) eu13 dX5_chooseWay_102 rfl (by decide) (by first | rfl | (simp only [List.all_cons, List.all_nil, rv_cat]; rfl)) rfl ?_
        refine j_goto (tgt := 59) dX5_chooseWay_105 (by decide) ?_
        exact j_sub [1, 2, 3, 4, 5, 0] rfl (ih A u13 hu13 h)
      · rw [if_neg c12] at h
        refine j_icmp_gt_f z10 hx2 dX5_chooseWay_88 (tgt := 102) (by decide) c12 ?_
        refine j_aload_n (j := 3) dX5_chooseWay_91 rfl rfl ?_
        refine j_iload_n (j := 2) dX5_chooseWay_92 rfl rfl ?_
        refine j_iload (j := 4) dX5_chooseWay_93 rfl ?_
        refine j_iload (j := 5) dX5_chooseWay_95 rfl ?_
        obtain ⟨p15, e14, h⟩ := obind_elim h
        refine j_callV MX5_230 YX7_set IX7_set SX7_set (by decide) rfl (by decide) (by omega) (Nat.le_of_ble_eq_true rfl) rfl (ctX7_set (d := d - 1) hl (by omega) hx2 hx4 hx5 e14) dX5_chooseWay_97 (VK_c 7 347 rfl).1 (VK_c 7 347 rfl).lt (VK_c 7 347 rfl).ka rfl (fun z16 xt17 => ?_)
        refine j_iconst dX5_chooseWay_100 ?_
        cases h
        exact j_iret dX5_chooseWay_101 rfl ((nar_bool (Or.inr rfl)).1) rfl (Or.inr rfl)
set_option maxRecDepth 100000 in
theorem tX5_chooseWay_47 {g : JG} {l : Launch} {d N n0 s0 : Nat} {out : Int × AH} {y0 : Nat} {y1 : Nat} {x2 : Int} (hl : l.stackTraces = false) (hd : 4 ≤ d) (hy0 : VK 5 y0) (hy1 : VK 3 y1) (hx2 : inR x2) : ∀ (n : Nat) (A : AH) (x4 : Int), inR x4 → fX5_chooseWay_47 N y0 y1 x2 n A x4 = some out → J g l d RX5 "chooseWay" cX5_chooseWay 6 (some .boolean) n0 s0 ((0, some (vI out.1), out.2) : JO) ((out.1 = 0 ∨ out.1 = 1)) 47 [(0, .ref (gB g + y0)), (1, .ref (gB g + y1)), (2, vI x2), (3, .ref (gB g + 347)), (4, vI x4)] [] A := by
  intro n
  induction n with
  | zero =>
    intro A x4 hx4 h
    rw [fX5_chooseWay_47] at h
    cases h
  | succ n ih =>
    intro A x4 hx4 h
    rw [fX5_chooseWay_47] at h
    refine j_iload (j := 4) dX5_chooseWay_47 rfl ?_
    refine j_aload_n (j := 0) dX5_chooseWay_49 rfl rfl ?_
    refine j_getI FX5_58 rfl dX5_chooseWay_50 hy0.1 hy0.lt hy0.ka (fun r1 => ?_)
    by_cases c2 : (gI A y0 7) ≤ x4
    · rw [if_pos c2] at h
      refine j_icmp_ge_t hx4 r1 dX5_chooseWay_53 (tgt := 114) (by decide) c2 ?_
      refine j_iconst dX5_chooseWay_114 ?_
      cases h
      exact j_iret dX5_chooseWay_115 rfl ((nar_bool (Or.inl rfl)).1) rfl (Or.inl rfl)
    · rw [if_neg c2] at h
      refine j_icmp_ge_f hx4 r1 dX5_chooseWay_53 (tgt := 114) (by decide) c2 ?_
      refine j_iconst dX5_chooseWay_56 ?_
      refine j_istore (lv' := [(5, vI 0), (0, .ref (gB g + y0)), (1, .ref (gB g + y1)), (2, vI x2), (3, .ref (gB g + 347)), (4, vI x4)]) dX5_chooseWay_57 (by decide) (by first | rfl | (simp only [List.all_cons, List.all_nil, rv_cat]; rfl)) rfl ?_
      exact j_sub [1, 2, 3, 4, 5, 0] rfl (tX5_chooseWay_59 hl (by omega) hy0 hy1 hx2 hx4 ih N A 0 (inR_lit _ rfl) h)
set_option maxRecDepth 100000 in
theorem tX5_chooseWay_3 {g : JG} {l : Launch} {d N n0 s0 : Nat} {out : Int × AH} {y0 : Nat} {y1 : Nat} {x2 : Int} (hl : l.stackTraces = false) (hd : 4 ≤ d) (hy0 : VK 5 y0) (hy1 : VK 3 y1) (hx2 : inR x2) : ∀ (n : Nat) (A : AH) (x4 : Int), inR x4 → fX5_chooseWay_3 N y0 y1 x2 n A x4 = some out → J g l d RX5 "chooseWay" cX5_chooseWay 6 (some .boolean) n0 s0 ((0, some (vI out.1), out.2) : JO) ((out.1 = 0 ∨ out.1 = 1)) 3 [(0, .ref (gB g + y0)), (1, .ref (gB g + y1)), (2, vI x2), (3, .ref (gB g + 347)), (4, vI x4)] [] A := by
  intro n
  induction n with
  | zero =>
    intro A x4 hx4 h
    rw [fX5_chooseWay_3] at h
    cases h
  | succ n ih =>
    intro A x4 hx4 h
    rw [fX5_chooseWay_3] at h
    refine j_iload (j := 4) dX5_chooseWay_3 rfl ?_
    refine j_aload_n (j := 0) dX5_chooseWay_5 rfl rfl ?_
    refine j_getI FX5_58 rfl dX5_chooseWay_6 hy0.1 hy0.lt hy0.ka (fun r1 => ?_)
    by_cases c2 : (gI A y0 7) ≤ x4
    · rw [if_pos c2] at h
      refine j_icmp_ge_t hx4 r1 dX5_chooseWay_9 (tgt := 44) (by decide) c2 ?_
      refine j_iconst dX5_chooseWay_44 ?_
      refine j_istore (lv' := [(4, vI 0), (0, .ref (gB g + y0)), (1, .ref (gB g + y1)), (2, vI x2), (3, .ref (gB g + 347))]) dX5_chooseWay_45 (by decide) (by first | rfl | (simp only [List.all_cons, List.all_nil, rv_cat]; rfl)) rfl ?_
      exact j_sub [1, 2, 3, 4, 0] rfl (tX5_chooseWay_47 hl (by omega) hy0 hy1 hx2  N A 0 (inR_lit _ rfl) h)
    · rw [if_neg c2] at h
      refine j_icmp_ge_f hx4 r1 dX5_chooseWay_9 (tgt := 44) (by decide) c2 ?_
      refine j_aload_n (j := 0) dX5_chooseWay_12 rfl rfl ?_
      refine j_aload_n (j := 1) dX5_chooseWay_13 rfl rfl ?_
      refine j_aload_n (j := 0) dX5_chooseWay_14 rfl rfl ?_
      refine j_getR (q := (y0 + 4)) FX5_26 rfl dX5_chooseWay_15 hy0.1 hy0.2.1 hy0.2.2 (lay5 hy0 (by decide)) (by omega) ?_
      refine j_iload (j := 4) dX5_chooseWay_18 rfl ?_
      obtain ⟨c3, h⟩ := chk_elim h
      have v4 : VK 4 (y0 + 22 + x4.toNat) := (VK.p hy0 c3)
      refine j_aald (q := (y0 + 22 + x4.toNat)) hx4 (by decide) (by decide) (by decide) (by decide) dX5_chooseWay_20 (VK.f4 hy0).1 (VK.f4 hy0).2.1 (VK.f4 hy0).2.2 c3 (lay14 hy0 c3) (by omega) ?_
      obtain ⟨z6, e5, h⟩ := obind_elim h
      refine j_callV MX5_210 YX5_fromWithoutRide IX5_fromWithoutRide SX5_fromWithoutRide (by decide) rfl (by decide) (by omega) (Nat.le_of_ble_eq_true rfl) rfl (ctX5_fromWithoutRide (d := d - 1) hl (by omega) hy0 hy1 v4 e5) dX5_chooseWay_21 hy0.1 hy0.lt hy0.ka rfl (fun z7 _ => ?_)
      refine j_iload_n (j := 2) dX5_chooseWay_24 rfl rfl ?_
      by_cases c9 : x2 < z6
      · rw [if_pos c9] at h
        refine j_icmp_gt_t z7 hx2 dX5_chooseWay_25 (tgt := 38) (by decide) c9 ?_
        obtain ⟨u10, eu10, h⟩ := bnd_elim h
        have hu10 : inR u10 := by rw [eu10]; exact wrap_inR _
        refine j_iincN (k := 4) (lv' := [(4, vI u10), (0, .ref (gB g + y0)), (1, .ref (gB g + y1)), (2, vI x2), (3, .ref (gB g + 347))]) eu10 dX5_chooseWay_38 rfl (by decide) (by first | rfl | (simp only [List.all_cons, List.all_nil, rv_cat]; rfl)) rfl ?_
        refine j_goto (tgt := 3) dX5_chooseWay_41 (by decide) ?_
        exact j_sub [1, 2, 3, 4, 0] rfl (ih A u10 hu10 h)
      · rw [if_neg c9] at h
        refine j_icmp_gt_f z7 hx2 dX5_chooseWay_25 (tgt := 38) (by decide) c9 ?_
        refine j_aload_n (j := 3) dX5_chooseWay_28 rfl rfl ?_
        refine j_iload_n (j := 2) dX5_chooseWay_29 rfl rfl ?_
        refine j_iload (j := 4) dX5_chooseWay_30 rfl ?_
        refine j_iconst dX5_chooseWay_32 ?_
        obtain ⟨p12, e11, h⟩ := obind_elim h
        refine j_callV MX5_230 YX7_set IX7_set SX7_set (by decide) rfl (by decide) (by omega) (Nat.le_of_ble_eq_true rfl) rfl (ctX7_set (d := d - 1) hl (by omega) hx2 hx4 (inR_lit _ rfl) e11) dX5_chooseWay_33 (VK_c 7 347 rfl).1 (VK_c 7 347 rfl).lt (VK_c 7 347 rfl).ka rfl (fun z13 xt14 => ?_)
        refine j_iconst dX5_chooseWay_36 ?_
        cases h
        exact j_iret dX5_chooseWay_37 rfl ((nar_bool (Or.inr rfl)).1) rfl (Or.inr rfl)
set_option maxRecDepth 100000 in
theorem tX5_chooseWay_0 {g : JG} {l : Launch} {d N n0 s0 : Nat} {out : Int × AH} {A : AH} {y0 : Nat} {y1 : Nat} {x2 : Int} (hl : l.stackTraces = false) (hd : 4 ≤ d) (hy0 : VK 5 y0) (hy1 : VK 3 y1) (hx2 : inR x2) (h : fX5_chooseWay N A y0 y1 x2 = some out) : J g l d RX5 "chooseWay" cX5_chooseWay 6 (some .boolean) n0 s0 ((0, some (vI out.1), out.2) : JO) ((out.1 = 0 ∨ out.1 = 1)) 0 [(0, .ref (gB g + y0)), (1, .ref (gB g + y1)), (2, vI x2), (3, .ref (gB g + 347))] [] A := by
  unfold fX5_chooseWay at h
  refine j_iconst dX5_chooseWay_0 ?_
  refine j_istore (lv' := [(4, vI 0), (0, .ref (gB g + y0)), (1, .ref (gB g + y1)), (2, vI x2), (3, .ref (gB g + 347))]) dX5_chooseWay_1 (by decide) (by first | rfl | (simp only [List.all_cons, List.all_nil, rv_cat]; rfl)) rfl ?_
  exact j_sub [1, 2, 3, 4, 0] rfl (tX5_chooseWay_3 hl (by omega) hy0 hy1 hx2  N A 0 (inR_lit _ rfl) h)
theorem ctX5_chooseWay {g : JG} {l : Launch} {d N : Nat} {A : AH} {out : Int × AH} {y0 : Nat} {y1 : Nat} {x2 : Int} (hl : l.stackTraces = false) (hd : 4 ≤ d) (hy0 : VK 5 y0) (hy1 : VK 3 y1) (hx2 : inR x2) (h : fX5_chooseWay N A y0 y1 x2 = some out) : CT g l yX5_chooseWay cX5_chooseWay 6 (some .boolean) d [.ref (gB g + y0), .ref (gB g + y1), vI x2, .ref (gB g + 347)] A ((0, some (vI out.1), out.2) : JO) ((out.1 = 0 ∨ out.1 = 1)) :=
  CT_of (by decide +kernel) hl (by first | exact Nat.le_of_ble_eq_true rfl | (unfold rv; split <;> exact Nat.le_of_ble_eq_true rfl)) (by first | rfl | (unfold rv; split <;> rfl)) (j_sub (lv := [(0, .ref (gB g + y0)), (1, .ref (gB g + y1)), (2, vI x2), (3, .ref (gB g + 347))]) [0, 1, 2, 3] rfl (tX5_chooseWay_0 hl hd hy0 hy1 hx2 h))
set_option maxRecDepth 100000 in
theorem tX5_reasonAgainstServing_0 {g : JG} {l : Launch} {d N n0 s0 : Nat} {out : Int × AH} {A : AH} {y0 : Nat} {x1 : Int} (hl : l.stackTraces = false) (hd : 5 ≤ d) (hy0 : VK 5 y0) (hx1 : inR x1) (h : fX5_reasonAgainstServing N A y0 x1 = some out) : J g l d RX5 "reasonAgainstServing" cX5_reasonAgainstServing 5 (some .int) n0 s0 ((0, some (vI out.1), out.2) : JO) (inR out.1) 0 [(0, .ref (gB g + y0)), (1, vI x1), (2, .ref (gB g + 347))] [] A := by
  unfold fX5_reasonAgainstServing at h
  refine j_aload_n (j := 0) dX5_reasonAgainstServing_0 rfl rfl ?_
  refine j_iload_n (j := 1) dX5_reasonAgainstServing_1 rfl rfl ?_
  obtain ⟨z2, e1, h⟩ := obind_elim h
  refine j_callV MX5_150 YX5_hasOrder IX5_hasOrder SX5_hasOrder (by decide) rfl (by decide) (by omega) (Nat.le_of_ble_eq_true rfl) rfl (ctX5_hasOrder (d := d - 1) hl (by omega) hy0 hx1 e1) dX5_reasonAgainstServing_2 hy0.1 hy0.lt hy0.ka rfl (fun z3 _ => ?_)
  by_cases c5 : z2 = 0
  · rw [if_pos c5] at h
    refine j_if_eq_t (bool_inR z3) dX5_reasonAgainstServing_5 (tgt := 20) (by decide) c5 ?_
    refine j_iconst dX5_reasonAgainstServing_20 ?_
    cases h
    exact j_iret dX5_reasonAgainstServing_21 rfl rfl rfl (inR_lit _ rfl)
  · rw [if_neg c5] at h
    refine j_if_eq_f (bool_inR z3) dX5_reasonAgainstServing_5 (tgt := 20) (by decide) c5 ?_
    refine j_aload_n (j := 0) dX5_reasonAgainstServing_8 rfl rfl ?_
    refine j_getR (q := (y0 + 3)) FX5_20 rfl dX5_reasonAgainstServing_9 hy0.1 hy0.2.1 hy0.2.2 (lay5 hy0 (by decide)) (by omega) ?_
    refine j_iload_n (j := 1) dX5_reasonAgainstServing_12 rfl rfl ?_
    obtain ⟨c6, h⟩ := chk_elim h
    have v7 : VK 3 (y0 + 6 + x1.toNat) := (VK.o hy0 c6)
    refine j_aald (q := (y0 + 6 + x1.toNat)) hx1 (by decide) (by decide) (by decide) (by decide) dX5_reasonAgainstServing_13 (VK.f3 hy0).1 (VK.f3 hy0).2.1 (VK.f3 hy0).2.2 c6 (lay13 hy0 c6) (by omega) ?_
    refine j_getI FX5_128 rfl dX5_reasonAgainstServing_14 v7.1 v7.lt v7.ka (fun r8 => ?_)
    by_cases c9 : (gI A (y0 + 6 + x1.toNat) 5) = 0
    · rw [if_pos c9] at h
      refine j_if_eq_t r8 dX5_reasonAgainstServing_17 (tgt := 22) (by decide) c9 ?_
      refine j_aload_n (j := 0) dX5_reasonAgainstServing_22 rfl rfl ?_
      refine j_getR (q := (y0 + 3)) FX5_20 rfl dX5_reasonAgainstServing_23 hy0.1 hy0.2.1 hy0.2.2 (lay5 hy0 (by decide)) (by omega) ?_
      refine j_iload_n (j := 1) dX5_reasonAgainstServing_26 rfl rfl ?_
      obtain ⟨c10, h⟩ := chk_elim h
      have v11 : VK 3 (y0 + 6 + x1.toNat) := (VK.o hy0 c10)
      refine j_aald (q := (y0 + 6 + x1.toNat)) hx1 (by decide) (by decide) (by decide) (by decide) dX5_reasonAgainstServing_27 (VK.f3 hy0).1 (VK.f3 hy0).2.1 (VK.f3 hy0).2.2 c10 (lay13 hy0 c10) (by omega) ?_
      refine j_astore_n (lv' := [(3, .ref (gB g + (y0 + 6 + x1.toNat))), (0, .ref (gB g + y0)), (1, vI x1), (2, .ref (gB g + 347))]) dX5_reasonAgainstServing_28 rfl (by decide) (by first | rfl | (simp only [List.all_cons, List.all_nil, rv_cat]; rfl)) rfl ?_
      refine j_aload_n (j := 1) dX5_reasonAgainstServing_29 rfl rfl ?_
      refine j_aload_n (j := 0) dX5_reasonAgainstServing_30 rfl rfl ?_
      refine j_aload_n (j := 1) dX5_reasonAgainstServing_31 rfl rfl ?_
      refine j_getI FX5_51 rfl dX5_reasonAgainstServing_32 hy0.1 hy0.lt hy0.ka (fun r12 => ?_)
      refine j_aload_n (j := 1) dX5_reasonAgainstServing_35 rfl rfl ?_
      refine j_aload_n (j := 0) dX5_reasonAgainstServing_36 rfl rfl ?_
      obtain ⟨z14, e13, h⟩ := obind_elim h
      refine j_callV MX5_218 YX5_fromAnyWay IX5_fromAnyWay SX5_fromAnyWay (by decide) rfl (by decide) (by omega) (Nat.le_of_ble_eq_true rfl) rfl (ctX5_fromAnyWay (d := d - 1) hl (by omega) hy0 v11 e13) dX5_reasonAgainstServing_37 hy0.1 hy0.lt hy0.ka rfl (fun z15 _ => ?_)
      refine j_mmax r12 z15 MX5_102 MMmaxa MMi MMmaxc dX5_reasonAgainstServing_40 (Nat.le_of_ble_eq_true rfl) (by omega) ?_
      obtain ⟨z18, e17, h⟩ := obind_elim h
      refine j_callV MX5_222 YX5_firstOfWindow IX5_firstOfWindow SX5_firstOfWindow (by decide) rfl (by decide) (by omega) (Nat.le_of_ble_eq_true rfl) rfl (ctX5_firstOfWindow (d := d - 1) hl (by omega) hy0 v11 (max_inR r12 z15) e17) dX5_reasonAgainstServing_43 hy0.1 hy0.lt hy0.ka rfl (fun z19 _ => ?_)
      refine j_istore (lv' := [(4, vI z18), (3, .ref (gB g + (y0 + 6 + x1.toNat))), (0, .ref (gB g + y0)), (1, vI x1), (2, .ref (gB g + 347))]) dX5_reasonAgainstServing_46 (by decide) (by first | rfl | (simp only [List.all_cons, List.all_nil, rv_cat]; rfl)) rfl ?_
      refine j_iload (j := 0) dX5_reasonAgainstServing_48 rfl ?_
      refine j_iconst dX5_reasonAgainstServing_50 ?_
      by_cases c21 : z18 = (-1)
      · rw [if_pos c21] at h
        refine j_icmp_ne_f z19 (inR_lit _ rfl) dX5_reasonAgainstServing_51 (tgt := 57) (by decide) (fun q => q c21) ?_
        refine j_bipush dX5_reasonAgainstServing_54 rfl ?_
        cases h
        exact j_iret dX5_reasonAgainstServing_56 rfl rfl rfl (inR_lit _ rfl)
      · rw [if_neg c21] at h
        refine j_icmp_ne_t z19 (inR_lit _ rfl) dX5_reasonAgainstServing_51 (tgt := 57) (by decide) c21 ?_
        refine j_aload_n (j := 2) dX5_reasonAgainstServing_57 rfl rfl ?_
        refine j_aload_n (j := 1) dX5_reasonAgainstServing_58 rfl rfl ?_
        refine j_iload (j := 0) dX5_reasonAgainstServing_59 rfl ?_
        refine j_aload_n (j := 4) dX5_reasonAgainstServing_61 rfl rfl ?_
        obtain ⟨p23, e22, h⟩ := obind_elim h
        refine j_callV MX5_226 YX5_chooseWay IX5_chooseWay SX5_chooseWay (by decide) rfl (by decide) (by omega) (Nat.le_of_ble_eq_true rfl) rfl (ctX5_chooseWay (d := d - 1) hl (by omega) hy0 v11 z19 e22) dX5_reasonAgainstServing_62 hy0.1 hy0.lt hy0.ka rfl (fun z24 xt25 => ?_)
        by_cases c26 : p23.1 = 0
        · rw [if_pos c26] at h
          refine j_if_eq_t (bool_inR z24) dX5_reasonAgainstServing_65 (tgt := 72) (by decide) c26 ?_
          refine j_bipush dX5_reasonAgainstServing_72 rfl ?_
          cases h
          exact j_iret dX5_reasonAgainstServing_74 rfl rfl rfl (inR_lit _ rfl)
        · rw [if_neg c26] at h
          refine j_if_eq_f (bool_inR z24) dX5_reasonAgainstServing_65 (tgt := 72) (by decide) c26 ?_
          refine j_iconst dX5_reasonAgainstServing_68 ?_
          refine j_goto (tgt := 74) dX5_reasonAgainstServing_69 (by decide) ?_
          cases h
          exact j_iret dX5_reasonAgainstServing_74 rfl rfl rfl (inR_lit _ rfl)
    · rw [if_neg c9] at h
      refine j_if_eq_f r8 dX5_reasonAgainstServing_17 (tgt := 22) (by decide) c9 ?_
      refine j_iconst dX5_reasonAgainstServing_20 ?_
      cases h
      exact j_iret dX5_reasonAgainstServing_21 rfl rfl rfl (inR_lit _ rfl)
theorem ctX5_reasonAgainstServing {g : JG} {l : Launch} {d N : Nat} {A : AH} {out : Int × AH} {y0 : Nat} {x1 : Int} (hl : l.stackTraces = false) (hd : 5 ≤ d) (hy0 : VK 5 y0) (hx1 : inR x1) (h : fX5_reasonAgainstServing N A y0 x1 = some out) : CT g l yX5_reasonAgainstServing cX5_reasonAgainstServing 5 (some .int) d [.ref (gB g + y0), vI x1, .ref (gB g + 347)] A ((0, some (vI out.1), out.2) : JO) (inR out.1) :=
  CT_of (by decide +kernel) hl (by first | exact Nat.le_of_ble_eq_true rfl | (unfold rv; split <;> exact Nat.le_of_ble_eq_true rfl)) (by first | rfl | (unfold rv; split <;> rfl)) (j_sub (lv := [(0, .ref (gB g + y0)), (1, vI x1), (2, .ref (gB g + 347))]) [0, 1, 2] rfl (tX5_reasonAgainstServing_0 hl hd hy0 hx1 h))
set_option maxRecDepth 100000 in
theorem tX5_take_33 {g : JG} {l : Launch} {d N n0 s0 : Nat} {out : AH} {A : AH} {y0 : Nat} {x1 : Int} (hl : l.stackTraces = false) (hd : 5 ≤ d) (hy0 : VK 5 y0) (hx1 : inR x1) (h : fX5_take_33 N A y0 x1 = some out) : J g l d RX5 "take" cX5_take 3 none n0 s0 ((0, none, out) : JO) (True) 33 [(0, .ref (gB g + y0)), (1, vI x1), (2, .ref (gB g + 347))] [] A := by
  unfold fX5_take_33 at h
  refine j_aload_n (j := 0) dX5_take_33 rfl rfl ?_
  refine j_iload_n (j := 1) dX5_take_34 rfl rfl ?_
  refine j_aload_n (j := 2) dX5_take_35 rfl rfl ?_
  refine j_getI FX5_242 rfl dX5_take_36 (VK_c 7 347 rfl).1 (VK_c 7 347 rfl).lt (VK_c 7 347 rfl).ka (fun r1 => ?_)
  refine j_aload_n (j := 2) dX5_take_39 rfl rfl ?_
  refine j_getI FX5_239 rfl dX5_take_40 (VK_c 7 347 rfl).1 (VK_c 7 347 rfl).lt (VK_c 7 347 rfl).ka (fun r2 => ?_)
  obtain ⟨p4, e3, h⟩ := obind_elim h
  refine j_callV MX5_246 YX5_addTrip IX5_addTrip SX5_addTrip (by decide) rfl (by decide) (by omega) (Nat.le_of_ble_eq_true rfl) rfl (ctX5_addTrip (d := d - 1) hl (by omega) hy0 hx1 r1 r2 e3) dX5_take_43 hy0.1 hy0.lt hy0.ka rfl (fun z5 xt6 => ?_)
  cases h
  exact j_vret dX5_take_46 rfl rfl trivial
set_option maxRecDepth 100000 in
theorem tX5_take_0 {g : JG} {l : Launch} {d N n0 s0 : Nat} {out : AH} {A : AH} {y0 : Nat} {x1 : Int} (hl : l.stackTraces = false) (hd : 5 ≤ d) (hy0 : VK 5 y0) (hx1 : inR x1) (h : fX5_take N A y0 x1 = some out) : J g l d RX5 "take" cX5_take 3 none n0 s0 ((0, none, out) : JO) (True) 0 [(0, .ref (gB g + y0)), (1, vI x1), (2, .ref (gB g + 347))] [] A := by
  unfold fX5_take at h
  refine j_aload_n (j := 2) dX5_take_0 rfl rfl ?_
  refine j_getI FX5_236 rfl dX5_take_1 (VK_c 7 347 rfl).1 (VK_c 7 347 rfl).lt (VK_c 7 347 rfl).ka (fun r1 => ?_)
  refine j_iconst dX5_take_4 ?_
  by_cases c2 : (gI A 347 2) = (-1)
  · rw [if_pos c2] at h
    refine j_icmp_eq_t r1 (inR_lit _ rfl) dX5_take_5 (tgt := 33) (by decide) c2 ?_
    exact j_sub [0, 1, 2] rfl (tX5_take_33 hl (by omega) hy0 hx1  h)
  · rw [if_neg c2] at h
    refine j_icmp_eq_f r1 (inR_lit _ rfl) dX5_take_5 (tgt := 33) (by decide) c2 ?_
    refine j_aload_n (j := 0) dX5_take_8 rfl rfl ?_
    refine j_aload_n (j := 2) dX5_take_9 rfl rfl ?_
    refine j_getI FX5_236 rfl dX5_take_10 (VK_c 7 347 rfl).1 (VK_c 7 347 rfl).lt (VK_c 7 347 rfl).ka (fun r3 => ?_)
    refine j_aload_n (j := 2) dX5_take_13 rfl rfl ?_
    refine j_getI FX5_239 rfl dX5_take_14 (VK_c 7 347 rfl).1 (VK_c 7 347 rfl).lt (VK_c 7 347 rfl).ka (fun r4 => ?_)
    refine j_aload_n (j := 0) dX5_take_17 rfl rfl ?_
    refine j_getR (q := (y0 + 1)) FX5_9 rfl dX5_take_18 hy0.1 hy0.2.1 hy0.2.2 (lay5 hy0 (by decide)) (by omega) ?_
    refine j_iconst dX5_take_21 ?_
    refine j_iald (inR_lit _ rfl) (by decide) (by decide) rfl dX5_take_22 (VK.f1 hy0).1 (VK.f1 hy0).lt (VK.f1 hy0).ka (by decide) (fun r5 => ?_)
    refine j_isub dX5_take_23 ?_
    refine j_iconst dX5_take_24 ?_
    refine j_aload_n (j := 2) dX5_take_25 rfl rfl ?_
    refine j_getI FX5_242 rfl dX5_take_26 (VK_c 7 347 rfl).1 (VK_c 7 347 rfl).lt (VK_c 7 347 rfl).ka (fun r6 => ?_)
    refine j_ishl dX5_take_29 ?_
    obtain ⟨p8, e7, h⟩ := obind_elim h
    refine j_callV MX5_243 YX5_addRun IX5_addRun SX5_addRun (by decide) rfl (by decide) (by omega) (Nat.le_of_ble_eq_true rfl) rfl (ctX5_addRun (d := d - 1) hl (by omega) hy0 r3 (wrap_inR _) (iShl_inR _ _) e7) dX5_take_30 hy0.1 hy0.lt hy0.ka rfl (fun z9 xt10 => ?_)
    exact j_sub [0, 1, 2] rfl (tX5_take_33 hl (by omega) hy0 hx1  h)
theorem ctX5_take {g : JG} {l : Launch} {d N : Nat} {A : AH} {out : AH} {y0 : Nat} {x1 : Int} (hl : l.stackTraces = false) (hd : 5 ≤ d) (hy0 : VK 5 y0) (hx1 : inR x1) (h : fX5_take N A y0 x1 = some out) : CT g l yX5_take cX5_take 3 none d [.ref (gB g + y0), vI x1, .ref (gB g + 347)] A ((0, none, out) : JO) (True) :=
  CT_of (by decide +kernel) hl (by first | exact Nat.le_of_ble_eq_true rfl | (unfold rv; split <;> exact Nat.le_of_ble_eq_true rfl)) (by first | rfl | (unfold rv; split <;> rfl)) (j_sub (lv := [(0, .ref (gB g + y0)), (1, vI x1), (2, .ref (gB g + 347))]) [0, 1, 2] rfl (tX5_take_0 hl hd hy0 hx1 h))
set_option maxRecDepth 100000 in
theorem tX5_lineUp_33 {g : JG} {l : Launch} {d N n0 s0 : Nat} {out : Int × AH} {y0 : Nat} {y1 : Nat} {x2 : Int} {x3 : Int} {k4 : AH → Int → Int → Option (Int × AH)} (hl : l.stackTraces = false) (hd : 2 ≤ d) (hy0 : VK 5 y0) (hy1 : VI y1) (hx2 : inR x2) (hx3 : inR x3) (hk4 : ∀ (A : AH) (x2 : Int) (x3 : Int), inR x2 → inR x3 → k4 A x2 x3 = some out → J g l d RX5 "lineUp" cX5_lineUp 5 (some .int) n0 s0 ((0, some (vI out.1), out.2) : JO) (inR out.1) 4 [(0, .ref (gB g + y0)), (1, .ref (gB g + y1)), (2, vI x2), (3, vI x3)] [] A) : ∀ (n : Nat) (A : AH) (x4 : Int), inR x4 → fX5_lineUp_33 N k4 y0 y1 x2 x3 n A x4 = some out → J g l d RX5 "lineUp" cX5_lineUp 5 (some .int) n0 s0 ((0, some (vI out.1), out.2) : JO) (inR out.1) 33 [(0, .ref (gB g + y0)), (1, .ref (gB g + y1)), (2, vI x2), (3, vI x3), (4, vI x4)] [] A := by
  intro n
  induction n with
  | zero =>
    intro A x4 hx4 h
    rw [fX5_lineUp_33] at h
    cases h
  | succ n ih =>
    intro A x4 hx4 h
    rw [fX5_lineUp_33] at h
    refine j_iload (j := 4) dX5_lineUp_33 rfl ?_
    by_cases c1 : x4 ≤ 0
    · rw [if_pos c1] at h
      refine j_if_le_t hx4 dX5_lineUp_35 (tgt := 77) (by decide) c1 ?_
      refine j_aload_n (j := 1) dX5_lineUp_77 rfl rfl ?_
      refine j_iload (j := 4) dX5_lineUp_78 rfl ?_
      refine j_iload_n (j := 3) dX5_lineUp_80 rfl rfl ?_
      obtain ⟨c2, h⟩ := chk_elim h
      obtain ⟨A3, eA3, h⟩ := bnd_elim h
      have xA3 : XT A A3 := by rw [eA3]; exact XT_sI _ _ _ _
      refine j_iast hx4 hx3 hy1.2.2.1 hy1.2.2.2.1 hy1.2.2.2.2 dX5_lineUp_81 hy1.1 hy1.lt hy1.ka c2 ?_
      refine j_hB eA3 ?_
      obtain ⟨u4, eu4, h⟩ := bnd_elim h
      have hu4 : inR u4 := by rw [eu4]; exact wrap_inR _
      refine j_iincN (k := 2) (lv' := [(2, vI u4), (0, .ref (gB g + y0)), (1, .ref (gB g + y1)), (3, vI x3), (4, vI x4)]) eu4 dX5_lineUp_82 rfl (by decide) (by first | rfl | (simp only [List.all_cons, List.all_nil, rv_cat]; rfl)) rfl ?_
      obtain ⟨u5, eu5, h⟩ := bnd_elim h
      have hu5 : inR u5 := by rw [eu5]; exact wrap_inR _
      refine j_iincN (k := 3) (lv' := [(3, vI u5), (2, vI u4), (0, .ref (gB g + y0)), (1, .ref (gB g + y1)), (4, vI x4)]) eu5 dX5_lineUp_85 rfl (by decide) (by first | rfl | (simp only [List.all_cons, List.all_nil, rv_cat]; rfl)) rfl ?_
      refine j_goto (tgt := 4) dX5_lineUp_88 (by decide) ?_
      exact j_sub [2, 3, 1, 0] rfl (hk4 A3 u4 u5 hu4 hu5 h)
    · rw [if_neg c1] at h
      refine j_if_le_f hx4 dX5_lineUp_35 (tgt := 77) (by decide) c1 ?_
      refine j_aload_n (j := 0) dX5_lineUp_38 rfl rfl ?_
      refine j_getR (q := (y0 + 3)) FX5_20 rfl dX5_lineUp_39 hy0.1 hy0.2.1 hy0.2.2 (lay5 hy0 (by decide)) (by omega) ?_
      refine j_iload_n (j := 3) dX5_lineUp_42 rfl rfl ?_
      obtain ⟨c6, h⟩ := chk_elim h
      have v7 : VK 3 (y0 + 6 + x3.toNat) := (VK.o hy0 c6)
      refine j_aald (q := (y0 + 6 + x3.toNat)) hx3 (by decide) (by decide) (by decide) (by decide) dX5_lineUp_43 (VK.f3 hy0).1 (VK.f3 hy0).2.1 (VK.f3 hy0).2.2 c6 (lay13 hy0 c6) (by omega) ?_
      refine j_aload_n (j := 0) dX5_lineUp_44 rfl rfl ?_
      refine j_getR (q := (y0 + 3)) FX5_20 rfl dX5_lineUp_45 hy0.1 hy0.2.1 hy0.2.2 (lay5 hy0 (by decide)) (by omega) ?_
      refine j_aload_n (j := 1) dX5_lineUp_48 rfl rfl ?_
      refine j_iload (j := 4) dX5_lineUp_49 rfl ?_
      refine j_iconst dX5_lineUp_51 ?_
      refine j_isub dX5_lineUp_52 ?_
      obtain ⟨c8, h⟩ := chk_elim h
      refine j_iald (wrap_inR _) hy1.2.2.1 hy1.2.2.2.1 hy1.2.2.2.2 dX5_lineUp_53 hy1.1 hy1.lt hy1.ka c8 (fun r9 => ?_)
      obtain ⟨c10, h⟩ := chk_elim h
      have v11 : VK 3 (y0 + 6 + (gI A y1 (wrap (x4 - 1)).toNat).toNat) := (VK.o hy0 c10)
      refine j_aald (q := (y0 + 6 + (gI A y1 (wrap (x4 - 1)).toNat).toNat)) r9 (by decide) (by decide) (by decide) (by decide) dX5_lineUp_54 (VK.f3 hy0).1 (VK.f3 hy0).2.1 (VK.f3 hy0).2.2 c10 (lay13 hy0 c10) (by omega) ?_
      obtain ⟨z13, e12, h⟩ := obind_elim h
      refine j_callV MX5_249 YX3_isMoreUrgentThan IX3_isMoreUrgentThan SX3_isMoreUrgentThan (by decide) rfl (by decide) (by omega) (Nat.le_of_ble_eq_true rfl) rfl (ctX3_isMoreUrgentThan (d := d - 1) hl (by omega) v7 v11 e12) dX5_lineUp_55 v7.1 v7.lt v7.ka rfl (fun z14 _ => ?_)
      by_cases c16 : z13 = 0
      · rw [if_pos c16] at h
        refine j_if_eq_t (bool_inR z14) dX5_lineUp_58 (tgt := 77) (by decide) c16 ?_
        refine j_aload_n (j := 1) dX5_lineUp_77 rfl rfl ?_
        refine j_iload (j := 4) dX5_lineUp_78 rfl ?_
        refine j_iload_n (j := 3) dX5_lineUp_80 rfl rfl ?_
        obtain ⟨c17, h⟩ := chk_elim h
        obtain ⟨A18, eA18, h⟩ := bnd_elim h
        have xA18 : XT A A18 := by rw [eA18]; exact XT_sI _ _ _ _
        refine j_iast hx4 hx3 hy1.2.2.1 hy1.2.2.2.1 hy1.2.2.2.2 dX5_lineUp_81 hy1.1 hy1.lt hy1.ka c17 ?_
        refine j_hB eA18 ?_
        obtain ⟨u19, eu19, h⟩ := bnd_elim h
        have hu19 : inR u19 := by rw [eu19]; exact wrap_inR _
        refine j_iincN (k := 2) (lv' := [(2, vI u19), (0, .ref (gB g + y0)), (1, .ref (gB g + y1)), (3, vI x3), (4, vI x4)]) eu19 dX5_lineUp_82 rfl (by decide) (by first | rfl | (simp only [List.all_cons, List.all_nil, rv_cat]; rfl)) rfl ?_
        obtain ⟨u20, eu20, h⟩ := bnd_elim h
        have hu20 : inR u20 := by rw [eu20]; exact wrap_inR _
        refine j_iincN (k := 3) (lv' := [(3, vI u20), (2, vI u19), (0, .ref (gB g + y0)), (1, .ref (gB g + y1)), (4, vI x4)]) eu20 dX5_lineUp_85 rfl (by decide) (by first | rfl | (simp only [List.all_cons, List.all_nil, rv_cat]; rfl)) rfl ?_
        refine j_goto (tgt := 4) dX5_lineUp_88 (by decide) ?_
        exact j_sub [2, 3, 1, 0] rfl (hk4 A18 u19 u20 hu19 hu20 h)
      · rw [if_neg c16] at h
        refine j_if_eq_f (bool_inR z14) dX5_lineUp_58 (tgt := 77) (by decide) c16 ?_
        refine j_aload_n (j := 1) dX5_lineUp_61 rfl rfl ?_
        refine j_iload (j := 4) dX5_lineUp_62 rfl ?_
        refine j_aload_n (j := 1) dX5_lineUp_64 rfl rfl ?_
        refine j_iload (j := 4) dX5_lineUp_65 rfl ?_
        refine j_iconst dX5_lineUp_67 ?_
        refine j_isub dX5_lineUp_68 ?_
        obtain ⟨c21, h⟩ := chk_elim h
        refine j_iald (wrap_inR _) hy1.2.2.1 hy1.2.2.2.1 hy1.2.2.2.2 dX5_lineUp_69 hy1.1 hy1.lt hy1.ka c21 (fun r22 => ?_)
        obtain ⟨c23, h⟩ := chk_elim h
        obtain ⟨A24, eA24, h⟩ := bnd_elim h
        have xA24 : XT A A24 := by rw [eA24]; exact XT_sI _ _ _ _
        refine j_iast hx4 r22 hy1.2.2.1 hy1.2.2.2.1 hy1.2.2.2.2 dX5_lineUp_70 hy1.1 hy1.lt hy1.ka c23 ?_
        refine j_hB eA24 ?_
        obtain ⟨u25, eu25, h⟩ := bnd_elim h
        have hu25 : inR u25 := by rw [eu25]; exact wrap_inR _
        refine j_iincN (k := 4) (lv' := [(4, vI u25), (0, .ref (gB g + y0)), (1, .ref (gB g + y1)), (2, vI x2), (3, vI x3)]) eu25 dX5_lineUp_71 rfl (by decide) (by first | rfl | (simp only [List.all_cons, List.all_nil, rv_cat]; rfl)) rfl ?_
        refine j_goto (tgt := 33) dX5_lineUp_74 (by decide) ?_
        exact j_sub [1, 2, 3, 4, 0] rfl (ih A24 u25 hu25 h)
