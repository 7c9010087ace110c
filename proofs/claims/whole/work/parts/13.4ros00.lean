set_option maxRecDepth 100000 in
theorem tX5_copyFrom_125 {g : JG} {l : Launch} {d N n0 s0 : Nat} {out : AH} {y0 : Nat} {y1 : Nat} (hl : l.stackTraces = false) (hd : 2 ≤ d) (hy0 : VK 5 y0) (hy1 : VK 5 y1) : ∀ (n : Nat) (A : AH) (x2 : Int), inR x2 → fX5_copyFrom_125 N y0 y1 n A x2 = some out → J g l d RX5 "copyFrom" cX5_copyFrom 3 none n0 s0 ((0, none, out) : JO) (True) 125 [(0, .ref (gB g + y0)), (1, .ref (gB g + y1)), (2, vI x2)] [] A := by
  intro n
  induction n with
  | zero =>
    intro A x2 hx2 h
    rw [fX5_copyFrom_125] at h
    cases h
  | succ n ih =>
    intro A x2 hx2 h
    rw [fX5_copyFrom_125] at h
    refine j_iload_n (j := 2) dX5_copyFrom_125 rfl rfl ?_
    refine j_aload_n (j := 0) dX5_copyFrom_126 rfl rfl ?_
    refine j_getI FX5_61 rfl dX5_copyFrom_127 hy0.1 hy0.lt hy0.ka (fun r1 => ?_)
    by_cases c2 : (gI A y0 8) ≤ x2
    · rw [if_pos c2] at h
      refine j_icmp_ge_t hx2 r1 dX5_copyFrom_130 (tgt := 154) (by decide) c2 ?_
      cases h
      exact j_vret dX5_copyFrom_154 rfl rfl trivial
    · rw [if_neg c2] at h
      refine j_icmp_ge_f hx2 r1 dX5_copyFrom_130 (tgt := 154) (by decide) c2 ?_
      refine j_aload_n (j := 0) dX5_copyFrom_133 rfl rfl ?_
      refine j_getR (q := (y0 + 5)) FX5_32 rfl dX5_copyFrom_134 hy0.1 hy0.2.1 hy0.2.2 (lay5 hy0 (by decide)) (by omega) ?_
      refine j_iload_n (j := 2) dX5_copyFrom_137 rfl rfl ?_
      obtain ⟨c3, h⟩ := chk_elim h
      have v4 : VK 0 (y0 + 28 + x2.toNat) := (VK.b hy0 c3)
      refine j_aald (q := (y0 + 28 + x2.toNat)) hx2 (by decide) (by decide) (by decide) (by decide) dX5_copyFrom_138 (VK.f5 hy0).1 (VK.f5 hy0).2.1 (VK.f5 hy0).2.2 c3 (lay15 hy0 c3) (by omega) ?_
      refine j_aload_n (j := 1) dX5_copyFrom_139 rfl rfl ?_
      refine j_getR (q := (y1 + 5)) FX5_32 rfl dX5_copyFrom_140 hy1.1 hy1.2.1 hy1.2.2 (lay5 hy1 (by decide)) (by omega) ?_
      refine j_iload_n (j := 2) dX5_copyFrom_143 rfl rfl ?_
      obtain ⟨c5, h⟩ := chk_elim h
      have v6 : VK 0 (y1 + 28 + x2.toNat) := (VK.b hy1 c5)
      refine j_aald (q := (y1 + 28 + x2.toNat)) hx2 (by decide) (by decide) (by decide) (by decide) dX5_copyFrom_144 (VK.f5 hy1).1 (VK.f5 hy1).2.1 (VK.f5 hy1).2.2 c5 (lay15 hy1 c5) (by omega) ?_
      obtain ⟨p8, e7, h⟩ := obind_elim h
      refine j_callV MX5_71 YX0_copyFrom IX0_copyFrom SX0_copyFrom (by decide) rfl (by decide) (by omega) (Nat.le_of_ble_eq_true rfl) rfl (ctX0_copyFrom (d := d - 1) hl (by omega) v4 v6 e7) dX5_copyFrom_145 v4.1 v4.lt v4.ka rfl (fun z9 xt10 => ?_)
      obtain ⟨u11, eu11, h⟩ := bnd_elim h
      have hu11 : inR u11 := by rw [eu11]; exact wrap_inR _
      refine j_iincN (k := 2) (lv' := [(2, vI u11), (0, .ref (gB g + y0)), (1, .ref (gB g + y1))]) eu11 dX5_copyFrom_148 rfl (by decide) (by first | rfl | (simp only [List.all_cons, List.all_nil, rv_cat]; rfl)) rfl ?_
      refine j_goto (tgt := 125) dX5_copyFrom_151 (by decide) ?_
      exact j_sub [1, 2, 0] rfl (ih p8 u11 hu11 h)
set_option maxRecDepth 100000 in
theorem tX5_copyFrom_94 {g : JG} {l : Launch} {d N n0 s0 : Nat} {out : AH} {y0 : Nat} {y1 : Nat} (hl : l.stackTraces = false) (hd : 2 ≤ d) (hy0 : VK 5 y0) (hy1 : VK 5 y1) : ∀ (n : Nat) (A : AH) (x2 : Int), inR x2 → fX5_copyFrom_94 N y0 y1 n A x2 = some out → J g l d RX5 "copyFrom" cX5_copyFrom 3 none n0 s0 ((0, none, out) : JO) (True) 94 [(0, .ref (gB g + y0)), (1, .ref (gB g + y1)), (2, vI x2)] [] A := by
  intro n
  induction n with
  | zero =>
    intro A x2 hx2 h
    rw [fX5_copyFrom_94] at h
    cases h
  | succ n ih =>
    intro A x2 hx2 h
    rw [fX5_copyFrom_94] at h
    refine j_iload_n (j := 2) dX5_copyFrom_94 rfl rfl ?_
    refine j_aload_n (j := 0) dX5_copyFrom_95 rfl rfl ?_
    refine j_getI FX5_58 rfl dX5_copyFrom_96 hy0.1 hy0.lt hy0.ka (fun r1 => ?_)
    by_cases c2 : (gI A y0 7) ≤ x2
    · rw [if_pos c2] at h
      refine j_icmp_ge_t hx2 r1 dX5_copyFrom_99 (tgt := 123) (by decide) c2 ?_
      refine j_iconst dX5_copyFrom_123 ?_
      refine j_istore_n (lv' := [(2, vI 0), (0, .ref (gB g + y0)), (1, .ref (gB g + y1))]) dX5_copyFrom_124 rfl (by decide) (by first | rfl | (simp only [List.all_cons, List.all_nil, rv_cat]; rfl)) rfl ?_
      exact j_sub [1, 2, 0] rfl (tX5_copyFrom_125 hl (by omega) hy0 hy1  N A 0 (inR_lit _ rfl) h)
    · rw [if_neg c2] at h
      refine j_icmp_ge_f hx2 r1 dX5_copyFrom_99 (tgt := 123) (by decide) c2 ?_
      refine j_aload_n (j := 0) dX5_copyFrom_102 rfl rfl ?_
      refine j_getR (q := (y0 + 4)) FX5_26 rfl dX5_copyFrom_103 hy0.1 hy0.2.1 hy0.2.2 (lay5 hy0 (by decide)) (by omega) ?_
      refine j_iload_n (j := 2) dX5_copyFrom_106 rfl rfl ?_
      obtain ⟨c3, h⟩ := chk_elim h
      have v4 : VK 4 (y0 + 22 + x2.toNat) := (VK.p hy0 c3)
      refine j_aald (q := (y0 + 22 + x2.toNat)) hx2 (by decide) (by decide) (by decide) (by decide) dX5_copyFrom_107 (VK.f4 hy0).1 (VK.f4 hy0).2.1 (VK.f4 hy0).2.2 c3 (lay14 hy0 c3) (by omega) ?_
      refine j_aload_n (j := 1) dX5_copyFrom_108 rfl rfl ?_
      refine j_getR (q := (y1 + 4)) FX5_26 rfl dX5_copyFrom_109 hy1.1 hy1.2.1 hy1.2.2 (lay5 hy1 (by decide)) (by omega) ?_
      refine j_iload_n (j := 2) dX5_copyFrom_112 rfl rfl ?_
      obtain ⟨c5, h⟩ := chk_elim h
      have v6 : VK 4 (y1 + 22 + x2.toNat) := (VK.p hy1 c5)
      refine j_aald (q := (y1 + 22 + x2.toNat)) hx2 (by decide) (by decide) (by decide) (by decide) dX5_copyFrom_113 (VK.f4 hy1).1 (VK.f4 hy1).2.1 (VK.f4 hy1).2.2 c5 (lay14 hy1 c5) (by omega) ?_
      obtain ⟨p8, e7, h⟩ := obind_elim h
      refine j_callV MX5_68 YX4_copyFrom IX4_copyFrom SX4_copyFrom (by decide) rfl (by decide) (by omega) (Nat.le_of_ble_eq_true rfl) rfl (ctX4_copyFrom (d := d - 1) hl (by omega) v4 v6 e7) dX5_copyFrom_114 v4.1 v4.lt v4.ka rfl (fun z9 xt10 => ?_)
      obtain ⟨u11, eu11, h⟩ := bnd_elim h
      have hu11 : inR u11 := by rw [eu11]; exact wrap_inR _
      refine j_iincN (k := 2) (lv' := [(2, vI u11), (0, .ref (gB g + y0)), (1, .ref (gB g + y1))]) eu11 dX5_copyFrom_117 rfl (by decide) (by first | rfl | (simp only [List.all_cons, List.all_nil, rv_cat]; rfl)) rfl ?_
      refine j_goto (tgt := 94) dX5_copyFrom_120 (by decide) ?_
      exact j_sub [1, 2, 0] rfl (ih p8 u11 hu11 h)
set_option maxRecDepth 100000 in
theorem tX5_copyFrom_63 {g : JG} {l : Launch} {d N n0 s0 : Nat} {out : AH} {y0 : Nat} {y1 : Nat} (hl : l.stackTraces = false) (hd : 2 ≤ d) (hy0 : VK 5 y0) (hy1 : VK 5 y1) : ∀ (n : Nat) (A : AH) (x2 : Int), inR x2 → fX5_copyFrom_63 N y0 y1 n A x2 = some out → J g l d RX5 "copyFrom" cX5_copyFrom 3 none n0 s0 ((0, none, out) : JO) (True) 63 [(0, .ref (gB g + y0)), (1, .ref (gB g + y1)), (2, vI x2)] [] A := by
  intro n
  induction n with
  | zero =>
    intro A x2 hx2 h
    rw [fX5_copyFrom_63] at h
    cases h
  | succ n ih =>
    intro A x2 hx2 h
    rw [fX5_copyFrom_63] at h
    refine j_iload_n (j := 2) dX5_copyFrom_63 rfl rfl ?_
    refine j_aload_n (j := 0) dX5_copyFrom_64 rfl rfl ?_
    refine j_getI FX5_55 rfl dX5_copyFrom_65 hy0.1 hy0.lt hy0.ka (fun r1 => ?_)
    by_cases c2 : (gI A y0 6) ≤ x2
    · rw [if_pos c2] at h
      refine j_icmp_ge_t hx2 r1 dX5_copyFrom_68 (tgt := 92) (by decide) c2 ?_
      refine j_iconst dX5_copyFrom_92 ?_
      refine j_istore_n (lv' := [(2, vI 0), (0, .ref (gB g + y0)), (1, .ref (gB g + y1))]) dX5_copyFrom_93 rfl (by decide) (by first | rfl | (simp only [List.all_cons, List.all_nil, rv_cat]; rfl)) rfl ?_
      exact j_sub [1, 2, 0] rfl (tX5_copyFrom_94 hl (by omega) hy0 hy1  N A 0 (inR_lit _ rfl) h)
    · rw [if_neg c2] at h
      refine j_icmp_ge_f hx2 r1 dX5_copyFrom_68 (tgt := 92) (by decide) c2 ?_
      refine j_aload_n (j := 0) dX5_copyFrom_71 rfl rfl ?_
      refine j_getR (q := (y0 + 3)) FX5_20 rfl dX5_copyFrom_72 hy0.1 hy0.2.1 hy0.2.2 (lay5 hy0 (by decide)) (by omega) ?_
      refine j_iload_n (j := 2) dX5_copyFrom_75 rfl rfl ?_
      obtain ⟨c3, h⟩ := chk_elim h
      have v4 : VK 3 (y0 + 6 + x2.toNat) := (VK.o hy0 c3)
      refine j_aald (q := (y0 + 6 + x2.toNat)) hx2 (by decide) (by decide) (by decide) (by decide) dX5_copyFrom_76 (VK.f3 hy0).1 (VK.f3 hy0).2.1 (VK.f3 hy0).2.2 c3 (lay13 hy0 c3) (by omega) ?_
      refine j_aload_n (j := 1) dX5_copyFrom_77 rfl rfl ?_
      refine j_getR (q := (y1 + 3)) FX5_20 rfl dX5_copyFrom_78 hy1.1 hy1.2.1 hy1.2.2 (lay5 hy1 (by decide)) (by omega) ?_
      refine j_iload_n (j := 2) dX5_copyFrom_81 rfl rfl ?_
      obtain ⟨c5, h⟩ := chk_elim h
      have v6 : VK 3 (y1 + 6 + x2.toNat) := (VK.o hy1 c5)
      refine j_aald (q := (y1 + 6 + x2.toNat)) hx2 (by decide) (by decide) (by decide) (by decide) dX5_copyFrom_82 (VK.f3 hy1).1 (VK.f3 hy1).2.1 (VK.f3 hy1).2.2 c5 (lay13 hy1 c5) (by omega) ?_
      obtain ⟨p8, e7, h⟩ := obind_elim h
      refine j_callV MX5_64 YX3_copyFrom IX3_copyFrom SX3_copyFrom (by decide) rfl (by decide) (by omega) (Nat.le_of_ble_eq_true rfl) rfl (ctX3_copyFrom (d := d - 1) hl (by omega) v4 v6 e7) dX5_copyFrom_83 v4.1 v4.lt v4.ka rfl (fun z9 xt10 => ?_)
      obtain ⟨u11, eu11, h⟩ := bnd_elim h
      have hu11 : inR u11 := by rw [eu11]; exact wrap_inR _
      refine j_iincN (k := 2) (lv' := [(2, vI u11), (0, .ref (gB g + y0)), (1, .ref (gB g + y1))]) eu11 dX5_copyFrom_86 rfl (by decide) (by first | rfl | (simp only [List.all_cons, List.all_nil, rv_cat]; rfl)) rfl ?_
      refine j_goto (tgt := 63) dX5_copyFrom_89 (by decide) ?_
      exact j_sub [1, 2, 0] rfl (ih p8 u11 hu11 h)
set_option maxRecDepth 100000 in
theorem tX5_copyFrom_0 {g : JG} {l : Launch} {d N n0 s0 : Nat} {out : AH} {A : AH} {y0 : Nat} {y1 : Nat} (hl : l.stackTraces = false) (hd : 2 ≤ d) (hy0 : VK 5 y0) (hy1 : VK 5 y1) (h : fX5_copyFrom N A y0 y1 = some out) : J g l d RX5 "copyFrom" cX5_copyFrom 3 none n0 s0 ((0, none, out) : JO) (True) 0 [(0, .ref (gB g + y0)), (1, .ref (gB g + y1))] [] A := by
  unfold fX5_copyFrom at h
  refine j_aload_n (j := 0) dX5_copyFrom_0 rfl rfl ?_
  refine j_aload_n (j := 1) dX5_copyFrom_1 rfl rfl ?_
  refine j_getI FX5_51 rfl dX5_copyFrom_2 hy1.1 hy1.lt hy1.ka (fun r1 => ?_)
  obtain ⟨A2, eA2, h⟩ := bnd_elim h
  have xA2 : XT A A2 := by rw [eA2]; exact XT_sI _ _ _ _
  refine j_putI FX5_51 rfl rfl rfl r1 dX5_copyFrom_5 hy0.1 hy0.lt hy0.ka ?_
  refine j_hB eA2 ?_
  refine j_aload_n (j := 0) dX5_copyFrom_8 rfl rfl ?_
  refine j_aload_n (j := 1) dX5_copyFrom_9 rfl rfl ?_
  refine j_getI FX5_55 rfl dX5_copyFrom_10 hy1.1 hy1.lt hy1.ka (fun r3 => ?_)
  obtain ⟨A4, eA4, h⟩ := bnd_elim h
  have xA4 : XT A2 A4 := by rw [eA4]; exact XT_sI _ _ _ _
  refine j_putI FX5_55 rfl rfl rfl r3 dX5_copyFrom_13 hy0.1 hy0.lt hy0.ka ?_
  refine j_hB eA4 ?_
  refine j_aload_n (j := 0) dX5_copyFrom_16 rfl rfl ?_
  refine j_aload_n (j := 1) dX5_copyFrom_17 rfl rfl ?_
  refine j_getI FX5_58 rfl dX5_copyFrom_18 hy1.1 hy1.lt hy1.ka (fun r5 => ?_)
  obtain ⟨A6, eA6, h⟩ := bnd_elim h
  have xA6 : XT A4 A6 := by rw [eA6]; exact XT_sI _ _ _ _
  refine j_putI FX5_58 rfl rfl rfl r5 dX5_copyFrom_21 hy0.1 hy0.lt hy0.ka ?_
  refine j_hB eA6 ?_
  refine j_aload_n (j := 0) dX5_copyFrom_24 rfl rfl ?_
  refine j_aload_n (j := 1) dX5_copyFrom_25 rfl rfl ?_
  refine j_getI FX5_61 rfl dX5_copyFrom_26 hy1.1 hy1.lt hy1.ka (fun r7 => ?_)
  obtain ⟨A8, eA8, h⟩ := bnd_elim h
  have xA8 : XT A6 A8 := by rw [eA8]; exact XT_sI _ _ _ _
  refine j_putI FX5_61 rfl rfl rfl r7 dX5_copyFrom_29 hy0.1 hy0.lt hy0.ka ?_
  refine j_hB eA8 ?_
  refine j_aload_n (j := 1) dX5_copyFrom_32 rfl rfl ?_
  refine j_getR (q := (y1 + 1)) FX5_9 rfl dX5_copyFrom_33 hy1.1 hy1.2.1 hy1.2.2 (lay5 hy1 (by decide)) (by omega) ?_
  refine j_iconst dX5_copyFrom_36 ?_
  refine j_aload_n (j := 0) dX5_copyFrom_37 rfl rfl ?_
  refine j_getR (q := (y0 + 1)) FX5_9 rfl dX5_copyFrom_38 hy0.1 hy0.2.1 hy0.2.2 (lay5 hy0 (by decide)) (by omega) ?_
  refine j_iconst dX5_copyFrom_41 ?_
  refine j_iconst dX5_copyFrom_42 ?_
  obtain ⟨A9, eA9, h⟩ := bnd_elim h
  have xA9 : XT A8 A9 := by rw [eA9]; exact XT.rf _
  refine j_copyi (K := 11) (K0 := 11) (n := 5) MX5_39 ACnative ACstatic ACi dX5_copyFrom_43 (by decide) (inR_lit _ rfl) (by decide) (by decide) (by decide) (by decide) rfl rfl (VK.f1 hy0).1 (VK.f1 hy0).lt (VK.f1 hy0).ka (VK.f1 hy1).1 (VK.f1 hy1).lt (VK.f1 hy1).ka (by decide) (by decide) rfl (by omega) ?_
  refine j_hB eA9 ?_
  refine j_aload_n (j := 1) dX5_copyFrom_46 rfl rfl ?_
  refine j_getR (q := (y1 + 2)) FX5_15 rfl dX5_copyFrom_47 hy1.1 hy1.2.1 hy1.2.2 (lay5 hy1 (by decide)) (by omega) ?_
  refine j_iconst dX5_copyFrom_50 ?_
  refine j_aload_n (j := 0) dX5_copyFrom_51 rfl rfl ?_
  refine j_getR (q := (y0 + 2)) FX5_15 rfl dX5_copyFrom_52 hy0.1 hy0.2.1 hy0.2.2 (lay5 hy0 (by decide)) (by omega) ?_
  refine j_iconst dX5_copyFrom_55 ?_
  refine j_bipush dX5_copyFrom_56 rfl ?_
  obtain ⟨A10, eA10, h⟩ := bnd_elim h
  have xA10 : XT A9 A10 := by rw [eA10]; exact XT.rf _
  refine j_copyi (K := 12) (K0 := 12) (n := 12) MX5_39 ACnative ACstatic ACi dX5_copyFrom_58 (by decide) (inR_lit _ rfl) (by decide) (by decide) (by decide) (by decide) rfl rfl (VK.f2 hy0).1 (VK.f2 hy0).lt (VK.f2 hy0).ka (VK.f2 hy1).1 (VK.f2 hy1).lt (VK.f2 hy1).ka (by decide) (by decide) rfl (by omega) ?_
  refine j_hB eA10 ?_
  refine j_iconst dX5_copyFrom_61 ?_
  refine j_istore_n (lv' := [(2, vI 0), (0, .ref (gB g + y0)), (1, .ref (gB g + y1))]) dX5_copyFrom_62 rfl (by decide) (by first | rfl | (simp only [List.all_cons, List.all_nil, rv_cat]; rfl)) rfl ?_
  exact j_sub [1, 2, 0] rfl (tX5_copyFrom_63 hl (by omega) hy0 hy1  N A10 0 (inR_lit _ rfl) h)
theorem ctX5_copyFrom {g : JG} {l : Launch} {d N : Nat} {A : AH} {out : AH} {y0 : Nat} {y1 : Nat} (hl : l.stackTraces = false) (hd : 2 ≤ d) (hy0 : VK 5 y0) (hy1 : VK 5 y1) (h : fX5_copyFrom N A y0 y1 = some out) : CT g l yX5_copyFrom cX5_copyFrom 3 none d [.ref (gB g + y0), .ref (gB g + y1)] A ((0, none, out) : JO) (True) :=
  CT_of (by decide +kernel) hl (by first | exact Nat.le_of_ble_eq_true rfl | (unfold rv; split <;> exact Nat.le_of_ble_eq_true rfl)) (by first | rfl | (unfold rv; split <;> rfl)) (j_sub (lv := [(0, .ref (gB g + y0)), (1, .ref (gB g + y1))]) [0, 1] rfl (tX5_copyFrom_0 hl hd hy0 hy1 h))
set_option maxRecDepth 100000 in
theorem tX5_hasOrder_0 {g : JG} {l : Launch} {d N n0 s0 : Nat} {out : Int} {A : AH} {y0 : Nat} {x1 : Int} (hl : l.stackTraces = false) (hd : 1 ≤ d) (hy0 : VK 5 y0) (hx1 : inR x1) (h : fX5_hasOrder N A y0 x1 = some out) : J g l d RX5 "hasOrder" cX5_hasOrder 2 (some .boolean) n0 s0 ((0, some (vI out), A) : JO) ((out = 0 ∨ out = 1)) 0 [(0, .ref (gB g + y0)), (1, vI x1)] [] A := by
  unfold fX5_hasOrder at h
  refine j_iload_n (j := 1) dX5_hasOrder_0 rfl rfl ?_
  by_cases c1 : x1 < 0
  · rw [if_pos c1] at h
    refine j_if_lt_t hx1 dX5_hasOrder_1 (tgt := 16) (by decide) c1 ?_
    refine j_iconst dX5_hasOrder_16 ?_
    cases h
    exact j_iret dX5_hasOrder_17 rfl ((nar_bool (Or.inl rfl)).1) rfl (Or.inl rfl)
  · rw [if_neg c1] at h
    refine j_if_lt_f hx1 dX5_hasOrder_1 (tgt := 16) (by decide) c1 ?_
    refine j_iload_n (j := 1) dX5_hasOrder_4 rfl rfl ?_
    refine j_aload_n (j := 0) dX5_hasOrder_5 rfl rfl ?_
    refine j_getI FX5_55 rfl dX5_hasOrder_6 hy0.1 hy0.lt hy0.ka (fun r2 => ?_)
    by_cases c3 : (gI A y0 6) ≤ x1
    · rw [if_pos c3] at h
      refine j_icmp_ge_t hx1 r2 dX5_hasOrder_9 (tgt := 16) (by decide) c3 ?_
      refine j_iconst dX5_hasOrder_16 ?_
      cases h
      exact j_iret dX5_hasOrder_17 rfl ((nar_bool (Or.inl rfl)).1) rfl (Or.inl rfl)
    · rw [if_neg c3] at h
      refine j_icmp_ge_f hx1 r2 dX5_hasOrder_9 (tgt := 16) (by decide) c3 ?_
      refine j_iconst dX5_hasOrder_12 ?_
      refine j_goto (tgt := 17) dX5_hasOrder_13 (by decide) ?_
      cases h
      exact j_iret dX5_hasOrder_17 rfl ((nar_bool (Or.inr rfl)).1) rfl (Or.inr rfl)
theorem ctX5_hasOrder {g : JG} {l : Launch} {d N : Nat} {A : AH} {out : Int} {y0 : Nat} {x1 : Int} (hl : l.stackTraces = false) (hd : 1 ≤ d) (hy0 : VK 5 y0) (hx1 : inR x1) (h : fX5_hasOrder N A y0 x1 = some out) : CT g l yX5_hasOrder cX5_hasOrder 2 (some .boolean) d [.ref (gB g + y0), vI x1] A ((0, some (vI out), A) : JO) ((out = 0 ∨ out = 1)) :=
  CT_of (by decide +kernel) hl (by first | exact Nat.le_of_ble_eq_true rfl | (unfold rv; split <;> exact Nat.le_of_ble_eq_true rfl)) (by first | rfl | (unfold rv; split <;> rfl)) (j_sub (lv := [(0, .ref (gB g + y0)), (1, vI x1)]) [0, 1] rfl (tX5_hasOrder_0 hl hd hy0 hx1 h))
set_option maxRecDepth 100000 in
theorem tX5_hasPilot_0 {g : JG} {l : Launch} {d N n0 s0 : Nat} {out : Int} {A : AH} {y0 : Nat} {x1 : Int} (hl : l.stackTraces = false) (hd : 1 ≤ d) (hy0 : VK 5 y0) (hx1 : inR x1) (h : fX5_hasPilot N A y0 x1 = some out) : J g l d RX5 "hasPilot" cX5_hasPilot 2 (some .boolean) n0 s0 ((0, some (vI out), A) : JO) ((out = 0 ∨ out = 1)) 0 [(0, .ref (gB g + y0)), (1, vI x1)] [] A := by
  unfold fX5_hasPilot at h
  refine j_iload_n (j := 1) dX5_hasPilot_0 rfl rfl ?_
  by_cases c1 : x1 < 0
  · rw [if_pos c1] at h
    refine j_if_lt_t hx1 dX5_hasPilot_1 (tgt := 16) (by decide) c1 ?_
    refine j_iconst dX5_hasPilot_16 ?_
    cases h
    exact j_iret dX5_hasPilot_17 rfl ((nar_bool (Or.inl rfl)).1) rfl (Or.inl rfl)
  · rw [if_neg c1] at h
    refine j_if_lt_f hx1 dX5_hasPilot_1 (tgt := 16) (by decide) c1 ?_
    refine j_iload_n (j := 1) dX5_hasPilot_4 rfl rfl ?_
    refine j_aload_n (j := 0) dX5_hasPilot_5 rfl rfl ?_
    refine j_getI FX5_58 rfl dX5_hasPilot_6 hy0.1 hy0.lt hy0.ka (fun r2 => ?_)
    by_cases c3 : (gI A y0 7) ≤ x1
    · rw [if_pos c3] at h
      refine j_icmp_ge_t hx1 r2 dX5_hasPilot_9 (tgt := 16) (by decide) c3 ?_
      refine j_iconst dX5_hasPilot_16 ?_
      cases h
      exact j_iret dX5_hasPilot_17 rfl ((nar_bool (Or.inl rfl)).1) rfl (Or.inl rfl)
    · rw [if_neg c3] at h
      refine j_icmp_ge_f hx1 r2 dX5_hasPilot_9 (tgt := 16) (by decide) c3 ?_
      refine j_iconst dX5_hasPilot_12 ?_
      refine j_goto (tgt := 17) dX5_hasPilot_13 (by decide) ?_
      cases h
      exact j_iret dX5_hasPilot_17 rfl ((nar_bool (Or.inr rfl)).1) rfl (Or.inr rfl)
theorem ctX5_hasPilot {g : JG} {l : Launch} {d N : Nat} {A : AH} {out : Int} {y0 : Nat} {x1 : Int} (hl : l.stackTraces = false) (hd : 1 ≤ d) (hy0 : VK 5 y0) (hx1 : inR x1) (h : fX5_hasPilot N A y0 x1 = some out) : CT g l yX5_hasPilot cX5_hasPilot 2 (some .boolean) d [.ref (gB g + y0), vI x1] A ((0, some (vI out), A) : JO) ((out = 0 ∨ out = 1)) :=
  CT_of (by decide +kernel) hl (by first | exact Nat.le_of_ble_eq_true rfl | (unfold rv; split <;> exact Nat.le_of_ble_eq_true rfl)) (by first | rfl | (unfold rv; split <;> rfl)) (j_sub (lv := [(0, .ref (gB g + y0)), (1, vI x1)]) [0, 1] rfl (tX5_hasPilot_0 hl hd hy0 hx1 h))
set_option maxRecDepth 100000 in
theorem tX5_hasBoat_0 {g : JG} {l : Launch} {d N n0 s0 : Nat} {out : Int} {A : AH} {y0 : Nat} {x1 : Int} (hl : l.stackTraces = false) (hd : 1 ≤ d) (hy0 : VK 5 y0) (hx1 : inR x1) (h : fX5_hasBoat N A y0 x1 = some out) : J g l d RX5 "hasBoat" cX5_hasBoat 2 (some .boolean) n0 s0 ((0, some (vI out), A) : JO) ((out = 0 ∨ out = 1)) 0 [(0, .ref (gB g + y0)), (1, vI x1)] [] A := by
  unfold fX5_hasBoat at h
  refine j_iload_n (j := 1) dX5_hasBoat_0 rfl rfl ?_
  by_cases c1 : x1 < 0
  · rw [if_pos c1] at h
    refine j_if_lt_t hx1 dX5_hasBoat_1 (tgt := 16) (by decide) c1 ?_
    refine j_iconst dX5_hasBoat_16 ?_
    cases h
    exact j_iret dX5_hasBoat_17 rfl ((nar_bool (Or.inl rfl)).1) rfl (Or.inl rfl)
  · rw [if_neg c1] at h
    refine j_if_lt_f hx1 dX5_hasBoat_1 (tgt := 16) (by decide) c1 ?_
    refine j_iload_n (j := 1) dX5_hasBoat_4 rfl rfl ?_
    refine j_aload_n (j := 0) dX5_hasBoat_5 rfl rfl ?_
    refine j_getI FX5_61 rfl dX5_hasBoat_6 hy0.1 hy0.lt hy0.ka (fun r2 => ?_)
    by_cases c3 : (gI A y0 8) ≤ x1
    · rw [if_pos c3] at h
      refine j_icmp_ge_t hx1 r2 dX5_hasBoat_9 (tgt := 16) (by decide) c3 ?_
      refine j_iconst dX5_hasBoat_16 ?_
      cases h
      exact j_iret dX5_hasBoat_17 rfl ((nar_bool (Or.inl rfl)).1) rfl (Or.inl rfl)
    · rw [if_neg c3] at h
      refine j_icmp_ge_f hx1 r2 dX5_hasBoat_9 (tgt := 16) (by decide) c3 ?_
      refine j_iconst dX5_hasBoat_12 ?_
      refine j_goto (tgt := 17) dX5_hasBoat_13 (by decide) ?_
      cases h
      exact j_iret dX5_hasBoat_17 rfl ((nar_bool (Or.inr rfl)).1) rfl (Or.inr rfl)
theorem ctX5_hasBoat {g : JG} {l : Launch} {d N : Nat} {A : AH} {out : Int} {y0 : Nat} {x1 : Int} (hl : l.stackTraces = false) (hd : 1 ≤ d) (hy0 : VK 5 y0) (hx1 : inR x1) (h : fX5_hasBoat N A y0 x1 = some out) : CT g l yX5_hasBoat cX5_hasBoat 2 (some .boolean) d [.ref (gB g + y0), vI x1] A ((0, some (vI out), A) : JO) ((out = 0 ∨ out = 1)) :=
  CT_of (by decide +kernel) hl (by first | exact Nat.le_of_ble_eq_true rfl | (unfold rv; split <;> exact Nat.le_of_ble_eq_true rfl)) (by first | rfl | (unfold rv; split <;> rfl)) (j_sub (lv := [(0, .ref (gB g + y0)), (1, vI x1)]) [0, 1] rfl (tX5_hasBoat_0 hl hd hy0 hx1 h))
set_option maxRecDepth 100000 in
theorem tX5_makePilot_0 {g : JG} {l : Launch} {d N n0 s0 : Nat} {out : Int × AH} {A : AH} {y0 : Nat} {x1 : Int} (hl : l.stackTraces = false) (hd : 2 ≤ d) (hy0 : VK 5 y0) (hx1 : inR x1) (h : fX5_makePilot N A y0 x1 = some out) : J g l d RX5 "makePilot" cX5_makePilot 3 (some .int) n0 s0 ((0, some (vI out.1), out.2) : JO) (inR out.1) 0 [(0, .ref (gB g + y0)), (1, vI x1)] [] A := by
  unfold fX5_makePilot at h
  refine j_aload_n (j := 0) dX5_makePilot_0 rfl rfl ?_
  refine j_getI FX5_58 rfl dX5_makePilot_1 hy0.1 hy0.lt hy0.ka (fun r1 => ?_)
  obtain ⟨u2, eu2, h⟩ := bnd_elim h
  have hu2 : inR u2 := by rw [eu2]; exact r1
  refine j_nm eu2 ?_
  refine j_istore_n (lv' := [(2, vI u2), (0, .ref (gB g + y0)), (1, vI x1)]) dX5_makePilot_4 rfl (by decide) (by first | rfl | (simp only [List.all_cons, List.all_nil, rv_cat]; rfl)) rfl ?_
  refine j_iload_n (j := 0) dX5_makePilot_5 rfl rfl ?_
  refine j_bipush dX5_makePilot_6 rfl ?_
  by_cases c3 : 6 ≤ u2
  · rw [if_pos c3] at h
    refine j_icmp_ge_t hu2 (inR_lit _ rfl) dX5_makePilot_8 (tgt := 31) (by decide) c3 ?_
    refine j_iload_n (j := 0) dX5_makePilot_31 rfl rfl ?_
    cases h
    exact j_iret dX5_makePilot_32 rfl rfl rfl hu2
  · rw [if_neg c3] at h
    refine j_icmp_ge_f hu2 (inR_lit _ rfl) dX5_makePilot_8 (tgt := 31) (by decide) c3 ?_
    refine j_aload_n (j := 1) dX5_makePilot_11 rfl rfl ?_
    refine j_getR (q := (y0 + 4)) FX5_26 rfl dX5_makePilot_12 hy0.1 hy0.2.1 hy0.2.2 (lay5 hy0 (by decide)) (by omega) ?_
    refine j_iload_n (j := 0) dX5_makePilot_15 rfl rfl ?_
    obtain ⟨c4, h⟩ := chk_elim h
    have v5 : VK 4 (y0 + 22 + u2.toNat) := (VK.p hy0 c4)
    refine j_aald (q := (y0 + 22 + u2.toNat)) hu2 (by decide) (by decide) (by decide) (by decide) dX5_makePilot_16 (VK.f4 hy0).1 (VK.f4 hy0).2.1 (VK.f4 hy0).2.2 c4 (lay14 hy0 c4) (by omega) ?_
    refine j_iload_n (j := 2) dX5_makePilot_17 rfl rfl ?_
    obtain ⟨p7, e6, h⟩ := obind_elim h
    refine j_callV MX5_74 YX4_start IX4_start SX4_start (by decide) rfl (by decide) (by omega) (Nat.le_of_ble_eq_true rfl) rfl (ctX4_start (d := d - 1) hl (by omega) v5 hx1 e6) dX5_makePilot_18 v5.1 v5.lt v5.ka rfl (fun z8 xt9 => ?_)
    refine j_aload_n (j := 1) dX5_makePilot_21 rfl rfl ?_
    refine j_dup dX5_makePilot_22 rfl ?_
    refine j_getI FX5_58 rfl dX5_makePilot_23 hy0.1 hy0.lt hy0.ka (fun r10 => ?_)
    refine j_iconst dX5_makePilot_26 ?_
    refine j_iadd dX5_makePilot_27 ?_
    obtain ⟨A11, eA11, h⟩ := bnd_elim h
    have xA11 : XT p7 A11 := by rw [eA11]; exact XT_sI _ _ _ _
    refine j_putI FX5_58 rfl rfl rfl (wrap_inR _) dX5_makePilot_28 hy0.1 hy0.lt hy0.ka ?_
    refine j_hB eA11 ?_
    refine j_iload_n (j := 0) dX5_makePilot_31 rfl rfl ?_
    cases h
    exact j_iret dX5_makePilot_32 rfl rfl rfl hu2
theorem ctX5_makePilot {g : JG} {l : Launch} {d N : Nat} {A : AH} {out : Int × AH} {y0 : Nat} {x1 : Int} (hl : l.stackTraces = false) (hd : 2 ≤ d) (hy0 : VK 5 y0) (hx1 : inR x1) (h : fX5_makePilot N A y0 x1 = some out) : CT g l yX5_makePilot cX5_makePilot 3 (some .int) d [.ref (gB g + y0), vI x1] A ((0, some (vI out.1), out.2) : JO) (inR out.1) :=
  CT_of (by decide +kernel) hl (by first | exact Nat.le_of_ble_eq_true rfl | (unfold rv; split <;> exact Nat.le_of_ble_eq_true rfl)) (by first | rfl | (unfold rv; split <;> rfl)) (j_sub (lv := [(0, .ref (gB g + y0)), (1, vI x1)]) [0, 1] rfl (tX5_makePilot_0 hl hd hy0 hx1 h))
set_option maxRecDepth 100000 in
theorem tX5_makeBoat_0 {g : JG} {l : Launch} {d N n0 s0 : Nat} {out : Int × AH} {A : AH} {y0 : Nat} {x1 : Int} (hl : l.stackTraces = false) (hd : 2 ≤ d) (hy0 : VK 5 y0) (hx1 : inR x1) (h : fX5_makeBoat N A y0 x1 = some out) : J g l d RX5 "makeBoat" cX5_makeBoat 3 (some .int) n0 s0 ((0, some (vI out.1), out.2) : JO) (inR out.1) 0 [(0, .ref (gB g + y0)), (1, vI x1)] [] A := by
  unfold fX5_makeBoat at h
  refine j_aload_n (j := 0) dX5_makeBoat_0 rfl rfl ?_
  refine j_getI FX5_61 rfl dX5_makeBoat_1 hy0.1 hy0.lt hy0.ka (fun r1 => ?_)
  obtain ⟨u2, eu2, h⟩ := bnd_elim h
  have hu2 : inR u2 := by rw [eu2]; exact r1
  refine j_nm eu2 ?_
  refine j_istore_n (lv' := [(2, vI u2), (0, .ref (gB g + y0)), (1, vI x1)]) dX5_makeBoat_4 rfl (by decide) (by first | rfl | (simp only [List.all_cons, List.all_nil, rv_cat]; rfl)) rfl ?_
  refine j_iload_n (j := 0) dX5_makeBoat_5 rfl rfl ?_
  refine j_iconst dX5_makeBoat_6 ?_
  by_cases c3 : 3 ≤ u2
  · rw [if_pos c3] at h
    refine j_icmp_ge_t hu2 (inR_lit _ rfl) dX5_makeBoat_7 (tgt := 30) (by decide) c3 ?_
    refine j_iload_n (j := 0) dX5_makeBoat_30 rfl rfl ?_
    cases h
    exact j_iret dX5_makeBoat_31 rfl rfl rfl hu2
  · rw [if_neg c3] at h
    refine j_icmp_ge_f hu2 (inR_lit _ rfl) dX5_makeBoat_7 (tgt := 30) (by decide) c3 ?_
    refine j_aload_n (j := 1) dX5_makeBoat_10 rfl rfl ?_
    refine j_getR (q := (y0 + 5)) FX5_32 rfl dX5_makeBoat_11 hy0.1 hy0.2.1 hy0.2.2 (lay5 hy0 (by decide)) (by omega) ?_
    refine j_iload_n (j := 0) dX5_makeBoat_14 rfl rfl ?_
    obtain ⟨c4, h⟩ := chk_elim h
    have v5 : VK 0 (y0 + 28 + u2.toNat) := (VK.b hy0 c4)
    refine j_aald (q := (y0 + 28 + u2.toNat)) hu2 (by decide) (by decide) (by decide) (by decide) dX5_makeBoat_15 (VK.f5 hy0).1 (VK.f5 hy0).2.1 (VK.f5 hy0).2.2 c4 (lay15 hy0 c4) (by omega) ?_
    refine j_iload_n (j := 2) dX5_makeBoat_16 rfl rfl ?_
    obtain ⟨p7, e6, h⟩ := obind_elim h
    refine j_callV MX5_78 YX0_start IX0_start SX0_start (by decide) rfl (by decide) (by omega) (Nat.le_of_ble_eq_true rfl) rfl (ctX0_start (d := d - 1) hl (by omega) v5 hx1 e6) dX5_makeBoat_17 v5.1 v5.lt v5.ka rfl (fun z8 xt9 => ?_)
    refine j_aload_n (j := 1) dX5_makeBoat_20 rfl rfl ?_
    refine j_dup dX5_makeBoat_21 rfl ?_
    refine j_getI FX5_61 rfl dX5_makeBoat_22 hy0.1 hy0.lt hy0.ka (fun r10 => ?_)
    refine j_iconst dX5_makeBoat_25 ?_
    refine j_iadd dX5_makeBoat_26 ?_
    obtain ⟨A11, eA11, h⟩ := bnd_elim h
    have xA11 : XT p7 A11 := by rw [eA11]; exact XT_sI _ _ _ _
    refine j_putI FX5_61 rfl rfl rfl (wrap_inR _) dX5_makeBoat_27 hy0.1 hy0.lt hy0.ka ?_
    refine j_hB eA11 ?_
    refine j_iload_n (j := 0) dX5_makeBoat_30 rfl rfl ?_
    cases h
    exact j_iret dX5_makeBoat_31 rfl rfl rfl hu2
theorem ctX5_makeBoat {g : JG} {l : Launch} {d N : Nat} {A : AH} {out : Int × AH} {y0 : Nat} {x1 : Int} (hl : l.stackTraces = false) (hd : 2 ≤ d) (hy0 : VK 5 y0) (hx1 : inR x1) (h : fX5_makeBoat N A y0 x1 = some out) : CT g l yX5_makeBoat cX5_makeBoat 3 (some .int) d [.ref (gB g + y0), vI x1] A ((0, some (vI out.1), out.2) : JO) (inR out.1) :=
  CT_of (by decide +kernel) hl (by first | exact Nat.le_of_ble_eq_true rfl | (unfold rv; split <;> exact Nat.le_of_ble_eq_true rfl)) (by first | rfl | (unfold rv; split <;> rfl)) (j_sub (lv := [(0, .ref (gB g + y0)), (1, vI x1)]) [0, 1] rfl (tX5_makeBoat_0 hl hd hy0 hx1 h))
set_option maxRecDepth 100000 in
theorem tX5_isOrder_0 {g : JG} {l : Launch} {d N n0 s0 : Nat} {out : Int} {A : AH} {y0 : Nat} {x1 : Int} {x2 : Int} {x3 : Int} {x4 : Int} (hl : l.stackTraces = false) (hd : 1 ≤ d) (hy0 : VK 5 y0) (hx1 : inR x1) (hx2 : inR x2) (hx3 : inR x3) (hx4 : inR x4) (h : fX5_isOrder N A y0 x1 x2 x3 x4 = some out) : J g l d RX5 "isOrder" cX5_isOrder 5 (some .boolean) n0 s0 ((0, some (vI out), A) : JO) ((out = 0 ∨ out = 1)) 0 [(0, .ref (gB g + y0)), (1, vI x1), (2, vI x2), (3, vI x3), (4, vI x4)] [] A := by
  unfold fX5_isOrder at h
  refine j_iload_n (j := 1) dX5_isOrder_0 rfl rfl ?_
  refine j_iconst dX5_isOrder_1 ?_
  by_cases c1 : x1 < 1
  · rw [if_pos c1] at h
    refine j_icmp_lt_t hx1 (inR_lit _ rfl) dX5_isOrder_2 (tgt := 47) (by decide) c1 ?_
    refine j_iconst dX5_isOrder_47 ?_
    cases h
    exact j_iret dX5_isOrder_48 rfl ((nar_bool (Or.inl rfl)).1) rfl (Or.inl rfl)
  · rw [if_neg c1] at h
    refine j_icmp_lt_f hx1 (inR_lit _ rfl) dX5_isOrder_2 (tgt := 47) (by decide) c1 ?_
    refine j_iload_n (j := 1) dX5_isOrder_5 rfl rfl ?_
    refine j_iconst dX5_isOrder_6 ?_
    by_cases c2 : 4 < x1
    · rw [if_pos c2] at h
      refine j_icmp_gt_t hx1 (inR_lit _ rfl) dX5_isOrder_7 (tgt := 47) (by decide) c2 ?_
      refine j_iconst dX5_isOrder_47 ?_
      cases h
      exact j_iret dX5_isOrder_48 rfl ((nar_bool (Or.inl rfl)).1) rfl (Or.inl rfl)
    · rw [if_neg c2] at h
      refine j_icmp_gt_f hx1 (inR_lit _ rfl) dX5_isOrder_7 (tgt := 47) (by decide) c2 ?_
      refine j_iload_n (j := 2) dX5_isOrder_10 rfl rfl ?_
      refine j_iconst dX5_isOrder_11 ?_
      by_cases c3 : x2 < 1
      · rw [if_pos c3] at h
        refine j_icmp_lt_t hx2 (inR_lit _ rfl) dX5_isOrder_12 (tgt := 47) (by decide) c3 ?_
        refine j_iconst dX5_isOrder_47 ?_
        cases h
        exact j_iret dX5_isOrder_48 rfl ((nar_bool (Or.inl rfl)).1) rfl (Or.inl rfl)
      · rw [if_neg c3] at h
        refine j_icmp_lt_f hx2 (inR_lit _ rfl) dX5_isOrder_12 (tgt := 47) (by decide) c3 ?_
        refine j_iload_n (j := 2) dX5_isOrder_15 rfl rfl ?_
        refine j_bipush dX5_isOrder_16 rfl ?_
        by_cases c4 : 30 < x2
        · rw [if_pos c4] at h
          refine j_icmp_gt_t hx2 (inR_lit _ rfl) dX5_isOrder_18 (tgt := 47) (by decide) c4 ?_
          refine j_iconst dX5_isOrder_47 ?_
          cases h
          exact j_iret dX5_isOrder_48 rfl ((nar_bool (Or.inl rfl)).1) rfl (Or.inl rfl)
        · rw [if_neg c4] at h
          refine j_icmp_gt_f hx2 (inR_lit _ rfl) dX5_isOrder_18 (tgt := 47) (by decide) c4 ?_
          refine j_iload_n (j := 3) dX5_isOrder_21 rfl rfl ?_
          refine j_aload_n (j := 0) dX5_isOrder_22 rfl rfl ?_
          refine j_getI FX5_51 rfl dX5_isOrder_23 hy0.1 hy0.lt hy0.ka (fun r5 => ?_)
          by_cases c6 : x3 < (gI A y0 5)
          · rw [if_pos c6] at h
            refine j_icmp_lt_t hx3 r5 dX5_isOrder_26 (tgt := 47) (by decide) c6 ?_
            refine j_iconst dX5_isOrder_47 ?_
            cases h
            exact j_iret dX5_isOrder_48 rfl ((nar_bool (Or.inl rfl)).1) rfl (Or.inl rfl)
          · rw [if_neg c6] at h
            refine j_icmp_lt_f hx3 r5 dX5_isOrder_26 (tgt := 47) (by decide) c6 ?_
            refine j_iload (j := 4) dX5_isOrder_29 rfl ?_
            refine j_iload_n (j := 3) dX5_isOrder_31 rfl rfl ?_
            by_cases c7 : x4 < x3
            · rw [if_pos c7] at h
              refine j_icmp_lt_t hx4 hx3 dX5_isOrder_32 (tgt := 47) (by decide) c7 ?_
              refine j_iconst dX5_isOrder_47 ?_
              cases h
              exact j_iret dX5_isOrder_48 rfl ((nar_bool (Or.inl rfl)).1) rfl (Or.inl rfl)
            · rw [if_neg c7] at h
              refine j_icmp_lt_f hx4 hx3 dX5_isOrder_32 (tgt := 47) (by decide) c7 ?_
              refine j_iload (j := 4) dX5_isOrder_35 rfl ?_
              refine j_sipush dX5_isOrder_37 rfl ?_
              by_cases c8 : 900 < x4
              · rw [if_pos c8] at h
                refine j_icmp_gt_t hx4 (inR_lit _ rfl) dX5_isOrder_40 (tgt := 47) (by decide) c8 ?_
                refine j_iconst dX5_isOrder_47 ?_
                cases h
                exact j_iret dX5_isOrder_48 rfl ((nar_bool (Or.inl rfl)).1) rfl (Or.inl rfl)
              · rw [if_neg c8] at h
                refine j_icmp_gt_f hx4 (inR_lit _ rfl) dX5_isOrder_40 (tgt := 47) (by decide) c8 ?_
                refine j_iconst dX5_isOrder_43 ?_
                refine j_goto (tgt := 48) dX5_isOrder_44 (by decide) ?_
                cases h
                exact j_iret dX5_isOrder_48 rfl ((nar_bool (Or.inr rfl)).1) rfl (Or.inr rfl)
theorem ctX5_isOrder {g : JG} {l : Launch} {d N : Nat} {A : AH} {out : Int} {y0 : Nat} {x1 : Int} {x2 : Int} {x3 : Int} {x4 : Int} (hl : l.stackTraces = false) (hd : 1 ≤ d) (hy0 : VK 5 y0) (hx1 : inR x1) (hx2 : inR x2) (hx3 : inR x3) (hx4 : inR x4) (h : fX5_isOrder N A y0 x1 x2 x3 x4 = some out) : CT g l yX5_isOrder cX5_isOrder 5 (some .boolean) d [.ref (gB g + y0), vI x1, vI x2, vI x3, vI x4] A ((0, some (vI out), A) : JO) ((out = 0 ∨ out = 1)) :=
  CT_of (by decide +kernel) hl (by first | exact Nat.le_of_ble_eq_true rfl | (unfold rv; split <;> exact Nat.le_of_ble_eq_true rfl)) (by first | rfl | (unfold rv; split <;> rfl)) (j_sub (lv := [(0, .ref (gB g + y0)), (1, vI x1), (2, vI x2), (3, vI x3), (4, vI x4)]) [0, 1, 2, 3, 4] rfl (tX5_isOrder_0 hl hd hy0 hx1 hx2 hx3 hx4 h))
set_option maxRecDepth 100000 in
theorem tX5_makeOrder_0 {g : JG} {l : Launch} {d N n0 s0 : Nat} {out : Int × AH} {A : AH} {y0 : Nat} {x1 : Int} {x2 : Int} {x3 : Int} {x4 : Int} {x5 : Int} (hl : l.stackTraces = false) (hd : 3 ≤ d) (hy0 : VK 5 y0) (hx1 : inR x1) (hx2 : inR x2) (hx3 : inR x3) (hx4 : inR x4) (hx5 : inR x5) (h : fX5_makeOrder N A y0 x1 x2 x3 x4 x5 = some out) : J g l d RX5 "makeOrder" cX5_makeOrder 7 (some .int) n0 s0 ((0, some (vI out.1), out.2) : JO) (inR out.1) 0 [(0, .ref (gB g + y0)), (1, vI x1), (2, vI x2), (3, vI x3), (4, vI x4), (5, vI x5)] [] A := by
  unfold fX5_makeOrder at h
  refine j_aload_n (j := 0) dX5_makeOrder_0 rfl rfl ?_
  refine j_getI FX5_55 rfl dX5_makeOrder_1 hy0.1 hy0.lt hy0.ka (fun r1 => ?_)
  obtain ⟨u2, eu2, h⟩ := bnd_elim h
  have hu2 : inR u2 := by rw [eu2]; exact r1
  refine j_nm eu2 ?_
  refine j_istore (lv' := [(6, vI u2), (0, .ref (gB g + y0)), (1, vI x1), (2, vI x2), (3, vI x3), (4, vI x4), (5, vI x5)]) dX5_makeOrder_4 (by decide) (by first | rfl | (simp only [List.all_cons, List.all_nil, rv_cat]; rfl)) rfl ?_
  refine j_iload (j := 0) dX5_makeOrder_6 rfl ?_
  refine j_bipush dX5_makeOrder_8 rfl ?_
  by_cases c3 : 16 ≤ u2
  · rw [if_pos c3] at h
    refine j_icmp_ge_t hu2 (inR_lit _ rfl) dX5_makeOrder_10 (tgt := 40) (by decide) c3 ?_
    refine j_iload (j := 0) dX5_makeOrder_40 rfl ?_
    cases h
    exact j_iret dX5_makeOrder_42 rfl rfl rfl hu2
  · rw [if_neg c3] at h
    refine j_icmp_ge_f hu2 (inR_lit _ rfl) dX5_makeOrder_10 (tgt := 40) (by decide) c3 ?_
    refine j_aload_n (j := 1) dX5_makeOrder_13 rfl rfl ?_
    refine j_getR (q := (y0 + 3)) FX5_20 rfl dX5_makeOrder_14 hy0.1 hy0.2.1 hy0.2.2 (lay5 hy0 (by decide)) (by omega) ?_
    refine j_iload (j := 0) dX5_makeOrder_17 rfl ?_
    obtain ⟨c4, h⟩ := chk_elim h
    have v5 : VK 3 (y0 + 6 + u2.toNat) := (VK.o hy0 c4)
    refine j_aald (q := (y0 + 6 + u2.toNat)) hu2 (by decide) (by decide) (by decide) (by decide) dX5_makeOrder_19 (VK.f3 hy0).1 (VK.f3 hy0).2.1 (VK.f3 hy0).2.2 c4 (lay13 hy0 c4) (by omega) ?_
    refine j_iload_n (j := 2) dX5_makeOrder_20 rfl rfl ?_
    refine j_iload_n (j := 3) dX5_makeOrder_21 rfl rfl ?_
    refine j_iload_n (j := 4) dX5_makeOrder_22 rfl rfl ?_
    refine j_iload (j := 5) dX5_makeOrder_23 rfl ?_
    refine j_iload (j := 6) dX5_makeOrder_25 rfl ?_
    obtain ⟨p7, e6, h⟩ := obind_elim h
    refine j_callV MX5_79 YX3_start IX3_start SX3_start (by decide) rfl (by decide) (by omega) (Nat.le_of_ble_eq_true rfl) rfl (ctX3_start (d := d - 1) hl (by omega) v5 hx1 hx2 hx3 hx4 hx5 e6) dX5_makeOrder_27 v5.1 v5.lt v5.ka rfl (fun z8 xt9 => ?_)
    refine j_aload_n (j := 1) dX5_makeOrder_30 rfl rfl ?_
    refine j_dup dX5_makeOrder_31 rfl ?_
    refine j_getI FX5_55 rfl dX5_makeOrder_32 hy0.1 hy0.lt hy0.ka (fun r10 => ?_)
    refine j_iconst dX5_makeOrder_35 ?_
    refine j_iadd dX5_makeOrder_36 ?_
    obtain ⟨A11, eA11, h⟩ := bnd_elim h
    have xA11 : XT p7 A11 := by rw [eA11]; exact XT_sI _ _ _ _
    refine j_putI FX5_55 rfl rfl rfl (wrap_inR _) dX5_makeOrder_37 hy0.1 hy0.lt hy0.ka ?_
    refine j_hB eA11 ?_
    refine j_iload (j := 0) dX5_makeOrder_40 rfl ?_
    cases h
    exact j_iret dX5_makeOrder_42 rfl rfl rfl hu2
theorem ctX5_makeOrder {g : JG} {l : Launch} {d N : Nat} {A : AH} {out : Int × AH} {y0 : Nat} {x1 : Int} {x2 : Int} {x3 : Int} {x4 : Int} {x5 : Int} (hl : l.stackTraces = false) (hd : 3 ≤ d) (hy0 : VK 5 y0) (hx1 : inR x1) (hx2 : inR x2) (hx3 : inR x3) (hx4 : inR x4) (hx5 : inR x5) (h : fX5_makeOrder N A y0 x1 x2 x3 x4 x5 = some out) : CT g l yX5_makeOrder cX5_makeOrder 7 (some .int) d [.ref (gB g + y0), vI x1, vI x2, vI x3, vI x4, vI x5] A ((0, some (vI out.1), out.2) : JO) (inR out.1) :=
  CT_of (by decide +kernel) hl (by first | exact Nat.le_of_ble_eq_true rfl | (unfold rv; split <;> exact Nat.le_of_ble_eq_true rfl)) (by first | rfl | (unfold rv; split <;> rfl)) (j_sub (lv := [(0, .ref (gB g + y0)), (1, vI x1), (2, vI x2), (3, vI x3), (4, vI x4), (5, vI x5)]) [0, 1, 2, 3, 4, 5] rfl (tX5_makeOrder_0 hl hd hy0 hx1 hx2 hx3 hx4 hx5 h))
set_option maxRecDepth 100000 in
theorem tX5_depthAt_0 {g : JG} {l : Launch} {d N n0 s0 : Nat} {out : Int} {A : AH} {y0 : Nat} {x1 : Int} (hl : l.stackTraces = false) (hd : 2 ≤ d) (hy0 : VK 5 y0) (hx1 : inR x1) (h : fX5_depthAt N A y0 x1 = some out) : J g l d RX5 "depthAt" cX5_depthAt 2 (some .int) n0 s0 ((0, some (vI out), A) : JO) (inR out) 0 [(0, .ref (gB g + y0)), (1, vI x1)] [] A := by
  unfold fX5_depthAt at h
  refine j_aload_n (j := 0) dX5_depthAt_0 rfl rfl ?_
  refine j_getR (q := (y0 + 1)) FX5_9 rfl dX5_depthAt_1 hy0.1 hy0.2.1 hy0.2.2 (lay5 hy0 (by decide)) (by omega) ?_
  refine j_iconst dX5_depthAt_4 ?_
  refine j_iald (inR_lit _ rfl) (by decide) (by decide) rfl dX5_depthAt_5 (VK.f1 hy0).1 (VK.f1 hy0).lt (VK.f1 hy0).ka (by decide) (fun r1 => ?_)
  refine j_aload_n (j := 0) dX5_depthAt_6 rfl rfl ?_
  refine j_getR (q := (y0 + 2)) FX5_15 rfl dX5_depthAt_7 hy0.1 hy0.2.1 hy0.2.2 (lay5 hy0 (by decide)) (by omega) ?_
  refine j_iload_n (j := 1) dX5_depthAt_10 rfl rfl ?_
  refine j_bipush dX5_depthAt_11 rfl ?_
  obtain ⟨z3, e2, h⟩ := obind_elim h
  refine j_callS MX5_82 YJ9_floorMod_7cf53 IJ9_floorMod_7cf53 (by decide) (by omega) (Nat.le_of_ble_eq_true rfl) rfl (ctJ9_floorMod_7cf53 (d := d - 1) hl (by omega) hx1 (inR_lit _ rfl) e2) dX5_depthAt_13 rfl (fun z4 _ => ?_)
  obtain ⟨c6, h⟩ := chk_elim h
  refine j_iald z4 (by decide) (by decide) rfl dX5_depthAt_16 (VK.f2 hy0).1 (VK.f2 hy0).lt (VK.f2 hy0).ka c6 (fun r7 => ?_)
  refine j_iadd dX5_depthAt_17 ?_
  cases h
  exact j_iret dX5_depthAt_18 rfl rfl rfl (wrap_inR _)
theorem ctX5_depthAt {g : JG} {l : Launch} {d N : Nat} {A : AH} {out : Int} {y0 : Nat} {x1 : Int} (hl : l.stackTraces = false) (hd : 2 ≤ d) (hy0 : VK 5 y0) (hx1 : inR x1) (h : fX5_depthAt N A y0 x1 = some out) : CT g l yX5_depthAt cX5_depthAt 2 (some .int) d [.ref (gB g + y0), vI x1] A ((0, some (vI out), A) : JO) (inR out) :=
  CT_of (by decide +kernel) hl (by first | exact Nat.le_of_ble_eq_true rfl | (unfold rv; split <;> exact Nat.le_of_ble_eq_true rfl)) (by first | rfl | (unfold rv; split <;> rfl)) (j_sub (lv := [(0, .ref (gB g + y0)), (1, vI x1)]) [0, 1] rfl (tX5_depthAt_0 hl hd hy0 hx1 h))
set_option maxRecDepth 100000 in
theorem tX5_isDeepEnough_10 {g : JG} {l : Launch} {d N n0 s0 : Nat} {out : Int} {A : AH} {y0 : Nat} {y1 : Nat} {x3 : Int} (hl : l.stackTraces = false) (hd : 3 ≤ d) (hy0 : VK 5 y0) (hy1 : VK 3 y1) (hx3 : inR x3) : ∀ (n : Nat) (x4 : Int), inR x4 → fX5_isDeepEnough_10 N A y0 y1 x3 n x4 = some out → J g l d RX5 "isDeepEnough" cX5_isDeepEnough 5 (some .boolean) n0 s0 ((0, some (vI out), A) : JO) ((out = 0 ∨ out = 1)) 10 [(0, .ref (gB g + y0)), (1, .ref (gB g + y1)), (3, vI x3), (4, vI x4)] [] A := by
  intro n
  induction n with
  | zero =>
    intro x4 hx4 h
    rw [fX5_isDeepEnough_10] at h
    cases h
  | succ n ih =>
    intro x4 hx4 h
    rw [fX5_isDeepEnough_10] at h
    refine j_iload (j := 3) dX5_isDeepEnough_10 rfl ?_
    refine j_iload_n (j := 2) dX5_isDeepEnough_12 rfl rfl ?_
    by_cases c1 : x3 ≤ x4
    · rw [if_pos c1] at h
      refine j_icmp_ge_t hx4 hx3 dX5_isDeepEnough_13 (tgt := 37) (by decide) c1 ?_
      refine j_iconst dX5_isDeepEnough_37 ?_
      cases h
      exact j_iret dX5_isDeepEnough_38 rfl ((nar_bool (Or.inr rfl)).1) rfl (Or.inr rfl)
    · rw [if_neg c1] at h
      refine j_icmp_ge_f hx4 hx3 dX5_isDeepEnough_13 (tgt := 37) (by decide) c1 ?_
      refine j_aload_n (j := 0) dX5_isDeepEnough_16 rfl rfl ?_
      refine j_iload (j := 3) dX5_isDeepEnough_17 rfl ?_
      obtain ⟨z3, e2, h⟩ := obind_elim h
      refine j_callV MX5_92 YX5_depthAt IX5_depthAt SX5_depthAt (by decide) rfl (by decide) (by omega) (Nat.le_of_ble_eq_true rfl) rfl (ctX5_depthAt (d := d - 1) hl (by omega) hy0 hx4 e2) dX5_isDeepEnough_19 hy0.1 hy0.lt hy0.ka rfl (fun z4 _ => ?_)
      refine j_aload_n (j := 1) dX5_isDeepEnough_22 rfl rfl ?_
      refine j_getI FX5_96 rfl dX5_isDeepEnough_23 hy1.1 hy1.lt hy1.ka (fun r6 => ?_)
      by_cases c7 : (gI A y1 2) ≤ z3
      · rw [if_pos c7] at h
        refine j_icmp_ge_t z4 r6 dX5_isDeepEnough_26 (tgt := 31) (by decide) c7 ?_
        obtain ⟨u8, eu8, h⟩ := bnd_elim h
        have hu8 : inR u8 := by rw [eu8]; exact wrap_inR _
        refine j_iincN (k := 3) (lv' := [(4, vI u8), (0, .ref (gB g + y0)), (1, .ref (gB g + y1)), (3, vI x3)]) eu8 dX5_isDeepEnough_31 rfl (by decide) (by first | rfl | (simp only [List.all_cons, List.all_nil, rv_cat]; rfl)) rfl ?_
        refine j_goto (tgt := 10) dX5_isDeepEnough_34 (by decide) ?_
        exact j_sub [1, 2, 3, 0] rfl (ih u8 hu8 h)
      · rw [if_neg c7] at h
        refine j_icmp_ge_f z4 r6 dX5_isDeepEnough_26 (tgt := 31) (by decide) c7 ?_
        refine j_iconst dX5_isDeepEnough_29 ?_
        cases h
        exact j_iret dX5_isDeepEnough_30 rfl ((nar_bool (Or.inl rfl)).1) rfl (Or.inl rfl)
set_option maxRecDepth 100000 in
theorem tX5_isDeepEnough_0 {g : JG} {l : Launch} {d N n0 s0 : Nat} {out : Int} {A : AH} {y0 : Nat} {y1 : Nat} {x2 : Int} (hl : l.stackTraces = false) (hd : 3 ≤ d) (hy0 : VK 5 y0) (hy1 : VK 3 y1) (hx2 : inR x2) (h : fX5_isDeepEnough N A y0 y1 x2 = some out) : J g l d RX5 "isDeepEnough" cX5_isDeepEnough 5 (some .boolean) n0 s0 ((0, some (vI out), A) : JO) ((out = 0 ∨ out = 1)) 0 [(0, .ref (gB g + y0)), (1, .ref (gB g + y1)), (2, vI x2)] [] A := by
  unfold fX5_isDeepEnough at h
  refine j_iload_n (j := 2) dX5_isDeepEnough_0 rfl rfl ?_
  refine j_aload_n (j := 1) dX5_isDeepEnough_1 rfl rfl ?_
  obtain ⟨z2, e1, h⟩ := obind_elim h
  refine j_callV MX5_88 YX3_tripHours IX3_tripHours SX3_tripHours (by decide) rfl (by decide) (by omega) (Nat.le_of_ble_eq_true rfl) rfl (ctX3_tripHours (d := d - 1) hl (by omega) hy1 e1) dX5_isDeepEnough_2 hy1.1 hy1.lt hy1.ka rfl (fun z3 _ => ?_)
  refine j_iadd dX5_isDeepEnough_5 ?_
  obtain ⟨u5, eu5, h⟩ := bnd_elim h
  have hu5 : inR u5 := by rw [eu5]; exact (wrap_inR _)
  refine j_nm eu5 ?_
  refine j_istore_n (lv' := [(3, vI u5), (0, .ref (gB g + y0)), (1, .ref (gB g + y1)), (2, vI x2)]) dX5_isDeepEnough_6 rfl (by decide) (by first | rfl | (simp only [List.all_cons, List.all_nil, rv_cat]; rfl)) rfl ?_
  refine j_iload_n (j := 3) dX5_isDeepEnough_7 rfl rfl ?_
  refine j_istore (lv' := [(4, vI x2), (3, vI u5), (0, .ref (gB g + y0)), (1, .ref (gB g + y1)), (2, vI x2)]) dX5_isDeepEnough_8 (by decide) (by first | rfl | (simp only [List.all_cons, List.all_nil, rv_cat]; rfl)) rfl ?_
  exact j_sub [2, 3, 1, 0] rfl (tX5_isDeepEnough_10 hl (by omega) hy0 hy1 hu5  N x2 hx2 h)
theorem ctX5_isDeepEnough {g : JG} {l : Launch} {d N : Nat} {A : AH} {out : Int} {y0 : Nat} {y1 : Nat} {x2 : Int} (hl : l.stackTraces = false) (hd : 3 ≤ d) (hy0 : VK 5 y0) (hy1 : VK 3 y1) (hx2 : inR x2) (h : fX5_isDeepEnough N A y0 y1 x2 = some out) : CT g l yX5_isDeepEnough cX5_isDeepEnough 5 (some .boolean) d [.ref (gB g + y0), .ref (gB g + y1), vI x2] A ((0, some (vI out), A) : JO) ((out = 0 ∨ out = 1)) :=
  CT_of (by decide +kernel) hl (by first | exact Nat.le_of_ble_eq_true rfl | (unfold rv; split <;> exact Nat.le_of_ble_eq_true rfl)) (by first | rfl | (unfold rv; split <;> rfl)) (j_sub (lv := [(0, .ref (gB g + y0)), (1, .ref (gB g + y1)), (2, vI x2)]) [0, 1, 2] rfl (tX5_isDeepEnough_0 hl hd hy0 hy1 hx2 h))
set_option maxRecDepth 100000 in
theorem tX5_firstOfWindow_27 {g : JG} {l : Launch} {d N n0 s0 : Nat} {out : Int} {A : AH} {y0 : Nat} {y1 : Nat} {x4 : Int} (hl : l.stackTraces = false) (hd : 4 ≤ d) (hy0 : VK 5 y0) (hy1 : VK 3 y1) (hx4 : inR x4) : ∀ (n : Nat) (x5 : Int), inR x5 → fX5_firstOfWindow_27 N A y0 y1 x4 n x5 = some out → J g l d RX5 "firstOfWindow" cX5_firstOfWindow 6 (some .int) n0 s0 ((0, some (vI out), A) : JO) (inR out) 27 [(0, .ref (gB g + y0)), (1, .ref (gB g + y1)), (4, vI x4), (5, vI x5)] [] A := by
  intro n
  induction n with
  | zero =>
    intro x5 hx5 h
    rw [fX5_firstOfWindow_27] at h
    cases h
  | succ n ih =>
    intro x5 hx5 h
    rw [fX5_firstOfWindow_27] at h
    refine j_iload (j := 3) dX5_firstOfWindow_27 rfl ?_
    refine j_iload (j := 2) dX5_firstOfWindow_29 rfl ?_
    by_cases c1 : x4 < x5
    · rw [if_pos c1] at h
      refine j_icmp_gt_t hx5 hx4 dX5_firstOfWindow_31 (tgt := 53) (by decide) c1 ?_
      refine j_iconst dX5_firstOfWindow_53 ?_
      cases h
      exact j_iret dX5_firstOfWindow_54 rfl rfl rfl (inR_lit _ rfl)
    · rw [if_neg c1] at h
      refine j_icmp_gt_f hx5 hx4 dX5_firstOfWindow_31 (tgt := 53) (by decide) c1 ?_
      refine j_aload_n (j := 0) dX5_firstOfWindow_34 rfl rfl ?_
      refine j_aload_n (j := 1) dX5_firstOfWindow_35 rfl rfl ?_
      refine j_iload (j := 3) dX5_firstOfWindow_36 rfl ?_
      obtain ⟨z3, e2, h⟩ := obind_elim h
      refine j_callV MX5_111 YX5_isDeepEnough IX5_isDeepEnough SX5_isDeepEnough (by decide) rfl (by decide) (by omega) (Nat.le_of_ble_eq_true rfl) rfl (ctX5_isDeepEnough (d := d - 1) hl (by omega) hy0 hy1 hx5 e2) dX5_firstOfWindow_38 hy0.1 hy0.lt hy0.ka rfl (fun z4 _ => ?_)
      by_cases c6 : z3 = 0
      · rw [if_pos c6] at h
        refine j_if_eq_t (bool_inR z4) dX5_firstOfWindow_41 (tgt := 47) (by decide) c6 ?_
        obtain ⟨u7, eu7, h⟩ := bnd_elim h
        have hu7 : inR u7 := by rw [eu7]; exact wrap_inR _
        refine j_iincN (k := 3) (lv' := [(5, vI u7), (0, .ref (gB g + y0)), (1, .ref (gB g + y1)), (4, vI x4)]) eu7 dX5_firstOfWindow_47 rfl (by decide) (by first | rfl | (simp only [List.all_cons, List.all_nil, rv_cat]; rfl)) rfl ?_
        refine j_goto (tgt := 27) dX5_firstOfWindow_50 (by decide) ?_
        exact j_sub [1, 2, 3, 0] rfl (ih u7 hu7 h)
      · rw [if_neg c6] at h
        refine j_if_eq_f (bool_inR z4) dX5_firstOfWindow_41 (tgt := 47) (by decide) c6 ?_
        refine j_iload (j := 3) dX5_firstOfWindow_44 rfl ?_
        cases h
        exact j_iret dX5_firstOfWindow_46 rfl rfl rfl hx5
set_option maxRecDepth 100000 in
theorem tX5_firstOfWindow_0 {g : JG} {l : Launch} {d N n0 s0 : Nat} {out : Int} {A : AH} {y0 : Nat} {y1 : Nat} {x2 : Int} (hl : l.stackTraces = false) (hd : 4 ≤ d) (hy0 : VK 5 y0) (hy1 : VK 3 y1) (hx2 : inR x2) (h : fX5_firstOfWindow N A y0 y1 x2 = some out) : J g l d RX5 "firstOfWindow" cX5_firstOfWindow 6 (some .int) n0 s0 ((0, some (vI out), A) : JO) (inR out) 0 [(0, .ref (gB g + y0)), (1, .ref (gB g + y1)), (2, vI x2)] [] A := by
  unfold fX5_firstOfWindow at h
  refine j_iload_n (j := 2) dX5_firstOfWindow_0 rfl rfl ?_
  refine j_aload_n (j := 1) dX5_firstOfWindow_1 rfl rfl ?_
  refine j_getI FX5_99 rfl dX5_firstOfWindow_2 hy1.1 hy1.lt hy1.ka (fun r1 => ?_)
  refine j_mmax hx2 r1 MX5_102 MMmaxa MMi MMmaxc dX5_firstOfWindow_5 (Nat.le_of_ble_eq_true rfl) (by omega) ?_
  obtain ⟨u2, eu2, h⟩ := bnd_elim h
  have hu2 : inR u2 := by rw [eu2]; exact (max_inR hx2 r1)
  refine j_nm eu2 ?_
  refine j_istore_n (lv' := [(3, vI u2), (0, .ref (gB g + y0)), (1, .ref (gB g + y1)), (2, vI x2)]) dX5_firstOfWindow_8 rfl (by decide) (by first | rfl | (simp only [List.all_cons, List.all_nil, rv_cat]; rfl)) rfl ?_
  refine j_aload_n (j := 2) dX5_firstOfWindow_9 rfl rfl ?_
  refine j_getI FX5_105 rfl dX5_firstOfWindow_10 hy1.1 hy1.lt hy1.ka (fun r3 => ?_)
  refine j_iload_n (j := 0) dX5_firstOfWindow_13 rfl rfl ?_
  refine j_bipush dX5_firstOfWindow_14 rfl ?_
  refine j_iadd dX5_firstOfWindow_16 ?_
  refine j_iconst dX5_firstOfWindow_17 ?_
  refine j_isub dX5_firstOfWindow_18 ?_
  refine j_mmin r3 (wrap_inR _) MX5_108 MMmina MMi MMminc dX5_firstOfWindow_19 (Nat.le_of_ble_eq_true rfl) (by omega) ?_
  obtain ⟨u4, eu4, h⟩ := bnd_elim h
  have hu4 : inR u4 := by rw [eu4]; exact (min_inR r3 (wrap_inR _))
  refine j_nm eu4 ?_
  refine j_istore (lv' := [(4, vI u4), (3, vI u2), (0, .ref (gB g + y0)), (1, .ref (gB g + y1)), (2, vI x2)]) dX5_firstOfWindow_22 (by decide) (by first | rfl | (simp only [List.all_cons, List.all_nil, rv_cat]; rfl)) rfl ?_
  refine j_iload_n (j := 1) dX5_firstOfWindow_24 rfl rfl ?_
  refine j_istore (lv' := [(5, vI u2), (4, vI u4), (3, vI u2), (0, .ref (gB g + y0)), (1, .ref (gB g + y1)), (2, vI x2)]) dX5_firstOfWindow_25 (by decide) (by first | rfl | (simp only [List.all_cons, List.all_nil, rv_cat]; rfl)) rfl ?_
  exact j_sub [3, 4, 1, 0] rfl (tX5_firstOfWindow_27 hl (by omega) hy0 hy1 hu4  N u2 hu2 h)
theorem ctX5_firstOfWindow {g : JG} {l : Launch} {d N : Nat} {A : AH} {out : Int} {y0 : Nat} {y1 : Nat} {x2 : Int} (hl : l.stackTraces = false) (hd : 4 ≤ d) (hy0 : VK 5 y0) (hy1 : VK 3 y1) (hx2 : inR x2) (h : fX5_firstOfWindow N A y0 y1 x2 = some out) : CT g l yX5_firstOfWindow cX5_firstOfWindow 6 (some .int) d [.ref (gB g + y0), .ref (gB g + y1), vI x2] A ((0, some (vI out), A) : JO) (inR out) :=
  CT_of (by decide +kernel) hl (by first | exact Nat.le_of_ble_eq_true rfl | (unfold rv; split <;> exact Nat.le_of_ble_eq_true rfl)) (by first | rfl | (unfold rv; split <;> rfl)) (j_sub (lv := [(0, .ref (gB g + y0)), (1, .ref (gB g + y1)), (2, vI x2)]) [0, 1, 2] rfl (tX5_firstOfWindow_0 hl hd hy0 hy1 hx2 h))
set_option maxRecDepth 100000 in
theorem tX5_hoursOfWindow_7 {g : JG} {l : Launch} {d N n0 s0 : Nat} {out : Int} {A : AH} {y0 : Nat} {y1 : Nat} (hl : l.stackTraces = false) (hd : 4 ≤ d) (hy0 : VK 5 y0) (hy1 : VK 3 y1) : ∀ (n : Nat) (x2 : Int) (x3 : Int), inR x2 → inR x3 → fX5_hoursOfWindow_7 N A y0 y1 n x2 x3 = some out → J g l d RX5 "hoursOfWindow" cX5_hoursOfWindow 4 (some .int) n0 s0 ((0, some (vI out), A) : JO) (inR out) 7 [(0, .ref (gB g + y0)), (1, .ref (gB g + y1)), (2, vI x2), (3, vI x3)] [] A := by
  intro n
  induction n with
  | zero =>
    intro x2 x3 hx2 hx3 h
    rw [fX5_hoursOfWindow_7] at h
    cases h
  | succ n ih =>
    intro x2 x3 hx2 hx3 h
    rw [fX5_hoursOfWindow_7] at h
    refine j_iload_n (j := 3) dX5_hoursOfWindow_7 rfl rfl ?_
    refine j_aload_n (j := 1) dX5_hoursOfWindow_8 rfl rfl ?_
    refine j_getI FX5_105 rfl dX5_hoursOfWindow_9 hy1.1 hy1.lt hy1.ka (fun r1 => ?_)
    by_cases c2 : (gI A y1 4) < x3
    · rw [if_pos c2] at h
      refine j_icmp_gt_t hx3 r1 dX5_hoursOfWindow_12 (tgt := 33) (by decide) c2 ?_
      refine j_iload_n (j := 2) dX5_hoursOfWindow_33 rfl rfl ?_
      cases h
      exact j_iret dX5_hoursOfWindow_34 rfl rfl rfl hx2
    · rw [if_neg c2] at h
      refine j_icmp_gt_f hx3 r1 dX5_hoursOfWindow_12 (tgt := 33) (by decide) c2 ?_
      refine j_aload_n (j := 0) dX5_hoursOfWindow_15 rfl rfl ?_
      refine j_aload_n (j := 1) dX5_hoursOfWindow_16 rfl rfl ?_
      refine j_iload_n (j := 3) dX5_hoursOfWindow_17 rfl rfl ?_
      obtain ⟨z4, e3, h⟩ := obind_elim h
      refine j_callV MX5_111 YX5_isDeepEnough IX5_isDeepEnough SX5_isDeepEnough (by decide) rfl (by decide) (by omega) (Nat.le_of_ble_eq_true rfl) rfl (ctX5_isDeepEnough (d := d - 1) hl (by omega) hy0 hy1 hx3 e3) dX5_hoursOfWindow_18 hy0.1 hy0.lt hy0.ka rfl (fun z5 _ => ?_)
      by_cases c7 : z4 = 0
      · rw [if_pos c7] at h
        refine j_if_eq_t (bool_inR z5) dX5_hoursOfWindow_21 (tgt := 27) (by decide) c7 ?_
        obtain ⟨u8, eu8, h⟩ := bnd_elim h
        have hu8 : inR u8 := by rw [eu8]; exact wrap_inR _
        refine j_iincN (k := 3) (lv' := [(3, vI u8), (0, .ref (gB g + y0)), (1, .ref (gB g + y1)), (2, vI x2)]) eu8 dX5_hoursOfWindow_27 rfl (by decide) (by first | rfl | (simp only [List.all_cons, List.all_nil, rv_cat]; rfl)) rfl ?_
        refine j_goto (tgt := 7) dX5_hoursOfWindow_30 (by decide) ?_
        exact j_sub [1, 2, 3, 0] rfl (ih x2 u8 hx2 hu8 h)
      · rw [if_neg c7] at h
        refine j_if_eq_f (bool_inR z5) dX5_hoursOfWindow_21 (tgt := 27) (by decide) c7 ?_
        obtain ⟨u9, eu9, h⟩ := bnd_elim h
        have hu9 : inR u9 := by rw [eu9]; exact wrap_inR _
        refine j_iincN (k := 2) (lv' := [(2, vI u9), (0, .ref (gB g + y0)), (1, .ref (gB g + y1)), (3, vI x3)]) eu9 dX5_hoursOfWindow_24 rfl (by decide) (by first | rfl | (simp only [List.all_cons, List.all_nil, rv_cat]; rfl)) rfl ?_
        obtain ⟨u10, eu10, h⟩ := bnd_elim h
        have hu10 : inR u10 := by rw [eu10]; exact wrap_inR _
        refine j_iincN (k := 3) (lv' := [(3, vI u10), (2, vI u9), (0, .ref (gB g + y0)), (1, .ref (gB g + y1))]) eu10 dX5_hoursOfWindow_27 rfl (by decide) (by first | rfl | (simp only [List.all_cons, List.all_nil, rv_cat]; rfl)) rfl ?_
        refine j_goto (tgt := 7) dX5_hoursOfWindow_30 (by decide) ?_
        exact j_sub [2, 3, 1, 0] rfl (ih u9 u10 hu9 hu10 h)
set_option maxRecDepth 100000 in
theorem tX5_hoursOfWindow_0 {g : JG} {l : Launch} {d N n0 s0 : Nat} {out : Int} {A : AH} {y0 : Nat} {y1 : Nat} (hl : l.stackTraces = false) (hd : 4 ≤ d) (hy0 : VK 5 y0) (hy1 : VK 3 y1) (h : fX5_hoursOfWindow N A y0 y1 = some out) : J g l d RX5 "hoursOfWindow" cX5_hoursOfWindow 4 (some .int) n0 s0 ((0, some (vI out), A) : JO) (inR out) 0 [(0, .ref (gB g + y0)), (1, .ref (gB g + y1))] [] A := by
  unfold fX5_hoursOfWindow at h
  refine j_iconst dX5_hoursOfWindow_0 ?_
  refine j_istore_n (lv' := [(2, vI 0), (0, .ref (gB g + y0)), (1, .ref (gB g + y1))]) dX5_hoursOfWindow_1 rfl (by decide) (by first | rfl | (simp only [List.all_cons, List.all_nil, rv_cat]; rfl)) rfl ?_
  refine j_aload_n (j := 2) dX5_hoursOfWindow_2 rfl rfl ?_
  refine j_getI FX5_99 rfl dX5_hoursOfWindow_3 hy1.1 hy1.lt hy1.ka (fun r1 => ?_)
  obtain ⟨u2, eu2, h⟩ := bnd_elim h
  have hu2 : inR u2 := by rw [eu2]; exact r1
  refine j_nm eu2 ?_
  refine j_istore_n (lv' := [(3, vI u2), (2, vI 0), (0, .ref (gB g + y0)), (1, .ref (gB g + y1))]) dX5_hoursOfWindow_6 rfl (by decide) (by first | rfl | (simp only [List.all_cons, List.all_nil, rv_cat]; rfl)) rfl ?_
  exact j_sub [2, 3, 1, 0] rfl (tX5_hoursOfWindow_7 hl (by omega) hy0 hy1  N 0 u2 (inR_lit _ rfl) hu2 h)
theorem ctX5_hoursOfWindow {g : JG} {l : Launch} {d N : Nat} {A : AH} {out : Int} {y0 : Nat} {y1 : Nat} (hl : l.stackTraces = false) (hd : 4 ≤ d) (hy0 : VK 5 y0) (hy1 : VK 3 y1) (h : fX5_hoursOfWindow N A y0 y1 = some out) : CT g l yX5_hoursOfWindow cX5_hoursOfWindow 4 (some .int) d [.ref (gB g + y0), .ref (gB g + y1)] A ((0, some (vI out), A) : JO) (inR out) :=
  CT_of (by decide +kernel) hl (by first | exact Nat.le_of_ble_eq_true rfl | (unfold rv; split <;> exact Nat.le_of_ble_eq_true rfl)) (by first | rfl | (unfold rv; split <;> rfl)) (j_sub (lv := [(0, .ref (gB g + y0)), (1, .ref (gB g + y1))]) [0, 1] rfl (tX5_hoursOfWindow_0 hl hd hy0 hy1 h))
set_option maxRecDepth 100000 in
theorem tX5_restedFrom_0 {g : JG} {l : Launch} {d N n0 s0 : Nat} {out : Int} {A : AH} {y0 : Nat} {y1 : Nat} (hl : l.stackTraces = false) (hd : 2 ≤ d) (hy0 : VK 5 y0) (hy1 : VK 4 y1) (h : fX5_restedFrom N A y0 y1 = some out) : J g l d RX5 "restedFrom" cX5_restedFrom 3 (some .int) n0 s0 ((0, some (vI out), A) : JO) (inR out) 0 [(0, .ref (gB g + y0)), (1, .ref (gB g + y1))] [] A := by
  unfold fX5_restedFrom at h
  refine j_aload_n (j := 1) dX5_restedFrom_0 rfl rfl ?_
  obtain ⟨z2, e1, h⟩ := obind_elim h
  refine j_callV MX5_115 YX4_lastTrip IX4_lastTrip SX4_lastTrip (by decide) rfl (by decide) (by omega) (Nat.le_of_ble_eq_true rfl) rfl (ctX4_lastTrip (d := d - 1) hl (by omega) hy1 e1) dX5_restedFrom_1 hy1.1 hy1.lt hy1.ka rfl (fun z3 _ => ?_)
  refine j_astoreQ_n (lv' := [(2, rv g z2), (0, .ref (gB g + y0)), (1, .ref (gB g + y1))]) dX5_restedFrom_4 rfl (by decide) (by first | rfl | (simp only [List.all_cons, List.all_nil, rv_cat]; rfl)) rfl ?_
  refine j_aloadQ_n (j := 0) dX5_restedFrom_5 rfl rfl ?_
  by_cases c5 : z2 = 0
  · rw [if_pos c5] at h
    refine j_ifnonnull_f dX5_restedFrom_6 c5 ?_
    refine j_iconst dX5_restedFrom_9 ?_
    cases h
    exact j_iret dX5_restedFrom_10 rfl rfl rfl (inR_lit _ rfl)
  · rw [if_neg c5] at h
    refine j_ifnonnull_t dX5_restedFrom_6 (tgt := 11) (by decide) c5 ?_
    refine j_aloadQ_n (j := 0) dX5_restedFrom_11 rfl rfl ?_
    refine j_unrv c5 ?_
    refine j_getI FX5_119 rfl dX5_restedFrom_12 (z3.nz c5).pos (z3.nz c5).lt (z3.nz c5).ka (fun r6 => ?_)
    refine j_aload_n (j := 1) dX5_restedFrom_15 rfl rfl ?_
    refine j_getR (q := (y0 + 1)) FX5_9 rfl dX5_restedFrom_16 hy0.1 hy0.2.1 hy0.2.2 (lay5 hy0 (by decide)) (by omega) ?_
    refine j_iconst dX5_restedFrom_19 ?_
    refine j_iald (inR_lit _ rfl) (by decide) (by decide) rfl dX5_restedFrom_20 (VK.f1 hy0).1 (VK.f1 hy0).lt (VK.f1 hy0).ka (by decide) (fun r7 => ?_)
    refine j_iadd dX5_restedFrom_21 ?_
    refine j_aloadQ_n (j := 0) dX5_restedFrom_22 rfl rfl ?_
    refine j_unrv c5 ?_
    obtain ⟨z9, e8, h⟩ := obind_elim h
    refine j_callV MX5_124 YX2_touchesNight IX2_touchesNight SX2_touchesNight (by decide) rfl (by decide) (by omega) (Nat.le_of_ble_eq_true rfl) rfl (ctX2_touchesNight (d := d - 1) hl (by omega) (z3.nz c5) e8) dX5_restedFrom_23 (z3.nz c5).pos (z3.nz c5).lt (z3.nz c5).ka rfl (fun z10 _ => ?_)
    by_cases c12 : z9 = 0
    · rw [if_pos c12] at h
      refine j_if_eq_t (bool_inR z10) dX5_restedFrom_26 (tgt := 38) (by decide) c12 ?_
      refine j_iconst dX5_restedFrom_38 ?_
      refine j_iadd dX5_restedFrom_39 ?_
      cases h
      exact j_iret dX5_restedFrom_40 rfl rfl rfl (wrap_inR _)
    · rw [if_neg c12] at h
      refine j_if_eq_f (bool_inR z10) dX5_restedFrom_26 (tgt := 38) (by decide) c12 ?_
      refine j_aload_n (j := 1) dX5_restedFrom_29 rfl rfl ?_
      refine j_getR (q := (y0 + 1)) FX5_9 rfl dX5_restedFrom_30 hy0.1 hy0.2.1 hy0.2.2 (lay5 hy0 (by decide)) (by omega) ?_
      refine j_iconst dX5_restedFrom_33 ?_
      refine j_iald (inR_lit _ rfl) (by decide) (by decide) rfl dX5_restedFrom_34 (VK.f1 hy0).1 (VK.f1 hy0).lt (VK.f1 hy0).ka (by decide) (fun r13 => ?_)
      refine j_goto (tgt := 39) dX5_restedFrom_35 (by decide) ?_
      refine j_iadd dX5_restedFrom_39 ?_
      cases h
      exact j_iret dX5_restedFrom_40 rfl rfl rfl (wrap_inR _)
theorem ctX5_restedFrom {g : JG} {l : Launch} {d N : Nat} {A : AH} {out : Int} {y0 : Nat} {y1 : Nat} (hl : l.stackTraces = false) (hd : 2 ≤ d) (hy0 : VK 5 y0) (hy1 : VK 4 y1) (h : fX5_restedFrom N A y0 y1 = some out) : CT g l yX5_restedFrom cX5_restedFrom 3 (some .int) d [.ref (gB g + y0), .ref (gB g + y1)] A ((0, some (vI out), A) : JO) (inR out) :=
  CT_of (by decide +kernel) hl (by first | exact Nat.le_of_ble_eq_true rfl | (unfold rv; split <;> exact Nat.le_of_ble_eq_true rfl)) (by first | rfl | (unfold rv; split <;> rfl)) (j_sub (lv := [(0, .ref (gB g + y0)), (1, .ref (gB g + y1))]) [0, 1] rfl (tX5_restedFrom_0 hl hd hy0 hy1 h))
set_option maxRecDepth 100000 in
theorem tX5_reasonAgainstTrip_0 {g : JG} {l : Launch} {d N n0 s0 : Nat} {out : Int} {A : AH} {y0 : Nat} {y1 : Nat} {y2 : Nat} {x3 : Int} (hl : l.stackTraces = false) (hd : 4 ≤ d) (hy0 : VK 5 y0) (hy1 : VK 3 y1) (hy2 : VK 4 y2) (hx3 : inR x3) (h : fX5_reasonAgainstTrip N A y0 y1 y2 x3 = some out) : J g l d RX5 "reasonAgainstTrip" cX5_reasonAgainstTrip 4 (some .int) n0 s0 ((0, some (vI out), A) : JO) (inR out) 0 [(0, .ref (gB g + y0)), (1, .ref (gB g + y1)), (2, .ref (gB g + y2)), (3, vI x3)] [] A := by
  unfold fX5_reasonAgainstTrip at h
  refine j_aload_n (j := 1) dX5_reasonAgainstTrip_0 rfl rfl ?_
  refine j_getI FX5_128 rfl dX5_reasonAgainstTrip_1 hy1.1 hy1.lt hy1.ka (fun r1 => ?_)
  by_cases c2 : (gI A y1 5) = 0
  · rw [if_pos c2] at h
    refine j_if_eq_t r1 dX5_reasonAgainstTrip_4 (tgt := 9) (by decide) c2 ?_
    refine j_iload_n (j := 3) dX5_reasonAgainstTrip_9 rfl rfl ?_
    refine j_aload_n (j := 0) dX5_reasonAgainstTrip_10 rfl rfl ?_
    refine j_getI FX5_51 rfl dX5_reasonAgainstTrip_11 hy0.1 hy0.lt hy0.ka (fun r3 => ?_)
    by_cases c4 : x3 < (gI A y0 5)
    · rw [if_pos c4] at h
      refine j_icmp_lt_t hx3 r3 dX5_reasonAgainstTrip_14 (tgt := 33) (by decide) c4 ?_
      refine j_iconst dX5_reasonAgainstTrip_33 ?_
      cases h
      exact j_iret dX5_reasonAgainstTrip_34 rfl rfl rfl (inR_lit _ rfl)
    · rw [if_neg c4] at h
      refine j_icmp_lt_f hx3 r3 dX5_reasonAgainstTrip_14 (tgt := 33) (by decide) c4 ?_
      refine j_iload_n (j := 3) dX5_reasonAgainstTrip_17 rfl rfl ?_
      refine j_aload_n (j := 1) dX5_reasonAgainstTrip_18 rfl rfl ?_
      refine j_getI FX5_99 rfl dX5_reasonAgainstTrip_19 hy1.1 hy1.lt hy1.ka (fun r5 => ?_)
      by_cases c6 : x3 < (gI A y1 3)
      · rw [if_pos c6] at h
        refine j_icmp_lt_t hx3 r5 dX5_reasonAgainstTrip_22 (tgt := 33) (by decide) c6 ?_
        refine j_iconst dX5_reasonAgainstTrip_33 ?_
        cases h
        exact j_iret dX5_reasonAgainstTrip_34 rfl rfl rfl (inR_lit _ rfl)
      · rw [if_neg c6] at h
        refine j_icmp_lt_f hx3 r5 dX5_reasonAgainstTrip_22 (tgt := 33) (by decide) c6 ?_
        refine j_iload_n (j := 3) dX5_reasonAgainstTrip_25 rfl rfl ?_
        refine j_aload_n (j := 1) dX5_reasonAgainstTrip_26 rfl rfl ?_
        refine j_getI FX5_105 rfl dX5_reasonAgainstTrip_27 hy1.1 hy1.lt hy1.ka (fun r7 => ?_)
        by_cases c8 : x3 ≤ (gI A y1 4)
        · rw [if_pos c8] at h
          refine j_icmp_le_t hx3 r7 dX5_reasonAgainstTrip_30 (tgt := 35) (by decide) c8 ?_
          refine j_aload_n (j := 0) dX5_reasonAgainstTrip_35 rfl rfl ?_
          refine j_aload_n (j := 1) dX5_reasonAgainstTrip_36 rfl rfl ?_
          refine j_iload_n (j := 3) dX5_reasonAgainstTrip_37 rfl rfl ?_
          obtain ⟨z10, e9, h⟩ := obind_elim h
          refine j_callV MX5_111 YX5_isDeepEnough IX5_isDeepEnough SX5_isDeepEnough (by decide) rfl (by decide) (by omega) (Nat.le_of_ble_eq_true rfl) rfl (ctX5_isDeepEnough (d := d - 1) hl (by omega) hy0 hy1 hx3 e9) dX5_reasonAgainstTrip_38 hy0.1 hy0.lt hy0.ka rfl (fun z11 _ => ?_)
          by_cases c13 : z10 = 0
          · rw [if_pos c13] at h
            refine j_if_ne_f (bool_inR z11) dX5_reasonAgainstTrip_41 (tgt := 46) (by decide) (fun q => q c13) ?_
            refine j_iconst dX5_reasonAgainstTrip_44 ?_
            cases h
            exact j_iret dX5_reasonAgainstTrip_45 rfl rfl rfl (inR_lit _ rfl)
          · rw [if_neg c13] at h
            refine j_if_ne_t (bool_inR z11) dX5_reasonAgainstTrip_41 (tgt := 46) (by decide) c13 ?_
            refine j_aload_n (j := 2) dX5_reasonAgainstTrip_46 rfl rfl ?_
            refine j_getI FX5_131 rfl dX5_reasonAgainstTrip_47 hy2.1 hy2.lt hy2.ka (fun r14 => ?_)
            refine j_aload_n (j := 1) dX5_reasonAgainstTrip_50 rfl rfl ?_
            refine j_getI FX5_134 rfl dX5_reasonAgainstTrip_51 hy1.1 hy1.lt hy1.ka (fun r15 => ?_)
            by_cases c16 : (gI A y1 0) ≤ (gI A y2 0)
            · rw [if_pos c16] at h
              refine j_icmp_ge_t r14 r15 dX5_reasonAgainstTrip_54 (tgt := 59) (by decide) c16 ?_
              refine j_iload_n (j := 3) dX5_reasonAgainstTrip_59 rfl rfl ?_
              refine j_aload_n (j := 2) dX5_reasonAgainstTrip_60 rfl rfl ?_
              obtain ⟨z18, e17, h⟩ := obind_elim h
              refine j_callV MX5_137 YX4_freeFrom IX4_freeFrom SX4_freeFrom (by decide) rfl (by decide) (by omega) (Nat.le_of_ble_eq_true rfl) rfl (ctX4_freeFrom (d := d - 1) hl (by omega) hy2 e17) dX5_reasonAgainstTrip_61 hy2.1 hy2.lt hy2.ka rfl (fun z19 _ => ?_)
              by_cases c21 : z18 ≤ x3
              · rw [if_pos c21] at h
                refine j_icmp_ge_t hx3 z19 dX5_reasonAgainstTrip_64 (tgt := 69) (by decide) c21 ?_
                refine j_aload_n (j := 2) dX5_reasonAgainstTrip_69 rfl rfl ?_
                obtain ⟨z23, e22, h⟩ := obind_elim h
                refine j_callV MX5_140 YX4_lastGoal IX4_lastGoal SX4_lastGoal (by decide) rfl (by decide) (by omega) (Nat.le_of_ble_eq_true rfl) rfl (ctX4_lastGoal (d := d - 1) hl (by omega) hy2 e22) dX5_reasonAgainstTrip_70 hy2.1 hy2.lt hy2.ka rfl (fun z24 _ => ?_)
                refine j_aload_n (j := 1) dX5_reasonAgainstTrip_73 rfl rfl ?_
                obtain ⟨z27, e26, h⟩ := obind_elim h
                refine j_callV MX5_143 YX3_origin IX3_origin SX3_origin (by decide) rfl (by decide) (by omega) (Nat.le_of_ble_eq_true rfl) rfl (ctX3_origin (d := d - 1) hl (by omega) hy1 e26) dX5_reasonAgainstTrip_74 hy1.1 hy1.lt hy1.ka rfl (fun z28 _ => ?_)
                by_cases c30 : z23 = z27
                · rw [if_pos c30] at h
                  refine j_icmp_eq_t z24 z28 dX5_reasonAgainstTrip_77 (tgt := 83) (by decide) c30 ?_
                  refine j_iload_n (j := 3) dX5_reasonAgainstTrip_83 rfl rfl ?_
                  refine j_aload_n (j := 0) dX5_reasonAgainstTrip_84 rfl rfl ?_
                  refine j_aload_n (j := 2) dX5_reasonAgainstTrip_85 rfl rfl ?_
                  obtain ⟨z32, e31, h⟩ := obind_elim h
                  refine j_callV MX5_146 YX5_restedFrom IX5_restedFrom SX5_restedFrom (by decide) rfl (by decide) (by omega) (Nat.le_of_ble_eq_true rfl) rfl (ctX5_restedFrom (d := d - 1) hl (by omega) hy0 hy2 e31) dX5_reasonAgainstTrip_86 hy0.1 hy0.lt hy0.ka rfl (fun z33 _ => ?_)
                  by_cases c35 : z32 ≤ x3
                  · rw [if_pos c35] at h
                    refine j_icmp_ge_t hx3 z33 dX5_reasonAgainstTrip_89 (tgt := 97) (by decide) c35 ?_
                    refine j_iconst dX5_reasonAgainstTrip_97 ?_
                    cases h
                    exact j_iret dX5_reasonAgainstTrip_98 rfl rfl rfl (inR_lit _ rfl)
                  · rw [if_neg c35] at h
                    refine j_icmp_ge_f hx3 z33 dX5_reasonAgainstTrip_89 (tgt := 97) (by decide) c35 ?_
                    refine j_bipush dX5_reasonAgainstTrip_92 rfl ?_
                    refine j_goto (tgt := 98) dX5_reasonAgainstTrip_94 (by decide) ?_
                    cases h
                    exact j_iret dX5_reasonAgainstTrip_98 rfl rfl rfl (inR_lit _ rfl)
                · rw [if_neg c30] at h
                  refine j_icmp_eq_f z24 z28 dX5_reasonAgainstTrip_77 (tgt := 83) (by decide) c30 ?_
                  refine j_bipush dX5_reasonAgainstTrip_80 rfl ?_
                  cases h
                  exact j_iret dX5_reasonAgainstTrip_82 rfl rfl rfl (inR_lit _ rfl)
              · rw [if_neg c21] at h
                refine j_icmp_ge_f hx3 z19 dX5_reasonAgainstTrip_64 (tgt := 69) (by decide) c21 ?_
                refine j_iconst dX5_reasonAgainstTrip_67 ?_
                cases h
                exact j_iret dX5_reasonAgainstTrip_68 rfl rfl rfl (inR_lit _ rfl)
            · rw [if_neg c16] at h
              refine j_icmp_ge_f r14 r15 dX5_reasonAgainstTrip_54 (tgt := 59) (by decide) c16 ?_
              refine j_iconst dX5_reasonAgainstTrip_57 ?_
              cases h
              exact j_iret dX5_reasonAgainstTrip_58 rfl rfl rfl (inR_lit _ rfl)
        · rw [if_neg c8] at h
          refine j_icmp_le_f hx3 r7 dX5_reasonAgainstTrip_30 (tgt := 35) (by decide) c8 ?_
          refine j_iconst dX5_reasonAgainstTrip_33 ?_
          cases h
          exact j_iret dX5_reasonAgainstTrip_34 rfl rfl rfl (inR_lit _ rfl)
  · rw [if_neg c2] at h
    refine j_if_eq_f r1 dX5_reasonAgainstTrip_4 (tgt := 9) (by decide) c2 ?_
    refine j_iconst dX5_reasonAgainstTrip_7 ?_
    cases h
    exact j_iret dX5_reasonAgainstTrip_8 rfl rfl rfl (inR_lit _ rfl)
theorem ctX5_reasonAgainstTrip {g : JG} {l : Launch} {d N : Nat} {A : AH} {out : Int} {y0 : Nat} {y1 : Nat} {y2 : Nat} {x3 : Int} (hl : l.stackTraces = false) (hd : 4 ≤ d) (hy0 : VK 5 y0) (hy1 : VK 3 y1) (hy2 : VK 4 y2) (hx3 : inR x3) (h : fX5_reasonAgainstTrip N A y0 y1 y2 x3 = some out) : CT g l yX5_reasonAgainstTrip cX5_reasonAgainstTrip 4 (some .int) d [.ref (gB g + y0), .ref (gB g + y1), .ref (gB g + y2), vI x3] A ((0, some (vI out), A) : JO) (inR out) :=
  CT_of (by decide +kernel) hl (by first | exact Nat.le_of_ble_eq_true rfl | (unfold rv; split <;> exact Nat.le_of_ble_eq_true rfl)) (by first | rfl | (unfold rv; split <;> rfl)) (j_sub (lv := [(0, .ref (gB g + y0)), (1, .ref (gB g + y1)), (2, .ref (gB g + y2)), (3, vI x3)]) [0, 1, 2, 3] rfl (tX5_reasonAgainstTrip_0 hl hd hy0 hy1 hy2 hx3 h))
set_option maxRecDepth 100000 in
theorem tX5_addTrip_0 {g : JG} {l : Launch} {d N n0 s0 : Nat} {out : AH} {A : AH} {y0 : Nat} {x1 : Int} {x2 : Int} {x3 : Int} (hl : l.stackTraces = false) (hd : 4 ≤ d) (hy0 : VK 5 y0) (hx1 : inR x1) (hx2 : inR x2) (hx3 : inR x3) (h : fX5_addTrip N A y0 x1 x2 x3 = some out) : J g l d RX5 "addTrip" cX5_addTrip 5 none n0 s0 ((0, none, out) : JO) (True) 0 [(0, .ref (gB g + y0)), (1, vI x1), (2, vI x2), (3, vI x3)] [] A := by
  unfold fX5_addTrip at h
  refine j_aload_n (j := 0) dX5_addTrip_0 rfl rfl ?_
  refine j_iload_n (j := 1) dX5_addTrip_1 rfl rfl ?_
  obtain ⟨z2, e1, h⟩ := obind_elim h
  refine j_callV MX5_150 YX5_hasOrder IX5_hasOrder SX5_hasOrder (by decide) rfl (by decide) (by omega) (Nat.le_of_ble_eq_true rfl) rfl (ctX5_hasOrder (d := d - 1) hl (by omega) hy0 hx1 e1) dX5_addTrip_2 hy0.1 hy0.lt hy0.ka rfl (fun z3 _ => ?_)
  by_cases c5 : z2 = 0
  · rw [if_pos c5] at h
    refine j_if_eq_t (bool_inR z3) dX5_addTrip_5 (tgt := 16) (by decide) c5 ?_
    cases h
    exact j_vret dX5_addTrip_16 rfl rfl trivial
  · rw [if_neg c5] at h
    refine j_if_eq_f (bool_inR z3) dX5_addTrip_5 (tgt := 16) (by decide) c5 ?_
    refine j_aload_n (j := 0) dX5_addTrip_8 rfl rfl ?_
    refine j_iload_n (j := 2) dX5_addTrip_9 rfl rfl ?_
    obtain ⟨z7, e6, h⟩ := obind_elim h
    refine j_callV MX5_154 YX5_hasPilot IX5_hasPilot SX5_hasPilot (by decide) rfl (by decide) (by omega) (Nat.le_of_ble_eq_true rfl) rfl (ctX5_hasPilot (d := d - 1) hl (by omega) hy0 hx2 e6) dX5_addTrip_10 hy0.1 hy0.lt hy0.ka rfl (fun z8 _ => ?_)
    by_cases c10 : z7 = 0
    · rw [if_pos c10] at h
      refine j_if_ne_f (bool_inR z8) dX5_addTrip_13 (tgt := 17) (by decide) (fun q => q c10) ?_
      cases h
      exact j_vret dX5_addTrip_16 rfl rfl trivial
    · rw [if_neg c10] at h
      refine j_if_ne_t (bool_inR z8) dX5_addTrip_13 (tgt := 17) (by decide) c10 ?_
      refine j_aload_n (j := 0) dX5_addTrip_17 rfl rfl ?_
      refine j_getR (q := (y0 + 3)) FX5_20 rfl dX5_addTrip_18 hy0.1 hy0.2.1 hy0.2.2 (lay5 hy0 (by decide)) (by omega) ?_
      refine j_iload_n (j := 1) dX5_addTrip_21 rfl rfl ?_
      obtain ⟨c11, h⟩ := chk_elim h
      have v12 : VK 3 (y0 + 6 + x1.toNat) := (VK.o hy0 c11)
      refine j_aald (q := (y0 + 6 + x1.toNat)) hx1 (by decide) (by decide) (by decide) (by decide) dX5_addTrip_22 (VK.f3 hy0).1 (VK.f3 hy0).2.1 (VK.f3 hy0).2.2 c11 (lay13 hy0 c11) (by omega) ?_
      refine j_astore (lv' := [(4, .ref (gB g + (y0 + 6 + x1.toNat))), (0, .ref (gB g + y0)), (1, vI x1), (2, vI x2), (3, vI x3)]) dX5_addTrip_23 (by decide) (by first | rfl | (simp only [List.all_cons, List.all_nil, rv_cat]; rfl)) rfl ?_
      refine j_aload (j := 0) dX5_addTrip_25 rfl ?_
      refine j_iload_n (j := 3) dX5_addTrip_27 rfl rfl ?_
      refine j_iload_n (j := 4) dX5_addTrip_28 rfl rfl ?_
      obtain ⟨p14, e13, h⟩ := obind_elim h
      refine j_callV MX5_157 YX3_setPlanned IX3_setPlanned SX3_setPlanned (by decide) rfl (by decide) (by omega) (Nat.le_of_ble_eq_true rfl) rfl (ctX3_setPlanned (d := d - 1) hl (by omega) v12 hx2 hx3 e13) dX5_addTrip_29 v12.1 v12.lt v12.ka rfl (fun z15 xt16 => ?_)
      refine j_aload_n (j := 1) dX5_addTrip_32 rfl rfl ?_
      refine j_getR (q := (y0 + 4)) FX5_26 rfl dX5_addTrip_33 hy0.1 hy0.2.1 hy0.2.2 (lay5 hy0 (by decide)) (by omega) ?_
      refine j_iload_n (j := 3) dX5_addTrip_36 rfl rfl ?_
      obtain ⟨c17, h⟩ := chk_elim h
      have v18 : VK 4 (y0 + 22 + x2.toNat) := (VK.p hy0 c17)
      refine j_aald (q := (y0 + 22 + x2.toNat)) hx2 (by decide) (by decide) (by decide) (by decide) dX5_addTrip_37 (VK.f4 hy0).1 (VK.f4 hy0).2.1 (VK.f4 hy0).2.2 c17 (lay14 hy0 c17) (by omega) ?_
      refine j_iconst dX5_addTrip_38 ?_
      refine j_iload_n (j := 2) dX5_addTrip_39 rfl rfl ?_
      refine j_iload_n (j := 4) dX5_addTrip_40 rfl rfl ?_
      refine j_aload (j := 0) dX5_addTrip_41 rfl ?_
      refine j_getI FX5_161 rfl dX5_addTrip_43 v12.1 v12.lt v12.ka (fun r19 => ?_)
      refine j_aload (j := 0) dX5_addTrip_46 rfl ?_
      obtain ⟨z21, e20, h⟩ := obind_elim h
      refine j_callV MX5_162 YX3_goal IX3_goal SX3_goal (by decide) rfl (by decide) (by omega) (Nat.le_of_ble_eq_true rfl) rfl (ctX3_goal (d := d - 1) hl (by omega) v12 e20) dX5_addTrip_48 v12.1 v12.lt v12.ka rfl (fun z22 _ => ?_)
      obtain ⟨p25, e24, h⟩ := obind_elim h
      refine j_callV MX5_165 YX4_add IX4_add SX4_add (by decide) rfl (by decide) (by omega) (Nat.le_of_ble_eq_true rfl) rfl (ctX4_add (d := d - 1) hl (by omega) v18 (inR_lit _ rfl) hx1 hx3 r19 z22 e24) dX5_addTrip_51 v18.1 v18.lt v18.ka rfl (fun z26 xt27 => ?_)
      cases h
      exact j_vret dX5_addTrip_54 rfl rfl trivial
theorem ctX5_addTrip {g : JG} {l : Launch} {d N : Nat} {A : AH} {out : AH} {y0 : Nat} {x1 : Int} {x2 : Int} {x3 : Int} (hl : l.stackTraces = false) (hd : 4 ≤ d) (hy0 : VK 5 y0) (hx1 : inR x1) (hx2 : inR x2) (hx3 : inR x3) (h : fX5_addTrip N A y0 x1 x2 x3 = some out) : CT g l yX5_addTrip cX5_addTrip 5 none d [.ref (gB g + y0), vI x1, vI x2, vI x3] A ((0, none, out) : JO) (True) :=
  CT_of (by decide +kernel) hl (by first | exact Nat.le_of_ble_eq_true rfl | (unfold rv; split <;> exact Nat.le_of_ble_eq_true rfl)) (by first | rfl | (unfold rv; split <;> rfl)) (j_sub (lv := [(0, .ref (gB g + y0)), (1, vI x1), (2, vI x2), (3, vI x3)]) [0, 1, 2, 3] rfl (tX5_addTrip_0 hl hd hy0 hx1 hx2 hx3 h))
set_option maxRecDepth 100000 in
theorem tX5_reasonAgainstRelease_0 {g : JG} {l : Launch} {d N n0 s0 : Nat} {out : Int} {A : AH} {y0 : Nat} {x1 : Int} (hl : l.stackTraces = false) (hd : 2 ≤ d) (hy0 : VK 5 y0) (hx1 : inR x1) (h : fX5_reasonAgainstRelease N A y0 x1 = some out) : J g l d RX5 "reasonAgainstRelease" cX5_reasonAgainstRelease 3 (some .int) n0 s0 ((0, some (vI out), A) : JO) (inR out) 0 [(0, .ref (gB g + y0)), (1, vI x1)] [] A := by
  unfold fX5_reasonAgainstRelease at h
  refine j_aload_n (j := 0) dX5_reasonAgainstRelease_0 rfl rfl ?_
  refine j_iload_n (j := 1) dX5_reasonAgainstRelease_1 rfl rfl ?_
  obtain ⟨z2, e1, h⟩ := obind_elim h
  refine j_callV MX5_150 YX5_hasOrder IX5_hasOrder SX5_hasOrder (by decide) rfl (by decide) (by omega) (Nat.le_of_ble_eq_true rfl) rfl (ctX5_hasOrder (d := d - 1) hl (by omega) hy0 hx1 e1) dX5_reasonAgainstRelease_2 hy0.1 hy0.lt hy0.ka rfl (fun z3 _ => ?_)
  by_cases c5 : z2 = 0
  · rw [if_pos c5] at h
    refine j_if_eq_t (bool_inR z3) dX5_reasonAgainstRelease_5 (tgt := 37) (by decide) c5 ?_
    refine j_bipush dX5_reasonAgainstRelease_37 rfl ?_
    cases h
    exact j_iret dX5_reasonAgainstRelease_39 rfl rfl rfl (inR_lit _ rfl)
  · rw [if_neg c5] at h
    refine j_if_eq_f (bool_inR z3) dX5_reasonAgainstRelease_5 (tgt := 37) (by decide) c5 ?_
    refine j_aload_n (j := 0) dX5_reasonAgainstRelease_8 rfl rfl ?_
    refine j_getR (q := (y0 + 3)) FX5_20 rfl dX5_reasonAgainstRelease_9 hy0.1 hy0.2.1 hy0.2.2 (lay5 hy0 (by decide)) (by omega) ?_
    refine j_iload_n (j := 1) dX5_reasonAgainstRelease_12 rfl rfl ?_
    obtain ⟨c6, h⟩ := chk_elim h
    have v7 : VK 3 (y0 + 6 + x1.toNat) := (VK.o hy0 c6)
    refine j_aald (q := (y0 + 6 + x1.toNat)) hx1 (by decide) (by decide) (by decide) (by decide) dX5_reasonAgainstRelease_13 (VK.f3 hy0).1 (VK.f3 hy0).2.1 (VK.f3 hy0).2.2 c6 (lay13 hy0 c6) (by omega) ?_
    refine j_getI FX5_128 rfl dX5_reasonAgainstRelease_14 v7.1 v7.lt v7.ka (fun r8 => ?_)
    refine j_iconst dX5_reasonAgainstRelease_17 ?_
    by_cases c9 : (gI A (y0 + 6 + x1.toNat) 5) = 1
    · rw [if_pos c9] at h
      refine j_icmp_ne_f r8 (inR_lit _ rfl) dX5_reasonAgainstRelease_18 (tgt := 37) (by decide) (fun q => q c9) ?_
      refine j_aload_n (j := 0) dX5_reasonAgainstRelease_21 rfl rfl ?_
      refine j_getR (q := (y0 + 3)) FX5_20 rfl dX5_reasonAgainstRelease_22 hy0.1 hy0.2.1 hy0.2.2 (lay5 hy0 (by decide)) (by omega) ?_
      refine j_iload_n (j := 1) dX5_reasonAgainstRelease_25 rfl rfl ?_
      obtain ⟨c10, h⟩ := chk_elim h
      have v11 : VK 3 (y0 + 6 + x1.toNat) := (VK.o hy0 c10)
      refine j_aald (q := (y0 + 6 + x1.toNat)) hx1 (by decide) (by decide) (by decide) (by decide) dX5_reasonAgainstRelease_26 (VK.f3 hy0).1 (VK.f3 hy0).2.1 (VK.f3 hy0).2.2 c10 (lay13 hy0 c10) (by omega) ?_
      refine j_getI FX5_168 rfl dX5_reasonAgainstRelease_27 v11.1 v11.lt v11.ka (fun r12 => ?_)
      refine j_aload_n (j := 0) dX5_reasonAgainstRelease_30 rfl rfl ?_
      refine j_getI FX5_51 rfl dX5_reasonAgainstRelease_31 hy0.1 hy0.lt hy0.ka (fun r13 => ?_)
      by_cases c14 : (gI A y0 5) < (gI A (y0 + 6 + x1.toNat) 7)
      · rw [if_pos c14] at h
        refine j_icmp_gt_t r12 r13 dX5_reasonAgainstRelease_34 (tgt := 40) (by decide) c14 ?_
        refine j_aload_n (j := 0) dX5_reasonAgainstRelease_40 rfl rfl ?_
        refine j_getR (q := (y0 + 3)) FX5_20 rfl dX5_reasonAgainstRelease_41 hy0.1 hy0.2.1 hy0.2.2 (lay5 hy0 (by decide)) (by omega) ?_
        refine j_iload_n (j := 1) dX5_reasonAgainstRelease_44 rfl rfl ?_
        obtain ⟨c15, h⟩ := chk_elim h
        have v16 : VK 3 (y0 + 6 + x1.toNat) := (VK.o hy0 c15)
        refine j_aald (q := (y0 + 6 + x1.toNat)) hx1 (by decide) (by decide) (by decide) (by decide) dX5_reasonAgainstRelease_45 (VK.f3 hy0).1 (VK.f3 hy0).2.1 (VK.f3 hy0).2.2 c15 (lay13 hy0 c15) (by omega) ?_
        refine j_getI FX5_171 rfl dX5_reasonAgainstRelease_46 v16.1 v16.lt v16.ka (fun r17 => ?_)
        obtain ⟨u18, eu18, h⟩ := bnd_elim h
        have hu18 : inR u18 := by rw [eu18]; exact r17
        refine j_nm eu18 ?_
        refine j_istore_n (lv' := [(2, vI u18), (0, .ref (gB g + y0)), (1, vI x1)]) dX5_reasonAgainstRelease_49 rfl (by decide) (by first | rfl | (simp only [List.all_cons, List.all_nil, rv_cat]; rfl)) rfl ?_
        refine j_aload_n (j := 1) dX5_reasonAgainstRelease_50 rfl rfl ?_
        refine j_iload_n (j := 0) dX5_reasonAgainstRelease_51 rfl rfl ?_
        obtain ⟨z20, e19, h⟩ := obind_elim h
        refine j_callV MX5_154 YX5_hasPilot IX5_hasPilot SX5_hasPilot (by decide) rfl (by decide) (by omega) (Nat.le_of_ble_eq_true rfl) rfl (ctX5_hasPilot (d := d - 1) hl (by omega) hy0 hu18 e19) dX5_reasonAgainstRelease_52 hy0.1 hy0.lt hy0.ka rfl (fun z21 _ => ?_)
        by_cases c23 : z20 = 0
        · rw [if_pos c23] at h
          refine j_if_eq_t (bool_inR z21) dX5_reasonAgainstRelease_55 (tgt := 71) (by decide) c23 ?_
          refine j_bipush dX5_reasonAgainstRelease_71 rfl ?_
          cases h
          exact j_iret dX5_reasonAgainstRelease_73 rfl rfl rfl (inR_lit _ rfl)
        · rw [if_neg c23] at h
          refine j_if_eq_f (bool_inR z21) dX5_reasonAgainstRelease_55 (tgt := 71) (by decide) c23 ?_
          refine j_aload_n (j := 1) dX5_reasonAgainstRelease_58 rfl rfl ?_
          refine j_getR (q := (y0 + 4)) FX5_26 rfl dX5_reasonAgainstRelease_59 hy0.1 hy0.2.1 hy0.2.2 (lay5 hy0 (by decide)) (by omega) ?_
          refine j_iload_n (j := 0) dX5_reasonAgainstRelease_62 rfl rfl ?_
          obtain ⟨c24, h⟩ := chk_elim h
          have v25 : VK 4 (y0 + 22 + u18.toNat) := (VK.p hy0 c24)
          refine j_aald (q := (y0 + 22 + u18.toNat)) hu18 (by decide) (by decide) (by decide) (by decide) dX5_reasonAgainstRelease_63 (VK.f4 hy0).1 (VK.f4 hy0).2.1 (VK.f4 hy0).2.2 c24 (lay14 hy0 c24) (by omega) ?_
          refine j_iload_n (j := 2) dX5_reasonAgainstRelease_64 rfl rfl ?_
          obtain ⟨z27, e26, h⟩ := obind_elim h
          refine j_callV MX5_174 YX4_endsWithTripFor IX4_endsWithTripFor SX4_endsWithTripFor (by decide) rfl (by decide) (by omega) (Nat.le_of_ble_eq_true rfl) rfl (ctX4_endsWithTripFor (d := d - 1) hl (by omega) v25 hx1 e26) dX5_reasonAgainstRelease_65 v25.1 v25.lt v25.ka rfl (fun z28 _ => ?_)
          by_cases c30 : z27 = 0
          · rw [if_pos c30] at h
            refine j_if_ne_f (bool_inR z28) dX5_reasonAgainstRelease_68 (tgt := 74) (by decide) (fun q => q c30) ?_
            refine j_bipush dX5_reasonAgainstRelease_71 rfl ?_
            cases h
            exact j_iret dX5_reasonAgainstRelease_73 rfl rfl rfl (inR_lit _ rfl)
          · rw [if_neg c30] at h
            refine j_if_ne_t (bool_inR z28) dX5_reasonAgainstRelease_68 (tgt := 74) (by decide) c30 ?_
            refine j_iconst dX5_reasonAgainstRelease_74 ?_
            cases h
            exact j_iret dX5_reasonAgainstRelease_75 rfl rfl rfl (inR_lit _ rfl)
      · rw [if_neg c14] at h
        refine j_icmp_gt_f r12 r13 dX5_reasonAgainstRelease_34 (tgt := 40) (by decide) c14 ?_
        refine j_bipush dX5_reasonAgainstRelease_37 rfl ?_
        cases h
        exact j_iret dX5_reasonAgainstRelease_39 rfl rfl rfl (inR_lit _ rfl)
    · rw [if_neg c9] at h
      refine j_icmp_ne_t r8 (inR_lit _ rfl) dX5_reasonAgainstRelease_18 (tgt := 37) (by decide) c9 ?_
      refine j_bipush dX5_reasonAgainstRelease_37 rfl ?_
      cases h
      exact j_iret dX5_reasonAgainstRelease_39 rfl rfl rfl (inR_lit _ rfl)
