theorem ctX9_planOf {g : JG} {l : Launch} {d N : Nat} {A : AH} {out : Int × AH} {x1 : Int} {x2 : Int} {x3 : Int} (hl : l.stackTraces = false) (hd : 4 ≤ d) (hx1 : inR x1) (hx2 : inR x2) (hx3 : inR x3) (h : fX9_planOf N A x1 x2 x3 = some out) : CT g l yX9_planOf cX9_planOf 6 (some .int) d [.ref (gB g + 349), vI x1, vI x2, vI x3] A ((0, some (vI out.1), out.2) : JO) (inR out.1) :=
  CT_of (by decide +kernel) hl (by first | exact Nat.le_of_ble_eq_true rfl | (unfold rv; split <;> exact Nat.le_of_ble_eq_true rfl)) (by first | rfl | (unfold rv; split <;> rfl)) (j_sub (lv := [(0, .ref (gB g + 349)), (1, vI x1), (2, vI x2), (3, vI x3)]) [0, 1, 2, 3] rfl (tX9_planOf_0 hl hd hx1 hx2 hx3 h))
set_option maxRecDepth 100000 in
theorem tX9_placeAt_92 {g : JG} {l : Launch} {d N n0 s0 : Nat} {out : Int} {A : AH} {x1 : Int} {x2 : Int} (hl : l.stackTraces = false) (hd : 3 ≤ d) (hx1 : inR x1) (hx2 : inR x2) : ∀ (n : Nat) (x3 : Int) (x4 : Int) (x5 : Int), inR x3 → inR x4 → inR x5 → fX9_placeAt_92 N A x1 x2 n x3 x4 x5 = some out → J g l d RX9 "placeAt" cX9_placeAt 7 (some .int) n0 s0 ((0, some (vI out), A) : JO) (inR out) 92 [(0, .ref (gB g + 349)), (1, vI x1), (2, vI x2), (3, vI x3), (4, vI x4), (5, vI x5)] [] A := by
  intro n
  induction n with
  | zero =>
    intro x3 x4 x5 hx3 hx4 hx5 h
    rw [fX9_placeAt_92] at h
    cases h
  | succ n ih =>
    intro x3 x4 x5 hx3 hx4 hx5 h
    rw [fX9_placeAt_92] at h
    refine j_iload (j := 5) dX9_placeAt_92 rfl ?_
    refine j_aload_n (j := 0) dX9_placeAt_94 rfl rfl ?_
    refine j_getI FX9_137 rfl dX9_placeAt_95 (VK_c 9 349 rfl).1 (VK_c 9 349 rfl).lt (VK_c 9 349 rfl).ka (fun r1 => ?_)
    by_cases c2 : (gI A 349 23) ≤ x5
    · rw [if_pos c2] at h
      refine j_icmp_ge_t hx5 r1 dX9_placeAt_98 (tgt := 182) (by decide) c2 ?_
      refine j_iload_n (j := 3) dX9_placeAt_182 rfl rfl ?_
      cases h
      exact j_iret dX9_placeAt_183 rfl rfl rfl hx3
    · rw [if_neg c2] at h
      refine j_icmp_ge_f hx5 r1 dX9_placeAt_98 (tgt := 182) (by decide) c2 ?_
      refine j_aload_n (j := 0) dX9_placeAt_101 rfl rfl ?_
      refine j_getR (q := 367) FX9_61 rfl dX9_placeAt_102 (by decide) (by decide) rfl rfl (by decide) ?_
      refine j_iload (j := 5) dX9_placeAt_105 rfl ?_
      obtain ⟨c3, h⟩ := chk_elim h
      refine j_iald hx5 (by decide) (by decide) rfl dX9_placeAt_107 (VK_c 37 367 rfl).1 (VK_c 37 367 rfl).lt (VK_c 37 367 rfl).ka c3 (fun r4 => ?_)
      obtain ⟨z6, e5, h⟩ := obind_elim h
      refine j_callS MX9_279 YX9_hourOf IX9_hourOf (by decide) (by omega) (Nat.le_of_ble_eq_true rfl) rfl (ctX9_hourOf (d := d - 1) hl (by omega) r4 e5) dX9_placeAt_108 rfl (fun z7 _ => ?_)
      refine j_istore (lv' := [(6, vI z6), (0, .ref (gB g + 349)), (1, vI x1), (2, vI x2), (3, vI x3), (4, vI x4), (5, vI x5)]) dX9_placeAt_111 (by decide) (by first | rfl | (simp only [List.all_cons, List.all_nil, rv_cat]; rfl)) rfl ?_
      refine j_aload_n (j := 1) dX9_placeAt_113 rfl rfl ?_
      refine j_getR (q := 367) FX9_61 rfl dX9_placeAt_114 (by decide) (by decide) rfl rfl (by decide) ?_
      refine j_iload (j := 6) dX9_placeAt_117 rfl ?_
      obtain ⟨c9, h⟩ := chk_elim h
      refine j_iald hx5 (by decide) (by decide) rfl dX9_placeAt_119 (VK_c 37 367 rfl).1 (VK_c 37 367 rfl).lt (VK_c 37 367 rfl).ka c9 (fun r10 => ?_)
      refine j_iload_n (j := 2) dX9_placeAt_120 rfl rfl ?_
      obtain ⟨z12, e11, h⟩ := obind_elim h
      refine j_callS MX9_140 YX9_has IX9_has (by decide) (by omega) (Nat.le_of_ble_eq_true rfl) rfl (ctX9_has (d := d - 1) hl (by omega) r10 hx1 e11) dX9_placeAt_121 rfl (fun z13 _ => ?_)
      by_cases c15 : z12 = 0
      · rw [if_pos c15] at h
        refine j_if_eq_t (bool_inR z13) dX9_placeAt_124 (tgt := 176) (by decide) c15 ?_
        obtain ⟨u16, eu16, h⟩ := bnd_elim h
        have hu16 : inR u16 := by rw [eu16]; exact wrap_inR _
        refine j_iincN (k := 6) (lv' := [(5, vI u16), (6, vI z6), (0, .ref (gB g + 349)), (1, vI x1), (2, vI x2), (3, vI x3), (4, vI x4)]) eu16 dX9_placeAt_176 rfl (by decide) (by first | rfl | (simp only [List.all_cons, List.all_nil, rv_cat]; rfl)) rfl ?_
        refine j_goto (tgt := 92) dX9_placeAt_179 (by decide) ?_
        exact j_sub [2, 3, 4, 5, 6, 0] rfl (ih x3 x4 u16 hx3 hx4 hu16 h)
      · rw [if_neg c15] at h
        refine j_if_eq_f (bool_inR z13) dX9_placeAt_124 (tgt := 176) (by decide) c15 ?_
        refine j_iload (j := 0) dX9_placeAt_127 rfl ?_
        refine j_iload_n (j := 3) dX9_placeAt_129 rfl rfl ?_
        by_cases c17 : x2 < z6
        · rw [if_pos c17] at h
          refine j_icmp_gt_t z7 hx2 dX9_placeAt_130 (tgt := 176) (by decide) c17 ?_
          obtain ⟨u18, eu18, h⟩ := bnd_elim h
          have hu18 : inR u18 := by rw [eu18]; exact wrap_inR _
          refine j_iincN (k := 6) (lv' := [(5, vI u18), (6, vI z6), (0, .ref (gB g + 349)), (1, vI x1), (2, vI x2), (3, vI x3), (4, vI x4)]) eu18 dX9_placeAt_176 rfl (by decide) (by first | rfl | (simp only [List.all_cons, List.all_nil, rv_cat]; rfl)) rfl ?_
          refine j_goto (tgt := 92) dX9_placeAt_179 (by decide) ?_
          exact j_sub [2, 3, 4, 5, 6, 0] rfl (ih x3 x4 u18 hx3 hx4 hu18 h)
        · rw [if_neg c17] at h
          refine j_icmp_gt_f z7 hx2 dX9_placeAt_130 (tgt := 176) (by decide) c17 ?_
          refine j_iload (j := 0) dX9_placeAt_133 rfl ?_
          refine j_iload (j := 5) dX9_placeAt_135 rfl ?_
          by_cases c19 : x4 ≤ z6
          · rw [if_pos c19] at h
            refine j_icmp_ge_t z7 hx4 dX9_placeAt_137 (tgt := 143) (by decide) c19 ?_
            refine j_iload (j := 0) dX9_placeAt_143 rfl ?_
            refine j_istore (lv' := [(4, vI z6), (6, vI z6), (0, .ref (gB g + 349)), (1, vI x1), (2, vI x2), (3, vI x3), (5, vI x5)]) dX9_placeAt_145 (by decide) (by first | rfl | (simp only [List.all_cons, List.all_nil, rv_cat]; rfl)) rfl ?_
            refine j_aload_n (j := 2) dX9_placeAt_147 rfl rfl ?_
            refine j_getR (q := 367) FX9_61 rfl dX9_placeAt_148 (by decide) (by decide) rfl rfl (by decide) ?_
            refine j_iload (j := 6) dX9_placeAt_151 rfl ?_
            obtain ⟨c20, h⟩ := chk_elim h
            refine j_iald hx5 (by decide) (by decide) rfl dX9_placeAt_153 (VK_c 37 367 rfl).1 (VK_c 37 367 rfl).lt (VK_c 37 367 rfl).ka c20 (fun r21 => ?_)
            obtain ⟨z23, e22, h⟩ := obind_elim h
            refine j_callS MX9_143 YX9_endOf IX9_endOf (by decide) (by omega) (Nat.le_of_ble_eq_true rfl) rfl (ctX9_endOf (d := d - 1) hl (by omega) r21 e22) dX9_placeAt_154 rfl (fun z24 _ => ?_)
            refine j_iload_n (j := 4) dX9_placeAt_157 rfl rfl ?_
            by_cases c26 : z23 ≤ x2
            · rw [if_pos c26] at h
              refine j_icmp_le_t z24 hx2 dX9_placeAt_158 (tgt := 165) (by decide) c26 ?_
              refine j_aload_n (j := 2) dX9_placeAt_165 rfl rfl ?_
              refine j_getR (q := 367) FX9_61 rfl dX9_placeAt_166 (by decide) (by decide) rfl rfl (by decide) ?_
              refine j_iload (j := 6) dX9_placeAt_169 rfl ?_
              obtain ⟨c27, h⟩ := chk_elim h
              refine j_iald hx5 (by decide) (by decide) rfl dX9_placeAt_171 (VK_c 37 367 rfl).1 (VK_c 37 367 rfl).lt (VK_c 37 367 rfl).ka c27 (fun r28 => ?_)
              obtain ⟨z30, e29, h⟩ := obind_elim h
              refine j_callS MX9_146 YX9_toOf IX9_toOf (by decide) (by omega) (Nat.le_of_ble_eq_true rfl) rfl (ctX9_toOf (d := d - 1) hl (by omega) r28 e29) dX9_placeAt_172 rfl (fun z31 _ => ?_)
              refine j_istore_n (lv' := [(3, vI z30), (4, vI z6), (6, vI z6), (0, .ref (gB g + 349)), (1, vI x1), (2, vI x2), (5, vI x5)]) dX9_placeAt_175 rfl (by decide) (by first | rfl | (simp only [List.all_cons, List.all_nil, rv_cat]; rfl)) rfl ?_
              obtain ⟨u33, eu33, h⟩ := bnd_elim h
              have hu33 : inR u33 := by rw [eu33]; exact wrap_inR _
              refine j_iincN (k := 6) (lv' := [(5, vI u33), (3, vI z30), (4, vI z6), (6, vI z6), (0, .ref (gB g + 349)), (1, vI x1), (2, vI x2)]) eu33 dX9_placeAt_176 rfl (by decide) (by first | rfl | (simp only [List.all_cons, List.all_nil, rv_cat]; rfl)) rfl ?_
              refine j_goto (tgt := 92) dX9_placeAt_179 (by decide) ?_
              exact j_sub [4, 5, 6, 1, 2, 0] rfl (ih z30 z6 u33 z31 z7 hu33 h)
            · rw [if_neg c26] at h
              refine j_icmp_le_f z24 hx2 dX9_placeAt_158 (tgt := 165) (by decide) c26 ?_
              refine j_iconst dX9_placeAt_161 ?_
              refine j_goto (tgt := 175) dX9_placeAt_162 (by decide) ?_
              refine j_istore_n (lv' := [(3, vI (-1)), (4, vI z6), (6, vI z6), (0, .ref (gB g + 349)), (1, vI x1), (2, vI x2), (5, vI x5)]) dX9_placeAt_175 rfl (by decide) (by first | rfl | (simp only [List.all_cons, List.all_nil, rv_cat]; rfl)) rfl ?_
              obtain ⟨u34, eu34, h⟩ := bnd_elim h
              have hu34 : inR u34 := by rw [eu34]; exact wrap_inR _
              refine j_iincN (k := 6) (lv' := [(5, vI u34), (3, vI (-1)), (4, vI z6), (6, vI z6), (0, .ref (gB g + 349)), (1, vI x1), (2, vI x2)]) eu34 dX9_placeAt_176 rfl (by decide) (by first | rfl | (simp only [List.all_cons, List.all_nil, rv_cat]; rfl)) rfl ?_
              refine j_goto (tgt := 92) dX9_placeAt_179 (by decide) ?_
              exact j_sub [4, 5, 6, 1, 2, 0] rfl (ih (-1) z6 u34 (inR_lit _ rfl) z7 hu34 h)
          · rw [if_neg c19] at h
            refine j_icmp_ge_f z7 hx4 dX9_placeAt_137 (tgt := 143) (by decide) c19 ?_
            refine j_goto (tgt := 176) dX9_placeAt_140 (by decide) ?_
            obtain ⟨u35, eu35, h⟩ := bnd_elim h
            have hu35 : inR u35 := by rw [eu35]; exact wrap_inR _
            refine j_iincN (k := 6) (lv' := [(5, vI u35), (6, vI z6), (0, .ref (gB g + 349)), (1, vI x1), (2, vI x2), (3, vI x3), (4, vI x4)]) eu35 dX9_placeAt_176 rfl (by decide) (by first | rfl | (simp only [List.all_cons, List.all_nil, rv_cat]; rfl)) rfl ?_
            refine j_goto (tgt := 92) dX9_placeAt_179 (by decide) ?_
            exact j_sub [2, 3, 4, 5, 6, 0] rfl (ih x3 x4 u35 hx3 hx4 hu35 h)
set_option maxRecDepth 100000 in
theorem tX9_placeAt_8 {g : JG} {l : Launch} {d N n0 s0 : Nat} {out : Int} {A : AH} {x1 : Int} {x2 : Int} (hl : l.stackTraces = false) (hd : 3 ≤ d) (hx1 : inR x1) (hx2 : inR x2) : ∀ (n : Nat) (x3 : Int) (x4 : Int) (x5 : Int), inR x3 → inR x4 → inR x5 → fX9_placeAt_8 N A x1 x2 n x3 x4 x5 = some out → J g l d RX9 "placeAt" cX9_placeAt 7 (some .int) n0 s0 ((0, some (vI out), A) : JO) (inR out) 8 [(0, .ref (gB g + 349)), (1, vI x1), (2, vI x2), (3, vI x3), (4, vI x4), (5, vI x5)] [] A := by
  intro n
  induction n with
  | zero =>
    intro x3 x4 x5 hx3 hx4 hx5 h
    rw [fX9_placeAt_8] at h
    cases h
  | succ n ih =>
    intro x3 x4 x5 hx3 hx4 hx5 h
    rw [fX9_placeAt_8] at h
    refine j_iload (j := 5) dX9_placeAt_8 rfl ?_
    refine j_aload_n (j := 0) dX9_placeAt_10 rfl rfl ?_
    refine j_getI FX9_100 rfl dX9_placeAt_11 (VK_c 9 349 rfl).1 (VK_c 9 349 rfl).lt (VK_c 9 349 rfl).ka (fun r1 => ?_)
    by_cases c2 : (gI A 349 22) ≤ x5
    · rw [if_pos c2] at h
      refine j_icmp_ge_t hx5 r1 dX9_placeAt_14 (tgt := 89) (by decide) c2 ?_
      refine j_iconst dX9_placeAt_89 ?_
      refine j_istore (lv' := [(5, vI 0), (0, .ref (gB g + 349)), (1, vI x1), (2, vI x2), (3, vI x3), (4, vI x4)]) dX9_placeAt_90 (by decide) (by first | rfl | (simp only [List.all_cons, List.all_nil, rv_cat]; rfl)) rfl ?_
      exact j_sub [1, 2, 3, 4, 5, 0] rfl (tX9_placeAt_92 hl (by omega) hx1 hx2  N x3 x4 0 hx3 hx4 (inR_lit _ rfl) h)
    · rw [if_neg c2] at h
      refine j_icmp_ge_f hx5 r1 dX9_placeAt_14 (tgt := 89) (by decide) c2 ?_
      refine j_aload_n (j := 0) dX9_placeAt_17 rfl rfl ?_
      refine j_iload (j := 5) dX9_placeAt_18 rfl ?_
      refine j_iload_n (j := 1) dX9_placeAt_20 rfl rfl ?_
      obtain ⟨z4, e3, h⟩ := obind_elim h
      refine j_callV MX9_124 YX9_isTripOf IX9_isTripOf SX9_isTripOf (by decide) rfl (by decide) (by omega) (Nat.le_of_ble_eq_true rfl) rfl (ctX9_isTripOf (d := d - 1) hl (by omega) hx5 hx1 e3) dX9_placeAt_21 (VK_c 9 349 rfl).1 (VK_c 9 349 rfl).lt (VK_c 9 349 rfl).ka rfl (fun z5 _ => ?_)
      by_cases c7 : z4 = 0
      · rw [if_pos c7] at h
        refine j_if_eq_t (bool_inR z5) dX9_placeAt_24 (tgt := 83) (by decide) c7 ?_
        obtain ⟨u8, eu8, h⟩ := bnd_elim h
        have hu8 : inR u8 := by rw [eu8]; exact wrap_inR _
        refine j_iincN (k := 5) (lv' := [(5, vI u8), (0, .ref (gB g + 349)), (1, vI x1), (2, vI x2), (3, vI x3), (4, vI x4)]) eu8 dX9_placeAt_83 rfl (by decide) (by first | rfl | (simp only [List.all_cons, List.all_nil, rv_cat]; rfl)) rfl ?_
        refine j_goto (tgt := 8) dX9_placeAt_86 (by decide) ?_
        exact j_sub [1, 2, 3, 4, 5, 0] rfl (ih x3 x4 u8 hx3 hx4 hu8 h)
      · rw [if_neg c7] at h
        refine j_if_eq_f (bool_inR z5) dX9_placeAt_24 (tgt := 83) (by decide) c7 ?_
        refine j_aload_n (j := 0) dX9_placeAt_27 rfl rfl ?_
        refine j_getR (q := 359) FX9_37 rfl dX9_placeAt_28 (by decide) (by decide) rfl rfl (by decide) ?_
        refine j_iload (j := 5) dX9_placeAt_31 rfl ?_
        obtain ⟨c9, h⟩ := chk_elim h
        refine j_iald hx5 (by decide) (by decide) rfl dX9_placeAt_33 (VK_c 29 359 rfl).1 (VK_c 29 359 rfl).lt (VK_c 29 359 rfl).ka c9 (fun r10 => ?_)
        refine j_iload_n (j := 2) dX9_placeAt_34 rfl rfl ?_
        by_cases c11 : x2 < (gI A 359 x5.toNat)
        · rw [if_pos c11] at h
          refine j_icmp_gt_t r10 hx2 dX9_placeAt_35 (tgt := 83) (by decide) c11 ?_
          obtain ⟨u12, eu12, h⟩ := bnd_elim h
          have hu12 : inR u12 := by rw [eu12]; exact wrap_inR _
          refine j_iincN (k := 5) (lv' := [(5, vI u12), (0, .ref (gB g + 349)), (1, vI x1), (2, vI x2), (3, vI x3), (4, vI x4)]) eu12 dX9_placeAt_83 rfl (by decide) (by first | rfl | (simp only [List.all_cons, List.all_nil, rv_cat]; rfl)) rfl ?_
          refine j_goto (tgt := 8) dX9_placeAt_86 (by decide) ?_
          exact j_sub [1, 2, 3, 4, 5, 0] rfl (ih x3 x4 u12 hx3 hx4 hu12 h)
        · rw [if_neg c11] at h
          refine j_icmp_gt_f r10 hx2 dX9_placeAt_35 (tgt := 83) (by decide) c11 ?_
          refine j_aload_n (j := 0) dX9_placeAt_38 rfl rfl ?_
          refine j_getR (q := 359) FX9_37 rfl dX9_placeAt_39 (by decide) (by decide) rfl rfl (by decide) ?_
          refine j_iload (j := 5) dX9_placeAt_42 rfl ?_
          obtain ⟨c13, h⟩ := chk_elim h
          refine j_iald hx5 (by decide) (by decide) rfl dX9_placeAt_44 (VK_c 29 359 rfl).1 (VK_c 29 359 rfl).lt (VK_c 29 359 rfl).ka c13 (fun r14 => ?_)
          refine j_iload (j := 4) dX9_placeAt_45 rfl ?_
          by_cases c15 : x4 ≤ (gI A 359 x5.toNat)
          · rw [if_pos c15] at h
            refine j_icmp_ge_t r14 hx4 dX9_placeAt_47 (tgt := 53) (by decide) c15 ?_
            refine j_aload_n (j := 0) dX9_placeAt_53 rfl rfl ?_
            refine j_getR (q := 359) FX9_37 rfl dX9_placeAt_54 (by decide) (by decide) rfl rfl (by decide) ?_
            refine j_iload (j := 5) dX9_placeAt_57 rfl ?_
            obtain ⟨c16, h⟩ := chk_elim h
            refine j_iald hx5 (by decide) (by decide) rfl dX9_placeAt_59 (VK_c 29 359 rfl).1 (VK_c 29 359 rfl).lt (VK_c 29 359 rfl).ka c16 (fun r17 => ?_)
            obtain ⟨u18, eu18, h⟩ := bnd_elim h
            have hu18 : inR u18 := by rw [eu18]; exact r17
            refine j_nm eu18 ?_
            refine j_istore (lv' := [(4, vI u18), (0, .ref (gB g + 349)), (1, vI x1), (2, vI x2), (3, vI x3), (5, vI x5)]) dX9_placeAt_60 (by decide) (by first | rfl | (simp only [List.all_cons, List.all_nil, rv_cat]; rfl)) rfl ?_
            refine j_aload_n (j := 1) dX9_placeAt_62 rfl rfl ?_
            refine j_iload (j := 5) dX9_placeAt_63 rfl ?_
            obtain ⟨z20, e19, h⟩ := obind_elim h
            refine j_callV MX9_127 YX9_end IX9_end SX9_end (by decide) rfl (by decide) (by omega) (Nat.le_of_ble_eq_true rfl) rfl (ctX9_end (d := d - 1) hl (by omega) hx5 e19) dX9_placeAt_65 (VK_c 9 349 rfl).1 (VK_c 9 349 rfl).lt (VK_c 9 349 rfl).ka rfl (fun z21 _ => ?_)
            refine j_iload_n (j := 3) dX9_placeAt_68 rfl rfl ?_
            by_cases c23 : z20 ≤ x2
            · rw [if_pos c23] at h
              refine j_icmp_le_t z21 hx2 dX9_placeAt_69 (tgt := 76) (by decide) c23 ?_
              refine j_aload_n (j := 1) dX9_placeAt_76 rfl rfl ?_
              refine j_iload (j := 5) dX9_placeAt_77 rfl ?_
              obtain ⟨z25, e24, h⟩ := obind_elim h
              refine j_callV MX9_130 YX9_goalOf IX9_goalOf SX9_goalOf (by decide) rfl (by decide) (by omega) (Nat.le_of_ble_eq_true rfl) rfl (ctX9_goalOf (d := d - 1) hl (by omega) hx5 e24) dX9_placeAt_79 (VK_c 9 349 rfl).1 (VK_c 9 349 rfl).lt (VK_c 9 349 rfl).ka rfl (fun z26 _ => ?_)
              refine j_istore_n (lv' := [(3, vI z25), (4, vI u18), (0, .ref (gB g + 349)), (1, vI x1), (2, vI x2), (5, vI x5)]) dX9_placeAt_82 rfl (by decide) (by first | rfl | (simp only [List.all_cons, List.all_nil, rv_cat]; rfl)) rfl ?_
              obtain ⟨u28, eu28, h⟩ := bnd_elim h
              have hu28 : inR u28 := by rw [eu28]; exact wrap_inR _
              refine j_iincN (k := 5) (lv' := [(5, vI u28), (3, vI z25), (4, vI u18), (0, .ref (gB g + 349)), (1, vI x1), (2, vI x2)]) eu28 dX9_placeAt_83 rfl (by decide) (by first | rfl | (simp only [List.all_cons, List.all_nil, rv_cat]; rfl)) rfl ?_
              refine j_goto (tgt := 8) dX9_placeAt_86 (by decide) ?_
              exact j_sub [3, 4, 5, 1, 2, 0] rfl (ih z25 u18 u28 z26 hu18 hu28 h)
            · rw [if_neg c23] at h
              refine j_icmp_le_f z21 hx2 dX9_placeAt_69 (tgt := 76) (by decide) c23 ?_
              refine j_iconst dX9_placeAt_72 ?_
              refine j_goto (tgt := 82) dX9_placeAt_73 (by decide) ?_
              refine j_istore_n (lv' := [(3, vI (-1)), (4, vI u18), (0, .ref (gB g + 349)), (1, vI x1), (2, vI x2), (5, vI x5)]) dX9_placeAt_82 rfl (by decide) (by first | rfl | (simp only [List.all_cons, List.all_nil, rv_cat]; rfl)) rfl ?_
              obtain ⟨u29, eu29, h⟩ := bnd_elim h
              have hu29 : inR u29 := by rw [eu29]; exact wrap_inR _
              refine j_iincN (k := 5) (lv' := [(5, vI u29), (3, vI (-1)), (4, vI u18), (0, .ref (gB g + 349)), (1, vI x1), (2, vI x2)]) eu29 dX9_placeAt_83 rfl (by decide) (by first | rfl | (simp only [List.all_cons, List.all_nil, rv_cat]; rfl)) rfl ?_
              refine j_goto (tgt := 8) dX9_placeAt_86 (by decide) ?_
              exact j_sub [3, 4, 5, 1, 2, 0] rfl (ih (-1) u18 u29 (inR_lit _ rfl) hu18 hu29 h)
          · rw [if_neg c15] at h
            refine j_icmp_ge_f r14 hx4 dX9_placeAt_47 (tgt := 53) (by decide) c15 ?_
            refine j_goto (tgt := 83) dX9_placeAt_50 (by decide) ?_
            obtain ⟨u30, eu30, h⟩ := bnd_elim h
            have hu30 : inR u30 := by rw [eu30]; exact wrap_inR _
            refine j_iincN (k := 5) (lv' := [(5, vI u30), (0, .ref (gB g + 349)), (1, vI x1), (2, vI x2), (3, vI x3), (4, vI x4)]) eu30 dX9_placeAt_83 rfl (by decide) (by first | rfl | (simp only [List.all_cons, List.all_nil, rv_cat]; rfl)) rfl ?_
            refine j_goto (tgt := 8) dX9_placeAt_86 (by decide) ?_
            exact j_sub [1, 2, 3, 4, 5, 0] rfl (ih x3 x4 u30 hx3 hx4 hu30 h)
set_option maxRecDepth 100000 in
theorem tX9_placeAt_0 {g : JG} {l : Launch} {d N n0 s0 : Nat} {out : Int} {A : AH} {x1 : Int} {x2 : Int} (hl : l.stackTraces = false) (hd : 3 ≤ d) (hx1 : inR x1) (hx2 : inR x2) (h : fX9_placeAt N A x1 x2 = some out) : J g l d RX9 "placeAt" cX9_placeAt 7 (some .int) n0 s0 ((0, some (vI out), A) : JO) (inR out) 0 [(0, .ref (gB g + 349)), (1, vI x1), (2, vI x2)] [] A := by
  unfold fX9_placeAt at h
  refine j_iconst dX9_placeAt_0 ?_
  refine j_istore_n (lv' := [(3, vI 0), (0, .ref (gB g + 349)), (1, vI x1), (2, vI x2)]) dX9_placeAt_1 rfl (by decide) (by first | rfl | (simp only [List.all_cons, List.all_nil, rv_cat]; rfl)) rfl ?_
  refine j_iconst dX9_placeAt_2 ?_
  refine j_istore (lv' := [(4, vI (-1)), (3, vI 0), (0, .ref (gB g + 349)), (1, vI x1), (2, vI x2)]) dX9_placeAt_3 (by decide) (by first | rfl | (simp only [List.all_cons, List.all_nil, rv_cat]; rfl)) rfl ?_
  refine j_iconst dX9_placeAt_5 ?_
  refine j_istore (lv' := [(5, vI 0), (4, vI (-1)), (3, vI 0), (0, .ref (gB g + 349)), (1, vI x1), (2, vI x2)]) dX9_placeAt_6 (by decide) (by first | rfl | (simp only [List.all_cons, List.all_nil, rv_cat]; rfl)) rfl ?_
  exact j_sub [3, 4, 5, 2, 1, 0] rfl (tX9_placeAt_8 hl (by omega) hx1 hx2  N 0 (-1) 0 (inR_lit _ rfl) (inR_lit _ rfl) (inR_lit _ rfl) h)
theorem ctX9_placeAt {g : JG} {l : Launch} {d N : Nat} {A : AH} {out : Int} {x1 : Int} {x2 : Int} (hl : l.stackTraces = false) (hd : 3 ≤ d) (hx1 : inR x1) (hx2 : inR x2) (h : fX9_placeAt N A x1 x2 = some out) : CT g l yX9_placeAt cX9_placeAt 7 (some .int) d [.ref (gB g + 349), vI x1, vI x2] A ((0, some (vI out), A) : JO) (inR out) :=
  CT_of (by decide +kernel) hl (by first | exact Nat.le_of_ble_eq_true rfl | (unfold rv; split <;> exact Nat.le_of_ble_eq_true rfl)) (by first | rfl | (unfold rv; split <;> rfl)) (j_sub (lv := [(0, .ref (gB g + 349)), (1, vI x1), (2, vI x2)]) [0, 1, 2] rfl (tX9_placeAt_0 hl hd hx1 hx2 h))
set_option maxRecDepth 100000 in
theorem tX9_place_0 {g : JG} {l : Launch} {d N n0 s0 : Nat} {out : Int × AH} {A : AH} {x1 : Int} {x2 : Int} (hl : l.stackTraces = false) (hd : 4 ≤ d) (hx1 : inR x1) (hx2 : inR x2) (h : fX9_place N A x1 x2 = some out) : J g l d RX9 "place" cX9_place 3 (some .int) n0 s0 ((0, some (vI out.1), out.2) : JO) (inR out.1) 0 [(0, .ref (gB g + 349)), (1, vI x1), (2, vI x2)] [] A := by
  unfold fX9_place at h
  refine j_aload_n (j := 0) dX9_place_0 rfl rfl ?_
  refine j_iload_n (j := 1) dX9_place_1 rfl rfl ?_
  obtain ⟨z2, e1, h⟩ := obind_elim h
  refine j_callV MX9_245 YX9_isPilot IX9_isPilot SX9_isPilot (by decide) rfl (by decide) (by omega) (Nat.le_of_ble_eq_true rfl) rfl (ctX9_isPilot (d := d - 1) hl (by omega) hx1 e1) dX9_place_2 (VK_c 9 349 rfl).1 (VK_c 9 349 rfl).lt (VK_c 9 349 rfl).ka rfl (fun z3 _ => ?_)
  by_cases c5 : z2 = 0
  · rw [if_pos c5] at h
    refine j_if_eq_t (bool_inR z3) dX9_place_5 (tgt := 15) (by decide) c5 ?_
    refine j_aload_n (j := 0) dX9_place_15 rfl rfl ?_
    refine j_iconst dX9_place_16 ?_
    obtain ⟨p7, e6, h⟩ := obind_elim h
    refine j_callV MX9_220 YX9_fails IX9_fails SX9_fails (by decide) rfl (by decide) (by omega) (Nat.le_of_ble_eq_true rfl) rfl (ctX9_fails (d := d - 1) hl (by omega) (inR_lit _ rfl) e6) dX9_place_17 (VK_c 9 349 rfl).1 (VK_c 9 349 rfl).lt (VK_c 9 349 rfl).ka rfl (fun z8 xt9 => ?_)
    cases h
    exact j_iret dX9_place_20 rfl rfl rfl z8
  · rw [if_neg c5] at h
    refine j_if_eq_f (bool_inR z3) dX9_place_5 (tgt := 15) (by decide) c5 ?_
    refine j_iload_n (j := 2) dX9_place_8 rfl rfl ?_
    obtain ⟨z11, e10, h⟩ := obind_elim h
    refine j_callS MX9_226 YX9_isHour IX9_isHour (by decide) (by omega) (Nat.le_of_ble_eq_true rfl) rfl (ctX9_isHour (d := d - 1) hl (by omega) hx2 e10) dX9_place_9 rfl (fun z12 _ => ?_)
    by_cases c14 : z11 = 0
    · rw [if_pos c14] at h
      refine j_if_ne_f (bool_inR z12) dX9_place_12 (tgt := 21) (by decide) (fun q => q c14) ?_
      refine j_aload_n (j := 0) dX9_place_15 rfl rfl ?_
      refine j_iconst dX9_place_16 ?_
      obtain ⟨p21, e20, h⟩ := obind_elim h
      refine j_callV MX9_220 YX9_fails IX9_fails SX9_fails (by decide) rfl (by decide) (by omega) (Nat.le_of_ble_eq_true rfl) rfl (ctX9_fails (d := d - 1) hl (by omega) (inR_lit _ rfl) e20) dX9_place_17 (VK_c 9 349 rfl).1 (VK_c 9 349 rfl).lt (VK_c 9 349 rfl).ka rfl (fun z22 xt23 => ?_)
      cases h
      exact j_iret dX9_place_20 rfl rfl rfl z22
    · rw [if_neg c14] at h
      refine j_if_ne_t (bool_inR z12) dX9_place_12 (tgt := 21) (by decide) c14 ?_
      refine j_aload_n (j := 0) dX9_place_21 rfl rfl ?_
      refine j_iconst dX9_place_22 ?_
      obtain ⟨A15, eA15, h⟩ := bnd_elim h
      have xA15 : XT A A15 := by rw [eA15]; exact XT_sI _ _ _ _
      refine j_putI FX9_87 rfl rfl rfl (inR_lit _ rfl) dX9_place_23 (VK_c 9 349 rfl).1 (VK_c 9 349 rfl).lt (VK_c 9 349 rfl).ka ?_
      refine j_hB eA15 ?_
      refine j_aload_n (j := 0) dX9_place_26 rfl rfl ?_
      refine j_iload_n (j := 1) dX9_place_27 rfl rfl ?_
      refine j_iload_n (j := 2) dX9_place_28 rfl rfl ?_
      obtain ⟨z17, e16, h⟩ := obind_elim h
      refine j_callV MX9_297 YX9_placeAt IX9_placeAt SX9_placeAt (by decide) rfl (by decide) (by omega) (Nat.le_of_ble_eq_true rfl) rfl (ctX9_placeAt (d := d - 1) hl (by omega) hx1 hx2 e16) dX9_place_29 (VK_c 9 349 rfl).1 (VK_c 9 349 rfl).lt (VK_c 9 349 rfl).ka rfl (fun z18 _ => ?_)
      cases h
      exact j_iret dX9_place_32 rfl rfl rfl z18
theorem ctX9_place {g : JG} {l : Launch} {d N : Nat} {A : AH} {out : Int × AH} {x1 : Int} {x2 : Int} (hl : l.stackTraces = false) (hd : 4 ≤ d) (hx1 : inR x1) (hx2 : inR x2) (h : fX9_place N A x1 x2 = some out) : CT g l yX9_place cX9_place 3 (some .int) d [.ref (gB g + 349), vI x1, vI x2] A ((0, some (vI out.1), out.2) : JO) (inR out.1) :=
  CT_of (by decide +kernel) hl (by first | exact Nat.le_of_ble_eq_true rfl | (unfold rv; split <;> exact Nat.le_of_ble_eq_true rfl)) (by first | rfl | (unfold rv; split <;> rfl)) (j_sub (lv := [(0, .ref (gB g + 349)), (1, vI x1), (2, vI x2)]) [0, 1, 2] rfl (tX9_place_0 hl hd hx1 hx2 h))
set_option maxRecDepth 100000 in
theorem tX9_placeAgain_119 {g : JG} {l : Launch} {d N n0 s0 : Nat} {out : Int × AH} {A : AH} {x1 : Int} {x2 : Int} {x5 : Int} {xs0 : Int} {k36 : AH → Int → Int → Option (Int × AH)} (hl : l.stackTraces = false) (hd : 4 ≤ d) (hx1 : inR x1) (hx2 : inR x2) (hx5 : inR x5) (hxs0 : inR xs0) (hk36 : ∀ (A : AH) (x3 : Int) (x4 : Int), inR x3 → inR x4 → k36 A x3 x4 = some out → J g l d RX9 "placeAgain" cX9_placeAgain 6 (some .int) n0 s0 ((0, some (vI out.1), out.2) : JO) (inR out.1) 36 [(0, .ref (gB g + 349)), (1, vI x1), (2, vI x2), (3, vI x3), (4, vI x4)] [] A) (h : fX9_placeAgain_119 N k36 A x1 x2 x5 xs0 = some out) : J g l d RX9 "placeAgain" cX9_placeAgain 6 (some .int) n0 s0 ((0, some (vI out.1), out.2) : JO) (inR out.1) 119 [(0, .ref (gB g + 349)), (1, vI x1), (2, vI x2), (5, vI x5)] [vI xs0] A := by
  unfold fX9_placeAgain_119 at h
  refine j_istore_n (lv' := [(3, vI xs0), (0, .ref (gB g + 349)), (1, vI x1), (2, vI x2), (5, vI x5)]) dX9_placeAgain_119 rfl (by decide) (by first | rfl | (simp only [List.all_cons, List.all_nil, rv_cat]; rfl)) rfl ?_
  refine j_aload_n (j := 1) dX9_placeAgain_120 rfl rfl ?_
  refine j_iload_n (j := 2) dX9_placeAgain_121 rfl rfl ?_
  refine j_iload (j := 4) dX9_placeAgain_122 rfl ?_
  obtain ⟨z2, e1, h⟩ := obind_elim h
  refine j_callV MX9_285 YX9_nextOf IX9_nextOf SX9_nextOf (by decide) rfl (by decide) (by omega) (Nat.le_of_ble_eq_true rfl) rfl (ctX9_nextOf (d := d - 1) hl (by omega) hx1 hx5 e1) dX9_placeAgain_124 (VK_c 9 349 rfl).1 (VK_c 9 349 rfl).lt (VK_c 9 349 rfl).ka rfl (fun z3 _ => ?_)
  refine j_istore (lv' := [(4, vI z2), (3, vI xs0), (0, .ref (gB g + 349)), (1, vI x1), (2, vI x2), (5, vI x5)]) dX9_placeAgain_127 (by decide) (by first | rfl | (simp only [List.all_cons, List.all_nil, rv_cat]; rfl)) rfl ?_
  refine j_goto (tgt := 36) dX9_placeAgain_129 (by decide) ?_
  exact j_sub [2, 3, 4, 1, 0] rfl (hk36 A xs0 z2 hxs0 z3 h)
set_option maxRecDepth 100000 in
theorem tX9_placeAgain_80 {g : JG} {l : Launch} {d N n0 s0 : Nat} {out : Int × AH} {A : AH} {x1 : Int} {x2 : Int} {x4 : Int} {xs0 : Int} {k36 : AH → Int → Int → Option (Int × AH)} (hl : l.stackTraces = false) (hd : 4 ≤ d) (hx1 : inR x1) (hx2 : inR x2) (hx4 : inR x4) (hxs0 : inR xs0) (hk36 : ∀ (A : AH) (x3 : Int) (x4 : Int), inR x3 → inR x4 → k36 A x3 x4 = some out → J g l d RX9 "placeAgain" cX9_placeAgain 6 (some .int) n0 s0 ((0, some (vI out.1), out.2) : JO) (inR out.1) 36 [(0, .ref (gB g + 349)), (1, vI x1), (2, vI x2), (3, vI x3), (4, vI x4)] [] A) (h : fX9_placeAgain_80 N k36 A x1 x2 x4 xs0 = some out) : J g l d RX9 "placeAgain" cX9_placeAgain 6 (some .int) n0 s0 ((0, some (vI out.1), out.2) : JO) (inR out.1) 80 [(0, .ref (gB g + 349)), (1, vI x1), (2, vI x2), (4, vI x4)] [vI xs0] A := by
  unfold fX9_placeAgain_80 at h
  refine j_istore (lv' := [(5, vI xs0), (0, .ref (gB g + 349)), (1, vI x1), (2, vI x2), (4, vI x4)]) dX9_placeAgain_80 (by decide) (by first | rfl | (simp only [List.all_cons, List.all_nil, rv_cat]; rfl)) rfl ?_
  refine j_iload (j := 0) dX9_placeAgain_82 rfl ?_
  refine j_iload_n (j := 3) dX9_placeAgain_84 rfl rfl ?_
  by_cases c1 : xs0 ≤ x2
  · rw [if_pos c1] at h
    refine j_icmp_le_t hxs0 hx2 dX9_placeAgain_85 (tgt := 90) (by decide) c1 ?_
    refine j_iload (j := 4) dX9_placeAgain_90 rfl ?_
    refine j_bipush dX9_placeAgain_92 rfl ?_
    by_cases c2 : 16 ≤ x4
    · rw [if_pos c2] at h
      refine j_icmp_ge_t hx4 (inR_lit _ rfl) dX9_placeAgain_94 (tgt := 106) (by decide) c2 ?_
      refine j_aload_n (j := 1) dX9_placeAgain_106 rfl rfl ?_
      refine j_getR (q := 367) FX9_61 rfl dX9_placeAgain_107 (by decide) (by decide) rfl rfl (by decide) ?_
      refine j_iload (j := 4) dX9_placeAgain_110 rfl ?_
      refine j_bipush dX9_placeAgain_112 rfl ?_
      refine j_isub dX9_placeAgain_114 ?_
      obtain ⟨c3, h⟩ := chk_elim h
      refine j_iald (wrap_inR _) (by decide) (by decide) rfl dX9_placeAgain_115 (VK_c 37 367 rfl).1 (VK_c 37 367 rfl).lt (VK_c 37 367 rfl).ka c3 (fun r4 => ?_)
      obtain ⟨z6, e5, h⟩ := obind_elim h
      refine j_callS MX9_146 YX9_toOf IX9_toOf (by decide) (by omega) (Nat.le_of_ble_eq_true rfl) rfl (ctX9_toOf (d := d - 1) hl (by omega) r4 e5) dX9_placeAgain_116 rfl (fun z7 _ => ?_)
      exact j_sub [1, 2, 3, 0] rfl (tX9_placeAgain_119 hl (by omega) hx1 hx2 hxs0 z7 hk36 h)
    · rw [if_neg c2] at h
      refine j_icmp_ge_f hx4 (inR_lit _ rfl) dX9_placeAgain_94 (tgt := 106) (by decide) c2 ?_
      refine j_aload_n (j := 1) dX9_placeAgain_97 rfl rfl ?_
      refine j_iload (j := 4) dX9_placeAgain_98 rfl ?_
      obtain ⟨z10, e9, h⟩ := obind_elim h
      refine j_callV MX9_130 YX9_goalOf IX9_goalOf SX9_goalOf (by decide) rfl (by decide) (by omega) (Nat.le_of_ble_eq_true rfl) rfl (ctX9_goalOf (d := d - 1) hl (by omega) hx4 e9) dX9_placeAgain_100 (VK_c 9 349 rfl).1 (VK_c 9 349 rfl).lt (VK_c 9 349 rfl).ka rfl (fun z11 _ => ?_)
      refine j_goto (tgt := 119) dX9_placeAgain_103 (by decide) ?_
      exact j_sub [1, 2, 3, 0] rfl (tX9_placeAgain_119 hl (by omega) hx1 hx2 hxs0 z11 hk36 h)
  · rw [if_neg c1] at h
    refine j_icmp_le_f hxs0 hx2 dX9_placeAgain_85 (tgt := 90) (by decide) c1 ?_
    refine j_iconst dX9_placeAgain_88 ?_
    cases h
    exact j_iret dX9_placeAgain_89 rfl rfl rfl (inR_lit _ rfl)
set_option maxRecDepth 100000 in
theorem tX9_placeAgain_36 {g : JG} {l : Launch} {d N n0 s0 : Nat} {out : Int × AH} {x1 : Int} {x2 : Int} (hl : l.stackTraces = false) (hd : 4 ≤ d) (hx1 : inR x1) (hx2 : inR x2) : ∀ (n : Nat) (A : AH) (x3 : Int) (x4 : Int), inR x3 → inR x4 → fX9_placeAgain_36 N x1 x2 n A x3 x4 = some out → J g l d RX9 "placeAgain" cX9_placeAgain 6 (some .int) n0 s0 ((0, some (vI out.1), out.2) : JO) (inR out.1) 36 [(0, .ref (gB g + 349)), (1, vI x1), (2, vI x2), (3, vI x3), (4, vI x4)] [] A := by
  intro n
  induction n with
  | zero =>
    intro A x3 x4 hx3 hx4 h
    rw [fX9_placeAgain_36] at h
    cases h
  | succ n ih =>
    intro A x3 x4 hx3 hx4 h
    rw [fX9_placeAgain_36] at h
    refine j_iload (j := 4) dX9_placeAgain_36 rfl ?_
    by_cases c1 : x4 < 0
    · rw [if_pos c1] at h
      refine j_if_lt_t hx4 dX9_placeAgain_38 (tgt := 132) (by decide) c1 ?_
      refine j_iload_n (j := 3) dX9_placeAgain_132 rfl rfl ?_
      cases h
      exact j_iret dX9_placeAgain_133 rfl rfl rfl hx3
    · rw [if_neg c1] at h
      refine j_if_lt_f hx4 dX9_placeAgain_38 (tgt := 132) (by decide) c1 ?_
      refine j_aload_n (j := 0) dX9_placeAgain_41 rfl rfl ?_
      refine j_iload (j := 4) dX9_placeAgain_42 rfl ?_
      obtain ⟨z3, e2, h⟩ := obind_elim h
      refine j_callV MX9_288 YX9_beginOf IX9_beginOf SX9_beginOf (by decide) rfl (by decide) (by omega) (Nat.le_of_ble_eq_true rfl) rfl (ctX9_beginOf (d := d - 1) hl (by omega) hx4 e2) dX9_placeAgain_44 (VK_c 9 349 rfl).1 (VK_c 9 349 rfl).lt (VK_c 9 349 rfl).ka rfl (fun z4 _ => ?_)
      refine j_iload_n (j := 2) dX9_placeAgain_47 rfl rfl ?_
      by_cases c6 : x2 < z3
      · rw [if_pos c6] at h
        refine j_icmp_gt_t z4 hx2 dX9_placeAgain_48 (tgt := 132) (by decide) c6 ?_
        refine j_iload_n (j := 3) dX9_placeAgain_132 rfl rfl ?_
        cases h
        exact j_iret dX9_placeAgain_133 rfl rfl rfl hx3
      · rw [if_neg c6] at h
        refine j_icmp_gt_f z4 hx2 dX9_placeAgain_48 (tgt := 132) (by decide) c6 ?_
        refine j_iload (j := 4) dX9_placeAgain_51 rfl ?_
        refine j_bipush dX9_placeAgain_53 rfl ?_
        by_cases c7 : 16 ≤ x4
        · rw [if_pos c7] at h
          refine j_icmp_ge_t hx4 (inR_lit _ rfl) dX9_placeAgain_55 (tgt := 67) (by decide) c7 ?_
          refine j_aload_n (j := 0) dX9_placeAgain_67 rfl rfl ?_
          refine j_getR (q := 367) FX9_61 rfl dX9_placeAgain_68 (by decide) (by decide) rfl rfl (by decide) ?_
          refine j_iload (j := 4) dX9_placeAgain_71 rfl ?_
          refine j_bipush dX9_placeAgain_73 rfl ?_
          refine j_isub dX9_placeAgain_75 ?_
          obtain ⟨c8, h⟩ := chk_elim h
          refine j_iald (wrap_inR _) (by decide) (by decide) rfl dX9_placeAgain_76 (VK_c 37 367 rfl).1 (VK_c 37 367 rfl).lt (VK_c 37 367 rfl).ka c8 (fun r9 => ?_)
          obtain ⟨z11, e10, h⟩ := obind_elim h
          refine j_callS MX9_143 YX9_endOf IX9_endOf (by decide) (by omega) (Nat.le_of_ble_eq_true rfl) rfl (ctX9_endOf (d := d - 1) hl (by omega) r9 e10) dX9_placeAgain_77 rfl (fun z12 _ => ?_)
          exact j_sub [0, 1, 2, 4] rfl (tX9_placeAgain_80 hl (by omega) hx1 hx2 hx4 z12 ih h)
        · rw [if_neg c7] at h
          refine j_icmp_ge_f hx4 (inR_lit _ rfl) dX9_placeAgain_55 (tgt := 67) (by decide) c7 ?_
          refine j_aload_n (j := 0) dX9_placeAgain_58 rfl rfl ?_
          refine j_iload (j := 4) dX9_placeAgain_59 rfl ?_
          obtain ⟨z15, e14, h⟩ := obind_elim h
          refine j_callV MX9_127 YX9_end IX9_end SX9_end (by decide) rfl (by decide) (by omega) (Nat.le_of_ble_eq_true rfl) rfl (ctX9_end (d := d - 1) hl (by omega) hx4 e14) dX9_placeAgain_61 (VK_c 9 349 rfl).1 (VK_c 9 349 rfl).lt (VK_c 9 349 rfl).ka rfl (fun z16 _ => ?_)
          refine j_goto (tgt := 80) dX9_placeAgain_64 (by decide) ?_
          exact j_sub [0, 1, 2, 4] rfl (tX9_placeAgain_80 hl (by omega) hx1 hx2 hx4 z16 ih h)
set_option maxRecDepth 100000 in
theorem tX9_placeAgain_0 {g : JG} {l : Launch} {d N n0 s0 : Nat} {out : Int × AH} {A : AH} {x1 : Int} {x2 : Int} (hl : l.stackTraces = false) (hd : 4 ≤ d) (hx1 : inR x1) (hx2 : inR x2) (h : fX9_placeAgain N A x1 x2 = some out) : J g l d RX9 "placeAgain" cX9_placeAgain 6 (some .int) n0 s0 ((0, some (vI out.1), out.2) : JO) (inR out.1) 0 [(0, .ref (gB g + 349)), (1, vI x1), (2, vI x2)] [] A := by
  unfold fX9_placeAgain at h
  refine j_aload_n (j := 0) dX9_placeAgain_0 rfl rfl ?_
  refine j_iload_n (j := 1) dX9_placeAgain_1 rfl rfl ?_
  obtain ⟨z2, e1, h⟩ := obind_elim h
  refine j_callV MX9_245 YX9_isPilot IX9_isPilot SX9_isPilot (by decide) rfl (by decide) (by omega) (Nat.le_of_ble_eq_true rfl) rfl (ctX9_isPilot (d := d - 1) hl (by omega) hx1 e1) dX9_placeAgain_2 (VK_c 9 349 rfl).1 (VK_c 9 349 rfl).lt (VK_c 9 349 rfl).ka rfl (fun z3 _ => ?_)
  by_cases c5 : z2 = 0
  · rw [if_pos c5] at h
    refine j_if_eq_t (bool_inR z3) dX9_placeAgain_5 (tgt := 15) (by decide) c5 ?_
    refine j_aload_n (j := 0) dX9_placeAgain_15 rfl rfl ?_
    refine j_iconst dX9_placeAgain_16 ?_
    obtain ⟨p7, e6, h⟩ := obind_elim h
    refine j_callV MX9_220 YX9_fails IX9_fails SX9_fails (by decide) rfl (by decide) (by omega) (Nat.le_of_ble_eq_true rfl) rfl (ctX9_fails (d := d - 1) hl (by omega) (inR_lit _ rfl) e6) dX9_placeAgain_17 (VK_c 9 349 rfl).1 (VK_c 9 349 rfl).lt (VK_c 9 349 rfl).ka rfl (fun z8 xt9 => ?_)
    cases h
    exact j_iret dX9_placeAgain_20 rfl rfl rfl z8
  · rw [if_neg c5] at h
    refine j_if_eq_f (bool_inR z3) dX9_placeAgain_5 (tgt := 15) (by decide) c5 ?_
    refine j_iload_n (j := 2) dX9_placeAgain_8 rfl rfl ?_
    obtain ⟨z11, e10, h⟩ := obind_elim h
    refine j_callS MX9_226 YX9_isHour IX9_isHour (by decide) (by omega) (Nat.le_of_ble_eq_true rfl) rfl (ctX9_isHour (d := d - 1) hl (by omega) hx2 e10) dX9_placeAgain_9 rfl (fun z12 _ => ?_)
    by_cases c14 : z11 = 0
    · rw [if_pos c14] at h
      refine j_if_ne_f (bool_inR z12) dX9_placeAgain_12 (tgt := 21) (by decide) (fun q => q c14) ?_
      refine j_aload_n (j := 0) dX9_placeAgain_15 rfl rfl ?_
      refine j_iconst dX9_placeAgain_16 ?_
      obtain ⟨p21, e20, h⟩ := obind_elim h
      refine j_callV MX9_220 YX9_fails IX9_fails SX9_fails (by decide) rfl (by decide) (by omega) (Nat.le_of_ble_eq_true rfl) rfl (ctX9_fails (d := d - 1) hl (by omega) (inR_lit _ rfl) e20) dX9_placeAgain_17 (VK_c 9 349 rfl).1 (VK_c 9 349 rfl).lt (VK_c 9 349 rfl).ka rfl (fun z22 xt23 => ?_)
      cases h
      exact j_iret dX9_placeAgain_20 rfl rfl rfl z22
    · rw [if_neg c14] at h
      refine j_if_ne_t (bool_inR z12) dX9_placeAgain_12 (tgt := 21) (by decide) c14 ?_
      refine j_aload_n (j := 0) dX9_placeAgain_21 rfl rfl ?_
      refine j_iconst dX9_placeAgain_22 ?_
      obtain ⟨A15, eA15, h⟩ := bnd_elim h
      have xA15 : XT A A15 := by rw [eA15]; exact XT_sI _ _ _ _
      refine j_putI FX9_87 rfl rfl rfl (inR_lit _ rfl) dX9_placeAgain_23 (VK_c 9 349 rfl).1 (VK_c 9 349 rfl).lt (VK_c 9 349 rfl).ka ?_
      refine j_hB eA15 ?_
      refine j_iconst dX9_placeAgain_26 ?_
      refine j_istore_n (lv' := [(3, vI 0), (0, .ref (gB g + 349)), (1, vI x1), (2, vI x2)]) dX9_placeAgain_27 rfl (by decide) (by first | rfl | (simp only [List.all_cons, List.all_nil, rv_cat]; rfl)) rfl ?_
      refine j_aload_n (j := 1) dX9_placeAgain_28 rfl rfl ?_
      refine j_iload_n (j := 2) dX9_placeAgain_29 rfl rfl ?_
      refine j_iconst dX9_placeAgain_30 ?_
      obtain ⟨z17, e16, h⟩ := obind_elim h
      refine j_callV MX9_285 YX9_nextOf IX9_nextOf SX9_nextOf (by decide) rfl (by decide) (by omega) (Nat.le_of_ble_eq_true rfl) rfl (ctX9_nextOf (d := d - 1) hl (by omega) hx1 (inR_lit _ rfl) e16) dX9_placeAgain_31 (VK_c 9 349 rfl).1 (VK_c 9 349 rfl).lt (VK_c 9 349 rfl).ka rfl (fun z18 _ => ?_)
      refine j_istore (lv' := [(4, vI z17), (3, vI 0), (0, .ref (gB g + 349)), (1, vI x1), (2, vI x2)]) dX9_placeAgain_34 (by decide) (by first | rfl | (simp only [List.all_cons, List.all_nil, rv_cat]; rfl)) rfl ?_
      exact j_sub [2, 3, 4, 1, 0] rfl (tX9_placeAgain_36 hl (by omega) hx1 hx2  N A15 0 z17 (inR_lit _ rfl) z18 h)
theorem ctX9_placeAgain {g : JG} {l : Launch} {d N : Nat} {A : AH} {out : Int × AH} {x1 : Int} {x2 : Int} (hl : l.stackTraces = false) (hd : 4 ≤ d) (hx1 : inR x1) (hx2 : inR x2) (h : fX9_placeAgain N A x1 x2 = some out) : CT g l yX9_placeAgain cX9_placeAgain 6 (some .int) d [.ref (gB g + 349), vI x1, vI x2] A ((0, some (vI out.1), out.2) : JO) (inR out.1) :=
  CT_of (by decide +kernel) hl (by first | exact Nat.le_of_ble_eq_true rfl | (unfold rv; split <;> exact Nat.le_of_ble_eq_true rfl)) (by first | rfl | (unfold rv; split <;> rfl)) (j_sub (lv := [(0, .ref (gB g + 349)), (1, vI x1), (2, vI x2)]) [0, 1, 2] rfl (tX9_placeAgain_0 hl hd hx1 hx2 h))
set_option maxRecDepth 100000 in
theorem tX9_ridesOn_4 {g : JG} {l : Launch} {d N n0 s0 : Nat} {out : Int} {A : AH} {x1 : Int} (hl : l.stackTraces = false) (hd : 2 ≤ d) (hx1 : inR x1) : ∀ (n : Nat) (x2 : Int) (x3 : Int), inR x2 → inR x3 → fX9_ridesOn_4 N A x1 n x2 x3 = some out → J g l d RX9 "ridesOn" cX9_ridesOn 4 (some .int) n0 s0 ((0, some (vI out), A) : JO) (inR out) 4 [(0, .ref (gB g + 349)), (1, vI x1), (2, vI x2), (3, vI x3)] [] A := by
  intro n
  induction n with
  | zero =>
    intro x2 x3 hx2 hx3 h
    rw [fX9_ridesOn_4] at h
    cases h
  | succ n ih =>
    intro x2 x3 hx2 hx3 h
    rw [fX9_ridesOn_4] at h
    refine j_iload_n (j := 3) dX9_ridesOn_4 rfl rfl ?_
    refine j_aload_n (j := 0) dX9_ridesOn_5 rfl rfl ?_
    refine j_getI FX9_137 rfl dX9_ridesOn_6 (VK_c 9 349 rfl).1 (VK_c 9 349 rfl).lt (VK_c 9 349 rfl).ka (fun r1 => ?_)
    by_cases c2 : (gI A 349 23) ≤ x3
    · rw [if_pos c2] at h
      refine j_icmp_ge_t hx3 r1 dX9_ridesOn_9 (tgt := 53) (by decide) c2 ?_
      refine j_iload_n (j := 2) dX9_ridesOn_53 rfl rfl ?_
      cases h
      exact j_iret dX9_ridesOn_54 rfl rfl rfl hx2
    · rw [if_neg c2] at h
      refine j_icmp_ge_f hx3 r1 dX9_ridesOn_9 (tgt := 53) (by decide) c2 ?_
      refine j_iload_n (j := 2) dX9_ridesOn_12 rfl rfl ?_
      refine j_aload_n (j := 0) dX9_ridesOn_13 rfl rfl ?_
      refine j_getR (q := 367) FX9_61 rfl dX9_ridesOn_14 (by decide) (by decide) rfl rfl (by decide) ?_
      refine j_iload_n (j := 3) dX9_ridesOn_17 rfl rfl ?_
      obtain ⟨c3, h⟩ := chk_elim h
      refine j_iald hx3 (by decide) (by decide) rfl dX9_ridesOn_18 (VK_c 37 367 rfl).1 (VK_c 37 367 rfl).lt (VK_c 37 367 rfl).ka c3 (fun r4 => ?_)
      obtain ⟨z6, e5, h⟩ := obind_elim h
      refine j_callS MX9_282 YX9_boatOf IX9_boatOf (by decide) (by omega) (Nat.le_of_ble_eq_true rfl) rfl (ctX9_boatOf (d := d - 1) hl (by omega) r4 e5) dX9_ridesOn_19 rfl (fun z7 _ => ?_)
      refine j_iload_n (j := 1) dX9_ridesOn_22 rfl rfl ?_
      by_cases c9 : z6 = x1
      · rw [if_pos c9] at h
        refine j_icmp_ne_f z7 hx1 dX9_ridesOn_23 (tgt := 44) (by decide) (fun q => q c9) ?_
        refine j_aload_n (j := 0) dX9_ridesOn_26 rfl rfl ?_
        refine j_getR (q := 367) FX9_61 rfl dX9_ridesOn_27 (by decide) (by decide) rfl rfl (by decide) ?_
        refine j_iload_n (j := 3) dX9_ridesOn_30 rfl rfl ?_
        obtain ⟨c12, h⟩ := chk_elim h
        refine j_iald hx3 (by decide) (by decide) rfl dX9_ridesOn_31 (VK_c 37 367 rfl).1 (VK_c 37 367 rfl).lt (VK_c 37 367 rfl).ka c12 (fun r13 => ?_)
        refine j_bipush dX9_ridesOn_32 rfl ?_
        refine j_ishr dX9_ridesOn_34 ?_
        refine j_bipush dX9_ridesOn_35 rfl ?_
        refine j_iand dX9_ridesOn_37 ?_
        obtain ⟨z15, e14, h⟩ := obind_elim h
        refine j_callS MX9_172 YX9_bits IX9_bits (by decide) (by omega) (Nat.le_of_ble_eq_true rfl) rfl (ctX9_bits (d := d - 1) hl (by omega) (iAnd_inR _ _) e14) dX9_ridesOn_38 rfl (fun z16 _ => ?_)
        refine j_goto (tgt := 45) dX9_ridesOn_41 (by decide) ?_
        refine j_iadd dX9_ridesOn_45 ?_
        obtain ⟨u18, eu18, h⟩ := bnd_elim h
        have hu18 : inR u18 := by rw [eu18]; exact (wrap_inR _)
        refine j_nm eu18 ?_
        refine j_istore_n (lv' := [(2, vI u18), (0, .ref (gB g + 349)), (1, vI x1), (3, vI x3)]) dX9_ridesOn_46 rfl (by decide) (by first | rfl | (simp only [List.all_cons, List.all_nil, rv_cat]; rfl)) rfl ?_
        obtain ⟨u19, eu19, h⟩ := bnd_elim h
        have hu19 : inR u19 := by rw [eu19]; exact wrap_inR _
        refine j_iincN (k := 3) (lv' := [(3, vI u19), (2, vI u18), (0, .ref (gB g + 349)), (1, vI x1)]) eu19 dX9_ridesOn_47 rfl (by decide) (by first | rfl | (simp only [List.all_cons, List.all_nil, rv_cat]; rfl)) rfl ?_
        refine j_goto (tgt := 4) dX9_ridesOn_50 (by decide) ?_
        exact j_sub [2, 3, 1, 0] rfl (ih u18 u19 hu18 hu19 h)
      · rw [if_neg c9] at h
        refine j_icmp_ne_t z7 hx1 dX9_ridesOn_23 (tgt := 44) (by decide) c9 ?_
        refine j_iconst dX9_ridesOn_44 ?_
        refine j_iadd dX9_ridesOn_45 ?_
        obtain ⟨u10, eu10, h⟩ := bnd_elim h
        have hu10 : inR u10 := by rw [eu10]; exact (wrap_inR _)
        refine j_nm eu10 ?_
        refine j_istore_n (lv' := [(2, vI u10), (0, .ref (gB g + 349)), (1, vI x1), (3, vI x3)]) dX9_ridesOn_46 rfl (by decide) (by first | rfl | (simp only [List.all_cons, List.all_nil, rv_cat]; rfl)) rfl ?_
        obtain ⟨u11, eu11, h⟩ := bnd_elim h
        have hu11 : inR u11 := by rw [eu11]; exact wrap_inR _
        refine j_iincN (k := 3) (lv' := [(3, vI u11), (2, vI u10), (0, .ref (gB g + 349)), (1, vI x1)]) eu11 dX9_ridesOn_47 rfl (by decide) (by first | rfl | (simp only [List.all_cons, List.all_nil, rv_cat]; rfl)) rfl ?_
        refine j_goto (tgt := 4) dX9_ridesOn_50 (by decide) ?_
        exact j_sub [2, 3, 1, 0] rfl (ih u10 u11 hu10 hu11 h)
set_option maxRecDepth 100000 in
theorem tX9_ridesOn_0 {g : JG} {l : Launch} {d N n0 s0 : Nat} {out : Int} {A : AH} {x1 : Int} (hl : l.stackTraces = false) (hd : 2 ≤ d) (hx1 : inR x1) (h : fX9_ridesOn N A x1 = some out) : J g l d RX9 "ridesOn" cX9_ridesOn 4 (some .int) n0 s0 ((0, some (vI out), A) : JO) (inR out) 0 [(0, .ref (gB g + 349)), (1, vI x1)] [] A := by
  unfold fX9_ridesOn at h
  refine j_iconst dX9_ridesOn_0 ?_
  refine j_istore_n (lv' := [(2, vI 0), (0, .ref (gB g + 349)), (1, vI x1)]) dX9_ridesOn_1 rfl (by decide) (by first | rfl | (simp only [List.all_cons, List.all_nil, rv_cat]; rfl)) rfl ?_
  refine j_iconst dX9_ridesOn_2 ?_
  refine j_istore_n (lv' := [(3, vI 0), (2, vI 0), (0, .ref (gB g + 349)), (1, vI x1)]) dX9_ridesOn_3 rfl (by decide) (by first | rfl | (simp only [List.all_cons, List.all_nil, rv_cat]; rfl)) rfl ?_
  exact j_sub [2, 3, 1, 0] rfl (tX9_ridesOn_4 hl (by omega) hx1  N 0 0 (inR_lit _ rfl) (inR_lit _ rfl) h)
theorem ctX9_ridesOn {g : JG} {l : Launch} {d N : Nat} {A : AH} {out : Int} {x1 : Int} (hl : l.stackTraces = false) (hd : 2 ≤ d) (hx1 : inR x1) (h : fX9_ridesOn N A x1 = some out) : CT g l yX9_ridesOn cX9_ridesOn 4 (some .int) d [.ref (gB g + 349), vI x1] A ((0, some (vI out), A) : JO) (inR out) :=
  CT_of (by decide +kernel) hl (by first | exact Nat.le_of_ble_eq_true rfl | (unfold rv; split <;> exact Nat.le_of_ble_eq_true rfl)) (by first | rfl | (unfold rv; split <;> rfl)) (j_sub (lv := [(0, .ref (gB g + 349)), (1, vI x1)]) [0, 1] rfl (tX9_ridesOn_0 hl hd hx1 h))
set_option maxRecDepth 100000 in
theorem tX9_boat_0 {g : JG} {l : Launch} {d N n0 s0 : Nat} {out : Int × AH} {A : AH} {x1 : Int} {x2 : Int} (hl : l.stackTraces = false) (hd : 3 ≤ d) (hx1 : inR x1) (hx2 : inR x2) (h : fX9_boat N A x1 x2 = some out) : J g l d RX9 "boat" cX9_boat 3 (some .int) n0 s0 ((0, some (vI out.1), out.2) : JO) (inR out.1) 0 [(0, .ref (gB g + 349)), (1, vI x1), (2, vI x2)] [] A := by
  unfold fX9_boat at h
  refine j_aload_n (j := 0) dX9_boat_0 rfl rfl ?_
  refine j_iload_n (j := 1) dX9_boat_1 rfl rfl ?_
  obtain ⟨z2, e1, h⟩ := obind_elim h
  refine j_callV MX9_252 YX9_isBoat IX9_isBoat SX9_isBoat (by decide) rfl (by decide) (by omega) (Nat.le_of_ble_eq_true rfl) rfl (ctX9_isBoat (d := d - 1) hl (by omega) hx1 e1) dX9_boat_2 (VK_c 9 349 rfl).1 (VK_c 9 349 rfl).lt (VK_c 9 349 rfl).ka rfl (fun z3 _ => ?_)
  by_cases c5 : z2 = 0
  · rw [if_pos c5] at h
    refine j_if_ne_f (bool_inR z3) dX9_boat_5 (tgt := 14) (by decide) (fun q => q c5) ?_
    refine j_aload_n (j := 0) dX9_boat_8 rfl rfl ?_
    refine j_iconst dX9_boat_9 ?_
    obtain ⟨p35, e34, h⟩ := obind_elim h
    refine j_callV MX9_220 YX9_fails IX9_fails SX9_fails (by decide) rfl (by decide) (by omega) (Nat.le_of_ble_eq_true rfl) rfl (ctX9_fails (d := d - 1) hl (by omega) (inR_lit _ rfl) e34) dX9_boat_10 (VK_c 9 349 rfl).1 (VK_c 9 349 rfl).lt (VK_c 9 349 rfl).ka rfl (fun z36 xt37 => ?_)
    cases h
    exact j_iret dX9_boat_13 rfl rfl rfl z36
  · rw [if_neg c5] at h
    refine j_if_ne_t (bool_inR z3) dX9_boat_5 (tgt := 14) (by decide) c5 ?_
    refine j_iload_n (j := 2) dX9_boat_14 rfl rfl ?_
    refine j_iconst dX9_boat_15 ?_
    refine j_iconst dX9_boat_16 ?_
    obtain ⟨z7, e6, h⟩ := obind_elim h
    refine j_callS MX9_90 YX9_isBetween IX9_isBetween (by decide) (by omega) (Nat.le_of_ble_eq_true rfl) rfl (ctX9_isBetween (d := d - 1) hl (by omega) hx2 (inR_lit _ rfl) (inR_lit _ rfl) e6) dX9_boat_17 rfl (fun z8 _ => ?_)
    by_cases c10 : z7 = 0
    · rw [if_pos c10] at h
      refine j_if_ne_f (bool_inR z8) dX9_boat_20 (tgt := 29) (by decide) (fun q => q c10) ?_
      refine j_aload_n (j := 0) dX9_boat_23 rfl rfl ?_
      refine j_iconst dX9_boat_24 ?_
      obtain ⟨p31, e30, h⟩ := obind_elim h
      refine j_callV MX9_220 YX9_fails IX9_fails SX9_fails (by decide) rfl (by decide) (by omega) (Nat.le_of_ble_eq_true rfl) rfl (ctX9_fails (d := d - 1) hl (by omega) (inR_lit _ rfl) e30) dX9_boat_25 (VK_c 9 349 rfl).1 (VK_c 9 349 rfl).lt (VK_c 9 349 rfl).ka rfl (fun z32 xt33 => ?_)
      cases h
      exact j_iret dX9_boat_28 rfl rfl rfl z32
    · rw [if_neg c10] at h
      refine j_if_ne_t (bool_inR z8) dX9_boat_20 (tgt := 29) (by decide) c10 ?_
      refine j_aload_n (j := 0) dX9_boat_29 rfl rfl ?_
      refine j_iconst dX9_boat_30 ?_
      obtain ⟨A11, eA11, h⟩ := bnd_elim h
      have xA11 : XT A A11 := by rw [eA11]; exact XT_sI _ _ _ _
      refine j_putI FX9_87 rfl rfl rfl (inR_lit _ rfl) dX9_boat_31 (VK_c 9 349 rfl).1 (VK_c 9 349 rfl).lt (VK_c 9 349 rfl).ka ?_
      refine j_hB eA11 ?_
      refine j_iload_n (j := 2) dX9_boat_34 rfl rfl ?_
      by_cases c12 : x2 = 0
      · rw [if_pos c12] at h
        refine j_if_ne_f hx2 dX9_boat_35 (tgt := 47) (by decide) (fun q => q c12) ?_
        refine j_aload_n (j := 0) dX9_boat_38 rfl rfl ?_
        refine j_getR (q := 364) FX9_52 rfl dX9_boat_39 (by decide) (by decide) rfl rfl (by decide) ?_
        refine j_iload_n (j := 1) dX9_boat_42 rfl rfl ?_
        obtain ⟨c28, h⟩ := chk_elim h
        refine j_iald hx1 (by decide) (by decide) rfl dX9_boat_43 (VK_c 34 364 rfl).1 (VK_c 34 364 rfl).lt (VK_c 34 364 rfl).ka c28 (fun r29 => ?_)
        refine j_goto (tgt := 93) dX9_boat_44 (by decide) ?_
        cases h
        exact j_iret dX9_boat_93 rfl rfl rfl r29
      · rw [if_neg c12] at h
        refine j_if_ne_t hx2 dX9_boat_35 (tgt := 47) (by decide) c12 ?_
        refine j_iload_n (j := 2) dX9_boat_47 rfl rfl ?_
        refine j_iconst dX9_boat_48 ?_
        by_cases c13 : x2 = 1
        · rw [if_pos c13] at h
          refine j_icmp_ne_f hx2 (inR_lit _ rfl) dX9_boat_49 (tgt := 61) (by decide) (fun q => q c13) ?_
          refine j_aload_n (j := 0) dX9_boat_52 rfl rfl ?_
          refine j_getR (q := 365) FX9_55 rfl dX9_boat_53 (by decide) (by decide) rfl rfl (by decide) ?_
          refine j_iload_n (j := 1) dX9_boat_56 rfl rfl ?_
          obtain ⟨c26, h⟩ := chk_elim h
          refine j_iald hx1 (by decide) (by decide) rfl dX9_boat_57 (VK_c 35 365 rfl).1 (VK_c 35 365 rfl).lt (VK_c 35 365 rfl).ka c26 (fun r27 => ?_)
          refine j_goto (tgt := 93) dX9_boat_58 (by decide) ?_
          cases h
          exact j_iret dX9_boat_93 rfl rfl rfl r27
        · rw [if_neg c13] at h
          refine j_icmp_ne_t hx2 (inR_lit _ rfl) dX9_boat_49 (tgt := 61) (by decide) c13 ?_
          refine j_iload_n (j := 2) dX9_boat_61 rfl rfl ?_
          refine j_iconst dX9_boat_62 ?_
          by_cases c14 : x2 = 2
          · rw [if_pos c14] at h
            refine j_icmp_ne_f hx2 (inR_lit _ rfl) dX9_boat_63 (tgt := 74) (by decide) (fun q => q c14) ?_
            refine j_aload_n (j := 0) dX9_boat_66 rfl rfl ?_
            refine j_iload_n (j := 1) dX9_boat_67 rfl rfl ?_
            obtain ⟨z23, e22, h⟩ := obind_elim h
            refine j_callV MX9_175 YX9_placeOfBoat IX9_placeOfBoat SX9_placeOfBoat (by decide) rfl (by decide) (by omega) (Nat.le_of_ble_eq_true rfl) rfl (ctX9_placeOfBoat (d := d - 1) hl (by omega) hx1 e22) dX9_boat_68 (VK_c 9 349 rfl).1 (VK_c 9 349 rfl).lt (VK_c 9 349 rfl).ka rfl (fun z24 _ => ?_)
            refine j_goto (tgt := 93) dX9_boat_71 (by decide) ?_
            cases h
            exact j_iret dX9_boat_93 rfl rfl rfl z24
          · rw [if_neg c14] at h
            refine j_icmp_ne_t hx2 (inR_lit _ rfl) dX9_boat_63 (tgt := 74) (by decide) c14 ?_
            refine j_iload_n (j := 2) dX9_boat_74 rfl rfl ?_
            refine j_iconst dX9_boat_75 ?_
            by_cases c15 : x2 = 3
            · rw [if_pos c15] at h
              refine j_icmp_ne_f hx2 (inR_lit _ rfl) dX9_boat_76 (tgt := 88) (by decide) (fun q => q c15) ?_
              refine j_aload_n (j := 0) dX9_boat_79 rfl rfl ?_
              refine j_getR (q := 366) FX9_58 rfl dX9_boat_80 (by decide) (by decide) rfl rfl (by decide) ?_
              refine j_iload_n (j := 1) dX9_boat_83 rfl rfl ?_
              obtain ⟨c20, h⟩ := chk_elim h
              refine j_iald hx1 (by decide) (by decide) rfl dX9_boat_84 (VK_c 36 366 rfl).1 (VK_c 36 366 rfl).lt (VK_c 36 366 rfl).ka c20 (fun r21 => ?_)
              refine j_goto (tgt := 93) dX9_boat_85 (by decide) ?_
              cases h
              exact j_iret dX9_boat_93 rfl rfl rfl r21
            · rw [if_neg c15] at h
              refine j_icmp_ne_t hx2 (inR_lit _ rfl) dX9_boat_76 (tgt := 88) (by decide) c15 ?_
              refine j_aload_n (j := 0) dX9_boat_88 rfl rfl ?_
              refine j_iload_n (j := 1) dX9_boat_89 rfl rfl ?_
              obtain ⟨z17, e16, h⟩ := obind_elim h
              refine j_callV MX9_300 YX9_ridesOn IX9_ridesOn SX9_ridesOn (by decide) rfl (by decide) (by omega) (Nat.le_of_ble_eq_true rfl) rfl (ctX9_ridesOn (d := d - 1) hl (by omega) hx1 e16) dX9_boat_90 (VK_c 9 349 rfl).1 (VK_c 9 349 rfl).lt (VK_c 9 349 rfl).ka rfl (fun z18 _ => ?_)
              cases h
              exact j_iret dX9_boat_93 rfl rfl rfl z18
theorem ctX9_boat {g : JG} {l : Launch} {d N : Nat} {A : AH} {out : Int × AH} {x1 : Int} {x2 : Int} (hl : l.stackTraces = false) (hd : 3 ≤ d) (hx1 : inR x1) (hx2 : inR x2) (h : fX9_boat N A x1 x2 = some out) : CT g l yX9_boat cX9_boat 3 (some .int) d [.ref (gB g + 349), vI x1, vI x2] A ((0, some (vI out.1), out.2) : JO) (inR out.1) :=
  CT_of (by decide +kernel) hl (by first | exact Nat.le_of_ble_eq_true rfl | (unfold rv; split <;> exact Nat.le_of_ble_eq_true rfl)) (by first | rfl | (unfold rv; split <;> rfl)) (j_sub (lv := [(0, .ref (gB g + 349)), (1, vI x1), (2, vI x2)]) [0, 1, 2] rfl (tX9_boat_0 hl hd hx1 hx2 h))
set_option maxRecDepth 100000 in
theorem tX9_isOver_0 {g : JG} {l : Launch} {d N n0 s0 : Nat} {out : AH} {A : AH} {x1 : Int} (hl : l.stackTraces = false) (hd : 1 ≤ d) (hx1 : inR x1) (h : fX9_isOver N A x1 = some out) : J g l d RX9 "isOver" cX9_isOver 3 none n0 s0 ((0, none, out) : JO) (True) 0 [(0, .ref (gB g + 349)), (1, vI x1)] [] A := by
  unfold fX9_isOver at h
  refine j_aload_n (j := 0) dX9_isOver_0 rfl rfl ?_
  refine j_getR (q := 358) FX9_34 rfl dX9_isOver_1 (by decide) (by decide) rfl rfl (by decide) ?_
  refine j_iload_n (j := 1) dX9_isOver_4 rfl rfl ?_
  obtain ⟨c1, h⟩ := chk_elim h
  refine j_iald hx1 (by decide) (by decide) rfl dX9_isOver_5 (VK_c 28 358 rfl).1 (VK_c 28 358 rfl).lt (VK_c 28 358 rfl).ka c1 (fun r2 => ?_)
  obtain ⟨u3, eu3, h⟩ := bnd_elim h
  have hu3 : inR u3 := by rw [eu3]; exact r2
  refine j_nm eu3 ?_
  refine j_istore_n (lv' := [(2, vI u3), (0, .ref (gB g + 349)), (1, vI x1)]) dX9_isOver_6 rfl (by decide) (by first | rfl | (simp only [List.all_cons, List.all_nil, rv_cat]; rfl)) rfl ?_
  refine j_aload_n (j := 1) dX9_isOver_7 rfl rfl ?_
  refine j_getR (q := 357) FX9_31 rfl dX9_isOver_8 (by decide) (by decide) rfl rfl (by decide) ?_
  refine j_iload_n (j := 2) dX9_isOver_11 rfl rfl ?_
  refine j_iconst dX9_isOver_12 ?_
  obtain ⟨c4, h⟩ := chk_elim h
  obtain ⟨A5, eA5, h⟩ := bnd_elim h
  have xA5 : XT A A5 := by rw [eA5]; exact XT_sI _ _ _ _
  refine j_iast hx1 (inR_lit _ rfl) (by decide) (by decide) rfl dX9_isOver_13 (VK_c 27 357 rfl).1 (VK_c 27 357 rfl).lt (VK_c 27 357 rfl).ka c4 ?_
  refine j_hB eA5 ?_
  refine j_aload_n (j := 1) dX9_isOver_14 rfl rfl ?_
  refine j_getR (q := 363) FX9_49 rfl dX9_isOver_15 (by decide) (by decide) rfl rfl (by decide) ?_
  refine j_iload_n (j := 0) dX9_isOver_18 rfl rfl ?_
  refine j_dup2 dX9_isOver_19 rfl rfl ?_
  obtain ⟨c6, h⟩ := chk_elim h
  refine j_iald hu3 (by decide) (by decide) rfl dX9_isOver_20 (VK_c 33 363 rfl).1 (VK_c 33 363 rfl).lt (VK_c 33 363 rfl).ka c6 (fun r7 => ?_)
  refine j_iconst dX9_isOver_21 ?_
  refine j_iadd dX9_isOver_22 ?_
  obtain ⟨c8, h⟩ := chk_elim h
  obtain ⟨A9, eA9, h⟩ := bnd_elim h
  have xA9 : XT A5 A9 := by rw [eA9]; exact XT_sI _ _ _ _
  refine j_iast hu3 (wrap_inR _) (by decide) (by decide) rfl dX9_isOver_23 (VK_c 33 363 rfl).1 (VK_c 33 363 rfl).lt (VK_c 33 363 rfl).ka c8 ?_
  refine j_hB eA9 ?_
  refine j_aload_n (j := 1) dX9_isOver_24 rfl rfl ?_
  refine j_getR (q := 352) FX9_16 rfl dX9_isOver_25 (by decide) (by decide) rfl rfl (by decide) ?_
  refine j_iload_n (j := 2) dX9_isOver_28 rfl rfl ?_
  obtain ⟨c10, h⟩ := chk_elim h
  refine j_iald hx1 (by decide) (by decide) rfl dX9_isOver_29 (VK_c 22 352 rfl).1 (VK_c 22 352 rfl).lt (VK_c 22 352 rfl).ka c10 (fun r11 => ?_)
  refine j_aload_n (j := 1) dX9_isOver_30 rfl rfl ?_
  refine j_getR (q := 361) FX9_43 rfl dX9_isOver_31 (by decide) (by decide) rfl rfl (by decide) ?_
  refine j_iload_n (j := 0) dX9_isOver_34 rfl rfl ?_
  obtain ⟨c12, h⟩ := chk_elim h
  refine j_iald hu3 (by decide) (by decide) rfl dX9_isOver_35 (VK_c 31 361 rfl).1 (VK_c 31 361 rfl).lt (VK_c 31 361 rfl).ka c12 (fun r13 => ?_)
  by_cases c14 : (gI A9 352 x1.toNat) = (gI A9 361 u3.toNat)
  · rw [if_pos c14] at h
    refine j_icmp_eq_t r11 r13 dX9_isOver_36 (tgt := 40) (by decide) c14 ?_
    refine j_aload_n (j := 1) dX9_isOver_40 rfl rfl ?_
    refine j_getR (q := 362) FX9_46 rfl dX9_isOver_41 (by decide) (by decide) rfl rfl (by decide) ?_
    refine j_iload_n (j := 0) dX9_isOver_44 rfl rfl ?_
    refine j_dup2 dX9_isOver_45 rfl rfl ?_
    obtain ⟨c15, h⟩ := chk_elim h
    refine j_iald hu3 (by decide) (by decide) rfl dX9_isOver_46 (VK_c 32 362 rfl).1 (VK_c 32 362 rfl).lt (VK_c 32 362 rfl).ka c15 (fun r16 => ?_)
    refine j_iconst dX9_isOver_47 ?_
    refine j_iadd dX9_isOver_48 ?_
    obtain ⟨c17, h⟩ := chk_elim h
    obtain ⟨A18, eA18, h⟩ := bnd_elim h
    have xA18 : XT A9 A18 := by rw [eA18]; exact XT_sI _ _ _ _
    refine j_iast hu3 (wrap_inR _) (by decide) (by decide) rfl dX9_isOver_49 (VK_c 32 362 rfl).1 (VK_c 32 362 rfl).lt (VK_c 32 362 rfl).ka c17 ?_
    refine j_hB eA18 ?_
    refine j_aload_n (j := 1) dX9_isOver_50 rfl rfl ?_
    refine j_getR (q := 361) FX9_43 rfl dX9_isOver_51 (by decide) (by decide) rfl rfl (by decide) ?_
    refine j_iload_n (j := 0) dX9_isOver_54 rfl rfl ?_
    obtain ⟨c19, h⟩ := chk_elim h
    refine j_iald hu3 (by decide) (by decide) rfl dX9_isOver_55 (VK_c 31 361 rfl).1 (VK_c 31 361 rfl).lt (VK_c 31 361 rfl).ka c19 (fun r20 => ?_)
    refine j_iconst dX9_isOver_56 ?_
    by_cases c21 : (gI A18 361 u3.toNat) = 4
    · rw [if_pos c21] at h
      refine j_icmp_eq_t r20 (inR_lit _ rfl) dX9_isOver_57 (tgt := 75) (by decide) c21 ?_
      cases h
      exact j_vret dX9_isOver_75 rfl rfl trivial
    · rw [if_neg c21] at h
      refine j_icmp_eq_f r20 (inR_lit _ rfl) dX9_isOver_57 (tgt := 75) (by decide) c21 ?_
      refine j_aload_n (j := 1) dX9_isOver_60 rfl rfl ?_
      refine j_getR (q := 362) FX9_46 rfl dX9_isOver_61 (by decide) (by decide) rfl rfl (by decide) ?_
      refine j_iload_n (j := 0) dX9_isOver_64 rfl rfl ?_
      obtain ⟨c22, h⟩ := chk_elim h
      refine j_iald hu3 (by decide) (by decide) rfl dX9_isOver_65 (VK_c 32 362 rfl).1 (VK_c 32 362 rfl).lt (VK_c 32 362 rfl).ka c22 (fun r23 => ?_)
      refine j_aload_n (j := 1) dX9_isOver_66 rfl rfl ?_
      refine j_getR (q := 350) FX9_7 rfl dX9_isOver_67 (by decide) (by decide) rfl rfl (by decide) ?_
      refine j_iconst dX9_isOver_70 ?_
      refine j_iald (inR_lit _ rfl) (by decide) (by decide) rfl dX9_isOver_71 (VK_c 20 350 rfl).1 (VK_c 20 350 rfl).lt (VK_c 20 350 rfl).ka (by decide) (fun r24 => ?_)
      by_cases c25 : (gI A18 350 2) ≤ (gI A18 362 u3.toNat)
      · rw [if_pos c25] at h
        refine j_icmp_ge_t r23 r24 dX9_isOver_72 (tgt := 76) (by decide) c25 ?_
        refine j_aload_n (j := 1) dX9_isOver_76 rfl rfl ?_
        refine j_getR (q := 361) FX9_43 rfl dX9_isOver_77 (by decide) (by decide) rfl rfl (by decide) ?_
        refine j_iload_n (j := 0) dX9_isOver_80 rfl rfl ?_
        refine j_dup2 dX9_isOver_81 rfl rfl ?_
        obtain ⟨c26, h⟩ := chk_elim h
        refine j_iald hu3 (by decide) (by decide) rfl dX9_isOver_82 (VK_c 31 361 rfl).1 (VK_c 31 361 rfl).lt (VK_c 31 361 rfl).ka c26 (fun r27 => ?_)
        refine j_iconst dX9_isOver_83 ?_
        refine j_iadd dX9_isOver_84 ?_
        obtain ⟨c28, h⟩ := chk_elim h
        obtain ⟨A29, eA29, h⟩ := bnd_elim h
        have xA29 : XT A18 A29 := by rw [eA29]; exact XT_sI _ _ _ _
        refine j_iast hu3 (wrap_inR _) (by decide) (by decide) rfl dX9_isOver_85 (VK_c 31 361 rfl).1 (VK_c 31 361 rfl).lt (VK_c 31 361 rfl).ka c28 ?_
        refine j_hB eA29 ?_
        refine j_aload_n (j := 1) dX9_isOver_86 rfl rfl ?_
        refine j_getR (q := 362) FX9_46 rfl dX9_isOver_87 (by decide) (by decide) rfl rfl (by decide) ?_
        refine j_iload_n (j := 0) dX9_isOver_90 rfl rfl ?_
        refine j_iconst dX9_isOver_91 ?_
        obtain ⟨c30, h⟩ := chk_elim h
        obtain ⟨A31, eA31, h⟩ := bnd_elim h
        have xA31 : XT A29 A31 := by rw [eA31]; exact XT_sI _ _ _ _
        refine j_iast hu3 (inR_lit _ rfl) (by decide) (by decide) rfl dX9_isOver_92 (VK_c 32 362 rfl).1 (VK_c 32 362 rfl).lt (VK_c 32 362 rfl).ka c30 ?_
        refine j_hB eA31 ?_
        cases h
        exact j_vret dX9_isOver_93 rfl rfl trivial
      · rw [if_neg c25] at h
        refine j_icmp_ge_f r23 r24 dX9_isOver_72 (tgt := 76) (by decide) c25 ?_
        cases h
        exact j_vret dX9_isOver_75 rfl rfl trivial
  · rw [if_neg c14] at h
    refine j_icmp_eq_f r11 r13 dX9_isOver_36 (tgt := 40) (by decide) c14 ?_
    cases h
    exact j_vret dX9_isOver_39 rfl rfl trivial
theorem ctX9_isOver {g : JG} {l : Launch} {d N : Nat} {A : AH} {out : AH} {x1 : Int} (hl : l.stackTraces = false) (hd : 1 ≤ d) (hx1 : inR x1) (h : fX9_isOver N A x1 = some out) : CT g l yX9_isOver cX9_isOver 3 none d [.ref (gB g + 349), vI x1] A ((0, none, out) : JO) (True) :=
  CT_of (by decide +kernel) hl (by first | exact Nat.le_of_ble_eq_true rfl | (unfold rv; split <;> exact Nat.le_of_ble_eq_true rfl)) (by first | rfl | (unfold rv; split <;> rfl)) (j_sub (lv := [(0, .ref (gB g + 349)), (1, vI x1)]) [0, 1] rfl (tX9_isOver_0 hl hd hx1 h))
set_option maxRecDepth 100000 in
theorem tX9_nextOver_4 {g : JG} {l : Launch} {d N n0 s0 : Nat} {out : Int} {A : AH} (hl : l.stackTraces = false) (hd : 3 ≤ d) : ∀ (n : Nat) (x1 : Int) (x2 : Int), inR x1 → inR x2 → fX9_nextOver_4 N A n x1 x2 = some out → J g l d RX9 "nextOver" cX9_nextOver 3 (some .int) n0 s0 ((0, some (vI out), A) : JO) (inR out) 4 [(0, .ref (gB g + 349)), (1, vI x1), (2, vI x2)] [] A := by
  intro n
  induction n with
  | zero =>
    intro x1 x2 hx1 hx2 h
    rw [fX9_nextOver_4] at h
    cases h
  | succ n ih =>
    intro x1 x2 hx1 hx2 h
    rw [fX9_nextOver_4] at h
    refine j_iload_n (j := 2) dX9_nextOver_4 rfl rfl ?_
    refine j_aload_n (j := 0) dX9_nextOver_5 rfl rfl ?_
    refine j_getI FX9_100 rfl dX9_nextOver_6 (VK_c 9 349 rfl).1 (VK_c 9 349 rfl).lt (VK_c 9 349 rfl).ka (fun r1 => ?_)
    by_cases c2 : (gI A 349 22) ≤ x2
    · rw [if_pos c2] at h
      refine j_icmp_ge_t hx2 r1 dX9_nextOver_9 (tgt := 59) (by decide) c2 ?_
      refine j_iload_n (j := 1) dX9_nextOver_59 rfl rfl ?_
      cases h
      exact j_iret dX9_nextOver_60 rfl rfl rfl hx1
    · rw [if_neg c2] at h
      refine j_icmp_ge_f hx2 r1 dX9_nextOver_9 (tgt := 59) (by decide) c2 ?_
      refine j_aload_n (j := 0) dX9_nextOver_12 rfl rfl ?_
      refine j_getR (q := 357) FX9_31 rfl dX9_nextOver_13 (by decide) (by decide) rfl rfl (by decide) ?_
      refine j_iload_n (j := 2) dX9_nextOver_16 rfl rfl ?_
      obtain ⟨c3, h⟩ := chk_elim h
      refine j_iald hx2 (by decide) (by decide) rfl dX9_nextOver_17 (VK_c 27 357 rfl).1 (VK_c 27 357 rfl).lt (VK_c 27 357 rfl).ka c3 (fun r4 => ?_)
      refine j_iconst dX9_nextOver_18 ?_
      by_cases c5 : (gI A 357 x2.toNat) = 1
      · rw [if_pos c5] at h
        refine j_icmp_ne_f r4 (inR_lit _ rfl) dX9_nextOver_19 (tgt := 53) (by decide) (fun q => q c5) ?_
        refine j_aload_n (j := 0) dX9_nextOver_22 rfl rfl ?_
        refine j_iload_n (j := 2) dX9_nextOver_23 rfl rfl ?_
        obtain ⟨z8, e7, h⟩ := obind_elim h
        refine j_callV MX9_127 YX9_end IX9_end SX9_end (by decide) rfl (by decide) (by omega) (Nat.le_of_ble_eq_true rfl) rfl (ctX9_end (d := d - 1) hl (by omega) hx2 e7) dX9_nextOver_24 (VK_c 9 349 rfl).1 (VK_c 9 349 rfl).lt (VK_c 9 349 rfl).ka rfl (fun z9 _ => ?_)
        refine j_aload_n (j := 0) dX9_nextOver_27 rfl rfl ?_
        refine j_getI FX9_155 rfl dX9_nextOver_28 (VK_c 9 349 rfl).1 (VK_c 9 349 rfl).lt (VK_c 9 349 rfl).ka (fun r11 => ?_)
        by_cases c12 : (gI A 349 19) < z8
        · rw [if_pos c12] at h
          refine j_icmp_gt_t z9 r11 dX9_nextOver_31 (tgt := 53) (by decide) c12 ?_
          obtain ⟨u13, eu13, h⟩ := bnd_elim h
          have hu13 : inR u13 := by rw [eu13]; exact wrap_inR _
          refine j_iincN (k := 2) (lv' := [(2, vI u13), (0, .ref (gB g + 349)), (1, vI x1)]) eu13 dX9_nextOver_53 rfl (by decide) (by first | rfl | (simp only [List.all_cons, List.all_nil, rv_cat]; rfl)) rfl ?_
          refine j_goto (tgt := 4) dX9_nextOver_56 (by decide) ?_
          exact j_sub [1, 2, 0] rfl (ih x1 u13 hx1 hu13 h)
        · rw [if_neg c12] at h
          refine j_icmp_gt_f z9 r11 dX9_nextOver_31 (tgt := 53) (by decide) c12 ?_
          refine j_iload_n (j := 1) dX9_nextOver_34 rfl rfl ?_
          by_cases c14 : x1 < 0
          · rw [if_pos c14] at h
            refine j_if_lt_t hx1 dX9_nextOver_35 (tgt := 51) (by decide) c14 ?_
            refine j_iload_n (j := 2) dX9_nextOver_51 rfl rfl ?_
            refine j_istore_n (lv' := [(1, vI x2), (0, .ref (gB g + 349)), (2, vI x2)]) dX9_nextOver_52 rfl (by decide) (by first | rfl | (simp only [List.all_cons, List.all_nil, rv_cat]; rfl)) rfl ?_
            obtain ⟨u15, eu15, h⟩ := bnd_elim h
            have hu15 : inR u15 := by rw [eu15]; exact wrap_inR _
            refine j_iincN (k := 2) (lv' := [(2, vI u15), (1, vI x2), (0, .ref (gB g + 349))]) eu15 dX9_nextOver_53 rfl (by decide) (by first | rfl | (simp only [List.all_cons, List.all_nil, rv_cat]; rfl)) rfl ?_
            refine j_goto (tgt := 4) dX9_nextOver_56 (by decide) ?_
            exact j_sub [2, 1, 0] rfl (ih x2 u15 hx2 hu15 h)
          · rw [if_neg c14] at h
            refine j_if_lt_f hx1 dX9_nextOver_35 (tgt := 51) (by decide) c14 ?_
            refine j_aload_n (j := 0) dX9_nextOver_38 rfl rfl ?_
            refine j_iload_n (j := 2) dX9_nextOver_39 rfl rfl ?_
            obtain ⟨z17, e16, h⟩ := obind_elim h
            refine j_callV MX9_127 YX9_end IX9_end SX9_end (by decide) rfl (by decide) (by omega) (Nat.le_of_ble_eq_true rfl) rfl (ctX9_end (d := d - 1) hl (by omega) hx2 e16) dX9_nextOver_40 (VK_c 9 349 rfl).1 (VK_c 9 349 rfl).lt (VK_c 9 349 rfl).ka rfl (fun z18 _ => ?_)
            refine j_aload_n (j := 0) dX9_nextOver_43 rfl rfl ?_
            refine j_iload_n (j := 1) dX9_nextOver_44 rfl rfl ?_
            obtain ⟨z21, e20, h⟩ := obind_elim h
            refine j_callV MX9_127 YX9_end IX9_end SX9_end (by decide) rfl (by decide) (by omega) (Nat.le_of_ble_eq_true rfl) rfl (ctX9_end (d := d - 1) hl (by omega) hx1 e20) dX9_nextOver_45 (VK_c 9 349 rfl).1 (VK_c 9 349 rfl).lt (VK_c 9 349 rfl).ka rfl (fun z22 _ => ?_)
            by_cases c24 : z21 ≤ z17
            · rw [if_pos c24] at h
              refine j_icmp_ge_t z18 z22 dX9_nextOver_48 (tgt := 53) (by decide) c24 ?_
              obtain ⟨u25, eu25, h⟩ := bnd_elim h
              have hu25 : inR u25 := by rw [eu25]; exact wrap_inR _
              refine j_iincN (k := 2) (lv' := [(2, vI u25), (0, .ref (gB g + 349)), (1, vI x1)]) eu25 dX9_nextOver_53 rfl (by decide) (by first | rfl | (simp only [List.all_cons, List.all_nil, rv_cat]; rfl)) rfl ?_
              refine j_goto (tgt := 4) dX9_nextOver_56 (by decide) ?_
              exact j_sub [1, 2, 0] rfl (ih x1 u25 hx1 hu25 h)
            · rw [if_neg c24] at h
              refine j_icmp_ge_f z18 z22 dX9_nextOver_48 (tgt := 53) (by decide) c24 ?_
              refine j_iload_n (j := 2) dX9_nextOver_51 rfl rfl ?_
              refine j_istore_n (lv' := [(1, vI x2), (0, .ref (gB g + 349)), (2, vI x2)]) dX9_nextOver_52 rfl (by decide) (by first | rfl | (simp only [List.all_cons, List.all_nil, rv_cat]; rfl)) rfl ?_
              obtain ⟨u26, eu26, h⟩ := bnd_elim h
              have hu26 : inR u26 := by rw [eu26]; exact wrap_inR _
              refine j_iincN (k := 2) (lv' := [(2, vI u26), (1, vI x2), (0, .ref (gB g + 349))]) eu26 dX9_nextOver_53 rfl (by decide) (by first | rfl | (simp only [List.all_cons, List.all_nil, rv_cat]; rfl)) rfl ?_
              refine j_goto (tgt := 4) dX9_nextOver_56 (by decide) ?_
              exact j_sub [2, 1, 0] rfl (ih x2 u26 hx2 hu26 h)
      · rw [if_neg c5] at h
        refine j_icmp_ne_t r4 (inR_lit _ rfl) dX9_nextOver_19 (tgt := 53) (by decide) c5 ?_
        obtain ⟨u6, eu6, h⟩ := bnd_elim h
        have hu6 : inR u6 := by rw [eu6]; exact wrap_inR _
        refine j_iincN (k := 2) (lv' := [(2, vI u6), (0, .ref (gB g + 349)), (1, vI x1)]) eu6 dX9_nextOver_53 rfl (by decide) (by first | rfl | (simp only [List.all_cons, List.all_nil, rv_cat]; rfl)) rfl ?_
        refine j_goto (tgt := 4) dX9_nextOver_56 (by decide) ?_
        exact j_sub [1, 2, 0] rfl (ih x1 u6 hx1 hu6 h)
set_option maxRecDepth 100000 in
theorem tX9_nextOver_0 {g : JG} {l : Launch} {d N n0 s0 : Nat} {out : Int} {A : AH} (hl : l.stackTraces = false) (hd : 3 ≤ d) (h : fX9_nextOver N A  = some out) : J g l d RX9 "nextOver" cX9_nextOver 3 (some .int) n0 s0 ((0, some (vI out), A) : JO) (inR out) 0 [(0, .ref (gB g + 349))] [] A := by
  unfold fX9_nextOver at h
  refine j_iconst dX9_nextOver_0 ?_
  refine j_istore_n (lv' := [(1, vI (-1)), (0, .ref (gB g + 349))]) dX9_nextOver_1 rfl (by decide) (by first | rfl | (simp only [List.all_cons, List.all_nil, rv_cat]; rfl)) rfl ?_
  refine j_iconst dX9_nextOver_2 ?_
  refine j_istore_n (lv' := [(2, vI 0), (1, vI (-1)), (0, .ref (gB g + 349))]) dX9_nextOver_3 rfl (by decide) (by first | rfl | (simp only [List.all_cons, List.all_nil, rv_cat]; rfl)) rfl ?_
  exact j_sub [2, 1, 0] rfl (tX9_nextOver_4 hl (by omega)   N (-1) 0 (inR_lit _ rfl) (inR_lit _ rfl) h)
theorem ctX9_nextOver {g : JG} {l : Launch} {d N : Nat} {A : AH} {out : Int} (hl : l.stackTraces = false) (hd : 3 ≤ d) (h : fX9_nextOver N A  = some out) : CT g l yX9_nextOver cX9_nextOver 3 (some .int) d [.ref (gB g + 349)] A ((0, some (vI out), A) : JO) (inR out) :=
  CT_of (by decide +kernel) hl (by first | exact Nat.le_of_ble_eq_true rfl | (unfold rv; split <;> exact Nat.le_of_ble_eq_true rfl)) (by first | rfl | (unfold rv; split <;> rfl)) (j_sub (lv := [(0, .ref (gB g + 349))]) [0] rfl (tX9_nextOver_0 hl hd  h))
set_option maxRecDepth 100000 in
theorem tX9_passes_36 {g : JG} {l : Launch} {d N n0 s0 : Nat} {out : Int × AH} (hl : l.stackTraces = false) (hd : 4 ≤ d) : ∀ (n : Nat) (A : AH) (x2 : Int) (x3 : Int), inR x2 → inR x3 → fX9_passes_36 N n A x2 x3 = some out → J g l d RX9 "passes" cX9_passes 4 (some .int) n0 s0 ((0, some (vI out.1), out.2) : JO) (inR out.1) 36 [(0, .ref (gB g + 349)), (2, vI x2), (3, vI x3)] [] A := by
  intro n
  induction n with
  | zero =>
    intro A x2 x3 hx2 hx3 h
    rw [fX9_passes_36] at h
    cases h
  | succ n ih =>
    intro A x2 x3 hx2 hx3 h
    rw [fX9_passes_36] at h
    refine j_iload_n (j := 2) dX9_passes_36 rfl rfl ?_
    refine j_aload_n (j := 0) dX9_passes_37 rfl rfl ?_
    refine j_getI FX9_100 rfl dX9_passes_38 (VK_c 9 349 rfl).1 (VK_c 9 349 rfl).lt (VK_c 9 349 rfl).ka (fun r1 => ?_)
    by_cases c2 : (gI A 349 22) ≤ x3
    · rw [if_pos c2] at h
      refine j_icmp_ge_t hx3 r1 dX9_passes_41 (tgt := 85) (by decide) c2 ?_
      refine j_iload_n (j := 1) dX9_passes_85 rfl rfl ?_
      cases h
      exact j_iret dX9_passes_86 rfl rfl rfl hx2
    · rw [if_neg c2] at h
      refine j_icmp_ge_f hx3 r1 dX9_passes_41 (tgt := 85) (by decide) c2 ?_
      refine j_aload_n (j := 0) dX9_passes_44 rfl rfl ?_
      refine j_getR (q := 357) FX9_31 rfl dX9_passes_45 (by decide) (by decide) rfl rfl (by decide) ?_
      refine j_iload_n (j := 2) dX9_passes_48 rfl rfl ?_
      obtain ⟨c3, h⟩ := chk_elim h
      refine j_iald hx3 (by decide) (by decide) rfl dX9_passes_49 (VK_c 27 357 rfl).1 (VK_c 27 357 rfl).lt (VK_c 27 357 rfl).ka c3 (fun r4 => ?_)
      by_cases c5 : (gI A 357 x3.toNat) = 0
      · rw [if_pos c5] at h
        refine j_if_ne_f r4 dX9_passes_50 (tgt := 79) (by decide) (fun q => q c5) ?_
        refine j_aload_n (j := 0) dX9_passes_53 rfl rfl ?_
        refine j_getR (q := 356) FX9_28 rfl dX9_passes_54 (by decide) (by decide) rfl rfl (by decide) ?_
        refine j_iload_n (j := 2) dX9_passes_57 rfl rfl ?_
        obtain ⟨c7, h⟩ := chk_elim h
        refine j_iald hx3 (by decide) (by decide) rfl dX9_passes_58 (VK_c 26 356 rfl).1 (VK_c 26 356 rfl).lt (VK_c 26 356 rfl).ka c7 (fun r8 => ?_)
        refine j_aload_n (j := 0) dX9_passes_59 rfl rfl ?_
        refine j_getI FX9_155 rfl dX9_passes_60 (VK_c 9 349 rfl).1 (VK_c 9 349 rfl).lt (VK_c 9 349 rfl).ka (fun r9 => ?_)
        by_cases c10 : (gI A 356 x3.toNat) < (gI A 349 19)
        · rw [if_pos c10] at h
          refine j_icmp_lt_t r8 r9 dX9_passes_63 (tgt := 69) (by decide) c10 ?_
          refine j_aload_n (j := 0) dX9_passes_69 rfl rfl ?_
          refine j_getR (q := 357) FX9_31 rfl dX9_passes_70 (by decide) (by decide) rfl rfl (by decide) ?_
          refine j_iload_n (j := 2) dX9_passes_73 rfl rfl ?_
          refine j_iconst dX9_passes_74 ?_
          obtain ⟨c11, h⟩ := chk_elim h
          obtain ⟨A12, eA12, h⟩ := bnd_elim h
          have xA12 : XT A A12 := by rw [eA12]; exact XT_sI _ _ _ _
          refine j_iast hx3 (inR_lit _ rfl) (by decide) (by decide) rfl dX9_passes_75 (VK_c 27 357 rfl).1 (VK_c 27 357 rfl).lt (VK_c 27 357 rfl).ka c11 ?_
          refine j_hB eA12 ?_
          obtain ⟨u13, eu13, h⟩ := bnd_elim h
          have hu13 : inR u13 := by rw [eu13]; exact wrap_inR _
          refine j_iincN (k := 1) (lv' := [(2, vI u13), (0, .ref (gB g + 349)), (3, vI x3)]) eu13 dX9_passes_76 rfl (by decide) (by first | rfl | (simp only [List.all_cons, List.all_nil, rv_cat]; rfl)) rfl ?_
          obtain ⟨u14, eu14, h⟩ := bnd_elim h
          have hu14 : inR u14 := by rw [eu14]; exact wrap_inR _
          refine j_iincN (k := 2) (lv' := [(3, vI u14), (2, vI u13), (0, .ref (gB g + 349))]) eu14 dX9_passes_79 rfl (by decide) (by first | rfl | (simp only [List.all_cons, List.all_nil, rv_cat]; rfl)) rfl ?_
          refine j_goto (tgt := 36) dX9_passes_82 (by decide) ?_
          exact j_sub [2, 1, 0] rfl (ih A12 u13 u14 hu13 hu14 h)
        · rw [if_neg c10] at h
          refine j_icmp_lt_f r8 r9 dX9_passes_63 (tgt := 69) (by decide) c10 ?_
          refine j_goto (tgt := 79) dX9_passes_66 (by decide) ?_
          obtain ⟨u15, eu15, h⟩ := bnd_elim h
          have hu15 : inR u15 := by rw [eu15]; exact wrap_inR _
          refine j_iincN (k := 2) (lv' := [(3, vI u15), (0, .ref (gB g + 349)), (2, vI x2)]) eu15 dX9_passes_79 rfl (by decide) (by first | rfl | (simp only [List.all_cons, List.all_nil, rv_cat]; rfl)) rfl ?_
          refine j_goto (tgt := 36) dX9_passes_82 (by decide) ?_
          exact j_sub [1, 2, 0] rfl (ih A x2 u15 hx2 hu15 h)
      · rw [if_neg c5] at h
        refine j_if_ne_t r4 dX9_passes_50 (tgt := 79) (by decide) c5 ?_
        obtain ⟨u6, eu6, h⟩ := bnd_elim h
        have hu6 : inR u6 := by rw [eu6]; exact wrap_inR _
        refine j_iincN (k := 2) (lv' := [(3, vI u6), (0, .ref (gB g + 349)), (2, vI x2)]) eu6 dX9_passes_79 rfl (by decide) (by first | rfl | (simp only [List.all_cons, List.all_nil, rv_cat]; rfl)) rfl ?_
        refine j_goto (tgt := 36) dX9_passes_82 (by decide) ?_
        exact j_sub [1, 2, 0] rfl (ih A x2 u6 hx2 hu6 h)
set_option maxRecDepth 100000 in
theorem tX9_passes_15 {g : JG} {l : Launch} {d N n0 s0 : Nat} {out : Int × AH} (hl : l.stackTraces = false) (hd : 4 ≤ d) : ∀ (n : Nat) (A : AH) (x2 : Int), inR x2 → fX9_passes_15 N n A x2 = some out → J g l d RX9 "passes" cX9_passes 4 (some .int) n0 s0 ((0, some (vI out.1), out.2) : JO) (inR out.1) 15 [(0, .ref (gB g + 349)), (2, vI x2)] [] A := by
  intro n
  induction n with
  | zero =>
    intro A x2 hx2 h
    rw [fX9_passes_15] at h
    cases h
  | succ n ih =>
    intro A x2 hx2 h
    rw [fX9_passes_15] at h
    refine j_iload_n (j := 1) dX9_passes_15 rfl rfl ?_
    by_cases c1 : x2 < 0
    · rw [if_pos c1] at h
      refine j_if_lt_t hx2 dX9_passes_16 (tgt := 32) (by decide) c1 ?_
      refine j_iconst dX9_passes_32 ?_
      refine j_istore_n (lv' := [(2, vI 0), (0, .ref (gB g + 349))]) dX9_passes_33 rfl (by decide) (by first | rfl | (simp only [List.all_cons, List.all_nil, rv_cat]; rfl)) rfl ?_
      refine j_iconst dX9_passes_34 ?_
      refine j_istore_n (lv' := [(3, vI 0), (2, vI 0), (0, .ref (gB g + 349))]) dX9_passes_35 rfl (by decide) (by first | rfl | (simp only [List.all_cons, List.all_nil, rv_cat]; rfl)) rfl ?_
      exact j_sub [2, 1, 0] rfl (tX9_passes_36 hl (by omega)   N A 0 0 (inR_lit _ rfl) (inR_lit _ rfl) h)
    · rw [if_neg c1] at h
      refine j_if_lt_f hx2 dX9_passes_16 (tgt := 32) (by decide) c1 ?_
      refine j_aload_n (j := 0) dX9_passes_19 rfl rfl ?_
      refine j_iload_n (j := 1) dX9_passes_20 rfl rfl ?_
      obtain ⟨p3, e2, h⟩ := obind_elim h
      refine j_callV MX9_307 YX9_isOver IX9_isOver SX9_isOver (by decide) rfl (by decide) (by omega) (Nat.le_of_ble_eq_true rfl) rfl (ctX9_isOver (d := d - 1) hl (by omega) hx2 e2) dX9_passes_21 (VK_c 9 349 rfl).1 (VK_c 9 349 rfl).lt (VK_c 9 349 rfl).ka rfl (fun z4 xt5 => ?_)
      refine j_aload_n (j := 0) dX9_passes_24 rfl rfl ?_
      obtain ⟨z7, e6, h⟩ := obind_elim h
      refine j_callV MX9_303 YX9_nextOver IX9_nextOver SX9_nextOver (by decide) rfl (by decide) (by omega) (Nat.le_of_ble_eq_true rfl) rfl (ctX9_nextOver (d := d - 1) hl (by omega)  e6) dX9_passes_25 (VK_c 9 349 rfl).1 (VK_c 9 349 rfl).lt (VK_c 9 349 rfl).ka rfl (fun z8 _ => ?_)
      refine j_istore_n (lv' := [(2, vI z7), (0, .ref (gB g + 349))]) dX9_passes_28 rfl (by decide) (by first | rfl | (simp only [List.all_cons, List.all_nil, rv_cat]; rfl)) rfl ?_
      refine j_goto (tgt := 15) dX9_passes_29 (by decide) ?_
      exact j_sub [1, 0] rfl (ih p3 z7 z8 h)
