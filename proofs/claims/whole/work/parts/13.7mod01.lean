theorem ctX9_whyNot {g : JG} {l : Launch} {d N : Nat} {A : AH} {out : Int} {x1 : Int} {x2 : Int} {x3 : Int} {x4 : Int} {x5 : Int} (hl : l.stackTraces = false) (hd : 5 ≤ d) (hx1 : inR x1) (hx2 : inR x2) (hx3 : inR x3) (hx4 : inR x4) (hx5 : inR x5) (h : fX9_whyNot N A x1 x2 x3 x4 x5 = some out) : CT g l yX9_whyNot cX9_whyNot 6 (some .int) d [.ref (gB g + 349), vI x1, vI x2, vI x3, vI x4, vI x5] A ((0, some (vI out), A) : JO) (inR out) :=
  CT_of (by decide +kernel) hl (by first | exact Nat.le_of_ble_eq_true rfl | (unfold rv; split <;> exact Nat.le_of_ble_eq_true rfl)) (by first | rfl | (unfold rv; split <;> rfl)) (j_sub (lv := [(0, .ref (gB g + 349)), (1, vI x1), (2, vI x2), (3, vI x3), (4, vI x4), (5, vI x5)]) [0, 1, 2, 3, 4, 5] rfl (tX9_whyNot_0 hl hd hx1 hx2 hx3 hx4 hx5 h))
set_option maxRecDepth 100000 in
theorem tX9_whyNotTrip_0 {g : JG} {l : Launch} {d N n0 s0 : Nat} {out : Int × AH} {A : AH} {x1 : Int} {x2 : Int} {x3 : Int} (hl : l.stackTraces = false) (hd : 6 ≤ d) (hx1 : inR x1) (hx2 : inR x2) (hx3 : inR x3) (h : fX9_whyNotTrip N A x1 x2 x3 = some out) : J g l d RX9 "whyNotTrip" cX9_whyNotTrip 4 (some .int) n0 s0 ((0, some (vI out.1), out.2) : JO) (inR out.1) 0 [(0, .ref (gB g + 349)), (1, vI x1), (2, vI x2), (3, vI x3)] [] A := by
  unfold fX9_whyNotTrip at h
  refine j_aload_n (j := 0) dX9_whyNotTrip_0 rfl rfl ?_
  refine j_iload_n (j := 2) dX9_whyNotTrip_1 rfl rfl ?_
  obtain ⟨p2, e1, h⟩ := obind_elim h
  refine j_callV MX9_164 YX9_findLast IX9_findLast SX9_findLast (by decide) rfl (by decide) (by omega) (Nat.le_of_ble_eq_true rfl) rfl (ctX9_findLast (d := d - 1) hl (by omega) hx2 e1) dX9_whyNotTrip_2 (VK_c 9 349 rfl).1 (VK_c 9 349 rfl).lt (VK_c 9 349 rfl).ka rfl (fun z3 xt4 => ?_)
  refine j_aload_n (j := 0) dX9_whyNotTrip_5 rfl rfl ?_
  refine j_iload_n (j := 1) dX9_whyNotTrip_6 rfl rfl ?_
  refine j_iload_n (j := 2) dX9_whyNotTrip_7 rfl rfl ?_
  refine j_iload_n (j := 3) dX9_whyNotTrip_8 rfl rfl ?_
  refine j_aload_n (j := 0) dX9_whyNotTrip_9 rfl rfl ?_
  refine j_getI FX9_118 rfl dX9_whyNotTrip_10 (VK_c 9 349 rfl).1 (VK_c 9 349 rfl).lt (VK_c 9 349 rfl).ka (fun r5 => ?_)
  refine j_aload_n (j := 0) dX9_whyNotTrip_13 rfl rfl ?_
  refine j_getI FX9_121 rfl dX9_whyNotTrip_14 (VK_c 9 349 rfl).1 (VK_c 9 349 rfl).lt (VK_c 9 349 rfl).ka (fun r6 => ?_)
  obtain ⟨z8, e7, h⟩ := obind_elim h
  refine j_callV MX9_168 YX9_whyNot IX9_whyNot SX9_whyNot (by decide) rfl (by decide) (by omega) (Nat.le_of_ble_eq_true rfl) rfl (ctX9_whyNot (d := d - 1) hl (by omega) hx1 hx2 hx3 r5 r6 e7) dX9_whyNotTrip_17 (VK_c 9 349 rfl).1 (VK_c 9 349 rfl).lt (VK_c 9 349 rfl).ka rfl (fun z9 _ => ?_)
  cases h
  exact j_iret dX9_whyNotTrip_20 rfl rfl rfl z9
theorem ctX9_whyNotTrip {g : JG} {l : Launch} {d N : Nat} {A : AH} {out : Int × AH} {x1 : Int} {x2 : Int} {x3 : Int} (hl : l.stackTraces = false) (hd : 6 ≤ d) (hx1 : inR x1) (hx2 : inR x2) (hx3 : inR x3) (h : fX9_whyNotTrip N A x1 x2 x3 = some out) : CT g l yX9_whyNotTrip cX9_whyNotTrip 4 (some .int) d [.ref (gB g + 349), vI x1, vI x2, vI x3] A ((0, some (vI out.1), out.2) : JO) (inR out.1) :=
  CT_of (by decide +kernel) hl (by first | exact Nat.le_of_ble_eq_true rfl | (unfold rv; split <;> exact Nat.le_of_ble_eq_true rfl)) (by first | rfl | (unfold rv; split <;> rfl)) (j_sub (lv := [(0, .ref (gB g + 349)), (1, vI x1), (2, vI x2), (3, vI x3)]) [0, 1, 2, 3] rfl (tX9_whyNotTrip_0 hl hd hx1 hx2 hx3 h))
set_option maxRecDepth 100000 in
theorem tX9_placeOfBoat_0 {g : JG} {l : Launch} {d N n0 s0 : Nat} {out : Int} {A : AH} {x1 : Int} (hl : l.stackTraces = false) (hd : 1 ≤ d) (hx1 : inR x1) (h : fX9_placeOfBoat N A x1 = some out) : J g l d RX9 "placeOfBoat" cX9_placeOfBoat 2 (some .int) n0 s0 ((0, some (vI out), A) : JO) (inR out) 0 [(0, .ref (gB g + 349)), (1, vI x1)] [] A := by
  unfold fX9_placeOfBoat at h
  refine j_aload_n (j := 0) dX9_placeOfBoat_0 rfl rfl ?_
  refine j_getR (q := 365) FX9_55 rfl dX9_placeOfBoat_1 (by decide) (by decide) rfl rfl (by decide) ?_
  refine j_iload_n (j := 1) dX9_placeOfBoat_4 rfl rfl ?_
  obtain ⟨c1, h⟩ := chk_elim h
  refine j_iald hx1 (by decide) (by decide) rfl dX9_placeOfBoat_5 (VK_c 35 365 rfl).1 (VK_c 35 365 rfl).lt (VK_c 35 365 rfl).ka c1 (fun r2 => ?_)
  refine j_iconst dX9_placeOfBoat_6 ?_
  refine j_irem r2 (inR_lit _ rfl) (by decide) dX9_placeOfBoat_7 ?_
  cases h
  exact j_iret dX9_placeOfBoat_8 rfl rfl rfl (tmod_inR _ r2)
theorem ctX9_placeOfBoat {g : JG} {l : Launch} {d N : Nat} {A : AH} {out : Int} {x1 : Int} (hl : l.stackTraces = false) (hd : 1 ≤ d) (hx1 : inR x1) (h : fX9_placeOfBoat N A x1 = some out) : CT g l yX9_placeOfBoat cX9_placeOfBoat 2 (some .int) d [.ref (gB g + 349), vI x1] A ((0, some (vI out), A) : JO) (inR out) :=
  CT_of (by decide +kernel) hl (by first | exact Nat.le_of_ble_eq_true rfl | (unfold rv; split <;> exact Nat.le_of_ble_eq_true rfl)) (by first | rfl | (unfold rv; split <;> rfl)) (j_sub (lv := [(0, .ref (gB g + 349)), (1, vI x1)]) [0, 1] rfl (tX9_placeOfBoat_0 hl hd hx1 h))
set_option maxRecDepth 100000 in
theorem tX9_whyNotRun_89 {g : JG} {l : Launch} {d N n0 s0 : Nat} {out : Int × AH} {x1 : Int} {x3 : Int} (hl : l.stackTraces = false) (hd : 4 ≤ d) (hx1 : inR x1) (hx3 : inR x3) : ∀ (n : Nat) (A : AH) (x4 : Int), inR x4 → fX9_whyNotRun_89 N x1 x3 n A x4 = some out → J g l d RX9 "whyNotRun" cX9_whyNotRun 5 (some .int) n0 s0 ((0, some (vI out.1), out.2) : JO) (inR out.1) 89 [(0, .ref (gB g + 349)), (1, vI x1), (3, vI x3), (4, vI x4)] [] A := by
  intro n
  induction n with
  | zero =>
    intro A x4 hx4 h
    rw [fX9_whyNotRun_89] at h
    cases h
  | succ n ih =>
    intro A x4 hx4 h
    rw [fX9_whyNotRun_89] at h
    refine j_iload (j := 3) dX9_whyNotRun_89 rfl ?_
    refine j_aload_n (j := 0) dX9_whyNotRun_91 rfl rfl ?_
    refine j_getI FX9_94 rfl dX9_whyNotRun_92 (VK_c 9 349 rfl).1 (VK_c 9 349 rfl).lt (VK_c 9 349 rfl).ka (fun r1 => ?_)
    by_cases c2 : (gI A 349 20) ≤ x4
    · rw [if_pos c2] at h
      refine j_icmp_ge_t hx4 r1 dX9_whyNotRun_95 (tgt := 137) (by decide) c2 ?_
      refine j_iconst dX9_whyNotRun_137 ?_
      cases h
      exact j_iret dX9_whyNotRun_138 rfl rfl rfl (inR_lit _ rfl)
    · rw [if_neg c2] at h
      refine j_icmp_ge_f hx4 r1 dX9_whyNotRun_95 (tgt := 137) (by decide) c2 ?_
      refine j_iload_n (j := 2) dX9_whyNotRun_98 rfl rfl ?_
      refine j_iload (j := 3) dX9_whyNotRun_99 rfl ?_
      refine j_ishr dX9_whyNotRun_101 ?_
      refine j_iconst dX9_whyNotRun_102 ?_
      refine j_iand dX9_whyNotRun_103 ?_
      by_cases c3 : (iAnd (iShr x3 x4) 1) = 0
      · rw [if_pos c3] at h
        refine j_if_ne_f (iAnd_inR _ _) dX9_whyNotRun_104 (tgt := 110) (by decide) (fun q => q c3) ?_
        refine j_goto (tgt := 131) dX9_whyNotRun_107 (by decide) ?_
        obtain ⟨u15, eu15, h⟩ := bnd_elim h
        have hu15 : inR u15 := by rw [eu15]; exact wrap_inR _
        refine j_iincN (k := 3) (lv' := [(4, vI u15), (0, .ref (gB g + 349)), (1, vI x1), (3, vI x3)]) eu15 dX9_whyNotRun_131 rfl (by decide) (by first | rfl | (simp only [List.all_cons, List.all_nil, rv_cat]; rfl)) rfl ?_
        refine j_goto (tgt := 89) dX9_whyNotRun_134 (by decide) ?_
        exact j_sub [1, 2, 3, 0] rfl (ih A u15 hu15 h)
      · rw [if_neg c3] at h
        refine j_if_ne_t (iAnd_inR _ _) dX9_whyNotRun_104 (tgt := 110) (by decide) c3 ?_
        refine j_aload_n (j := 0) dX9_whyNotRun_110 rfl rfl ?_
        refine j_iload (j := 3) dX9_whyNotRun_111 rfl ?_
        obtain ⟨p5, e4, h⟩ := obind_elim h
        refine j_callV MX9_164 YX9_findLast IX9_findLast SX9_findLast (by decide) rfl (by decide) (by omega) (Nat.le_of_ble_eq_true rfl) rfl (ctX9_findLast (d := d - 1) hl (by omega) hx4 e4) dX9_whyNotRun_113 (VK_c 9 349 rfl).1 (VK_c 9 349 rfl).lt (VK_c 9 349 rfl).ka rfl (fun z6 xt7 => ?_)
        refine j_aload_n (j := 0) dX9_whyNotRun_116 rfl rfl ?_
        refine j_getI FX9_121 rfl dX9_whyNotRun_117 (VK_c 9 349 rfl).1 (VK_c 9 349 rfl).lt (VK_c 9 349 rfl).ka (fun r8 => ?_)
        refine j_aload_n (j := 0) dX9_whyNotRun_120 rfl rfl ?_
        refine j_iload_n (j := 1) dX9_whyNotRun_121 rfl rfl ?_
        obtain ⟨z10, e9, h⟩ := obind_elim h
        refine j_callV MX9_175 YX9_placeOfBoat IX9_placeOfBoat SX9_placeOfBoat (by decide) rfl (by decide) (by omega) (Nat.le_of_ble_eq_true rfl) rfl (ctX9_placeOfBoat (d := d - 1) hl (by omega) hx1 e9) dX9_whyNotRun_122 (VK_c 9 349 rfl).1 (VK_c 9 349 rfl).lt (VK_c 9 349 rfl).ka rfl (fun z11 _ => ?_)
        by_cases c13 : (gI p5 349 25) = z10
        · rw [if_pos c13] at h
          refine j_icmp_eq_t r8 z11 dX9_whyNotRun_125 (tgt := 131) (by decide) c13 ?_
          obtain ⟨u14, eu14, h⟩ := bnd_elim h
          have hu14 : inR u14 := by rw [eu14]; exact wrap_inR _
          refine j_iincN (k := 3) (lv' := [(4, vI u14), (0, .ref (gB g + 349)), (1, vI x1), (3, vI x3)]) eu14 dX9_whyNotRun_131 rfl (by decide) (by first | rfl | (simp only [List.all_cons, List.all_nil, rv_cat]; rfl)) rfl ?_
          refine j_goto (tgt := 89) dX9_whyNotRun_134 (by decide) ?_
          exact j_sub [1, 2, 3, 0] rfl (ih p5 u14 hu14 h)
        · rw [if_neg c13] at h
          refine j_icmp_eq_f r8 z11 dX9_whyNotRun_125 (tgt := 131) (by decide) c13 ?_
          refine j_bipush dX9_whyNotRun_128 rfl ?_
          cases h
          exact j_iret dX9_whyNotRun_130 rfl rfl rfl (inR_lit _ rfl)
set_option maxRecDepth 100000 in
theorem tX9_whyNotRun_42 {g : JG} {l : Launch} {d N n0 s0 : Nat} {out : Int × AH} {x1 : Int} {x2 : Int} {x3 : Int} (hl : l.stackTraces = false) (hd : 4 ≤ d) (hx1 : inR x1) (hx2 : inR x2) (hx3 : inR x3) : ∀ (n : Nat) (A : AH) (x4 : Int), inR x4 → fX9_whyNotRun_42 N x1 x2 x3 n A x4 = some out → J g l d RX9 "whyNotRun" cX9_whyNotRun 5 (some .int) n0 s0 ((0, some (vI out.1), out.2) : JO) (inR out.1) 42 [(0, .ref (gB g + 349)), (1, vI x1), (2, vI x2), (3, vI x3), (4, vI x4)] [] A := by
  intro n
  induction n with
  | zero =>
    intro A x4 hx4 h
    rw [fX9_whyNotRun_42] at h
    cases h
  | succ n ih =>
    intro A x4 hx4 h
    rw [fX9_whyNotRun_42] at h
    refine j_iload (j := 4) dX9_whyNotRun_42 rfl ?_
    refine j_aload_n (j := 0) dX9_whyNotRun_44 rfl rfl ?_
    refine j_getI FX9_94 rfl dX9_whyNotRun_45 (VK_c 9 349 rfl).1 (VK_c 9 349 rfl).lt (VK_c 9 349 rfl).ka (fun r1 => ?_)
    by_cases c2 : (gI A 349 20) ≤ x4
    · rw [if_pos c2] at h
      refine j_icmp_ge_t hx4 r1 dX9_whyNotRun_48 (tgt := 86) (by decide) c2 ?_
      refine j_iconst dX9_whyNotRun_86 ?_
      refine j_istore (lv' := [(4, vI 0), (0, .ref (gB g + 349)), (1, vI x1), (2, vI x2), (3, vI x3)]) dX9_whyNotRun_87 (by decide) (by first | rfl | (simp only [List.all_cons, List.all_nil, rv_cat]; rfl)) rfl ?_
      exact j_sub [1, 2, 4, 0] rfl (tX9_whyNotRun_89 hl (by omega) hx1 hx3  N A 0 (inR_lit _ rfl) h)
    · rw [if_neg c2] at h
      refine j_icmp_ge_f hx4 r1 dX9_whyNotRun_48 (tgt := 86) (by decide) c2 ?_
      refine j_iload_n (j := 3) dX9_whyNotRun_51 rfl rfl ?_
      refine j_iload (j := 4) dX9_whyNotRun_52 rfl ?_
      refine j_ishr dX9_whyNotRun_54 ?_
      refine j_iconst dX9_whyNotRun_55 ?_
      refine j_iand dX9_whyNotRun_56 ?_
      by_cases c3 : (iAnd (iShr x3 x4) 1) = 0
      · rw [if_pos c3] at h
        refine j_if_ne_f (iAnd_inR _ _) dX9_whyNotRun_57 (tgt := 63) (by decide) (fun q => q c3) ?_
        refine j_goto (tgt := 80) dX9_whyNotRun_60 (by decide) ?_
        obtain ⟨u11, eu11, h⟩ := bnd_elim h
        have hu11 : inR u11 := by rw [eu11]; exact wrap_inR _
        refine j_iincN (k := 4) (lv' := [(4, vI u11), (0, .ref (gB g + 349)), (1, vI x1), (2, vI x2), (3, vI x3)]) eu11 dX9_whyNotRun_80 rfl (by decide) (by first | rfl | (simp only [List.all_cons, List.all_nil, rv_cat]; rfl)) rfl ?_
        refine j_goto (tgt := 42) dX9_whyNotRun_83 (by decide) ?_
        exact j_sub [1, 2, 3, 4, 0] rfl (ih A u11 hu11 h)
      · rw [if_neg c3] at h
        refine j_if_ne_t (iAnd_inR _ _) dX9_whyNotRun_57 (tgt := 63) (by decide) c3 ?_
        refine j_aload_n (j := 0) dX9_whyNotRun_63 rfl rfl ?_
        refine j_iload (j := 4) dX9_whyNotRun_64 rfl ?_
        obtain ⟨p5, e4, h⟩ := obind_elim h
        refine j_callV MX9_164 YX9_findLast IX9_findLast SX9_findLast (by decide) rfl (by decide) (by omega) (Nat.le_of_ble_eq_true rfl) rfl (ctX9_findLast (d := d - 1) hl (by omega) hx4 e4) dX9_whyNotRun_66 (VK_c 9 349 rfl).1 (VK_c 9 349 rfl).lt (VK_c 9 349 rfl).ka rfl (fun z6 xt7 => ?_)
        refine j_iload_n (j := 2) dX9_whyNotRun_69 rfl rfl ?_
        refine j_aload_n (j := 0) dX9_whyNotRun_70 rfl rfl ?_
        refine j_getI FX9_118 rfl dX9_whyNotRun_71 (VK_c 9 349 rfl).1 (VK_c 9 349 rfl).lt (VK_c 9 349 rfl).ka (fun r8 => ?_)
        by_cases c9 : (gI p5 349 24) ≤ x2
        · rw [if_pos c9] at h
          refine j_icmp_ge_t hx2 r8 dX9_whyNotRun_74 (tgt := 80) (by decide) c9 ?_
          obtain ⟨u10, eu10, h⟩ := bnd_elim h
          have hu10 : inR u10 := by rw [eu10]; exact wrap_inR _
          refine j_iincN (k := 4) (lv' := [(4, vI u10), (0, .ref (gB g + 349)), (1, vI x1), (2, vI x2), (3, vI x3)]) eu10 dX9_whyNotRun_80 rfl (by decide) (by first | rfl | (simp only [List.all_cons, List.all_nil, rv_cat]; rfl)) rfl ?_
          refine j_goto (tgt := 42) dX9_whyNotRun_83 (by decide) ?_
          exact j_sub [1, 2, 3, 4, 0] rfl (ih p5 u10 hu10 h)
        · rw [if_neg c9] at h
          refine j_icmp_ge_f hx2 r8 dX9_whyNotRun_74 (tgt := 80) (by decide) c9 ?_
          refine j_bipush dX9_whyNotRun_77 rfl ?_
          cases h
          exact j_iret dX9_whyNotRun_79 rfl rfl rfl (inR_lit _ rfl)
set_option maxRecDepth 100000 in
theorem tX9_whyNotRun_0 {g : JG} {l : Launch} {d N n0 s0 : Nat} {out : Int × AH} {A : AH} {x1 : Int} {x2 : Int} {x3 : Int} (hl : l.stackTraces = false) (hd : 4 ≤ d) (hx1 : inR x1) (hx2 : inR x2) (hx3 : inR x3) (h : fX9_whyNotRun N A x1 x2 x3 = some out) : J g l d RX9 "whyNotRun" cX9_whyNotRun 5 (some .int) n0 s0 ((0, some (vI out.1), out.2) : JO) (inR out.1) 0 [(0, .ref (gB g + 349)), (1, vI x1), (2, vI x2), (3, vI x3)] [] A := by
  unfold fX9_whyNotRun at h
  refine j_iload_n (j := 2) dX9_whyNotRun_0 rfl rfl ?_
  refine j_aload_n (j := 0) dX9_whyNotRun_1 rfl rfl ?_
  refine j_getI FX9_155 rfl dX9_whyNotRun_2 (VK_c 9 349 rfl).1 (VK_c 9 349 rfl).lt (VK_c 9 349 rfl).ka (fun r1 => ?_)
  by_cases c2 : (gI A 349 19) ≤ x2
  · rw [if_pos c2] at h
    refine j_icmp_ge_t hx2 r1 dX9_whyNotRun_5 (tgt := 10) (by decide) c2 ?_
    refine j_iload_n (j := 2) dX9_whyNotRun_10 rfl rfl ?_
    refine j_aload_n (j := 0) dX9_whyNotRun_11 rfl rfl ?_
    refine j_getR (q := 366) FX9_58 rfl dX9_whyNotRun_12 (by decide) (by decide) rfl rfl (by decide) ?_
    refine j_iload_n (j := 1) dX9_whyNotRun_15 rfl rfl ?_
    obtain ⟨c3, h⟩ := chk_elim h
    refine j_iald hx1 (by decide) (by decide) rfl dX9_whyNotRun_16 (VK_c 36 366 rfl).1 (VK_c 36 366 rfl).lt (VK_c 36 366 rfl).ka c3 (fun r4 => ?_)
    by_cases c5 : (gI A 366 x1.toNat) ≤ x2
    · rw [if_pos c5] at h
      refine j_icmp_ge_t hx2 r4 dX9_whyNotRun_17 (tgt := 23) (by decide) c5 ?_
      refine j_iload_n (j := 3) dX9_whyNotRun_23 rfl rfl ?_
      obtain ⟨z7, e6, h⟩ := obind_elim h
      refine j_callS MX9_172 YX9_bits IX9_bits (by decide) (by omega) (Nat.le_of_ble_eq_true rfl) rfl (ctX9_bits (d := d - 1) hl (by omega) hx3 e6) dX9_whyNotRun_24 rfl (fun z8 _ => ?_)
      refine j_aload_n (j := 0) dX9_whyNotRun_27 rfl rfl ?_
      refine j_getR (q := 364) FX9_52 rfl dX9_whyNotRun_28 (by decide) (by decide) rfl rfl (by decide) ?_
      refine j_iload_n (j := 1) dX9_whyNotRun_31 rfl rfl ?_
      obtain ⟨c10, h⟩ := chk_elim h
      refine j_iald hx1 (by decide) (by decide) rfl dX9_whyNotRun_32 (VK_c 34 364 rfl).1 (VK_c 34 364 rfl).lt (VK_c 34 364 rfl).ka c10 (fun r11 => ?_)
      by_cases c12 : z7 ≤ (gI A 364 x1.toNat)
      · rw [if_pos c12] at h
        refine j_icmp_le_t z8 r11 dX9_whyNotRun_33 (tgt := 39) (by decide) c12 ?_
        refine j_iconst dX9_whyNotRun_39 ?_
        refine j_istore (lv' := [(4, vI 0), (0, .ref (gB g + 349)), (1, vI x1), (2, vI x2), (3, vI x3)]) dX9_whyNotRun_40 (by decide) (by first | rfl | (simp only [List.all_cons, List.all_nil, rv_cat]; rfl)) rfl ?_
        exact j_sub [1, 2, 3, 4, 0] rfl (tX9_whyNotRun_42 hl (by omega) hx1 hx2 hx3  N A 0 (inR_lit _ rfl) h)
      · rw [if_neg c12] at h
        refine j_icmp_le_f z8 r11 dX9_whyNotRun_33 (tgt := 39) (by decide) c12 ?_
        refine j_bipush dX9_whyNotRun_36 rfl ?_
        cases h
        exact j_iret dX9_whyNotRun_38 rfl rfl rfl (inR_lit _ rfl)
    · rw [if_neg c5] at h
      refine j_icmp_ge_f hx2 r4 dX9_whyNotRun_17 (tgt := 23) (by decide) c5 ?_
      refine j_bipush dX9_whyNotRun_20 rfl ?_
      cases h
      exact j_iret dX9_whyNotRun_22 rfl rfl rfl (inR_lit _ rfl)
  · rw [if_neg c2] at h
    refine j_icmp_ge_f hx2 r1 dX9_whyNotRun_5 (tgt := 10) (by decide) c2 ?_
    refine j_iconst dX9_whyNotRun_8 ?_
    cases h
    exact j_iret dX9_whyNotRun_9 rfl rfl rfl (inR_lit _ rfl)
theorem ctX9_whyNotRun {g : JG} {l : Launch} {d N : Nat} {A : AH} {out : Int × AH} {x1 : Int} {x2 : Int} {x3 : Int} (hl : l.stackTraces = false) (hd : 4 ≤ d) (hx1 : inR x1) (hx2 : inR x2) (hx3 : inR x3) (h : fX9_whyNotRun N A x1 x2 x3 = some out) : CT g l yX9_whyNotRun cX9_whyNotRun 5 (some .int) d [.ref (gB g + 349), vI x1, vI x2, vI x3] A ((0, some (vI out.1), out.2) : JO) (inR out.1) :=
  CT_of (by decide +kernel) hl (by first | exact Nat.le_of_ble_eq_true rfl | (unfold rv; split <;> exact Nat.le_of_ble_eq_true rfl)) (by first | rfl | (unfold rv; split <;> rfl)) (j_sub (lv := [(0, .ref (gB g + 349)), (1, vI x1), (2, vI x2), (3, vI x3)]) [0, 1, 2, 3] rfl (tX9_whyNotRun_0 hl hd hx1 hx2 hx3 h))
set_option maxRecDepth 100000 in
theorem tX9_goes_0 {g : JG} {l : Launch} {d N n0 s0 : Nat} {out : Int × AH} {A : AH} {x1 : Int} {x2 : Int} {x3 : Int} (hl : l.stackTraces = false) (hd : 2 ≤ d) (hx1 : inR x1) (hx2 : inR x2) (hx3 : inR x3) (h : fX9_goes N A x1 x2 x3 = some out) : J g l d RX9 "goes" cX9_goes 5 (some .int) n0 s0 ((0, some (vI out.1), out.2) : JO) (inR out.1) 0 [(0, .ref (gB g + 349)), (1, vI x1), (2, vI x2), (3, vI x3)] [] A := by
  unfold fX9_goes at h
  refine j_aload_n (j := 0) dX9_goes_0 rfl rfl ?_
  refine j_getR (q := 350) FX9_7 rfl dX9_goes_1 (by decide) (by decide) rfl rfl (by decide) ?_
  refine j_iconst dX9_goes_4 ?_
  refine j_iald (inR_lit _ rfl) (by decide) (by decide) rfl dX9_goes_5 (VK_c 20 350 rfl).1 (VK_c 20 350 rfl).lt (VK_c 20 350 rfl).ka (by decide) (fun r1 => ?_)
  obtain ⟨u2, eu2, h⟩ := bnd_elim h
  have hu2 : inR u2 := by rw [eu2]; exact r1
  refine j_nm eu2 ?_
  refine j_istore (lv' := [(4, vI u2), (0, .ref (gB g + 349)), (1, vI x1), (2, vI x2), (3, vI x3)]) dX9_goes_6 (by decide) (by first | rfl | (simp only [List.all_cons, List.all_nil, rv_cat]; rfl)) rfl ?_
  refine j_aload_n (j := 1) dX9_goes_8 rfl rfl ?_
  refine j_getR (q := 367) FX9_61 rfl dX9_goes_9 (by decide) (by decide) rfl rfl (by decide) ?_
  refine j_aload_n (j := 1) dX9_goes_12 rfl rfl ?_
  refine j_getI FX9_137 rfl dX9_goes_13 (VK_c 9 349 rfl).1 (VK_c 9 349 rfl).lt (VK_c 9 349 rfl).ka (fun r3 => ?_)
  refine j_iload_n (j := 3) dX9_goes_16 rfl rfl ?_
  refine j_iload (j := 0) dX9_goes_17 rfl ?_
  refine j_iload_n (j := 4) dX9_goes_19 rfl rfl ?_
  refine j_iconst dX9_goes_20 ?_
  refine j_aload_n (j := 1) dX9_goes_21 rfl rfl ?_
  refine j_iload_n (j := 2) dX9_goes_22 rfl rfl ?_
  obtain ⟨z5, e4, h⟩ := obind_elim h
  refine j_callV MX9_175 YX9_placeOfBoat IX9_placeOfBoat SX9_placeOfBoat (by decide) rfl (by decide) (by omega) (Nat.le_of_ble_eq_true rfl) rfl (ctX9_placeOfBoat (d := d - 1) hl (by omega) hx1 e4) dX9_goes_23 (VK_c 9 349 rfl).1 (VK_c 9 349 rfl).lt (VK_c 9 349 rfl).ka rfl (fun z6 _ => ?_)
  refine j_isub dX9_goes_26 ?_
  refine j_iload_n (j := 2) dX9_goes_27 rfl rfl ?_
  obtain ⟨z9, e8, h⟩ := obind_elim h
  refine j_callS MX9_178 YX9_packed IX9_packed (by decide) (by omega) (Nat.le_of_ble_eq_true rfl) rfl (ctX9_packed (d := d - 1) hl (by omega) hx2 hu2 hx3 (wrap_inR _) hx1 e8) dX9_goes_28 rfl (fun z10 _ => ?_)
  obtain ⟨c12, h⟩ := chk_elim h
  obtain ⟨A13, eA13, h⟩ := bnd_elim h
  have xA13 : XT A A13 := by rw [eA13]; exact XT_sI _ _ _ _
  refine j_iast r3 z10 (by decide) (by decide) rfl dX9_goes_31 (VK_c 37 367 rfl).1 (VK_c 37 367 rfl).lt (VK_c 37 367 rfl).ka c12 ?_
  refine j_hB eA13 ?_
  refine j_aload_n (j := 1) dX9_goes_32 rfl rfl ?_
  refine j_dup dX9_goes_33 rfl ?_
  refine j_getI FX9_137 rfl dX9_goes_34 (VK_c 9 349 rfl).1 (VK_c 9 349 rfl).lt (VK_c 9 349 rfl).ka (fun r14 => ?_)
  refine j_iconst dX9_goes_37 ?_
  refine j_iadd dX9_goes_38 ?_
  obtain ⟨A15, eA15, h⟩ := bnd_elim h
  have xA15 : XT A13 A15 := by rw [eA15]; exact XT_sI _ _ _ _
  refine j_putI FX9_137 rfl rfl rfl (wrap_inR _) dX9_goes_39 (VK_c 9 349 rfl).1 (VK_c 9 349 rfl).lt (VK_c 9 349 rfl).ka ?_
  refine j_hB eA15 ?_
  refine j_aload_n (j := 1) dX9_goes_42 rfl rfl ?_
  refine j_getR (q := 365) FX9_55 rfl dX9_goes_43 (by decide) (by decide) rfl rfl (by decide) ?_
  refine j_iload_n (j := 2) dX9_goes_46 rfl rfl ?_
  refine j_dup2 dX9_goes_47 rfl rfl ?_
  obtain ⟨c16, h⟩ := chk_elim h
  refine j_iald hx1 (by decide) (by decide) rfl dX9_goes_48 (VK_c 35 365 rfl).1 (VK_c 35 365 rfl).lt (VK_c 35 365 rfl).ka c16 (fun r17 => ?_)
  refine j_iconst dX9_goes_49 ?_
  refine j_iadd dX9_goes_50 ?_
  obtain ⟨c18, h⟩ := chk_elim h
  obtain ⟨A19, eA19, h⟩ := bnd_elim h
  have xA19 : XT A15 A19 := by rw [eA19]; exact XT_sI _ _ _ _
  refine j_iast hx1 (wrap_inR _) (by decide) (by decide) rfl dX9_goes_51 (VK_c 35 365 rfl).1 (VK_c 35 365 rfl).lt (VK_c 35 365 rfl).ka c18 ?_
  refine j_hB eA19 ?_
  refine j_aload_n (j := 1) dX9_goes_52 rfl rfl ?_
  refine j_getR (q := 366) FX9_58 rfl dX9_goes_53 (by decide) (by decide) rfl rfl (by decide) ?_
  refine j_iload_n (j := 2) dX9_goes_56 rfl rfl ?_
  refine j_iload_n (j := 3) dX9_goes_57 rfl rfl ?_
  refine j_iload (j := 0) dX9_goes_58 rfl ?_
  refine j_iadd dX9_goes_60 ?_
  obtain ⟨c20, h⟩ := chk_elim h
  obtain ⟨A21, eA21, h⟩ := bnd_elim h
  have xA21 : XT A19 A21 := by rw [eA21]; exact XT_sI _ _ _ _
  refine j_iast hx1 (wrap_inR _) (by decide) (by decide) rfl dX9_goes_61 (VK_c 36 366 rfl).1 (VK_c 36 366 rfl).lt (VK_c 36 366 rfl).ka c20 ?_
  refine j_hB eA21 ?_
  refine j_iload_n (j := 3) dX9_goes_62 rfl rfl ?_
  refine j_iload (j := 0) dX9_goes_63 rfl ?_
  refine j_iadd dX9_goes_65 ?_
  cases h
  exact j_iret dX9_goes_66 rfl rfl rfl (wrap_inR _)
theorem ctX9_goes {g : JG} {l : Launch} {d N : Nat} {A : AH} {out : Int × AH} {x1 : Int} {x2 : Int} {x3 : Int} (hl : l.stackTraces = false) (hd : 2 ≤ d) (hx1 : inR x1) (hx2 : inR x2) (hx3 : inR x3) (h : fX9_goes N A x1 x2 x3 = some out) : CT g l yX9_goes cX9_goes 5 (some .int) d [.ref (gB g + 349), vI x1, vI x2, vI x3] A ((0, some (vI out.1), out.2) : JO) (inR out.1) :=
  CT_of (by decide +kernel) hl (by first | exact Nat.le_of_ble_eq_true rfl | (unfold rv; split <;> exact Nat.le_of_ble_eq_true rfl)) (by first | rfl | (unfold rv; split <;> rfl)) (j_sub (lv := [(0, .ref (gB g + 349)), (1, vI x1), (2, vI x2), (3, vI x3)]) [0, 1, 2, 3] rfl (tX9_goes_0 hl hd hx1 hx2 hx3 h))
set_option maxRecDepth 100000 in
theorem tX9_plans_0 {g : JG} {l : Launch} {d N n0 s0 : Nat} {out : AH} {A : AH} {x1 : Int} {x2 : Int} {x3 : Int} (hl : l.stackTraces = false) (hd : 1 ≤ d) (hx1 : inR x1) (hx2 : inR x2) (hx3 : inR x3) (h : fX9_plans N A x1 x2 x3 = some out) : J g l d RX9 "plans" cX9_plans 4 none n0 s0 ((0, none, out) : JO) (True) 0 [(0, .ref (gB g + 349)), (1, vI x1), (2, vI x2), (3, vI x3)] [] A := by
  unfold fX9_plans at h
  refine j_aload_n (j := 0) dX9_plans_0 rfl rfl ?_
  refine j_getR (q := 357) FX9_31 rfl dX9_plans_1 (by decide) (by decide) rfl rfl (by decide) ?_
  refine j_iload_n (j := 1) dX9_plans_4 rfl rfl ?_
  refine j_iconst dX9_plans_5 ?_
  obtain ⟨c1, h⟩ := chk_elim h
  obtain ⟨A2, eA2, h⟩ := bnd_elim h
  have xA2 : XT A A2 := by rw [eA2]; exact XT_sI _ _ _ _
  refine j_iast hx1 (inR_lit _ rfl) (by decide) (by decide) rfl dX9_plans_6 (VK_c 27 357 rfl).1 (VK_c 27 357 rfl).lt (VK_c 27 357 rfl).ka c1 ?_
  refine j_hB eA2 ?_
  refine j_aload_n (j := 0) dX9_plans_7 rfl rfl ?_
  refine j_getR (q := 358) FX9_34 rfl dX9_plans_8 (by decide) (by decide) rfl rfl (by decide) ?_
  refine j_iload_n (j := 1) dX9_plans_11 rfl rfl ?_
  refine j_iload_n (j := 2) dX9_plans_12 rfl rfl ?_
  obtain ⟨c3, h⟩ := chk_elim h
  obtain ⟨A4, eA4, h⟩ := bnd_elim h
  have xA4 : XT A2 A4 := by rw [eA4]; exact XT_sI _ _ _ _
  refine j_iast hx1 hx2 (by decide) (by decide) rfl dX9_plans_13 (VK_c 28 358 rfl).1 (VK_c 28 358 rfl).lt (VK_c 28 358 rfl).ka c3 ?_
  refine j_hB eA4 ?_
  refine j_aload_n (j := 0) dX9_plans_14 rfl rfl ?_
  refine j_getR (q := 359) FX9_37 rfl dX9_plans_15 (by decide) (by decide) rfl rfl (by decide) ?_
  refine j_iload_n (j := 1) dX9_plans_18 rfl rfl ?_
  refine j_iload_n (j := 3) dX9_plans_19 rfl rfl ?_
  obtain ⟨c5, h⟩ := chk_elim h
  obtain ⟨A6, eA6, h⟩ := bnd_elim h
  have xA6 : XT A4 A6 := by rw [eA6]; exact XT_sI _ _ _ _
  refine j_iast hx1 hx3 (by decide) (by decide) rfl dX9_plans_20 (VK_c 29 359 rfl).1 (VK_c 29 359 rfl).lt (VK_c 29 359 rfl).ka c5 ?_
  refine j_hB eA6 ?_
  cases h
  exact j_vret dX9_plans_21 rfl rfl trivial
theorem ctX9_plans {g : JG} {l : Launch} {d N : Nat} {A : AH} {out : AH} {x1 : Int} {x2 : Int} {x3 : Int} (hl : l.stackTraces = false) (hd : 1 ≤ d) (hx1 : inR x1) (hx2 : inR x2) (hx3 : inR x3) (h : fX9_plans N A x1 x2 x3 = some out) : CT g l yX9_plans cX9_plans 4 none d [.ref (gB g + 349), vI x1, vI x2, vI x3] A ((0, none, out) : JO) (True) :=
  CT_of (by decide +kernel) hl (by first | exact Nat.le_of_ble_eq_true rfl | (unfold rv; split <;> exact Nat.le_of_ble_eq_true rfl)) (by first | rfl | (unfold rv; split <;> rfl)) (j_sub (lv := [(0, .ref (gB g + 349)), (1, vI x1), (2, vI x2), (3, vI x3)]) [0, 1, 2, 3] rfl (tX9_plans_0 hl hd hx1 hx2 hx3 h))
set_option maxRecDepth 100000 in
theorem tX9_finds_0 {g : JG} {l : Launch} {d N n0 s0 : Nat} {out : Int × AH} {A : AH} {x1 : Int} {x2 : Int} {x3 : Int} (hl : l.stackTraces = false) (hd : 1 ≤ d) (hx1 : inR x1) (hx2 : inR x2) (hx3 : inR x3) (h : fX9_finds N A x1 x2 x3 = some out) : J g l d RX9 "finds" cX9_finds 4 (some .boolean) n0 s0 ((0, some (vI out.1), out.2) : JO) ((out.1 = 0 ∨ out.1 = 1)) 0 [(0, .ref (gB g + 349)), (1, vI x1), (2, vI x2), (3, vI x3)] [] A := by
  unfold fX9_finds at h
  refine j_aload_n (j := 0) dX9_finds_0 rfl rfl ?_
  refine j_iload_n (j := 1) dX9_finds_1 rfl rfl ?_
  obtain ⟨A1, eA1, h⟩ := bnd_elim h
  have xA1 : XT A A1 := by rw [eA1]; exact XT_sI _ _ _ _
  refine j_putI FX9_181 rfl rfl rfl hx1 dX9_finds_2 (VK_c 9 349 rfl).1 (VK_c 9 349 rfl).lt (VK_c 9 349 rfl).ka ?_
  refine j_hB eA1 ?_
  refine j_aload_n (j := 0) dX9_finds_5 rfl rfl ?_
  refine j_iload_n (j := 2) dX9_finds_6 rfl rfl ?_
  obtain ⟨A2, eA2, h⟩ := bnd_elim h
  have xA2 : XT A1 A2 := by rw [eA2]; exact XT_sI _ _ _ _
  refine j_putI FX9_184 rfl rfl rfl hx2 dX9_finds_7 (VK_c 9 349 rfl).1 (VK_c 9 349 rfl).lt (VK_c 9 349 rfl).ka ?_
  refine j_hB eA2 ?_
  refine j_aload_n (j := 0) dX9_finds_10 rfl rfl ?_
  refine j_iload_n (j := 3) dX9_finds_11 rfl rfl ?_
  obtain ⟨A3, eA3, h⟩ := bnd_elim h
  have xA3 : XT A2 A3 := by rw [eA3]; exact XT_sI _ _ _ _
  refine j_putI FX9_187 rfl rfl rfl hx3 dX9_finds_12 (VK_c 9 349 rfl).1 (VK_c 9 349 rfl).lt (VK_c 9 349 rfl).ka ?_
  refine j_hB eA3 ?_
  refine j_iconst dX9_finds_15 ?_
  cases h
  exact j_iret dX9_finds_16 rfl ((nar_bool (Or.inr rfl)).1) rfl (Or.inr rfl)
theorem ctX9_finds {g : JG} {l : Launch} {d N : Nat} {A : AH} {out : Int × AH} {x1 : Int} {x2 : Int} {x3 : Int} (hl : l.stackTraces = false) (hd : 1 ≤ d) (hx1 : inR x1) (hx2 : inR x2) (hx3 : inR x3) (h : fX9_finds N A x1 x2 x3 = some out) : CT g l yX9_finds cX9_finds 4 (some .boolean) d [.ref (gB g + 349), vI x1, vI x2, vI x3] A ((0, some (vI out.1), out.2) : JO) ((out.1 = 0 ∨ out.1 = 1)) :=
  CT_of (by decide +kernel) hl (by first | exact Nat.le_of_ble_eq_true rfl | (unfold rv; split <;> exact Nat.le_of_ble_eq_true rfl)) (by first | rfl | (unfold rv; split <;> rfl)) (j_sub (lv := [(0, .ref (gB g + 349)), (1, vI x1), (2, vI x2), (3, vI x3)]) [0, 1, 2, 3] rfl (tX9_finds_0 hl hd hx1 hx2 hx3 h))
set_option maxRecDepth 100000 in
theorem tX9_canRide_0 {g : JG} {l : Launch} {d N n0 s0 : Nat} {out : Int × AH} {A : AH} {x1 : Int} {x2 : Int} {x3 : Int} {x4 : Int} (hl : l.stackTraces = false) (hd : 6 ≤ d) (hx1 : inR x1) (hx2 : inR x2) (hx3 : inR x3) (hx4 : inR x4) (h : fX9_canRide N A x1 x2 x3 x4 = some out) : J g l d RX9 "canRide" cX9_canRide 6 (some .boolean) n0 s0 ((0, some (vI out.1), out.2) : JO) ((out.1 = 0 ∨ out.1 = 1)) 0 [(0, .ref (gB g + 349)), (1, vI x1), (2, vI x2), (3, vI x3), (4, vI x4)] [] A := by
  unfold fX9_canRide at h
  refine j_iload_n (j := 3) dX9_canRide_0 rfl rfl ?_
  refine j_aload_n (j := 0) dX9_canRide_1 rfl rfl ?_
  refine j_getR (q := 350) FX9_7 rfl dX9_canRide_2 (by decide) (by decide) rfl rfl (by decide) ?_
  refine j_iconst dX9_canRide_5 ?_
  refine j_iald (inR_lit _ rfl) (by decide) (by decide) rfl dX9_canRide_6 (VK_c 20 350 rfl).1 (VK_c 20 350 rfl).lt (VK_c 20 350 rfl).ka (by decide) (fun r1 => ?_)
  refine j_isub dX9_canRide_7 ?_
  obtain ⟨u2, eu2, h⟩ := bnd_elim h
  have hu2 : inR u2 := by rw [eu2]; exact (wrap_inR _)
  refine j_nm eu2 ?_
  refine j_istore (lv' := [(5, vI u2), (0, .ref (gB g + 349)), (1, vI x1), (2, vI x2), (3, vI x3), (4, vI x4)]) dX9_canRide_8 (by decide) (by first | rfl | (simp only [List.all_cons, List.all_nil, rv_cat]; rfl)) rfl ?_
  refine j_iload (j := 0) dX9_canRide_10 rfl ?_
  by_cases c3 : u2 < 0
  · rw [if_pos c3] at h
    refine j_if_lt_t hu2 dX9_canRide_12 (tgt := 52) (by decide) c3 ?_
    refine j_iconst dX9_canRide_52 ?_
    cases h
    exact j_iret dX9_canRide_53 rfl ((nar_bool (Or.inl rfl)).1) rfl (Or.inl rfl)
  · rw [if_neg c3] at h
    refine j_if_lt_f hu2 dX9_canRide_12 (tgt := 52) (by decide) c3 ?_
    refine j_aload_n (j := 1) dX9_canRide_15 rfl rfl ?_
    refine j_iload (j := 5) dX9_canRide_16 rfl ?_
    refine j_iload (j := 0) dX9_canRide_18 rfl ?_
    refine j_iconst dX9_canRide_20 ?_
    refine j_iload_n (j := 3) dX9_canRide_21 rfl rfl ?_
    refine j_ishl dX9_canRide_22 ?_
    obtain ⟨p5, e4, h⟩ := obind_elim h
    refine j_callV MX9_190 YX9_whyNotRun IX9_whyNotRun SX9_whyNotRun (by decide) rfl (by decide) (by omega) (Nat.le_of_ble_eq_true rfl) rfl (ctX9_whyNotRun (d := d - 1) hl (by omega) hx4 hu2 (iShl_inR _ _) e4) dX9_canRide_23 (VK_c 9 349 rfl).1 (VK_c 9 349 rfl).lt (VK_c 9 349 rfl).ka rfl (fun z6 xt7 => ?_)
    by_cases c8 : p5.1 = 0
    · rw [if_pos c8] at h
      refine j_if_ne_f z6 dX9_canRide_26 (tgt := 52) (by decide) (fun q => q c8) ?_
      refine j_aload_n (j := 1) dX9_canRide_29 rfl rfl ?_
      refine j_iload_n (j := 2) dX9_canRide_30 rfl rfl ?_
      refine j_iload_n (j := 3) dX9_canRide_31 rfl rfl ?_
      refine j_iload_n (j := 4) dX9_canRide_32 rfl rfl ?_
      refine j_iload_n (j := 4) dX9_canRide_33 rfl rfl ?_
      refine j_iconst dX9_canRide_34 ?_
      refine j_aload_n (j := 1) dX9_canRide_35 rfl rfl ?_
      refine j_iload (j := 5) dX9_canRide_36 rfl ?_
      obtain ⟨z10, e9, h⟩ := obind_elim h
      refine j_callV MX9_175 YX9_placeOfBoat IX9_placeOfBoat SX9_placeOfBoat (by decide) rfl (by decide) (by omega) (Nat.le_of_ble_eq_true rfl) rfl (ctX9_placeOfBoat (d := d - 1) hl (by omega) hx4 e9) dX9_canRide_38 (VK_c 9 349 rfl).1 (VK_c 9 349 rfl).lt (VK_c 9 349 rfl).ka rfl (fun z11 _ => ?_)
      refine j_isub dX9_canRide_41 ?_
      obtain ⟨z14, e13, h⟩ := obind_elim h
      refine j_callV MX9_168 YX9_whyNot IX9_whyNot SX9_whyNot (by decide) rfl (by decide) (by omega) (Nat.le_of_ble_eq_true rfl) rfl (ctX9_whyNot (d := d - 1) hl (by omega) hx1 hx2 hx3 hx3 (wrap_inR _) e13) dX9_canRide_42 (VK_c 9 349 rfl).1 (VK_c 9 349 rfl).lt (VK_c 9 349 rfl).ka rfl (fun z15 _ => ?_)
      by_cases c17 : z14 = 0
      · rw [if_pos c17] at h
        refine j_if_ne_f z15 dX9_canRide_45 (tgt := 52) (by decide) (fun q => q c17) ?_
        refine j_iconst dX9_canRide_48 ?_
        refine j_goto (tgt := 53) dX9_canRide_49 (by decide) ?_
        cases h
        exact j_iret dX9_canRide_53 rfl ((nar_bool (Or.inr rfl)).1) rfl (Or.inr rfl)
      · rw [if_neg c17] at h
        refine j_if_ne_t z15 dX9_canRide_45 (tgt := 52) (by decide) c17 ?_
        refine j_iconst dX9_canRide_52 ?_
        cases h
        exact j_iret dX9_canRide_53 rfl ((nar_bool (Or.inl rfl)).1) rfl (Or.inl rfl)
    · rw [if_neg c8] at h
      refine j_if_ne_t z6 dX9_canRide_26 (tgt := 52) (by decide) c8 ?_
      refine j_iconst dX9_canRide_52 ?_
      cases h
      exact j_iret dX9_canRide_53 rfl ((nar_bool (Or.inl rfl)).1) rfl (Or.inl rfl)
theorem ctX9_canRide {g : JG} {l : Launch} {d N : Nat} {A : AH} {out : Int × AH} {x1 : Int} {x2 : Int} {x3 : Int} {x4 : Int} (hl : l.stackTraces = false) (hd : 6 ≤ d) (hx1 : inR x1) (hx2 : inR x2) (hx3 : inR x3) (hx4 : inR x4) (h : fX9_canRide N A x1 x2 x3 x4 = some out) : CT g l yX9_canRide cX9_canRide 6 (some .boolean) d [.ref (gB g + 349), vI x1, vI x2, vI x3, vI x4] A ((0, some (vI out.1), out.2) : JO) ((out.1 = 0 ∨ out.1 = 1)) :=
  CT_of (by decide +kernel) hl (by first | exact Nat.le_of_ble_eq_true rfl | (unfold rv; split <;> exact Nat.le_of_ble_eq_true rfl)) (by first | rfl | (unfold rv; split <;> rfl)) (j_sub (lv := [(0, .ref (gB g + 349)), (1, vI x1), (2, vI x2), (3, vI x3), (4, vI x4)]) [0, 1, 2, 3, 4] rfl (tX9_canRide_0 hl hd hx1 hx2 hx3 hx4 h))
set_option maxRecDepth 100000 in
theorem tX9_findsAt_47 {g : JG} {l : Launch} {d N n0 s0 : Nat} {out : Int × AH} {x1 : Int} {x2 : Int} {x3 : Int} {k36 : AH → Int → Option (Int × AH)} (hl : l.stackTraces = false) (hd : 7 ≤ d) (hx1 : inR x1) (hx2 : inR x2) (hx3 : inR x3) (hk36 : ∀ (A : AH) (x3 : Int), inR x3 → k36 A x3 = some out → J g l d RX9 "findsAt" cX9_findsAt 5 (some .boolean) n0 s0 ((0, some (vI out.1), out.2) : JO) ((out.1 = 0 ∨ out.1 = 1)) 36 [(0, .ref (gB g + 349)), (1, vI x1), (2, vI x2), (3, vI x3)] [] A) : ∀ (n : Nat) (A : AH) (x4 : Int), inR x4 → fX9_findsAt_47 N k36 x1 x2 x3 n A x4 = some out → J g l d RX9 "findsAt" cX9_findsAt 5 (some .boolean) n0 s0 ((0, some (vI out.1), out.2) : JO) ((out.1 = 0 ∨ out.1 = 1)) 47 [(0, .ref (gB g + 349)), (1, vI x1), (2, vI x2), (3, vI x3), (4, vI x4)] [] A := by
  intro n
  induction n with
  | zero =>
    intro A x4 hx4 h
    rw [fX9_findsAt_47] at h
    cases h
  | succ n ih =>
    intro A x4 hx4 h
    rw [fX9_findsAt_47] at h
    refine j_iload (j := 4) dX9_findsAt_47 rfl ?_
    refine j_aload_n (j := 0) dX9_findsAt_49 rfl rfl ?_
    refine j_getI FX9_97 rfl dX9_findsAt_50 (VK_c 9 349 rfl).1 (VK_c 9 349 rfl).lt (VK_c 9 349 rfl).ka (fun r1 => ?_)
    by_cases c2 : (gI A 349 21) ≤ x4
    · rw [if_pos c2] at h
      refine j_icmp_ge_t hx4 r1 dX9_findsAt_53 (tgt := 83) (by decide) c2 ?_
      obtain ⟨u3, eu3, h⟩ := bnd_elim h
      have hu3 : inR u3 := by rw [eu3]; exact wrap_inR _
      refine j_iincN (k := 3) (lv' := [(3, vI u3), (0, .ref (gB g + 349)), (1, vI x1), (2, vI x2), (4, vI x4)]) eu3 dX9_findsAt_83 rfl (by decide) (by first | rfl | (simp only [List.all_cons, List.all_nil, rv_cat]; rfl)) rfl ?_
      refine j_goto (tgt := 36) dX9_findsAt_86 (by decide) ?_
      exact j_sub [1, 2, 3, 0] rfl (hk36 A u3 hu3 h)
    · rw [if_neg c2] at h
      refine j_icmp_ge_f hx4 r1 dX9_findsAt_53 (tgt := 83) (by decide) c2 ?_
      refine j_aload_n (j := 0) dX9_findsAt_56 rfl rfl ?_
      refine j_iload_n (j := 1) dX9_findsAt_57 rfl rfl ?_
      refine j_iload_n (j := 3) dX9_findsAt_58 rfl rfl ?_
      refine j_iload_n (j := 2) dX9_findsAt_59 rfl rfl ?_
      refine j_iload (j := 4) dX9_findsAt_60 rfl ?_
      obtain ⟨p5, e4, h⟩ := obind_elim h
      refine j_callV MX9_200 YX9_canRide IX9_canRide SX9_canRide (by decide) rfl (by decide) (by omega) (Nat.le_of_ble_eq_true rfl) rfl (ctX9_canRide (d := d - 1) hl (by omega) hx1 hx3 hx2 hx4 e4) dX9_findsAt_62 (VK_c 9 349 rfl).1 (VK_c 9 349 rfl).lt (VK_c 9 349 rfl).ka rfl (fun z6 xt7 => ?_)
      by_cases c8 : p5.1 = 0
      · rw [if_pos c8] at h
        refine j_if_eq_t (bool_inR z6) dX9_findsAt_65 (tgt := 77) (by decide) c8 ?_
        obtain ⟨u9, eu9, h⟩ := bnd_elim h
        have hu9 : inR u9 := by rw [eu9]; exact wrap_inR _
        refine j_iincN (k := 4) (lv' := [(4, vI u9), (0, .ref (gB g + 349)), (1, vI x1), (2, vI x2), (3, vI x3)]) eu9 dX9_findsAt_77 rfl (by decide) (by first | rfl | (simp only [List.all_cons, List.all_nil, rv_cat]; rfl)) rfl ?_
        refine j_goto (tgt := 47) dX9_findsAt_80 (by decide) ?_
        exact j_sub [1, 2, 3, 4, 0] rfl (ih p5.2 u9 hu9 h)
      · rw [if_neg c8] at h
        refine j_if_eq_f (bool_inR z6) dX9_findsAt_65 (tgt := 77) (by decide) c8 ?_
        refine j_aload_n (j := 0) dX9_findsAt_68 rfl rfl ?_
        refine j_iload_n (j := 2) dX9_findsAt_69 rfl rfl ?_
        refine j_iload_n (j := 3) dX9_findsAt_70 rfl rfl ?_
        refine j_iload (j := 4) dX9_findsAt_71 rfl ?_
        obtain ⟨p11, e10, h⟩ := obind_elim h
        refine j_callV MX9_197 YX9_finds IX9_finds SX9_finds (by decide) rfl (by decide) (by omega) (Nat.le_of_ble_eq_true rfl) rfl (ctX9_finds (d := d - 1) hl (by omega) hx2 hx3 hx4 e10) dX9_findsAt_73 (VK_c 9 349 rfl).1 (VK_c 9 349 rfl).lt (VK_c 9 349 rfl).ka rfl (fun z12 xt13 => ?_)
        cases h
        exact j_iret dX9_findsAt_76 rfl ((nar_bool z12).1) rfl z12
set_option maxRecDepth 100000 in
theorem tX9_findsAt_36 {g : JG} {l : Launch} {d N n0 s0 : Nat} {out : Int × AH} {x1 : Int} {x2 : Int} (hl : l.stackTraces = false) (hd : 7 ≤ d) (hx1 : inR x1) (hx2 : inR x2) : ∀ (n : Nat) (A : AH) (x3 : Int), inR x3 → fX9_findsAt_36 N x1 x2 n A x3 = some out → J g l d RX9 "findsAt" cX9_findsAt 5 (some .boolean) n0 s0 ((0, some (vI out.1), out.2) : JO) ((out.1 = 0 ∨ out.1 = 1)) 36 [(0, .ref (gB g + 349)), (1, vI x1), (2, vI x2), (3, vI x3)] [] A := by
  intro n
  induction n with
  | zero =>
    intro A x3 hx3 h
    rw [fX9_findsAt_36] at h
    cases h
  | succ n ih =>
    intro A x3 hx3 h
    rw [fX9_findsAt_36] at h
    refine j_iload_n (j := 3) dX9_findsAt_36 rfl rfl ?_
    refine j_aload_n (j := 0) dX9_findsAt_37 rfl rfl ?_
    refine j_getI FX9_94 rfl dX9_findsAt_38 (VK_c 9 349 rfl).1 (VK_c 9 349 rfl).lt (VK_c 9 349 rfl).ka (fun r1 => ?_)
    by_cases c2 : (gI A 349 20) ≤ x3
    · rw [if_pos c2] at h
      refine j_icmp_ge_t hx3 r1 dX9_findsAt_41 (tgt := 89) (by decide) c2 ?_
      refine j_iconst dX9_findsAt_89 ?_
      cases h
      exact j_iret dX9_findsAt_90 rfl ((nar_bool (Or.inl rfl)).1) rfl (Or.inl rfl)
    · rw [if_neg c2] at h
      refine j_icmp_ge_f hx3 r1 dX9_findsAt_41 (tgt := 89) (by decide) c2 ?_
      refine j_iconst dX9_findsAt_44 ?_
      refine j_istore (lv' := [(4, vI 0), (0, .ref (gB g + 349)), (1, vI x1), (2, vI x2), (3, vI x3)]) dX9_findsAt_45 (by decide) (by first | rfl | (simp only [List.all_cons, List.all_nil, rv_cat]; rfl)) rfl ?_
      exact j_sub [1, 2, 3, 4, 0] rfl (tX9_findsAt_47 hl (by omega) hx1 hx2 hx3 ih N A 0 (inR_lit _ rfl) h)
set_option maxRecDepth 100000 in
theorem tX9_findsAt_2 {g : JG} {l : Launch} {d N n0 s0 : Nat} {out : Int × AH} {x1 : Int} {x2 : Int} (hl : l.stackTraces = false) (hd : 7 ≤ d) (hx1 : inR x1) (hx2 : inR x2) : ∀ (n : Nat) (A : AH) (x3 : Int), inR x3 → fX9_findsAt_2 N x1 x2 n A x3 = some out → J g l d RX9 "findsAt" cX9_findsAt 5 (some .boolean) n0 s0 ((0, some (vI out.1), out.2) : JO) ((out.1 = 0 ∨ out.1 = 1)) 2 [(0, .ref (gB g + 349)), (1, vI x1), (2, vI x2), (3, vI x3)] [] A := by
  intro n
  induction n with
  | zero =>
    intro A x3 hx3 h
    rw [fX9_findsAt_2] at h
    cases h
  | succ n ih =>
    intro A x3 hx3 h
    rw [fX9_findsAt_2] at h
    refine j_iload_n (j := 3) dX9_findsAt_2 rfl rfl ?_
    refine j_aload_n (j := 0) dX9_findsAt_3 rfl rfl ?_
    refine j_getI FX9_94 rfl dX9_findsAt_4 (VK_c 9 349 rfl).1 (VK_c 9 349 rfl).lt (VK_c 9 349 rfl).ka (fun r1 => ?_)
    by_cases c2 : (gI A 349 20) ≤ x3
    · rw [if_pos c2] at h
      refine j_icmp_ge_t hx3 r1 dX9_findsAt_7 (tgt := 34) (by decide) c2 ?_
      refine j_iconst dX9_findsAt_34 ?_
      refine j_istore_n (lv' := [(3, vI 0), (0, .ref (gB g + 349)), (1, vI x1), (2, vI x2)]) dX9_findsAt_35 rfl (by decide) (by first | rfl | (simp only [List.all_cons, List.all_nil, rv_cat]; rfl)) rfl ?_
      exact j_sub [1, 2, 3, 0] rfl (tX9_findsAt_36 hl (by omega) hx1 hx2  N A 0 (inR_lit _ rfl) h)
    · rw [if_neg c2] at h
      refine j_icmp_ge_f hx3 r1 dX9_findsAt_7 (tgt := 34) (by decide) c2 ?_
      refine j_aload_n (j := 0) dX9_findsAt_10 rfl rfl ?_
      refine j_iload_n (j := 1) dX9_findsAt_11 rfl rfl ?_
      refine j_iload_n (j := 3) dX9_findsAt_12 rfl rfl ?_
      refine j_iload_n (j := 2) dX9_findsAt_13 rfl rfl ?_
      obtain ⟨p4, e3, h⟩ := obind_elim h
      refine j_callV MX9_194 YX9_whyNotTrip IX9_whyNotTrip SX9_whyNotTrip (by decide) rfl (by decide) (by omega) (Nat.le_of_ble_eq_true rfl) rfl (ctX9_whyNotTrip (d := d - 1) hl (by omega) hx1 hx3 hx2 e3) dX9_findsAt_14 (VK_c 9 349 rfl).1 (VK_c 9 349 rfl).lt (VK_c 9 349 rfl).ka rfl (fun z5 xt6 => ?_)
      by_cases c7 : p4.1 = 0
      · rw [if_pos c7] at h
        refine j_if_ne_f z5 dX9_findsAt_17 (tgt := 28) (by decide) (fun q => q c7) ?_
        refine j_aload_n (j := 0) dX9_findsAt_20 rfl rfl ?_
        refine j_iload_n (j := 2) dX9_findsAt_21 rfl rfl ?_
        refine j_iload_n (j := 3) dX9_findsAt_22 rfl rfl ?_
        refine j_iconst dX9_findsAt_23 ?_
        obtain ⟨p10, e9, h⟩ := obind_elim h
        refine j_callV MX9_197 YX9_finds IX9_finds SX9_finds (by decide) rfl (by decide) (by omega) (Nat.le_of_ble_eq_true rfl) rfl (ctX9_finds (d := d - 1) hl (by omega) hx2 hx3 (inR_lit _ rfl) e9) dX9_findsAt_24 (VK_c 9 349 rfl).1 (VK_c 9 349 rfl).lt (VK_c 9 349 rfl).ka rfl (fun z11 xt12 => ?_)
        cases h
        exact j_iret dX9_findsAt_27 rfl ((nar_bool z11).1) rfl z11
      · rw [if_neg c7] at h
        refine j_if_ne_t z5 dX9_findsAt_17 (tgt := 28) (by decide) c7 ?_
        obtain ⟨u8, eu8, h⟩ := bnd_elim h
        have hu8 : inR u8 := by rw [eu8]; exact wrap_inR _
        refine j_iincN (k := 3) (lv' := [(3, vI u8), (0, .ref (gB g + 349)), (1, vI x1), (2, vI x2)]) eu8 dX9_findsAt_28 rfl (by decide) (by first | rfl | (simp only [List.all_cons, List.all_nil, rv_cat]; rfl)) rfl ?_
        refine j_goto (tgt := 2) dX9_findsAt_31 (by decide) ?_
        exact j_sub [1, 2, 3, 0] rfl (ih p4.2 u8 hu8 h)
set_option maxRecDepth 100000 in
theorem tX9_findsAt_0 {g : JG} {l : Launch} {d N n0 s0 : Nat} {out : Int × AH} {A : AH} {x1 : Int} {x2 : Int} (hl : l.stackTraces = false) (hd : 7 ≤ d) (hx1 : inR x1) (hx2 : inR x2) (h : fX9_findsAt N A x1 x2 = some out) : J g l d RX9 "findsAt" cX9_findsAt 5 (some .boolean) n0 s0 ((0, some (vI out.1), out.2) : JO) ((out.1 = 0 ∨ out.1 = 1)) 0 [(0, .ref (gB g + 349)), (1, vI x1), (2, vI x2)] [] A := by
  unfold fX9_findsAt at h
  refine j_iconst dX9_findsAt_0 ?_
  refine j_istore_n (lv' := [(3, vI 0), (0, .ref (gB g + 349)), (1, vI x1), (2, vI x2)]) dX9_findsAt_1 rfl (by decide) (by first | rfl | (simp only [List.all_cons, List.all_nil, rv_cat]; rfl)) rfl ?_
  exact j_sub [1, 2, 3, 0] rfl (tX9_findsAt_2 hl (by omega) hx1 hx2  N A 0 (inR_lit _ rfl) h)
theorem ctX9_findsAt {g : JG} {l : Launch} {d N : Nat} {A : AH} {out : Int × AH} {x1 : Int} {x2 : Int} (hl : l.stackTraces = false) (hd : 7 ≤ d) (hx1 : inR x1) (hx2 : inR x2) (h : fX9_findsAt N A x1 x2 = some out) : CT g l yX9_findsAt cX9_findsAt 5 (some .boolean) d [.ref (gB g + 349), vI x1, vI x2] A ((0, some (vI out.1), out.2) : JO) ((out.1 = 0 ∨ out.1 = 1)) :=
  CT_of (by decide +kernel) hl (by first | exact Nat.le_of_ble_eq_true rfl | (unfold rv; split <;> exact Nat.le_of_ble_eq_true rfl)) (by first | rfl | (unfold rv; split <;> rfl)) (j_sub (lv := [(0, .ref (gB g + 349)), (1, vI x1), (2, vI x2)]) [0, 1, 2] rfl (tX9_findsAt_0 hl hd hx1 hx2 h))
set_option maxRecDepth 100000 in
theorem tX9_canServe_38 {g : JG} {l : Launch} {d N n0 s0 : Nat} {out : Int × AH} {x1 : Int} (hl : l.stackTraces = false) (hd : 8 ≤ d) (hx1 : inR x1) : ∀ (n : Nat) (A : AH) (x2 : Int), inR x2 → fX9_canServe_38 N x1 n A x2 = some out → J g l d RX9 "canServe" cX9_canServe 3 (some .boolean) n0 s0 ((0, some (vI out.1), out.2) : JO) ((out.1 = 0 ∨ out.1 = 1)) 38 [(0, .ref (gB g + 349)), (1, vI x1), (2, vI x2)] [] A := by
  intro n
  induction n with
  | zero =>
    intro A x2 hx2 h
    rw [fX9_canServe_38] at h
    cases h
  | succ n ih =>
    intro A x2 hx2 h
    rw [fX9_canServe_38] at h
    refine j_iload_n (j := 2) dX9_canServe_38 rfl rfl ?_
    refine j_aload_n (j := 0) dX9_canServe_39 rfl rfl ?_
    refine j_getR (q := 356) FX9_28 rfl dX9_canServe_40 (by decide) (by decide) rfl rfl (by decide) ?_
    refine j_iload_n (j := 1) dX9_canServe_43 rfl rfl ?_
    obtain ⟨c1, h⟩ := chk_elim h
    refine j_iald hx1 (by decide) (by decide) rfl dX9_canServe_44 (VK_c 26 356 rfl).1 (VK_c 26 356 rfl).lt (VK_c 26 356 rfl).ka c1 (fun r2 => ?_)
    by_cases c3 : (gI A 356 x1.toNat) < x2
    · rw [if_pos c3] at h
      refine j_icmp_gt_t hx2 r2 dX9_canServe_45 (tgt := 74) (by decide) c3 ?_
      refine j_iconst dX9_canServe_74 ?_
      cases h
      exact j_iret dX9_canServe_75 rfl ((nar_bool (Or.inl rfl)).1) rfl (Or.inl rfl)
    · rw [if_neg c3] at h
      refine j_icmp_gt_f hx2 r2 dX9_canServe_45 (tgt := 74) (by decide) c3 ?_
      refine j_aload_n (j := 0) dX9_canServe_48 rfl rfl ?_
      refine j_iload_n (j := 1) dX9_canServe_49 rfl rfl ?_
      refine j_iload_n (j := 2) dX9_canServe_50 rfl rfl ?_
      obtain ⟨z5, e4, h⟩ := obind_elim h
      refine j_callV MX9_114 YX9_isDeep IX9_isDeep SX9_isDeep (by decide) rfl (by decide) (by omega) (Nat.le_of_ble_eq_true rfl) rfl (ctX9_isDeep (d := d - 1) hl (by omega) hx1 hx2 e4) dX9_canServe_51 (VK_c 9 349 rfl).1 (VK_c 9 349 rfl).lt (VK_c 9 349 rfl).ka rfl (fun z6 _ => ?_)
      by_cases c8 : z5 = 0
      · rw [if_pos c8] at h
        refine j_if_eq_t (bool_inR z6) dX9_canServe_54 (tgt := 68) (by decide) c8 ?_
        obtain ⟨u9, eu9, h⟩ := bnd_elim h
        have hu9 : inR u9 := by rw [eu9]; exact wrap_inR _
        refine j_iincN (k := 2) (lv' := [(2, vI u9), (0, .ref (gB g + 349)), (1, vI x1)]) eu9 dX9_canServe_68 rfl (by decide) (by first | rfl | (simp only [List.all_cons, List.all_nil, rv_cat]; rfl)) rfl ?_
        refine j_goto (tgt := 38) dX9_canServe_71 (by decide) ?_
        exact j_sub [1, 2, 0] rfl (ih A u9 hu9 h)
      · rw [if_neg c8] at h
        refine j_if_eq_f (bool_inR z6) dX9_canServe_54 (tgt := 68) (by decide) c8 ?_
        refine j_aload_n (j := 0) dX9_canServe_57 rfl rfl ?_
        refine j_iload_n (j := 1) dX9_canServe_58 rfl rfl ?_
        refine j_iload_n (j := 2) dX9_canServe_59 rfl rfl ?_
        obtain ⟨p11, e10, h⟩ := obind_elim h
        refine j_callV MX9_204 YX9_findsAt IX9_findsAt SX9_findsAt (by decide) rfl (by decide) (by omega) (Nat.le_of_ble_eq_true rfl) rfl (ctX9_findsAt (d := d - 1) hl (by omega) hx1 hx2 e10) dX9_canServe_60 (VK_c 9 349 rfl).1 (VK_c 9 349 rfl).lt (VK_c 9 349 rfl).ka rfl (fun z12 xt13 => ?_)
        by_cases c14 : p11.1 = 0
        · rw [if_pos c14] at h
          refine j_if_eq_t (bool_inR z12) dX9_canServe_63 (tgt := 68) (by decide) c14 ?_
          obtain ⟨u15, eu15, h⟩ := bnd_elim h
          have hu15 : inR u15 := by rw [eu15]; exact wrap_inR _
          refine j_iincN (k := 2) (lv' := [(2, vI u15), (0, .ref (gB g + 349)), (1, vI x1)]) eu15 dX9_canServe_68 rfl (by decide) (by first | rfl | (simp only [List.all_cons, List.all_nil, rv_cat]; rfl)) rfl ?_
          refine j_goto (tgt := 38) dX9_canServe_71 (by decide) ?_
          exact j_sub [1, 2, 0] rfl (ih p11.2 u15 hu15 h)
        · rw [if_neg c14] at h
          refine j_if_eq_f (bool_inR z12) dX9_canServe_63 (tgt := 68) (by decide) c14 ?_
          refine j_iconst dX9_canServe_66 ?_
          cases h
          exact j_iret dX9_canServe_67 rfl ((nar_bool (Or.inr rfl)).1) rfl (Or.inr rfl)
set_option maxRecDepth 100000 in
theorem tX9_canServe_0 {g : JG} {l : Launch} {d N n0 s0 : Nat} {out : Int × AH} {A : AH} {x1 : Int} (hl : l.stackTraces = false) (hd : 8 ≤ d) (hx1 : inR x1) (h : fX9_canServe N A x1 = some out) : J g l d RX9 "canServe" cX9_canServe 3 (some .boolean) n0 s0 ((0, some (vI out.1), out.2) : JO) ((out.1 = 0 ∨ out.1 = 1)) 0 [(0, .ref (gB g + 349)), (1, vI x1)] [] A := by
  unfold fX9_canServe at h
  refine j_aload_n (j := 0) dX9_canServe_0 rfl rfl ?_
  refine j_getR (q := 357) FX9_31 rfl dX9_canServe_1 (by decide) (by decide) rfl rfl (by decide) ?_
  refine j_iload_n (j := 1) dX9_canServe_4 rfl rfl ?_
  obtain ⟨c1, h⟩ := chk_elim h
  refine j_iald hx1 (by decide) (by decide) rfl dX9_canServe_5 (VK_c 27 357 rfl).1 (VK_c 27 357 rfl).lt (VK_c 27 357 rfl).ka c1 (fun r2 => ?_)
  by_cases c3 : (gI A 357 x1.toNat) = 0
  · rw [if_pos c3] at h
    refine j_if_eq_t r2 dX9_canServe_6 (tgt := 11) (by decide) c3 ?_
    refine j_aload_n (j := 0) dX9_canServe_11 rfl rfl ?_
    refine j_getR (q := 355) FX9_25 rfl dX9_canServe_12 (by decide) (by decide) rfl rfl (by decide) ?_
    refine j_iload_n (j := 1) dX9_canServe_15 rfl rfl ?_
    obtain ⟨c4, h⟩ := chk_elim h
    refine j_iald hx1 (by decide) (by decide) rfl dX9_canServe_16 (VK_c 25 355 rfl).1 (VK_c 25 355 rfl).lt (VK_c 25 355 rfl).ka c4 (fun r5 => ?_)
    refine j_aload_n (j := 0) dX9_canServe_17 rfl rfl ?_
    refine j_getI FX9_155 rfl dX9_canServe_18 (VK_c 9 349 rfl).1 (VK_c 9 349 rfl).lt (VK_c 9 349 rfl).ka (fun r6 => ?_)
    by_cases c7 : (gI A 355 x1.toNat) ≤ (gI A 349 19)
    · rw [if_pos c7] at h
      refine j_icmp_le_t r5 r6 dX9_canServe_21 (tgt := 33) (by decide) c7 ?_
      refine j_aload_n (j := 0) dX9_canServe_33 rfl rfl ?_
      refine j_getI FX9_155 rfl dX9_canServe_34 (VK_c 9 349 rfl).1 (VK_c 9 349 rfl).lt (VK_c 9 349 rfl).ka (fun r8 => ?_)
      obtain ⟨u9, eu9, h⟩ := bnd_elim h
      have hu9 : inR u9 := by rw [eu9]; exact r8
      refine j_nm eu9 ?_
      refine j_istore_n (lv' := [(2, vI u9), (0, .ref (gB g + 349)), (1, vI x1)]) dX9_canServe_37 rfl (by decide) (by first | rfl | (simp only [List.all_cons, List.all_nil, rv_cat]; rfl)) rfl ?_
      exact j_sub [1, 2, 0] rfl (tX9_canServe_38 hl (by omega) hx1  N A u9 hu9 h)
    · rw [if_neg c7] at h
      refine j_icmp_le_f r5 r6 dX9_canServe_21 (tgt := 33) (by decide) c7 ?_
      refine j_aload_n (j := 0) dX9_canServe_24 rfl rfl ?_
      refine j_getR (q := 355) FX9_25 rfl dX9_canServe_25 (by decide) (by decide) rfl rfl (by decide) ?_
      refine j_iload_n (j := 1) dX9_canServe_28 rfl rfl ?_
      obtain ⟨c10, h⟩ := chk_elim h
      refine j_iald hx1 (by decide) (by decide) rfl dX9_canServe_29 (VK_c 25 355 rfl).1 (VK_c 25 355 rfl).lt (VK_c 25 355 rfl).ka c10 (fun r11 => ?_)
      refine j_goto (tgt := 37) dX9_canServe_30 (by decide) ?_
      obtain ⟨u12, eu12, h⟩ := bnd_elim h
      have hu12 : inR u12 := by rw [eu12]; exact r11
      refine j_nm eu12 ?_
      refine j_istore_n (lv' := [(2, vI u12), (0, .ref (gB g + 349)), (1, vI x1)]) dX9_canServe_37 rfl (by decide) (by first | rfl | (simp only [List.all_cons, List.all_nil, rv_cat]; rfl)) rfl ?_
      exact j_sub [1, 2, 0] rfl (tX9_canServe_38 hl (by omega) hx1  N A u12 hu12 h)
  · rw [if_neg c3] at h
    refine j_if_eq_f r2 dX9_canServe_6 (tgt := 11) (by decide) c3 ?_
    refine j_iconst dX9_canServe_9 ?_
    cases h
    exact j_iret dX9_canServe_10 rfl ((nar_bool (Or.inl rfl)).1) rfl (Or.inl rfl)
theorem ctX9_canServe {g : JG} {l : Launch} {d N : Nat} {A : AH} {out : Int × AH} {x1 : Int} (hl : l.stackTraces = false) (hd : 8 ≤ d) (hx1 : inR x1) (h : fX9_canServe N A x1 = some out) : CT g l yX9_canServe cX9_canServe 3 (some .boolean) d [.ref (gB g + 349), vI x1] A ((0, some (vI out.1), out.2) : JO) ((out.1 = 0 ∨ out.1 = 1)) :=
  CT_of (by decide +kernel) hl (by first | exact Nat.le_of_ble_eq_true rfl | (unfold rv; split <;> exact Nat.le_of_ble_eq_true rfl)) (by first | rfl | (unfold rv; split <;> rfl)) (j_sub (lv := [(0, .ref (gB g + 349)), (1, vI x1)]) [0, 1] rfl (tX9_canServe_0 hl hd hx1 h))
set_option maxRecDepth 100000 in
theorem tX9_serves_36 {g : JG} {l : Launch} {d N n0 s0 : Nat} {out : Int × AH} {A : AH} {x1 : Int} {xs0 : Int} (hl : l.stackTraces = false) (hd : 3 ≤ d) (hx1 : inR x1) (hxs0 : inR xs0) (h : fX9_serves_36 N A x1 xs0 = some out) : J g l d RX9 "serves" cX9_serves 3 (some .int) n0 s0 ((0, some (vI out.1), out.2) : JO) (inR out.1) 36 [(0, .ref (gB g + 349)), (1, vI x1)] [vI xs0] A := by
  unfold fX9_serves_36 at h
  refine j_istore_n (lv' := [(2, vI xs0), (0, .ref (gB g + 349)), (1, vI x1)]) dX9_serves_36 rfl (by decide) (by first | rfl | (simp only [List.all_cons, List.all_nil, rv_cat]; rfl)) rfl ?_
  refine j_aload_n (j := 1) dX9_serves_37 rfl rfl ?_
  refine j_iload_n (j := 2) dX9_serves_38 rfl rfl ?_
  refine j_aload_n (j := 1) dX9_serves_39 rfl rfl ?_
  refine j_getI FX9_184 rfl dX9_serves_40 (VK_c 9 349 rfl).1 (VK_c 9 349 rfl).lt (VK_c 9 349 rfl).ka (fun r1 => ?_)
  refine j_aload_n (j := 1) dX9_serves_43 rfl rfl ?_
  refine j_getI FX9_181 rfl dX9_serves_44 (VK_c 9 349 rfl).1 (VK_c 9 349 rfl).lt (VK_c 9 349 rfl).ka (fun r2 => ?_)
  obtain ⟨p4, e3, h⟩ := obind_elim h
  refine j_callV MX9_210 YX9_plans IX9_plans SX9_plans (by decide) rfl (by decide) (by omega) (Nat.le_of_ble_eq_true rfl) rfl (ctX9_plans (d := d - 1) hl (by omega) hx1 r1 r2 e3) dX9_serves_47 (VK_c 9 349 rfl).1 (VK_c 9 349 rfl).lt (VK_c 9 349 rfl).ka rfl (fun z5 xt6 => ?_)
  refine j_iload_n (j := 0) dX9_serves_50 rfl rfl ?_
  refine j_aload_n (j := 1) dX9_serves_51 rfl rfl ?_
  refine j_getI FX9_181 rfl dX9_serves_52 (VK_c 9 349 rfl).1 (VK_c 9 349 rfl).lt (VK_c 9 349 rfl).ka (fun r7 => ?_)
  by_cases c8 : xs0 ≤ (gI p4 349 26)
  · rw [if_pos c8] at h
    refine j_icmp_le_t hxs0 r7 dX9_serves_55 (tgt := 62) (by decide) c8 ?_
    refine j_aload_n (j := 1) dX9_serves_62 rfl rfl ?_
    refine j_getI FX9_181 rfl dX9_serves_63 (VK_c 9 349 rfl).1 (VK_c 9 349 rfl).lt (VK_c 9 349 rfl).ka (fun r9 => ?_)
    cases h
    exact j_iret dX9_serves_66 rfl rfl rfl r9
  · rw [if_neg c8] at h
    refine j_icmp_le_f hxs0 r7 dX9_serves_55 (tgt := 62) (by decide) c8 ?_
    refine j_iload_n (j := 0) dX9_serves_58 rfl rfl ?_
    refine j_goto (tgt := 66) dX9_serves_59 (by decide) ?_
    cases h
    exact j_iret dX9_serves_66 rfl rfl rfl hxs0
set_option maxRecDepth 100000 in
theorem tX9_serves_0 {g : JG} {l : Launch} {d N n0 s0 : Nat} {out : Int × AH} {A : AH} {x1 : Int} (hl : l.stackTraces = false) (hd : 3 ≤ d) (hx1 : inR x1) (h : fX9_serves N A x1 = some out) : J g l d RX9 "serves" cX9_serves 3 (some .int) n0 s0 ((0, some (vI out.1), out.2) : JO) (inR out.1) 0 [(0, .ref (gB g + 349)), (1, vI x1)] [] A := by
  unfold fX9_serves at h
  refine j_aload_n (j := 0) dX9_serves_0 rfl rfl ?_
  refine j_getI FX9_187 rfl dX9_serves_1 (VK_c 9 349 rfl).1 (VK_c 9 349 rfl).lt (VK_c 9 349 rfl).ka (fun r1 => ?_)
  by_cases c2 : 0 ≤ (gI A 349 28)
  · rw [if_pos c2] at h
    refine j_if_ge_t r1 dX9_serves_4 (tgt := 11) (by decide) c2 ?_
    refine j_aload_n (j := 0) dX9_serves_11 rfl rfl ?_
    refine j_aload_n (j := 0) dX9_serves_12 rfl rfl ?_
    refine j_getI FX9_187 rfl dX9_serves_13 (VK_c 9 349 rfl).1 (VK_c 9 349 rfl).lt (VK_c 9 349 rfl).ka (fun r3 => ?_)
    refine j_aload_n (j := 0) dX9_serves_16 rfl rfl ?_
    refine j_getI FX9_181 rfl dX9_serves_17 (VK_c 9 349 rfl).1 (VK_c 9 349 rfl).lt (VK_c 9 349 rfl).ka (fun r4 => ?_)
    refine j_aload_n (j := 0) dX9_serves_20 rfl rfl ?_
    refine j_getR (q := 350) FX9_7 rfl dX9_serves_21 (by decide) (by decide) rfl rfl (by decide) ?_
    refine j_iconst dX9_serves_24 ?_
    refine j_iald (inR_lit _ rfl) (by decide) (by decide) rfl dX9_serves_25 (VK_c 20 350 rfl).1 (VK_c 20 350 rfl).lt (VK_c 20 350 rfl).ka (by decide) (fun r5 => ?_)
    refine j_isub dX9_serves_26 ?_
    refine j_iconst dX9_serves_27 ?_
    refine j_aload_n (j := 0) dX9_serves_28 rfl rfl ?_
    refine j_getI FX9_184 rfl dX9_serves_29 (VK_c 9 349 rfl).1 (VK_c 9 349 rfl).lt (VK_c 9 349 rfl).ka (fun r6 => ?_)
    refine j_ishl dX9_serves_32 ?_
    obtain ⟨p8, e7, h⟩ := obind_elim h
    refine j_callV MX9_207 YX9_goes IX9_goes SX9_goes (by decide) rfl (by decide) (by omega) (Nat.le_of_ble_eq_true rfl) rfl (ctX9_goes (d := d - 1) hl (by omega) r3 (wrap_inR _) (iShl_inR _ _) e7) dX9_serves_33 (VK_c 9 349 rfl).1 (VK_c 9 349 rfl).lt (VK_c 9 349 rfl).ka rfl (fun z9 xt10 => ?_)
    exact j_sub [0, 1] rfl (tX9_serves_36 hl (by omega) hx1 z9  h)
  · rw [if_neg c2] at h
    refine j_if_ge_f r1 dX9_serves_4 (tgt := 11) (by decide) c2 ?_
    refine j_iconst dX9_serves_7 ?_
    refine j_goto (tgt := 36) dX9_serves_8 (by decide) ?_
    exact j_sub [0, 1] rfl (tX9_serves_36 hl (by omega) hx1 (inR_lit _ rfl)  h)
theorem ctX9_serves {g : JG} {l : Launch} {d N : Nat} {A : AH} {out : Int × AH} {x1 : Int} (hl : l.stackTraces = false) (hd : 3 ≤ d) (hx1 : inR x1) (h : fX9_serves N A x1 = some out) : CT g l yX9_serves cX9_serves 3 (some .int) d [.ref (gB g + 349), vI x1] A ((0, some (vI out.1), out.2) : JO) (inR out.1) :=
  CT_of (by decide +kernel) hl (by first | exact Nat.le_of_ble_eq_true rfl | (unfold rv; split <;> exact Nat.le_of_ble_eq_true rfl)) (by first | rfl | (unfold rv; split <;> rfl)) (j_sub (lv := [(0, .ref (gB g + 349)), (1, vI x1)]) [0, 1] rfl (tX9_serves_0 hl hd hx1 h))
set_option maxRecDepth 100000 in
theorem tX9_makesRoom_12 {g : JG} {l : Launch} {d N n0 s0 : Nat} {out : AH} (hl : l.stackTraces = false) (hd : 1 ≤ d) : ∀ (n : Nat) (A : AH) (x1 : Int), inR x1 → fX9_makesRoom_12 N n A x1 = some out → J g l d RX9 "makesRoom" cX9_makesRoom 2 none n0 s0 ((0, none, out) : JO) (True) 12 [(0, .ref (gB g + 349)), (1, vI x1)] [] A := by
  intro n
  induction n with
  | zero =>
    intro A x1 hx1 h
    rw [fX9_makesRoom_12] at h
    cases h
  | succ n ih =>
    intro A x1 hx1 h
    rw [fX9_makesRoom_12] at h
    refine j_iload_n (j := 1) dX9_makesRoom_12 rfl rfl ?_
    refine j_sipush dX9_makesRoom_13 rfl ?_
    by_cases c1 : 20272 ≤ x1
    · rw [if_pos c1] at h
      refine j_icmp_ge_t hx1 (inR_lit _ rfl) dX9_makesRoom_16 (tgt := 41) (by decide) c1 ?_
      refine j_aload_n (j := 0) dX9_makesRoom_41 rfl rfl ?_
      refine j_dup dX9_makesRoom_42 rfl ?_
      refine j_getI FX9_322 rfl dX9_makesRoom_43 (VK_c 9 349 rfl).1 (VK_c 9 349 rfl).lt (VK_c 9 349 rfl).ka (fun r2 => ?_)
      refine j_iconst dX9_makesRoom_46 ?_
      refine j_isub dX9_makesRoom_47 ?_
      obtain ⟨A3, eA3, h⟩ := bnd_elim h
      have xA3 : XT A A3 := by rw [eA3]; exact XT_sI _ _ _ _
      refine j_putI FX9_322 rfl rfl rfl (wrap_inR _) dX9_makesRoom_48 (VK_c 9 349 rfl).1 (VK_c 9 349 rfl).lt (VK_c 9 349 rfl).ka ?_
      refine j_hB eA3 ?_
      cases h
      exact j_vret dX9_makesRoom_51 rfl rfl trivial
    · rw [if_neg c1] at h
      refine j_icmp_ge_f hx1 (inR_lit _ rfl) dX9_makesRoom_16 (tgt := 41) (by decide) c1 ?_
      refine j_aload_n (j := 0) dX9_makesRoom_19 rfl rfl ?_
      refine j_getR (q := 371) FX9_78 rfl dX9_makesRoom_20 (by decide) (by decide) rfl rfl (by decide) ?_
      refine j_iload_n (j := 1) dX9_makesRoom_23 rfl rfl ?_
      refine j_aload_n (j := 0) dX9_makesRoom_24 rfl rfl ?_
      refine j_getR (q := 371) FX9_78 rfl dX9_makesRoom_25 (by decide) (by decide) rfl rfl (by decide) ?_
      refine j_iload_n (j := 1) dX9_makesRoom_28 rfl rfl ?_
      refine j_sipush dX9_makesRoom_29 rfl ?_
      refine j_iadd dX9_makesRoom_32 ?_
      obtain ⟨c4, h⟩ := chk_elim h
      refine j_iald (wrap_inR _) (by decide) (by decide) rfl dX9_makesRoom_33 (VK_c 41 371 rfl).1 (VK_c 41 371 rfl).lt (VK_c 41 371 rfl).ka c4 (fun r5 => ?_)
      obtain ⟨c6, h⟩ := chk_elim h
      obtain ⟨A7, eA7, h⟩ := bnd_elim h
      have xA7 : XT A A7 := by rw [eA7]; exact XT_sI _ _ _ _
      refine j_iast hx1 r5 (by decide) (by decide) rfl dX9_makesRoom_34 (VK_c 41 371 rfl).1 (VK_c 41 371 rfl).lt (VK_c 41 371 rfl).ka c6 ?_
      refine j_hB eA7 ?_
      obtain ⟨u8, eu8, h⟩ := bnd_elim h
      have hu8 : inR u8 := by rw [eu8]; exact wrap_inR _
      refine j_iincN (k := 1) (lv' := [(1, vI u8), (0, .ref (gB g + 349))]) eu8 dX9_makesRoom_35 rfl (by decide) (by first | rfl | (simp only [List.all_cons, List.all_nil, rv_cat]; rfl)) rfl ?_
      refine j_goto (tgt := 12) dX9_makesRoom_38 (by decide) ?_
      exact j_sub [1, 0] rfl (ih A7 u8 hu8 h)
set_option maxRecDepth 100000 in
theorem tX9_makesRoom_0 {g : JG} {l : Launch} {d N n0 s0 : Nat} {out : AH} {A : AH} (hl : l.stackTraces = false) (hd : 1 ≤ d) (h : fX9_makesRoom N A  = some out) : J g l d RX9 "makesRoom" cX9_makesRoom 2 none n0 s0 ((0, none, out) : JO) (True) 0 [(0, .ref (gB g + 349))] [] A := by
  unfold fX9_makesRoom at h
  refine j_aload_n (j := 0) dX9_makesRoom_0 rfl rfl ?_
  refine j_getI FX9_322 rfl dX9_makesRoom_1 (VK_c 9 349 rfl).1 (VK_c 9 349 rfl).lt (VK_c 9 349 rfl).ka (fun r1 => ?_)
  refine j_bipush dX9_makesRoom_4 rfl ?_
  by_cases c2 : 8 ≤ (gI A 349 41)
  · rw [if_pos c2] at h
    refine j_icmp_ge_t r1 (inR_lit _ rfl) dX9_makesRoom_6 (tgt := 10) (by decide) c2 ?_
    refine j_iconst dX9_makesRoom_10 ?_
    refine j_istore_n (lv' := [(1, vI 0), (0, .ref (gB g + 349))]) dX9_makesRoom_11 rfl (by decide) (by first | rfl | (simp only [List.all_cons, List.all_nil, rv_cat]; rfl)) rfl ?_
    exact j_sub [1, 0] rfl (tX9_makesRoom_12 hl (by omega)   N A 0 (inR_lit _ rfl) h)
  · rw [if_neg c2] at h
    refine j_icmp_ge_f r1 (inR_lit _ rfl) dX9_makesRoom_6 (tgt := 10) (by decide) c2 ?_
    cases h
    exact j_vret dX9_makesRoom_9 rfl rfl trivial
theorem ctX9_makesRoom {g : JG} {l : Launch} {d N : Nat} {A : AH} {out : AH} (hl : l.stackTraces = false) (hd : 1 ≤ d) (h : fX9_makesRoom N A  = some out) : CT g l yX9_makesRoom cX9_makesRoom 2 none d [.ref (gB g + 349)] A ((0, none, out) : JO) (True) :=
  CT_of (by decide +kernel) hl (by first | exact Nat.le_of_ble_eq_true rfl | (unfold rv; split <;> exact Nat.le_of_ble_eq_true rfl)) (by first | rfl | (unfold rv; split <;> rfl)) (j_sub (lv := [(0, .ref (gB g + 349))]) [0] rfl (tX9_makesRoom_0 hl hd  h))
set_option maxRecDepth 100000 in
theorem tX9_moves_36 {g : JG} {l : Launch} {d N n0 s0 : Nat} {out : AH} {A : AH} {y1 : Nat} {y2 : Nat} {x3 : Int} {k2 : AH → Int → Option (AH)} (hl : l.stackTraces = false) (hd : 1 ≤ d) (hy1 : VI y1) (hy2 : VI y2) (hx3 : inR x3) (hk2 : ∀ (A : AH) (x3 : Int), inR x3 → k2 A x3 = some out → J g l d RX9 "moves" cX9_moves 4 none n0 s0 ((0, none, out) : JO) (True) 2 [(0, .ref (gB g + 349)), (1, .ref (gB g + y1)), (2, .ref (gB g + y2)), (3, vI x3)] [] A) (h : fX9_moves_36 N k2 A y1 y2 x3 = some out) : J g l d RX9 "moves" cX9_moves 4 none n0 s0 ((0, none, out) : JO) (True) 36 [(0, .ref (gB g + 349)), (1, .ref (gB g + y1)), (2, .ref (gB g + y2)), (3, vI x3)] [] A := by
  unfold fX9_moves_36 at h
  refine j_aload_n (j := 0) dX9_moves_36 rfl rfl ?_
  refine j_dup dX9_moves_37 rfl ?_
  refine j_getI FX9_381 rfl dX9_moves_38 (VK_c 9 349 rfl).1 (VK_c 9 349 rfl).lt (VK_c 9 349 rfl).ka (fun r1 => ?_)
  refine j_iconst dX9_moves_41 ?_
  refine j_iadd dX9_moves_42 ?_
  obtain ⟨A2, eA2, h⟩ := bnd_elim h
  have xA2 : XT A A2 := by rw [eA2]; exact XT_sI _ _ _ _
  refine j_putI FX9_381 rfl rfl rfl (wrap_inR _) dX9_moves_43 (VK_c 9 349 rfl).1 (VK_c 9 349 rfl).lt (VK_c 9 349 rfl).ka ?_
  refine j_hB eA2 ?_
  obtain ⟨u3, eu3, h⟩ := bnd_elim h
  have hu3 : inR u3 := by rw [eu3]; exact wrap_inR _
  refine j_iincN (k := 3) (lv' := [(3, vI u3), (0, .ref (gB g + 349)), (1, .ref (gB g + y1)), (2, .ref (gB g + y2))]) eu3 dX9_moves_46 rfl (by decide) (by first | rfl | (simp only [List.all_cons, List.all_nil, rv_cat]; rfl)) rfl ?_
  refine j_goto (tgt := 2) dX9_moves_49 (by decide) ?_
  exact j_sub [1, 2, 3, 0] rfl (hk2 A2 u3 hu3 h)
set_option maxRecDepth 100000 in
theorem tX9_moves_2 {g : JG} {l : Launch} {d N n0 s0 : Nat} {out : AH} {y1 : Nat} {y2 : Nat} (hl : l.stackTraces = false) (hd : 1 ≤ d) (hy1 : VI y1) (hy2 : VI y2) : ∀ (n : Nat) (A : AH) (x3 : Int), inR x3 → fX9_moves_2 N y1 y2 n A x3 = some out → J g l d RX9 "moves" cX9_moves 4 none n0 s0 ((0, none, out) : JO) (True) 2 [(0, .ref (gB g + 349)), (1, .ref (gB g + y1)), (2, .ref (gB g + y2)), (3, vI x3)] [] A := by
  intro n
  induction n with
  | zero =>
    intro A x3 hx3 h
    rw [fX9_moves_2] at h
    cases h
  | succ n ih =>
    intro A x3 hx3 h
    rw [fX9_moves_2] at h
    refine j_iload_n (j := 3) dX9_moves_2 rfl rfl ?_
    refine j_aload_n (j := 1) dX9_moves_3 rfl rfl ?_
    refine j_alen hy1.2.2.1 hy1.2.2.2.1 (by rw [hy1.2.2.2.2]; decide) dX9_moves_4 hy1.1 hy1.lt hy1.ka ?_
    by_cases c1 : (jal (kd y1) : Int) ≤ x3
    · rw [if_pos c1] at h
      refine j_icmp_ge_t hx3 (jal_inR _) dX9_moves_5 (tgt := 52) (by decide) c1 ?_
      cases h
      exact j_vret dX9_moves_52 rfl rfl trivial
    · rw [if_neg c1] at h
      refine j_icmp_ge_f hx3 (jal_inR _) dX9_moves_5 (tgt := 52) (by decide) c1 ?_
      refine j_aload_n (j := 0) dX9_moves_8 rfl rfl ?_
      refine j_getI FX9_378 rfl dX9_moves_9 (VK_c 9 349 rfl).1 (VK_c 9 349 rfl).lt (VK_c 9 349 rfl).ka (fun r2 => ?_)
      by_cases c3 : (gI A 349 44) = 0
      · rw [if_pos c3] at h
        refine j_if_eq_t r2 dX9_moves_12 (tgt := 27) (by decide) c3 ?_
        refine j_aload_n (j := 1) dX9_moves_27 rfl rfl ?_
        refine j_iload_n (j := 3) dX9_moves_28 rfl rfl ?_
        refine j_aload_n (j := 2) dX9_moves_29 rfl rfl ?_
        refine j_aload_n (j := 0) dX9_moves_30 rfl rfl ?_
        refine j_getI FX9_381 rfl dX9_moves_31 (VK_c 9 349 rfl).1 (VK_c 9 349 rfl).lt (VK_c 9 349 rfl).ka (fun r4 => ?_)
        obtain ⟨c5, h⟩ := chk_elim h
        refine j_iald r4 hy2.2.2.1 hy2.2.2.2.1 hy2.2.2.2.2 dX9_moves_34 hy2.1 hy2.lt hy2.ka c5 (fun r6 => ?_)
        obtain ⟨c7, h⟩ := chk_elim h
        obtain ⟨A8, eA8, h⟩ := bnd_elim h
        have xA8 : XT A A8 := by rw [eA8]; exact XT_sI _ _ _ _
        refine j_iast hx3 r6 hy1.2.2.1 hy1.2.2.2.1 hy1.2.2.2.2 dX9_moves_35 hy1.1 hy1.lt hy1.ka c7 ?_
        refine j_hB eA8 ?_
        exact j_sub [0, 1, 2, 3] rfl (tX9_moves_36 hl (by omega) hy1 hy2 hx3 ih h)
      · rw [if_neg c3] at h
        refine j_if_eq_f r2 dX9_moves_12 (tgt := 27) (by decide) c3 ?_
        refine j_aload_n (j := 2) dX9_moves_15 rfl rfl ?_
        refine j_aload_n (j := 0) dX9_moves_16 rfl rfl ?_
        refine j_getI FX9_381 rfl dX9_moves_17 (VK_c 9 349 rfl).1 (VK_c 9 349 rfl).lt (VK_c 9 349 rfl).ka (fun r9 => ?_)
        refine j_aload_n (j := 1) dX9_moves_20 rfl rfl ?_
        refine j_iload_n (j := 3) dX9_moves_21 rfl rfl ?_
        obtain ⟨c10, h⟩ := chk_elim h
        refine j_iald hx3 hy1.2.2.1 hy1.2.2.2.1 hy1.2.2.2.2 dX9_moves_22 hy1.1 hy1.lt hy1.ka c10 (fun r11 => ?_)
        obtain ⟨c12, h⟩ := chk_elim h
        obtain ⟨A13, eA13, h⟩ := bnd_elim h
        have xA13 : XT A A13 := by rw [eA13]; exact XT_sI _ _ _ _
        refine j_iast r9 r11 hy2.2.2.1 hy2.2.2.2.1 hy2.2.2.2.2 dX9_moves_23 hy2.1 hy2.lt hy2.ka c12 ?_
        refine j_hB eA13 ?_
        refine j_goto (tgt := 36) dX9_moves_24 (by decide) ?_
        exact j_sub [0, 1, 2, 3] rfl (tX9_moves_36 hl (by omega) hy1 hy2 hx3 ih h)
set_option maxRecDepth 100000 in
theorem tX9_moves_0 {g : JG} {l : Launch} {d N n0 s0 : Nat} {out : AH} {A : AH} {y1 : Nat} {y2 : Nat} (hl : l.stackTraces = false) (hd : 1 ≤ d) (hy1 : VI y1) (hy2 : VI y2) (h : fX9_moves N A y1 y2 = some out) : J g l d RX9 "moves" cX9_moves 4 none n0 s0 ((0, none, out) : JO) (True) 0 [(0, .ref (gB g + 349)), (1, .ref (gB g + y1)), (2, .ref (gB g + y2))] [] A := by
  unfold fX9_moves at h
  refine j_iconst dX9_moves_0 ?_
  refine j_istore_n (lv' := [(3, vI 0), (0, .ref (gB g + 349)), (1, .ref (gB g + y1)), (2, .ref (gB g + y2))]) dX9_moves_1 rfl (by decide) (by first | rfl | (simp only [List.all_cons, List.all_nil, rv_cat]; rfl)) rfl ?_
  exact j_sub [1, 2, 3, 0] rfl (tX9_moves_2 hl (by omega) hy1 hy2  N A 0 (inR_lit _ rfl) h)
theorem ctX9_moves {g : JG} {l : Launch} {d N : Nat} {A : AH} {out : AH} {y1 : Nat} {y2 : Nat} (hl : l.stackTraces = false) (hd : 1 ≤ d) (hy1 : VI y1) (hy2 : VI y2) (h : fX9_moves N A y1 y2 = some out) : CT g l yX9_moves cX9_moves 4 none d [.ref (gB g + 349), .ref (gB g + y1), .ref (gB g + y2)] A ((0, none, out) : JO) (True) :=
  CT_of (by decide +kernel) hl (by first | exact Nat.le_of_ble_eq_true rfl | (unfold rv; split <;> exact Nat.le_of_ble_eq_true rfl)) (by first | rfl | (unfold rv; split <;> rfl)) (j_sub (lv := [(0, .ref (gB g + 349)), (1, .ref (gB g + y1)), (2, .ref (gB g + y2))]) [0, 1, 2] rfl (tX9_moves_0 hl hd hy1 hy2 h))
set_option maxRecDepth 100000 in
theorem tX9_move_17 {g : JG} {l : Launch} {d N n0 s0 : Nat} {out : Int × AH} {A : AH} {y2 : Nat} {xs0 : Int} (hl : l.stackTraces = false) (hd : 1 ≤ d) (hy2 : VI y2) (hxs0 : inR xs0) (h : fX9_move_17 N A y2 xs0 = some out) : J g l d RX9 "move" cX9_move 4 (some .int) n0 s0 ((0, some (vI out.1), out.2) : JO) (inR out.1) 17 [(0, .ref (gB g + 349)), (2, .ref (gB g + y2))] [vI xs0] A := by
  unfold fX9_move_17 at h
  refine j_istore_n (lv' := [(3, vI xs0), (0, .ref (gB g + 349)), (2, .ref (gB g + y2))]) dX9_move_17 rfl (by decide) (by first | rfl | (simp only [List.all_cons, List.all_nil, rv_cat]; rfl)) rfl ?_
  refine j_aload_n (j := 2) dX9_move_18 rfl rfl ?_
  refine j_aload_n (j := 1) dX9_move_19 rfl rfl ?_
  refine j_getI FX9_381 rfl dX9_move_20 (VK_c 9 349 rfl).1 (VK_c 9 349 rfl).lt (VK_c 9 349 rfl).ka (fun r1 => ?_)
  refine j_iload_n (j := 0) dX9_move_23 rfl rfl ?_
  obtain ⟨c2, h⟩ := chk_elim h
  obtain ⟨A3, eA3, h⟩ := bnd_elim h
  have xA3 : XT A A3 := by rw [eA3]; exact XT_sI _ _ _ _
  refine j_iast r1 hxs0 hy2.2.2.1 hy2.2.2.2.1 hy2.2.2.2.2 dX9_move_24 hy2.1 hy2.lt hy2.ka c2 ?_
  refine j_hB eA3 ?_
  refine j_aload_n (j := 1) dX9_move_25 rfl rfl ?_
  refine j_dup dX9_move_26 rfl ?_
  refine j_getI FX9_381 rfl dX9_move_27 (VK_c 9 349 rfl).1 (VK_c 9 349 rfl).lt (VK_c 9 349 rfl).ka (fun r4 => ?_)
  refine j_iconst dX9_move_30 ?_
  refine j_iadd dX9_move_31 ?_
  obtain ⟨A5, eA5, h⟩ := bnd_elim h
  have xA5 : XT A3 A5 := by rw [eA5]; exact XT_sI _ _ _ _
  refine j_putI FX9_381 rfl rfl rfl (wrap_inR _) dX9_move_32 (VK_c 9 349 rfl).1 (VK_c 9 349 rfl).lt (VK_c 9 349 rfl).ka ?_
  refine j_hB eA5 ?_
  refine j_iload_n (j := 0) dX9_move_35 rfl rfl ?_
  cases h
  exact j_iret dX9_move_36 rfl rfl rfl hxs0
set_option maxRecDepth 100000 in
theorem tX9_move_0 {g : JG} {l : Launch} {d N n0 s0 : Nat} {out : Int × AH} {A : AH} {x1 : Int} {y2 : Nat} (hl : l.stackTraces = false) (hd : 1 ≤ d) (hx1 : inR x1) (hy2 : VI y2) (h : fX9_move N A x1 y2 = some out) : J g l d RX9 "move" cX9_move 4 (some .int) n0 s0 ((0, some (vI out.1), out.2) : JO) (inR out.1) 0 [(0, .ref (gB g + 349)), (1, vI x1), (2, .ref (gB g + y2))] [] A := by
  unfold fX9_move at h
  refine j_aload_n (j := 0) dX9_move_0 rfl rfl ?_
  refine j_getI FX9_378 rfl dX9_move_1 (VK_c 9 349 rfl).1 (VK_c 9 349 rfl).lt (VK_c 9 349 rfl).ka (fun r1 => ?_)
  by_cases c2 : (gI A 349 44) = 0
  · rw [if_pos c2] at h
    refine j_if_eq_t r1 dX9_move_4 (tgt := 11) (by decide) c2 ?_
    refine j_aload_n (j := 2) dX9_move_11 rfl rfl ?_
    refine j_aload_n (j := 0) dX9_move_12 rfl rfl ?_
    refine j_getI FX9_381 rfl dX9_move_13 (VK_c 9 349 rfl).1 (VK_c 9 349 rfl).lt (VK_c 9 349 rfl).ka (fun r3 => ?_)
    obtain ⟨c4, h⟩ := chk_elim h
    refine j_iald r3 hy2.2.2.1 hy2.2.2.2.1 hy2.2.2.2.2 dX9_move_16 hy2.1 hy2.lt hy2.ka c4 (fun r5 => ?_)
    exact j_sub [0, 2] rfl (tX9_move_17 hl (by omega) hy2 r5  h)
  · rw [if_neg c2] at h
    refine j_if_eq_f r1 dX9_move_4 (tgt := 11) (by decide) c2 ?_
    refine j_iload_n (j := 1) dX9_move_7 rfl rfl ?_
    refine j_goto (tgt := 17) dX9_move_8 (by decide) ?_
    exact j_sub [0, 2] rfl (tX9_move_17 hl (by omega) hy2 hx1  h)
theorem ctX9_move {g : JG} {l : Launch} {d N : Nat} {A : AH} {out : Int × AH} {x1 : Int} {y2 : Nat} (hl : l.stackTraces = false) (hd : 1 ≤ d) (hx1 : inR x1) (hy2 : VI y2) (h : fX9_move N A x1 y2 = some out) : CT g l yX9_move cX9_move 4 (some .int) d [.ref (gB g + 349), vI x1, .ref (gB g + y2)] A ((0, some (vI out.1), out.2) : JO) (inR out.1) :=
  CT_of (by decide +kernel) hl (by first | exact Nat.le_of_ble_eq_true rfl | (unfold rv; split <;> exact Nat.le_of_ble_eq_true rfl)) (by first | rfl | (unfold rv; split <;> rfl)) (j_sub (lv := [(0, .ref (gB g + 349)), (1, vI x1), (2, .ref (gB g + y2))]) [0, 1, 2] rfl (tX9_move_0 hl hd hx1 hy2 h))
set_option maxRecDepth 100000 in
theorem tX9_passAll_0 {g : JG} {l : Launch} {d N n0 s0 : Nat} {out : AH} {A : AH} {y1 : Nat} {x2 : Int} {x3 : Int} (hl : l.stackTraces = false) (hd : 2 ≤ d) (hy1 : VI y1) (hx2 : inR x2) (hx3 : x3 = 0 ∨ x3 = 1) (h : fX9_passAll N A y1 x2 x3 = some out) : J g l d RX9 "passAll" cX9_passAll 4 none n0 s0 ((0, none, out) : JO) (True) 0 [(0, .ref (gB g + 349)), (1, .ref (gB g + y1)), (2, vI x2), (3, vI x3)] [] A := by
  unfold fX9_passAll at h
  refine j_aload_n (j := 0) dX9_passAll_0 rfl rfl ?_
  refine j_iload_n (j := 3) dX9_passAll_1 rfl rfl ?_
  obtain ⟨A1, eA1, h⟩ := bnd_elim h
  have xA1 : XT A A1 := by rw [eA1]; exact XT_sI _ _ _ _
  refine j_putB FX9_378 rfl rfl rfl hx3 dX9_passAll_2 (VK_c 9 349 rfl).1 (VK_c 9 349 rfl).lt (VK_c 9 349 rfl).ka ?_
  refine j_hB eA1 ?_
  refine j_aload_n (j := 0) dX9_passAll_5 rfl rfl ?_
  refine j_iload_n (j := 2) dX9_passAll_6 rfl rfl ?_
  obtain ⟨A2, eA2, h⟩ := bnd_elim h
  have xA2 : XT A1 A2 := by rw [eA2]; exact XT_sI _ _ _ _
  refine j_putI FX9_381 rfl rfl rfl hx2 dX9_passAll_7 (VK_c 9 349 rfl).1 (VK_c 9 349 rfl).lt (VK_c 9 349 rfl).ka ?_
  refine j_hB eA2 ?_
  refine j_aload_n (j := 0) dX9_passAll_10 rfl rfl ?_
  refine j_aload_n (j := 0) dX9_passAll_11 rfl rfl ?_
  refine j_getR (q := 350) FX9_7 rfl dX9_passAll_12 (by decide) (by decide) rfl rfl (by decide) ?_
  refine j_aload_n (j := 1) dX9_passAll_15 rfl rfl ?_
  obtain ⟨p4, e3, h⟩ := obind_elim h
  refine j_callV MX9_384 YX9_moves IX9_moves SX9_moves (by decide) rfl (by decide) (by omega) (Nat.le_of_ble_eq_true rfl) rfl (ctX9_moves (d := d - 1) hl (by omega) ((VK_c 20 350 rfl).vi (by decide) (by decide) rfl) hy1 e3) dX9_passAll_16 (VK_c 9 349 rfl).1 (VK_c 9 349 rfl).lt (VK_c 9 349 rfl).ka rfl (fun z5 xt6 => ?_)
  refine j_aload_n (j := 0) dX9_passAll_19 rfl rfl ?_
  refine j_aload_n (j := 0) dX9_passAll_20 rfl rfl ?_
  refine j_getR (q := 351) FX9_13 rfl dX9_passAll_21 (by decide) (by decide) rfl rfl (by decide) ?_
  refine j_aload_n (j := 1) dX9_passAll_24 rfl rfl ?_
  obtain ⟨p8, e7, h⟩ := obind_elim h
  refine j_callV MX9_384 YX9_moves IX9_moves SX9_moves (by decide) rfl (by decide) (by omega) (Nat.le_of_ble_eq_true rfl) rfl (ctX9_moves (d := d - 1) hl (by omega) ((VK_c 21 351 rfl).vi (by decide) (by decide) rfl) hy1 e7) dX9_passAll_25 (VK_c 9 349 rfl).1 (VK_c 9 349 rfl).lt (VK_c 9 349 rfl).ka rfl (fun z9 xt10 => ?_)
  refine j_aload_n (j := 0) dX9_passAll_28 rfl rfl ?_
  refine j_aload_n (j := 0) dX9_passAll_29 rfl rfl ?_
  refine j_getR (q := 352) FX9_16 rfl dX9_passAll_30 (by decide) (by decide) rfl rfl (by decide) ?_
  refine j_aload_n (j := 1) dX9_passAll_33 rfl rfl ?_
  obtain ⟨p12, e11, h⟩ := obind_elim h
  refine j_callV MX9_384 YX9_moves IX9_moves SX9_moves (by decide) rfl (by decide) (by omega) (Nat.le_of_ble_eq_true rfl) rfl (ctX9_moves (d := d - 1) hl (by omega) ((VK_c 22 352 rfl).vi (by decide) (by decide) rfl) hy1 e11) dX9_passAll_34 (VK_c 9 349 rfl).1 (VK_c 9 349 rfl).lt (VK_c 9 349 rfl).ka rfl (fun z13 xt14 => ?_)
  refine j_aload_n (j := 0) dX9_passAll_37 rfl rfl ?_
  refine j_aload_n (j := 0) dX9_passAll_38 rfl rfl ?_
  refine j_getR (q := 353) FX9_19 rfl dX9_passAll_39 (by decide) (by decide) rfl rfl (by decide) ?_
  refine j_aload_n (j := 1) dX9_passAll_42 rfl rfl ?_
  obtain ⟨p16, e15, h⟩ := obind_elim h
  refine j_callV MX9_384 YX9_moves IX9_moves SX9_moves (by decide) rfl (by decide) (by omega) (Nat.le_of_ble_eq_true rfl) rfl (ctX9_moves (d := d - 1) hl (by omega) ((VK_c 23 353 rfl).vi (by decide) (by decide) rfl) hy1 e15) dX9_passAll_43 (VK_c 9 349 rfl).1 (VK_c 9 349 rfl).lt (VK_c 9 349 rfl).ka rfl (fun z17 xt18 => ?_)
  refine j_aload_n (j := 0) dX9_passAll_46 rfl rfl ?_
  refine j_aload_n (j := 0) dX9_passAll_47 rfl rfl ?_
  refine j_getR (q := 354) FX9_22 rfl dX9_passAll_48 (by decide) (by decide) rfl rfl (by decide) ?_
  refine j_aload_n (j := 1) dX9_passAll_51 rfl rfl ?_
  obtain ⟨p20, e19, h⟩ := obind_elim h
  refine j_callV MX9_384 YX9_moves IX9_moves SX9_moves (by decide) rfl (by decide) (by omega) (Nat.le_of_ble_eq_true rfl) rfl (ctX9_moves (d := d - 1) hl (by omega) ((VK_c 24 354 rfl).vi (by decide) (by decide) rfl) hy1 e19) dX9_passAll_52 (VK_c 9 349 rfl).1 (VK_c 9 349 rfl).lt (VK_c 9 349 rfl).ka rfl (fun z21 xt22 => ?_)
  refine j_aload_n (j := 0) dX9_passAll_55 rfl rfl ?_
  refine j_aload_n (j := 0) dX9_passAll_56 rfl rfl ?_
  refine j_getR (q := 355) FX9_25 rfl dX9_passAll_57 (by decide) (by decide) rfl rfl (by decide) ?_
  refine j_aload_n (j := 1) dX9_passAll_60 rfl rfl ?_
  obtain ⟨p24, e23, h⟩ := obind_elim h
  refine j_callV MX9_384 YX9_moves IX9_moves SX9_moves (by decide) rfl (by decide) (by omega) (Nat.le_of_ble_eq_true rfl) rfl (ctX9_moves (d := d - 1) hl (by omega) ((VK_c 25 355 rfl).vi (by decide) (by decide) rfl) hy1 e23) dX9_passAll_61 (VK_c 9 349 rfl).1 (VK_c 9 349 rfl).lt (VK_c 9 349 rfl).ka rfl (fun z25 xt26 => ?_)
  refine j_aload_n (j := 0) dX9_passAll_64 rfl rfl ?_
  refine j_aload_n (j := 0) dX9_passAll_65 rfl rfl ?_
  refine j_getR (q := 356) FX9_28 rfl dX9_passAll_66 (by decide) (by decide) rfl rfl (by decide) ?_
  refine j_aload_n (j := 1) dX9_passAll_69 rfl rfl ?_
  obtain ⟨p28, e27, h⟩ := obind_elim h
  refine j_callV MX9_384 YX9_moves IX9_moves SX9_moves (by decide) rfl (by decide) (by omega) (Nat.le_of_ble_eq_true rfl) rfl (ctX9_moves (d := d - 1) hl (by omega) ((VK_c 26 356 rfl).vi (by decide) (by decide) rfl) hy1 e27) dX9_passAll_70 (VK_c 9 349 rfl).1 (VK_c 9 349 rfl).lt (VK_c 9 349 rfl).ka rfl (fun z29 xt30 => ?_)
  refine j_aload_n (j := 0) dX9_passAll_73 rfl rfl ?_
  refine j_aload_n (j := 0) dX9_passAll_74 rfl rfl ?_
  refine j_getR (q := 357) FX9_31 rfl dX9_passAll_75 (by decide) (by decide) rfl rfl (by decide) ?_
  refine j_aload_n (j := 1) dX9_passAll_78 rfl rfl ?_
  obtain ⟨p32, e31, h⟩ := obind_elim h
  refine j_callV MX9_384 YX9_moves IX9_moves SX9_moves (by decide) rfl (by decide) (by omega) (Nat.le_of_ble_eq_true rfl) rfl (ctX9_moves (d := d - 1) hl (by omega) ((VK_c 27 357 rfl).vi (by decide) (by decide) rfl) hy1 e31) dX9_passAll_79 (VK_c 9 349 rfl).1 (VK_c 9 349 rfl).lt (VK_c 9 349 rfl).ka rfl (fun z33 xt34 => ?_)
  refine j_aload_n (j := 0) dX9_passAll_82 rfl rfl ?_
  refine j_aload_n (j := 0) dX9_passAll_83 rfl rfl ?_
  refine j_getR (q := 358) FX9_34 rfl dX9_passAll_84 (by decide) (by decide) rfl rfl (by decide) ?_
  refine j_aload_n (j := 1) dX9_passAll_87 rfl rfl ?_
  obtain ⟨p36, e35, h⟩ := obind_elim h
  refine j_callV MX9_384 YX9_moves IX9_moves SX9_moves (by decide) rfl (by decide) (by omega) (Nat.le_of_ble_eq_true rfl) rfl (ctX9_moves (d := d - 1) hl (by omega) ((VK_c 28 358 rfl).vi (by decide) (by decide) rfl) hy1 e35) dX9_passAll_88 (VK_c 9 349 rfl).1 (VK_c 9 349 rfl).lt (VK_c 9 349 rfl).ka rfl (fun z37 xt38 => ?_)
  refine j_aload_n (j := 0) dX9_passAll_91 rfl rfl ?_
  refine j_aload_n (j := 0) dX9_passAll_92 rfl rfl ?_
  refine j_getR (q := 359) FX9_37 rfl dX9_passAll_93 (by decide) (by decide) rfl rfl (by decide) ?_
  refine j_aload_n (j := 1) dX9_passAll_96 rfl rfl ?_
  obtain ⟨p40, e39, h⟩ := obind_elim h
  refine j_callV MX9_384 YX9_moves IX9_moves SX9_moves (by decide) rfl (by decide) (by omega) (Nat.le_of_ble_eq_true rfl) rfl (ctX9_moves (d := d - 1) hl (by omega) ((VK_c 29 359 rfl).vi (by decide) (by decide) rfl) hy1 e39) dX9_passAll_97 (VK_c 9 349 rfl).1 (VK_c 9 349 rfl).lt (VK_c 9 349 rfl).ka rfl (fun z41 xt42 => ?_)
  refine j_aload_n (j := 0) dX9_passAll_100 rfl rfl ?_
  refine j_aload_n (j := 0) dX9_passAll_101 rfl rfl ?_
  refine j_getR (q := 360) FX9_40 rfl dX9_passAll_102 (by decide) (by decide) rfl rfl (by decide) ?_
  refine j_aload_n (j := 1) dX9_passAll_105 rfl rfl ?_
  obtain ⟨p44, e43, h⟩ := obind_elim h
  refine j_callV MX9_384 YX9_moves IX9_moves SX9_moves (by decide) rfl (by decide) (by omega) (Nat.le_of_ble_eq_true rfl) rfl (ctX9_moves (d := d - 1) hl (by omega) ((VK_c 30 360 rfl).vi (by decide) (by decide) rfl) hy1 e43) dX9_passAll_106 (VK_c 9 349 rfl).1 (VK_c 9 349 rfl).lt (VK_c 9 349 rfl).ka rfl (fun z45 xt46 => ?_)
  refine j_aload_n (j := 0) dX9_passAll_109 rfl rfl ?_
  refine j_aload_n (j := 0) dX9_passAll_110 rfl rfl ?_
  refine j_getR (q := 361) FX9_43 rfl dX9_passAll_111 (by decide) (by decide) rfl rfl (by decide) ?_
  refine j_aload_n (j := 1) dX9_passAll_114 rfl rfl ?_
  obtain ⟨p48, e47, h⟩ := obind_elim h
  refine j_callV MX9_384 YX9_moves IX9_moves SX9_moves (by decide) rfl (by decide) (by omega) (Nat.le_of_ble_eq_true rfl) rfl (ctX9_moves (d := d - 1) hl (by omega) ((VK_c 31 361 rfl).vi (by decide) (by decide) rfl) hy1 e47) dX9_passAll_115 (VK_c 9 349 rfl).1 (VK_c 9 349 rfl).lt (VK_c 9 349 rfl).ka rfl (fun z49 xt50 => ?_)
  refine j_aload_n (j := 0) dX9_passAll_118 rfl rfl ?_
  refine j_aload_n (j := 0) dX9_passAll_119 rfl rfl ?_
  refine j_getR (q := 362) FX9_46 rfl dX9_passAll_120 (by decide) (by decide) rfl rfl (by decide) ?_
  refine j_aload_n (j := 1) dX9_passAll_123 rfl rfl ?_
  obtain ⟨p52, e51, h⟩ := obind_elim h
  refine j_callV MX9_384 YX9_moves IX9_moves SX9_moves (by decide) rfl (by decide) (by omega) (Nat.le_of_ble_eq_true rfl) rfl (ctX9_moves (d := d - 1) hl (by omega) ((VK_c 32 362 rfl).vi (by decide) (by decide) rfl) hy1 e51) dX9_passAll_124 (VK_c 9 349 rfl).1 (VK_c 9 349 rfl).lt (VK_c 9 349 rfl).ka rfl (fun z53 xt54 => ?_)
  refine j_aload_n (j := 0) dX9_passAll_127 rfl rfl ?_
  refine j_aload_n (j := 0) dX9_passAll_128 rfl rfl ?_
  refine j_getR (q := 363) FX9_49 rfl dX9_passAll_129 (by decide) (by decide) rfl rfl (by decide) ?_
  refine j_aload_n (j := 1) dX9_passAll_132 rfl rfl ?_
  obtain ⟨p56, e55, h⟩ := obind_elim h
  refine j_callV MX9_384 YX9_moves IX9_moves SX9_moves (by decide) rfl (by decide) (by omega) (Nat.le_of_ble_eq_true rfl) rfl (ctX9_moves (d := d - 1) hl (by omega) ((VK_c 33 363 rfl).vi (by decide) (by decide) rfl) hy1 e55) dX9_passAll_133 (VK_c 9 349 rfl).1 (VK_c 9 349 rfl).lt (VK_c 9 349 rfl).ka rfl (fun z57 xt58 => ?_)
  refine j_aload_n (j := 0) dX9_passAll_136 rfl rfl ?_
  refine j_aload_n (j := 0) dX9_passAll_137 rfl rfl ?_
  refine j_getR (q := 364) FX9_52 rfl dX9_passAll_138 (by decide) (by decide) rfl rfl (by decide) ?_
  refine j_aload_n (j := 1) dX9_passAll_141 rfl rfl ?_
  obtain ⟨p60, e59, h⟩ := obind_elim h
  refine j_callV MX9_384 YX9_moves IX9_moves SX9_moves (by decide) rfl (by decide) (by omega) (Nat.le_of_ble_eq_true rfl) rfl (ctX9_moves (d := d - 1) hl (by omega) ((VK_c 34 364 rfl).vi (by decide) (by decide) rfl) hy1 e59) dX9_passAll_142 (VK_c 9 349 rfl).1 (VK_c 9 349 rfl).lt (VK_c 9 349 rfl).ka rfl (fun z61 xt62 => ?_)
  refine j_aload_n (j := 0) dX9_passAll_145 rfl rfl ?_
  refine j_aload_n (j := 0) dX9_passAll_146 rfl rfl ?_
  refine j_getR (q := 365) FX9_55 rfl dX9_passAll_147 (by decide) (by decide) rfl rfl (by decide) ?_
  refine j_aload_n (j := 1) dX9_passAll_150 rfl rfl ?_
  obtain ⟨p64, e63, h⟩ := obind_elim h
  refine j_callV MX9_384 YX9_moves IX9_moves SX9_moves (by decide) rfl (by decide) (by omega) (Nat.le_of_ble_eq_true rfl) rfl (ctX9_moves (d := d - 1) hl (by omega) ((VK_c 35 365 rfl).vi (by decide) (by decide) rfl) hy1 e63) dX9_passAll_151 (VK_c 9 349 rfl).1 (VK_c 9 349 rfl).lt (VK_c 9 349 rfl).ka rfl (fun z65 xt66 => ?_)
  refine j_aload_n (j := 0) dX9_passAll_154 rfl rfl ?_
  refine j_aload_n (j := 0) dX9_passAll_155 rfl rfl ?_
  refine j_getR (q := 366) FX9_58 rfl dX9_passAll_156 (by decide) (by decide) rfl rfl (by decide) ?_
  refine j_aload_n (j := 1) dX9_passAll_159 rfl rfl ?_
  obtain ⟨p68, e67, h⟩ := obind_elim h
  refine j_callV MX9_384 YX9_moves IX9_moves SX9_moves (by decide) rfl (by decide) (by omega) (Nat.le_of_ble_eq_true rfl) rfl (ctX9_moves (d := d - 1) hl (by omega) ((VK_c 36 366 rfl).vi (by decide) (by decide) rfl) hy1 e67) dX9_passAll_160 (VK_c 9 349 rfl).1 (VK_c 9 349 rfl).lt (VK_c 9 349 rfl).ka rfl (fun z69 xt70 => ?_)
  refine j_aload_n (j := 0) dX9_passAll_163 rfl rfl ?_
  refine j_aload_n (j := 0) dX9_passAll_164 rfl rfl ?_
  refine j_getR (q := 367) FX9_61 rfl dX9_passAll_165 (by decide) (by decide) rfl rfl (by decide) ?_
  refine j_aload_n (j := 1) dX9_passAll_168 rfl rfl ?_
  obtain ⟨p72, e71, h⟩ := obind_elim h
  refine j_callV MX9_384 YX9_moves IX9_moves SX9_moves (by decide) rfl (by decide) (by omega) (Nat.le_of_ble_eq_true rfl) rfl (ctX9_moves (d := d - 1) hl (by omega) ((VK_c 37 367 rfl).vi (by decide) (by decide) rfl) hy1 e71) dX9_passAll_169 (VK_c 9 349 rfl).1 (VK_c 9 349 rfl).lt (VK_c 9 349 rfl).ka rfl (fun z73 xt74 => ?_)
  refine j_aload_n (j := 0) dX9_passAll_172 rfl rfl ?_
  refine j_aload_n (j := 0) dX9_passAll_173 rfl rfl ?_
  refine j_aload_n (j := 0) dX9_passAll_174 rfl rfl ?_
  refine j_getI FX9_155 rfl dX9_passAll_175 (VK_c 9 349 rfl).1 (VK_c 9 349 rfl).lt (VK_c 9 349 rfl).ka (fun r75 => ?_)
  refine j_aload_n (j := 1) dX9_passAll_178 rfl rfl ?_
  obtain ⟨p77, e76, h⟩ := obind_elim h
  refine j_callV MX9_388 YX9_move IX9_move SX9_move (by decide) rfl (by decide) (by omega) (Nat.le_of_ble_eq_true rfl) rfl (ctX9_move (d := d - 1) hl (by omega) r75 hy1 e76) dX9_passAll_179 (VK_c 9 349 rfl).1 (VK_c 9 349 rfl).lt (VK_c 9 349 rfl).ka rfl (fun z78 xt79 => ?_)
  obtain ⟨A80, eA80, h⟩ := bnd_elim h
  have xA80 : XT p77.2 A80 := by rw [eA80]; exact XT_sI _ _ _ _
  refine j_putI FX9_155 rfl rfl rfl z78 dX9_passAll_182 (VK_c 9 349 rfl).1 (VK_c 9 349 rfl).lt (VK_c 9 349 rfl).ka ?_
  refine j_hB eA80 ?_
  refine j_aload_n (j := 0) dX9_passAll_185 rfl rfl ?_
  refine j_aload_n (j := 0) dX9_passAll_186 rfl rfl ?_
  refine j_aload_n (j := 0) dX9_passAll_187 rfl rfl ?_
  refine j_getI FX9_94 rfl dX9_passAll_188 (VK_c 9 349 rfl).1 (VK_c 9 349 rfl).lt (VK_c 9 349 rfl).ka (fun r81 => ?_)
  refine j_aload_n (j := 1) dX9_passAll_191 rfl rfl ?_
  obtain ⟨p83, e82, h⟩ := obind_elim h
  refine j_callV MX9_388 YX9_move IX9_move SX9_move (by decide) rfl (by decide) (by omega) (Nat.le_of_ble_eq_true rfl) rfl (ctX9_move (d := d - 1) hl (by omega) r81 hy1 e82) dX9_passAll_192 (VK_c 9 349 rfl).1 (VK_c 9 349 rfl).lt (VK_c 9 349 rfl).ka rfl (fun z84 xt85 => ?_)
  obtain ⟨A86, eA86, h⟩ := bnd_elim h
  have xA86 : XT p83.2 A86 := by rw [eA86]; exact XT_sI _ _ _ _
  refine j_putI FX9_94 rfl rfl rfl z84 dX9_passAll_195 (VK_c 9 349 rfl).1 (VK_c 9 349 rfl).lt (VK_c 9 349 rfl).ka ?_
  refine j_hB eA86 ?_
  refine j_aload_n (j := 0) dX9_passAll_198 rfl rfl ?_
  refine j_aload_n (j := 0) dX9_passAll_199 rfl rfl ?_
  refine j_aload_n (j := 0) dX9_passAll_200 rfl rfl ?_
  refine j_getI FX9_97 rfl dX9_passAll_201 (VK_c 9 349 rfl).1 (VK_c 9 349 rfl).lt (VK_c 9 349 rfl).ka (fun r87 => ?_)
  refine j_aload_n (j := 1) dX9_passAll_204 rfl rfl ?_
  obtain ⟨p89, e88, h⟩ := obind_elim h
  refine j_callV MX9_388 YX9_move IX9_move SX9_move (by decide) rfl (by decide) (by omega) (Nat.le_of_ble_eq_true rfl) rfl (ctX9_move (d := d - 1) hl (by omega) r87 hy1 e88) dX9_passAll_205 (VK_c 9 349 rfl).1 (VK_c 9 349 rfl).lt (VK_c 9 349 rfl).ka rfl (fun z90 xt91 => ?_)
  obtain ⟨A92, eA92, h⟩ := bnd_elim h
  have xA92 : XT p89.2 A92 := by rw [eA92]; exact XT_sI _ _ _ _
  refine j_putI FX9_97 rfl rfl rfl z90 dX9_passAll_208 (VK_c 9 349 rfl).1 (VK_c 9 349 rfl).lt (VK_c 9 349 rfl).ka ?_
  refine j_hB eA92 ?_
  refine j_aload_n (j := 0) dX9_passAll_211 rfl rfl ?_
  refine j_aload_n (j := 0) dX9_passAll_212 rfl rfl ?_
  refine j_aload_n (j := 0) dX9_passAll_213 rfl rfl ?_
  refine j_getI FX9_100 rfl dX9_passAll_214 (VK_c 9 349 rfl).1 (VK_c 9 349 rfl).lt (VK_c 9 349 rfl).ka (fun r93 => ?_)
  refine j_aload_n (j := 1) dX9_passAll_217 rfl rfl ?_
  obtain ⟨p95, e94, h⟩ := obind_elim h
  refine j_callV MX9_388 YX9_move IX9_move SX9_move (by decide) rfl (by decide) (by omega) (Nat.le_of_ble_eq_true rfl) rfl (ctX9_move (d := d - 1) hl (by omega) r93 hy1 e94) dX9_passAll_218 (VK_c 9 349 rfl).1 (VK_c 9 349 rfl).lt (VK_c 9 349 rfl).ka rfl (fun z96 xt97 => ?_)
  obtain ⟨A98, eA98, h⟩ := bnd_elim h
  have xA98 : XT p95.2 A98 := by rw [eA98]; exact XT_sI _ _ _ _
  refine j_putI FX9_100 rfl rfl rfl z96 dX9_passAll_221 (VK_c 9 349 rfl).1 (VK_c 9 349 rfl).lt (VK_c 9 349 rfl).ka ?_
  refine j_hB eA98 ?_
  refine j_aload_n (j := 0) dX9_passAll_224 rfl rfl ?_
  refine j_aload_n (j := 0) dX9_passAll_225 rfl rfl ?_
  refine j_aload_n (j := 0) dX9_passAll_226 rfl rfl ?_
  refine j_getI FX9_137 rfl dX9_passAll_227 (VK_c 9 349 rfl).1 (VK_c 9 349 rfl).lt (VK_c 9 349 rfl).ka (fun r99 => ?_)
  refine j_aload_n (j := 1) dX9_passAll_230 rfl rfl ?_
  obtain ⟨p101, e100, h⟩ := obind_elim h
  refine j_callV MX9_388 YX9_move IX9_move SX9_move (by decide) rfl (by decide) (by omega) (Nat.le_of_ble_eq_true rfl) rfl (ctX9_move (d := d - 1) hl (by omega) r99 hy1 e100) dX9_passAll_231 (VK_c 9 349 rfl).1 (VK_c 9 349 rfl).lt (VK_c 9 349 rfl).ka rfl (fun z102 xt103 => ?_)
  obtain ⟨A104, eA104, h⟩ := bnd_elim h
  have xA104 : XT p101.2 A104 := by rw [eA104]; exact XT_sI _ _ _ _
  refine j_putI FX9_137 rfl rfl rfl z102 dX9_passAll_234 (VK_c 9 349 rfl).1 (VK_c 9 349 rfl).lt (VK_c 9 349 rfl).ka ?_
  refine j_hB eA104 ?_
  cases h
  exact j_vret dX9_passAll_237 rfl rfl trivial
