theorem ctX8_serve {g : JG} {l : Launch} {d N : Nat} {A : AH} {out : Nat × Int × AH} {x1 : Int} (hl : l.stackTraces = false) (hd : 8 ≤ d) (hx1 : inR x1) (h : fX8_serve N A x1 = some out) : CT g l yX8_serve cX8_serve 2 (some .int) d [.ref (gB g + 1), vI x1] A ((out.1, jv out.1 out.2.1, out.2.2) : JO) (inR out.2.1) :=
  CT_of (by decide +kernel) hl (by first | exact Nat.le_of_ble_eq_true rfl | (unfold rv; split <;> exact Nat.le_of_ble_eq_true rfl)) (by first | rfl | (unfold rv; split <;> rfl)) (j_sub (lv := [(0, .ref (gB g + 1)), (1, vI x1)]) [0, 1] rfl (tX8_serve_0 hl hd hx1 h))
set_option maxRecDepth 100000 in
theorem tX8_serveAll_27 {g : JG} {l : Launch} {d N n0 s0 : Nat} {out : Int × AH} {x1 : Int} (hl : l.stackTraces = false) (hd : 6 ≤ d) (hx1 : inR x1) : ∀ (n : Nat) (A : AH) (x2 : Int) (x3 : Int), inR x2 → inR x3 → fX8_serveAll_27 N x1 n A x2 x3 = some out → J g l d RX8 "serveAll" cX8_serveAll 4 (some .int) n0 s0 ((0, some (vI out.1), out.2) : JO) (inR out.1) 27 [(0, .ref (gB g + 1)), (1, vI x1), (2, vI x2), (3, vI x3)] [] A := by
  intro n
  induction n with
  | zero =>
    intro A x2 x3 hx2 hx3 h
    rw [fX8_serveAll_27] at h
    cases h
  | succ n ih =>
    intro A x2 x3 hx2 hx3 h
    rw [fX8_serveAll_27] at h
    refine j_iload_n (j := 3) dX8_serveAll_27 rfl rfl ?_
    refine j_iload_n (j := 1) dX8_serveAll_28 rfl rfl ?_
    by_cases c1 : x1 ≤ x3
    · rw [if_pos c1] at h
      refine j_icmp_ge_t hx3 hx1 dX8_serveAll_29 (tgt := 78) (by decide) c1 ?_
      refine j_iload_n (j := 2) dX8_serveAll_78 rfl rfl ?_
      cases h
      exact j_iret dX8_serveAll_79 rfl rfl rfl hx2
    · rw [if_neg c1] at h
      refine j_icmp_ge_f hx3 hx1 dX8_serveAll_29 (tgt := 78) (by decide) c1 ?_
      refine j_aload_n (j := 0) dX8_serveAll_32 rfl rfl ?_
      refine j_getR (q := 2) FX8_10 rfl dX8_serveAll_33 (by decide) (by decide) rfl rfl (by decide) ?_
      refine j_aload_n (j := 0) dX8_serveAll_36 rfl rfl ?_
      refine j_getR (q := 348) FX8_40 rfl dX8_serveAll_37 (by decide) (by decide) rfl rfl (by decide) ?_
      refine j_iload_n (j := 3) dX8_serveAll_40 rfl rfl ?_
      obtain ⟨c2, h⟩ := chk_elim h
      refine j_iald hx3 (by decide) (by decide) rfl dX8_serveAll_41 (VK_c 18 348 rfl).1 (VK_c 18 348 rfl).lt (VK_c 18 348 rfl).ka c2 (fun r3 => ?_)
      refine j_aload_n (j := 0) dX8_serveAll_42 rfl rfl ?_
      refine j_getR (q := 347) FX8_36 rfl dX8_serveAll_43 (by decide) (by decide) rfl rfl (by decide) ?_
      obtain ⟨p5, e4, h⟩ := obind_elim h
      refine j_callV MX8_229 YX5_reasonAgainstServing IX5_reasonAgainstServing SX5_reasonAgainstServing (by decide) rfl (by decide) (by omega) (Nat.le_of_ble_eq_true rfl) rfl (ctX5_reasonAgainstServing (d := d - 1) hl (by omega) (VK_c 5 2 rfl) r3 e4) dX8_serveAll_46 (VK_c 5 2 rfl).1 (VK_c 5 2 rfl).lt (VK_c 5 2 rfl).ka rfl (fun z6 xt7 => ?_)
      by_cases c8 : p5.1 = 0
      · rw [if_pos c8] at h
        refine j_if_ne_f z6 dX8_serveAll_49 (tgt := 72) (by decide) (fun q => q c8) ?_
        refine j_aload_n (j := 0) dX8_serveAll_52 rfl rfl ?_
        refine j_getR (q := 2) FX8_10 rfl dX8_serveAll_53 (by decide) (by decide) rfl rfl (by decide) ?_
        refine j_aload_n (j := 0) dX8_serveAll_56 rfl rfl ?_
        refine j_getR (q := 348) FX8_40 rfl dX8_serveAll_57 (by decide) (by decide) rfl rfl (by decide) ?_
        refine j_iload_n (j := 3) dX8_serveAll_60 rfl rfl ?_
        obtain ⟨c10, h⟩ := chk_elim h
        refine j_iald hx3 (by decide) (by decide) rfl dX8_serveAll_61 (VK_c 18 348 rfl).1 (VK_c 18 348 rfl).lt (VK_c 18 348 rfl).ka c10 (fun r11 => ?_)
        refine j_aload_n (j := 0) dX8_serveAll_62 rfl rfl ?_
        refine j_getR (q := 347) FX8_36 rfl dX8_serveAll_63 (by decide) (by decide) rfl rfl (by decide) ?_
        obtain ⟨p13, e12, h⟩ := obind_elim h
        refine j_callV MX8_242 YX5_take IX5_take SX5_take (by decide) rfl (by decide) (by omega) (Nat.le_of_ble_eq_true rfl) rfl (ctX5_take (d := d - 1) hl (by omega) (VK_c 5 2 rfl) r11 e12) dX8_serveAll_66 (VK_c 5 2 rfl).1 (VK_c 5 2 rfl).lt (VK_c 5 2 rfl).ka rfl (fun z14 xt15 => ?_)
        obtain ⟨u16, eu16, h⟩ := bnd_elim h
        have hu16 : inR u16 := by rw [eu16]; exact wrap_inR _
        refine j_iincN (k := 2) (lv' := [(2, vI u16), (0, .ref (gB g + 1)), (1, vI x1), (3, vI x3)]) eu16 dX8_serveAll_69 rfl (by decide) (by first | rfl | (simp only [List.all_cons, List.all_nil, rv_cat]; rfl)) rfl ?_
        obtain ⟨u17, eu17, h⟩ := bnd_elim h
        have hu17 : inR u17 := by rw [eu17]; exact wrap_inR _
        refine j_iincN (k := 3) (lv' := [(3, vI u17), (2, vI u16), (0, .ref (gB g + 1)), (1, vI x1)]) eu17 dX8_serveAll_72 rfl (by decide) (by first | rfl | (simp only [List.all_cons, List.all_nil, rv_cat]; rfl)) rfl ?_
        refine j_goto (tgt := 27) dX8_serveAll_75 (by decide) ?_
        exact j_sub [2, 3, 1, 0] rfl (ih p13 u16 u17 hu16 hu17 h)
      · rw [if_neg c8] at h
        refine j_if_ne_t z6 dX8_serveAll_49 (tgt := 72) (by decide) c8 ?_
        obtain ⟨u9, eu9, h⟩ := bnd_elim h
        have hu9 : inR u9 := by rw [eu9]; exact wrap_inR _
        refine j_iincN (k := 3) (lv' := [(3, vI u9), (0, .ref (gB g + 1)), (1, vI x1), (2, vI x2)]) eu9 dX8_serveAll_72 rfl (by decide) (by first | rfl | (simp only [List.all_cons, List.all_nil, rv_cat]; rfl)) rfl ?_
        refine j_goto (tgt := 27) dX8_serveAll_75 (by decide) ?_
        exact j_sub [1, 2, 3, 0] rfl (ih p5.2 x2 u9 hx2 hu9 h)
set_option maxRecDepth 100000 in
theorem tX8_serveAll_0 {g : JG} {l : Launch} {d N n0 s0 : Nat} {out : Int × AH} {A : AH} (hl : l.stackTraces = false) (hd : 6 ≤ d) (h : fX8_serveAll N A  = some out) : J g l d RX8 "serveAll" cX8_serveAll 4 (some .int) n0 s0 ((0, some (vI out.1), out.2) : JO) (inR out.1) 0 [(0, .ref (gB g + 1))] [] A := by
  unfold fX8_serveAll at h
  refine j_aload_n (j := 0) dX8_serveAll_0 rfl rfl ?_
  refine j_getR (q := 64) FX8_22 rfl dX8_serveAll_1 (by decide) (by decide) rfl rfl (by decide) ?_
  refine j_aload_n (j := 0) dX8_serveAll_4 rfl rfl ?_
  refine j_getR (q := 2) FX8_10 rfl dX8_serveAll_5 (by decide) (by decide) rfl rfl (by decide) ?_
  obtain ⟨p2, e1, h⟩ := obind_elim h
  refine j_callV MX8_66 YX1_add IX1_add SX1_add (by decide) rfl (by decide) (by omega) (Nat.le_of_ble_eq_true rfl) rfl (ctX1_add (d := d - 1) hl (by omega) (VK_c 5 2 rfl) e1) dX8_serveAll_8 (VK_c 1 64 rfl).1 (VK_c 1 64 rfl).lt (VK_c 1 64 rfl).ka rfl (fun z3 xt4 => ?_)
  refine j_aload_n (j := 0) dX8_serveAll_11 rfl rfl ?_
  refine j_getR (q := 2) FX8_10 rfl dX8_serveAll_12 (by decide) (by decide) rfl rfl (by decide) ?_
  refine j_aload_n (j := 0) dX8_serveAll_15 rfl rfl ?_
  refine j_getR (q := 348) FX8_40 rfl dX8_serveAll_16 (by decide) (by decide) rfl rfl (by decide) ?_
  obtain ⟨p6, e5, h⟩ := obind_elim h
  refine j_callV MX8_246 YX5_lineUp IX5_lineUp SX5_lineUp (by decide) rfl (by decide) (by omega) (Nat.le_of_ble_eq_true rfl) rfl (ctX5_lineUp (d := d - 1) hl (by omega) (VK_c 5 2 rfl) ((VK_c 18 348 rfl).vi (by decide) (by decide) rfl) e5) dX8_serveAll_19 (VK_c 5 2 rfl).1 (VK_c 5 2 rfl).lt (VK_c 5 2 rfl).ka rfl (fun z7 xt8 => ?_)
  refine j_istore_n (lv' := [(1, vI p6.1), (0, .ref (gB g + 1))]) dX8_serveAll_22 rfl (by decide) (by first | rfl | (simp only [List.all_cons, List.all_nil, rv_cat]; rfl)) rfl ?_
  refine j_iconst dX8_serveAll_23 ?_
  refine j_istore_n (lv' := [(2, vI 0), (1, vI p6.1), (0, .ref (gB g + 1))]) dX8_serveAll_24 rfl (by decide) (by first | rfl | (simp only [List.all_cons, List.all_nil, rv_cat]; rfl)) rfl ?_
  refine j_iconst dX8_serveAll_25 ?_
  refine j_istore_n (lv' := [(3, vI 0), (2, vI 0), (1, vI p6.1), (0, .ref (gB g + 1))]) dX8_serveAll_26 rfl (by decide) (by first | rfl | (simp only [List.all_cons, List.all_nil, rv_cat]; rfl)) rfl ?_
  exact j_sub [3, 2, 1, 0] rfl (tX8_serveAll_27 hl (by omega) z7  N p6.2 0 0 (inR_lit _ rfl) (inR_lit _ rfl) h)
theorem ctX8_serveAll {g : JG} {l : Launch} {d N : Nat} {A : AH} {out : Int × AH} (hl : l.stackTraces = false) (hd : 6 ≤ d) (h : fX8_serveAll N A  = some out) : CT g l yX8_serveAll cX8_serveAll 4 (some .int) d [.ref (gB g + 1)] A ((0, some (vI out.1), out.2) : JO) (inR out.1) :=
  CT_of (by decide +kernel) hl (by first | exact Nat.le_of_ble_eq_true rfl | (unfold rv; split <;> exact Nat.le_of_ble_eq_true rfl)) (by first | rfl | (unfold rv; split <;> rfl)) (j_sub (lv := [(0, .ref (gB g + 1))]) [0] rfl (tX8_serveAll_0 hl hd  h))
set_option maxRecDepth 100000 in
theorem tX8_release_0 {g : JG} {l : Launch} {d N n0 s0 : Nat} {out : Nat × Int × AH} {A : AH} {x1 : Int} (hl : l.stackTraces = false) (hd : 8 ≤ d) (hx1 : inR x1) (h : fX8_release N A x1 = some out) : J g l d RX8 "release" cX8_release 3 (some .int) n0 s0 ((out.1, jv out.1 out.2.1, out.2.2) : JO) (inR out.2.1) 0 [(0, .ref (gB g + 1)), (1, vI x1)] [] A := by
  unfold fX8_release at h
  refine j_aload_n (j := 0) dX8_release_0 rfl rfl ?_
  refine j_iload_n (j := 1) dX8_release_1 rfl rfl ?_
  obtain ⟨p2, e1, h⟩ := obind_elim h
  have t6 := ctX8_requireOrder (d := d - 1) hl (by omega) hx1 e1 (g := g)
  by_cases c5 : p2.1 = 0
  rotate_left
  · rw [if_neg c5] at h
    cases h
    exact j_callVx MX8_126 YX8_requireOrder IX8_requireOrder SX8_requireOrder (by decide) rfl (by decide) (by omega) (Nat.le_of_ble_eq_true rfl) rfl t6 dX8_release_2 (VK_c 8 1 rfl).1 (VK_c 8 1 rfl).lt (VK_c 8 1 rfl).ka rfl c5 rfl inR_0
  rw [if_pos c5] at h
  rw [c5] at t6
  refine j_callV MX8_126 YX8_requireOrder IX8_requireOrder SX8_requireOrder (by decide) rfl (by decide) (by omega) (Nat.le_of_ble_eq_true rfl) rfl t6 dX8_release_2 (VK_c 8 1 rfl).1 (VK_c 8 1 rfl).lt (VK_c 8 1 rfl).ka rfl (fun z3 xt4 => ?_)
  refine j_aload_n (j := 0) dX8_release_5 rfl rfl ?_
  refine j_aload_n (j := 0) dX8_release_6 rfl rfl ?_
  refine j_getR (q := 2) FX8_10 rfl dX8_release_7 (by decide) (by decide) rfl rfl (by decide) ?_
  refine j_iload_n (j := 1) dX8_release_10 rfl rfl ?_
  obtain ⟨z8, e7, h⟩ := obind_elim h
  refine j_callV MX8_250 YX5_reasonAgainstRelease IX5_reasonAgainstRelease SX5_reasonAgainstRelease (by decide) rfl (by decide) (by omega) (Nat.le_of_ble_eq_true rfl) rfl (ctX5_reasonAgainstRelease (d := d - 1) hl (by omega) (VK_c 5 2 rfl) hx1 e7) dX8_release_11 (VK_c 5 2 rfl).1 (VK_c 5 2 rfl).lt (VK_c 5 2 rfl).ka rfl (fun z9 _ => ?_)
  obtain ⟨p12, e11, h⟩ := obind_elim h
  have t16 := ctX8_refuseFor (d := d - 1) hl (by omega) z9 e11 (g := g)
  by_cases c15 : p12.1 = 0
  rotate_left
  · rw [if_neg c15] at h
    cases h
    exact j_callVx MX8_191 YX8_refuseFor IX8_refuseFor SX8_refuseFor (by decide) rfl (by decide) (by omega) (Nat.le_of_ble_eq_true rfl) rfl t16 dX8_release_14 (VK_c 8 1 rfl).1 (VK_c 8 1 rfl).lt (VK_c 8 1 rfl).ka rfl c15 rfl inR_0
  rw [if_pos c15] at h
  rw [c15] at t16
  refine j_callV MX8_191 YX8_refuseFor IX8_refuseFor SX8_refuseFor (by decide) rfl (by decide) (by omega) (Nat.le_of_ble_eq_true rfl) rfl t16 dX8_release_14 (VK_c 8 1 rfl).1 (VK_c 8 1 rfl).lt (VK_c 8 1 rfl).ka rfl (fun z13 xt14 => ?_)
  refine j_aload_n (j := 0) dX8_release_17 rfl rfl ?_
  refine j_getR (q := 64) FX8_22 rfl dX8_release_18 (by decide) (by decide) rfl rfl (by decide) ?_
  refine j_aload_n (j := 0) dX8_release_21 rfl rfl ?_
  refine j_getR (q := 2) FX8_10 rfl dX8_release_22 (by decide) (by decide) rfl rfl (by decide) ?_
  obtain ⟨p18, e17, h⟩ := obind_elim h
  refine j_callV MX8_66 YX1_add IX1_add SX1_add (by decide) rfl (by decide) (by omega) (Nat.le_of_ble_eq_true rfl) rfl (ctX1_add (d := d - 1) hl (by omega) (VK_c 5 2 rfl) e17) dX8_release_25 (VK_c 1 64 rfl).1 (VK_c 1 64 rfl).lt (VK_c 1 64 rfl).ka rfl (fun z19 xt20 => ?_)
  refine j_aload_n (j := 0) dX8_release_28 rfl rfl ?_
  refine j_getR (q := 2) FX8_10 rfl dX8_release_29 (by decide) (by decide) rfl rfl (by decide) ?_
  refine j_getR (q := (2 + 3)) FX8_129 rfl dX8_release_32 (VK_c 5 2 rfl).1 (VK_c 5 2 rfl).2.1 (VK_c 5 2 rfl).2.2 (lay5 (VK_c 5 2 rfl) (by decide)) (by omega) ?_
  refine j_iload_n (j := 1) dX8_release_35 rfl rfl ?_
  obtain ⟨c21, h⟩ := chk_elim h
  have v22 : VK 3 (2 + 6 + x1.toNat) := (VK.o (VK_c 5 2 rfl) c21)
  refine j_aald (q := (2 + 6 + x1.toNat)) hx1 (by decide) (by decide) (by decide) (by decide) dX8_release_36 (VK.f3 (VK_c 5 2 rfl)).1 (VK.f3 (VK_c 5 2 rfl)).2.1 (VK.f3 (VK_c 5 2 rfl)).2.2 c21 (lay13 (VK_c 5 2 rfl) c21) (by omega) ?_
  refine j_getI FX8_153 rfl dX8_release_37 v22.1 v22.lt v22.ka (fun r23 => ?_)
  obtain ⟨u24, eu24, h⟩ := bnd_elim h
  have hu24 : inR u24 := by rw [eu24]; exact r23
  refine j_nm eu24 ?_
  refine j_istore_n (lv' := [(2, vI u24), (0, .ref (gB g + 1)), (1, vI x1)]) dX8_release_40 rfl (by decide) (by first | rfl | (simp only [List.all_cons, List.all_nil, rv_cat]; rfl)) rfl ?_
  refine j_aload_n (j := 1) dX8_release_41 rfl rfl ?_
  refine j_getR (q := 2) FX8_10 rfl dX8_release_42 (by decide) (by decide) rfl rfl (by decide) ?_
  refine j_iload_n (j := 2) dX8_release_45 rfl rfl ?_
  obtain ⟨p26, e25, h⟩ := obind_elim h
  refine j_callV MX8_253 YX5_removeTrip IX5_removeTrip SX5_removeTrip (by decide) rfl (by decide) (by omega) (Nat.le_of_ble_eq_true rfl) rfl (ctX5_removeTrip (d := d - 1) hl (by omega) (VK_c 5 2 rfl) hx1 e25) dX8_release_46 (VK_c 5 2 rfl).1 (VK_c 5 2 rfl).lt (VK_c 5 2 rfl).ka rfl (fun z27 xt28 => ?_)
  refine j_iload_n (j := 0) dX8_release_49 rfl rfl ?_
  cases h
  exact j_iret dX8_release_50 rfl rfl rfl hu24
theorem ctX8_release {g : JG} {l : Launch} {d N : Nat} {A : AH} {out : Nat × Int × AH} {x1 : Int} (hl : l.stackTraces = false) (hd : 8 ≤ d) (hx1 : inR x1) (h : fX8_release N A x1 = some out) : CT g l yX8_release cX8_release 3 (some .int) d [.ref (gB g + 1), vI x1] A ((out.1, jv out.1 out.2.1, out.2.2) : JO) (inR out.2.1) :=
  CT_of (by decide +kernel) hl (by first | exact Nat.le_of_ble_eq_true rfl | (unfold rv; split <;> exact Nat.le_of_ble_eq_true rfl)) (by first | rfl | (unfold rv; split <;> rfl)) (j_sub (lv := [(0, .ref (gB g + 1)), (1, vI x1)]) [0, 1] rfl (tX8_release_0 hl hd hx1 h))
set_option maxRecDepth 100000 in
theorem tX8_canPutOffBy_0 {g : JG} {l : Launch} {d N n0 s0 : Nat} {out : Int} {A : AH} {x0 : Int} (hl : l.stackTraces = false) (hd : 1 ≤ d) (hx0 : inR x0) (h : fX8_canPutOffBy N A x0 = some out) : J g l d RX8 "canPutOffBy" cX8_canPutOffBy 1 (some .boolean) n0 s0 ((0, some (vI out), A) : JO) ((out = 0 ∨ out = 1)) 0 [(0, vI x0)] [] A := by
  unfold fX8_canPutOffBy at h
  refine j_iload_n (j := 0) dX8_canPutOffBy_0 rfl rfl ?_
  refine j_iconst dX8_canPutOffBy_1 ?_
  by_cases c1 : x0 < 1
  · rw [if_pos c1] at h
    refine j_icmp_lt_t hx0 (inR_lit _ rfl) dX8_canPutOffBy_2 (tgt := 15) (by decide) c1 ?_
    refine j_iconst dX8_canPutOffBy_15 ?_
    cases h
    exact j_iret dX8_canPutOffBy_16 rfl ((nar_bool (Or.inl rfl)).1) rfl (Or.inl rfl)
  · rw [if_neg c1] at h
    refine j_icmp_lt_f hx0 (inR_lit _ rfl) dX8_canPutOffBy_2 (tgt := 15) (by decide) c1 ?_
    refine j_iload_n (j := 0) dX8_canPutOffBy_5 rfl rfl ?_
    refine j_bipush dX8_canPutOffBy_6 rfl ?_
    by_cases c2 : 48 < x0
    · rw [if_pos c2] at h
      refine j_icmp_gt_t hx0 (inR_lit _ rfl) dX8_canPutOffBy_8 (tgt := 15) (by decide) c2 ?_
      refine j_iconst dX8_canPutOffBy_15 ?_
      cases h
      exact j_iret dX8_canPutOffBy_16 rfl ((nar_bool (Or.inl rfl)).1) rfl (Or.inl rfl)
    · rw [if_neg c2] at h
      refine j_icmp_gt_f hx0 (inR_lit _ rfl) dX8_canPutOffBy_8 (tgt := 15) (by decide) c2 ?_
      refine j_iconst dX8_canPutOffBy_11 ?_
      refine j_goto (tgt := 16) dX8_canPutOffBy_12 (by decide) ?_
      cases h
      exact j_iret dX8_canPutOffBy_16 rfl ((nar_bool (Or.inr rfl)).1) rfl (Or.inr rfl)
theorem ctX8_canPutOffBy {g : JG} {l : Launch} {d N : Nat} {A : AH} {out : Int} {x0 : Int} (hl : l.stackTraces = false) (hd : 1 ≤ d) (hx0 : inR x0) (h : fX8_canPutOffBy N A x0 = some out) : CT g l yX8_canPutOffBy cX8_canPutOffBy 1 (some .boolean) d [vI x0] A ((0, some (vI out), A) : JO) ((out = 0 ∨ out = 1)) :=
  CT_of (by decide +kernel) hl (by first | exact Nat.le_of_ble_eq_true rfl | (unfold rv; split <;> exact Nat.le_of_ble_eq_true rfl)) (by first | rfl | (unfold rv; split <;> rfl)) (j_sub (lv := [(0, vI x0)]) [0] rfl (tX8_canPutOffBy_0 hl hd hx0 h))
set_option maxRecDepth 100000 in
theorem tX8_putOff_0 {g : JG} {l : Launch} {d N n0 s0 : Nat} {out : Nat × Int × AH} {A : AH} {x1 : Int} {x2 : Int} (hl : l.stackTraces = false) (hd : 8 ≤ d) (hx1 : inR x1) (hx2 : inR x2) (h : fX8_putOff N A x1 x2 = some out) : J g l d RX8 "putOff" cX8_putOff 4 (some .int) n0 s0 ((out.1, jv out.1 out.2.1, out.2.2) : JO) (inR out.2.1) 0 [(0, .ref (gB g + 1)), (1, vI x1), (2, vI x2)] [] A := by
  unfold fX8_putOff at h
  refine j_aload_n (j := 0) dX8_putOff_0 rfl rfl ?_
  refine j_iload_n (j := 1) dX8_putOff_1 rfl rfl ?_
  obtain ⟨p2, e1, h⟩ := obind_elim h
  have t6 := ctX8_requireOrder (d := d - 1) hl (by omega) hx1 e1 (g := g)
  by_cases c5 : p2.1 = 0
  rotate_left
  · rw [if_neg c5] at h
    cases h
    exact j_callVx MX8_126 YX8_requireOrder IX8_requireOrder SX8_requireOrder (by decide) rfl (by decide) (by omega) (Nat.le_of_ble_eq_true rfl) rfl t6 dX8_putOff_2 (VK_c 8 1 rfl).1 (VK_c 8 1 rfl).lt (VK_c 8 1 rfl).ka rfl c5 rfl inR_0
  rw [if_pos c5] at h
  rw [c5] at t6
  refine j_callV MX8_126 YX8_requireOrder IX8_requireOrder SX8_requireOrder (by decide) rfl (by decide) (by omega) (Nat.le_of_ble_eq_true rfl) rfl t6 dX8_putOff_2 (VK_c 8 1 rfl).1 (VK_c 8 1 rfl).lt (VK_c 8 1 rfl).ka rfl (fun z3 xt4 => ?_)
  refine j_iload_n (j := 2) dX8_putOff_5 rfl rfl ?_
  obtain ⟨z8, e7, h⟩ := obind_elim h
  refine j_callS MX8_256 YX8_canPutOffBy IX8_canPutOffBy (by decide) (by omega) (Nat.le_of_ble_eq_true rfl) rfl (ctX8_canPutOffBy (d := d - 1) hl (by omega) hx2 e7) dX8_putOff_6 rfl (fun z9 _ => ?_)
  by_cases c11 : z8 = 0
  · rw [if_pos c11] at h
    refine j_if_ne_f (bool_inR z9) dX8_putOff_9 (tgt := 23) (by decide) (fun q => q c11) ?_
    cases h
    exact j_throwW (k := 1) TX8_51_259_55 (by decide) rfl (by omega) dX8_putOff_12 dX8_putOff_15 dX8_putOff_16 dX8_putOff_19 dX8_putOff_22 rfl inR_0
  · rw [if_neg c11] at h
    refine j_if_ne_t (bool_inR z9) dX8_putOff_9 (tgt := 23) (by decide) c11 ?_
    refine j_aload_n (j := 0) dX8_putOff_23 rfl rfl ?_
    refine j_getR (q := 2) FX8_10 rfl dX8_putOff_24 (by decide) (by decide) rfl rfl (by decide) ?_
    refine j_getR (q := (2 + 3)) FX8_129 rfl dX8_putOff_27 (VK_c 5 2 rfl).1 (VK_c 5 2 rfl).2.1 (VK_c 5 2 rfl).2.2 (lay5 (VK_c 5 2 rfl) (by decide)) (by omega) ?_
    refine j_iload_n (j := 1) dX8_putOff_30 rfl rfl ?_
    obtain ⟨c12, h⟩ := chk_elim h
    have v13 : VK 3 (2 + 6 + x1.toNat) := (VK.o (VK_c 5 2 rfl) c12)
    refine j_aald (q := (2 + 6 + x1.toNat)) hx1 (by decide) (by decide) (by decide) (by decide) dX8_putOff_31 (VK.f3 (VK_c 5 2 rfl)).1 (VK.f3 (VK_c 5 2 rfl)).2.1 (VK.f3 (VK_c 5 2 rfl)).2.2 c12 (lay13 (VK_c 5 2 rfl) c12) (by omega) ?_
    refine j_astore_n (lv' := [(3, .ref (gB g + (2 + 6 + x1.toNat))), (0, .ref (gB g + 1)), (1, vI x1), (2, vI x2)]) dX8_putOff_32 rfl (by decide) (by first | rfl | (simp only [List.all_cons, List.all_nil, rv_cat]; rfl)) rfl ?_
    refine j_aload_n (j := 1) dX8_putOff_33 rfl rfl ?_
    refine j_aload_n (j := 0) dX8_putOff_34 rfl rfl ?_
    obtain ⟨z15, e14, h⟩ := obind_elim h
    refine j_callV MX8_261 YX3_reasonAgainstDelay IX3_reasonAgainstDelay SX3_reasonAgainstDelay (by decide) rfl (by decide) (by omega) (Nat.le_of_ble_eq_true rfl) rfl (ctX3_reasonAgainstDelay (d := d - 1) hl (by omega) v13 e14) dX8_putOff_35 v13.1 v13.lt v13.ka rfl (fun z16 _ => ?_)
    obtain ⟨p19, e18, h⟩ := obind_elim h
    have t23 := ctX8_refuseFor (d := d - 1) hl (by omega) z16 e18 (g := g)
    by_cases c22 : p19.1 = 0
    rotate_left
    · rw [if_neg c22] at h
      cases h
      exact j_callVx MX8_191 YX8_refuseFor IX8_refuseFor SX8_refuseFor (by decide) rfl (by decide) (by omega) (Nat.le_of_ble_eq_true rfl) rfl t23 dX8_putOff_38 (VK_c 8 1 rfl).1 (VK_c 8 1 rfl).lt (VK_c 8 1 rfl).ka rfl c22 rfl inR_0
    rw [if_pos c22] at h
    rw [c22] at t23
    refine j_callV MX8_191 YX8_refuseFor IX8_refuseFor SX8_refuseFor (by decide) rfl (by decide) (by omega) (Nat.le_of_ble_eq_true rfl) rfl t23 dX8_putOff_38 (VK_c 8 1 rfl).1 (VK_c 8 1 rfl).lt (VK_c 8 1 rfl).ka rfl (fun z20 xt21 => ?_)
    refine j_aload_n (j := 1) dX8_putOff_41 rfl rfl ?_
    refine j_getR (q := 64) FX8_22 rfl dX8_putOff_42 (by decide) (by decide) rfl rfl (by decide) ?_
    refine j_aload_n (j := 1) dX8_putOff_45 rfl rfl ?_
    refine j_getR (q := 2) FX8_10 rfl dX8_putOff_46 (by decide) (by decide) rfl rfl (by decide) ?_
    obtain ⟨p25, e24, h⟩ := obind_elim h
    refine j_callV MX8_66 YX1_add IX1_add SX1_add (by decide) rfl (by decide) (by omega) (Nat.le_of_ble_eq_true rfl) rfl (ctX1_add (d := d - 1) hl (by omega) (VK_c 5 2 rfl) e24) dX8_putOff_49 (VK_c 1 64 rfl).1 (VK_c 1 64 rfl).lt (VK_c 1 64 rfl).ka rfl (fun z26 xt27 => ?_)
    refine j_aload_n (j := 0) dX8_putOff_52 rfl rfl ?_
    refine j_iload_n (j := 3) dX8_putOff_53 rfl rfl ?_
    obtain ⟨p29, e28, h⟩ := obind_elim h
    refine j_callV MX8_265 YX3_delay IX3_delay SX3_delay (by decide) rfl (by decide) (by omega) (Nat.le_of_ble_eq_true rfl) rfl (ctX3_delay (d := d - 1) hl (by omega) v13 hx2 e28) dX8_putOff_54 v13.1 v13.lt v13.ka rfl (fun z30 xt31 => ?_)
    refine j_aload_n (j := 0) dX8_putOff_57 rfl rfl ?_
    refine j_getI FX8_147 rfl dX8_putOff_58 v13.1 v13.lt v13.ka (fun r32 => ?_)
    cases h
    exact j_iret dX8_putOff_61 rfl rfl rfl r32
theorem ctX8_putOff {g : JG} {l : Launch} {d N : Nat} {A : AH} {out : Nat × Int × AH} {x1 : Int} {x2 : Int} (hl : l.stackTraces = false) (hd : 8 ≤ d) (hx1 : inR x1) (hx2 : inR x2) (h : fX8_putOff N A x1 x2 = some out) : CT g l yX8_putOff cX8_putOff 4 (some .int) d [.ref (gB g + 1), vI x1, vI x2] A ((out.1, jv out.1 out.2.1, out.2.2) : JO) (inR out.2.1) :=
  CT_of (by decide +kernel) hl (by first | exact Nat.le_of_ble_eq_true rfl | (unfold rv; split <;> exact Nat.le_of_ble_eq_true rfl)) (by first | rfl | (unfold rv; split <;> rfl)) (j_sub (lv := [(0, .ref (gB g + 1)), (1, vI x1), (2, vI x2)]) [0, 1, 2] rfl (tX8_putOff_0 hl hd hx1 hx2 h))
set_option maxRecDepth 100000 in
theorem tX8_urgent_0 {g : JG} {l : Launch} {d N n0 s0 : Nat} {out : Nat × Int × AH} {A : AH} {x1 : Int} (hl : l.stackTraces = false) (hd : 7 ≤ d) (hx1 : inR x1) (h : fX8_urgent N A x1 = some out) : J g l d RX8 "urgent" cX8_urgent 3 (some .int) n0 s0 ((out.1, jv out.1 out.2.1, out.2.2) : JO) (inR out.2.1) 0 [(0, .ref (gB g + 1)), (1, vI x1)] [] A := by
  unfold fX8_urgent at h
  refine j_aload_n (j := 0) dX8_urgent_0 rfl rfl ?_
  refine j_getR (q := 2) FX8_10 rfl dX8_urgent_1 (by decide) (by decide) rfl rfl (by decide) ?_
  refine j_aload_n (j := 0) dX8_urgent_4 rfl rfl ?_
  refine j_getR (q := 348) FX8_40 rfl dX8_urgent_5 (by decide) (by decide) rfl rfl (by decide) ?_
  obtain ⟨p2, e1, h⟩ := obind_elim h
  refine j_callV MX8_246 YX5_lineUp IX5_lineUp SX5_lineUp (by decide) rfl (by decide) (by omega) (Nat.le_of_ble_eq_true rfl) rfl (ctX5_lineUp (d := d - 1) hl (by omega) (VK_c 5 2 rfl) ((VK_c 18 348 rfl).vi (by decide) (by decide) rfl) e1) dX8_urgent_8 (VK_c 5 2 rfl).1 (VK_c 5 2 rfl).lt (VK_c 5 2 rfl).ka rfl (fun z3 xt4 => ?_)
  refine j_istore_n (lv' := [(2, vI p2.1), (0, .ref (gB g + 1)), (1, vI x1)]) dX8_urgent_11 rfl (by decide) (by first | rfl | (simp only [List.all_cons, List.all_nil, rv_cat]; rfl)) rfl ?_
  refine j_iload_n (j := 2) dX8_urgent_12 rfl rfl ?_
  by_cases c5 : x1 < 0
  · rw [if_pos c5] at h
    refine j_if_lt_t hx1 dX8_urgent_13 (tgt := 21) (by decide) c5 ?_
    cases h
    exact j_throwW (k := 6) TX8_175_268_179 (by decide) rfl (by omega) dX8_urgent_21 dX8_urgent_24 dX8_urgent_25 dX8_urgent_28 dX8_urgent_31 rfl inR_0
  · rw [if_neg c5] at h
    refine j_if_lt_f hx1 dX8_urgent_13 (tgt := 21) (by decide) c5 ?_
    refine j_iload_n (j := 2) dX8_urgent_16 rfl rfl ?_
    refine j_iload_n (j := 0) dX8_urgent_17 rfl rfl ?_
    by_cases c6 : x1 < p2.1
    · rw [if_pos c6] at h
      refine j_icmp_lt_t hx1 z3 dX8_urgent_18 (tgt := 32) (by decide) c6 ?_
      refine j_aload_n (j := 1) dX8_urgent_32 rfl rfl ?_
      refine j_getR (q := 348) FX8_40 rfl dX8_urgent_33 (by decide) (by decide) rfl rfl (by decide) ?_
      refine j_iload_n (j := 2) dX8_urgent_36 rfl rfl ?_
      obtain ⟨c7, h⟩ := chk_elim h
      refine j_iald hx1 (by decide) (by decide) rfl dX8_urgent_37 (VK_c 18 348 rfl).1 (VK_c 18 348 rfl).lt (VK_c 18 348 rfl).ka c7 (fun r8 => ?_)
      cases h
      exact j_iret dX8_urgent_38 rfl rfl rfl r8
    · rw [if_neg c6] at h
      refine j_icmp_lt_f hx1 z3 dX8_urgent_18 (tgt := 32) (by decide) c6 ?_
      cases h
      exact j_throwW (k := 6) TX8_175_268_179 (by decide) rfl (by omega) dX8_urgent_21 dX8_urgent_24 dX8_urgent_25 dX8_urgent_28 dX8_urgent_31 rfl inR_0
theorem ctX8_urgent {g : JG} {l : Launch} {d N : Nat} {A : AH} {out : Nat × Int × AH} {x1 : Int} (hl : l.stackTraces = false) (hd : 7 ≤ d) (hx1 : inR x1) (h : fX8_urgent N A x1 = some out) : CT g l yX8_urgent cX8_urgent 3 (some .int) d [.ref (gB g + 1), vI x1] A ((out.1, jv out.1 out.2.1, out.2.2) : JO) (inR out.2.1) :=
  CT_of (by decide +kernel) hl (by first | exact Nat.le_of_ble_eq_true rfl | (unfold rv; split <;> exact Nat.le_of_ble_eq_true rfl)) (by first | rfl | (unfold rv; split <;> rfl)) (j_sub (lv := [(0, .ref (gB g + 1)), (1, vI x1)]) [0, 1] rfl (tX8_urgent_0 hl hd hx1 h))
set_option maxRecDepth 100000 in
theorem tX8_pilot_0 {g : JG} {l : Launch} {d N n0 s0 : Nat} {out : Nat × Int × AH} {A : AH} {x1 : Int} {x2 : Int} (hl : l.stackTraces = false) (hd : 8 ≤ d) (hx1 : inR x1) (hx2 : inR x2) (h : fX8_pilot N A x1 x2 = some out) : J g l d RX8 "pilot" cX8_pilot 4 (some .int) n0 s0 ((out.1, jv out.1 out.2.1, out.2.2) : JO) (inR out.2.1) 0 [(0, .ref (gB g + 1)), (1, vI x1), (2, vI x2)] [] A := by
  unfold fX8_pilot at h
  refine j_aload_n (j := 0) dX8_pilot_0 rfl rfl ?_
  refine j_iload_n (j := 1) dX8_pilot_1 rfl rfl ?_
  obtain ⟨p2, e1, h⟩ := obind_elim h
  have t6 := ctX8_requirePilot (d := d - 1) hl (by omega) hx1 e1 (g := g)
  by_cases c5 : p2.1 = 0
  rotate_left
  · rw [if_neg c5] at h
    cases h
    exact j_callVx MX8_180 YX8_requirePilot IX8_requirePilot SX8_requirePilot (by decide) rfl (by decide) (by omega) (Nat.le_of_ble_eq_true rfl) rfl t6 dX8_pilot_2 (VK_c 8 1 rfl).1 (VK_c 8 1 rfl).lt (VK_c 8 1 rfl).ka rfl c5 rfl inR_0
  rw [if_pos c5] at h
  rw [c5] at t6
  refine j_callV MX8_180 YX8_requirePilot IX8_requirePilot SX8_requirePilot (by decide) rfl (by decide) (by omega) (Nat.le_of_ble_eq_true rfl) rfl t6 dX8_pilot_2 (VK_c 8 1 rfl).1 (VK_c 8 1 rfl).lt (VK_c 8 1 rfl).ka rfl (fun z3 xt4 => ?_)
  refine j_aload_n (j := 0) dX8_pilot_5 rfl rfl ?_
  refine j_getR (q := 2) FX8_10 rfl dX8_pilot_6 (by decide) (by decide) rfl rfl (by decide) ?_
  refine j_getR (q := (2 + 4)) FX8_183 rfl dX8_pilot_9 (VK_c 5 2 rfl).1 (VK_c 5 2 rfl).2.1 (VK_c 5 2 rfl).2.2 (lay5 (VK_c 5 2 rfl) (by decide)) (by omega) ?_
  refine j_iload_n (j := 1) dX8_pilot_12 rfl rfl ?_
  obtain ⟨c7, h⟩ := chk_elim h
  have v8 : VK 4 (2 + 22 + x1.toNat) := (VK.p (VK_c 5 2 rfl) c7)
  refine j_aald (q := (2 + 22 + x1.toNat)) hx1 (by decide) (by decide) (by decide) (by decide) dX8_pilot_13 (VK.f4 (VK_c 5 2 rfl)).1 (VK.f4 (VK_c 5 2 rfl)).2.1 (VK.f4 (VK_c 5 2 rfl)).2.2 c7 (lay14 (VK_c 5 2 rfl) c7) (by omega) ?_
  refine j_astore_n (lv' := [(3, .ref (gB g + (2 + 22 + x1.toNat))), (0, .ref (gB g + 1)), (1, vI x1), (2, vI x2)]) dX8_pilot_14 rfl (by decide) (by first | rfl | (simp only [List.all_cons, List.all_nil, rv_cat]; rfl)) rfl ?_
  refine j_iload_n (j := 3) dX8_pilot_15 rfl rfl ?_
  by_cases c9 : x2 = 0
  · rw [if_pos c9] at h
    refine j_table_in (tgt := 60) hx2 dX8_pilot_16 (by omega) (by omega) (by rw [c9]; rfl) (by decide) ?_
    refine j_aload_n (j := 0) dX8_pilot_60 rfl rfl ?_
    refine j_getI FX8_270 rfl dX8_pilot_61 v8.1 v8.lt v8.ka (fun r10 => ?_)
    cases h
    exact j_iret dX8_pilot_64 rfl rfl rfl r10
  · rw [if_neg c9] at h
    by_cases c11 : x2 = 1
    · rw [if_pos c11] at h
      refine j_table_in (tgt := 65) hx2 dX8_pilot_16 (by omega) (by omega) (by rw [c11]; rfl) (by decide) ?_
      refine j_aload_n (j := 0) dX8_pilot_65 rfl rfl ?_
      refine j_getI FX8_275 rfl dX8_pilot_66 v8.1 v8.lt v8.ka (fun r12 => ?_)
      cases h
      exact j_iret dX8_pilot_69 rfl rfl rfl r12
    · rw [if_neg c11] at h
      by_cases c13 : x2 = 2
      · rw [if_pos c13] at h
        refine j_table_in (tgt := 70) hx2 dX8_pilot_16 (by omega) (by omega) (by rw [c13]; rfl) (by decide) ?_
        refine j_aload_n (j := 1) dX8_pilot_70 rfl rfl ?_
        refine j_getR (q := 2) FX8_10 rfl dX8_pilot_71 (by decide) (by decide) rfl rfl (by decide) ?_
        refine j_iload_n (j := 2) dX8_pilot_74 rfl rfl ?_
        obtain ⟨z15, e14, h⟩ := obind_elim h
        refine j_callV MX8_278 YX5_tripsDone IX5_tripsDone SX5_tripsDone (by decide) rfl (by decide) (by omega) (Nat.le_of_ble_eq_true rfl) rfl (ctX5_tripsDone (d := d - 1) hl (by omega) (VK_c 5 2 rfl) hx1 e14) dX8_pilot_75 (VK_c 5 2 rfl).1 (VK_c 5 2 rfl).lt (VK_c 5 2 rfl).ka rfl (fun z16 _ => ?_)
        cases h
        exact j_iret dX8_pilot_78 rfl rfl rfl z16
      · rw [if_neg c13] at h
        by_cases c18 : x2 = 3
        · rw [if_pos c18] at h
          refine j_table_in (tgt := 79) hx2 dX8_pilot_16 (by omega) (by omega) (by rw [c18]; rfl) (by decide) ?_
          refine j_aload_n (j := 0) dX8_pilot_79 rfl rfl ?_
          obtain ⟨z20, e19, h⟩ := obind_elim h
          refine j_callV MX8_281 YX4_legs IX4_legs SX4_legs (by decide) rfl (by decide) (by omega) (Nat.le_of_ble_eq_true rfl) rfl (ctX4_legs (d := d - 1) hl (by omega) v8 e19) dX8_pilot_80 v8.1 v8.lt v8.ka rfl (fun z21 _ => ?_)
          cases h
          exact j_iret dX8_pilot_83 rfl rfl rfl z21
        · rw [if_neg c18] at h
          by_cases c23 : x2 = 4
          · rw [if_pos c23] at h
            refine j_table_in (tgt := 84) hx2 dX8_pilot_16 (by omega) (by omega) (by rw [c23]; rfl) (by decide) ?_
            refine j_aload_n (j := 0) dX8_pilot_84 rfl rfl ?_
            obtain ⟨z25, e24, h⟩ := obind_elim h
            refine j_callV MX8_284 YX4_freeFrom IX4_freeFrom SX4_freeFrom (by decide) rfl (by decide) (by omega) (Nat.le_of_ble_eq_true rfl) rfl (ctX4_freeFrom (d := d - 1) hl (by omega) v8 e24) dX8_pilot_85 v8.1 v8.lt v8.ka rfl (fun z26 _ => ?_)
            cases h
            exact j_iret dX8_pilot_88 rfl rfl rfl z26
          · rw [if_neg c23] at h
            by_cases c28 : x2 = 5
            · rw [if_pos c28] at h
              refine j_table_in (tgt := 89) hx2 dX8_pilot_16 (by omega) (by omega) (by rw [c28]; rfl) (by decide) ?_
              refine j_aload_n (j := 1) dX8_pilot_89 rfl rfl ?_
              refine j_getR (q := 2) FX8_10 rfl dX8_pilot_90 (by decide) (by decide) rfl rfl (by decide) ?_
              refine j_aload_n (j := 0) dX8_pilot_93 rfl rfl ?_
              obtain ⟨z30, e29, h⟩ := obind_elim h
              refine j_callV MX8_286 YX5_restedFrom IX5_restedFrom SX5_restedFrom (by decide) rfl (by decide) (by omega) (Nat.le_of_ble_eq_true rfl) rfl (ctX5_restedFrom (d := d - 1) hl (by omega) (VK_c 5 2 rfl) v8 e29) dX8_pilot_94 (VK_c 5 2 rfl).1 (VK_c 5 2 rfl).lt (VK_c 5 2 rfl).ka rfl (fun z31 _ => ?_)
              cases h
              exact j_iret dX8_pilot_97 rfl rfl rfl z31
            · rw [if_neg c28] at h
              by_cases c33 : x2 = 6
              · rw [if_pos c33] at h
                refine j_table_in (tgt := 98) hx2 dX8_pilot_16 (by omega) (by omega) (by rw [c33]; rfl) (by decide) ?_
                refine j_aload_n (j := 0) dX8_pilot_98 rfl rfl ?_
                refine j_sipush dX8_pilot_99 rfl ?_
                obtain ⟨z35, e34, h⟩ := obind_elim h
                refine j_callV MX8_290 YX4_tripHours IX4_tripHours SX4_tripHours (by decide) rfl (by decide) (by omega) (Nat.le_of_ble_eq_true rfl) rfl (ctX4_tripHours (d := d - 1) hl (by omega) v8 (inR_lit _ rfl) e34) dX8_pilot_102 v8.1 v8.lt v8.ka rfl (fun z36 _ => ?_)
                cases h
                exact j_iret dX8_pilot_105 rfl rfl rfl z36
              · rw [if_neg c33] at h
                refine j_table_out (tgt := 106) hx2 dX8_pilot_16 (by omega) (by decide) ?_
                cases h
                exact j_throwW (k := 1) TX8_51_293_55 (by decide) rfl (by omega) dX8_pilot_106 dX8_pilot_109 dX8_pilot_110 dX8_pilot_113 dX8_pilot_116 rfl inR_0
theorem ctX8_pilot {g : JG} {l : Launch} {d N : Nat} {A : AH} {out : Nat × Int × AH} {x1 : Int} {x2 : Int} (hl : l.stackTraces = false) (hd : 8 ≤ d) (hx1 : inR x1) (hx2 : inR x2) (h : fX8_pilot N A x1 x2 = some out) : CT g l yX8_pilot cX8_pilot 4 (some .int) d [.ref (gB g + 1), vI x1, vI x2] A ((out.1, jv out.1 out.2.1, out.2.2) : JO) (inR out.2.1) :=
  CT_of (by decide +kernel) hl (by first | exact Nat.le_of_ble_eq_true rfl | (unfold rv; split <;> exact Nat.le_of_ble_eq_true rfl)) (by first | rfl | (unfold rv; split <;> rfl)) (j_sub (lv := [(0, .ref (gB g + 1)), (1, vI x1), (2, vI x2)]) [0, 1, 2] rfl (tX8_pilot_0 hl hd hx1 hx2 h))
set_option maxRecDepth 100000 in
theorem tX8_planOf_0 {g : JG} {l : Launch} {d N n0 s0 : Nat} {out : Nat × Int × AH} {A : AH} {x1 : Int} {x2 : Int} {x3 : Int} (hl : l.stackTraces = false) (hd : 8 ≤ d) (hx1 : inR x1) (hx2 : inR x2) (hx3 : inR x3) (h : fX8_planOf N A x1 x2 x3 = some out) : J g l d RX8 "planOf" cX8_planOf 5 (some .int) n0 s0 ((out.1, jv out.1 out.2.1, out.2.2) : JO) (inR out.2.1) 0 [(0, .ref (gB g + 1)), (1, vI x1), (2, vI x2), (3, vI x3)] [] A := by
  unfold fX8_planOf at h
  refine j_aload_n (j := 0) dX8_planOf_0 rfl rfl ?_
  refine j_iload_n (j := 1) dX8_planOf_1 rfl rfl ?_
  obtain ⟨p2, e1, h⟩ := obind_elim h
  have t6 := ctX8_requirePilot (d := d - 1) hl (by omega) hx1 e1 (g := g)
  by_cases c5 : p2.1 = 0
  rotate_left
  · rw [if_neg c5] at h
    cases h
    exact j_callVx MX8_180 YX8_requirePilot IX8_requirePilot SX8_requirePilot (by decide) rfl (by decide) (by omega) (Nat.le_of_ble_eq_true rfl) rfl t6 dX8_planOf_2 (VK_c 8 1 rfl).1 (VK_c 8 1 rfl).lt (VK_c 8 1 rfl).ka rfl c5 rfl inR_0
  rw [if_pos c5] at h
  rw [c5] at t6
  refine j_callV MX8_180 YX8_requirePilot IX8_requirePilot SX8_requirePilot (by decide) rfl (by decide) (by omega) (Nat.le_of_ble_eq_true rfl) rfl t6 dX8_planOf_2 (VK_c 8 1 rfl).1 (VK_c 8 1 rfl).lt (VK_c 8 1 rfl).ka rfl (fun z3 xt4 => ?_)
  refine j_aload_n (j := 0) dX8_planOf_5 rfl rfl ?_
  refine j_getR (q := 2) FX8_10 rfl dX8_planOf_6 (by decide) (by decide) rfl rfl (by decide) ?_
  refine j_getR (q := (2 + 4)) FX8_183 rfl dX8_planOf_9 (VK_c 5 2 rfl).1 (VK_c 5 2 rfl).2.1 (VK_c 5 2 rfl).2.2 (lay5 (VK_c 5 2 rfl) (by decide)) (by omega) ?_
  refine j_iload_n (j := 1) dX8_planOf_12 rfl rfl ?_
  obtain ⟨c7, h⟩ := chk_elim h
  have v8 : VK 4 (2 + 22 + x1.toNat) := (VK.p (VK_c 5 2 rfl) c7)
  refine j_aald (q := (2 + 22 + x1.toNat)) hx1 (by decide) (by decide) (by decide) (by decide) dX8_planOf_13 (VK.f4 (VK_c 5 2 rfl)).1 (VK.f4 (VK_c 5 2 rfl)).2.1 (VK.f4 (VK_c 5 2 rfl)).2.2 c7 (lay14 (VK_c 5 2 rfl) c7) (by omega) ?_
  refine j_iload_n (j := 2) dX8_planOf_14 rfl rfl ?_
  obtain ⟨z10, e9, h⟩ := obind_elim h
  refine j_callV MX8_295 YX4_legAt IX4_legAt SX4_legAt (by decide) rfl (by decide) (by omega) (Nat.le_of_ble_eq_true rfl) rfl (ctX4_legAt (d := d - 1) hl (by omega) v8 hx2 e9) dX8_planOf_15 v8.1 v8.lt v8.ka rfl (fun z11 _ => ?_)
  refine j_astoreQ (lv' := [(4, rv g z10), (0, .ref (gB g + 1)), (1, vI x1), (2, vI x2), (3, vI x3)]) dX8_planOf_18 (by decide) (by first | rfl | (simp only [List.all_cons, List.all_nil, rv_cat]; rfl)) rfl ?_
  refine j_aloadQ (j := 0) dX8_planOf_20 rfl ?_
  by_cases c13 : z10 = 0
  · rw [if_pos c13] at h
    refine j_ifnonnull_f dX8_planOf_22 c13 ?_
    cases h
    exact j_throwW (k := 6) TX8_175_299_179 (by decide) rfl (by omega) dX8_planOf_25 dX8_planOf_28 dX8_planOf_29 dX8_planOf_32 dX8_planOf_35 rfl inR_0
  · rw [if_neg c13] at h
    refine j_ifnonnull_t dX8_planOf_22 (tgt := 36) (by decide) c13 ?_
    refine j_iload_n (j := 4) dX8_planOf_36 rfl rfl ?_
    by_cases c14 : x3 = 0
    · rw [if_pos c14] at h
      refine j_table_in (tgt := 72) hx3 dX8_planOf_37 (by omega) (by omega) (by rw [c14]; rfl) (by decide) ?_
      refine j_aloadQ (j := 0) dX8_planOf_72 rfl ?_
      refine j_unrv c13 ?_
      refine j_getI FX8_301 rfl dX8_planOf_74 (z11.nz c13).pos (z11.nz c13).lt (z11.nz c13).ka (fun r15 => ?_)
      cases h
      exact j_iret dX8_planOf_77 rfl rfl rfl r15
    · rw [if_neg c14] at h
      by_cases c16 : x3 = 1
      · rw [if_pos c16] at h
        refine j_table_in (tgt := 78) hx3 dX8_planOf_37 (by omega) (by omega) (by rw [c16]; rfl) (by decide) ?_
        refine j_aloadQ (j := 0) dX8_planOf_78 rfl ?_
        refine j_unrv c13 ?_
        refine j_getI FX8_306 rfl dX8_planOf_80 (z11.nz c13).pos (z11.nz c13).lt (z11.nz c13).ka (fun r17 => ?_)
        cases h
        exact j_iret dX8_planOf_83 rfl rfl rfl r17
      · rw [if_neg c16] at h
        by_cases c18 : x3 = 2
        · rw [if_pos c18] at h
          refine j_table_in (tgt := 84) hx3 dX8_planOf_37 (by omega) (by omega) (by rw [c18]; rfl) (by decide) ?_
          refine j_aloadQ (j := 0) dX8_planOf_84 rfl ?_
          refine j_unrv c13 ?_
          refine j_getI FX8_307 rfl dX8_planOf_86 (z11.nz c13).pos (z11.nz c13).lt (z11.nz c13).ka (fun r19 => ?_)
          cases h
          exact j_iret dX8_planOf_89 rfl rfl rfl r19
        · rw [if_neg c18] at h
          by_cases c20 : x3 = 3
          · rw [if_pos c20] at h
            refine j_table_in (tgt := 90) hx3 dX8_planOf_37 (by omega) (by omega) (by rw [c20]; rfl) (by decide) ?_
            refine j_aloadQ (j := 0) dX8_planOf_90 rfl ?_
            refine j_unrv c13 ?_
            refine j_getI FX8_308 rfl dX8_planOf_92 (z11.nz c13).pos (z11.nz c13).lt (z11.nz c13).ka (fun r21 => ?_)
            cases h
            exact j_iret dX8_planOf_95 rfl rfl rfl r21
          · rw [if_neg c20] at h
            by_cases c22 : x3 = 4
            · rw [if_pos c22] at h
              refine j_table_in (tgt := 96) hx3 dX8_planOf_37 (by omega) (by omega) (by rw [c22]; rfl) (by decide) ?_
              refine j_aloadQ (j := 0) dX8_planOf_96 rfl ?_
              refine j_unrv c13 ?_
              refine j_getI FX8_311 rfl dX8_planOf_98 (z11.nz c13).pos (z11.nz c13).lt (z11.nz c13).ka (fun r23 => ?_)
              cases h
              exact j_iret dX8_planOf_101 rfl rfl rfl r23
            · rw [if_neg c22] at h
              refine j_table_out (tgt := 102) hx3 dX8_planOf_37 (by omega) (by decide) ?_
              cases h
              exact j_throwW (k := 1) TX8_51_314_55 (by decide) rfl (by omega) dX8_planOf_102 dX8_planOf_105 dX8_planOf_106 dX8_planOf_109 dX8_planOf_112 rfl inR_0
theorem ctX8_planOf {g : JG} {l : Launch} {d N : Nat} {A : AH} {out : Nat × Int × AH} {x1 : Int} {x2 : Int} {x3 : Int} (hl : l.stackTraces = false) (hd : 8 ≤ d) (hx1 : inR x1) (hx2 : inR x2) (hx3 : inR x3) (h : fX8_planOf N A x1 x2 x3 = some out) : CT g l yX8_planOf cX8_planOf 5 (some .int) d [.ref (gB g + 1), vI x1, vI x2, vI x3] A ((out.1, jv out.1 out.2.1, out.2.2) : JO) (inR out.2.1) :=
  CT_of (by decide +kernel) hl (by first | exact Nat.le_of_ble_eq_true rfl | (unfold rv; split <;> exact Nat.le_of_ble_eq_true rfl)) (by first | rfl | (unfold rv; split <;> rfl)) (j_sub (lv := [(0, .ref (gB g + 1)), (1, vI x1), (2, vI x2), (3, vI x3)]) [0, 1, 2, 3] rfl (tX8_planOf_0 hl hd hx1 hx2 hx3 h))
set_option maxRecDepth 100000 in
theorem tX8_place_0 {g : JG} {l : Launch} {d N n0 s0 : Nat} {out : Nat × Int × AH} {A : AH} {x1 : Int} {x2 : Int} (hl : l.stackTraces = false) (hd : 8 ≤ d) (hx1 : inR x1) (hx2 : inR x2) (h : fX8_place N A x1 x2 = some out) : J g l d RX8 "place" cX8_place 3 (some .int) n0 s0 ((out.1, jv out.1 out.2.1, out.2.2) : JO) (inR out.2.1) 0 [(0, .ref (gB g + 1)), (1, vI x1), (2, vI x2)] [] A := by
  unfold fX8_place at h
  refine j_aload_n (j := 0) dX8_place_0 rfl rfl ?_
  refine j_iload_n (j := 1) dX8_place_1 rfl rfl ?_
  obtain ⟨p2, e1, h⟩ := obind_elim h
  have t6 := ctX8_requirePilot (d := d - 1) hl (by omega) hx1 e1 (g := g)
  by_cases c5 : p2.1 = 0
  rotate_left
  · rw [if_neg c5] at h
    cases h
    exact j_callVx MX8_180 YX8_requirePilot IX8_requirePilot SX8_requirePilot (by decide) rfl (by decide) (by omega) (Nat.le_of_ble_eq_true rfl) rfl t6 dX8_place_2 (VK_c 8 1 rfl).1 (VK_c 8 1 rfl).lt (VK_c 8 1 rfl).ka rfl c5 rfl inR_0
  rw [if_pos c5] at h
  rw [c5] at t6
  refine j_callV MX8_180 YX8_requirePilot IX8_requirePilot SX8_requirePilot (by decide) rfl (by decide) (by omega) (Nat.le_of_ble_eq_true rfl) rfl t6 dX8_place_2 (VK_c 8 1 rfl).1 (VK_c 8 1 rfl).lt (VK_c 8 1 rfl).ka rfl (fun z3 xt4 => ?_)
  refine j_iload_n (j := 2) dX8_place_5 rfl rfl ?_
  obtain ⟨p8, e7, h⟩ := obind_elim h
  have t12 := ctX8_requireHour (d := d - 1) hl (by omega) hx2 e7 (g := g)
  by_cases c11 : p8.1 = 0
  rotate_left
  · rw [if_neg c11] at h
    cases h
    exact j_callSx MX8_80 YX8_requireHour IX8_requireHour (by decide) (by omega) (Nat.le_of_ble_eq_true rfl) rfl t12 dX8_place_6 rfl c11 rfl inR_0
  rw [if_pos c11] at h
  rw [c11] at t12
  refine j_callS MX8_80 YX8_requireHour IX8_requireHour (by decide) (by omega) (Nat.le_of_ble_eq_true rfl) rfl t12 dX8_place_6 rfl (fun z9 xt10 => ?_)
  refine j_aload_n (j := 0) dX8_place_9 rfl rfl ?_
  refine j_getR (q := 2) FX8_10 rfl dX8_place_10 (by decide) (by decide) rfl rfl (by decide) ?_
  refine j_getR (q := (2 + 4)) FX8_183 rfl dX8_place_13 (VK_c 5 2 rfl).1 (VK_c 5 2 rfl).2.1 (VK_c 5 2 rfl).2.2 (lay5 (VK_c 5 2 rfl) (by decide)) (by omega) ?_
  refine j_iload_n (j := 1) dX8_place_16 rfl rfl ?_
  obtain ⟨c13, h⟩ := chk_elim h
  have v14 : VK 4 (2 + 22 + x1.toNat) := (VK.p (VK_c 5 2 rfl) c13)
  refine j_aald (q := (2 + 22 + x1.toNat)) hx1 (by decide) (by decide) (by decide) (by decide) dX8_place_17 (VK.f4 (VK_c 5 2 rfl)).1 (VK.f4 (VK_c 5 2 rfl)).2.1 (VK.f4 (VK_c 5 2 rfl)).2.2 c13 (lay14 (VK_c 5 2 rfl) c13) (by omega) ?_
  refine j_iload_n (j := 2) dX8_place_18 rfl rfl ?_
  obtain ⟨z16, e15, h⟩ := obind_elim h
  refine j_callV MX8_316 YX4_placeAt IX4_placeAt SX4_placeAt (by decide) rfl (by decide) (by omega) (Nat.le_of_ble_eq_true rfl) rfl (ctX4_placeAt (d := d - 1) hl (by omega) v14 hx2 e15) dX8_place_19 v14.1 v14.lt v14.ka rfl (fun z17 _ => ?_)
  cases h
  exact j_iret dX8_place_22 rfl rfl rfl z17
theorem ctX8_place {g : JG} {l : Launch} {d N : Nat} {A : AH} {out : Nat × Int × AH} {x1 : Int} {x2 : Int} (hl : l.stackTraces = false) (hd : 8 ≤ d) (hx1 : inR x1) (hx2 : inR x2) (h : fX8_place N A x1 x2 = some out) : CT g l yX8_place cX8_place 3 (some .int) d [.ref (gB g + 1), vI x1, vI x2] A ((out.1, jv out.1 out.2.1, out.2.2) : JO) (inR out.2.1) :=
  CT_of (by decide +kernel) hl (by first | exact Nat.le_of_ble_eq_true rfl | (unfold rv; split <;> exact Nat.le_of_ble_eq_true rfl)) (by first | rfl | (unfold rv; split <;> rfl)) (j_sub (lv := [(0, .ref (gB g + 1)), (1, vI x1), (2, vI x2)]) [0, 1, 2] rfl (tX8_place_0 hl hd hx1 hx2 h))
set_option maxRecDepth 100000 in
theorem tX8_placeAgain_0 {g : JG} {l : Launch} {d N n0 s0 : Nat} {out : Nat × Int × AH} {A : AH} {x1 : Int} {x2 : Int} (hl : l.stackTraces = false) (hd : 8 ≤ d) (hx1 : inR x1) (hx2 : inR x2) (h : fX8_placeAgain N A x1 x2 = some out) : J g l d RX8 "placeAgain" cX8_placeAgain 3 (some .int) n0 s0 ((out.1, jv out.1 out.2.1, out.2.2) : JO) (inR out.2.1) 0 [(0, .ref (gB g + 1)), (1, vI x1), (2, vI x2)] [] A := by
  unfold fX8_placeAgain at h
  refine j_aload_n (j := 0) dX8_placeAgain_0 rfl rfl ?_
  refine j_iload_n (j := 1) dX8_placeAgain_1 rfl rfl ?_
  obtain ⟨p2, e1, h⟩ := obind_elim h
  have t6 := ctX8_requirePilot (d := d - 1) hl (by omega) hx1 e1 (g := g)
  by_cases c5 : p2.1 = 0
  rotate_left
  · rw [if_neg c5] at h
    cases h
    exact j_callVx MX8_180 YX8_requirePilot IX8_requirePilot SX8_requirePilot (by decide) rfl (by decide) (by omega) (Nat.le_of_ble_eq_true rfl) rfl t6 dX8_placeAgain_2 (VK_c 8 1 rfl).1 (VK_c 8 1 rfl).lt (VK_c 8 1 rfl).ka rfl c5 rfl inR_0
  rw [if_pos c5] at h
  rw [c5] at t6
  refine j_callV MX8_180 YX8_requirePilot IX8_requirePilot SX8_requirePilot (by decide) rfl (by decide) (by omega) (Nat.le_of_ble_eq_true rfl) rfl t6 dX8_placeAgain_2 (VK_c 8 1 rfl).1 (VK_c 8 1 rfl).lt (VK_c 8 1 rfl).ka rfl (fun z3 xt4 => ?_)
  refine j_iload_n (j := 2) dX8_placeAgain_5 rfl rfl ?_
  obtain ⟨p8, e7, h⟩ := obind_elim h
  have t12 := ctX8_requireHour (d := d - 1) hl (by omega) hx2 e7 (g := g)
  by_cases c11 : p8.1 = 0
  rotate_left
  · rw [if_neg c11] at h
    cases h
    exact j_callSx MX8_80 YX8_requireHour IX8_requireHour (by decide) (by omega) (Nat.le_of_ble_eq_true rfl) rfl t12 dX8_placeAgain_6 rfl c11 rfl inR_0
  rw [if_pos c11] at h
  rw [c11] at t12
  refine j_callS MX8_80 YX8_requireHour IX8_requireHour (by decide) (by omega) (Nat.le_of_ble_eq_true rfl) rfl t12 dX8_placeAgain_6 rfl (fun z9 xt10 => ?_)
  refine j_aload_n (j := 0) dX8_placeAgain_9 rfl rfl ?_
  refine j_getR (q := 2) FX8_10 rfl dX8_placeAgain_10 (by decide) (by decide) rfl rfl (by decide) ?_
  refine j_getR (q := (2 + 4)) FX8_183 rfl dX8_placeAgain_13 (VK_c 5 2 rfl).1 (VK_c 5 2 rfl).2.1 (VK_c 5 2 rfl).2.2 (lay5 (VK_c 5 2 rfl) (by decide)) (by omega) ?_
  refine j_iload_n (j := 1) dX8_placeAgain_16 rfl rfl ?_
  obtain ⟨c13, h⟩ := chk_elim h
  have v14 : VK 4 (2 + 22 + x1.toNat) := (VK.p (VK_c 5 2 rfl) c13)
  refine j_aald (q := (2 + 22 + x1.toNat)) hx1 (by decide) (by decide) (by decide) (by decide) dX8_placeAgain_17 (VK.f4 (VK_c 5 2 rfl)).1 (VK.f4 (VK_c 5 2 rfl)).2.1 (VK.f4 (VK_c 5 2 rfl)).2.2 c13 (lay14 (VK_c 5 2 rfl) c13) (by omega) ?_
  refine j_iload_n (j := 2) dX8_placeAgain_18 rfl rfl ?_
  obtain ⟨z16, e15, h⟩ := obind_elim h
  refine j_callV MX8_319 YX4_placeHourByHour IX4_placeHourByHour SX4_placeHourByHour (by decide) rfl (by decide) (by omega) (Nat.le_of_ble_eq_true rfl) rfl (ctX4_placeHourByHour (d := d - 1) hl (by omega) v14 hx2 e15) dX8_placeAgain_19 v14.1 v14.lt v14.ka rfl (fun z17 _ => ?_)
  cases h
  exact j_iret dX8_placeAgain_22 rfl rfl rfl z17
theorem ctX8_placeAgain {g : JG} {l : Launch} {d N : Nat} {A : AH} {out : Nat × Int × AH} {x1 : Int} {x2 : Int} (hl : l.stackTraces = false) (hd : 8 ≤ d) (hx1 : inR x1) (hx2 : inR x2) (h : fX8_placeAgain N A x1 x2 = some out) : CT g l yX8_placeAgain cX8_placeAgain 3 (some .int) d [.ref (gB g + 1), vI x1, vI x2] A ((out.1, jv out.1 out.2.1, out.2.2) : JO) (inR out.2.1) :=
  CT_of (by decide +kernel) hl (by first | exact Nat.le_of_ble_eq_true rfl | (unfold rv; split <;> exact Nat.le_of_ble_eq_true rfl)) (by first | rfl | (unfold rv; split <;> rfl)) (j_sub (lv := [(0, .ref (gB g + 1)), (1, vI x1), (2, vI x2)]) [0, 1, 2] rfl (tX8_placeAgain_0 hl hd hx1 hx2 h))
set_option maxRecDepth 100000 in
theorem tX8_boat_0 {g : JG} {l : Launch} {d N n0 s0 : Nat} {out : Nat × Int × AH} {A : AH} {x1 : Int} {x2 : Int} (hl : l.stackTraces = false) (hd : 7 ≤ d) (hx1 : inR x1) (hx2 : inR x2) (h : fX8_boat N A x1 x2 = some out) : J g l d RX8 "boat" cX8_boat 4 (some .int) n0 s0 ((out.1, jv out.1 out.2.1, out.2.2) : JO) (inR out.2.1) 0 [(0, .ref (gB g + 1)), (1, vI x1), (2, vI x2)] [] A := by
  unfold fX8_boat at h
  refine j_aload_n (j := 0) dX8_boat_0 rfl rfl ?_
  refine j_getR (q := 2) FX8_10 rfl dX8_boat_1 (by decide) (by decide) rfl rfl (by decide) ?_
  refine j_iload_n (j := 1) dX8_boat_4 rfl rfl ?_
  obtain ⟨z2, e1, h⟩ := obind_elim h
  refine j_callV MX8_198 YX5_hasBoat IX5_hasBoat SX5_hasBoat (by decide) rfl (by decide) (by omega) (Nat.le_of_ble_eq_true rfl) rfl (ctX5_hasBoat (d := d - 1) hl (by omega) (VK_c 5 2 rfl) hx1 e1) dX8_boat_5 (VK_c 5 2 rfl).1 (VK_c 5 2 rfl).lt (VK_c 5 2 rfl).ka rfl (fun z3 _ => ?_)
  by_cases c5 : z2 = 0
  · rw [if_pos c5] at h
    refine j_if_ne_f (bool_inR z3) dX8_boat_8 (tgt := 21) (by decide) (fun q => q c5) ?_
    cases h
    exact j_throw (k := 3) TX8_202_204_206 (by decide) rfl (by omega) dX8_boat_11 dX8_boat_14 dX8_boat_15 dX8_boat_17 dX8_boat_20 rfl inR_0
  · rw [if_neg c5] at h
    refine j_if_ne_t (bool_inR z3) dX8_boat_8 (tgt := 21) (by decide) c5 ?_
    refine j_aload_n (j := 0) dX8_boat_21 rfl rfl ?_
    refine j_getR (q := 2) FX8_10 rfl dX8_boat_22 (by decide) (by decide) rfl rfl (by decide) ?_
    refine j_getR (q := (2 + 5)) FX8_211 rfl dX8_boat_25 (VK_c 5 2 rfl).1 (VK_c 5 2 rfl).2.1 (VK_c 5 2 rfl).2.2 (lay5 (VK_c 5 2 rfl) (by decide)) (by omega) ?_
    refine j_iload_n (j := 1) dX8_boat_28 rfl rfl ?_
    obtain ⟨c6, h⟩ := chk_elim h
    have v7 : VK 0 (2 + 28 + x1.toNat) := (VK.b (VK_c 5 2 rfl) c6)
    refine j_aald (q := (2 + 28 + x1.toNat)) hx1 (by decide) (by decide) (by decide) (by decide) dX8_boat_29 (VK.f5 (VK_c 5 2 rfl)).1 (VK.f5 (VK_c 5 2 rfl)).2.1 (VK.f5 (VK_c 5 2 rfl)).2.2 c6 (lay15 (VK_c 5 2 rfl) c6) (by omega) ?_
    refine j_astore_n (lv' := [(3, .ref (gB g + (2 + 28 + x1.toNat))), (0, .ref (gB g + 1)), (1, vI x1), (2, vI x2)]) dX8_boat_30 rfl (by decide) (by first | rfl | (simp only [List.all_cons, List.all_nil, rv_cat]; rfl)) rfl ?_
    refine j_iload_n (j := 3) dX8_boat_31 rfl rfl ?_
    by_cases c8 : x2 = 0
    · rw [if_pos c8] at h
      refine j_table_in (tgt := 68) hx2 dX8_boat_32 (by omega) (by omega) (by rw [c8]; rfl) (by decide) ?_
      refine j_aload_n (j := 0) dX8_boat_68 rfl rfl ?_
      refine j_getI FX8_322 rfl dX8_boat_69 v7.1 v7.lt v7.ka (fun r9 => ?_)
      cases h
      exact j_iret dX8_boat_72 rfl rfl rfl r9
    · rw [if_neg c8] at h
      by_cases c10 : x2 = 1
      · rw [if_pos c10] at h
        refine j_table_in (tgt := 73) hx2 dX8_boat_32 (by omega) (by omega) (by rw [c10]; rfl) (by decide) ?_
        refine j_aload_n (j := 0) dX8_boat_73 rfl rfl ?_
        refine j_getI FX8_325 rfl dX8_boat_74 v7.1 v7.lt v7.ka (fun r11 => ?_)
        cases h
        exact j_iret dX8_boat_77 rfl rfl rfl r11
      · rw [if_neg c10] at h
        by_cases c12 : x2 = 2
        · rw [if_pos c12] at h
          refine j_table_in (tgt := 78) hx2 dX8_boat_32 (by omega) (by omega) (by rw [c12]; rfl) (by decide) ?_
          refine j_aload_n (j := 0) dX8_boat_78 rfl rfl ?_
          refine j_getI FX8_328 rfl dX8_boat_79 v7.1 v7.lt v7.ka (fun r13 => ?_)
          cases h
          exact j_iret dX8_boat_82 rfl rfl rfl r13
        · rw [if_neg c12] at h
          by_cases c14 : x2 = 3
          · rw [if_pos c14] at h
            refine j_table_in (tgt := 83) hx2 dX8_boat_32 (by omega) (by omega) (by rw [c14]; rfl) (by decide) ?_
            refine j_aload_n (j := 0) dX8_boat_83 rfl rfl ?_
            refine j_getI FX8_222 rfl dX8_boat_84 v7.1 v7.lt v7.ka (fun r15 => ?_)
            cases h
            exact j_iret dX8_boat_87 rfl rfl rfl r15
          · rw [if_neg c14] at h
            by_cases c16 : x2 = 4
            · rw [if_pos c16] at h
              refine j_table_in (tgt := 88) hx2 dX8_boat_32 (by omega) (by omega) (by rw [c16]; rfl) (by decide) ?_
              refine j_aload_n (j := 0) dX8_boat_88 rfl rfl ?_
              refine j_getI FX8_331 rfl dX8_boat_89 v7.1 v7.lt v7.ka (fun r17 => ?_)
              cases h
              exact j_iret dX8_boat_92 rfl rfl rfl r17
            · rw [if_neg c16] at h
              refine j_table_out (tgt := 93) hx2 dX8_boat_32 (by omega) (by decide) ?_
              cases h
              exact j_throwW (k := 1) TX8_51_334_55 (by decide) rfl (by omega) dX8_boat_93 dX8_boat_96 dX8_boat_97 dX8_boat_100 dX8_boat_103 rfl inR_0
theorem ctX8_boat {g : JG} {l : Launch} {d N : Nat} {A : AH} {out : Nat × Int × AH} {x1 : Int} {x2 : Int} (hl : l.stackTraces = false) (hd : 7 ≤ d) (hx1 : inR x1) (hx2 : inR x2) (h : fX8_boat N A x1 x2 = some out) : CT g l yX8_boat cX8_boat 4 (some .int) d [.ref (gB g + 1), vI x1, vI x2] A ((out.1, jv out.1 out.2.1, out.2.2) : JO) (inR out.2.1) :=
  CT_of (by decide +kernel) hl (by first | exact Nat.le_of_ble_eq_true rfl | (unfold rv; split <;> exact Nat.le_of_ble_eq_true rfl)) (by first | rfl | (unfold rv; split <;> rfl)) (j_sub (lv := [(0, .ref (gB g + 1)), (1, vI x1), (2, vI x2)]) [0, 1, 2] rfl (tX8_boat_0 hl hd hx1 hx2 h))
set_option maxRecDepth 100000 in
theorem tX8_canPassBy_0 {g : JG} {l : Launch} {d N n0 s0 : Nat} {out : Int} {A : AH} {x0 : Int} (hl : l.stackTraces = false) (hd : 1 ≤ d) (hx0 : inR x0) (h : fX8_canPassBy N A x0 = some out) : J g l d RX8 "canPassBy" cX8_canPassBy 1 (some .boolean) n0 s0 ((0, some (vI out), A) : JO) ((out = 0 ∨ out = 1)) 0 [(0, vI x0)] [] A := by
  unfold fX8_canPassBy at h
  refine j_iload_n (j := 0) dX8_canPassBy_0 rfl rfl ?_
  by_cases c1 : x0 < 0
  · rw [if_pos c1] at h
    refine j_if_lt_t hx0 dX8_canPassBy_1 (tgt := 14) (by decide) c1 ?_
    refine j_iconst dX8_canPassBy_14 ?_
    cases h
    exact j_iret dX8_canPassBy_15 rfl ((nar_bool (Or.inl rfl)).1) rfl (Or.inl rfl)
  · rw [if_neg c1] at h
    refine j_if_lt_f hx0 dX8_canPassBy_1 (tgt := 14) (by decide) c1 ?_
    refine j_iload_n (j := 0) dX8_canPassBy_4 rfl rfl ?_
    refine j_bipush dX8_canPassBy_5 rfl ?_
    by_cases c2 : 48 < x0
    · rw [if_pos c2] at h
      refine j_icmp_gt_t hx0 (inR_lit _ rfl) dX8_canPassBy_7 (tgt := 14) (by decide) c2 ?_
      refine j_iconst dX8_canPassBy_14 ?_
      cases h
      exact j_iret dX8_canPassBy_15 rfl ((nar_bool (Or.inl rfl)).1) rfl (Or.inl rfl)
    · rw [if_neg c2] at h
      refine j_icmp_gt_f hx0 (inR_lit _ rfl) dX8_canPassBy_7 (tgt := 14) (by decide) c2 ?_
      refine j_iconst dX8_canPassBy_10 ?_
      refine j_goto (tgt := 15) dX8_canPassBy_11 (by decide) ?_
      cases h
      exact j_iret dX8_canPassBy_15 rfl ((nar_bool (Or.inr rfl)).1) rfl (Or.inr rfl)
theorem ctX8_canPassBy {g : JG} {l : Launch} {d N : Nat} {A : AH} {out : Int} {x0 : Int} (hl : l.stackTraces = false) (hd : 1 ≤ d) (hx0 : inR x0) (h : fX8_canPassBy N A x0 = some out) : CT g l yX8_canPassBy cX8_canPassBy 1 (some .boolean) d [vI x0] A ((0, some (vI out), A) : JO) ((out = 0 ∨ out = 1)) :=
  CT_of (by decide +kernel) hl (by first | exact Nat.le_of_ble_eq_true rfl | (unfold rv; split <;> exact Nat.le_of_ble_eq_true rfl)) (by first | rfl | (unfold rv; split <;> rfl)) (j_sub (lv := [(0, vI x0)]) [0] rfl (tX8_canPassBy_0 hl hd hx0 h))
set_option maxRecDepth 100000 in
theorem tX8_pass_0 {g : JG} {l : Launch} {d N n0 s0 : Nat} {out : Nat × Int × AH} {A : AH} {x1 : Int} (hl : l.stackTraces = false) (hd : 7 ≤ d) (hx1 : inR x1) (h : fX8_pass N A x1 = some out) : J g l d RX8 "pass" cX8_pass 2 (some .int) n0 s0 ((out.1, jv out.1 out.2.1, out.2.2) : JO) (inR out.2.1) 0 [(0, .ref (gB g + 1)), (1, vI x1)] [] A := by
  unfold fX8_pass at h
  refine j_iload_n (j := 1) dX8_pass_0 rfl rfl ?_
  obtain ⟨z2, e1, h⟩ := obind_elim h
  refine j_callS MX8_336 YX8_canPassBy IX8_canPassBy (by decide) (by omega) (Nat.le_of_ble_eq_true rfl) rfl (ctX8_canPassBy (d := d - 1) hl (by omega) hx1 e1) dX8_pass_1 rfl (fun z3 _ => ?_)
  by_cases c5 : z2 = 0
  · rw [if_pos c5] at h
    refine j_if_ne_f (bool_inR z3) dX8_pass_4 (tgt := 18) (by decide) (fun q => q c5) ?_
    cases h
    exact j_throwW (k := 1) TX8_51_259_55 (by decide) rfl (by omega) dX8_pass_7 dX8_pass_10 dX8_pass_11 dX8_pass_14 dX8_pass_17 rfl inR_0
  · rw [if_neg c5] at h
    refine j_if_ne_t (bool_inR z3) dX8_pass_4 (tgt := 18) (by decide) c5 ?_
    refine j_aload_n (j := 0) dX8_pass_18 rfl rfl ?_
    refine j_getR (q := 2) FX8_10 rfl dX8_pass_19 (by decide) (by decide) rfl rfl (by decide) ?_
    refine j_getI FX8_339 rfl dX8_pass_22 (VK_c 5 2 rfl).1 (VK_c 5 2 rfl).lt (VK_c 5 2 rfl).ka (fun r6 => ?_)
    refine j_iload_n (j := 1) dX8_pass_25 rfl rfl ?_
    refine j_iadd dX8_pass_26 ?_
    refine j_sipush dX8_pass_27 rfl ?_
    by_cases c7 : (wrap ((gI A 2 5) + x1)) < 1000
    · rw [if_pos c7] at h
      refine j_icmp_lt_t (wrap_inR _) (inR_lit _ rfl) dX8_pass_30 (tgt := 44) (by decide) c7 ?_
      refine j_aload_n (j := 0) dX8_pass_44 rfl rfl ?_
      refine j_getR (q := 64) FX8_22 rfl dX8_pass_45 (by decide) (by decide) rfl rfl (by decide) ?_
      refine j_aload_n (j := 0) dX8_pass_48 rfl rfl ?_
      refine j_getR (q := 2) FX8_10 rfl dX8_pass_49 (by decide) (by decide) rfl rfl (by decide) ?_
      obtain ⟨p9, e8, h⟩ := obind_elim h
      refine j_callV MX8_66 YX1_add IX1_add SX1_add (by decide) rfl (by decide) (by omega) (Nat.le_of_ble_eq_true rfl) rfl (ctX1_add (d := d - 1) hl (by omega) (VK_c 5 2 rfl) e8) dX8_pass_52 (VK_c 1 64 rfl).1 (VK_c 1 64 rfl).lt (VK_c 1 64 rfl).ka rfl (fun z10 xt11 => ?_)
      refine j_aload_n (j := 0) dX8_pass_55 rfl rfl ?_
      refine j_getR (q := 2) FX8_10 rfl dX8_pass_56 (by decide) (by decide) rfl rfl (by decide) ?_
      refine j_iload_n (j := 1) dX8_pass_59 rfl rfl ?_
      obtain ⟨p13, e12, h⟩ := obind_elim h
      refine j_callV MX8_344 YX5_advance IX5_advance SX5_advance (by decide) rfl (by decide) (by omega) (Nat.le_of_ble_eq_true rfl) rfl (ctX5_advance (d := d - 1) hl (by omega) (VK_c 5 2 rfl) hx1 e12) dX8_pass_60 (VK_c 5 2 rfl).1 (VK_c 5 2 rfl).lt (VK_c 5 2 rfl).ka rfl (fun z14 xt15 => ?_)
      cases h
      exact j_iret dX8_pass_63 rfl rfl rfl z14
    · rw [if_neg c7] at h
      refine j_icmp_lt_f (wrap_inR _) (inR_lit _ rfl) dX8_pass_30 (tgt := 44) (by decide) c7 ?_
      cases h
      exact j_throwW (k := 2) TX8_93_342_97 (by decide) rfl (by omega) dX8_pass_33 dX8_pass_36 dX8_pass_37 dX8_pass_40 dX8_pass_43 rfl inR_0
theorem ctX8_pass {g : JG} {l : Launch} {d N : Nat} {A : AH} {out : Nat × Int × AH} {x1 : Int} (hl : l.stackTraces = false) (hd : 7 ≤ d) (hx1 : inR x1) (h : fX8_pass N A x1 = some out) : CT g l yX8_pass cX8_pass 2 (some .int) d [.ref (gB g + 1), vI x1] A ((out.1, jv out.1 out.2.1, out.2.2) : JO) (inR out.2.1) :=
  CT_of (by decide +kernel) hl (by first | exact Nat.le_of_ble_eq_true rfl | (unfold rv; split <;> exact Nat.le_of_ble_eq_true rfl)) (by first | rfl | (unfold rv; split <;> rfl)) (j_sub (lv := [(0, .ref (gB g + 1)), (1, vI x1)]) [0, 1] rfl (tX8_pass_0 hl hd hx1 h))
set_option maxRecDepth 100000 in
theorem tX8_number_68 {g : JG} {l : Launch} {d N n0 s0 : Nat} {out : Nat × Int × AH} {A : AH} {x1 : Int} (hl : l.stackTraces = false) (hd : 7 ≤ d) (hx1 : inR x1) (h : fX8_number_68 N A x1 = some out) : J g l d RX8 "number" cX8_number 2 (some .int) n0 s0 ((out.1, jv out.1 out.2.1, out.2.2) : JO) (inR out.2.1) 68 [(0, .ref (gB g + 1)), (1, vI x1)] [] A := by
  unfold fX8_number_68 at h
  refine j_iload_n (j := 1) dX8_number_68 rfl rfl ?_
  by_cases c1 : x1 = 4
  · rw [if_pos c1] at h
    refine j_table_in (tgt := 124) hx1 dX8_number_69 (by omega) (by omega) (by rw [c1]; rfl) (by decide) ?_
    refine j_aload_n (j := 0) dX8_number_124 rfl rfl ?_
    refine j_getR (q := 2) FX8_10 rfl dX8_number_125 (by decide) (by decide) rfl rfl (by decide) ?_
    refine j_getI FX8_339 rfl dX8_number_128 (VK_c 5 2 rfl).1 (VK_c 5 2 rfl).lt (VK_c 5 2 rfl).ka (fun r2 => ?_)
    cases h
    exact j_iret dX8_number_131 rfl rfl rfl r2
  · rw [if_neg c1] at h
    by_cases c3 : x1 = 5
    · rw [if_pos c3] at h
      refine j_table_in (tgt := 132) hx1 dX8_number_69 (by omega) (by omega) (by rw [c3]; rfl) (by decide) ?_
      refine j_aload_n (j := 0) dX8_number_132 rfl rfl ?_
      refine j_getR (q := 2) FX8_10 rfl dX8_number_133 (by decide) (by decide) rfl rfl (by decide) ?_
      refine j_getI FX8_90 rfl dX8_number_136 (VK_c 5 2 rfl).1 (VK_c 5 2 rfl).lt (VK_c 5 2 rfl).ka (fun r4 => ?_)
      cases h
      exact j_iret dX8_number_139 rfl rfl rfl r4
    · rw [if_neg c3] at h
      by_cases c5 : x1 = 6
      · rw [if_pos c5] at h
        refine j_table_in (tgt := 140) hx1 dX8_number_69 (by omega) (by omega) (by rw [c5]; rfl) (by decide) ?_
        refine j_aload_n (j := 0) dX8_number_140 rfl rfl ?_
        refine j_getR (q := 2) FX8_10 rfl dX8_number_141 (by decide) (by decide) rfl rfl (by decide) ?_
        refine j_getI FX8_103 rfl dX8_number_144 (VK_c 5 2 rfl).1 (VK_c 5 2 rfl).lt (VK_c 5 2 rfl).ka (fun r6 => ?_)
        cases h
        exact j_iret dX8_number_147 rfl rfl rfl r6
      · rw [if_neg c5] at h
        by_cases c7 : x1 = 7
        · rw [if_pos c7] at h
          refine j_table_in (tgt := 148) hx1 dX8_number_69 (by omega) (by omega) (by rw [c7]; rfl) (by decide) ?_
          refine j_aload_n (j := 0) dX8_number_148 rfl rfl ?_
          refine j_getR (q := 2) FX8_10 rfl dX8_number_149 (by decide) (by decide) rfl rfl (by decide) ?_
          obtain ⟨z9, e8, h⟩ := obind_elim h
          refine j_callV MX8_350 YX5_allRuns IX5_allRuns SX5_allRuns (by decide) rfl (by decide) (by omega) (Nat.le_of_ble_eq_true rfl) rfl (ctX5_allRuns (d := d - 1) hl (by omega) (VK_c 5 2 rfl) e8) dX8_number_152 (VK_c 5 2 rfl).1 (VK_c 5 2 rfl).lt (VK_c 5 2 rfl).ka rfl (fun z10 _ => ?_)
          cases h
          exact j_iret dX8_number_155 rfl rfl rfl z10
        · rw [if_neg c7] at h
          by_cases c12 : x1 = 8
          · rw [if_pos c12] at h
            refine j_table_in (tgt := 156) hx1 dX8_number_69 (by omega) (by omega) (by rw [c12]; rfl) (by decide) ?_
            refine j_aload_n (j := 0) dX8_number_156 rfl rfl ?_
            refine j_getR (q := 2) FX8_10 rfl dX8_number_157 (by decide) (by decide) rfl rfl (by decide) ?_
            obtain ⟨z14, e13, h⟩ := obind_elim h
            refine j_callV MX8_353 YX5_allRides IX5_allRides SX5_allRides (by decide) rfl (by decide) (by omega) (Nat.le_of_ble_eq_true rfl) rfl (ctX5_allRides (d := d - 1) hl (by omega) (VK_c 5 2 rfl) e13) dX8_number_160 (VK_c 5 2 rfl).1 (VK_c 5 2 rfl).lt (VK_c 5 2 rfl).ka rfl (fun z15 _ => ?_)
            cases h
            exact j_iret dX8_number_163 rfl rfl rfl z15
          · rw [if_neg c12] at h
            by_cases c17 : x1 = 9
            · rw [if_pos c17] at h
              refine j_table_in (tgt := 164) hx1 dX8_number_69 (by omega) (by omega) (by rw [c17]; rfl) (by decide) ?_
              refine j_aload_n (j := 0) dX8_number_164 rfl rfl ?_
              refine j_getR (q := 2) FX8_10 rfl dX8_number_165 (by decide) (by decide) rfl rfl (by decide) ?_
              obtain ⟨z19, e18, h⟩ := obind_elim h
              refine j_callV MX8_356 YX5_allTripHours IX5_allTripHours SX5_allTripHours (by decide) rfl (by decide) (by omega) (Nat.le_of_ble_eq_true rfl) rfl (ctX5_allTripHours (d := d - 1) hl (by omega) (VK_c 5 2 rfl) e18) dX8_number_168 (VK_c 5 2 rfl).1 (VK_c 5 2 rfl).lt (VK_c 5 2 rfl).ka rfl (fun z20 _ => ?_)
              cases h
              exact j_iret dX8_number_171 rfl rfl rfl z20
            · rw [if_neg c17] at h
              by_cases c22 : x1 = 10
              · rw [if_pos c22] at h
                refine j_table_in (tgt := 172) hx1 dX8_number_69 (by omega) (by omega) (by rw [c22]; rfl) (by decide) ?_
                refine j_aload_n (j := 0) dX8_number_172 rfl rfl ?_
                refine j_getR (q := 2) FX8_10 rfl dX8_number_173 (by decide) (by decide) rfl rfl (by decide) ?_
                obtain ⟨z24, e23, h⟩ := obind_elim h
                refine j_callV MX8_359 YX5_allPutOffs IX5_allPutOffs SX5_allPutOffs (by decide) rfl (by decide) (by omega) (Nat.le_of_ble_eq_true rfl) rfl (ctX5_allPutOffs (d := d - 1) hl (by omega) (VK_c 5 2 rfl) e23) dX8_number_176 (VK_c 5 2 rfl).1 (VK_c 5 2 rfl).lt (VK_c 5 2 rfl).ka rfl (fun z25 _ => ?_)
                cases h
                exact j_iret dX8_number_179 rfl rfl rfl z25
              · rw [if_neg c22] at h
                by_cases c27 : x1 = 11
                · rw [if_pos c27] at h
                  refine j_table_in (tgt := 180) hx1 dX8_number_69 (by omega) (by omega) (by rw [c27]; rfl) (by decide) ?_
                  refine j_aload_n (j := 0) dX8_number_180 rfl rfl ?_
                  refine j_getR (q := 2) FX8_10 rfl dX8_number_181 (by decide) (by decide) rfl rfl (by decide) ?_
                  obtain ⟨z29, e28, h⟩ := obind_elim h
                  refine j_callV MX8_362 YX5_pilotsUnderWay IX5_pilotsUnderWay SX5_pilotsUnderWay (by decide) rfl (by decide) (by omega) (Nat.le_of_ble_eq_true rfl) rfl (ctX5_pilotsUnderWay (d := d - 1) hl (by omega) (VK_c 5 2 rfl) e28) dX8_number_184 (VK_c 5 2 rfl).1 (VK_c 5 2 rfl).lt (VK_c 5 2 rfl).ka rfl (fun z30 _ => ?_)
                  cases h
                  exact j_iret dX8_number_187 rfl rfl rfl z30
                · rw [if_neg c27] at h
                  by_cases c32 : x1 = 12
                  · rw [if_pos c32] at h
                    refine j_table_in (tgt := 188) hx1 dX8_number_69 (by omega) (by omega) (by rw [c32]; rfl) (by decide) ?_
                    refine j_aload_n (j := 0) dX8_number_188 rfl rfl ?_
                    refine j_getR (q := 64) FX8_22 rfl dX8_number_189 (by decide) (by decide) rfl rfl (by decide) ?_
                    refine j_getI FX8_365 rfl dX8_number_192 (VK_c 1 64 rfl).1 (VK_c 1 64 rfl).lt (VK_c 1 64 rfl).ka (fun r33 => ?_)
                    cases h
                    exact j_iret dX8_number_195 rfl rfl rfl r33
                  · rw [if_neg c32] at h
                    by_cases c34 : x1 = 13
                    · rw [if_pos c34] at h
                      refine j_table_in (tgt := 196) hx1 dX8_number_69 (by omega) (by omega) (by rw [c34]; rfl) (by decide) ?_
                      refine j_aload_n (j := 0) dX8_number_196 rfl rfl ?_
                      refine j_getR (q := 345) FX8_29 rfl dX8_number_197 (by decide) (by decide) rfl rfl (by decide) ?_
                      refine j_getI FX8_368 rfl dX8_number_200 (VK_c 6 345 rfl).1 (VK_c 6 345 rfl).lt (VK_c 6 345 rfl).ka (fun r35 => ?_)
                      cases h
                      exact j_iret dX8_number_203 rfl rfl rfl r35
                    · rw [if_neg c34] at h
                      refine j_table_out (tgt := 204) hx1 dX8_number_69 (by omega) (by decide) ?_
                      cases h
                      exact j_throwW (k := 1) TX8_51_371_55 (by decide) rfl (by omega) dX8_number_204 dX8_number_207 dX8_number_208 dX8_number_211 dX8_number_214 rfl inR_0
set_option maxRecDepth 100000 in
theorem tX8_number_43 {g : JG} {l : Launch} {d N n0 s0 : Nat} {out : Nat × Int × AH} {A : AH} {x1 : Int} (hl : l.stackTraces = false) (hd : 7 ≤ d) (hx1 : inR x1) (h : fX8_number_43 N A x1 = some out) : J g l d RX8 "number" cX8_number 2 (some .int) n0 s0 ((out.1, jv out.1 out.2.1, out.2.2) : JO) (inR out.2.1) 43 [(0, .ref (gB g + 1)), (1, vI x1)] [] A := by
  unfold fX8_number_43 at h
  refine j_iload_n (j := 1) dX8_number_43 rfl rfl ?_
  refine j_bipush dX8_number_44 rfl ?_
  by_cases c1 : x1 < 30
  · rw [if_pos c1] at h
    refine j_icmp_lt_t hx1 (inR_lit _ rfl) dX8_number_46 (tgt := 68) (by decide) c1 ?_
    exact j_sub [0, 1] rfl (tX8_number_68 hl (by omega) hx1  h)
  · rw [if_neg c1] at h
    refine j_icmp_lt_f hx1 (inR_lit _ rfl) dX8_number_46 (tgt := 68) (by decide) c1 ?_
    refine j_iload_n (j := 1) dX8_number_49 rfl rfl ?_
    refine j_bipush dX8_number_50 rfl ?_
    by_cases c2 : 42 ≤ x1
    · rw [if_pos c2] at h
      refine j_icmp_ge_t hx1 (inR_lit _ rfl) dX8_number_52 (tgt := 68) (by decide) c2 ?_
      exact j_sub [0, 1] rfl (tX8_number_68 hl (by omega) hx1  h)
    · rw [if_neg c2] at h
      refine j_icmp_ge_f hx1 (inR_lit _ rfl) dX8_number_52 (tgt := 68) (by decide) c2 ?_
      refine j_aload_n (j := 0) dX8_number_55 rfl rfl ?_
      refine j_getR (q := 2) FX8_10 rfl dX8_number_56 (by decide) (by decide) rfl rfl (by decide) ?_
      refine j_getR (q := (2 + 2)) FX8_77 rfl dX8_number_59 (VK_c 5 2 rfl).1 (VK_c 5 2 rfl).2.1 (VK_c 5 2 rfl).2.2 (lay5 (VK_c 5 2 rfl) (by decide)) (by omega) ?_
      refine j_iload_n (j := 1) dX8_number_62 rfl rfl ?_
      refine j_bipush dX8_number_63 rfl ?_
      refine j_isub dX8_number_65 ?_
      obtain ⟨c3, h⟩ := chk_elim h
      refine j_iald (wrap_inR _) (by decide) (by decide) rfl dX8_number_66 (VK.f2 (VK_c 5 2 rfl)).1 (VK.f2 (VK_c 5 2 rfl)).lt (VK.f2 (VK_c 5 2 rfl)).ka c3 (fun r4 => ?_)
      cases h
      exact j_iret dX8_number_67 rfl rfl rfl r4
set_option maxRecDepth 100000 in
theorem tX8_number_18 {g : JG} {l : Launch} {d N n0 s0 : Nat} {out : Nat × Int × AH} {A : AH} {x1 : Int} (hl : l.stackTraces = false) (hd : 7 ≤ d) (hx1 : inR x1) (h : fX8_number_18 N A x1 = some out) : J g l d RX8 "number" cX8_number 2 (some .int) n0 s0 ((out.1, jv out.1 out.2.1, out.2.2) : JO) (inR out.2.1) 18 [(0, .ref (gB g + 1)), (1, vI x1)] [] A := by
  unfold fX8_number_18 at h
  refine j_iload_n (j := 1) dX8_number_18 rfl rfl ?_
  refine j_bipush dX8_number_19 rfl ?_
  by_cases c1 : x1 < 20
  · rw [if_pos c1] at h
    refine j_icmp_lt_t hx1 (inR_lit _ rfl) dX8_number_21 (tgt := 43) (by decide) c1 ?_
    exact j_sub [0, 1] rfl (tX8_number_43 hl (by omega) hx1  h)
  · rw [if_neg c1] at h
    refine j_icmp_lt_f hx1 (inR_lit _ rfl) dX8_number_21 (tgt := 43) (by decide) c1 ?_
    refine j_iload_n (j := 1) dX8_number_24 rfl rfl ?_
    refine j_bipush dX8_number_25 rfl ?_
    by_cases c2 : 25 ≤ x1
    · rw [if_pos c2] at h
      refine j_icmp_ge_t hx1 (inR_lit _ rfl) dX8_number_27 (tgt := 43) (by decide) c2 ?_
      exact j_sub [0, 1] rfl (tX8_number_43 hl (by omega) hx1  h)
    · rw [if_neg c2] at h
      refine j_icmp_ge_f hx1 (inR_lit _ rfl) dX8_number_27 (tgt := 43) (by decide) c2 ?_
      refine j_aload_n (j := 0) dX8_number_30 rfl rfl ?_
      refine j_getR (q := 2) FX8_10 rfl dX8_number_31 (by decide) (by decide) rfl rfl (by decide) ?_
      refine j_getR (q := (2 + 1)) FX8_70 rfl dX8_number_34 (VK_c 5 2 rfl).1 (VK_c 5 2 rfl).2.1 (VK_c 5 2 rfl).2.2 (lay5 (VK_c 5 2 rfl) (by decide)) (by omega) ?_
      refine j_iload_n (j := 1) dX8_number_37 rfl rfl ?_
      refine j_bipush dX8_number_38 rfl ?_
      refine j_isub dX8_number_40 ?_
      obtain ⟨c3, h⟩ := chk_elim h
      refine j_iald (wrap_inR _) (by decide) (by decide) rfl dX8_number_41 (VK.f1 (VK_c 5 2 rfl)).1 (VK.f1 (VK_c 5 2 rfl)).lt (VK.f1 (VK_c 5 2 rfl)).ka c3 (fun r4 => ?_)
      cases h
      exact j_iret dX8_number_42 rfl rfl rfl r4
set_option maxRecDepth 100000 in
theorem tX8_number_0 {g : JG} {l : Launch} {d N n0 s0 : Nat} {out : Nat × Int × AH} {A : AH} {x1 : Int} (hl : l.stackTraces = false) (hd : 7 ≤ d) (hx1 : inR x1) (h : fX8_number N A x1 = some out) : J g l d RX8 "number" cX8_number 2 (some .int) n0 s0 ((out.1, jv out.1 out.2.1, out.2.2) : JO) (inR out.2.1) 0 [(0, .ref (gB g + 1)), (1, vI x1)] [] A := by
  unfold fX8_number at h
  refine j_iload_n (j := 1) dX8_number_0 rfl rfl ?_
  by_cases c1 : x1 < 0
  · rw [if_pos c1] at h
    refine j_if_lt_t hx1 dX8_number_1 (tgt := 18) (by decide) c1 ?_
    exact j_sub [0, 1] rfl (tX8_number_18 hl (by omega) hx1  h)
  · rw [if_neg c1] at h
    refine j_if_lt_f hx1 dX8_number_1 (tgt := 18) (by decide) c1 ?_
    refine j_iload_n (j := 1) dX8_number_4 rfl rfl ?_
    refine j_iconst dX8_number_5 ?_
    by_cases c2 : 3 < x1
    · rw [if_pos c2] at h
      refine j_icmp_gt_t hx1 (inR_lit _ rfl) dX8_number_6 (tgt := 18) (by decide) c2 ?_
      exact j_sub [0, 1] rfl (tX8_number_18 hl (by omega) hx1  h)
    · rw [if_neg c2] at h
      refine j_icmp_gt_f hx1 (inR_lit _ rfl) dX8_number_6 (tgt := 18) (by decide) c2 ?_
      refine j_aload_n (j := 0) dX8_number_9 rfl rfl ?_
      refine j_getR (q := 2) FX8_10 rfl dX8_number_10 (by decide) (by decide) rfl rfl (by decide) ?_
      refine j_iload_n (j := 1) dX8_number_13 rfl rfl ?_
      obtain ⟨z4, e3, h⟩ := obind_elim h
      refine j_callV MX8_347 YX5_ordersIn IX5_ordersIn SX5_ordersIn (by decide) rfl (by decide) (by omega) (Nat.le_of_ble_eq_true rfl) rfl (ctX5_ordersIn (d := d - 1) hl (by omega) (VK_c 5 2 rfl) hx1 e3) dX8_number_14 (VK_c 5 2 rfl).1 (VK_c 5 2 rfl).lt (VK_c 5 2 rfl).ka rfl (fun z5 _ => ?_)
      cases h
      exact j_iret dX8_number_17 rfl rfl rfl z5
theorem ctX8_number {g : JG} {l : Launch} {d N : Nat} {A : AH} {out : Nat × Int × AH} {x1 : Int} (hl : l.stackTraces = false) (hd : 7 ≤ d) (hx1 : inR x1) (h : fX8_number N A x1 = some out) : CT g l yX8_number cX8_number 2 (some .int) d [.ref (gB g + 1), vI x1] A ((out.1, jv out.1 out.2.1, out.2.2) : JO) (inR out.2.1) :=
  CT_of (by decide +kernel) hl (by first | exact Nat.le_of_ble_eq_true rfl | (unfold rv; split <;> exact Nat.le_of_ble_eq_true rfl)) (by first | rfl | (unfold rv; split <;> rfl)) (j_sub (lv := [(0, .ref (gB g + 1)), (1, vI x1)]) [0, 1] rfl (tX8_number_0 hl hd hx1 h))
set_option maxRecDepth 100000 in
theorem tX8_meanWait_0 {g : JG} {l : Launch} {d N n0 s0 : Nat} {out : Nat × UInt64 × AH} {A : AH} (hl : l.stackTraces = false) (hd : 7 ≤ d) (h : fX8_meanWait N A  = some out) : J g l d RX8 "meanWait" cX8_meanWait 2 (some .double) n0 s0 ((out.1, (if out.1 = 0 then some (.double out.2.1) else none), out.2.2) : JO) (True) 0 [(0, .ref (gB g + 1))] [] A := by
  unfold fX8_meanWait at h
  refine j_aload_n (j := 0) dX8_meanWait_0 rfl rfl ?_
  refine j_getR (q := 2) FX8_10 rfl dX8_meanWait_1 (by decide) (by decide) rfl rfl (by decide) ?_
  refine j_iconst dX8_meanWait_4 ?_
  obtain ⟨z2, e1, h⟩ := obind_elim h
  refine j_callV MX8_347 YX5_ordersIn IX5_ordersIn SX5_ordersIn (by decide) rfl (by decide) (by omega) (Nat.le_of_ble_eq_true rfl) rfl (ctX5_ordersIn (d := d - 1) hl (by omega) (VK_c 5 2 rfl) (inR_lit _ rfl) e1) dX8_meanWait_5 (VK_c 5 2 rfl).1 (VK_c 5 2 rfl).lt (VK_c 5 2 rfl).ka rfl (fun z3 _ => ?_)
  refine j_aload_n (j := 0) dX8_meanWait_8 rfl rfl ?_
  refine j_getR (q := 2) FX8_10 rfl dX8_meanWait_9 (by decide) (by decide) rfl rfl (by decide) ?_
  refine j_iconst dX8_meanWait_12 ?_
  obtain ⟨z6, e5, h⟩ := obind_elim h
  refine j_callV MX8_347 YX5_ordersIn IX5_ordersIn SX5_ordersIn (by decide) rfl (by decide) (by omega) (Nat.le_of_ble_eq_true rfl) rfl (ctX5_ordersIn (d := d - 1) hl (by omega) (VK_c 5 2 rfl) (inR_lit _ rfl) e5) dX8_meanWait_13 (VK_c 5 2 rfl).1 (VK_c 5 2 rfl).lt (VK_c 5 2 rfl).ka rfl (fun z7 _ => ?_)
  refine j_iadd dX8_meanWait_16 ?_
  obtain ⟨u9, eu9, h⟩ := bnd_elim h
  have hu9 : inR u9 := by rw [eu9]; exact (wrap_inR _)
  refine j_nm eu9 ?_
  refine j_istore_n (lv' := [(1, vI u9), (0, .ref (gB g + 1))]) dX8_meanWait_17 rfl (by decide) (by first | rfl | (simp only [List.all_cons, List.all_nil, rv_cat]; rfl)) rfl ?_
  refine j_iload_n (j := 0) dX8_meanWait_18 rfl rfl ?_
  by_cases c10 : u9 = 0
  · rw [if_pos c10] at h
    refine j_if_ne_f hu9 dX8_meanWait_19 (tgt := 33) (by decide) (fun q => q c10) ?_
    cases h
    exact j_throwW (k := 4) TX8_373_375_377 (by decide) rfl (by omega) dX8_meanWait_22 dX8_meanWait_25 dX8_meanWait_26 dX8_meanWait_29 dX8_meanWait_32 rfl trivial
  · rw [if_neg c10] at h
    refine j_if_ne_t hu9 dX8_meanWait_19 (tgt := 33) (by decide) c10 ?_
    refine j_aload_n (j := 1) dX8_meanWait_33 rfl rfl ?_
    refine j_getR (q := 2) FX8_10 rfl dX8_meanWait_34 (by decide) (by decide) rfl rfl (by decide) ?_
    obtain ⟨z12, e11, h⟩ := obind_elim h
    refine j_callV MX8_378 YX5_allWaits IX5_allWaits SX5_allWaits (by decide) rfl (by decide) (by omega) (Nat.le_of_ble_eq_true rfl) rfl (ctX5_allWaits (d := d - 1) hl (by omega) (VK_c 5 2 rfl) e11) dX8_meanWait_37 (VK_c 5 2 rfl).1 (VK_c 5 2 rfl).lt (VK_c 5 2 rfl).ka rfl (fun z13 _ => ?_)
    refine j_i2d dX8_meanWait_40 ?_
    refine j_iload_n (j := 0) dX8_meanWait_41 rfl rfl ?_
    refine j_i2d dX8_meanWait_42 ?_
    obtain ⟨c15, h⟩ := chk_elim h
    refine j_ddiv c15 dX8_meanWait_43 ?_
    cases h
    exact j_dret dX8_meanWait_44 rfl rfl trivial
theorem ctX8_meanWait {g : JG} {l : Launch} {d N : Nat} {A : AH} {out : Nat × UInt64 × AH} (hl : l.stackTraces = false) (hd : 7 ≤ d) (h : fX8_meanWait N A  = some out) : CT g l yX8_meanWait cX8_meanWait 2 (some .double) d [.ref (gB g + 1)] A ((out.1, (if out.1 = 0 then some (.double out.2.1) else none), out.2.2) : JO) (True) :=
  CT_of (by decide +kernel) hl (by first | exact Nat.le_of_ble_eq_true rfl | (unfold rv; split <;> exact Nat.le_of_ble_eq_true rfl)) (by first | rfl | (unfold rv; split <;> rfl)) (j_sub (lv := [(0, .ref (gB g + 1))]) [0] rfl (tX8_meanWait_0 hl hd  h))
set_option maxRecDepth 100000 in
theorem tX8_share_0 {g : JG} {l : Launch} {d N n0 s0 : Nat} {out : Nat × UInt32 × AH} {A : AH} {x1 : Int} (hl : l.stackTraces = false) (hd : 8 ≤ d) (hx1 : inR x1) (h : fX8_share N A x1 = some out) : J g l d RX8 "share" cX8_share 2 (some .float) n0 s0 ((out.1, (if out.1 = 0 then some (.float out.2.1) else none), out.2.2) : JO) (True) 0 [(0, .ref (gB g + 1)), (1, vI x1)] [] A := by
  unfold fX8_share at h
  refine j_aload_n (j := 0) dX8_share_0 rfl rfl ?_
  refine j_iload_n (j := 1) dX8_share_1 rfl rfl ?_
  obtain ⟨p2, e1, h⟩ := obind_elim h
  have t6 := ctX8_requirePilot (d := d - 1) hl (by omega) hx1 e1 (g := g)
  by_cases c5 : p2.1 = 0
  rotate_left
  · rw [if_neg c5] at h
    cases h
    exact j_callVx MX8_180 YX8_requirePilot IX8_requirePilot SX8_requirePilot (by decide) rfl (by decide) (by omega) (Nat.le_of_ble_eq_true rfl) rfl t6 dX8_share_2 (VK_c 8 1 rfl).1 (VK_c 8 1 rfl).lt (VK_c 8 1 rfl).ka rfl c5 rfl trivial
  rw [if_pos c5] at h
  rw [c5] at t6
  refine j_callV MX8_180 YX8_requirePilot IX8_requirePilot SX8_requirePilot (by decide) rfl (by decide) (by omega) (Nat.le_of_ble_eq_true rfl) rfl t6 dX8_share_2 (VK_c 8 1 rfl).1 (VK_c 8 1 rfl).lt (VK_c 8 1 rfl).ka rfl (fun z3 xt4 => ?_)
  refine j_aload_n (j := 0) dX8_share_5 rfl rfl ?_
  refine j_getR (q := 2) FX8_10 rfl dX8_share_6 (by decide) (by decide) rfl rfl (by decide) ?_
  refine j_getI FX8_339 rfl dX8_share_9 (VK_c 5 2 rfl).1 (VK_c 5 2 rfl).lt (VK_c 5 2 rfl).ka (fun r7 => ?_)
  by_cases c8 : (gI p2.2 2 5) = 0
  · rw [if_pos c8] at h
    refine j_if_ne_f r7 dX8_share_12 (tgt := 26) (by decide) (fun q => q c8) ?_
    cases h
    exact j_throwW (k := 4) TX8_373_381_377 (by decide) rfl (by omega) dX8_share_15 dX8_share_18 dX8_share_19 dX8_share_22 dX8_share_25 rfl trivial
  · rw [if_neg c8] at h
    refine j_if_ne_t r7 dX8_share_12 (tgt := 26) (by decide) c8 ?_
    refine j_aload_n (j := 0) dX8_share_26 rfl rfl ?_
    refine j_getR (q := 2) FX8_10 rfl dX8_share_27 (by decide) (by decide) rfl rfl (by decide) ?_
    refine j_getR (q := (2 + 4)) FX8_183 rfl dX8_share_30 (VK_c 5 2 rfl).1 (VK_c 5 2 rfl).2.1 (VK_c 5 2 rfl).2.2 (lay5 (VK_c 5 2 rfl) (by decide)) (by omega) ?_
    refine j_iload_n (j := 1) dX8_share_33 rfl rfl ?_
    obtain ⟨c9, h⟩ := chk_elim h
    have v10 : VK 4 (2 + 22 + x1.toNat) := (VK.p (VK_c 5 2 rfl) c9)
    refine j_aald (q := (2 + 22 + x1.toNat)) hx1 (by decide) (by decide) (by decide) (by decide) dX8_share_34 (VK.f4 (VK_c 5 2 rfl)).1 (VK.f4 (VK_c 5 2 rfl)).2.1 (VK.f4 (VK_c 5 2 rfl)).2.2 c9 (lay14 (VK_c 5 2 rfl) c9) (by omega) ?_
    refine j_aload_n (j := 0) dX8_share_35 rfl rfl ?_
    refine j_getR (q := 2) FX8_10 rfl dX8_share_36 (by decide) (by decide) rfl rfl (by decide) ?_
    refine j_getI FX8_339 rfl dX8_share_39 (VK_c 5 2 rfl).1 (VK_c 5 2 rfl).lt (VK_c 5 2 rfl).ka (fun r11 => ?_)
    obtain ⟨z13, e12, h⟩ := obind_elim h
    refine j_callV MX8_290 YX4_tripHours IX4_tripHours SX4_tripHours (by decide) rfl (by decide) (by omega) (Nat.le_of_ble_eq_true rfl) rfl (ctX4_tripHours (d := d - 1) hl (by omega) v10 r11 e12) dX8_share_42 v10.1 v10.lt v10.ka rfl (fun z14 _ => ?_)
    refine j_i2f dX8_share_45 ?_
    refine j_aload_n (j := 0) dX8_share_46 rfl rfl ?_
    refine j_getR (q := 2) FX8_10 rfl dX8_share_47 (by decide) (by decide) rfl rfl (by decide) ?_
    refine j_getI FX8_339 rfl dX8_share_50 (VK_c 5 2 rfl).1 (VK_c 5 2 rfl).lt (VK_c 5 2 rfl).ka (fun r16 => ?_)
    refine j_i2f dX8_share_53 ?_
    obtain ⟨c17, h⟩ := chk_elim h
    refine j_fdiv c17 dX8_share_54 ?_
    cases h
    exact j_fret dX8_share_55 rfl rfl trivial
