set_option maxRecDepth 100000 in
theorem tX6_append_0 {g : JG} {l : Launch} {d N n0 s0 : Nat} {out : AH} {A : AH} {x1 : Int} (hl : l.stackTraces = false) (hd : 1 ≤ d) (hx1 : 0 ≤ x1 ∧ x1 < 65536) (h : fX6_append N A x1 = some out) : J g l d RX6 "append" cX6_append 2 none n0 s0 ((0, none, out) : JO) (True) 0 [(0, .ref (gB g + 345)), (1, vI x1)] [] A := by
  unfold fX6_append at h
  refine j_aload_n (j := 0) dX6_append_0 rfl rfl ?_
  refine j_getI FX6_15 rfl dX6_append_1 (VK_c 6 345 rfl).1 (VK_c 6 345 rfl).lt (VK_c 6 345 rfl).ka (fun r1 => ?_)
  refine j_bipush dX6_append_4 rfl ?_
  by_cases c2 : 60 ≤ (gI A 345 1)
  · rw [if_pos c2] at h
    refine j_icmp_ge_t r1 (inR_lit _ rfl) dX6_append_6 (tgt := 29) (by decide) c2 ?_
    cases h
    exact j_vret dX6_append_29 rfl rfl trivial
  · rw [if_neg c2] at h
    refine j_icmp_ge_f r1 (inR_lit _ rfl) dX6_append_6 (tgt := 29) (by decide) c2 ?_
    refine j_aload_n (j := 0) dX6_append_9 rfl rfl ?_
    refine j_getR (q := 346) FX6_9 rfl dX6_append_10 (by decide) (by decide) rfl rfl (by decide) ?_
    refine j_aload_n (j := 0) dX6_append_13 rfl rfl ?_
    refine j_getI FX6_15 rfl dX6_append_14 (VK_c 6 345 rfl).1 (VK_c 6 345 rfl).lt (VK_c 6 345 rfl).ka (fun r3 => ?_)
    refine j_iload_n (j := 1) dX6_append_17 rfl rfl ?_
    obtain ⟨c4, h⟩ := chk_elim h
    obtain ⟨A5, eA5, h⟩ := bnd_elim h
    have xA5 : XT A A5 := by rw [eA5]; exact XT_sI _ _ _ _
    refine j_cast r3 hx1 (by decide) (by decide) rfl dX6_append_18 (VK_c 17 346 rfl).1 (VK_c 17 346 rfl).lt (VK_c 17 346 rfl).ka c4 ?_
    refine j_hB eA5 ?_
    refine j_aload_n (j := 0) dX6_append_19 rfl rfl ?_
    refine j_dup dX6_append_20 rfl ?_
    refine j_getI FX6_15 rfl dX6_append_21 (VK_c 6 345 rfl).1 (VK_c 6 345 rfl).lt (VK_c 6 345 rfl).ka (fun r6 => ?_)
    refine j_iconst dX6_append_24 ?_
    refine j_iadd dX6_append_25 ?_
    obtain ⟨A7, eA7, h⟩ := bnd_elim h
    have xA7 : XT A5 A7 := by rw [eA7]; exact XT_sI _ _ _ _
    refine j_putI FX6_15 rfl rfl rfl (wrap_inR _) dX6_append_26 (VK_c 6 345 rfl).1 (VK_c 6 345 rfl).lt (VK_c 6 345 rfl).ka ?_
    refine j_hB eA7 ?_
    cases h
    exact j_vret dX6_append_29 rfl rfl trivial
theorem ctX6_append {g : JG} {l : Launch} {d N : Nat} {A : AH} {out : AH} {x1 : Int} (hl : l.stackTraces = false) (hd : 1 ≤ d) (hx1 : 0 ≤ x1 ∧ x1 < 65536) (h : fX6_append N A x1 = some out) : CT g l yX6_append cX6_append 2 none d [.ref (gB g + 345), vI x1] A ((0, none, out) : JO) (True) :=
  CT_of (by decide +kernel) hl (by first | exact Nat.le_of_ble_eq_true rfl | (unfold rv; split <;> exact Nat.le_of_ble_eq_true rfl)) (by first | rfl | (unfold rv; split <;> rfl)) (j_sub (lv := [(0, .ref (gB g + 345)), (1, vI x1)]) [0, 1] rfl (tX6_append_0 hl hd hx1 h))
set_option maxRecDepth 100000 in
theorem tX6_clear_0 {g : JG} {l : Launch} {d N n0 s0 : Nat} {out : AH} {A : AH} (hl : l.stackTraces = false) (hd : 1 ≤ d) (h : fX6_clear N A  = some out) : J g l d RX6 "clear" cX6_clear 1 none n0 s0 ((0, none, out) : JO) (True) 0 [(0, .ref (gB g + 345))] [] A := by
  unfold fX6_clear at h
  refine j_aload_n (j := 0) dX6_clear_0 rfl rfl ?_
  refine j_iconst dX6_clear_1 ?_
  obtain ⟨A1, eA1, h⟩ := bnd_elim h
  have xA1 : XT A A1 := by rw [eA1]; exact XT_sI _ _ _ _
  refine j_putI FX6_15 rfl rfl rfl (inR_lit _ rfl) dX6_clear_2 (VK_c 6 345 rfl).1 (VK_c 6 345 rfl).lt (VK_c 6 345 rfl).ka ?_
  refine j_hB eA1 ?_
  cases h
  exact j_vret dX6_clear_5 rfl rfl trivial
theorem ctX6_clear {g : JG} {l : Launch} {d N : Nat} {A : AH} {out : AH} (hl : l.stackTraces = false) (hd : 1 ≤ d) (h : fX6_clear N A  = some out) : CT g l yX6_clear cX6_clear 1 none d [.ref (gB g + 345)] A ((0, none, out) : JO) (True) :=
  CT_of (by decide +kernel) hl (by first | exact Nat.le_of_ble_eq_true rfl | (unfold rv; split <;> exact Nat.le_of_ble_eq_true rfl)) (by first | rfl | (unfold rv; split <;> rfl)) (j_sub (lv := [(0, .ref (gB g + 345))]) [0] rfl (tX6_clear_0 hl hd  h))
set_option maxRecDepth 100000 in
theorem tX6_rewind_0 {g : JG} {l : Launch} {d N n0 s0 : Nat} {out : AH} {A : AH} (hl : l.stackTraces = false) (hd : 1 ≤ d) (h : fX6_rewind N A  = some out) : J g l d RX6 "rewind" cX6_rewind 1 none n0 s0 ((0, none, out) : JO) (True) 0 [(0, .ref (gB g + 345))] [] A := by
  unfold fX6_rewind at h
  refine j_aload_n (j := 0) dX6_rewind_0 rfl rfl ?_
  refine j_iconst dX6_rewind_1 ?_
  obtain ⟨A1, eA1, h⟩ := bnd_elim h
  have xA1 : XT A A1 := by rw [eA1]; exact XT_sI _ _ _ _
  refine j_putI FX6_19 rfl rfl rfl (inR_lit _ rfl) dX6_rewind_2 (VK_c 6 345 rfl).1 (VK_c 6 345 rfl).lt (VK_c 6 345 rfl).ka ?_
  refine j_hB eA1 ?_
  cases h
  exact j_vret dX6_rewind_5 rfl rfl trivial
theorem ctX6_rewind {g : JG} {l : Launch} {d N : Nat} {A : AH} {out : AH} (hl : l.stackTraces = false) (hd : 1 ≤ d) (h : fX6_rewind N A  = some out) : CT g l yX6_rewind cX6_rewind 1 none d [.ref (gB g + 345)] A ((0, none, out) : JO) (True) :=
  CT_of (by decide +kernel) hl (by first | exact Nat.le_of_ble_eq_true rfl | (unfold rv; split <;> exact Nat.le_of_ble_eq_true rfl)) (by first | rfl | (unfold rv; split <;> rfl)) (j_sub (lv := [(0, .ref (gB g + 345))]) [0] rfl (tX6_rewind_0 hl hd  h))
set_option maxRecDepth 100000 in
theorem tX6_peek_0 {g : JG} {l : Launch} {d N n0 s0 : Nat} {out : Int} {A : AH} (hl : l.stackTraces = false) (hd : 1 ≤ d) (h : fX6_peek N A  = some out) : J g l d RX6 "peek" cX6_peek 1 (some .char) n0 s0 ((0, some (vI out), A) : JO) ((0 ≤ out ∧ out < 65536)) 0 [(0, .ref (gB g + 345))] [] A := by
  unfold fX6_peek at h
  refine j_aload_n (j := 0) dX6_peek_0 rfl rfl ?_
  refine j_getI FX6_19 rfl dX6_peek_1 (VK_c 6 345 rfl).1 (VK_c 6 345 rfl).lt (VK_c 6 345 rfl).ka (fun r1 => ?_)
  by_cases c2 : (gI A 345 2) < 0
  · rw [if_pos c2] at h
    refine j_if_lt_t r1 dX6_peek_4 (tgt := 30) (by decide) c2 ?_
    refine j_iconst dX6_peek_30 ?_
    cases h
    exact j_iret dX6_peek_31 rfl ((nar_char (by decide) (by decide)).1) rfl (by decide)
  · rw [if_neg c2] at h
    refine j_if_lt_f r1 dX6_peek_4 (tgt := 30) (by decide) c2 ?_
    refine j_aload_n (j := 0) dX6_peek_7 rfl rfl ?_
    refine j_getI FX6_19 rfl dX6_peek_8 (VK_c 6 345 rfl).1 (VK_c 6 345 rfl).lt (VK_c 6 345 rfl).ka (fun r3 => ?_)
    refine j_aload_n (j := 0) dX6_peek_11 rfl rfl ?_
    refine j_getI FX6_15 rfl dX6_peek_12 (VK_c 6 345 rfl).1 (VK_c 6 345 rfl).lt (VK_c 6 345 rfl).ka (fun r4 => ?_)
    by_cases c5 : (gI A 345 1) ≤ (gI A 345 2)
    · rw [if_pos c5] at h
      refine j_icmp_ge_t r3 r4 dX6_peek_15 (tgt := 30) (by decide) c5 ?_
      refine j_iconst dX6_peek_30 ?_
      cases h
      exact j_iret dX6_peek_31 rfl ((nar_char (by decide) (by decide)).1) rfl (by decide)
    · rw [if_neg c5] at h
      refine j_icmp_ge_f r3 r4 dX6_peek_15 (tgt := 30) (by decide) c5 ?_
      refine j_aload_n (j := 0) dX6_peek_18 rfl rfl ?_
      refine j_getR (q := 346) FX6_9 rfl dX6_peek_19 (by decide) (by decide) rfl rfl (by decide) ?_
      refine j_aload_n (j := 0) dX6_peek_22 rfl rfl ?_
      refine j_getI FX6_19 rfl dX6_peek_23 (VK_c 6 345 rfl).1 (VK_c 6 345 rfl).lt (VK_c 6 345 rfl).ka (fun r6 => ?_)
      obtain ⟨c7, h⟩ := chk_elim h
      refine j_cald r6 (by decide) (by decide) rfl dX6_peek_26 (VK_c 17 346 rfl).1 (VK_c 17 346 rfl).lt (VK_c 17 346 rfl).ka c7 (fun r8 => ?_)
      refine j_goto (tgt := 31) dX6_peek_27 (by decide) ?_
      obtain ⟨c9, h⟩ := chk_elim h
      cases h
      exact j_iret dX6_peek_31 rfl ((nar_char c9.1 c9.2).1) rfl c9
theorem ctX6_peek {g : JG} {l : Launch} {d N : Nat} {A : AH} {out : Int} (hl : l.stackTraces = false) (hd : 1 ≤ d) (h : fX6_peek N A  = some out) : CT g l yX6_peek cX6_peek 1 (some .char) d [.ref (gB g + 345)] A ((0, some (vI out), A) : JO) ((0 ≤ out ∧ out < 65536)) :=
  CT_of (by decide +kernel) hl (by first | exact Nat.le_of_ble_eq_true rfl | (unfold rv; split <;> exact Nat.le_of_ble_eq_true rfl)) (by first | rfl | (unfold rv; split <;> rfl)) (j_sub (lv := [(0, .ref (gB g + 345))]) [0] rfl (tX6_peek_0 hl hd  h))
set_option maxRecDepth 100000 in
theorem tX6_accept_0 {g : JG} {l : Launch} {d N n0 s0 : Nat} {out : Int × AH} {A : AH} {x1 : Int} (hl : l.stackTraces = false) (hd : 2 ≤ d) (hx1 : 0 ≤ x1 ∧ x1 < 65536) (h : fX6_accept N A x1 = some out) : J g l d RX6 "accept" cX6_accept 2 (some .boolean) n0 s0 ((0, some (vI out.1), out.2) : JO) ((out.1 = 0 ∨ out.1 = 1)) 0 [(0, .ref (gB g + 345)), (1, vI x1)] [] A := by
  unfold fX6_accept at h
  refine j_aload_n (j := 0) dX6_accept_0 rfl rfl ?_
  obtain ⟨z2, e1, h⟩ := obind_elim h
  refine j_callV MX6_33 YX6_peek IX6_peek SX6_peek (by decide) rfl (by decide) (by omega) (Nat.le_of_ble_eq_true rfl) rfl (ctX6_peek (d := d - 1) hl (by omega)  e1) dX6_accept_1 (VK_c 6 345 rfl).1 (VK_c 6 345 rfl).lt (VK_c 6 345 rfl).ka rfl (fun z3 _ => ?_)
  refine j_iload_n (j := 1) dX6_accept_4 rfl rfl ?_
  by_cases c5 : z2 = x1
  · rw [if_pos c5] at h
    refine j_icmp_eq_t (char_inR z3) (char_inR hx1) dX6_accept_5 (tgt := 10) (by decide) c5 ?_
    refine j_aload_n (j := 0) dX6_accept_10 rfl rfl ?_
    refine j_dup dX6_accept_11 rfl ?_
    refine j_getI FX6_19 rfl dX6_accept_12 (VK_c 6 345 rfl).1 (VK_c 6 345 rfl).lt (VK_c 6 345 rfl).ka (fun r6 => ?_)
    refine j_iconst dX6_accept_15 ?_
    refine j_iadd dX6_accept_16 ?_
    obtain ⟨A7, eA7, h⟩ := bnd_elim h
    have xA7 : XT A A7 := by rw [eA7]; exact XT_sI _ _ _ _
    refine j_putI FX6_19 rfl rfl rfl (wrap_inR _) dX6_accept_17 (VK_c 6 345 rfl).1 (VK_c 6 345 rfl).lt (VK_c 6 345 rfl).ka ?_
    refine j_hB eA7 ?_
    refine j_iconst dX6_accept_20 ?_
    cases h
    exact j_iret dX6_accept_21 rfl ((nar_bool (Or.inr rfl)).1) rfl (Or.inr rfl)
  · rw [if_neg c5] at h
    refine j_icmp_eq_f (char_inR z3) (char_inR hx1) dX6_accept_5 (tgt := 10) (by decide) c5 ?_
    refine j_iconst dX6_accept_8 ?_
    cases h
    exact j_iret dX6_accept_9 rfl ((nar_bool (Or.inl rfl)).1) rfl (Or.inl rfl)
theorem ctX6_accept {g : JG} {l : Launch} {d N : Nat} {A : AH} {out : Int × AH} {x1 : Int} (hl : l.stackTraces = false) (hd : 2 ≤ d) (hx1 : 0 ≤ x1 ∧ x1 < 65536) (h : fX6_accept N A x1 = some out) : CT g l yX6_accept cX6_accept 2 (some .boolean) d [.ref (gB g + 345), vI x1] A ((0, some (vI out.1), out.2) : JO) ((out.1 = 0 ∨ out.1 = 1)) :=
  CT_of (by decide +kernel) hl (by first | exact Nat.le_of_ble_eq_true rfl | (unfold rv; split <;> exact Nat.le_of_ble_eq_true rfl)) (by first | rfl | (unfold rv; split <;> rfl)) (j_sub (lv := [(0, .ref (gB g + 345)), (1, vI x1)]) [0, 1] rfl (tX6_accept_0 hl hd hx1 h))
set_option maxRecDepth 100000 in
theorem tX6_isDigit_0 {g : JG} {l : Launch} {d N n0 s0 : Nat} {out : Int} {A : AH} {x0 : Int} (hl : l.stackTraces = false) (hd : 1 ≤ d) (hx0 : 0 ≤ x0 ∧ x0 < 65536) (h : fX6_isDigit N A x0 = some out) : J g l d RX6 "isDigit" cX6_isDigit 1 (some .boolean) n0 s0 ((0, some (vI out), A) : JO) ((out = 0 ∨ out = 1)) 0 [(0, vI x0)] [] A := by
  unfold fX6_isDigit at h
  refine j_iload_n (j := 0) dX6_isDigit_0 rfl rfl ?_
  refine j_bipush dX6_isDigit_1 rfl ?_
  by_cases c1 : x0 < 48
  · rw [if_pos c1] at h
    refine j_icmp_lt_t (char_inR hx0) (inR_lit _ rfl) dX6_isDigit_3 (tgt := 16) (by decide) c1 ?_
    refine j_iconst dX6_isDigit_16 ?_
    cases h
    exact j_iret dX6_isDigit_17 rfl ((nar_bool (Or.inl rfl)).1) rfl (Or.inl rfl)
  · rw [if_neg c1] at h
    refine j_icmp_lt_f (char_inR hx0) (inR_lit _ rfl) dX6_isDigit_3 (tgt := 16) (by decide) c1 ?_
    refine j_iload_n (j := 0) dX6_isDigit_6 rfl rfl ?_
    refine j_bipush dX6_isDigit_7 rfl ?_
    by_cases c2 : 57 < x0
    · rw [if_pos c2] at h
      refine j_icmp_gt_t (char_inR hx0) (inR_lit _ rfl) dX6_isDigit_9 (tgt := 16) (by decide) c2 ?_
      refine j_iconst dX6_isDigit_16 ?_
      cases h
      exact j_iret dX6_isDigit_17 rfl ((nar_bool (Or.inl rfl)).1) rfl (Or.inl rfl)
    · rw [if_neg c2] at h
      refine j_icmp_gt_f (char_inR hx0) (inR_lit _ rfl) dX6_isDigit_9 (tgt := 16) (by decide) c2 ?_
      refine j_iconst dX6_isDigit_12 ?_
      refine j_goto (tgt := 17) dX6_isDigit_13 (by decide) ?_
      cases h
      exact j_iret dX6_isDigit_17 rfl ((nar_bool (Or.inr rfl)).1) rfl (Or.inr rfl)
theorem ctX6_isDigit {g : JG} {l : Launch} {d N : Nat} {A : AH} {out : Int} {x0 : Int} (hl : l.stackTraces = false) (hd : 1 ≤ d) (hx0 : 0 ≤ x0 ∧ x0 < 65536) (h : fX6_isDigit N A x0 = some out) : CT g l yX6_isDigit cX6_isDigit 1 (some .boolean) d [vI x0] A ((0, some (vI out), A) : JO) ((out = 0 ∨ out = 1)) :=
  CT_of (by decide +kernel) hl (by first | exact Nat.le_of_ble_eq_true rfl | (unfold rv; split <;> exact Nat.le_of_ble_eq_true rfl)) (by first | rfl | (unfold rv; split <;> rfl)) (j_sub (lv := [(0, vI x0)]) [0] rfl (tX6_isDigit_0 hl hd hx0 h))
set_option maxRecDepth 100000 in
theorem tX6_readNumber_4 {g : JG} {l : Launch} {d N n0 s0 : Nat} {out : Int × AH} (hl : l.stackTraces = false) (hd : 2 ≤ d) : ∀ (n : Nat) (A : AH) (x1 : Int) (x2 : Int), inR x1 → inR x2 → fX6_readNumber_4 N n A x1 x2 = some out → J g l d RX6 "readNumber" cX6_readNumber 3 (some .int) n0 s0 ((0, some (vI out.1), out.2) : JO) (inR out.1) 4 [(0, .ref (gB g + 345)), (1, vI x1), (2, vI x2)] [] A := by
  intro n
  induction n with
  | zero =>
    intro A x1 x2 hx1 hx2 h
    rw [fX6_readNumber_4] at h
    cases h
  | succ n ih =>
    intro A x1 x2 hx1 hx2 h
    rw [fX6_readNumber_4] at h
    refine j_iload_n (j := 2) dX6_readNumber_4 rfl rfl ?_
    refine j_iconst dX6_readNumber_5 ?_
    by_cases c1 : 3 ≤ x2
    · rw [if_pos c1] at h
      refine j_icmp_ge_t hx2 (inR_lit _ rfl) dX6_readNumber_6 (tgt := 52) (by decide) c1 ?_
      refine j_iload_n (j := 1) dX6_readNumber_52 rfl rfl ?_
      cases h
      exact j_iret dX6_readNumber_53 rfl rfl rfl hx1
    · rw [if_neg c1] at h
      refine j_icmp_ge_f hx2 (inR_lit _ rfl) dX6_readNumber_6 (tgt := 52) (by decide) c1 ?_
      refine j_aload_n (j := 0) dX6_readNumber_9 rfl rfl ?_
      obtain ⟨z3, e2, h⟩ := obind_elim h
      refine j_callV MX6_33 YX6_peek IX6_peek SX6_peek (by decide) rfl (by decide) (by omega) (Nat.le_of_ble_eq_true rfl) rfl (ctX6_peek (d := d - 1) hl (by omega)  e2) dX6_readNumber_10 (VK_c 6 345 rfl).1 (VK_c 6 345 rfl).lt (VK_c 6 345 rfl).ka rfl (fun z4 _ => ?_)
      obtain ⟨z7, e6, h⟩ := obind_elim h
      refine j_callS MX6_60 YX6_isDigit IX6_isDigit (by decide) (by omega) (Nat.le_of_ble_eq_true rfl) rfl (ctX6_isDigit (d := d - 1) hl (by omega) z4 e6) dX6_readNumber_13 rfl (fun z8 _ => ?_)
      by_cases c10 : z7 = 0
      · rw [if_pos c10] at h
        refine j_if_eq_t (bool_inR z8) dX6_readNumber_16 (tgt := 52) (by decide) c10 ?_
        refine j_iload_n (j := 1) dX6_readNumber_52 rfl rfl ?_
        cases h
        exact j_iret dX6_readNumber_53 rfl rfl rfl hx1
      · rw [if_neg c10] at h
        refine j_if_eq_f (bool_inR z8) dX6_readNumber_16 (tgt := 52) (by decide) c10 ?_
        refine j_iload_n (j := 1) dX6_readNumber_19 rfl rfl ?_
        refine j_iconst dX6_readNumber_20 ?_
        refine j_mmax hx1 (inR_lit _ rfl) MX6_63 MMmaxa MMi MMmaxc dX6_readNumber_21 (Nat.le_of_ble_eq_true rfl) (by omega) ?_
        refine j_bipush dX6_readNumber_24 rfl ?_
        refine j_imul dX6_readNumber_26 ?_
        refine j_aload_n (j := 0) dX6_readNumber_27 rfl rfl ?_
        obtain ⟨z12, e11, h⟩ := obind_elim h
        refine j_callV MX6_33 YX6_peek IX6_peek SX6_peek (by decide) rfl (by decide) (by omega) (Nat.le_of_ble_eq_true rfl) rfl (ctX6_peek (d := d - 1) hl (by omega)  e11) dX6_readNumber_28 (VK_c 6 345 rfl).1 (VK_c 6 345 rfl).lt (VK_c 6 345 rfl).ka rfl (fun z13 _ => ?_)
        refine j_bipush dX6_readNumber_31 rfl ?_
        refine j_isub dX6_readNumber_33 ?_
        refine j_iadd dX6_readNumber_34 ?_
        obtain ⟨u15, eu15, h⟩ := bnd_elim h
        have hu15 : inR u15 := by rw [eu15]; exact (wrap_inR _)
        refine j_nm eu15 ?_
        refine j_istore_n (lv' := [(1, vI u15), (0, .ref (gB g + 345)), (2, vI x2)]) dX6_readNumber_35 rfl (by decide) (by first | rfl | (simp only [List.all_cons, List.all_nil, rv_cat]; rfl)) rfl ?_
        refine j_aload_n (j := 1) dX6_readNumber_36 rfl rfl ?_
        refine j_dup dX6_readNumber_37 rfl ?_
        refine j_getI FX6_19 rfl dX6_readNumber_38 (VK_c 6 345 rfl).1 (VK_c 6 345 rfl).lt (VK_c 6 345 rfl).ka (fun r16 => ?_)
        refine j_iconst dX6_readNumber_41 ?_
        refine j_iadd dX6_readNumber_42 ?_
        obtain ⟨A17, eA17, h⟩ := bnd_elim h
        have xA17 : XT A A17 := by rw [eA17]; exact XT_sI _ _ _ _
        refine j_putI FX6_19 rfl rfl rfl (wrap_inR _) dX6_readNumber_43 (VK_c 6 345 rfl).1 (VK_c 6 345 rfl).lt (VK_c 6 345 rfl).ka ?_
        refine j_hB eA17 ?_
        obtain ⟨u18, eu18, h⟩ := bnd_elim h
        have hu18 : inR u18 := by rw [eu18]; exact wrap_inR _
        refine j_iincN (k := 2) (lv' := [(2, vI u18), (1, vI u15), (0, .ref (gB g + 345))]) eu18 dX6_readNumber_46 rfl (by decide) (by first | rfl | (simp only [List.all_cons, List.all_nil, rv_cat]; rfl)) rfl ?_
        refine j_goto (tgt := 4) dX6_readNumber_49 (by decide) ?_
        exact j_sub [2, 1, 0] rfl (ih A17 u15 u18 hu15 hu18 h)
set_option maxRecDepth 100000 in
theorem tX6_readNumber_0 {g : JG} {l : Launch} {d N n0 s0 : Nat} {out : Int × AH} {A : AH} (hl : l.stackTraces = false) (hd : 2 ≤ d) (h : fX6_readNumber N A  = some out) : J g l d RX6 "readNumber" cX6_readNumber 3 (some .int) n0 s0 ((0, some (vI out.1), out.2) : JO) (inR out.1) 0 [(0, .ref (gB g + 345))] [] A := by
  unfold fX6_readNumber at h
  refine j_iconst dX6_readNumber_0 ?_
  refine j_istore_n (lv' := [(1, vI (-1)), (0, .ref (gB g + 345))]) dX6_readNumber_1 rfl (by decide) (by first | rfl | (simp only [List.all_cons, List.all_nil, rv_cat]; rfl)) rfl ?_
  refine j_iconst dX6_readNumber_2 ?_
  refine j_istore_n (lv' := [(2, vI 0), (1, vI (-1)), (0, .ref (gB g + 345))]) dX6_readNumber_3 rfl (by decide) (by first | rfl | (simp only [List.all_cons, List.all_nil, rv_cat]; rfl)) rfl ?_
  exact j_sub [2, 1, 0] rfl (tX6_readNumber_4 hl (by omega)   N A (-1) 0 (inR_lit _ rfl) (inR_lit _ rfl) h)
theorem ctX6_readNumber {g : JG} {l : Launch} {d N : Nat} {A : AH} {out : Int × AH} (hl : l.stackTraces = false) (hd : 2 ≤ d) (h : fX6_readNumber N A  = some out) : CT g l yX6_readNumber cX6_readNumber 3 (some .int) d [.ref (gB g + 345)] A ((0, some (vI out.1), out.2) : JO) (inR out.1) :=
  CT_of (by decide +kernel) hl (by first | exact Nat.le_of_ble_eq_true rfl | (unfold rv; split <;> exact Nat.le_of_ble_eq_true rfl)) (by first | rfl | (unfold rv; split <;> rfl)) (j_sub (lv := [(0, .ref (gB g + 345))]) [0] rfl (tX6_readNumber_0 hl hd  h))
set_option maxRecDepth 100000 in
theorem tX6_readOrder_28 {g : JG} {l : Launch} {d N n0 s0 : Nat} {out : Int × AH} {A : AH} (hl : l.stackTraces = false) (hd : 3 ≤ d) (h : fX6_readOrder_28 N A  = some out) : J g l d RX6 "readOrder" cX6_readOrder 1 (some .boolean) n0 s0 ((0, some (vI out.1), out.2) : JO) ((out.1 = 0 ∨ out.1 = 1)) 28 [(0, .ref (gB g + 345))] [] A := by
  unfold fX6_readOrder_28 at h
  refine j_aload_n (j := 0) dX6_readOrder_28 rfl rfl ?_
  refine j_aload_n (j := 0) dX6_readOrder_29 rfl rfl ?_
  obtain ⟨p2, e1, h⟩ := obind_elim h
  refine j_callV MX6_47 YX6_readNumber IX6_readNumber SX6_readNumber (by decide) rfl (by decide) (by omega) (Nat.le_of_ble_eq_true rfl) rfl (ctX6_readNumber (d := d - 1) hl (by omega)  e1) dX6_readOrder_30 (VK_c 6 345 rfl).1 (VK_c 6 345 rfl).lt (VK_c 6 345 rfl).ka rfl (fun z3 xt4 => ?_)
  obtain ⟨A5, eA5, h⟩ := bnd_elim h
  have xA5 : XT p2.2 A5 := by rw [eA5]; exact XT_sI _ _ _ _
  refine j_putI FX6_51 rfl rfl rfl z3 dX6_readOrder_33 (VK_c 6 345 rfl).1 (VK_c 6 345 rfl).lt (VK_c 6 345 rfl).ka ?_
  refine j_hB eA5 ?_
  refine j_aload_n (j := 0) dX6_readOrder_36 rfl rfl ?_
  refine j_getI FX6_51 rfl dX6_readOrder_37 (VK_c 6 345 rfl).1 (VK_c 6 345 rfl).lt (VK_c 6 345 rfl).ka (fun r6 => ?_)
  refine j_iconst dX6_readOrder_40 ?_
  by_cases c7 : (gI A5 345 5) = (-1)
  · rw [if_pos c7] at h
    refine j_icmp_eq_t r6 (inR_lit _ rfl) dX6_readOrder_41 (tgt := 53) (by decide) c7 ?_
    refine j_iconst dX6_readOrder_53 ?_
    cases h
    exact j_iret dX6_readOrder_54 rfl ((nar_bool (Or.inl rfl)).1) rfl (Or.inl rfl)
  · rw [if_neg c7] at h
    refine j_icmp_eq_f r6 (inR_lit _ rfl) dX6_readOrder_41 (tgt := 53) (by decide) c7 ?_
    refine j_aload_n (j := 0) dX6_readOrder_44 rfl rfl ?_
    refine j_bipush dX6_readOrder_45 rfl ?_
    obtain ⟨p9, e8, h⟩ := obind_elim h
    refine j_callV MX6_29 YX6_accept IX6_accept SX6_accept (by decide) rfl (by decide) (by omega) (Nat.le_of_ble_eq_true rfl) rfl (ctX6_accept (d := d - 1) hl (by omega) (by decide) e8) dX6_readOrder_47 (VK_c 6 345 rfl).1 (VK_c 6 345 rfl).lt (VK_c 6 345 rfl).ka rfl (fun z10 xt11 => ?_)
    by_cases c12 : p9.1 = 0
    · rw [if_pos c12] at h
      refine j_if_ne_f (bool_inR z10) dX6_readOrder_50 (tgt := 55) (by decide) (fun q => q c12) ?_
      refine j_iconst dX6_readOrder_53 ?_
      cases h
      exact j_iret dX6_readOrder_54 rfl ((nar_bool (Or.inl rfl)).1) rfl (Or.inl rfl)
    · rw [if_neg c12] at h
      refine j_if_ne_t (bool_inR z10) dX6_readOrder_50 (tgt := 55) (by decide) c12 ?_
      refine j_aload_n (j := 0) dX6_readOrder_55 rfl rfl ?_
      refine j_aload_n (j := 0) dX6_readOrder_56 rfl rfl ?_
      obtain ⟨p14, e13, h⟩ := obind_elim h
      refine j_callV MX6_47 YX6_readNumber IX6_readNumber SX6_readNumber (by decide) rfl (by decide) (by omega) (Nat.le_of_ble_eq_true rfl) rfl (ctX6_readNumber (d := d - 1) hl (by omega)  e13) dX6_readOrder_57 (VK_c 6 345 rfl).1 (VK_c 6 345 rfl).lt (VK_c 6 345 rfl).ka rfl (fun z15 xt16 => ?_)
      obtain ⟨A17, eA17, h⟩ := bnd_elim h
      have xA17 : XT p14.2 A17 := by rw [eA17]; exact XT_sI _ _ _ _
      refine j_putI FX6_54 rfl rfl rfl z15 dX6_readOrder_60 (VK_c 6 345 rfl).1 (VK_c 6 345 rfl).lt (VK_c 6 345 rfl).ka ?_
      refine j_hB eA17 ?_
      refine j_aload_n (j := 0) dX6_readOrder_63 rfl rfl ?_
      refine j_getI FX6_54 rfl dX6_readOrder_64 (VK_c 6 345 rfl).1 (VK_c 6 345 rfl).lt (VK_c 6 345 rfl).ka (fun r18 => ?_)
      refine j_iconst dX6_readOrder_67 ?_
      by_cases c19 : (gI A17 345 6) = (-1)
      · rw [if_pos c19] at h
        refine j_icmp_eq_t r18 (inR_lit _ rfl) dX6_readOrder_68 (tgt := 80) (by decide) c19 ?_
        refine j_iconst dX6_readOrder_80 ?_
        cases h
        exact j_iret dX6_readOrder_81 rfl ((nar_bool (Or.inl rfl)).1) rfl (Or.inl rfl)
      · rw [if_neg c19] at h
        refine j_icmp_eq_f r18 (inR_lit _ rfl) dX6_readOrder_68 (tgt := 80) (by decide) c19 ?_
        refine j_aload_n (j := 0) dX6_readOrder_71 rfl rfl ?_
        refine j_bipush dX6_readOrder_72 rfl ?_
        obtain ⟨p21, e20, h⟩ := obind_elim h
        refine j_callV MX6_29 YX6_accept IX6_accept SX6_accept (by decide) rfl (by decide) (by omega) (Nat.le_of_ble_eq_true rfl) rfl (ctX6_accept (d := d - 1) hl (by omega) (by decide) e20) dX6_readOrder_74 (VK_c 6 345 rfl).1 (VK_c 6 345 rfl).lt (VK_c 6 345 rfl).ka rfl (fun z22 xt23 => ?_)
        by_cases c24 : p21.1 = 0
        · rw [if_pos c24] at h
          refine j_if_ne_f (bool_inR z22) dX6_readOrder_77 (tgt := 82) (by decide) (fun q => q c24) ?_
          refine j_iconst dX6_readOrder_80 ?_
          cases h
          exact j_iret dX6_readOrder_81 rfl ((nar_bool (Or.inl rfl)).1) rfl (Or.inl rfl)
        · rw [if_neg c24] at h
          refine j_if_ne_t (bool_inR z22) dX6_readOrder_77 (tgt := 82) (by decide) c24 ?_
          refine j_aload_n (j := 0) dX6_readOrder_82 rfl rfl ?_
          refine j_aload_n (j := 0) dX6_readOrder_83 rfl rfl ?_
          obtain ⟨p26, e25, h⟩ := obind_elim h
          refine j_callV MX6_47 YX6_readNumber IX6_readNumber SX6_readNumber (by decide) rfl (by decide) (by omega) (Nat.le_of_ble_eq_true rfl) rfl (ctX6_readNumber (d := d - 1) hl (by omega)  e25) dX6_readOrder_84 (VK_c 6 345 rfl).1 (VK_c 6 345 rfl).lt (VK_c 6 345 rfl).ka rfl (fun z27 xt28 => ?_)
          obtain ⟨A29, eA29, h⟩ := bnd_elim h
          have xA29 : XT p26.2 A29 := by rw [eA29]; exact XT_sI _ _ _ _
          refine j_putI FX6_57 rfl rfl rfl z27 dX6_readOrder_87 (VK_c 6 345 rfl).1 (VK_c 6 345 rfl).lt (VK_c 6 345 rfl).ka ?_
          refine j_hB eA29 ?_
          refine j_aload_n (j := 0) dX6_readOrder_90 rfl rfl ?_
          refine j_getI FX6_57 rfl dX6_readOrder_91 (VK_c 6 345 rfl).1 (VK_c 6 345 rfl).lt (VK_c 6 345 rfl).ka (fun r30 => ?_)
          refine j_iconst dX6_readOrder_94 ?_
          by_cases c31 : (gI A29 345 7) = (-1)
          · rw [if_pos c31] at h
            refine j_icmp_eq_t r30 (inR_lit _ rfl) dX6_readOrder_95 (tgt := 102) (by decide) c31 ?_
            refine j_iconst dX6_readOrder_102 ?_
            cases h
            exact j_iret dX6_readOrder_103 rfl ((nar_bool (Or.inl rfl)).1) rfl (Or.inl rfl)
          · rw [if_neg c31] at h
            refine j_icmp_eq_f r30 (inR_lit _ rfl) dX6_readOrder_95 (tgt := 102) (by decide) c31 ?_
            refine j_iconst dX6_readOrder_98 ?_
            refine j_goto (tgt := 103) dX6_readOrder_99 (by decide) ?_
            cases h
            exact j_iret dX6_readOrder_103 rfl ((nar_bool (Or.inr rfl)).1) rfl (Or.inr rfl)
set_option maxRecDepth 100000 in
theorem tX6_readOrder_0 {g : JG} {l : Launch} {d N n0 s0 : Nat} {out : Int × AH} {A : AH} (hl : l.stackTraces = false) (hd : 3 ≤ d) (h : fX6_readOrder N A  = some out) : J g l d RX6 "readOrder" cX6_readOrder 1 (some .boolean) n0 s0 ((0, some (vI out.1), out.2) : JO) ((out.1 = 0 ∨ out.1 = 1)) 0 [(0, .ref (gB g + 345))] [] A := by
  unfold fX6_readOrder at h
  refine j_aload_n (j := 0) dX6_readOrder_0 rfl rfl ?_
  refine j_aload_n (j := 0) dX6_readOrder_1 rfl rfl ?_
  obtain ⟨z2, e1, h⟩ := obind_elim h
  refine j_callV MX6_33 YX6_peek IX6_peek SX6_peek (by decide) rfl (by decide) (by omega) (Nat.le_of_ble_eq_true rfl) rfl (ctX6_peek (d := d - 1) hl (by omega)  e1) dX6_readOrder_2 (VK_c 6 345 rfl).1 (VK_c 6 345 rfl).lt (VK_c 6 345 rfl).ka rfl (fun z3 _ => ?_)
  obtain ⟨A5, eA5, h⟩ := bnd_elim h
  have xA5 : XT A A5 := by rw [eA5]; exact XT_sI _ _ _ _
  refine j_putC FX6_43 rfl rfl rfl z3 dX6_readOrder_5 (VK_c 6 345 rfl).1 (VK_c 6 345 rfl).lt (VK_c 6 345 rfl).ka ?_
  refine j_hB eA5 ?_
  refine j_aload_n (j := 0) dX6_readOrder_8 rfl rfl ?_
  refine j_bipush dX6_readOrder_9 rfl ?_
  obtain ⟨p7, e6, h⟩ := obind_elim h
  refine j_callV MX6_29 YX6_accept IX6_accept SX6_accept (by decide) rfl (by decide) (by omega) (Nat.le_of_ble_eq_true rfl) rfl (ctX6_accept (d := d - 1) hl (by omega) (by decide) e6) dX6_readOrder_11 (VK_c 6 345 rfl).1 (VK_c 6 345 rfl).lt (VK_c 6 345 rfl).ka rfl (fun z8 xt9 => ?_)
  by_cases c10 : p7.1 = 0
  · rw [if_pos c10] at h
    refine j_if_ne_f (bool_inR z8) dX6_readOrder_14 (tgt := 28) (by decide) (fun q => q c10) ?_
    refine j_aload_n (j := 0) dX6_readOrder_17 rfl rfl ?_
    refine j_bipush dX6_readOrder_18 rfl ?_
    obtain ⟨p12, e11, h⟩ := obind_elim h
    refine j_callV MX6_29 YX6_accept IX6_accept SX6_accept (by decide) rfl (by decide) (by omega) (Nat.le_of_ble_eq_true rfl) rfl (ctX6_accept (d := d - 1) hl (by omega) (by decide) e11) dX6_readOrder_20 (VK_c 6 345 rfl).1 (VK_c 6 345 rfl).lt (VK_c 6 345 rfl).ka rfl (fun z13 xt14 => ?_)
    by_cases c15 : p12.1 = 0
    · rw [if_pos c15] at h
      refine j_if_ne_f (bool_inR z13) dX6_readOrder_23 (tgt := 28) (by decide) (fun q => q c15) ?_
      refine j_iconst dX6_readOrder_26 ?_
      cases h
      exact j_iret dX6_readOrder_27 rfl ((nar_bool (Or.inl rfl)).1) rfl (Or.inl rfl)
    · rw [if_neg c15] at h
      refine j_if_ne_t (bool_inR z13) dX6_readOrder_23 (tgt := 28) (by decide) c15 ?_
      exact j_sub [0] rfl (tX6_readOrder_28 hl (by omega)   h)
  · rw [if_neg c10] at h
    refine j_if_ne_t (bool_inR z8) dX6_readOrder_14 (tgt := 28) (by decide) c10 ?_
    exact j_sub [0] rfl (tX6_readOrder_28 hl (by omega)   h)
theorem ctX6_readOrder {g : JG} {l : Launch} {d N : Nat} {A : AH} {out : Int × AH} (hl : l.stackTraces = false) (hd : 3 ≤ d) (h : fX6_readOrder N A  = some out) : CT g l yX6_readOrder cX6_readOrder 1 (some .boolean) d [.ref (gB g + 345)] A ((0, some (vI out.1), out.2) : JO) ((out.1 = 0 ∨ out.1 = 1)) :=
  CT_of (by decide +kernel) hl (by first | exact Nat.le_of_ble_eq_true rfl | (unfold rv; split <;> exact Nat.le_of_ble_eq_true rfl)) (by first | rfl | (unfold rv; split <;> rfl)) (j_sub (lv := [(0, .ref (gB g + 345))]) [0] rfl (tX6_readOrder_0 hl hd  h))
set_option maxRecDepth 100000 in
theorem tX6_readItem_60 {g : JG} {l : Launch} {d N n0 s0 : Nat} {out : Int × AH} {A : AH} {x1 : Int} (hl : l.stackTraces = false) (hd : 4 ≤ d) (hx1 : inR x1) (h : fX6_readItem_60 N A x1 = some out) : J g l d RX6 "readItem" cX6_readItem 2 (some .boolean) n0 s0 ((0, some (vI out.1), out.2) : JO) ((out.1 = 0 ∨ out.1 = 1)) 60 [(0, .ref (gB g + 345)), (1, vI x1)] [] A := by
  unfold fX6_readItem_60 at h
  refine j_aload_n (j := 0) dX6_readItem_60 rfl rfl ?_
  refine j_dup dX6_readItem_61 rfl ?_
  refine j_getI FX6_19 rfl dX6_readItem_62 (VK_c 6 345 rfl).1 (VK_c 6 345 rfl).lt (VK_c 6 345 rfl).ka (fun r1 => ?_)
  refine j_iconst dX6_readItem_65 ?_
  refine j_iadd dX6_readItem_66 ?_
  obtain ⟨A2, eA2, h⟩ := bnd_elim h
  have xA2 : XT A A2 := by rw [eA2]; exact XT_sI _ _ _ _
  refine j_putI FX6_19 rfl rfl rfl (wrap_inR _) dX6_readItem_67 (VK_c 6 345 rfl).1 (VK_c 6 345 rfl).lt (VK_c 6 345 rfl).ka ?_
  refine j_hB eA2 ?_
  refine j_aload_n (j := 0) dX6_readItem_70 rfl rfl ?_
  refine j_iload_n (j := 1) dX6_readItem_71 rfl rfl ?_
  obtain ⟨c4, h⟩ := chk_elim h
  obtain ⟨A3, eA3, h⟩ := bnd_elim h
  have xA3 : XT A2 A3 := by rw [eA3]; exact XT_sI _ _ _ _
  refine j_putC FX6_43 rfl rfl rfl c4 dX6_readItem_72 (VK_c 6 345 rfl).1 (VK_c 6 345 rfl).lt (VK_c 6 345 rfl).ka ?_
  refine j_hB eA3 ?_
  refine j_aload_n (j := 0) dX6_readItem_75 rfl rfl ?_
  refine j_aload_n (j := 0) dX6_readItem_76 rfl rfl ?_
  obtain ⟨p6, e5, h⟩ := obind_elim h
  refine j_callV MX6_47 YX6_readNumber IX6_readNumber SX6_readNumber (by decide) rfl (by decide) (by omega) (Nat.le_of_ble_eq_true rfl) rfl (ctX6_readNumber (d := d - 1) hl (by omega)  e5) dX6_readItem_77 (VK_c 6 345 rfl).1 (VK_c 6 345 rfl).lt (VK_c 6 345 rfl).ka rfl (fun z7 xt8 => ?_)
  obtain ⟨A9, eA9, h⟩ := bnd_elim h
  have xA9 : XT p6.2 A9 := by rw [eA9]; exact XT_sI _ _ _ _
  refine j_putI FX6_51 rfl rfl rfl z7 dX6_readItem_80 (VK_c 6 345 rfl).1 (VK_c 6 345 rfl).lt (VK_c 6 345 rfl).ka ?_
  refine j_hB eA9 ?_
  refine j_iload_n (j := 1) dX6_readItem_83 rfl rfl ?_
  refine j_bipush dX6_readItem_84 rfl ?_
  by_cases c10 : x1 = 100
  · rw [if_pos c10] at h
    refine j_icmp_eq_t hx1 (inR_lit _ rfl) dX6_readItem_86 (tgt := 103) (by decide) c10 ?_
    refine j_aload_n (j := 0) dX6_readItem_103 rfl rfl ?_
    refine j_getI FX6_51 rfl dX6_readItem_104 (VK_c 6 345 rfl).1 (VK_c 6 345 rfl).lt (VK_c 6 345 rfl).ka (fun r11 => ?_)
    refine j_iconst dX6_readItem_107 ?_
    by_cases c12 : (gI A9 345 5) = (-1)
    · rw [if_pos c12] at h
      refine j_icmp_eq_t r11 (inR_lit _ rfl) dX6_readItem_108 (tgt := 120) (by decide) c12 ?_
      refine j_iconst dX6_readItem_120 ?_
      cases h
      exact j_iret dX6_readItem_121 rfl ((nar_bool (Or.inl rfl)).1) rfl (Or.inl rfl)
    · rw [if_neg c12] at h
      refine j_icmp_eq_f r11 (inR_lit _ rfl) dX6_readItem_108 (tgt := 120) (by decide) c12 ?_
      refine j_aload_n (j := 0) dX6_readItem_111 rfl rfl ?_
      refine j_bipush dX6_readItem_112 rfl ?_
      obtain ⟨p14, e13, h⟩ := obind_elim h
      refine j_callV MX6_29 YX6_accept IX6_accept SX6_accept (by decide) rfl (by decide) (by omega) (Nat.le_of_ble_eq_true rfl) rfl (ctX6_accept (d := d - 1) hl (by omega) (by decide) e13) dX6_readItem_114 (VK_c 6 345 rfl).1 (VK_c 6 345 rfl).lt (VK_c 6 345 rfl).ka rfl (fun z15 xt16 => ?_)
      by_cases c17 : p14.1 = 0
      · rw [if_pos c17] at h
        refine j_if_ne_f (bool_inR z15) dX6_readItem_117 (tgt := 122) (by decide) (fun q => q c17) ?_
        refine j_iconst dX6_readItem_120 ?_
        cases h
        exact j_iret dX6_readItem_121 rfl ((nar_bool (Or.inl rfl)).1) rfl (Or.inl rfl)
      · rw [if_neg c17] at h
        refine j_if_ne_t (bool_inR z15) dX6_readItem_117 (tgt := 122) (by decide) c17 ?_
        refine j_aload_n (j := 0) dX6_readItem_122 rfl rfl ?_
        refine j_aload_n (j := 0) dX6_readItem_123 rfl rfl ?_
        obtain ⟨p19, e18, h⟩ := obind_elim h
        refine j_callV MX6_47 YX6_readNumber IX6_readNumber SX6_readNumber (by decide) rfl (by decide) (by omega) (Nat.le_of_ble_eq_true rfl) rfl (ctX6_readNumber (d := d - 1) hl (by omega)  e18) dX6_readItem_124 (VK_c 6 345 rfl).1 (VK_c 6 345 rfl).lt (VK_c 6 345 rfl).ka rfl (fun z20 xt21 => ?_)
        obtain ⟨A22, eA22, h⟩ := bnd_elim h
        have xA22 : XT p19.2 A22 := by rw [eA22]; exact XT_sI _ _ _ _
        refine j_putI FX6_54 rfl rfl rfl z20 dX6_readItem_127 (VK_c 6 345 rfl).1 (VK_c 6 345 rfl).lt (VK_c 6 345 rfl).ka ?_
        refine j_hB eA22 ?_
        refine j_aload_n (j := 0) dX6_readItem_130 rfl rfl ?_
        refine j_getI FX6_54 rfl dX6_readItem_131 (VK_c 6 345 rfl).1 (VK_c 6 345 rfl).lt (VK_c 6 345 rfl).ka (fun r23 => ?_)
        refine j_iconst dX6_readItem_134 ?_
        by_cases c24 : (gI A22 345 6) = (-1)
        · rw [if_pos c24] at h
          refine j_icmp_eq_t r23 (inR_lit _ rfl) dX6_readItem_135 (tgt := 142) (by decide) c24 ?_
          refine j_iconst dX6_readItem_142 ?_
          cases h
          exact j_iret dX6_readItem_143 rfl ((nar_bool (Or.inl rfl)).1) rfl (Or.inl rfl)
        · rw [if_neg c24] at h
          refine j_icmp_eq_f r23 (inR_lit _ rfl) dX6_readItem_135 (tgt := 142) (by decide) c24 ?_
          refine j_iconst dX6_readItem_138 ?_
          refine j_goto (tgt := 143) dX6_readItem_139 (by decide) ?_
          cases h
          exact j_iret dX6_readItem_143 rfl ((nar_bool (Or.inr rfl)).1) rfl (Or.inr rfl)
  · rw [if_neg c10] at h
    refine j_icmp_eq_f hx1 (inR_lit _ rfl) dX6_readItem_86 (tgt := 103) (by decide) c10 ?_
    refine j_aload_n (j := 0) dX6_readItem_89 rfl rfl ?_
    refine j_getI FX6_51 rfl dX6_readItem_90 (VK_c 6 345 rfl).1 (VK_c 6 345 rfl).lt (VK_c 6 345 rfl).ka (fun r25 => ?_)
    refine j_iconst dX6_readItem_93 ?_
    by_cases c26 : (gI A9 345 5) = (-1)
    · rw [if_pos c26] at h
      refine j_icmp_eq_t r25 (inR_lit _ rfl) dX6_readItem_94 (tgt := 101) (by decide) c26 ?_
      refine j_iconst dX6_readItem_101 ?_
      cases h
      exact j_iret dX6_readItem_102 rfl ((nar_bool (Or.inl rfl)).1) rfl (Or.inl rfl)
    · rw [if_neg c26] at h
      refine j_icmp_eq_f r25 (inR_lit _ rfl) dX6_readItem_94 (tgt := 101) (by decide) c26 ?_
      refine j_iconst dX6_readItem_97 ?_
      refine j_goto (tgt := 102) dX6_readItem_98 (by decide) ?_
      cases h
      exact j_iret dX6_readItem_102 rfl ((nar_bool (Or.inr rfl)).1) rfl (Or.inr rfl)
set_option maxRecDepth 100000 in
theorem tX6_readItem_40 {g : JG} {l : Launch} {d N n0 s0 : Nat} {out : Int × AH} {A : AH} {x1 : Int} (hl : l.stackTraces = false) (hd : 4 ≤ d) (hx1 : inR x1) (h : fX6_readItem_40 N A x1 = some out) : J g l d RX6 "readItem" cX6_readItem 2 (some .boolean) n0 s0 ((0, some (vI out.1), out.2) : JO) ((out.1 = 0 ∨ out.1 = 1)) 40 [(0, .ref (gB g + 345)), (1, vI x1)] [] A := by
  unfold fX6_readItem_40 at h
  refine j_iload_n (j := 1) dX6_readItem_40 rfl rfl ?_
  refine j_bipush dX6_readItem_41 rfl ?_
  by_cases c1 : x1 = 115
  · rw [if_pos c1] at h
    refine j_icmp_eq_t hx1 (inR_lit _ rfl) dX6_readItem_43 (tgt := 60) (by decide) c1 ?_
    exact j_sub [0, 1] rfl (tX6_readItem_60 hl (by omega) hx1  h)
  · rw [if_neg c1] at h
    refine j_icmp_eq_f hx1 (inR_lit _ rfl) dX6_readItem_43 (tgt := 60) (by decide) c1 ?_
    refine j_iload_n (j := 1) dX6_readItem_46 rfl rfl ?_
    refine j_bipush dX6_readItem_47 rfl ?_
    by_cases c2 : x1 = 100
    · rw [if_pos c2] at h
      refine j_icmp_eq_t hx1 (inR_lit _ rfl) dX6_readItem_49 (tgt := 60) (by decide) c2 ?_
      exact j_sub [0, 1] rfl (tX6_readItem_60 hl (by omega) hx1  h)
    · rw [if_neg c2] at h
      refine j_icmp_eq_f hx1 (inR_lit _ rfl) dX6_readItem_49 (tgt := 60) (by decide) c2 ?_
      refine j_iload_n (j := 1) dX6_readItem_52 rfl rfl ?_
      refine j_bipush dX6_readItem_53 rfl ?_
      by_cases c3 : x1 = 119
      · rw [if_pos c3] at h
        refine j_icmp_eq_t hx1 (inR_lit _ rfl) dX6_readItem_55 (tgt := 60) (by decide) c3 ?_
        exact j_sub [0, 1] rfl (tX6_readItem_60 hl (by omega) hx1  h)
      · rw [if_neg c3] at h
        refine j_icmp_eq_f hx1 (inR_lit _ rfl) dX6_readItem_55 (tgt := 60) (by decide) c3 ?_
        refine j_iconst dX6_readItem_58 ?_
        cases h
        exact j_iret dX6_readItem_59 rfl ((nar_bool (Or.inl rfl)).1) rfl (Or.inl rfl)
set_option maxRecDepth 100000 in
theorem tX6_readItem_0 {g : JG} {l : Launch} {d N n0 s0 : Nat} {out : Int × AH} {A : AH} (hl : l.stackTraces = false) (hd : 4 ≤ d) (h : fX6_readItem N A  = some out) : J g l d RX6 "readItem" cX6_readItem 2 (some .boolean) n0 s0 ((0, some (vI out.1), out.2) : JO) ((out.1 = 0 ∨ out.1 = 1)) 0 [(0, .ref (gB g + 345))] [] A := by
  unfold fX6_readItem at h
  refine j_aload_n (j := 0) dX6_readItem_0 rfl rfl ?_
  obtain ⟨z2, e1, h⟩ := obind_elim h
  refine j_callV MX6_33 YX6_peek IX6_peek SX6_peek (by decide) rfl (by decide) (by omega) (Nat.le_of_ble_eq_true rfl) rfl (ctX6_peek (d := d - 1) hl (by omega)  e1) dX6_readItem_1 (VK_c 6 345 rfl).1 (VK_c 6 345 rfl).lt (VK_c 6 345 rfl).ka rfl (fun z3 _ => ?_)
  refine j_istore_n (lv' := [(1, vI z2), (0, .ref (gB g + 345))]) dX6_readItem_4 rfl (by decide) (by first | rfl | (simp only [List.all_cons, List.all_nil, rv_cat]; rfl)) rfl ?_
  refine j_iload_n (j := 0) dX6_readItem_5 rfl rfl ?_
  refine j_bipush dX6_readItem_6 rfl ?_
  by_cases c5 : z2 < 49
  · rw [if_pos c5] at h
    refine j_icmp_lt_t (char_inR z3) (inR_lit _ rfl) dX6_readItem_8 (tgt := 40) (by decide) c5 ?_
    exact j_sub [1, 0] rfl (tX6_readItem_40 hl (by omega) (char_inR z3)  h)
  · rw [if_neg c5] at h
    refine j_icmp_lt_f (char_inR z3) (inR_lit _ rfl) dX6_readItem_8 (tgt := 40) (by decide) c5 ?_
    refine j_iload_n (j := 0) dX6_readItem_11 rfl rfl ?_
    refine j_bipush dX6_readItem_12 rfl ?_
    by_cases c6 : 52 < z2
    · rw [if_pos c6] at h
      refine j_icmp_gt_t (char_inR z3) (inR_lit _ rfl) dX6_readItem_14 (tgt := 40) (by decide) c6 ?_
      exact j_sub [1, 0] rfl (tX6_readItem_40 hl (by omega) (char_inR z3)  h)
    · rw [if_neg c6] at h
      refine j_icmp_gt_f (char_inR z3) (inR_lit _ rfl) dX6_readItem_14 (tgt := 40) (by decide) c6 ?_
      refine j_aload_n (j := 1) dX6_readItem_17 rfl rfl ?_
      refine j_dup dX6_readItem_18 rfl ?_
      refine j_getI FX6_19 rfl dX6_readItem_19 (VK_c 6 345 rfl).1 (VK_c 6 345 rfl).lt (VK_c 6 345 rfl).ka (fun r7 => ?_)
      refine j_iconst dX6_readItem_22 ?_
      refine j_iadd dX6_readItem_23 ?_
      obtain ⟨A8, eA8, h⟩ := bnd_elim h
      have xA8 : XT A A8 := by rw [eA8]; exact XT_sI _ _ _ _
      refine j_putI FX6_19 rfl rfl rfl (wrap_inR _) dX6_readItem_24 (VK_c 6 345 rfl).1 (VK_c 6 345 rfl).lt (VK_c 6 345 rfl).ka ?_
      refine j_hB eA8 ?_
      refine j_aload_n (j := 1) dX6_readItem_27 rfl rfl ?_
      refine j_iload_n (j := 0) dX6_readItem_28 rfl rfl ?_
      refine j_bipush dX6_readItem_29 rfl ?_
      refine j_isub dX6_readItem_31 ?_
      obtain ⟨A9, eA9, h⟩ := bnd_elim h
      have xA9 : XT A8 A9 := by rw [eA9]; exact XT_sI _ _ _ _
      refine j_putI FX6_37 rfl rfl rfl (wrap_inR _) dX6_readItem_32 (VK_c 6 345 rfl).1 (VK_c 6 345 rfl).lt (VK_c 6 345 rfl).ka ?_
      refine j_hB eA9 ?_
      refine j_aload_n (j := 1) dX6_readItem_35 rfl rfl ?_
      obtain ⟨p11, e10, h⟩ := obind_elim h
      refine j_callV MX6_40 YX6_readOrder IX6_readOrder SX6_readOrder (by decide) rfl (by decide) (by omega) (Nat.le_of_ble_eq_true rfl) rfl (ctX6_readOrder (d := d - 1) hl (by omega)  e10) dX6_readItem_36 (VK_c 6 345 rfl).1 (VK_c 6 345 rfl).lt (VK_c 6 345 rfl).ka rfl (fun z12 xt13 => ?_)
      cases h
      exact j_iret dX6_readItem_39 rfl ((nar_bool z12).1) rfl z12
theorem ctX6_readItem {g : JG} {l : Launch} {d N : Nat} {A : AH} {out : Int × AH} (hl : l.stackTraces = false) (hd : 4 ≤ d) (h : fX6_readItem N A  = some out) : CT g l yX6_readItem cX6_readItem 2 (some .boolean) d [.ref (gB g + 345)] A ((0, some (vI out.1), out.2) : JO) ((out.1 = 0 ∨ out.1 = 1)) :=
  CT_of (by decide +kernel) hl (by first | exact Nat.le_of_ble_eq_true rfl | (unfold rv; split <;> exact Nat.le_of_ble_eq_true rfl)) (by first | rfl | (unfold rv; split <;> rfl)) (j_sub (lv := [(0, .ref (gB g + 345))]) [0] rfl (tX6_readItem_0 hl hd  h))
set_option maxRecDepth 100000 in
theorem tX6_countItems_6 {g : JG} {l : Launch} {d N n0 s0 : Nat} {out : Int × AH} (hl : l.stackTraces = false) (hd : 5 ≤ d) : ∀ (n : Nat) (A : AH) (x1 : Int), inR x1 → fX6_countItems_6 N n A x1 = some out → J g l d RX6 "countItems" cX6_countItems 2 (some .int) n0 s0 ((0, some (vI out.1), out.2) : JO) (inR out.1) 6 [(0, .ref (gB g + 345)), (1, vI x1)] [] A := by
  intro n
  induction n with
  | zero =>
    intro A x1 hx1 h
    rw [fX6_countItems_6] at h
    cases h
  | succ n ih =>
    intro A x1 hx1 h
    rw [fX6_countItems_6] at h
    refine j_iload_n (j := 1) dX6_countItems_6 rfl rfl ?_
    refine j_bipush dX6_countItems_7 rfl ?_
    by_cases c1 : 60 < x1
    · rw [if_pos c1] at h
      refine j_icmp_gt_t hx1 (inR_lit _ rfl) dX6_countItems_9 (tgt := 53) (by decide) c1 ?_
      refine j_iconst dX6_countItems_53 ?_
      cases h
      exact j_iret dX6_countItems_54 rfl rfl rfl (inR_lit _ rfl)
    · rw [if_neg c1] at h
      refine j_icmp_gt_f hx1 (inR_lit _ rfl) dX6_countItems_9 (tgt := 53) (by decide) c1 ?_
      refine j_aload_n (j := 0) dX6_countItems_12 rfl rfl ?_
      obtain ⟨p3, e2, h⟩ := obind_elim h
      refine j_callV MX6_25 YX6_readItem IX6_readItem SX6_readItem (by decide) rfl (by decide) (by omega) (Nat.le_of_ble_eq_true rfl) rfl (ctX6_readItem (d := d - 1) hl (by omega)  e2) dX6_countItems_13 (VK_c 6 345 rfl).1 (VK_c 6 345 rfl).lt (VK_c 6 345 rfl).ka rfl (fun z4 xt5 => ?_)
      by_cases c6 : p3.1 = 0
      · rw [if_pos c6] at h
        refine j_if_ne_f (bool_inR z4) dX6_countItems_16 (tgt := 21) (by decide) (fun q => q c6) ?_
        refine j_iconst dX6_countItems_19 ?_
        cases h
        exact j_iret dX6_countItems_20 rfl rfl rfl (inR_lit _ rfl)
      · rw [if_neg c6] at h
        refine j_if_ne_t (bool_inR z4) dX6_countItems_16 (tgt := 21) (by decide) c6 ?_
        refine j_aload_n (j := 0) dX6_countItems_21 rfl rfl ?_
        refine j_bipush dX6_countItems_22 rfl ?_
        obtain ⟨p8, e7, h⟩ := obind_elim h
        refine j_callV MX6_29 YX6_accept IX6_accept SX6_accept (by decide) rfl (by decide) (by omega) (Nat.le_of_ble_eq_true rfl) rfl (ctX6_accept (d := d - 1) hl (by omega) (by decide) e7) dX6_countItems_24 (VK_c 6 345 rfl).1 (VK_c 6 345 rfl).lt (VK_c 6 345 rfl).ka rfl (fun z9 xt10 => ?_)
        by_cases c11 : p8.1 = 0
        · rw [if_pos c11] at h
          refine j_if_ne_f (bool_inR z9) dX6_countItems_27 (tgt := 47) (by decide) (fun q => q c11) ?_
          refine j_aload_n (j := 0) dX6_countItems_30 rfl rfl ?_
          refine j_getI FX6_19 rfl dX6_countItems_31 (VK_c 6 345 rfl).1 (VK_c 6 345 rfl).lt (VK_c 6 345 rfl).ka (fun r13 => ?_)
          refine j_aload_n (j := 0) dX6_countItems_34 rfl rfl ?_
          refine j_getI FX6_15 rfl dX6_countItems_35 (VK_c 6 345 rfl).1 (VK_c 6 345 rfl).lt (VK_c 6 345 rfl).ka (fun r14 => ?_)
          by_cases c15 : (gI p8.2 345 2) = (gI p8.2 345 1)
          · rw [if_pos c15] at h
            refine j_icmp_ne_f r13 r14 dX6_countItems_38 (tgt := 45) (by decide) (fun q => q c15) ?_
            refine j_iload_n (j := 1) dX6_countItems_41 rfl rfl ?_
            refine j_goto (tgt := 46) dX6_countItems_42 (by decide) ?_
            cases h
            exact j_iret dX6_countItems_46 rfl rfl rfl hx1
          · rw [if_neg c15] at h
            refine j_icmp_ne_t r13 r14 dX6_countItems_38 (tgt := 45) (by decide) c15 ?_
            refine j_iconst dX6_countItems_45 ?_
            cases h
            exact j_iret dX6_countItems_46 rfl rfl rfl (inR_lit _ rfl)
        · rw [if_neg c11] at h
          refine j_if_ne_t (bool_inR z9) dX6_countItems_27 (tgt := 47) (by decide) c11 ?_
          obtain ⟨u12, eu12, h⟩ := bnd_elim h
          have hu12 : inR u12 := by rw [eu12]; exact wrap_inR _
          refine j_iincN (k := 1) (lv' := [(1, vI u12), (0, .ref (gB g + 345))]) eu12 dX6_countItems_47 rfl (by decide) (by first | rfl | (simp only [List.all_cons, List.all_nil, rv_cat]; rfl)) rfl ?_
          refine j_goto (tgt := 6) dX6_countItems_50 (by decide) ?_
          exact j_sub [1, 0] rfl (ih p8.2 u12 hu12 h)
set_option maxRecDepth 100000 in
theorem tX6_countItems_0 {g : JG} {l : Launch} {d N n0 s0 : Nat} {out : Int × AH} {A : AH} (hl : l.stackTraces = false) (hd : 5 ≤ d) (h : fX6_countItems N A  = some out) : J g l d RX6 "countItems" cX6_countItems 2 (some .int) n0 s0 ((0, some (vI out.1), out.2) : JO) (inR out.1) 0 [(0, .ref (gB g + 345))] [] A := by
  unfold fX6_countItems at h
  refine j_aload_n (j := 0) dX6_countItems_0 rfl rfl ?_
  obtain ⟨p2, e1, h⟩ := obind_elim h
  refine j_callV MX6_22 YX6_rewind IX6_rewind SX6_rewind (by decide) rfl (by decide) (by omega) (Nat.le_of_ble_eq_true rfl) rfl (ctX6_rewind (d := d - 1) hl (by omega)  e1) dX6_countItems_1 (VK_c 6 345 rfl).1 (VK_c 6 345 rfl).lt (VK_c 6 345 rfl).ka rfl (fun z3 xt4 => ?_)
  refine j_iconst dX6_countItems_4 ?_
  refine j_istore_n (lv' := [(1, vI 1), (0, .ref (gB g + 345))]) dX6_countItems_5 rfl (by decide) (by first | rfl | (simp only [List.all_cons, List.all_nil, rv_cat]; rfl)) rfl ?_
  exact j_sub [1, 0] rfl (tX6_countItems_6 hl (by omega)   N p2 1 (inR_lit _ rfl) h)
theorem ctX6_countItems {g : JG} {l : Launch} {d N : Nat} {A : AH} {out : Int × AH} (hl : l.stackTraces = false) (hd : 5 ≤ d) (h : fX6_countItems N A  = some out) : CT g l yX6_countItems cX6_countItems 2 (some .int) d [.ref (gB g + 345)] A ((0, some (vI out.1), out.2) : JO) (inR out.1) :=
  CT_of (by decide +kernel) hl (by first | exact Nat.le_of_ble_eq_true rfl | (unfold rv; split <;> exact Nat.le_of_ble_eq_true rfl)) (by first | rfl | (unfold rv; split <;> rfl)) (j_sub (lv := [(0, .ref (gB g + 345))]) [0] rfl (tX6_countItems_0 hl hd  h))
set_option maxRecDepth 100000 in
theorem tX6_nextItem_0 {g : JG} {l : Launch} {d N n0 s0 : Nat} {out : AH} {A : AH} (hl : l.stackTraces = false) (hd : 5 ≤ d) (h : fX6_nextItem N A  = some out) : J g l d RX6 "nextItem" cX6_nextItem 1 none n0 s0 ((0, none, out) : JO) (True) 0 [(0, .ref (gB g + 345))] [] A := by
  unfold fX6_nextItem at h
  refine j_aload_n (j := 0) dX6_nextItem_0 rfl rfl ?_
  refine j_bipush dX6_nextItem_1 rfl ?_
  obtain ⟨p2, e1, h⟩ := obind_elim h
  refine j_callV MX6_29 YX6_accept IX6_accept SX6_accept (by decide) rfl (by decide) (by omega) (Nat.le_of_ble_eq_true rfl) rfl (ctX6_accept (d := d - 1) hl (by omega) (by decide) e1) dX6_nextItem_3 (VK_c 6 345 rfl).1 (VK_c 6 345 rfl).lt (VK_c 6 345 rfl).ka rfl (fun z3 xt4 => ?_)
  refine j_pop dX6_nextItem_6 rfl ?_
  refine j_aload_n (j := 0) dX6_nextItem_7 rfl rfl ?_
  obtain ⟨p6, e5, h⟩ := obind_elim h
  refine j_callV MX6_25 YX6_readItem IX6_readItem SX6_readItem (by decide) rfl (by decide) (by omega) (Nat.le_of_ble_eq_true rfl) rfl (ctX6_readItem (d := d - 1) hl (by omega)  e5) dX6_nextItem_8 (VK_c 6 345 rfl).1 (VK_c 6 345 rfl).lt (VK_c 6 345 rfl).ka rfl (fun z7 xt8 => ?_)
  refine j_pop dX6_nextItem_11 rfl ?_
  cases h
  exact j_vret dX6_nextItem_12 rfl rfl trivial
theorem ctX6_nextItem {g : JG} {l : Launch} {d N : Nat} {A : AH} {out : AH} (hl : l.stackTraces = false) (hd : 5 ≤ d) (h : fX6_nextItem N A  = some out) : CT g l yX6_nextItem cX6_nextItem 1 none d [.ref (gB g + 345)] A ((0, none, out) : JO) (True) :=
  CT_of (by decide +kernel) hl (by first | exact Nat.le_of_ble_eq_true rfl | (unfold rv; split <;> exact Nat.le_of_ble_eq_true rfl)) (by first | rfl | (unfold rv; split <;> rfl)) (j_sub (lv := [(0, .ref (gB g + 345))]) [0] rfl (tX6_nextItem_0 hl hd  h))
