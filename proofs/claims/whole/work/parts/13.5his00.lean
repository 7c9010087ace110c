set_option maxRecDepth 100000 in
theorem tX1_prepare_0 {g : JG} {l : Launch} {d N n0 s0 : Nat} {out : AH} {A : AH} {y1 : Nat} (hl : l.stackTraces = false) (hd : 3 ≤ d) (hy1 : VK 5 y1) (h : fX1_prepare N A y1 = some out) : J g l d RX1 "prepare" cX1_prepare 2 none n0 s0 ((0, none, out) : JO) (True) 0 [(0, .ref (gB g + 64)), (1, .ref (gB g + y1))] [] A := by
  unfold fX1_prepare at h
  refine j_aload_n (j := 0) dX1_prepare_0 rfl rfl ?_
  refine j_getR (q := 65) FX1_13 rfl dX1_prepare_1 (by decide) (by decide) rfl rfl (by decide) ?_
  refine j_aload_n (j := 0) dX1_prepare_4 rfl rfl ?_
  refine j_getI FX1_25 rfl dX1_prepare_5 (VK_c 1 64 rfl).1 (VK_c 1 64 rfl).lt (VK_c 1 64 rfl).ka (fun r1 => ?_)
  obtain ⟨c2, h⟩ := chk_elim h
  have v3 : VK 5 (66 + 31 * (gI A 64 1).toNat) := (VK_s c2)
  refine j_aald (q := (66 + 31 * (gI A 64 1).toNat)) r1 (by decide) (by decide) (by decide) (by decide) dX1_prepare_8 (VK_c 16 65 rfl).1 (VK_c 16 65 rfl).2.1 (VK_c 16 65 rfl).2.2 c2 (lay16 c2) (by omega) ?_
  refine j_aload_n (j := 1) dX1_prepare_9 rfl rfl ?_
  obtain ⟨p5, e4, h⟩ := obind_elim h
  refine j_callV MX1_29 YX5_copyFrom IX5_copyFrom SX5_copyFrom (by decide) rfl (by decide) (by omega) (Nat.le_of_ble_eq_true rfl) rfl (ctX5_copyFrom (d := d - 1) hl (by omega) v3 hy1 e4) dX1_prepare_10 v3.1 v3.lt v3.ka rfl (fun z6 xt7 => ?_)
  cases h
  exact j_vret dX1_prepare_13 rfl rfl trivial
theorem ctX1_prepare {g : JG} {l : Launch} {d N : Nat} {A : AH} {out : AH} {y1 : Nat} (hl : l.stackTraces = false) (hd : 3 ≤ d) (hy1 : VK 5 y1) (h : fX1_prepare N A y1 = some out) : CT g l yX1_prepare cX1_prepare 2 none d [.ref (gB g + 64), .ref (gB g + y1)] A ((0, none, out) : JO) (True) :=
  CT_of (by decide +kernel) hl (by first | exact Nat.le_of_ble_eq_true rfl | (unfold rv; split <;> exact Nat.le_of_ble_eq_true rfl)) (by first | rfl | (unfold rv; split <;> rfl)) (j_sub (lv := [(0, .ref (gB g + 64)), (1, .ref (gB g + y1))]) [0, 1] rfl (tX1_prepare_0 hl hd hy1 h))
set_option maxRecDepth 100000 in
theorem tX1_commit_20 {g : JG} {l : Launch} {d N n0 s0 : Nat} {out : AH} {A : AH} {xs1 : Int} (hl : l.stackTraces = false) (hd : 2 ≤ d) (hxs1 : inR xs1) (h : fX1_commit_20 N A xs1 = some out) : J g l d RX1 "commit" cX1_commit 1 none n0 s0 ((0, none, out) : JO) (True) 20 [(0, .ref (gB g + 64))] [vI xs1, .ref (gB g + 64)] A := by
  unfold fX1_commit_20 at h
  obtain ⟨A1, eA1, h⟩ := bnd_elim h
  have xA1 : XT A A1 := by rw [eA1]; exact XT_sI _ _ _ _
  refine j_putI FX1_25 rfl rfl rfl hxs1 dX1_commit_20 (VK_c 1 64 rfl).1 (VK_c 1 64 rfl).lt (VK_c 1 64 rfl).ka ?_
  refine j_hB eA1 ?_
  refine j_aload_n (j := 0) dX1_commit_23 rfl rfl ?_
  refine j_bipush dX1_commit_24 rfl ?_
  refine j_aload_n (j := 0) dX1_commit_26 rfl rfl ?_
  refine j_getI FX1_32 rfl dX1_commit_27 (VK_c 1 64 rfl).1 (VK_c 1 64 rfl).lt (VK_c 1 64 rfl).ka (fun r2 => ?_)
  refine j_iconst dX1_commit_30 ?_
  refine j_iadd dX1_commit_31 ?_
  refine j_mmin (inR_lit _ rfl) (wrap_inR _) MX1_35 MMmina MMi MMminc dX1_commit_32 (Nat.le_of_ble_eq_true rfl) (by omega) ?_
  obtain ⟨A3, eA3, h⟩ := bnd_elim h
  have xA3 : XT A1 A3 := by rw [eA3]; exact XT_sI _ _ _ _
  refine j_putI FX1_32 rfl rfl rfl (min_inR (inR_lit _ rfl) (wrap_inR _)) dX1_commit_35 (VK_c 1 64 rfl).1 (VK_c 1 64 rfl).lt (VK_c 1 64 rfl).ka ?_
  refine j_hB eA3 ?_
  cases h
  exact j_vret dX1_commit_38 rfl rfl trivial
set_option maxRecDepth 100000 in
theorem tX1_commit_0 {g : JG} {l : Launch} {d N n0 s0 : Nat} {out : AH} {A : AH} (hl : l.stackTraces = false) (hd : 2 ≤ d) (h : fX1_commit N A  = some out) : J g l d RX1 "commit" cX1_commit 1 none n0 s0 ((0, none, out) : JO) (True) 0 [(0, .ref (gB g + 64))] [] A := by
  unfold fX1_commit at h
  refine j_aload_n (j := 0) dX1_commit_0 rfl rfl ?_
  refine j_aload_n (j := 0) dX1_commit_1 rfl rfl ?_
  refine j_getI FX1_25 rfl dX1_commit_2 (VK_c 1 64 rfl).1 (VK_c 1 64 rfl).lt (VK_c 1 64 rfl).ka (fun r1 => ?_)
  refine j_bipush dX1_commit_5 rfl ?_
  by_cases c2 : (gI A 64 1) = 8
  · rw [if_pos c2] at h
    refine j_icmp_ne_f r1 (inR_lit _ rfl) dX1_commit_7 (tgt := 14) (by decide) (fun q => q c2) ?_
    refine j_iconst dX1_commit_10 ?_
    refine j_goto (tgt := 20) dX1_commit_11 (by decide) ?_
    exact j_sub [0] rfl (tX1_commit_20 hl (by omega) (inR_lit _ rfl)  h)
  · rw [if_neg c2] at h
    refine j_icmp_ne_t r1 (inR_lit _ rfl) dX1_commit_7 (tgt := 14) (by decide) c2 ?_
    refine j_aload_n (j := 0) dX1_commit_14 rfl rfl ?_
    refine j_getI FX1_25 rfl dX1_commit_15 (VK_c 1 64 rfl).1 (VK_c 1 64 rfl).lt (VK_c 1 64 rfl).ka (fun r3 => ?_)
    refine j_iconst dX1_commit_18 ?_
    refine j_iadd dX1_commit_19 ?_
    exact j_sub [0] rfl (tX1_commit_20 hl (by omega) (wrap_inR _)  h)
theorem ctX1_commit {g : JG} {l : Launch} {d N : Nat} {A : AH} {out : AH} (hl : l.stackTraces = false) (hd : 2 ≤ d) (h : fX1_commit N A  = some out) : CT g l yX1_commit cX1_commit 1 none d [.ref (gB g + 64)] A ((0, none, out) : JO) (True) :=
  CT_of (by decide +kernel) hl (by first | exact Nat.le_of_ble_eq_true rfl | (unfold rv; split <;> exact Nat.le_of_ble_eq_true rfl)) (by first | rfl | (unfold rv; split <;> rfl)) (j_sub (lv := [(0, .ref (gB g + 64))]) [0] rfl (tX1_commit_0 hl hd  h))
set_option maxRecDepth 100000 in
theorem tX1_add_0 {g : JG} {l : Launch} {d N n0 s0 : Nat} {out : AH} {A : AH} {y1 : Nat} (hl : l.stackTraces = false) (hd : 4 ≤ d) (hy1 : VK 5 y1) (h : fX1_add N A y1 = some out) : J g l d RX1 "add" cX1_add 2 none n0 s0 ((0, none, out) : JO) (True) 0 [(0, .ref (gB g + 64)), (1, .ref (gB g + y1))] [] A := by
  unfold fX1_add at h
  refine j_aload_n (j := 0) dX1_add_0 rfl rfl ?_
  refine j_aload_n (j := 1) dX1_add_1 rfl rfl ?_
  obtain ⟨p2, e1, h⟩ := obind_elim h
  refine j_callV MX1_18 YX1_prepare IX1_prepare SX1_prepare (by decide) rfl (by decide) (by omega) (Nat.le_of_ble_eq_true rfl) rfl (ctX1_prepare (d := d - 1) hl (by omega) hy1 e1) dX1_add_2 (VK_c 1 64 rfl).1 (VK_c 1 64 rfl).lt (VK_c 1 64 rfl).ka rfl (fun z3 xt4 => ?_)
  refine j_aload_n (j := 0) dX1_add_5 rfl rfl ?_
  obtain ⟨p6, e5, h⟩ := obind_elim h
  refine j_callV MX1_22 YX1_commit IX1_commit SX1_commit (by decide) rfl (by decide) (by omega) (Nat.le_of_ble_eq_true rfl) rfl (ctX1_commit (d := d - 1) hl (by omega)  e5) dX1_add_6 (VK_c 1 64 rfl).1 (VK_c 1 64 rfl).lt (VK_c 1 64 rfl).ka rfl (fun z7 xt8 => ?_)
  cases h
  exact j_vret dX1_add_9 rfl rfl trivial
theorem ctX1_add {g : JG} {l : Launch} {d N : Nat} {A : AH} {out : AH} {y1 : Nat} (hl : l.stackTraces = false) (hd : 4 ≤ d) (hy1 : VK 5 y1) (h : fX1_add N A y1 = some out) : CT g l yX1_add cX1_add 2 none d [.ref (gB g + 64), .ref (gB g + y1)] A ((0, none, out) : JO) (True) :=
  CT_of (by decide +kernel) hl (by first | exact Nat.le_of_ble_eq_true rfl | (unfold rv; split <;> exact Nat.le_of_ble_eq_true rfl)) (by first | rfl | (unfold rv; split <;> rfl)) (j_sub (lv := [(0, .ref (gB g + 64)), (1, .ref (gB g + y1))]) [0, 1] rfl (tX1_add_0 hl hd hy1 h))
set_option maxRecDepth 100000 in
theorem tX1_takeBack_0 {g : JG} {l : Launch} {d N n0 s0 : Nat} {out : AH} {A : AH} {y1 : Nat} (hl : l.stackTraces = false) (hd : 3 ≤ d) (hy1 : VK 5 y1) (h : fX1_takeBack N A y1 = some out) : J g l d RX1 "takeBack" cX1_takeBack 2 none n0 s0 ((0, none, out) : JO) (True) 0 [(0, .ref (gB g + 64)), (1, .ref (gB g + y1))] [] A := by
  unfold fX1_takeBack at h
  refine j_aload_n (j := 1) dX1_takeBack_0 rfl rfl ?_
  refine j_aload_n (j := 0) dX1_takeBack_1 rfl rfl ?_
  refine j_getR (q := 65) FX1_13 rfl dX1_takeBack_2 (by decide) (by decide) rfl rfl (by decide) ?_
  refine j_aload_n (j := 0) dX1_takeBack_5 rfl rfl ?_
  refine j_getI FX1_25 rfl dX1_takeBack_6 (VK_c 1 64 rfl).1 (VK_c 1 64 rfl).lt (VK_c 1 64 rfl).ka (fun r1 => ?_)
  obtain ⟨c2, h⟩ := chk_elim h
  have v3 : VK 5 (66 + 31 * (gI A 64 1).toNat) := (VK_s c2)
  refine j_aald (q := (66 + 31 * (gI A 64 1).toNat)) r1 (by decide) (by decide) (by decide) (by decide) dX1_takeBack_9 (VK_c 16 65 rfl).1 (VK_c 16 65 rfl).2.1 (VK_c 16 65 rfl).2.2 c2 (lay16 c2) (by omega) ?_
  obtain ⟨p5, e4, h⟩ := obind_elim h
  refine j_callV MX1_29 YX5_copyFrom IX5_copyFrom SX5_copyFrom (by decide) rfl (by decide) (by omega) (Nat.le_of_ble_eq_true rfl) rfl (ctX5_copyFrom (d := d - 1) hl (by omega) hy1 v3 e4) dX1_takeBack_10 hy1.1 hy1.lt hy1.ka rfl (fun z6 xt7 => ?_)
  cases h
  exact j_vret dX1_takeBack_13 rfl rfl trivial
theorem ctX1_takeBack {g : JG} {l : Launch} {d N : Nat} {A : AH} {out : AH} {y1 : Nat} (hl : l.stackTraces = false) (hd : 3 ≤ d) (hy1 : VK 5 y1) (h : fX1_takeBack N A y1 = some out) : CT g l yX1_takeBack cX1_takeBack 2 none d [.ref (gB g + 64), .ref (gB g + y1)] A ((0, none, out) : JO) (True) :=
  CT_of (by decide +kernel) hl (by first | exact Nat.le_of_ble_eq_true rfl | (unfold rv; split <;> exact Nat.le_of_ble_eq_true rfl)) (by first | rfl | (unfold rv; split <;> rfl)) (j_sub (lv := [(0, .ref (gB g + 64)), (1, .ref (gB g + y1))]) [0, 1] rfl (tX1_takeBack_0 hl hd hy1 h))
set_option maxRecDepth 100000 in
theorem tX1_stepBack_19 {g : JG} {l : Launch} {d N n0 s0 : Nat} {out : AH} {A : AH} {y1 : Nat} {xs1 : Int} (hl : l.stackTraces = false) (hd : 4 ≤ d) (hy1 : VK 5 y1) (hxs1 : inR xs1) (h : fX1_stepBack_19 N A y1 xs1 = some out) : J g l d RX1 "stepBack" cX1_stepBack 2 none n0 s0 ((0, none, out) : JO) (True) 19 [(0, .ref (gB g + 64)), (1, .ref (gB g + y1))] [vI xs1, .ref (gB g + 64)] A := by
  unfold fX1_stepBack_19 at h
  obtain ⟨A1, eA1, h⟩ := bnd_elim h
  have xA1 : XT A A1 := by rw [eA1]; exact XT_sI _ _ _ _
  refine j_putI FX1_25 rfl rfl rfl hxs1 dX1_stepBack_19 (VK_c 1 64 rfl).1 (VK_c 1 64 rfl).lt (VK_c 1 64 rfl).ka ?_
  refine j_hB eA1 ?_
  refine j_aload_n (j := 0) dX1_stepBack_22 rfl rfl ?_
  refine j_dup dX1_stepBack_23 rfl ?_
  refine j_getI FX1_32 rfl dX1_stepBack_24 (VK_c 1 64 rfl).1 (VK_c 1 64 rfl).lt (VK_c 1 64 rfl).ka (fun r2 => ?_)
  refine j_iconst dX1_stepBack_27 ?_
  refine j_isub dX1_stepBack_28 ?_
  obtain ⟨A3, eA3, h⟩ := bnd_elim h
  have xA3 : XT A1 A3 := by rw [eA3]; exact XT_sI _ _ _ _
  refine j_putI FX1_32 rfl rfl rfl (wrap_inR _) dX1_stepBack_29 (VK_c 1 64 rfl).1 (VK_c 1 64 rfl).lt (VK_c 1 64 rfl).ka ?_
  refine j_hB eA3 ?_
  refine j_aload_n (j := 0) dX1_stepBack_32 rfl rfl ?_
  refine j_aload_n (j := 1) dX1_stepBack_33 rfl rfl ?_
  obtain ⟨p5, e4, h⟩ := obind_elim h
  refine j_callV MX1_41 YX1_takeBack IX1_takeBack SX1_takeBack (by decide) rfl (by decide) (by omega) (Nat.le_of_ble_eq_true rfl) rfl (ctX1_takeBack (d := d - 1) hl (by omega) hy1 e4) dX1_stepBack_34 (VK_c 1 64 rfl).1 (VK_c 1 64 rfl).lt (VK_c 1 64 rfl).ka rfl (fun z6 xt7 => ?_)
  cases h
  exact j_vret dX1_stepBack_37 rfl rfl trivial
set_option maxRecDepth 100000 in
theorem tX1_stepBack_0 {g : JG} {l : Launch} {d N n0 s0 : Nat} {out : AH} {A : AH} {y1 : Nat} (hl : l.stackTraces = false) (hd : 4 ≤ d) (hy1 : VK 5 y1) (h : fX1_stepBack N A y1 = some out) : J g l d RX1 "stepBack" cX1_stepBack 2 none n0 s0 ((0, none, out) : JO) (True) 0 [(0, .ref (gB g + 64)), (1, .ref (gB g + y1))] [] A := by
  unfold fX1_stepBack at h
  refine j_aload_n (j := 0) dX1_stepBack_0 rfl rfl ?_
  refine j_aload_n (j := 0) dX1_stepBack_1 rfl rfl ?_
  refine j_getI FX1_25 rfl dX1_stepBack_2 (VK_c 1 64 rfl).1 (VK_c 1 64 rfl).lt (VK_c 1 64 rfl).ka (fun r1 => ?_)
  by_cases c2 : (gI A 64 1) = 0
  · rw [if_pos c2] at h
    refine j_if_ne_f r1 dX1_stepBack_5 (tgt := 13) (by decide) (fun q => q c2) ?_
    refine j_bipush dX1_stepBack_8 rfl ?_
    refine j_goto (tgt := 19) dX1_stepBack_10 (by decide) ?_
    exact j_sub [0, 1] rfl (tX1_stepBack_19 hl (by omega) hy1 (inR_lit _ rfl)  h)
  · rw [if_neg c2] at h
    refine j_if_ne_t r1 dX1_stepBack_5 (tgt := 13) (by decide) c2 ?_
    refine j_aload_n (j := 0) dX1_stepBack_13 rfl rfl ?_
    refine j_getI FX1_25 rfl dX1_stepBack_14 (VK_c 1 64 rfl).1 (VK_c 1 64 rfl).lt (VK_c 1 64 rfl).ka (fun r3 => ?_)
    refine j_iconst dX1_stepBack_17 ?_
    refine j_isub dX1_stepBack_18 ?_
    exact j_sub [0, 1] rfl (tX1_stepBack_19 hl (by omega) hy1 (wrap_inR _)  h)
theorem ctX1_stepBack {g : JG} {l : Launch} {d N : Nat} {A : AH} {out : AH} {y1 : Nat} (hl : l.stackTraces = false) (hd : 4 ≤ d) (hy1 : VK 5 y1) (h : fX1_stepBack N A y1 = some out) : CT g l yX1_stepBack cX1_stepBack 2 none d [.ref (gB g + 64), .ref (gB g + y1)] A ((0, none, out) : JO) (True) :=
  CT_of (by decide +kernel) hl (by first | exact Nat.le_of_ble_eq_true rfl | (unfold rv; split <;> exact Nat.le_of_ble_eq_true rfl)) (by first | rfl | (unfold rv; split <;> rfl)) (j_sub (lv := [(0, .ref (gB g + 64)), (1, .ref (gB g + y1))]) [0, 1] rfl (tX1_stepBack_0 hl hd hy1 h))
