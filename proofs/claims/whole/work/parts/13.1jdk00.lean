set_option maxRecDepth 100000 in
theorem tJ9_floorMod_7cf53_0 {g : JG} {l : Launch} {d N n0 s0 : Nat} {out : Int} {A : AH} {x0 : Int} {x1 : Int} (hl : l.stackTraces = false) (hd : 1 ≤ d) (hx0 : inR x0) (hx1 : inR x1) (h : fJ9_floorMod_7cf53 N A x0 x1 = some out) : J g l d RJ9 "floorMod" cJ9_floorMod_7cf53 3 (some .int) n0 s0 ((0, some (vI out), A) : JO) (inR out) 0 [(0, vI x0), (1, vI x1)] [] A := by
  unfold fJ9_floorMod_7cf53 at h
  refine j_iload_n (j := 0) dJ9_floorMod_7cf53_0 rfl rfl ?_
  refine j_iload_n (j := 1) dJ9_floorMod_7cf53_1 rfl rfl ?_
  obtain ⟨c1, h⟩ := chk_elim h
  refine j_irem hx0 hx1 c1 dJ9_floorMod_7cf53_2 ?_
  obtain ⟨u2, eu2, h⟩ := bnd_elim h
  have hu2 : inR u2 := by rw [eu2]; exact (tmod_inR _ hx0)
  refine j_nm eu2 ?_
  refine j_istore_n (lv' := [(2, vI u2), (0, vI x0), (1, vI x1)]) dJ9_floorMod_7cf53_3 rfl (by decide) (by first | rfl | (simp only [List.all_cons, List.all_nil, rv_cat]; rfl)) rfl ?_
  refine j_iload_n (j := 1) dJ9_floorMod_7cf53_4 rfl rfl ?_
  refine j_iload_n (j := 2) dJ9_floorMod_7cf53_5 rfl rfl ?_
  refine j_ixor dJ9_floorMod_7cf53_6 ?_
  by_cases c3 : 0 ≤ (iXor x0 x1)
  · rw [if_pos c3] at h
    refine j_if_ge_t (iXor_inR _ _) dJ9_floorMod_7cf53_7 (tgt := 18) (by decide) c3 ?_
    refine j_iload_n (j := 0) dJ9_floorMod_7cf53_18 rfl rfl ?_
    cases h
    exact j_iret dJ9_floorMod_7cf53_19 rfl rfl rfl hu2
  · rw [if_neg c3] at h
    refine j_if_ge_f (iXor_inR _ _) dJ9_floorMod_7cf53_7 (tgt := 18) (by decide) c3 ?_
    refine j_iload_n (j := 0) dJ9_floorMod_7cf53_10 rfl rfl ?_
    by_cases c4 : u2 = 0
    · rw [if_pos c4] at h
      refine j_if_eq_t hu2 dJ9_floorMod_7cf53_11 (tgt := 18) (by decide) c4 ?_
      refine j_iload_n (j := 0) dJ9_floorMod_7cf53_18 rfl rfl ?_
      cases h
      exact j_iret dJ9_floorMod_7cf53_19 rfl rfl rfl hu2
    · rw [if_neg c4] at h
      refine j_if_eq_f hu2 dJ9_floorMod_7cf53_11 (tgt := 18) (by decide) c4 ?_
      refine j_iload_n (j := 0) dJ9_floorMod_7cf53_14 rfl rfl ?_
      refine j_iload_n (j := 2) dJ9_floorMod_7cf53_15 rfl rfl ?_
      refine j_iadd dJ9_floorMod_7cf53_16 ?_
      cases h
      exact j_iret dJ9_floorMod_7cf53_17 rfl rfl rfl (wrap_inR _)
theorem ctJ9_floorMod_7cf53 {g : JG} {l : Launch} {d N : Nat} {A : AH} {out : Int} {x0 : Int} {x1 : Int} (hl : l.stackTraces = false) (hd : 1 ≤ d) (hx0 : inR x0) (hx1 : inR x1) (h : fJ9_floorMod_7cf53 N A x0 x1 = some out) : CT g l yJ9_floorMod_7cf53 cJ9_floorMod_7cf53 3 (some .int) d [vI x0, vI x1] A ((0, some (vI out), A) : JO) (inR out) :=
  CT_of (by decide +kernel) hl (by first | exact Nat.le_of_ble_eq_true rfl | (unfold rv; split <;> exact Nat.le_of_ble_eq_true rfl)) (by first | rfl | (unfold rv; split <;> rfl)) (j_sub (lv := [(0, vI x0), (1, vI x1)]) [0, 1] rfl (tJ9_floorMod_7cf53_0 hl hd hx0 hx1 h))
set_option maxRecDepth 100000 in
theorem tJ6_bitCount_0f7a4_0 {g : JG} {l : Launch} {d N n0 s0 : Nat} {out : Int} {A : AH} {x0 : Int} (hl : l.stackTraces = false) (hd : 1 ≤ d) (hx0 : inR x0) (h : fJ6_bitCount_0f7a4 N A x0 = some out) : J g l d RJ6 "bitCount" cJ6_bitCount_0f7a4 1 (some .int) n0 s0 ((0, some (vI out), A) : JO) (inR out) 0 [(0, vI x0)] [] A := by
  unfold fJ6_bitCount_0f7a4 at h
  refine j_iload_n (j := 0) dJ6_bitCount_0f7a4_0 rfl rfl ?_
  refine j_iload_n (j := 0) dJ6_bitCount_0f7a4_1 rfl rfl ?_
  refine j_iconst dJ6_bitCount_0f7a4_2 ?_
  refine j_iushr dJ6_bitCount_0f7a4_3 ?_
  refine j_ldcw (v := 1431655765) (gdI (i := 912) (by decide +kernel) rfl) dJ6_bitCount_0f7a4_4 ?_
  refine j_iand dJ6_bitCount_0f7a4_7 ?_
  refine j_isub dJ6_bitCount_0f7a4_8 ?_
  obtain ⟨u1, eu1, h⟩ := bnd_elim h
  have hu1 : inR u1 := by rw [eu1]; exact (wrap_inR _)
  refine j_nm eu1 ?_
  refine j_istore_n (lv' := [(0, vI u1)]) dJ6_bitCount_0f7a4_9 rfl (by decide) (by first | rfl | (simp only [List.all_cons, List.all_nil, rv_cat]; rfl)) rfl ?_
  refine j_iload_n (j := 0) dJ6_bitCount_0f7a4_10 rfl rfl ?_
  refine j_ldcw (v := 858993459) (gdI (i := 913) (by decide +kernel) rfl) dJ6_bitCount_0f7a4_11 ?_
  refine j_iand dJ6_bitCount_0f7a4_14 ?_
  refine j_iload_n (j := 0) dJ6_bitCount_0f7a4_15 rfl rfl ?_
  refine j_iconst dJ6_bitCount_0f7a4_16 ?_
  refine j_iushr dJ6_bitCount_0f7a4_17 ?_
  refine j_ldcw (v := 858993459) (gdI (i := 913) (by decide +kernel) rfl) dJ6_bitCount_0f7a4_18 ?_
  refine j_iand dJ6_bitCount_0f7a4_21 ?_
  refine j_iadd dJ6_bitCount_0f7a4_22 ?_
  obtain ⟨u2, eu2, h⟩ := bnd_elim h
  have hu2 : inR u2 := by rw [eu2]; exact (wrap_inR _)
  refine j_nm eu2 ?_
  refine j_istore_n (lv' := [(0, vI u2)]) dJ6_bitCount_0f7a4_23 rfl (by decide) (by first | rfl | (simp only [List.all_cons, List.all_nil, rv_cat]; rfl)) rfl ?_
  refine j_iload_n (j := 0) dJ6_bitCount_0f7a4_24 rfl rfl ?_
  refine j_iload_n (j := 0) dJ6_bitCount_0f7a4_25 rfl rfl ?_
  refine j_iconst dJ6_bitCount_0f7a4_26 ?_
  refine j_iushr dJ6_bitCount_0f7a4_27 ?_
  refine j_iadd dJ6_bitCount_0f7a4_28 ?_
  refine j_ldcw (v := 252645135) (gdI (i := 914) (by decide +kernel) rfl) dJ6_bitCount_0f7a4_29 ?_
  refine j_iand dJ6_bitCount_0f7a4_32 ?_
  obtain ⟨u3, eu3, h⟩ := bnd_elim h
  have hu3 : inR u3 := by rw [eu3]; exact (iAnd_inR _ _)
  refine j_nm eu3 ?_
  refine j_istore_n (lv' := [(0, vI u3)]) dJ6_bitCount_0f7a4_33 rfl (by decide) (by first | rfl | (simp only [List.all_cons, List.all_nil, rv_cat]; rfl)) rfl ?_
  refine j_iload_n (j := 0) dJ6_bitCount_0f7a4_34 rfl rfl ?_
  refine j_iload_n (j := 0) dJ6_bitCount_0f7a4_35 rfl rfl ?_
  refine j_bipush dJ6_bitCount_0f7a4_36 rfl ?_
  refine j_iushr dJ6_bitCount_0f7a4_38 ?_
  refine j_iadd dJ6_bitCount_0f7a4_39 ?_
  obtain ⟨u4, eu4, h⟩ := bnd_elim h
  have hu4 : inR u4 := by rw [eu4]; exact (wrap_inR _)
  refine j_nm eu4 ?_
  refine j_istore_n (lv' := [(0, vI u4)]) dJ6_bitCount_0f7a4_40 rfl (by decide) (by first | rfl | (simp only [List.all_cons, List.all_nil, rv_cat]; rfl)) rfl ?_
  refine j_iload_n (j := 0) dJ6_bitCount_0f7a4_41 rfl rfl ?_
  refine j_iload_n (j := 0) dJ6_bitCount_0f7a4_42 rfl rfl ?_
  refine j_bipush dJ6_bitCount_0f7a4_43 rfl ?_
  refine j_iushr dJ6_bitCount_0f7a4_45 ?_
  refine j_iadd dJ6_bitCount_0f7a4_46 ?_
  obtain ⟨u5, eu5, h⟩ := bnd_elim h
  have hu5 : inR u5 := by rw [eu5]; exact (wrap_inR _)
  refine j_nm eu5 ?_
  refine j_istore_n (lv' := [(0, vI u5)]) dJ6_bitCount_0f7a4_47 rfl (by decide) (by first | rfl | (simp only [List.all_cons, List.all_nil, rv_cat]; rfl)) rfl ?_
  refine j_iload_n (j := 0) dJ6_bitCount_0f7a4_48 rfl rfl ?_
  refine j_bipush dJ6_bitCount_0f7a4_49 rfl ?_
  refine j_iand dJ6_bitCount_0f7a4_51 ?_
  cases h
  exact j_iret dJ6_bitCount_0f7a4_52 rfl rfl rfl (iAnd_inR _ _)
theorem ctJ6_bitCount_0f7a4 {g : JG} {l : Launch} {d N : Nat} {A : AH} {out : Int} {x0 : Int} (hl : l.stackTraces = false) (hd : 1 ≤ d) (hx0 : inR x0) (h : fJ6_bitCount_0f7a4 N A x0 = some out) : CT g l yJ6_bitCount_0f7a4 cJ6_bitCount_0f7a4 1 (some .int) d [vI x0] A ((0, some (vI out), A) : JO) (inR out) :=
  CT_of (by decide +kernel) hl (by first | exact Nat.le_of_ble_eq_true rfl | (unfold rv; split <;> exact Nat.le_of_ble_eq_true rfl)) (by first | rfl | (unfold rv; split <;> rfl)) (j_sub (lv := [(0, vI x0)]) [0] rfl (tJ6_bitCount_0f7a4_0 hl hd hx0 h))
