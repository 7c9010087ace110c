/-! constructors -/
theorem kdA_lt {A : AH} {x K : Nat} (h : x < 376) (hk : kd x = K) : kdA A x = K := by
  unfold kdA
  rw [if_pos h]
  exact hk
def ordI (A : AH) (q : Nat) : AH := sI (sI (sI A q 6 (-1)) q 7 (-1)) q 8 (-1)
theorem hN_ordI (A : AH) (q : Nat) : hN (ordI A q) = hN A := rfl
theorem hSl_ordI (A : AH) (q : Nat) : hSl (ordI A q) = hSl A := rfl
theorem hDb_ordI (A : AH) (q : Nat) : hDb (ordI A q) = hDb A := rfl
theorem gP_ordI (A : AH) (q b j : Nat) : gP (ordI A q) b j = gP A b j := rfl
theorem gI_ordI (A : AH) (q b j : Nat) : gI (ordI A q) b j = if b = q ∧ j = 8 then -1 else if b = q ∧ j = 7 then -1 else if b = q ∧ j = 6 then -1 else gI A b j := rfl
set_option maxRecDepth 100000 in
theorem ctX3_init {g : JG} {l : Launch} {d : Nat} {A : AH} {q : Nat} (hl : l.stackTraces = false) (hd : 2 ≤ d) (hk : kd q = 3) (h1 : 1 ≤ q) (h6 : q < 376) (h2 : q < hN A) : CT0 g l yX3_init cX3_init 1 none d [.ref (gB g + q)] A ((0, none, ordI A q) : JO) True := by
  refine CT0_of (lv := [(0, .ref (gB g + q))]) (by decide +kernel) hl (by exact Nat.le_of_ble_eq_true rfl) rfl ?_
  refine j0_aload_n (j := 0) dX3_init_0 rfl rfl ?_
  refine j0_objInit (gdI (i := 130) (by decide +kernel) rfl) (gdI (i := 105) (by decide +kernel) rfl) (gdI (i := 106) (by decide +kernel) rfl) dX3_init_1 (by decide) (by omega) ?_
  refine j0_aload_n (j := 0) dX3_init_4 rfl rfl ?_
  refine j0_iconst dX3_init_5 ?_
  refine j0_putV FX3_9 rfl rfl rfl rfl (inR_lit _ rfl) dX3_init_6 h1 (fun _ => h2) (kdA_lt h6 hk) ?_
  refine j0_aload_n (j := 0) dX3_init_9 rfl rfl ?_
  refine j0_iconst dX3_init_10 ?_
  refine j0_putV FX3_15 rfl rfl rfl rfl (inR_lit _ rfl) dX3_init_11 h1 (fun _ => h2) (kdA_lt h6 hk) ?_
  refine j0_aload_n (j := 0) dX3_init_14 rfl rfl ?_
  refine j0_iconst dX3_init_15 ?_
  refine j0_putV FX3_18 rfl rfl rfl rfl (inR_lit _ rfl) dX3_init_16 h1 (fun _ => h2) (kdA_lt h6 hk) ?_
  exact j0_vret dX3_init_19 rfl rfl trivial
set_option maxRecDepth 100000 in
theorem ctX4_init {g : JG} {l : Launch} {d : Nat} {A : AH} {q : Nat} (hl : l.stackTraces = false) (hd : 2 ≤ d) (hk : kd q = 4) (h1 : 1 ≤ q) (h6 : q < 376) (h2 : q < hN A) : CT0 g l yX4_init cX4_init 1 none d [.ref (gB g + q)] A ((0, none, A) : JO) True := by
  refine CT0_of (lv := [(0, .ref (gB g + q))]) (by decide +kernel) hl (by exact Nat.le_of_ble_eq_true rfl) rfl ?_
  refine j0_aload_n (j := 0) dX4_init_0 rfl rfl ?_
  refine j0_objInit (gdI (i := 186) (by decide +kernel) rfl) (gdI (i := 105) (by decide +kernel) rfl) (gdI (i := 106) (by decide +kernel) rfl) dX4_init_1 (by decide) (by omega) ?_
  exact j0_vret dX4_init_4 rfl rfl trivial
set_option maxRecDepth 100000 in
theorem ctX0_init {g : JG} {l : Launch} {d : Nat} {A : AH} {q : Nat} (hl : l.stackTraces = false) (hd : 2 ≤ d) (hk : kd q = 0) (h1 : 1 ≤ q) (h6 : q < 376) (h2 : q < hN A) : CT0 g l yX0_init cX0_init 1 none d [.ref (gB g + q)] A ((0, none, A) : JO) True := by
  refine CT0_of (lv := [(0, .ref (gB g + q))]) (by decide +kernel) hl (by exact Nat.le_of_ble_eq_true rfl) rfl ?_
  refine j0_aload_n (j := 0) dX0_init_0 rfl rfl ?_
  refine j0_objInit (gdI (i := 204) (by decide +kernel) rfl) (gdI (i := 105) (by decide +kernel) rfl) (gdI (i := 106) (by decide +kernel) rfl) dX0_init_1 (by decide) (by omega) ?_
  exact j0_vret dX0_init_4 rfl rfl trivial
set_option maxRecDepth 100000 in
theorem ctX7_init {g : JG} {l : Launch} {d : Nat} {A : AH} {q : Nat} (hl : l.stackTraces = false) (hd : 2 ≤ d) (hk : kd q = 7) (h1 : 1 ≤ q) (h6 : q < 376) (h2 : q < hN A) : CT0 g l yX7_init cX7_init 1 none d [.ref (gB g + q)] A ((0, none, A) : JO) True := by
  refine CT0_of (lv := [(0, .ref (gB g + q))]) (by decide +kernel) hl (by exact Nat.le_of_ble_eq_true rfl) rfl ?_
  refine j0_aload_n (j := 0) dX7_init_0 rfl rfl ?_
  refine j0_objInit (gdI (i := 332) (by decide +kernel) rfl) (gdI (i := 105) (by decide +kernel) rfl) (gdI (i := 106) (by decide +kernel) rfl) dX7_init_1 (by decide) (by omega) ?_
  exact j0_vret dX7_init_4 rfl rfl trivial
/-- n new cells of a kind, put into an array -/
def eltL (K n o r : Nat) (F : AH → Nat → AH) (A : AH) (a : Nat) : Nat → AH
  | 0 => A
  | i + 1 => sP (F (nC (eltL K n o r F A a i) K n) (a + o + i)) (a + r) i (a + o + i)
theorem hN_eltL {K n o r : Nat} {F : AH → Nat → AH} (hF : ∀ A q, hN (F A q) = hN A) (A : AH) (a i : Nat) : hN (eltL K n o r F A a i) = hN A + i := by
  induction i with
  | zero => rfl
  | succ i ih => rw [eltL, hN_sP, hF, hN_nC, ih, Nat.add_assoc]
theorem gP_eltL {K n o r : Nat} {F : AH → Nat → AH} (hF : ∀ A q, hN (F A q) = hN A) (hP : ∀ A q b j, gP (F A q) b j = gP A b j) (A : AH) (a i b j : Nat) (h1 : b ≠ a + r) (h2 : b < hN A) : gP (eltL K n o r F A a i) b j = gP A b j := by
  induction i with
  | zero => rfl
  | succ i ih => rw [eltL, gP_sP, if_neg (fun z => h1 z.1), hP, gP_nC, hN_eltL hF, if_neg (by omega), ih]
def idF (A : AH) (_ : Nat) : AH := A
theorem hN_idF (A : AH) (q : Nat) : hN (idF A q) = hN A := rfl
theorem gP_idF (A : AH) (q b j : Nat) : gP (idF A q) b j = gP A b j := rfl
def ros0 (A : AH) (a : Nat) : AH := (cpS (cpS (sP (nC (sP (nC (sP (nC (sP (nC (sP (nC A 11 (jal 11)) (a) 0 (a + 1)) 12 (jal 12)) (a) 1 (a + 2)) 13 (jal 13)) (a) 2 (a + 3)) 14 (jal 14)) (a) 3 (a + 4)) 15 (jal 15)) (a) 4 (a + 5)) (jSF 2) (a + 1) 5) (jSF 3) (a + 2) 12)
def rosI (A : AH) (a : Nat) : AH := eltL 0 5 28 5 idF (eltL 4 3 22 4 idF (eltL 3 10 6 3 ordI (ros0 A a) a 16) a 6) a 3
theorem hN_ros0 (A : AH) (a : Nat) : hN (ros0 A a) = hN A + 5 := rfl
theorem hN_rosI (A : AH) (a : Nat) : hN (rosI A a) = hN A + 30 := by
  unfold rosI
  rw [hN_eltL hN_idF, hN_eltL hN_idF, hN_eltL hN_ordI, hN_ros0]
set_option maxRecDepth 100000 in
theorem tX5_l74 {g : JG} {l : Launch} {d n0 s0 : Nat} {o : JO} {Z : Prop} {B : AH} {a : Nat} (hl : l.stackTraces = false) (hd : 3 ≤ d) (h1 : 1 ≤ a) (h6 : a + 31 ≤ 376) (hR : ∀ t, t < 31 → kd (a + t) = kRos t) (hB : hN B = a + 6) (hP : gP B a 2 = a + 3) (KK : J0 g l d RX5 "<init>" cX5_init 2 none n0 s0 o Z 99 [(1, vI ((16 : Nat) : Int)), (0, .ref (gB g + a))] [] (eltL 3 10 6 3 ordI B a 16)) : ∀ k i : Nat, i + k = 16 → J0 g l d RX5 "<init>" cX5_init 2 none n0 s0 o Z 74 [(1, vI (i : Int)), (0, .ref (gB g + a))] [] (eltL 3 10 6 3 ordI B a i)
  | 0, i, h => by
    have hi : i = 16 := by omega
    subst hi
    refine j0_iload_n (j := 0) dX5_init_74 rfl rfl ?_
    refine j0_bipush dX5_init_75 rfl ?_
    exact j0_icmp_ge_t (inR_lit _ rfl) (inR_lit _ rfl) dX5_init_77 rfl (by decide) KK
  | k + 1, i, h => by
    have hi : i < 16 := by omega
    have hiR : inR (i : Int) := ⟨by omega, by omega⟩
    obtain ⟨C, eC⟩ : ∃ C : AH, C = eltL 3 10 6 3 ordI B a i := ⟨_, rfl⟩
    have nC0 : hN C = a + 6 + i := by rw [eC, hN_eltL hN_ordI, hB]
    have pC : gP C a 2 = a + 3 := by rw [eC, gP_eltL hN_ordI gP_ordI _ _ _ _ _ (by omega) (by omega), hP]
    have hkq : kd (a + 6 + i) = 3 := by
      rw [Nat.add_assoc, hR (6 + i) (by omega)]
      unfold kRos
      rw [if_neg (by omega), if_pos (by omega)]
    refine j0_hB eC ?_
    refine j0_iload_n (j := 0) dX5_init_74 rfl rfl ?_
    refine j0_bipush dX5_init_75 rfl ?_
    refine j0_icmp_ge_f hiR (inR_lit _ rfl) dX5_init_77 rfl (by omega) ?_
    refine j0_aload_n (j := 1) dX5_init_80 rfl rfl ?_
    refine j0_getR FX5_20 rfl dX5_init_81 h1 (by omega) (kdA_lt (by omega) (hR 0 (by decide))) (q := a + 3) pC (by omega) ?_
    refine j0_iload_n (j := 0) dX5_init_84 rfl rfl ?_
    refine j0_new (qn := a + 6 + i) nC0 (K := 3) (by decide) hkq (by omega) (by omega) (gdI (i := 113) (by decide +kernel) rfl) (gdI (i := 126) (by decide +kernel) rfl) (gdI (i := 78) (by decide +kernel) rfl) dX5_init_85 ?_
    have nC1 : hN (nC C 3 (jfn 3)) = a + 6 + i + 1 := by rw [hN_nC, nC0]
    refine j0_dup dX5_init_88 rfl ?_
    refine j0_callIN (host := "PilotRoster") (y := yX3_init) (As := []) (d' := d - 1) (nwI (i := 127) (by decide +kernel) rfl) ⟨gdI (i := 78) (by decide +kernel) rfl, gdI (i := 129) (by decide +kernel) rfl, by decide, by decide, rfl⟩ (gdI (i := 128) (by decide +kernel) rfl) rfl (by decide) (by omega) (Nat.le_of_ble_eq_true rfl) rfl (ctX3_init hl (by omega) hkq (by omega) (by omega) (by omega)) dX5_init_89 rfl (fun _ _ => ?_)
    refine j0_aast (K := 13) (J := 3) hiR (by decide) (by decide) (by decide) (by decide) (by decide) rfl dX5_init_92 (by omega) (show a + 3 < hN (ordI (nC C 3 (jfn 3)) (a + 6 + i)) by show a + 3 < hN (nC C 3 (jfn 3)); omega) (kdA_lt (by omega) (hR 3 (by decide))) ⟨by omega, by show (i : Int) < 16; omega⟩ (by omega) (show a + 6 + i < hN (ordI (nC C 3 (jfn 3)) (a + 6 + i)) by show a + 6 + i < hN (nC C 3 (jfn 3)); omega) (kdA_lt (by omega) hkq) ?_
    refine j0_iinc (k := 0) dX5_init_93 rfl (by decide) rfl (lv' := [(1, vI ((i + 1 : Nat) : Int)), (0, .ref (gB g + a))]) (by rw [wrap_eq (by omega) (by omega)]; rfl) ?_
    refine j0_goto dX5_init_96 rfl ?_
    have ih := tX5_l74 hl hd h1 h6 hR hB hP KK k (i + 1) (by omega)
    rw [eltL, ← eC] at ih
    exact ih
set_option maxRecDepth 100000 in
theorem tX5_l101 {g : JG} {l : Launch} {d n0 s0 : Nat} {o : JO} {Z : Prop} {B : AH} {a : Nat} (hl : l.stackTraces = false) (hd : 3 ≤ d) (h1 : 1 ≤ a) (h6 : a + 31 ≤ 376) (hR : ∀ t, t < 31 → kd (a + t) = kRos t) (hB : hN B = a + 22) (hP : gP B a 3 = a + 4) (KK : J0 g l d RX5 "<init>" cX5_init 2 none n0 s0 o Z 126 [(1, vI ((6 : Nat) : Int)), (0, .ref (gB g + a))] [] (eltL 4 3 22 4 idF B a 6)) : ∀ k i : Nat, i + k = 6 → J0 g l d RX5 "<init>" cX5_init 2 none n0 s0 o Z 101 [(1, vI (i : Int)), (0, .ref (gB g + a))] [] (eltL 4 3 22 4 idF B a i)
  | 0, i, h => by
    have hi : i = 6 := by omega
    subst hi
    refine j0_iload_n (j := 0) dX5_init_101 rfl rfl ?_
    refine j0_bipush dX5_init_102 rfl ?_
    exact j0_icmp_ge_t (inR_lit _ rfl) (inR_lit _ rfl) dX5_init_104 rfl (by decide) KK
  | k + 1, i, h => by
    have hi : i < 6 := by omega
    have hiR : inR (i : Int) := ⟨by omega, by omega⟩
    obtain ⟨C, eC⟩ : ∃ C : AH, C = eltL 4 3 22 4 idF B a i := ⟨_, rfl⟩
    have nC0 : hN C = a + 22 + i := by rw [eC, hN_eltL hN_idF, hB]
    have pC : gP C a 3 = a + 4 := by rw [eC, gP_eltL hN_idF gP_idF _ _ _ _ _ (by omega) (by omega), hP]
    have hkq : kd (a + 22 + i) = 4 := by
      rw [Nat.add_assoc, hR (22 + i) (by omega)]
      unfold kRos
      rw [if_neg (by omega), if_neg (by omega), if_pos (by omega)]
    refine j0_hB eC ?_
    refine j0_iload_n (j := 0) dX5_init_101 rfl rfl ?_
    refine j0_bipush dX5_init_102 rfl ?_
    refine j0_icmp_ge_f hiR (inR_lit _ rfl) dX5_init_104 rfl (by omega) ?_
    refine j0_aload_n (j := 1) dX5_init_107 rfl rfl ?_
    refine j0_getR FX5_26 rfl dX5_init_108 h1 (by omega) (kdA_lt (by omega) (hR 0 (by decide))) (q := a + 4) pC (by omega) ?_
    refine j0_iload_n (j := 0) dX5_init_111 rfl rfl ?_
    refine j0_new (qn := a + 22 + i) nC0 (K := 4) (by decide) hkq (by omega) (by omega) (gdI (i := 115) (by decide +kernel) rfl) (gdI (i := 182) (by decide +kernel) rfl) (gdI (i := 79) (by decide +kernel) rfl) dX5_init_112 ?_
    have nC1 : hN (nC C 4 (jfn 4)) = a + 22 + i + 1 := by rw [hN_nC, nC0]
    refine j0_dup dX5_init_115 rfl ?_
    refine j0_callIN (host := "PilotRoster") (y := yX4_init) (As := []) (d' := d - 1) (nwI (i := 183) (by decide +kernel) rfl) ⟨gdI (i := 79) (by decide +kernel) rfl, gdI (i := 185) (by decide +kernel) rfl, by decide, by decide, rfl⟩ (gdI (i := 184) (by decide +kernel) rfl) rfl (by decide) (by omega) (Nat.le_of_ble_eq_true rfl) rfl (ctX4_init hl (by omega) hkq (by omega) (by omega) (by omega)) dX5_init_116 rfl (fun _ _ => ?_)
    refine j0_aast (K := 14) (J := 4) hiR (by decide) (by decide) (by decide) (by decide) (by decide) rfl dX5_init_119 (by omega) (show a + 4 < hN (nC C 4 (jfn 4)) by show a + 4 < hN (nC C 4 (jfn 4)); omega) (kdA_lt (by omega) (hR 4 (by decide))) ⟨by omega, by show (i : Int) < 6; omega⟩ (by omega) (show a + 22 + i < hN (nC C 4 (jfn 4)) by show a + 22 + i < hN (nC C 4 (jfn 4)); omega) (kdA_lt (by omega) hkq) ?_
    refine j0_iinc (k := 0) dX5_init_120 rfl (by decide) rfl (lv' := [(1, vI ((i + 1 : Nat) : Int)), (0, .ref (gB g + a))]) (by rw [wrap_eq (by omega) (by omega)]; rfl) ?_
    refine j0_goto dX5_init_123 rfl ?_
    have ih := tX5_l101 hl hd h1 h6 hR hB hP KK k (i + 1) (by omega)
    rw [eltL, ← eC] at ih
    exact ih
set_option maxRecDepth 100000 in
theorem tX5_l128 {g : JG} {l : Launch} {d n0 s0 : Nat} {o : JO} {Z : Prop} {B : AH} {a : Nat} (hl : l.stackTraces = false) (hd : 3 ≤ d) (h1 : 1 ≤ a) (h6 : a + 31 ≤ 376) (hR : ∀ t, t < 31 → kd (a + t) = kRos t) (hB : hN B = a + 28) (hP : gP B a 4 = a + 5) (KK : J0 g l d RX5 "<init>" cX5_init 2 none n0 s0 o Z 152 [(1, vI ((3 : Nat) : Int)), (0, .ref (gB g + a))] [] (eltL 0 5 28 5 idF B a 3)) : ∀ k i : Nat, i + k = 3 → J0 g l d RX5 "<init>" cX5_init 2 none n0 s0 o Z 128 [(1, vI (i : Int)), (0, .ref (gB g + a))] [] (eltL 0 5 28 5 idF B a i)
  | 0, i, h => by
    have hi : i = 3 := by omega
    subst hi
    refine j0_iload_n (j := 0) dX5_init_128 rfl rfl ?_
    refine j0_iconst dX5_init_129 ?_
    exact j0_icmp_ge_t (inR_lit _ rfl) (inR_lit _ rfl) dX5_init_130 rfl (by decide) KK
  | k + 1, i, h => by
    have hi : i < 3 := by omega
    have hiR : inR (i : Int) := ⟨by omega, by omega⟩
    obtain ⟨C, eC⟩ : ∃ C : AH, C = eltL 0 5 28 5 idF B a i := ⟨_, rfl⟩
    have nC0 : hN C = a + 28 + i := by rw [eC, hN_eltL hN_idF, hB]
    have pC : gP C a 4 = a + 5 := by rw [eC, gP_eltL hN_idF gP_idF _ _ _ _ _ (by omega) (by omega), hP]
    have hkq : kd (a + 28 + i) = 0 := by
      rw [Nat.add_assoc, hR (28 + i) (by omega)]
      unfold kRos
      rw [if_neg (by omega), if_neg (by omega), if_neg (by omega)]
    refine j0_hB eC ?_
    refine j0_iload_n (j := 0) dX5_init_128 rfl rfl ?_
    refine j0_iconst dX5_init_129 ?_
    refine j0_icmp_ge_f hiR (inR_lit _ rfl) dX5_init_130 rfl (by omega) ?_
    refine j0_aload_n (j := 1) dX5_init_133 rfl rfl ?_
    refine j0_getR FX5_32 rfl dX5_init_134 h1 (by omega) (kdA_lt (by omega) (hR 0 (by decide))) (q := a + 5) pC (by omega) ?_
    refine j0_iload_n (j := 0) dX5_init_137 rfl rfl ?_
    refine j0_new (qn := a + 28 + i) nC0 (K := 0) (by decide) hkq (by omega) (by omega) (gdI (i := 117) (by decide +kernel) rfl) (gdI (i := 200) (by decide +kernel) rfl) (gdI (i := 80) (by decide +kernel) rfl) dX5_init_138 ?_
    have nC1 : hN (nC C 0 (jfn 0)) = a + 28 + i + 1 := by rw [hN_nC, nC0]
    refine j0_dup dX5_init_141 rfl ?_
    refine j0_callIN (host := "PilotRoster") (y := yX0_init) (As := []) (d' := d - 1) (nwI (i := 201) (by decide +kernel) rfl) ⟨gdI (i := 80) (by decide +kernel) rfl, gdI (i := 203) (by decide +kernel) rfl, by decide, by decide, rfl⟩ (gdI (i := 202) (by decide +kernel) rfl) rfl (by decide) (by omega) (Nat.le_of_ble_eq_true rfl) rfl (ctX0_init hl (by omega) hkq (by omega) (by omega) (by omega)) dX5_init_142 rfl (fun _ _ => ?_)
    refine j0_aast (K := 15) (J := 0) hiR (by decide) (by decide) (by decide) (by decide) (by decide) rfl dX5_init_145 (by omega) (show a + 5 < hN (nC C 0 (jfn 0)) by show a + 5 < hN (nC C 0 (jfn 0)); omega) (kdA_lt (by omega) (hR 5 (by decide))) ⟨by omega, by show (i : Int) < 3; omega⟩ (by omega) (show a + 28 + i < hN (nC C 0 (jfn 0)) by show a + 28 + i < hN (nC C 0 (jfn 0)); omega) (kdA_lt (by omega) hkq) ?_
    refine j0_iinc (k := 0) dX5_init_146 rfl (by decide) rfl (lv' := [(1, vI ((i + 1 : Nat) : Int)), (0, .ref (gB g + a))]) (by rw [wrap_eq (by omega) (by omega)]; rfl) ?_
    refine j0_goto dX5_init_149 rfl ?_
    have ih := tX5_l128 hl hd h1 h6 hR hB hP KK k (i + 1) (by omega)
    rw [eltL, ← eC] at ih
    exact ih
