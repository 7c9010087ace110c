/-! constructors -/
theorem kdA_lt {A : AH} {x K : Nat} (h : x < 376) (hk : kd x = K) : kdA A x = K := by
  unfold kdA
  rw [if_pos h]
  exact hk
def ordI (A : AH) (q : Nat) : AH := sI (sI (sI A q 6 (-1)) q 7 (-1)) q 8 (-1)
theorem hN_ordI (A : AH) (q : Nat) : hN (ordI A q) = hN A := rfl
theorem hSl_ordI (A : AH) (q : Nat) : hSl (ordI A q) = hSl A := rfl
theorem hDb_ordI (A : AH) (q : Nat) : hDb (ordI A q) = hDb A := rfl
theorem gP_ordI (A : AH) (q b j : Nat) : gP (ordI A q) b j = gP A b j := rfl
theorem gI_ordI (A : AH) (q b j : Nat) : gI (ordI A q) b j = if b = q ∧ j = 8 then -1 else if b = q ∧ j = 7 then -1 else if b = q ∧ j = 6 then -1 else gI A b j := rfl
set_option maxRecDepth 100000 in
theorem ctX3_init {g : JG} {l : Launch} {d : Nat} {A : AH} {q : Nat} (hl : l.stackTraces = false) (hd : 2 ≤ d) (hk : kd q = 3) (h1 : 1 ≤ q) (h6 : q < 376) (h2 : q < hN A) : CT0 g l yX3_init cX3_init 1 none d [.ref (gB g + q)] A ((0, none, ordI A q) : JO) True := by
  refine CT0_of (lv := [(0, .ref (gB g + q))]) (by decide +kernel) hl (by exact Nat.le_of_ble_eq_true rfl) rfl ?_
  refine j0_aload_n (j := 0) dX3_init_0 rfl rfl ?_
  refine j0_objInit (gdI (i := 130) (by decide +kernel) rfl) (gdI (i := 105) (by decide +kernel) rfl) (gdI (i := 106) (by decide +kernel) rfl) dX3_init_1 (by decide) (by omega) ?_
  refine j0_aload_n (j := 0) dX3_init_4 rfl rfl ?_
  refine j0_iconst dX3_init_5 ?_
  refine j0_putV FX3_9 rfl rfl rfl rfl (inR_lit _ rfl) dX3_init_6 h1 (fun _ => h2) (kdA_lt h6 hk) ?_
  refine j0_aload_n (j := 0) dX3_init_9 rfl rfl ?_
  refine j0_iconst dX3_init_10 ?_
  refine j0_putV FX3_15 rfl rfl rfl rfl (inR_lit _ rfl) dX3_init_11 h1 (fun _ => h2) (kdA_lt h6 hk) ?_
  refine j0_aload_n (j := 0) dX3_init_14 rfl rfl ?_
  refine j0_iconst dX3_init_15 ?_
  refine j0_putV FX3_18 rfl rfl rfl rfl (inR_lit _ rfl) dX3_init_16 h1 (fun _ => h2) (kdA_lt h6 hk) ?_
  exact j0_vret dX3_init_19 rfl rfl trivial
set_option maxRecDepth 100000 in
theorem ctX4_init {g : JG} {l : Launch} {d : Nat} {A : AH} {q : Nat} (hl : l.stackTraces = false) (hd : 2 ≤ d) (hk : kd q = 4) (h1 : 1 ≤ q) (h6 : q < 376) (h2 : q < hN A) : CT0 g l yX4_init cX4_init 1 none d [.ref (gB g + q)] A ((0, none, A) : JO) True := by
  refine CT0_of (lv := [(0, .ref (gB g + q))]) (by decide +kernel) hl (by exact Nat.le_of_ble_eq_true rfl) rfl ?_
  refine j0_aload_n (j := 0) dX4_init_0 rfl rfl ?_
  refine j0_objInit (gdI (i := 186) (by decide +kernel) rfl) (gdI (i := 105) (by decide +kernel) rfl) (gdI (i := 106) (by decide +kernel) rfl) dX4_init_1 (by decide) (by omega) ?_
  exact j0_vret dX4_init_4 rfl rfl trivial
set_option maxRecDepth 100000 in
theorem ctX0_init {g : JG} {l : Launch} {d : Nat} {A : AH} {q : Nat} (hl : l.stackTraces = false) (hd : 2 ≤ d) (hk : kd q = 0) (h1 : 1 ≤ q) (h6 : q < 376) (h2 : q < hN A) : CT0 g l yX0_init cX0_init 1 none d [.ref (gB g + q)] A ((0, none, A) : JO) True := by
  refine CT0_of (lv := [(0, .ref (gB g + q))]) (by decide +kernel) hl (by exact Nat.le_of_ble_eq_true rfl) rfl ?_
  refine j0_aload_n (j := 0) dX0_init_0 rfl rfl ?_
  refine j0_objInit (gdI (i := 204) (by decide +kernel) rfl) (gdI (i := 105) (by decide +kernel) rfl) (gdI (i := 106) (by decide +kernel) rfl) dX0_init_1 (by decide) (by omega) ?_
  exact j0_vret dX0_init_4 rfl rfl trivial
set_option maxRecDepth 100000 in
theorem ctX7_init {g : JG} {l : Launch} {d : Nat} {A : AH} {q : Nat} (hl : l.stackTraces = false) (hd : 2 ≤ d) (hk : kd q = 7) (h1 : 1 ≤ q) (h6 : q < 376) (h2 : q < hN A) : CT0 g l yX7_init cX7_init 1 none d [.ref (gB g + q)] A ((0, none, A) : JO) True := by
  refine CT0_of (lv := [(0, .ref (gB g + q))]) (by decide +kernel) hl (by exact Nat.le_of_ble_eq_true rfl) rfl ?_
  refine j0_aload_n (j := 0) dX7_init_0 rfl rfl ?_
  refine j0_objInit (gdI (i := 332) (by decide +kernel) rfl) (gdI (i := 105) (by decide +kernel) rfl) (gdI (i := 106) (by decide +kernel) rfl) dX7_init_1 (by decide) (by omega) ?_
  exact j0_vret dX7_init_4 rfl rfl trivial
/-- n new cells of a kind, put into an array -/
def eltL (K n o r : Nat) (F : AH → Nat → AH) (A : AH) (a : Nat) : Nat → AH
  | 0 => A
  | i + 1 => sP (F (nC (eltL K n o r F A a i) K n) (a + o + i)) (a + r) i (a + o + i)
theorem hN_eltL {K n o r : Nat} {F : AH → Nat → AH} (hF : ∀ A q, hN (F A q) = hN A) (A : AH) (a i : Nat) : hN (eltL K n o r F A a i) = hN A + i := by
  induction i with
  | zero => rfl
  | succ i ih => rw [eltL, hN_sP, hF, hN_nC, ih, Nat.add_assoc]
theorem gP_eltL {K n o r : Nat} {F : AH → Nat → AH} (hF : ∀ A q, hN (F A q) = hN A) (hP : ∀ A q b j, gP (F A q) b j = gP A b j) (A : AH) (a i b j : Nat) (h1 : b ≠ a + r) (h2 : b < hN A) : gP (eltL K n o r F A a i) b j = gP A b j := by
  induction i with
  | zero => rfl
  | succ i ih => rw [eltL, gP_sP, if_neg (fun z => h1 z.1), hP, gP_nC, hN_eltL hF, if_neg (by omega), ih]
def idF (A : AH) (_ : Nat) : AH := A
theorem hN_idF (A : AH) (q : Nat) : hN (idF A q) = hN A := rfl
theorem gP_idF (A : AH) (q b j : Nat) : gP (idF A q) b j = gP A b j := rfl
def ros0 (A : AH) (a : Nat) : AH := (cpS (cpS (sP (nC (sP (nC (sP (nC (sP (nC (sP (nC A 11 (jal 11)) (a) 0 (a + 1)) 12 (jal 12)) (a) 1 (a + 2)) 13 (jal 13)) (a) 2 (a + 3)) 14 (jal 14)) (a) 3 (a + 4)) 15 (jal 15)) (a) 4 (a + 5)) (jSF 2) (a + 1) 5) (jSF 3) (a + 2) 12)
def rosI (A : AH) (a : Nat) : AH := eltL 0 5 28 5 idF (eltL 4 3 22 4 idF (eltL 3 10 6 3 ordI (ros0 A a) a 16) a 6) a 3
theorem hN_ros0 (A : AH) (a : Nat) : hN (ros0 A a) = hN A + 5 := rfl
theorem hN_rosI (A : AH) (a : Nat) : hN (rosI A a) = hN A + 30 := by
  unfold rosI
  rw [hN_eltL hN_idF, hN_eltL hN_idF, hN_eltL hN_ordI, hN_ros0]
set_option maxRecDepth 100000 in
theorem tX5_l74 {g : JG} {l : Launch} {d n0 s0 : Nat} {o : JO} {Z : Prop} {B : AH} {a : Nat} (hl : l.stackTraces = false) (hd : 3 ≤ d) (h1 : 1 ≤ a) (h6 : a + 31 ≤ 376) (hR : ∀ t, t < 31 → kd (a + t) = kRos t) (hB : hN B = a + 6) (hP : gP B a 2 = a + 3) (KK : J0 g l d RX5 "<init>" cX5_init 2 none n0 s0 o Z 99 [(1, vI ((16 : Nat) : Int)), (0, .ref (gB g + a))] [] (eltL 3 10 6 3 ordI B a 16)) : ∀ k i : Nat, i + k = 16 → J0 g l d RX5 "<init>" cX5_init 2 none n0 s0 o Z 74 [(1, vI (i : Int)), (0, .ref (gB g + a))] [] (eltL 3 10 6 3 ordI B a i)
  | 0, i, h => by
    have hi : i = 16 := by omega
    subst hi
    refine j0_iload_n (j := 0) dX5_init_74 rfl rfl ?_
    refine j0_bipush dX5_init_75 rfl ?_
    exact j0_icmp_ge_t (inR_lit _ rfl) (inR_lit _ rfl) dX5_init_77 rfl (by decide) KK
  | k + 1, i, h => by
    have hi : i < 16 := by omega
    have hiR : inR (i : Int) := ⟨by omega, by omega⟩
    obtain ⟨C, eC⟩ : ∃ C : AH, C = eltL 3 10 6 3 ordI B a i := ⟨_, rfl⟩
    have nC0 : hN C = a + 6 + i := by rw [eC, hN_eltL hN_ordI, hB]
    have pC : gP C a 2 = a + 3 := by rw [eC, gP_eltL hN_ordI gP_ordI _ _ _ _ _ (by omega) (by omega), hP]
    have hkq : kd (a + 6 + i) = 3 := by
      rw [Nat.add_assoc, hR (6 + i) (by omega)]
      unfold kRos
      rw [if_neg (by omega), if_pos (by omega)]
    refine j0_hB eC ?_
    refine j0_iload_n (j := 0) dX5_init_74 rfl rfl ?_
    refine j0_bipush dX5_init_75 rfl ?_
    refine j0_icmp_ge_f hiR (inR_lit _ rfl) dX5_init_77 rfl (by omega) ?_
    refine j0_aload_n (j := 1) dX5_init_80 rfl rfl ?_
    refine j0_getR FX5_20 rfl dX5_init_81 h1 (by omega) (kdA_lt (by omega) (hR 0 (by decide))) (q := a + 3) pC (by omega) ?_
    refine j0_iload_n (j := 0) dX5_init_84 rfl rfl ?_
    refine j0_new (qn := a + 6 + i) nC0 (K := 3) (by decide) hkq (by omega) (by omega) (gdI (i := 113) (by decide +kernel) rfl) (gdI (i := 126) (by decide +kernel) rfl) (gdI (i := 78) (by decide +kernel) rfl) dX5_init_85 ?_
    have nC1 : hN (nC C 3 (jfn 3)) = a + 6 + i + 1 := by rw [hN_nC, nC0]
    refine j0_dup dX5_init_88 rfl ?_
    refine j0_callIN (host := "PilotRoster") (y := yX3_init) (As := []) (d' := d - 1) (nwI (i := 127) (by decide +kernel) rfl) ⟨gdI (i := 78) (by decide +kernel) rfl, gdI (i := 129) (by decide +kernel) rfl, by decide, by decide, rfl⟩ (gdI (i := 128) (by decide +kernel) rfl) rfl (by decide) (by omega) (Nat.le_of_ble_eq_true rfl) rfl (ctX3_init hl (by omega) hkq (by omega) (by omega) (by omega)) dX5_init_89 rfl (fun _ _ => ?_)
    refine j0_aast (K := 13) (J := 3) hiR (by decide) (by decide) (by decide) (by decide) (by decide) rfl dX5_init_92 (by omega) (show a + 3 < hN (ordI (nC C 3 (jfn 3)) (a + 6 + i)) by show a + 3 < hN (nC C 3 (jfn 3)); omega) (kdA_lt (by omega) (hR 3 (by decide))) ⟨by omega, by show (i : Int) < 16; omega⟩ (by omega) (show a + 6 + i < hN (ordI (nC C 3 (jfn 3)) (a + 6 + i)) by show a + 6 + i < hN (nC C 3 (jfn 3)); omega) (kdA_lt (by omega) hkq) ?_
    refine j0_iinc (k := 0) dX5_init_93 rfl (by decide) rfl (lv' := [(1, vI ((i + 1 : Nat) : Int)), (0, .ref (gB g + a))]) (by rw [wrap_eq (by omega) (by omega)]; rfl) ?_
    refine j0_goto dX5_init_96 rfl ?_
    have ih := tX5_l74 hl hd h1 h6 hR hB hP KK k (i + 1) (by omega)
    rw [eltL, ← eC] at ih
    exact ih
set_option maxRecDepth 100000 in
theorem tX5_l101 {g : JG} {l : Launch} {d n0 s0 : Nat} {o : JO} {Z : Prop} {B : AH} {a : Nat} (hl : l.stackTraces = false) (hd : 3 ≤ d) (h1 : 1 ≤ a) (h6 : a + 31 ≤ 376) (hR : ∀ t, t < 31 → kd (a + t) = kRos t) (hB : hN B = a + 22) (hP : gP B a 3 = a + 4) (KK : J0 g l d RX5 "<init>" cX5_init 2 none n0 s0 o Z 126 [(1, vI ((6 : Nat) : Int)), (0, .ref (gB g + a))] [] (eltL 4 3 22 4 idF B a 6)) : ∀ k i : Nat, i + k = 6 → J0 g l d RX5 "<init>" cX5_init 2 none n0 s0 o Z 101 [(1, vI (i : Int)), (0, .ref (gB g + a))] [] (eltL 4 3 22 4 idF B a i)
  | 0, i, h => by
    have hi : i = 6 := by omega
    subst hi
    refine j0_iload_n (j := 0) dX5_init_101 rfl rfl ?_
    refine j0_bipush dX5_init_102 rfl ?_
    exact j0_icmp_ge_t (inR_lit _ rfl) (inR_lit _ rfl) dX5_init_104 rfl (by decide) KK
  | k + 1, i, h => by
    have hi : i < 6 := by omega
    have hiR : inR (i : Int) := ⟨by omega, by omega⟩
    obtain ⟨C, eC⟩ : ∃ C : AH, C = eltL 4 3 22 4 idF B a i := ⟨_, rfl⟩
    have nC0 : hN C = a + 22 + i := by rw [eC, hN_eltL hN_idF, hB]
    have pC : gP C a 3 = a + 4 := by rw [eC, gP_eltL hN_idF gP_idF _ _ _ _ _ (by omega) (by omega), hP]
    have hkq : kd (a + 22 + i) = 4 := by
      rw [Nat.add_assoc, hR (22 + i) (by omega)]
      unfold kRos
      rw [if_neg (by omega), if_neg (by omega), if_pos (by omega)]
    refine j0_hB eC ?_
    refine j0_iload_n (j := 0) dX5_init_101 rfl rfl ?_
    refine j0_bipush dX5_init_102 rfl ?_
    refine j0_icmp_ge_f hiR (inR_lit _ rfl) dX5_init_104 rfl (by omega) ?_
    refine j0_aload_n (j := 1) dX5_init_107 rfl rfl ?_
    refine j0_getR FX5_26 rfl dX5_init_108 h1 (by omega) (kdA_lt (by omega) (hR 0 (by decide))) (q := a + 4) pC (by omega) ?_
    refine j0_iload_n (j := 0) dX5_init_111 rfl rfl ?_
    refine j0_new (qn := a + 22 + i) nC0 (K := 4) (by decide) hkq (by omega) (by omega) (gdI (i := 115) (by decide +kernel) rfl) (gdI (i := 182) (by decide +kernel) rfl) (gdI (i := 79) (by decide +kernel) rfl) dX5_init_112 ?_
    have nC1 : hN (nC C 4 (jfn 4)) = a + 22 + i + 1 := by rw [hN_nC, nC0]
    refine j0_dup dX5_init_115 rfl ?_
    refine j0_callIN (host := "PilotRoster") (y := yX4_init) (As := []) (d' := d - 1) (nwI (i := 183) (by decide +kernel) rfl) ⟨gdI (i := 79) (by decide +kernel) rfl, gdI (i := 185) (by decide +kernel) rfl, by decide, by decide, rfl⟩ (gdI (i := 184) (by decide +kernel) rfl) rfl (by decide) (by omega) (Nat.le_of_ble_eq_true rfl) rfl (ctX4_init hl (by omega) hkq (by omega) (by omega) (by omega)) dX5_init_116 rfl (fun _ _ => ?_)
    refine j0_aast (K := 14) (J := 4) hiR (by decide) (by decide) (by decide) (by decide) (by decide) rfl dX5_init_119 (by omega) (show a + 4 < hN (nC C 4 (jfn 4)) by show a + 4 < hN (nC C 4 (jfn 4)); omega) (kdA_lt (by omega) (hR 4 (by decide))) ⟨by omega, by show (i : Int) < 6; omega⟩ (by omega) (show a + 22 + i < hN (nC C 4 (jfn 4)) by show a + 22 + i < hN (nC C 4 (jfn 4)); omega) (kdA_lt (by omega) hkq) ?_
    refine j0_iinc (k := 0) dX5_init_120 rfl (by decide) rfl (lv' := [(1, vI ((i + 1 : Nat) : Int)), (0, .ref (gB g + a))]) (by rw [wrap_eq (by omega) (by omega)]; rfl) ?_
    refine j0_goto dX5_init_123 rfl ?_
    have ih := tX5_l101 hl hd h1 h6 hR hB hP KK k (i + 1) (by omega)
    rw [eltL, ← eC] at ih
    exact ih
set_option maxRecDepth 100000 in
theorem tX5_l128 {g : JG} {l : Launch} {d n0 s0 : Nat} {o : JO} {Z : Prop} {B : AH} {a : Nat} (hl : l.stackTraces = false) (hd : 3 ≤ d) (h1 : 1 ≤ a) (h6 : a + 31 ≤ 376) (hR : ∀ t, t < 31 → kd (a + t) = kRos t) (hB : hN B = a + 28) (hP : gP B a 4 = a + 5) (KK : J0 g l d RX5 "<init>" cX5_init 2 none n0 s0 o Z 152 [(1, vI ((3 : Nat) : Int)), (0, .ref (gB g + a))] [] (eltL 0 5 28 5 idF B a 3)) : ∀ k i : Nat, i + k = 3 → J0 g l d RX5 "<init>" cX5_init 2 none n0 s0 o Z 128 [(1, vI (i : Int)), (0, .ref (gB g + a))] [] (eltL 0 5 28 5 idF B a i)
  | 0, i, h => by
    have hi : i = 3 := by omega
    subst hi
    refine j0_iload_n (j := 0) dX5_init_128 rfl rfl ?_
    refine j0_iconst dX5_init_129 ?_
    exact j0_icmp_ge_t (inR_lit _ rfl) (inR_lit _ rfl) dX5_init_130 rfl (by decide) KK
  | k + 1, i, h => by
    have hi : i < 3 := by omega
    have hiR : inR (i : Int) := ⟨by omega, by omega⟩
    obtain ⟨C, eC⟩ : ∃ C : AH, C = eltL 0 5 28 5 idF B a i := ⟨_, rfl⟩
    have nC0 : hN C = a + 28 + i := by rw [eC, hN_eltL hN_idF, hB]
    have pC : gP C a 4 = a + 5 := by rw [eC, gP_eltL hN_idF gP_idF _ _ _ _ _ (by omega) (by omega), hP]
    have hkq : kd (a + 28 + i) = 0 := by
      rw [Nat.add_assoc, hR (28 + i) (by omega)]
      unfold kRos
      rw [if_neg (by omega), if_neg (by omega), if_neg (by omega)]
    refine j0_hB eC ?_
    refine j0_iload_n (j := 0) dX5_init_128 rfl rfl ?_
    refine j0_iconst dX5_init_129 ?_
    refine j0_icmp_ge_f hiR (inR_lit _ rfl) dX5_init_130 rfl (by omega) ?_
    refine j0_aload_n (j := 1) dX5_init_133 rfl rfl ?_
    refine j0_getR FX5_32 rfl dX5_init_134 h1 (by omega) (kdA_lt (by omega) (hR 0 (by decide))) (q := a + 5) pC (by omega) ?_
    refine j0_iload_n (j := 0) dX5_init_137 rfl rfl ?_
    refine j0_new (qn := a + 28 + i) nC0 (K := 0) (by decide) hkq (by omega) (by omega) (gdI (i := 117) (by decide +kernel) rfl) (gdI (i := 200) (by decide +kernel) rfl) (gdI (i := 80) (by decide +kernel) rfl) dX5_init_138 ?_
    have nC1 : hN (nC C 0 (jfn 0)) = a + 28 + i + 1 := by rw [hN_nC, nC0]
    refine j0_dup dX5_init_141 rfl ?_
    refine j0_callIN (host := "PilotRoster") (y := yX0_init) (As := []) (d' := d - 1) (nwI (i := 201) (by decide +kernel) rfl) ⟨gdI (i := 80) (by decide +kernel) rfl, gdI (i := 203) (by decide +kernel) rfl, by decide, by decide, rfl⟩ (gdI (i := 202) (by decide +kernel) rfl) rfl (by decide) (by omega) (Nat.le_of_ble_eq_true rfl) rfl (ctX0_init hl (by omega) hkq (by omega) (by omega) (by omega)) dX5_init_142 rfl (fun _ _ => ?_)
    refine j0_aast (K := 15) (J := 0) hiR (by decide) (by decide) (by decide) (by decide) (by decide) rfl dX5_init_145 (by omega) (show a + 5 < hN (nC C 0 (jfn 0)) by show a + 5 < hN (nC C 0 (jfn 0)); omega) (kdA_lt (by omega) (hR 5 (by decide))) ⟨by omega, by show (i : Int) < 3; omega⟩ (by omega) (show a + 28 + i < hN (nC C 0 (jfn 0)) by show a + 28 + i < hN (nC C 0 (jfn 0)); omega) (kdA_lt (by omega) hkq) ?_
    refine j0_iinc (k := 0) dX5_init_146 rfl (by decide) rfl (lv' := [(1, vI ((i + 1 : Nat) : Int)), (0, .ref (gB g + a))]) (by rw [wrap_eq (by omega) (by omega)]; rfl) ?_
    refine j0_goto dX5_init_149 rfl ?_
    have ih := tX5_l128 hl hd h1 h6 hR hB hP KK k (i + 1) (by omega)
    rw [eltL, ← eC] at ih
    exact ih
set_option maxRecDepth 100000 in
set_option maxHeartbeats 10000000 in
theorem ctX5_init {g : JG} {l : Launch} {d : Nat} {A : AH} {a : Nat} (hl : l.stackTraces = false) (hd : 3 ≤ d) (h1 : 1 ≤ a) (h6 : a + 31 ≤ 376) (hR : ∀ t, t < 31 → kd (a + t) = kRos t) (n0 : hN A = a + 1) : CT0 g l yX5_init cX5_init 2 none d [.ref (gB g + a)] A ((0, none, rosI A a) : JO) True := by
  refine CT0_of (lv := [(0, .ref (gB g + a))]) (by decide +kernel) hl (by exact Nat.le_of_ble_eq_true rfl) rfl ?_
  refine j0_aload_n (j := 0) dX5_init_0 rfl rfl ?_
  refine j0_objInit (gdI (i := 112) (by decide +kernel) rfl) (gdI (i := 105) (by decide +kernel) rfl) (gdI (i := 106) (by decide +kernel) rfl) dX5_init_1 (by decide) (by omega) ?_
  refine j0_aload_n (j := 0) dX5_init_4 rfl rfl ?_
  refine j0_iconst dX5_init_5 ?_
  refine j0_newarr (qn := a + 1) n0 (K := 11) (hR 1 (by decide)) (by omega) (by omega) (by decide) (by decide) (by decide) rfl (gdI (i := 181) (by decide +kernel) rfl) rfl (inR_lit _ rfl) (by decide) (fun x => absurd x (by decide)) dX5_init_6 ?_
  obtain ⟨A1, eA1⟩ : ∃ B : AH, B = nC A 11 (jal 11) := ⟨_, rfl⟩
  refine j0_hB eA1 ?_
  have n1 : hN A1 = a + 2 := by rw [eA1, hN_nC, n0] <;> rfl
  refine j0_putFR (K := 5) (k := 0) (by decide) (by decide) rfl (gdI (i := 231) (by decide +kernel) rfl) rfl rfl rfl rfl (fun _ => rfl) (fun _ => rfl) dX5_init_8 (by omega) (by rw [n1]; omega) (kdA_lt (by omega) (hR 0 (by decide))) (by omega) ?_
  obtain ⟨A2, eA2⟩ : ∃ B : AH, B = sP A1 (a) 0 (a + 1) := ⟨_, rfl⟩
  refine j0_hB eA2 ?_
  have n2 : hN A2 = a + 2 := by rw [eA2, hN_sP, n1] <;> rfl
  refine j0_aload_n (j := 0) dX5_init_11 rfl rfl ?_
  refine j0_bipush dX5_init_12 rfl ?_
  refine j0_newarr (qn := a + 2) n2 (K := 12) (hR 2 (by decide)) (by omega) (by omega) (by decide) (by decide) (by decide) rfl (gdI (i := 181) (by decide +kernel) rfl) rfl (inR_lit _ rfl) (by decide) (fun x => absurd x (by decide)) dX5_init_14 ?_
  obtain ⟨A3, eA3⟩ : ∃ B : AH, B = nC A2 12 (jal 12) := ⟨_, rfl⟩
  refine j0_hB eA3 ?_
  have n3 : hN A3 = a + 3 := by rw [eA3, hN_nC, n2] <;> rfl
  refine j0_putFR (K := 5) (k := 1) (by decide) (by decide) rfl (gdI (i := 233) (by decide +kernel) rfl) rfl rfl rfl rfl (fun _ => rfl) (fun _ => rfl) dX5_init_16 (by omega) (by rw [n3]; omega) (kdA_lt (by omega) (hR 0 (by decide))) (by omega) ?_
  obtain ⟨A4, eA4⟩ : ∃ B : AH, B = sP A3 (a) 1 (a + 2) := ⟨_, rfl⟩
  refine j0_hB eA4 ?_
  have n4 : hN A4 = a + 3 := by rw [eA4, hN_sP, n3] <;> rfl
  refine j0_aload_n (j := 0) dX5_init_19 rfl rfl ?_
  refine j0_bipush dX5_init_20 rfl ?_
  refine j0_newq (qn := a + 3) n4 (K := 13) (hR 3 (by decide)) (by omega) (by omega) (by decide) (by decide) (by decide) (by decide) rfl (gdI (i := 113) (by decide +kernel) rfl) (fun _ h => h.1) rfl (inR_lit _ rfl) (by decide) dX5_init_22 ?_
  obtain ⟨A5, eA5⟩ : ∃ B : AH, B = nC A4 13 (jal 13) := ⟨_, rfl⟩
  refine j0_hB eA5 ?_
  have n5 : hN A5 = a + 4 := by rw [eA5, hN_nC, n4] <;> rfl
  refine j0_putFR (K := 5) (k := 2) (by decide) (by decide) rfl (gdI (i := 235) (by decide +kernel) rfl) rfl rfl rfl rfl (fun _ => rfl) (fun _ => rfl) dX5_init_25 (by omega) (by rw [n5]; omega) (kdA_lt (by omega) (hR 0 (by decide))) (by omega) ?_
  obtain ⟨A6, eA6⟩ : ∃ B : AH, B = sP A5 (a) 2 (a + 3) := ⟨_, rfl⟩
  refine j0_hB eA6 ?_
  have n6 : hN A6 = a + 4 := by rw [eA6, hN_sP, n5] <;> rfl
  refine j0_aload_n (j := 0) dX5_init_28 rfl rfl ?_
  refine j0_bipush dX5_init_29 rfl ?_
  refine j0_newq (qn := a + 4) n6 (K := 14) (hR 4 (by decide)) (by omega) (by omega) (by decide) (by decide) (by decide) (by decide) rfl (gdI (i := 115) (by decide +kernel) rfl) (fun _ h => h.2.1) rfl (inR_lit _ rfl) (by decide) dX5_init_31 ?_
  obtain ⟨A7, eA7⟩ : ∃ B : AH, B = nC A6 14 (jal 14) := ⟨_, rfl⟩
  refine j0_hB eA7 ?_
  have n7 : hN A7 = a + 5 := by rw [eA7, hN_nC, n6] <;> rfl
  refine j0_putFR (K := 5) (k := 3) (by decide) (by decide) rfl (gdI (i := 237) (by decide +kernel) rfl) rfl rfl rfl rfl (fun _ => rfl) (fun _ => rfl) dX5_init_34 (by omega) (by rw [n7]; omega) (kdA_lt (by omega) (hR 0 (by decide))) (by omega) ?_
  obtain ⟨A8, eA8⟩ : ∃ B : AH, B = sP A7 (a) 3 (a + 4) := ⟨_, rfl⟩
  refine j0_hB eA8 ?_
  have n8 : hN A8 = a + 5 := by rw [eA8, hN_sP, n7] <;> rfl
  refine j0_aload_n (j := 0) dX5_init_37 rfl rfl ?_
  refine j0_iconst dX5_init_38 ?_
  refine j0_newq (qn := a + 5) n8 (K := 15) (hR 5 (by decide)) (by omega) (by omega) (by decide) (by decide) (by decide) (by decide) rfl (gdI (i := 117) (by decide +kernel) rfl) (fun _ h => h.2.2.1) rfl (inR_lit _ rfl) (by decide) dX5_init_39 ?_
  obtain ⟨A9, eA9⟩ : ∃ B : AH, B = nC A8 15 (jal 15) := ⟨_, rfl⟩
  refine j0_hB eA9 ?_
  have n9 : hN A9 = a + 6 := by rw [eA9, hN_nC, n8] <;> rfl
  refine j0_putFR (K := 5) (k := 4) (by decide) (by decide) rfl (gdI (i := 239) (by decide +kernel) rfl) rfl rfl rfl rfl (fun _ => rfl) (fun _ => rfl) dX5_init_42 (by omega) (by rw [n9]; omega) (kdA_lt (by omega) (hR 0 (by decide))) (by omega) ?_
  obtain ⟨A10, eA10⟩ : ∃ B : AH, B = sP A9 (a) 4 (a + 5) := ⟨_, rfl⟩
  refine j0_hB eA10 ?_
  have n10 : hN A10 = a + 6 := by rw [eA10, hN_sP, n9] <;> rfl
  refine j0_getsN (host := "PilotRoster") (k := 2) (by decide) (nwI (i := 119) (by decide +kernel) rfl) dX5_init_45 ?_
  refine j0_iconst dX5_init_48 ?_
  refine j0_aload_n (j := 0) dX5_init_49 rfl rfl ?_
  refine j0_getR FX5_9 rfl dX5_init_50 (by omega) (by rw [n10]; omega) (kdA_lt (by omega) (hR 0 (by decide))) (q := a + 1) (by rw [eA10, gP_sP, if_neg (by omega), eA9, gP_nC, if_neg (by rw [n8]; omega), eA8, gP_sP, if_neg (by omega), eA7, gP_nC, if_neg (by rw [n6]; omega), eA6, gP_sP, if_neg (by omega), eA5, gP_nC, if_neg (by rw [n4]; omega), eA4, gP_sP, if_neg (by omega), eA3, gP_nC, if_neg (by rw [n2]; omega), eA2, gP_sP_self]) (by omega) ?_
  refine j0_iconst dX5_init_53 ?_
  refine j0_iconst dX5_init_54 ?_
  refine j0_copyS (k := 2) (K := 11) (by decide) (gdI (i := 121) (by decide +kernel) rfl) (gdI (i := 123) (by decide +kernel) rfl) (gdI (i := 122) (by decide +kernel) rfl) (gdI (i := 77) (by decide +kernel) rfl) dX5_init_55 (by decide) (inR_lit _ rfl) (by decide) (by decide) rfl (by omega) (by rw [n10]; omega) (kdA_lt (by omega) (hR 1 (by decide))) (by decide) (by decide) (by omega) ?_
  obtain ⟨A11, eA11⟩ : ∃ B : AH, B = cpS A10 (jSF 2) (a + 1) 5 := ⟨_, rfl⟩
  refine j0_hB eA11 ?_
  have n11 : hN A11 = a + 6 := by rw [eA11, hN_cpS, n10] <;> rfl
  refine j0_getsN (host := "PilotRoster") (k := 3) (by decide) (nwI (i := 124) (by decide +kernel) rfl) dX5_init_58 ?_
  refine j0_iconst dX5_init_61 ?_
  refine j0_aload_n (j := 0) dX5_init_62 rfl rfl ?_
  refine j0_getR FX5_15 rfl dX5_init_63 (by omega) (by rw [n11]; omega) (kdA_lt (by omega) (hR 0 (by decide))) (q := a + 2) (by rw [eA11, gP_cpS, eA10, gP_sP, if_neg (by omega), eA9, gP_nC, if_neg (by rw [n8]; omega), eA8, gP_sP, if_neg (by omega), eA7, gP_nC, if_neg (by rw [n6]; omega), eA6, gP_sP, if_neg (by omega), eA5, gP_nC, if_neg (by rw [n4]; omega), eA4, gP_sP_self]) (by omega) ?_
  refine j0_iconst dX5_init_66 ?_
  refine j0_bipush dX5_init_67 rfl ?_
  refine j0_copyS (k := 3) (K := 12) (by decide) (gdI (i := 121) (by decide +kernel) rfl) (gdI (i := 123) (by decide +kernel) rfl) (gdI (i := 122) (by decide +kernel) rfl) (gdI (i := 77) (by decide +kernel) rfl) dX5_init_69 (by decide) (inR_lit _ rfl) (by decide) (by decide) rfl (by omega) (by rw [n11]; omega) (kdA_lt (by omega) (hR 2 (by decide))) (by decide) (by decide) (by omega) ?_
  obtain ⟨A12, eA12⟩ : ∃ B : AH, B = cpS A11 (jSF 3) (a + 2) 12 := ⟨_, rfl⟩
  refine j0_hB eA12 ?_
  have n12 : hN A12 = a + 6 := by rw [eA12, hN_cpS, n11] <;> rfl
  have hP2 : gP A12 a 2 = a + 3 := (by rw [eA12, gP_cpS, eA11, gP_cpS, eA10, gP_sP, if_neg (by omega), eA9, gP_nC, if_neg (by rw [n8]; omega), eA8, gP_sP, if_neg (by omega), eA7, gP_nC, if_neg (by rw [n6]; omega), eA6, gP_sP_self])
  have hP3 : gP A12 a 3 = a + 4 := (by rw [eA12, gP_cpS, eA11, gP_cpS, eA10, gP_sP, if_neg (by omega), eA9, gP_nC, if_neg (by rw [n8]; omega), eA8, gP_sP_self])
  have hP4 : gP A12 a 4 = a + 5 := (by rw [eA12, gP_cpS, eA11, gP_cpS, eA10, gP_sP_self])
  have e0 : A12 = ros0 A a := by
    subst eA12 eA11 eA10 eA9 eA8 eA7 eA6 eA5 eA4 eA3 eA2 eA1
    rfl
  refine j0_iconst dX5_init_72 ?_
  refine j0_istore_n dX5_init_73 rfl (by decide) rfl rfl ?_
  refine tX5_l74 hl hd h1 h6 hR n12 hP2 ?_ 16 0 rfl
  obtain ⟨B1, eB1⟩ : ∃ B : AH, B = eltL 3 10 6 3 ordI A12 a 16 := ⟨_, rfl⟩
  have m1 : hN B1 = a + 22 := by rw [eB1, hN_eltL hN_ordI, n12]
  have p3 : gP B1 a 3 = a + 4 := by rw [eB1, gP_eltL hN_ordI gP_ordI _ _ _ _ _ (by omega) (by omega), hP3]
  have p4 : gP B1 a 4 = a + 5 := by rw [eB1, gP_eltL hN_ordI gP_ordI _ _ _ _ _ (by omega) (by omega), hP4]
  refine j0_hB eB1 ?_
  refine j0_iconst dX5_init_99 ?_
  refine j0_istore_n dX5_init_100 rfl (by decide) rfl rfl ?_
  refine tX5_l101 hl hd h1 h6 hR m1 p3 ?_ 6 0 rfl
  obtain ⟨B2, eB2⟩ : ∃ B : AH, B = eltL 4 3 22 4 idF B1 a 6 := ⟨_, rfl⟩
  have m2 : hN B2 = a + 28 := by rw [eB2, hN_eltL hN_idF, m1]
  have p5 : gP B2 a 4 = a + 5 := by rw [eB2, gP_eltL hN_idF gP_idF _ _ _ _ _ (by omega) (by omega), p4]
  refine j0_hB eB2 ?_
  refine j0_iconst dX5_init_126 ?_
  refine j0_istore_n dX5_init_127 rfl (by decide) rfl rfl ?_
  refine tX5_l128 hl hd h1 h6 hR m2 p5 ?_ 3 0 rfl
  have eF : eltL 0 5 28 5 idF B2 a 3 = rosI A a := by rw [eB2, eB1, e0]; rfl
  rw [eF]
  exact j0_vret dX5_init_152 rfl rfl trivial
theorem hDb_eltL {K n o r : Nat} {F : AH → Nat → AH} (hF : ∀ A q, hDb (F A q) = hDb A) (A : AH) (a i : Nat) : hDb (eltL K n o r F A a i) = hDb A := by
  induction i with
  | zero => rfl
  | succ i ih => rw [eltL, hDb_sP, hF, hDb_nC, ih]
theorem hDb_rosI (A : AH) (a : Nat) : hDb (rosI A a) = hDb A := by
  unfold rosI
  rw [hDb_eltL (F := idF) (fun _ _ => rfl), hDb_eltL (F := idF) (fun _ _ => rfl), hDb_eltL (F := ordI) (fun _ _ => rfl)]
  rfl
def hisL (A : AH) : Nat → AH
  | 0 => A
  | i + 1 => sP (rosI (nC (hisL A i) 5 9) (66 + 31 * i)) 65 i (66 + 31 * i)
theorem hN_hisL (A : AH) (i : Nat) : hN (hisL A i) = hN A + 31 * i := by
  induction i with
  | zero => rfl
  | succ i ih =>
    rw [hisL, hN_sP, hN_rosI, hN_nC, ih]
    omega
theorem hDb_hisL (A : AH) (i : Nat) : hDb (hisL A i) = hDb A := by
  induction i with
  | zero => rfl
  | succ i ih => rw [hisL, hDb_sP, hDb_rosI, hDb_nC, ih]
theorem gP_rosI {A : AH} {a b j : Nat} (h0 : hN A = a + 1) (h1 : b < a) : gP (rosI A a) b j = gP A b j := by
  have e0 : hN (ros0 A a) = a + 6 := by rw [hN_ros0, h0]
  unfold rosI
  rw [gP_eltL hN_idF gP_idF _ _ _ _ _ (by omega) (by rw [hN_eltL hN_idF, hN_eltL hN_ordI, e0]; omega), gP_eltL hN_idF gP_idF _ _ _ _ _ (by omega) (by rw [hN_eltL hN_ordI, e0]; omega), gP_eltL hN_ordI gP_ordI _ _ _ _ _ (by omega) (by rw [e0]; omega)]
  unfold ros0
  simp only [gP_cpS, gP_sP, gP_nC, hN_sP, hN_nC, h0]
  simp only [show ¬ (b = a) by omega, show ¬ (b = a + 1) by omega, show ¬ (b = a + 1 + 1) by omega, show ¬ (b = a + 1 + 1 + 1) by omega, show ¬ (b = a + 1 + 1 + 1 + 1) by omega, show ¬ (b = a + 1 + 1 + 1 + 1 + 1) by omega, false_and, if_false]
theorem gP_hisL {A : AH} (h0 : hN A = 66) {b j : Nat} (hb : b < 65) (i : Nat) : gP (hisL A i) b j = gP A b j := by
  induction i with
  | zero => rfl
  | succ i ih =>
    have e1 := hN_hisL A i
    rw [hisL, gP_sP, if_neg (by omega), gP_rosI (by rw [hN_nC, e1, h0] <;> omega) (by omega), gP_nC, if_neg (by omega), ih]
theorem kd_his {i t : Nat} (hi : i < 9) (ht : t < 31) : kd (66 + 31 * i + t) = kRos t := by
  unfold kd
  rw [if_neg (by omega), if_neg (by omega), if_neg (by omega), if_neg (by omega), if_neg (by omega), if_pos (by omega)]
  congr 1
  omega
def his0 (A : AH) : AH := sP (nC A 16 (jal 16)) 64 0 65
def hisI (A : AH) : AH := hisL (his0 A) 9
theorem hN_hisI (A : AH) : hN (hisI A) = hN A + 280 := by
  unfold hisI
  rw [hN_hisL]
  rfl
theorem hDb_hisI (A : AH) : hDb (hisI A) = hDb A := by
  unfold hisI
  rw [hDb_hisL]
  rfl
def txtI (A : AH) : AH := (sP (nC A 17 (jal 17)) (345) 0 (346))
theorem hN_txtI (A : AH) : hN (txtI A) = hN A + 1 := rfl
theorem hDb_txtI (A : AH) : hDb (txtI A) = hDb A := by
  unfold txtI
  simp only [hDb_sP, hDb_sI, hDb_nC, hDb_rosI, hDb_hisI]
set_option maxRecDepth 100000 in
theorem ctX6_init {g : JG} {l : Launch} {d : Nat} {A : AH}  (hl : l.stackTraces = false) (hd : 2 ≤ d) (n0 : hN A = 346) : CT0 g l yX6_init cX6_init 1 none d [.ref (gB g + 345)] A ((0, none, txtI A) : JO) True := by
  refine CT0_of (lv := [(0, .ref (gB g + 345))]) (by decide +kernel) hl (by exact Nat.le_of_ble_eq_true rfl) rfl ?_
  refine j0_aload_n (j := 0) dX6_init_0 rfl rfl ?_
  refine j0_objInit (gdI (i := 293) (by decide +kernel) rfl) (gdI (i := 105) (by decide +kernel) rfl) (gdI (i := 106) (by decide +kernel) rfl) dX6_init_1 (by decide) (by omega) ?_
  refine j0_aload_n (j := 0) dX6_init_4 rfl rfl ?_
  refine j0_bipush dX6_init_5 rfl ?_
  refine j0_newarr (qn := 346) n0 (K := 17) rfl (by decide) (by decide) (by decide) (by decide) (by decide) rfl (gdI (i := 326) (by decide +kernel) rfl) rfl (inR_lit _ rfl) (by decide) (fun x => absurd x (by decide)) dX6_init_7 ?_
  obtain ⟨A1, eA1⟩ : ∃ B : AH, B = nC A 17 (jal 17) := ⟨_, rfl⟩
  refine j0_hB eA1 ?_
  have n1 : hN A1 = 347 := by rw [eA1, hN_nC, n0] <;> rfl
  refine j0_putFR (K := 6) (k := 0) (by decide) (by decide) rfl (gdI (i := 294) (by decide +kernel) rfl) rfl rfl rfl rfl (fun _ => rfl) (fun _ => rfl) dX6_init_9 (by decide) (by rw [n1]; decide) (kdA_lt (by decide) rfl) (by decide) ?_
  obtain ⟨A2, eA2⟩ : ∃ B : AH, B = sP A1 (345) 0 (346) := ⟨_, rfl⟩
  refine j0_hB eA2 ?_
  have n2 : hN A2 = 347 := by rw [eA2, hN_sP, n1] <;> rfl
  subst eA2 eA1
  exact j0_vret dX6_init_12 rfl rfl trivial
set_option maxRecDepth 100000 in
theorem tX1_l15 {g : JG} {l : Launch} {d n0 s0 : Nat} {o : JO} {Z : Prop} {B : AH} (hl : l.stackTraces = false) (hd : 4 ≤ d) (hB : hN B = 66) (hP : gP B 64 0 = 65) (KK : J0 g l d RX1 "<init>" cX1_init 2 none n0 s0 o Z 40 [(1, vI ((9 : Nat) : Int)), (0, .ref (gB g + 64))] [] (hisL B 9)) : ∀ k i : Nat, i + k = 9 → J0 g l d RX1 "<init>" cX1_init 2 none n0 s0 o Z 15 [(1, vI (i : Int)), (0, .ref (gB g + 64))] [] (hisL B i)
  | 0, i, h => by
    have hi : i = 9 := by omega
    subst hi
    refine j0_iload_n (j := 0) dX1_init_15 rfl rfl ?_
    refine j0_bipush dX1_init_16 rfl ?_
    exact j0_icmp_ge_t (inR_lit _ rfl) (inR_lit _ rfl) dX1_init_18 rfl (by decide) KK
  | k + 1, i, h => by
    have hi : i < 9 := by omega
    have hiR : inR (i : Int) := ⟨by omega, by omega⟩
    obtain ⟨C, eC⟩ : ∃ C : AH, C = hisL B i := ⟨_, rfl⟩
    have nC0 : hN C = 66 + 31 * i := by rw [eC, hN_hisL, hB]
    have pC : gP C 64 0 = 65 := by rw [eC, gP_hisL hB (by decide), hP]
    have hkq : ∀ t, t < 31 → kd (66 + 31 * i + t) = kRos t := fun t ht => kd_his hi ht
    refine j0_hB eC ?_
    refine j0_iload_n (j := 0) dX1_init_15 rfl rfl ?_
    refine j0_bipush dX1_init_16 rfl ?_
    refine j0_icmp_ge_f hiR (inR_lit _ rfl) dX1_init_18 rfl (by omega) ?_
    refine j0_aload_n (j := 1) dX1_init_21 rfl rfl ?_
    refine j0_getR FX1_13 rfl dX1_init_22 (by decide) (by omega) (kdA_lt (by decide) rfl) (q := 65) pC (by decide) ?_
    refine j0_iload_n (j := 0) dX1_init_25 rfl rfl ?_
    refine j0_new (qn := 66 + 31 * i) nC0 (K := 5) (by decide) (hkq 0 (by decide)) (by omega) (by omega) (gdI (i := 274) (by decide +kernel) rfl) (gdI (i := 108) (by decide +kernel) rfl) (gdI (i := 76) (by decide +kernel) rfl) dX1_init_26 ?_
    have nC1 : hN (nC C 5 (jfn 5)) = 66 + 31 * i + 1 := by rw [hN_nC, nC0]
    have nC2 : hN (rosI (nC C 5 (jfn 5)) (66 + 31 * i)) = 66 + 31 * i + 31 := by rw [hN_rosI, nC1]
    refine j0_dup dX1_init_29 rfl ?_
    refine j0_callI (y := yX5_init) (As := []) (d' := d - 1) (gdI (i := 276) (by decide +kernel) rfl) ⟨gdI (i := 76) (by decide +kernel) rfl, gdI (i := 111) (by decide +kernel) rfl, by decide, by decide, rfl⟩ (gdI (i := 110) (by decide +kernel) rfl) rfl (by decide) (by omega) (Nat.le_of_ble_eq_true rfl) rfl (ctX5_init hl (by omega) (by omega) (by omega) hkq nC1) dX1_init_30 rfl (fun _ _ => ?_)
    refine j0_aast (K := 16) (J := 5) hiR (by decide) (by decide) (by decide) (by decide) (by decide) rfl dX1_init_33 (by omega) (by omega) (kdA_lt (by decide) rfl) ⟨by omega, by show (i : Int) < 9; omega⟩ (by omega) (by omega) (kdA_lt (by omega) (hkq 0 (by decide))) ?_
    refine j0_iinc (k := 0) dX1_init_34 rfl (by decide) rfl (lv' := [(1, vI ((i + 1 : Nat) : Int)), (0, .ref (gB g + 64))]) (by rw [wrap_eq (by omega) (by omega)]; rfl) ?_
    refine j0_goto dX1_init_37 rfl ?_
    have ih := tX1_l15 hl hd hB hP KK k (i + 1) (by omega)
    rw [hisL, ← eC] at ih
    exact ih
set_option maxRecDepth 100000 in
theorem ctX1_init {g : JG} {l : Launch} {d : Nat} {A : AH}  (hl : l.stackTraces = false) (hd : 4 ≤ d) (n0 : hN A = 65) : CT0 g l yX1_init cX1_init 2 none d [.ref (gB g + 64)] A ((0, none, hisI A) : JO) True := by
  refine CT0_of (lv := [(0, .ref (gB g + 64))]) (by decide +kernel) hl (by exact Nat.le_of_ble_eq_true rfl) rfl ?_
  refine j0_aload_n (j := 0) dX1_init_0 rfl rfl ?_
  refine j0_objInit (gdI (i := 273) (by decide +kernel) rfl) (gdI (i := 105) (by decide +kernel) rfl) (gdI (i := 106) (by decide +kernel) rfl) dX1_init_1 (by decide) (by omega) ?_
  refine j0_aload_n (j := 0) dX1_init_4 rfl rfl ?_
  refine j0_bipush dX1_init_5 rfl ?_
  refine j0_newq (qn := 65) n0 (K := 16) rfl (by decide) (by decide) (by decide) (by decide) (by decide) (by decide) rfl (gdI (i := 274) (by decide +kernel) rfl) (fun _ h => h.2.2.2) rfl (inR_lit _ rfl) (by decide) dX1_init_7 ?_
  obtain ⟨A1, eA1⟩ : ∃ B : AH, B = nC A 16 (jal 16) := ⟨_, rfl⟩
  refine j0_hB eA1 ?_
  have n1 : hN A1 = 66 := by rw [eA1, hN_nC, n0] <;> rfl
  refine j0_putFR (K := 1) (k := 0) (by decide) (by decide) rfl (gdI (i := 277) (by decide +kernel) rfl) rfl rfl rfl rfl (fun _ => rfl) (fun _ => rfl) dX1_init_10 (by decide) (by rw [n1]; decide) (kdA_lt (by decide) rfl) (by decide) ?_
  obtain ⟨A2, eA2⟩ : ∃ B : AH, B = sP A1 (64) 0 (65) := ⟨_, rfl⟩
  refine j0_hB eA2 ?_
  have n2 : hN A2 = 66 := by rw [eA2, hN_sP, n1] <;> rfl
  have hP : gP A2 64 0 = 65 := (by rw [eA2, gP_sP_self])
  refine j0_iconst dX1_init_13 ?_
  refine j0_istore_n dX1_init_14 rfl (by decide) rfl rfl ?_
  refine tX1_l15 hl hd n2 hP ?_ 9 0 rfl
  have eF : hisL A2 9 = hisI A := by
    subst eA2 eA1
    rfl
  rw [eF]
  exact j0_vret dX1_init_40 rfl rfl trivial
def proI (A : AH) : AH := (sI (sI (sP (nC (sP (nC (sP (txtI (nC (sP (hisI (nC (sP (rosI (nC (sP (rosI (nC A 5 (jfn 5)) (2)) (1) 0 (2)) 5 (jfn 5)) (33)) (1) 1 (33)) 1 (jfn 1))) (1) 2 (64)) 6 (jfn 6))) (1) 3 (345)) 7 (jfn 7)) (1) 4 (347)) 18 (jal 18)) (1) 5 (348)) (1) 7 (-1)) (1) 8 (0))
theorem hN_proI (A : AH) : hN (proI A) = hN A + 347 := by
  unfold proI
  simp only [hN_sP, hN_sI, hN_nC, hN_rosI, hN_hisI, hN_txtI]
theorem hDb_proI (A : AH) : hDb (proI A) = hDb A := by
  unfold proI
  simp only [hDb_sP, hDb_sI, hDb_nC, hDb_rosI, hDb_hisI, hDb_txtI]
set_option maxRecDepth 100000 in
theorem ctX8_init {g : JG} {l : Launch} {d : Nat} {A : AH}  (hl : l.stackTraces = false) (hd : 5 ≤ d) (n0 : hN A = 2) : CT0 g l yX8_init cX8_init 1 none d [.ref (gB g + 1)] A ((0, none, proI A) : JO) True := by
  refine CT0_of (lv := [(0, .ref (gB g + 1))]) (by decide +kernel) hl (by exact Nat.le_of_ble_eq_true rfl) rfl ?_
  refine j0_aload_n (j := 0) dX8_init_0 rfl rfl ?_
  refine j0_objInit (gdI (i := 104) (by decide +kernel) rfl) (gdI (i := 105) (by decide +kernel) rfl) (gdI (i := 106) (by decide +kernel) rfl) dX8_init_1 (by decide) (by omega) ?_
  refine j0_aload_n (j := 0) dX8_init_4 rfl rfl ?_
  refine j0_new (qn := 2) n0 (K := 5) (by decide) rfl (by decide) (by decide) (gdI (i := 107) (by decide +kernel) rfl) (gdI (i := 108) (by decide +kernel) rfl) (gdI (i := 76) (by decide +kernel) rfl) dX8_init_5 ?_
  obtain ⟨A1, eA1⟩ : ∃ B : AH, B = nC A 5 (jfn 5) := ⟨_, rfl⟩
  refine j0_hB eA1 ?_
  have n1 : hN A1 = 3 := by rw [eA1, hN_nC, n0] <;> rfl
  refine j0_dup dX8_init_8 rfl ?_
  refine j0_callI (y := yX5_init) (As := []) (d' := d - 1) (gdI (i := 109) (by decide +kernel) rfl) ⟨gdI (i := 76) (by decide +kernel) rfl, gdI (i := 111) (by decide +kernel) rfl, by decide, by decide, rfl⟩ (gdI (i := 110) (by decide +kernel) rfl) rfl (by decide) (by omega) (Nat.le_of_ble_eq_true rfl) rfl (ctX5_init hl (by omega) (by decide) (by decide) (by decide) n1) dX8_init_9 rfl (fun _ _ => ?_)
  obtain ⟨A2, eA2⟩ : ∃ B : AH, B = rosI A1 (2) := ⟨_, rfl⟩
  refine j0_hB eA2 ?_
  have n2 : hN A2 = 33 := by rw [eA2, hN_rosI, n1] <;> rfl
  refine j0_putFR (K := 8) (k := 0) (by decide) (by decide) rfl (gdI (i := 349) (by decide +kernel) rfl) rfl rfl rfl rfl (fun _ => rfl) (fun _ => rfl) dX8_init_12 (by decide) (by rw [n2]; decide) (kdA_lt (by decide) rfl) (by decide) ?_
  obtain ⟨A3, eA3⟩ : ∃ B : AH, B = sP A2 (1) 0 (2) := ⟨_, rfl⟩
  refine j0_hB eA3 ?_
  have n3 : hN A3 = 33 := by rw [eA3, hN_sP, n2] <;> rfl
  refine j0_aload_n (j := 0) dX8_init_15 rfl rfl ?_
  refine j0_new (qn := 33) n3 (K := 5) (by decide) rfl (by decide) (by decide) (gdI (i := 107) (by decide +kernel) rfl) (gdI (i := 108) (by decide +kernel) rfl) (gdI (i := 76) (by decide +kernel) rfl) dX8_init_16 ?_
  obtain ⟨A4, eA4⟩ : ∃ B : AH, B = nC A3 5 (jfn 5) := ⟨_, rfl⟩
  refine j0_hB eA4 ?_
  have n4 : hN A4 = 34 := by rw [eA4, hN_nC, n3] <;> rfl
  refine j0_dup dX8_init_19 rfl ?_
  refine j0_callI (y := yX5_init) (As := []) (d' := d - 1) (gdI (i := 109) (by decide +kernel) rfl) ⟨gdI (i := 76) (by decide +kernel) rfl, gdI (i := 111) (by decide +kernel) rfl, by decide, by decide, rfl⟩ (gdI (i := 110) (by decide +kernel) rfl) rfl (by decide) (by omega) (Nat.le_of_ble_eq_true rfl) rfl (ctX5_init hl (by omega) (by decide) (by decide) (by decide) n4) dX8_init_20 rfl (fun _ _ => ?_)
  obtain ⟨A5, eA5⟩ : ∃ B : AH, B = rosI A4 (33) := ⟨_, rfl⟩
  refine j0_hB eA5 ?_
  have n5 : hN A5 = 64 := by rw [eA5, hN_rosI, n4] <;> rfl
  refine j0_putFR (K := 8) (k := 1) (by decide) (by decide) rfl (gdI (i := 350) (by decide +kernel) rfl) rfl rfl rfl rfl (fun _ => rfl) (fun _ => rfl) dX8_init_23 (by decide) (by rw [n5]; decide) (kdA_lt (by decide) rfl) (by decide) ?_
  obtain ⟨A6, eA6⟩ : ∃ B : AH, B = sP A5 (1) 1 (33) := ⟨_, rfl⟩
  refine j0_hB eA6 ?_
  have n6 : hN A6 = 64 := by rw [eA6, hN_sP, n5] <;> rfl
  refine j0_aload_n (j := 0) dX8_init_26 rfl rfl ?_
  refine j0_new (qn := 64) n6 (K := 1) (by decide) rfl (by decide) (by decide) (gdI (i := 268) (by decide +kernel) rfl) (gdI (i := 269) (by decide +kernel) rfl) (gdI (i := 81) (by decide +kernel) rfl) dX8_init_27 ?_
  obtain ⟨A7, eA7⟩ : ∃ B : AH, B = nC A6 1 (jfn 1) := ⟨_, rfl⟩
  refine j0_hB eA7 ?_
  have n7 : hN A7 = 65 := by rw [eA7, hN_nC, n6] <;> rfl
  refine j0_dup dX8_init_30 rfl ?_
  refine j0_callI (y := yX1_init) (As := []) (d' := d - 1) (gdI (i := 270) (by decide +kernel) rfl) ⟨gdI (i := 81) (by decide +kernel) rfl, gdI (i := 272) (by decide +kernel) rfl, by decide, by decide, rfl⟩ (gdI (i := 271) (by decide +kernel) rfl) rfl (by decide) (by omega) (Nat.le_of_ble_eq_true rfl) rfl (ctX1_init hl (by omega) n7) dX8_init_31 rfl (fun _ _ => ?_)
  obtain ⟨A8, eA8⟩ : ∃ B : AH, B = hisI A7 := ⟨_, rfl⟩
  refine j0_hB eA8 ?_
  have n8 : hN A8 = 345 := by rw [eA8, hN_hisI, n7] <;> rfl
  refine j0_putFR (K := 8) (k := 2) (by decide) (by decide) rfl (gdI (i := 351) (by decide +kernel) rfl) rfl rfl rfl rfl (fun _ => rfl) (fun _ => rfl) dX8_init_34 (by decide) (by rw [n8]; decide) (kdA_lt (by decide) rfl) (by decide) ?_
  obtain ⟨A9, eA9⟩ : ∃ B : AH, B = sP A8 (1) 2 (64) := ⟨_, rfl⟩
  refine j0_hB eA9 ?_
  have n9 : hN A9 = 345 := by rw [eA9, hN_sP, n8] <;> rfl
  refine j0_aload_n (j := 0) dX8_init_37 rfl rfl ?_
  refine j0_new (qn := 345) n9 (K := 6) (by decide) rfl (by decide) (by decide) (gdI (i := 288) (by decide +kernel) rfl) (gdI (i := 289) (by decide +kernel) rfl) (gdI (i := 82) (by decide +kernel) rfl) dX8_init_38 ?_
  obtain ⟨A10, eA10⟩ : ∃ B : AH, B = nC A9 6 (jfn 6) := ⟨_, rfl⟩
  refine j0_hB eA10 ?_
  have n10 : hN A10 = 346 := by rw [eA10, hN_nC, n9] <;> rfl
  refine j0_dup dX8_init_41 rfl ?_
  refine j0_callIN (host := "PilotRoster") (y := yX6_init) (As := []) (d' := d - 1) (nwI (i := 290) (by decide +kernel) rfl) ⟨gdI (i := 82) (by decide +kernel) rfl, gdI (i := 292) (by decide +kernel) rfl, by decide, by decide, rfl⟩ (gdI (i := 291) (by decide +kernel) rfl) rfl (by decide) (by omega) (Nat.le_of_ble_eq_true rfl) rfl (ctX6_init hl (by omega) n10) dX8_init_42 rfl (fun _ _ => ?_)
  obtain ⟨A11, eA11⟩ : ∃ B : AH, B = txtI A10 := ⟨_, rfl⟩
  refine j0_hB eA11 ?_
  have n11 : hN A11 = 347 := by rw [eA11, hN_txtI, n10] <;> rfl
  refine j0_putFR (K := 8) (k := 3) (by decide) (by decide) rfl (gdI (i := 352) (by decide +kernel) rfl) rfl rfl rfl rfl (fun _ => rfl) (fun _ => rfl) dX8_init_45 (by decide) (by rw [n11]; decide) (kdA_lt (by decide) rfl) (by decide) ?_
  obtain ⟨A12, eA12⟩ : ∃ B : AH, B = sP A11 (1) 3 (345) := ⟨_, rfl⟩
  refine j0_hB eA12 ?_
  have n12 : hN A12 = 347 := by rw [eA12, hN_sP, n11] <;> rfl
  refine j0_aload_n (j := 0) dX8_init_48 rfl rfl ?_
  refine j0_new (qn := 347) n12 (K := 7) (by decide) rfl (by decide) (by decide) (gdI (i := 327) (by decide +kernel) rfl) (gdI (i := 328) (by decide +kernel) rfl) (gdI (i := 83) (by decide +kernel) rfl) dX8_init_49 ?_
  obtain ⟨A13, eA13⟩ : ∃ B : AH, B = nC A12 7 (jfn 7) := ⟨_, rfl⟩
  refine j0_hB eA13 ?_
  have n13 : hN A13 = 348 := by rw [eA13, hN_nC, n12] <;> rfl
  refine j0_dup dX8_init_52 rfl ?_
  refine j0_callIN (host := "PilotRoster") (y := yX7_init) (As := []) (d' := d - 1) (nwI (i := 329) (by decide +kernel) rfl) ⟨gdI (i := 83) (by decide +kernel) rfl, gdI (i := 331) (by decide +kernel) rfl, by decide, by decide, rfl⟩ (gdI (i := 330) (by decide +kernel) rfl) rfl (by decide) (by omega) (Nat.le_of_ble_eq_true rfl) rfl (ctX7_init hl (by omega) rfl (by decide) (by decide) (by rw [n13]; decide)) dX8_init_53 rfl (fun _ _ => ?_)
  refine j0_putFR (K := 8) (k := 4) (by decide) (by decide) rfl (gdI (i := 353) (by decide +kernel) rfl) rfl rfl rfl rfl (fun _ => rfl) (fun _ => rfl) dX8_init_56 (by decide) (by rw [n13]; decide) (kdA_lt (by decide) rfl) (by decide) ?_
  obtain ⟨A14, eA14⟩ : ∃ B : AH, B = sP A13 (1) 4 (347) := ⟨_, rfl⟩
  refine j0_hB eA14 ?_
  have n14 : hN A14 = 348 := by rw [eA14, hN_sP, n13] <;> rfl
  refine j0_aload_n (j := 0) dX8_init_59 rfl rfl ?_
  refine j0_bipush dX8_init_60 rfl ?_
  refine j0_newarr (qn := 348) n14 (K := 18) rfl (by decide) (by decide) (by decide) (by decide) (by decide) rfl (gdI (i := 181) (by decide +kernel) rfl) rfl (inR_lit _ rfl) (by decide) (fun x => absurd x (by decide)) dX8_init_62 ?_
  obtain ⟨A15, eA15⟩ : ∃ B : AH, B = nC A14 18 (jal 18) := ⟨_, rfl⟩
  refine j0_hB eA15 ?_
  have n15 : hN A15 = 349 := by rw [eA15, hN_nC, n14] <;> rfl
  refine j0_putFR (K := 8) (k := 5) (by decide) (by decide) rfl (gdI (i := 354) (by decide +kernel) rfl) rfl rfl rfl rfl (fun _ => rfl) (fun _ => rfl) dX8_init_64 (by decide) (by rw [n15]; decide) (kdA_lt (by decide) rfl) (by decide) ?_
  obtain ⟨A16, eA16⟩ : ∃ B : AH, B = sP A15 (1) 5 (348) := ⟨_, rfl⟩
  refine j0_hB eA16 ?_
  have n16 : hN A16 = 349 := by rw [eA16, hN_sP, n15] <;> rfl
  refine j0_aload_n (j := 0) dX8_init_67 rfl rfl ?_
  refine j0_iconst dX8_init_68 ?_
  refine j0_putV FX8_44 rfl rfl rfl rfl (inR_lit _ rfl) dX8_init_69 (by decide) (fun _ => (by rw [n16]; decide)) (kdA_lt (by decide) rfl) ?_
  obtain ⟨A17, eA17⟩ : ∃ B : AH, B = sI A16 (1) 7 (-1) := ⟨_, rfl⟩
  refine j0_hB eA17 ?_
  have n17 : hN A17 = 349 := by rw [eA17, hN_sI, n16] <;> rfl
  refine j0_aload_n (j := 0) dX8_init_72 rfl rfl ?_
  refine j0_iconst dX8_init_73 ?_
  refine j0_putV FX8_48 rfl rfl rfl rfl (inR_lit _ rfl) dX8_init_74 (by decide) (fun _ => (by rw [n17]; decide)) (kdA_lt (by decide) rfl) ?_
  obtain ⟨A18, eA18⟩ : ∃ B : AH, B = sI A17 (1) 8 (0) := ⟨_, rfl⟩
  refine j0_hB eA18 ?_
  have n18 : hN A18 = 349 := by rw [eA18, hN_sI, n17] <;> rfl
  subst eA18 eA17 eA16 eA15 eA14 eA13 eA12 eA11 eA10 eA9 eA8 eA7 eA6 eA5 eA4 eA3 eA2 eA1
  exact j0_vret dX8_init_77 rfl rfl trivial
def modI (A : AH) : AH := (sP (nC (sP (nC (sP (nC (sI (sP (nC (sP (nC (sP (nC (sP (nC (sP (nC (sP (nC (sP (nC (sP (nC (sP (nC (sP (nC (sP (nC (sP (nC (sP (nC (sP (nC (sP (nC (sP (nC (sP (nC (sP (nC (sP (nC (sP (sI (sI (sI (sI (sI (sI (sI (sI (sI (sI (sI (sI (nC (sP (sI (sI (sI (sI (sI (nC A 20 (jal 20)) (350) 0 (6)) (350) 1 (2)) (350) 2 (3)) (350) 3 (10)) (350) 4 (2)) (349) 1 (350)) 21 (jal 21)) (351) 0 (0)) (351) 1 (1)) (351) 2 (2)) (351) 3 (3)) (351) 4 (4)) (351) 5 (5)) (351) 6 (6)) (351) 7 (5)) (351) 8 (4)) (351) 9 (3)) (351) 10 (2)) (351) 11 (1)) (349) 2 (351)) 22 (jal 22)) (349) 3 (352)) 23 (jal 23)) (349) 4 (353)) 24 (jal 24)) (349) 5 (354)) 25 (jal 25)) (349) 6 (355)) 26 (jal 26)) (349) 7 (356)) 27 (jal 27)) (349) 8 (357)) 28 (jal 28)) (349) 9 (358)) 29 (jal 29)) (349) 10 (359)) 30 (jal 30)) (349) 11 (360)) 31 (jal 31)) (349) 12 (361)) 32 (jal 32)) (349) 13 (362)) 33 (jal 33)) (349) 14 (363)) 34 (jal 34)) (349) 15 (364)) 35 (jal 35)) (349) 16 (365)) 36 (jal 36)) (349) 17 (366)) 37 (jal 37)) (349) 18 (367)) 38 (jal 38)) (349) 31 (368)) 39 (jal 39)) (349) 32 (369)) 40 (jal 40)) (349) 33 (370)) (349) 37 (-1)) 41 (jal 41)) (349) 38 (371)) 42 (jal 42)) (349) 39 (372)) 43 (jal 43)) (349) 40 (373))
theorem hN_modI (A : AH) : hN (modI A) = hN A + 24 := by
  unfold modI
  simp only [hN_sP, hN_sI, hN_nC, hN_rosI, hN_hisI, hN_txtI]
theorem hDb_modI (A : AH) : hDb (modI A) = hDb A := by
  unfold modI
  simp only [hDb_sP, hDb_sI, hDb_nC, hDb_rosI, hDb_hisI, hDb_txtI]
set_option maxRecDepth 100000 in
theorem ctX9_init {g : JG} {l : Launch} {d : Nat} {A : AH}  (hl : l.stackTraces = false) (hd : 2 ≤ d) (n0 : hN A = 350) : CT0 g l yX9_init cX9_init 1 none d [.ref (gB g + 349)] A ((0, none, modI A) : JO) True := by
  refine CT0_of (lv := [(0, .ref (gB g + 349))]) (by decide +kernel) hl (by exact Nat.le_of_ble_eq_true rfl) rfl ?_
  refine j0_aload_n (j := 0) dX9_init_0 rfl rfl ?_
  refine j0_objInit (gdI (i := 1277) (by decide +kernel) rfl) (gdI (i := 105) (by decide +kernel) rfl) (gdI (i := 106) (by decide +kernel) rfl) dX9_init_1 (by decide) (by omega) ?_
  refine j0_aload_n (j := 0) dX9_init_4 rfl rfl ?_
  refine j0_iconst dX9_init_5 ?_
  refine j0_newarr (qn := 350) n0 (K := 20) rfl (by decide) (by decide) (by decide) (by decide) (by decide) rfl (gdI (i := 181) (by decide +kernel) rfl) rfl (inR_lit _ rfl) (by decide) (fun x => absurd x (by decide)) dX9_init_6 ?_
  obtain ⟨A1, eA1⟩ : ∃ B : AH, B = nC A 20 (jal 20) := ⟨_, rfl⟩
  refine j0_hB eA1 ?_
  have n1 : hN A1 = 351 := by rw [eA1, hN_nC, n0] <;> rfl
  refine j0_dup dX9_init_8 rfl ?_
  refine j0_iconst dX9_init_9 ?_
  refine j0_bipush dX9_init_10 rfl ?_
  refine j0_iast (K := 20) (inR_lit _ rfl) (inR_lit _ rfl) (by decide) (by decide) rfl dX9_init_12 (by decide) (fun _ => (by rw [n1]; decide)) (kdA_lt (by decide) rfl) (by decide) ?_
  obtain ⟨A2, eA2⟩ : ∃ B : AH, B = sI A1 (350) 0 (6) := ⟨_, rfl⟩
  refine j0_hB eA2 ?_
  have n2 : hN A2 = 351 := by rw [eA2, hN_sI, n1] <;> rfl
  refine j0_dup dX9_init_13 rfl ?_
  refine j0_iconst dX9_init_14 ?_
  refine j0_iconst dX9_init_15 ?_
  refine j0_iast (K := 20) (inR_lit _ rfl) (inR_lit _ rfl) (by decide) (by decide) rfl dX9_init_16 (by decide) (fun _ => (by rw [n2]; decide)) (kdA_lt (by decide) rfl) (by decide) ?_
  obtain ⟨A3, eA3⟩ : ∃ B : AH, B = sI A2 (350) 1 (2) := ⟨_, rfl⟩
  refine j0_hB eA3 ?_
  have n3 : hN A3 = 351 := by rw [eA3, hN_sI, n2] <;> rfl
  refine j0_dup dX9_init_17 rfl ?_
  refine j0_iconst dX9_init_18 ?_
  refine j0_iconst dX9_init_19 ?_
  refine j0_iast (K := 20) (inR_lit _ rfl) (inR_lit _ rfl) (by decide) (by decide) rfl dX9_init_20 (by decide) (fun _ => (by rw [n3]; decide)) (kdA_lt (by decide) rfl) (by decide) ?_
  obtain ⟨A4, eA4⟩ : ∃ B : AH, B = sI A3 (350) 2 (3) := ⟨_, rfl⟩
  refine j0_hB eA4 ?_
  have n4 : hN A4 = 351 := by rw [eA4, hN_sI, n3] <;> rfl
  refine j0_dup dX9_init_21 rfl ?_
  refine j0_iconst dX9_init_22 ?_
  refine j0_bipush dX9_init_23 rfl ?_
  refine j0_iast (K := 20) (inR_lit _ rfl) (inR_lit _ rfl) (by decide) (by decide) rfl dX9_init_25 (by decide) (fun _ => (by rw [n4]; decide)) (kdA_lt (by decide) rfl) (by decide) ?_
  obtain ⟨A5, eA5⟩ : ∃ B : AH, B = sI A4 (350) 3 (10) := ⟨_, rfl⟩
  refine j0_hB eA5 ?_
  have n5 : hN A5 = 351 := by rw [eA5, hN_sI, n4] <;> rfl
  refine j0_dup dX9_init_26 rfl ?_
  refine j0_iconst dX9_init_27 ?_
  refine j0_iconst dX9_init_28 ?_
  refine j0_iast (K := 20) (inR_lit _ rfl) (inR_lit _ rfl) (by decide) (by decide) rfl dX9_init_29 (by decide) (fun _ => (by rw [n5]; decide)) (kdA_lt (by decide) rfl) (by decide) ?_
  obtain ⟨A6, eA6⟩ : ∃ B : AH, B = sI A5 (350) 4 (2) := ⟨_, rfl⟩
  refine j0_hB eA6 ?_
  have n6 : hN A6 = 351 := by rw [eA6, hN_sI, n5] <;> rfl
  refine j0_putFR (K := 9) (k := 1) (by decide) (by decide) rfl (gdI (i := 1279) (by decide +kernel) rfl) rfl rfl rfl rfl (fun _ => rfl) (fun _ => rfl) dX9_init_30 (by decide) (by rw [n6]; decide) (kdA_lt (by decide) rfl) (by decide) ?_
  obtain ⟨A7, eA7⟩ : ∃ B : AH, B = sP A6 (349) 1 (350) := ⟨_, rfl⟩
  refine j0_hB eA7 ?_
  have n7 : hN A7 = 351 := by rw [eA7, hN_sP, n6] <;> rfl
  refine j0_aload_n (j := 0) dX9_init_33 rfl rfl ?_
  refine j0_bipush dX9_init_34 rfl ?_
  refine j0_newarr (qn := 351) n7 (K := 21) rfl (by decide) (by decide) (by decide) (by decide) (by decide) rfl (gdI (i := 181) (by decide +kernel) rfl) rfl (inR_lit _ rfl) (by decide) (fun x => absurd x (by decide)) dX9_init_36 ?_
  obtain ⟨A8, eA8⟩ : ∃ B : AH, B = nC A7 21 (jal 21) := ⟨_, rfl⟩
  refine j0_hB eA8 ?_
  have n8 : hN A8 = 352 := by rw [eA8, hN_nC, n7] <;> rfl
  refine j0_dup dX9_init_38 rfl ?_
  refine j0_iconst dX9_init_39 ?_
  refine j0_iconst dX9_init_40 ?_
  refine j0_iast (K := 21) (inR_lit _ rfl) (inR_lit _ rfl) (by decide) (by decide) rfl dX9_init_41 (by decide) (fun _ => (by rw [n8]; decide)) (kdA_lt (by decide) rfl) (by decide) ?_
  obtain ⟨A9, eA9⟩ : ∃ B : AH, B = sI A8 (351) 0 (0) := ⟨_, rfl⟩
  refine j0_hB eA9 ?_
  have n9 : hN A9 = 352 := by rw [eA9, hN_sI, n8] <;> rfl
  refine j0_dup dX9_init_42 rfl ?_
  refine j0_iconst dX9_init_43 ?_
  refine j0_iconst dX9_init_44 ?_
  refine j0_iast (K := 21) (inR_lit _ rfl) (inR_lit _ rfl) (by decide) (by decide) rfl dX9_init_45 (by decide) (fun _ => (by rw [n9]; decide)) (kdA_lt (by decide) rfl) (by decide) ?_
  obtain ⟨A10, eA10⟩ : ∃ B : AH, B = sI A9 (351) 1 (1) := ⟨_, rfl⟩
  refine j0_hB eA10 ?_
  have n10 : hN A10 = 352 := by rw [eA10, hN_sI, n9] <;> rfl
  refine j0_dup dX9_init_46 rfl ?_
  refine j0_iconst dX9_init_47 ?_
  refine j0_iconst dX9_init_48 ?_
  refine j0_iast (K := 21) (inR_lit _ rfl) (inR_lit _ rfl) (by decide) (by decide) rfl dX9_init_49 (by decide) (fun _ => (by rw [n10]; decide)) (kdA_lt (by decide) rfl) (by decide) ?_
  obtain ⟨A11, eA11⟩ : ∃ B : AH, B = sI A10 (351) 2 (2) := ⟨_, rfl⟩
  refine j0_hB eA11 ?_
  have n11 : hN A11 = 352 := by rw [eA11, hN_sI, n10] <;> rfl
  refine j0_dup dX9_init_50 rfl ?_
  refine j0_iconst dX9_init_51 ?_
  refine j0_iconst dX9_init_52 ?_
  refine j0_iast (K := 21) (inR_lit _ rfl) (inR_lit _ rfl) (by decide) (by decide) rfl dX9_init_53 (by decide) (fun _ => (by rw [n11]; decide)) (kdA_lt (by decide) rfl) (by decide) ?_
  obtain ⟨A12, eA12⟩ : ∃ B : AH, B = sI A11 (351) 3 (3) := ⟨_, rfl⟩
  refine j0_hB eA12 ?_
  have n12 : hN A12 = 352 := by rw [eA12, hN_sI, n11] <;> rfl
  refine j0_dup dX9_init_54 rfl ?_
  refine j0_iconst dX9_init_55 ?_
  refine j0_iconst dX9_init_56 ?_
  refine j0_iast (K := 21) (inR_lit _ rfl) (inR_lit _ rfl) (by decide) (by decide) rfl dX9_init_57 (by decide) (fun _ => (by rw [n12]; decide)) (kdA_lt (by decide) rfl) (by decide) ?_
  obtain ⟨A13, eA13⟩ : ∃ B : AH, B = sI A12 (351) 4 (4) := ⟨_, rfl⟩
  refine j0_hB eA13 ?_
  have n13 : hN A13 = 352 := by rw [eA13, hN_sI, n12] <;> rfl
  refine j0_dup dX9_init_58 rfl ?_
  refine j0_iconst dX9_init_59 ?_
  refine j0_iconst dX9_init_60 ?_
  refine j0_iast (K := 21) (inR_lit _ rfl) (inR_lit _ rfl) (by decide) (by decide) rfl dX9_init_61 (by decide) (fun _ => (by rw [n13]; decide)) (kdA_lt (by decide) rfl) (by decide) ?_
  obtain ⟨A14, eA14⟩ : ∃ B : AH, B = sI A13 (351) 5 (5) := ⟨_, rfl⟩
  refine j0_hB eA14 ?_
  have n14 : hN A14 = 352 := by rw [eA14, hN_sI, n13] <;> rfl
  refine j0_dup dX9_init_62 rfl ?_
  refine j0_bipush dX9_init_63 rfl ?_
  refine j0_bipush dX9_init_65 rfl ?_
  refine j0_iast (K := 21) (inR_lit _ rfl) (inR_lit _ rfl) (by decide) (by decide) rfl dX9_init_67 (by decide) (fun _ => (by rw [n14]; decide)) (kdA_lt (by decide) rfl) (by decide) ?_
  obtain ⟨A15, eA15⟩ : ∃ B : AH, B = sI A14 (351) 6 (6) := ⟨_, rfl⟩
  refine j0_hB eA15 ?_
  have n15 : hN A15 = 352 := by rw [eA15, hN_sI, n14] <;> rfl
  refine j0_dup dX9_init_68 rfl ?_
  refine j0_bipush dX9_init_69 rfl ?_
  refine j0_iconst dX9_init_71 ?_
  refine j0_iast (K := 21) (inR_lit _ rfl) (inR_lit _ rfl) (by decide) (by decide) rfl dX9_init_72 (by decide) (fun _ => (by rw [n15]; decide)) (kdA_lt (by decide) rfl) (by decide) ?_
  obtain ⟨A16, eA16⟩ : ∃ B : AH, B = sI A15 (351) 7 (5) := ⟨_, rfl⟩
  refine j0_hB eA16 ?_
  have n16 : hN A16 = 352 := by rw [eA16, hN_sI, n15] <;> rfl
  refine j0_dup dX9_init_73 rfl ?_
  refine j0_bipush dX9_init_74 rfl ?_
  refine j0_iconst dX9_init_76 ?_
  refine j0_iast (K := 21) (inR_lit _ rfl) (inR_lit _ rfl) (by decide) (by decide) rfl dX9_init_77 (by decide) (fun _ => (by rw [n16]; decide)) (kdA_lt (by decide) rfl) (by decide) ?_
  obtain ⟨A17, eA17⟩ : ∃ B : AH, B = sI A16 (351) 8 (4) := ⟨_, rfl⟩
  refine j0_hB eA17 ?_
  have n17 : hN A17 = 352 := by rw [eA17, hN_sI, n16] <;> rfl
  refine j0_dup dX9_init_78 rfl ?_
  refine j0_bipush dX9_init_79 rfl ?_
  refine j0_iconst dX9_init_81 ?_
  refine j0_iast (K := 21) (inR_lit _ rfl) (inR_lit _ rfl) (by decide) (by decide) rfl dX9_init_82 (by decide) (fun _ => (by rw [n17]; decide)) (kdA_lt (by decide) rfl) (by decide) ?_
  obtain ⟨A18, eA18⟩ : ∃ B : AH, B = sI A17 (351) 9 (3) := ⟨_, rfl⟩
  refine j0_hB eA18 ?_
  have n18 : hN A18 = 352 := by rw [eA18, hN_sI, n17] <;> rfl
  refine j0_dup dX9_init_83 rfl ?_
  refine j0_bipush dX9_init_84 rfl ?_
  refine j0_iconst dX9_init_86 ?_
  refine j0_iast (K := 21) (inR_lit _ rfl) (inR_lit _ rfl) (by decide) (by decide) rfl dX9_init_87 (by decide) (fun _ => (by rw [n18]; decide)) (kdA_lt (by decide) rfl) (by decide) ?_
  obtain ⟨A19, eA19⟩ : ∃ B : AH, B = sI A18 (351) 10 (2) := ⟨_, rfl⟩
  refine j0_hB eA19 ?_
  have n19 : hN A19 = 352 := by rw [eA19, hN_sI, n18] <;> rfl
  refine j0_dup dX9_init_88 rfl ?_
  refine j0_bipush dX9_init_89 rfl ?_
  refine j0_iconst dX9_init_91 ?_
  refine j0_iast (K := 21) (inR_lit _ rfl) (inR_lit _ rfl) (by decide) (by decide) rfl dX9_init_92 (by decide) (fun _ => (by rw [n19]; decide)) (kdA_lt (by decide) rfl) (by decide) ?_
  obtain ⟨A20, eA20⟩ : ∃ B : AH, B = sI A19 (351) 11 (1) := ⟨_, rfl⟩
  refine j0_hB eA20 ?_
  have n20 : hN A20 = 352 := by rw [eA20, hN_sI, n19] <;> rfl
  refine j0_putFR (K := 9) (k := 2) (by decide) (by decide) rfl (gdI (i := 1280) (by decide +kernel) rfl) rfl rfl rfl rfl (fun _ => rfl) (fun _ => rfl) dX9_init_93 (by decide) (by rw [n20]; decide) (kdA_lt (by decide) rfl) (by decide) ?_
  obtain ⟨A21, eA21⟩ : ∃ B : AH, B = sP A20 (349) 2 (351) := ⟨_, rfl⟩
  refine j0_hB eA21 ?_
  have n21 : hN A21 = 352 := by rw [eA21, hN_sP, n20] <;> rfl
  refine j0_aload_n (j := 0) dX9_init_96 rfl rfl ?_
  refine j0_bipush dX9_init_97 rfl ?_
  refine j0_newarr (qn := 352) n21 (K := 22) rfl (by decide) (by decide) (by decide) (by decide) (by decide) rfl (gdI (i := 181) (by decide +kernel) rfl) rfl (inR_lit _ rfl) (by decide) (fun x => absurd x (by decide)) dX9_init_99 ?_
  obtain ⟨A22, eA22⟩ : ∃ B : AH, B = nC A21 22 (jal 22) := ⟨_, rfl⟩
  refine j0_hB eA22 ?_
  have n22 : hN A22 = 353 := by rw [eA22, hN_nC, n21] <;> rfl
  refine j0_putFR (K := 9) (k := 3) (by decide) (by decide) rfl (gdI (i := 1281) (by decide +kernel) rfl) rfl rfl rfl rfl (fun _ => rfl) (fun _ => rfl) dX9_init_101 (by decide) (by rw [n22]; decide) (kdA_lt (by decide) rfl) (by decide) ?_
  obtain ⟨A23, eA23⟩ : ∃ B : AH, B = sP A22 (349) 3 (352) := ⟨_, rfl⟩
  refine j0_hB eA23 ?_
  have n23 : hN A23 = 353 := by rw [eA23, hN_sP, n22] <;> rfl
  refine j0_aload_n (j := 0) dX9_init_104 rfl rfl ?_
  refine j0_bipush dX9_init_105 rfl ?_
  refine j0_newarr (qn := 353) n23 (K := 23) rfl (by decide) (by decide) (by decide) (by decide) (by decide) rfl (gdI (i := 181) (by decide +kernel) rfl) rfl (inR_lit _ rfl) (by decide) (fun x => absurd x (by decide)) dX9_init_107 ?_
  obtain ⟨A24, eA24⟩ : ∃ B : AH, B = nC A23 23 (jal 23) := ⟨_, rfl⟩
  refine j0_hB eA24 ?_
  have n24 : hN A24 = 354 := by rw [eA24, hN_nC, n23] <;> rfl
  refine j0_putFR (K := 9) (k := 4) (by decide) (by decide) rfl (gdI (i := 1282) (by decide +kernel) rfl) rfl rfl rfl rfl (fun _ => rfl) (fun _ => rfl) dX9_init_109 (by decide) (by rw [n24]; decide) (kdA_lt (by decide) rfl) (by decide) ?_
  obtain ⟨A25, eA25⟩ : ∃ B : AH, B = sP A24 (349) 4 (353) := ⟨_, rfl⟩
  refine j0_hB eA25 ?_
  have n25 : hN A25 = 354 := by rw [eA25, hN_sP, n24] <;> rfl
  refine j0_aload_n (j := 0) dX9_init_112 rfl rfl ?_
  refine j0_bipush dX9_init_113 rfl ?_
  refine j0_newarr (qn := 354) n25 (K := 24) rfl (by decide) (by decide) (by decide) (by decide) (by decide) rfl (gdI (i := 181) (by decide +kernel) rfl) rfl (inR_lit _ rfl) (by decide) (fun x => absurd x (by decide)) dX9_init_115 ?_
  obtain ⟨A26, eA26⟩ : ∃ B : AH, B = nC A25 24 (jal 24) := ⟨_, rfl⟩
  refine j0_hB eA26 ?_
  have n26 : hN A26 = 355 := by rw [eA26, hN_nC, n25] <;> rfl
  refine j0_putFR (K := 9) (k := 5) (by decide) (by decide) rfl (gdI (i := 1283) (by decide +kernel) rfl) rfl rfl rfl rfl (fun _ => rfl) (fun _ => rfl) dX9_init_117 (by decide) (by rw [n26]; decide) (kdA_lt (by decide) rfl) (by decide) ?_
  obtain ⟨A27, eA27⟩ : ∃ B : AH, B = sP A26 (349) 5 (354) := ⟨_, rfl⟩
  refine j0_hB eA27 ?_
  have n27 : hN A27 = 355 := by rw [eA27, hN_sP, n26] <;> rfl
  refine j0_aload_n (j := 0) dX9_init_120 rfl rfl ?_
  refine j0_bipush dX9_init_121 rfl ?_
  refine j0_newarr (qn := 355) n27 (K := 25) rfl (by decide) (by decide) (by decide) (by decide) (by decide) rfl (gdI (i := 181) (by decide +kernel) rfl) rfl (inR_lit _ rfl) (by decide) (fun x => absurd x (by decide)) dX9_init_123 ?_
  obtain ⟨A28, eA28⟩ : ∃ B : AH, B = nC A27 25 (jal 25) := ⟨_, rfl⟩
  refine j0_hB eA28 ?_
  have n28 : hN A28 = 356 := by rw [eA28, hN_nC, n27] <;> rfl
  refine j0_putFR (K := 9) (k := 6) (by decide) (by decide) rfl (gdI (i := 1284) (by decide +kernel) rfl) rfl rfl rfl rfl (fun _ => rfl) (fun _ => rfl) dX9_init_125 (by decide) (by rw [n28]; decide) (kdA_lt (by decide) rfl) (by decide) ?_
  obtain ⟨A29, eA29⟩ : ∃ B : AH, B = sP A28 (349) 6 (355) := ⟨_, rfl⟩
  refine j0_hB eA29 ?_
  have n29 : hN A29 = 356 := by rw [eA29, hN_sP, n28] <;> rfl
  refine j0_aload_n (j := 0) dX9_init_128 rfl rfl ?_
  refine j0_bipush dX9_init_129 rfl ?_
  refine j0_newarr (qn := 356) n29 (K := 26) rfl (by decide) (by decide) (by decide) (by decide) (by decide) rfl (gdI (i := 181) (by decide +kernel) rfl) rfl (inR_lit _ rfl) (by decide) (fun x => absurd x (by decide)) dX9_init_131 ?_
  obtain ⟨A30, eA30⟩ : ∃ B : AH, B = nC A29 26 (jal 26) := ⟨_, rfl⟩
  refine j0_hB eA30 ?_
  have n30 : hN A30 = 357 := by rw [eA30, hN_nC, n29] <;> rfl
  refine j0_putFR (K := 9) (k := 7) (by decide) (by decide) rfl (gdI (i := 1285) (by decide +kernel) rfl) rfl rfl rfl rfl (fun _ => rfl) (fun _ => rfl) dX9_init_133 (by decide) (by rw [n30]; decide) (kdA_lt (by decide) rfl) (by decide) ?_
  obtain ⟨A31, eA31⟩ : ∃ B : AH, B = sP A30 (349) 7 (356) := ⟨_, rfl⟩
  refine j0_hB eA31 ?_
  have n31 : hN A31 = 357 := by rw [eA31, hN_sP, n30] <;> rfl
  refine j0_aload_n (j := 0) dX9_init_136 rfl rfl ?_
  refine j0_bipush dX9_init_137 rfl ?_
  refine j0_newarr (qn := 357) n31 (K := 27) rfl (by decide) (by decide) (by decide) (by decide) (by decide) rfl (gdI (i := 181) (by decide +kernel) rfl) rfl (inR_lit _ rfl) (by decide) (fun x => absurd x (by decide)) dX9_init_139 ?_
  obtain ⟨A32, eA32⟩ : ∃ B : AH, B = nC A31 27 (jal 27) := ⟨_, rfl⟩
  refine j0_hB eA32 ?_
  have n32 : hN A32 = 358 := by rw [eA32, hN_nC, n31] <;> rfl
  refine j0_putFR (K := 9) (k := 8) (by decide) (by decide) rfl (gdI (i := 1286) (by decide +kernel) rfl) rfl rfl rfl rfl (fun _ => rfl) (fun _ => rfl) dX9_init_141 (by decide) (by rw [n32]; decide) (kdA_lt (by decide) rfl) (by decide) ?_
  obtain ⟨A33, eA33⟩ : ∃ B : AH, B = sP A32 (349) 8 (357) := ⟨_, rfl⟩
  refine j0_hB eA33 ?_
  have n33 : hN A33 = 358 := by rw [eA33, hN_sP, n32] <;> rfl
  refine j0_aload_n (j := 0) dX9_init_144 rfl rfl ?_
  refine j0_bipush dX9_init_145 rfl ?_
  refine j0_newarr (qn := 358) n33 (K := 28) rfl (by decide) (by decide) (by decide) (by decide) (by decide) rfl (gdI (i := 181) (by decide +kernel) rfl) rfl (inR_lit _ rfl) (by decide) (fun x => absurd x (by decide)) dX9_init_147 ?_
  obtain ⟨A34, eA34⟩ : ∃ B : AH, B = nC A33 28 (jal 28) := ⟨_, rfl⟩
  refine j0_hB eA34 ?_
  have n34 : hN A34 = 359 := by rw [eA34, hN_nC, n33] <;> rfl
  refine j0_putFR (K := 9) (k := 9) (by decide) (by decide) rfl (gdI (i := 1287) (by decide +kernel) rfl) rfl rfl rfl rfl (fun _ => rfl) (fun _ => rfl) dX9_init_149 (by decide) (by rw [n34]; decide) (kdA_lt (by decide) rfl) (by decide) ?_
  obtain ⟨A35, eA35⟩ : ∃ B : AH, B = sP A34 (349) 9 (358) := ⟨_, rfl⟩
  refine j0_hB eA35 ?_
  have n35 : hN A35 = 359 := by rw [eA35, hN_sP, n34] <;> rfl
  refine j0_aload_n (j := 0) dX9_init_152 rfl rfl ?_
  refine j0_bipush dX9_init_153 rfl ?_
  refine j0_newarr (qn := 359) n35 (K := 29) rfl (by decide) (by decide) (by decide) (by decide) (by decide) rfl (gdI (i := 181) (by decide +kernel) rfl) rfl (inR_lit _ rfl) (by decide) (fun x => absurd x (by decide)) dX9_init_155 ?_
  obtain ⟨A36, eA36⟩ : ∃ B : AH, B = nC A35 29 (jal 29) := ⟨_, rfl⟩
  refine j0_hB eA36 ?_
  have n36 : hN A36 = 360 := by rw [eA36, hN_nC, n35] <;> rfl
  refine j0_putFR (K := 9) (k := 10) (by decide) (by decide) rfl (gdI (i := 1288) (by decide +kernel) rfl) rfl rfl rfl rfl (fun _ => rfl) (fun _ => rfl) dX9_init_157 (by decide) (by rw [n36]; decide) (kdA_lt (by decide) rfl) (by decide) ?_
  obtain ⟨A37, eA37⟩ : ∃ B : AH, B = sP A36 (349) 10 (359) := ⟨_, rfl⟩
  refine j0_hB eA37 ?_
  have n37 : hN A37 = 360 := by rw [eA37, hN_sP, n36] <;> rfl
  refine j0_aload_n (j := 0) dX9_init_160 rfl rfl ?_
  refine j0_bipush dX9_init_161 rfl ?_
  refine j0_newarr (qn := 360) n37 (K := 30) rfl (by decide) (by decide) (by decide) (by decide) (by decide) rfl (gdI (i := 181) (by decide +kernel) rfl) rfl (inR_lit _ rfl) (by decide) (fun x => absurd x (by decide)) dX9_init_163 ?_
  obtain ⟨A38, eA38⟩ : ∃ B : AH, B = nC A37 30 (jal 30) := ⟨_, rfl⟩
  refine j0_hB eA38 ?_
  have n38 : hN A38 = 361 := by rw [eA38, hN_nC, n37] <;> rfl
  refine j0_putFR (K := 9) (k := 11) (by decide) (by decide) rfl (gdI (i := 1289) (by decide +kernel) rfl) rfl rfl rfl rfl (fun _ => rfl) (fun _ => rfl) dX9_init_165 (by decide) (by rw [n38]; decide) (kdA_lt (by decide) rfl) (by decide) ?_
  obtain ⟨A39, eA39⟩ : ∃ B : AH, B = sP A38 (349) 11 (360) := ⟨_, rfl⟩
  refine j0_hB eA39 ?_
  have n39 : hN A39 = 361 := by rw [eA39, hN_sP, n38] <;> rfl
  refine j0_aload_n (j := 0) dX9_init_168 rfl rfl ?_
  refine j0_bipush dX9_init_169 rfl ?_
  refine j0_newarr (qn := 361) n39 (K := 31) rfl (by decide) (by decide) (by decide) (by decide) (by decide) rfl (gdI (i := 181) (by decide +kernel) rfl) rfl (inR_lit _ rfl) (by decide) (fun x => absurd x (by decide)) dX9_init_171 ?_
  obtain ⟨A40, eA40⟩ : ∃ B : AH, B = nC A39 31 (jal 31) := ⟨_, rfl⟩
  refine j0_hB eA40 ?_
  have n40 : hN A40 = 362 := by rw [eA40, hN_nC, n39] <;> rfl
  refine j0_putFR (K := 9) (k := 12) (by decide) (by decide) rfl (gdI (i := 1290) (by decide +kernel) rfl) rfl rfl rfl rfl (fun _ => rfl) (fun _ => rfl) dX9_init_173 (by decide) (by rw [n40]; decide) (kdA_lt (by decide) rfl) (by decide) ?_
  obtain ⟨A41, eA41⟩ : ∃ B : AH, B = sP A40 (349) 12 (361) := ⟨_, rfl⟩
  refine j0_hB eA41 ?_
  have n41 : hN A41 = 362 := by rw [eA41, hN_sP, n40] <;> rfl
  refine j0_aload_n (j := 0) dX9_init_176 rfl rfl ?_
  refine j0_bipush dX9_init_177 rfl ?_
  refine j0_newarr (qn := 362) n41 (K := 32) rfl (by decide) (by decide) (by decide) (by decide) (by decide) rfl (gdI (i := 181) (by decide +kernel) rfl) rfl (inR_lit _ rfl) (by decide) (fun x => absurd x (by decide)) dX9_init_179 ?_
  obtain ⟨A42, eA42⟩ : ∃ B : AH, B = nC A41 32 (jal 32) := ⟨_, rfl⟩
  refine j0_hB eA42 ?_
  have n42 : hN A42 = 363 := by rw [eA42, hN_nC, n41] <;> rfl
  refine j0_putFR (K := 9) (k := 13) (by decide) (by decide) rfl (gdI (i := 1291) (by decide +kernel) rfl) rfl rfl rfl rfl (fun _ => rfl) (fun _ => rfl) dX9_init_181 (by decide) (by rw [n42]; decide) (kdA_lt (by decide) rfl) (by decide) ?_
  obtain ⟨A43, eA43⟩ : ∃ B : AH, B = sP A42 (349) 13 (362) := ⟨_, rfl⟩
  refine j0_hB eA43 ?_
  have n43 : hN A43 = 363 := by rw [eA43, hN_sP, n42] <;> rfl
  refine j0_aload_n (j := 0) dX9_init_184 rfl rfl ?_
  refine j0_bipush dX9_init_185 rfl ?_
  refine j0_newarr (qn := 363) n43 (K := 33) rfl (by decide) (by decide) (by decide) (by decide) (by decide) rfl (gdI (i := 181) (by decide +kernel) rfl) rfl (inR_lit _ rfl) (by decide) (fun x => absurd x (by decide)) dX9_init_187 ?_
  obtain ⟨A44, eA44⟩ : ∃ B : AH, B = nC A43 33 (jal 33) := ⟨_, rfl⟩
  refine j0_hB eA44 ?_
  have n44 : hN A44 = 364 := by rw [eA44, hN_nC, n43] <;> rfl
  refine j0_putFR (K := 9) (k := 14) (by decide) (by decide) rfl (gdI (i := 1292) (by decide +kernel) rfl) rfl rfl rfl rfl (fun _ => rfl) (fun _ => rfl) dX9_init_189 (by decide) (by rw [n44]; decide) (kdA_lt (by decide) rfl) (by decide) ?_
  obtain ⟨A45, eA45⟩ : ∃ B : AH, B = sP A44 (349) 14 (363) := ⟨_, rfl⟩
  refine j0_hB eA45 ?_
  have n45 : hN A45 = 364 := by rw [eA45, hN_sP, n44] <;> rfl
  refine j0_aload_n (j := 0) dX9_init_192 rfl rfl ?_
  refine j0_iconst dX9_init_193 ?_
  refine j0_newarr (qn := 364) n45 (K := 34) rfl (by decide) (by decide) (by decide) (by decide) (by decide) rfl (gdI (i := 181) (by decide +kernel) rfl) rfl (inR_lit _ rfl) (by decide) (fun x => absurd x (by decide)) dX9_init_194 ?_
  obtain ⟨A46, eA46⟩ : ∃ B : AH, B = nC A45 34 (jal 34) := ⟨_, rfl⟩
  refine j0_hB eA46 ?_
  have n46 : hN A46 = 365 := by rw [eA46, hN_nC, n45] <;> rfl
  refine j0_putFR (K := 9) (k := 15) (by decide) (by decide) rfl (gdI (i := 1293) (by decide +kernel) rfl) rfl rfl rfl rfl (fun _ => rfl) (fun _ => rfl) dX9_init_196 (by decide) (by rw [n46]; decide) (kdA_lt (by decide) rfl) (by decide) ?_
  obtain ⟨A47, eA47⟩ : ∃ B : AH, B = sP A46 (349) 15 (364) := ⟨_, rfl⟩
  refine j0_hB eA47 ?_
  have n47 : hN A47 = 365 := by rw [eA47, hN_sP, n46] <;> rfl
  refine j0_aload_n (j := 0) dX9_init_199 rfl rfl ?_
  refine j0_iconst dX9_init_200 ?_
  refine j0_newarr (qn := 365) n47 (K := 35) rfl (by decide) (by decide) (by decide) (by decide) (by decide) rfl (gdI (i := 181) (by decide +kernel) rfl) rfl (inR_lit _ rfl) (by decide) (fun x => absurd x (by decide)) dX9_init_201 ?_
  obtain ⟨A48, eA48⟩ : ∃ B : AH, B = nC A47 35 (jal 35) := ⟨_, rfl⟩
  refine j0_hB eA48 ?_
  have n48 : hN A48 = 366 := by rw [eA48, hN_nC, n47] <;> rfl
  refine j0_putFR (K := 9) (k := 16) (by decide) (by decide) rfl (gdI (i := 1294) (by decide +kernel) rfl) rfl rfl rfl rfl (fun _ => rfl) (fun _ => rfl) dX9_init_203 (by decide) (by rw [n48]; decide) (kdA_lt (by decide) rfl) (by decide) ?_
  obtain ⟨A49, eA49⟩ : ∃ B : AH, B = sP A48 (349) 16 (365) := ⟨_, rfl⟩
  refine j0_hB eA49 ?_
  have n49 : hN A49 = 366 := by rw [eA49, hN_sP, n48] <;> rfl
  refine j0_aload_n (j := 0) dX9_init_206 rfl rfl ?_
  refine j0_iconst dX9_init_207 ?_
  refine j0_newarr (qn := 366) n49 (K := 36) rfl (by decide) (by decide) (by decide) (by decide) (by decide) rfl (gdI (i := 181) (by decide +kernel) rfl) rfl (inR_lit _ rfl) (by decide) (fun x => absurd x (by decide)) dX9_init_208 ?_
  obtain ⟨A50, eA50⟩ : ∃ B : AH, B = nC A49 36 (jal 36) := ⟨_, rfl⟩
  refine j0_hB eA50 ?_
  have n50 : hN A50 = 367 := by rw [eA50, hN_nC, n49] <;> rfl
  refine j0_putFR (K := 9) (k := 17) (by decide) (by decide) rfl (gdI (i := 1295) (by decide +kernel) rfl) rfl rfl rfl rfl (fun _ => rfl) (fun _ => rfl) dX9_init_210 (by decide) (by rw [n50]; decide) (kdA_lt (by decide) rfl) (by decide) ?_
  obtain ⟨A51, eA51⟩ : ∃ B : AH, B = sP A50 (349) 17 (366) := ⟨_, rfl⟩
  refine j0_hB eA51 ?_
  have n51 : hN A51 = 367 := by rw [eA51, hN_sP, n50] <;> rfl
  refine j0_aload_n (j := 0) dX9_init_213 rfl rfl ?_
  refine j0_sipush dX9_init_214 rfl ?_
  refine j0_newarr (qn := 367) n51 (K := 37) rfl (by decide) (by decide) (by decide) (by decide) (by decide) rfl (gdI (i := 181) (by decide +kernel) rfl) rfl (inR_lit _ rfl) (by decide) (fun x => absurd x (by decide)) dX9_init_217 ?_
  obtain ⟨A52, eA52⟩ : ∃ B : AH, B = nC A51 37 (jal 37) := ⟨_, rfl⟩
  refine j0_hB eA52 ?_
  have n52 : hN A52 = 368 := by rw [eA52, hN_nC, n51] <;> rfl
  refine j0_putFR (K := 9) (k := 18) (by decide) (by decide) rfl (gdI (i := 1296) (by decide +kernel) rfl) rfl rfl rfl rfl (fun _ => rfl) (fun _ => rfl) dX9_init_219 (by decide) (by rw [n52]; decide) (kdA_lt (by decide) rfl) (by decide) ?_
  obtain ⟨A53, eA53⟩ : ∃ B : AH, B = sP A52 (349) 18 (367) := ⟨_, rfl⟩
  refine j0_hB eA53 ?_
  have n53 : hN A53 = 368 := by rw [eA53, hN_sP, n52] <;> rfl
  refine j0_aload_n (j := 0) dX9_init_222 rfl rfl ?_
  refine j0_bipush dX9_init_223 rfl ?_
  refine j0_newarr (qn := 368) n53 (K := 38) rfl (by decide) (by decide) (by decide) (by decide) (by decide) rfl (gdI (i := 326) (by decide +kernel) rfl) rfl (inR_lit _ rfl) (by decide) (fun x => absurd x (by decide)) dX9_init_225 ?_
  obtain ⟨A54, eA54⟩ : ∃ B : AH, B = nC A53 38 (jal 38) := ⟨_, rfl⟩
  refine j0_hB eA54 ?_
  have n54 : hN A54 = 369 := by rw [eA54, hN_nC, n53] <;> rfl
  refine j0_putFR (K := 9) (k := 31) (by decide) (by decide) rfl (gdI (i := 1309) (by decide +kernel) rfl) rfl rfl rfl rfl (fun _ => rfl) (fun _ => rfl) dX9_init_227 (by decide) (by rw [n54]; decide) (kdA_lt (by decide) rfl) (by decide) ?_
  obtain ⟨A55, eA55⟩ : ∃ B : AH, B = sP A54 (349) 31 (368) := ⟨_, rfl⟩
  refine j0_hB eA55 ?_
  have n55 : hN A55 = 369 := by rw [eA55, hN_sP, n54] <;> rfl
  refine j0_aload_n (j := 0) dX9_init_230 rfl rfl ?_
  refine j0_bipush dX9_init_231 rfl ?_
  refine j0_newarr (qn := 369) n55 (K := 39) rfl (by decide) (by decide) (by decide) (by decide) (by decide) rfl (gdI (i := 326) (by decide +kernel) rfl) rfl (inR_lit _ rfl) (by decide) (fun x => absurd x (by decide)) dX9_init_233 ?_
  obtain ⟨A56, eA56⟩ : ∃ B : AH, B = nC A55 39 (jal 39) := ⟨_, rfl⟩
  refine j0_hB eA56 ?_
  have n56 : hN A56 = 370 := by rw [eA56, hN_nC, n55] <;> rfl
  refine j0_putFR (K := 9) (k := 32) (by decide) (by decide) rfl (gdI (i := 1310) (by decide +kernel) rfl) rfl rfl rfl rfl (fun _ => rfl) (fun _ => rfl) dX9_init_235 (by decide) (by rw [n56]; decide) (kdA_lt (by decide) rfl) (by decide) ?_
  obtain ⟨A57, eA57⟩ : ∃ B : AH, B = sP A56 (349) 32 (369) := ⟨_, rfl⟩
  refine j0_hB eA57 ?_
  have n57 : hN A57 = 370 := by rw [eA57, hN_sP, n56] <;> rfl
  refine j0_aload_n (j := 0) dX9_init_238 rfl rfl ?_
  refine j0_bipush dX9_init_239 rfl ?_
  refine j0_newarr (qn := 370) n57 (K := 40) rfl (by decide) (by decide) (by decide) (by decide) (by decide) rfl (gdI (i := 181) (by decide +kernel) rfl) rfl (inR_lit _ rfl) (by decide) (fun x => absurd x (by decide)) dX9_init_241 ?_
  obtain ⟨A58, eA58⟩ : ∃ B : AH, B = nC A57 40 (jal 40) := ⟨_, rfl⟩
  refine j0_hB eA58 ?_
  have n58 : hN A58 = 371 := by rw [eA58, hN_nC, n57] <;> rfl
  refine j0_putFR (K := 9) (k := 33) (by decide) (by decide) rfl (gdI (i := 1311) (by decide +kernel) rfl) rfl rfl rfl rfl (fun _ => rfl) (fun _ => rfl) dX9_init_243 (by decide) (by rw [n58]; decide) (kdA_lt (by decide) rfl) (by decide) ?_
  obtain ⟨A59, eA59⟩ : ∃ B : AH, B = sP A58 (349) 33 (370) := ⟨_, rfl⟩
  refine j0_hB eA59 ?_
  have n59 : hN A59 = 371 := by rw [eA59, hN_sP, n58] <;> rfl
  refine j0_aload_n (j := 0) dX9_init_246 rfl rfl ?_
  refine j0_iconst dX9_init_247 ?_
  refine j0_putV FX9_74 rfl rfl rfl rfl (inR_lit _ rfl) dX9_init_248 (by decide) (fun _ => (by rw [n59]; decide)) (kdA_lt (by decide) rfl) ?_
  obtain ⟨A60, eA60⟩ : ∃ B : AH, B = sI A59 (349) 37 (-1) := ⟨_, rfl⟩
  refine j0_hB eA60 ?_
  have n60 : hN A60 = 371 := by rw [eA60, hN_sI, n59] <;> rfl
  refine j0_aload_n (j := 0) dX9_init_251 rfl rfl ?_
  refine j0_sipush dX9_init_252 rfl ?_
  refine j0_newarr (qn := 371) n60 (K := 41) rfl (by decide) (by decide) (by decide) (by decide) (by decide) rfl (gdI (i := 181) (by decide +kernel) rfl) rfl (inR_lit _ rfl) (by decide) (fun x => absurd x (by decide)) dX9_init_255 ?_
  obtain ⟨A61, eA61⟩ : ∃ B : AH, B = nC A60 41 (jal 41) := ⟨_, rfl⟩
  refine j0_hB eA61 ?_
  have n61 : hN A61 = 372 := by rw [eA61, hN_nC, n60] <;> rfl
  refine j0_putFR (K := 9) (k := 38) (by decide) (by decide) rfl (gdI (i := 1316) (by decide +kernel) rfl) rfl rfl rfl rfl (fun _ => rfl) (fun _ => rfl) dX9_init_257 (by decide) (by rw [n61]; decide) (kdA_lt (by decide) rfl) (by decide) ?_
  obtain ⟨A62, eA62⟩ : ∃ B : AH, B = sP A61 (349) 38 (371) := ⟨_, rfl⟩
  refine j0_hB eA62 ?_
  have n62 : hN A62 = 372 := by rw [eA62, hN_sP, n61] <;> rfl
  refine j0_aload_n (j := 0) dX9_init_260 rfl rfl ?_
  refine j0_sipush dX9_init_261 rfl ?_
  refine j0_newarr (qn := 372) n62 (K := 42) rfl (by decide) (by decide) (by decide) (by decide) (by decide) rfl (gdI (i := 181) (by decide +kernel) rfl) rfl (inR_lit _ rfl) (by decide) (fun x => absurd x (by decide)) dX9_init_264 ?_
  obtain ⟨A63, eA63⟩ : ∃ B : AH, B = nC A62 42 (jal 42) := ⟨_, rfl⟩
  refine j0_hB eA63 ?_
  have n63 : hN A63 = 373 := by rw [eA63, hN_nC, n62] <;> rfl
  refine j0_putFR (K := 9) (k := 39) (by decide) (by decide) rfl (gdI (i := 1317) (by decide +kernel) rfl) rfl rfl rfl rfl (fun _ => rfl) (fun _ => rfl) dX9_init_266 (by decide) (by rw [n63]; decide) (kdA_lt (by decide) rfl) (by decide) ?_
  obtain ⟨A64, eA64⟩ : ∃ B : AH, B = sP A63 (349) 39 (372) := ⟨_, rfl⟩
  refine j0_hB eA64 ?_
  have n64 : hN A64 = 373 := by rw [eA64, hN_sP, n63] <;> rfl
  refine j0_aload_n (j := 0) dX9_init_269 rfl rfl ?_
  refine j0_sipush dX9_init_270 rfl ?_
  refine j0_newarr (qn := 373) n64 (K := 43) rfl (by decide) (by decide) (by decide) (by decide) (by decide) rfl (gdI (i := 181) (by decide +kernel) rfl) rfl (inR_lit _ rfl) (by decide) (fun x => absurd x (by decide)) dX9_init_273 ?_
  obtain ⟨A65, eA65⟩ : ∃ B : AH, B = nC A64 43 (jal 43) := ⟨_, rfl⟩
  refine j0_hB eA65 ?_
  have n65 : hN A65 = 374 := by rw [eA65, hN_nC, n64] <;> rfl
  refine j0_putFR (K := 9) (k := 40) (by decide) (by decide) rfl (gdI (i := 1318) (by decide +kernel) rfl) rfl rfl rfl rfl (fun _ => rfl) (fun _ => rfl) dX9_init_275 (by decide) (by rw [n65]; decide) (kdA_lt (by decide) rfl) (by decide) ?_
  obtain ⟨A66, eA66⟩ : ∃ B : AH, B = sP A65 (349) 40 (373) := ⟨_, rfl⟩
  refine j0_hB eA66 ?_
  have n66 : hN A66 = 374 := by rw [eA66, hN_sP, n65] <;> rfl
  subst eA66 eA65 eA64 eA63 eA62 eA61 eA60 eA59 eA58 eA57 eA56 eA55 eA54 eA53 eA52 eA51 eA50 eA49 eA48 eA47 eA46 eA45 eA44 eA43 eA42 eA41 eA40 eA39 eA38 eA37 eA36 eA35 eA34 eA33 eA32 eA31 eA30 eA29 eA28 eA27 eA26 eA25 eA24 eA23 eA22 eA21 eA20 eA19 eA18 eA17 eA16 eA15 eA14 eA13 eA12 eA11 eA10 eA9 eA8 eA7 eA6 eA5 eA4 eA3 eA2 eA1
  exact j0_vret dX9_init_278 rfl rfl trivial
def lawI (A : AH) : AH := (nC (nC (modI (nC (proI (nC A 8 (jfn 8))) 9 (jfn 9))) 60 (jal 60)) 61 (jal 61))
theorem hN_lawI (A : AH) : hN (lawI A) = hN A + 375 := by
  unfold lawI
  simp only [hN_nC, hN_proI, hN_modI]
set_option maxRecDepth 100000 in
theorem tL_law_0 {g : JG} {l : Launch} {d n0 s0 : Nat} {o : JO} {Z : Prop} {A : AH} (hl : l.stackTraces = false) (hd : 12 ≤ d) (n0_ : hN A = 1) (hD : hDb A = 0) (KK : J0 g l d RL "law" cL_law 9 (some .boolean) n0 s0 o Z 28 [(5, vI 0), (4, .ref (gB g + 375)), (3, .ref (gB g + 374)), (2, .ref (gB g + 349)), (1, .ref (gB g + 1)), (0, .ref (gS g 6))] [] (lawI A)) : J0 g l d RL "law" cL_law 9 (some .boolean) n0 s0 o Z 0 [(0, .ref (gS g 6))] [] A := by
  refine j0_new (qn := 1) n0_ (K := 8) (by decide) rfl (by decide) (by decide) (gdI (i := 99) (by decide +kernel) rfl) (gdI (i := 100) (by decide +kernel) rfl) (gdI (i := 75) (by decide +kernel) rfl) dL_law_0 ?_
  obtain ⟨A1, eA1⟩ : ∃ B : AH, B = nC A 8 (jfn 8) := ⟨_, rfl⟩
  refine j0_hB eA1 ?_
  have n1 : hN A1 = 2 := by rw [eA1, hN_nC, n0_] <;> rfl
  refine j0_dup dL_law_3 rfl ?_
  refine j0_callI (y := yX8_init) (As := []) (d' := d - 1) (gdI (i := 101) (by decide +kernel) rfl) ⟨gdI (i := 75) (by decide +kernel) rfl, gdI (i := 103) (by decide +kernel) rfl, by decide, by decide, rfl⟩ (gdI (i := 102) (by decide +kernel) rfl) rfl (by decide) (by omega) (Nat.le_of_ble_eq_true rfl) rfl (ctX8_init hl (by omega) n1) dL_law_4 rfl (fun _ _ => ?_)
  obtain ⟨A2, eA2⟩ : ∃ B : AH, B = proI A1 := ⟨_, rfl⟩
  refine j0_hB eA2 ?_
  have n2 : hN A2 = 349 := by rw [eA2, hN_proI, n1] <;> rfl
  refine j0_astore_n dL_law_7 rfl (by decide) rfl rfl ?_
  refine j0_new (qn := 349) n2 (K := 9) (by decide) rfl (by decide) (by decide) (gdI (i := 1272) (by decide +kernel) rfl) (gdI (i := 1273) (by decide +kernel) rfl) (gdI (i := 84) (by decide +kernel) rfl) dL_law_8 ?_
  obtain ⟨A3, eA3⟩ : ∃ B : AH, B = nC A2 9 (jfn 9) := ⟨_, rfl⟩
  refine j0_hB eA3 ?_
  have n3 : hN A3 = 350 := by rw [eA3, hN_nC, n2] <;> rfl
  refine j0_dup dL_law_11 rfl ?_
  refine j0_callI (y := yX9_init) (As := []) (d' := d - 1) (gdI (i := 1274) (by decide +kernel) rfl) ⟨gdI (i := 84) (by decide +kernel) rfl, gdI (i := 1276) (by decide +kernel) rfl, by decide, by decide, rfl⟩ (gdI (i := 1275) (by decide +kernel) rfl) rfl (by decide) (by omega) (Nat.le_of_ble_eq_true rfl) rfl (ctX9_init hl (by omega) n3) dL_law_12 rfl (fun _ _ => ?_)
  obtain ⟨A4, eA4⟩ : ∃ B : AH, B = modI A3 := ⟨_, rfl⟩
  refine j0_hB eA4 ?_
  have n4 : hN A4 = 374 := by rw [eA4, hN_modI, n3] <;> rfl
  refine j0_astore_n dL_law_15 rfl (by decide) rfl rfl ?_
  refine j0_iconst dL_law_16 ?_
  refine j0_newarr (qn := 374) n4 (K := 60) rfl (by decide) (by decide) (by decide) (by decide) (by decide) rfl (gdI (i := 1831) (by decide +kernel) rfl) rfl (inR_lit _ rfl) (by decide) (fun x => absurd x (by decide)) dL_law_17 ?_
  obtain ⟨A5, eA5⟩ : ∃ B : AH, B = nC A4 60 (jal 60) := ⟨_, rfl⟩
  refine j0_hB eA5 ?_
  have n5 : hN A5 = 375 := by rw [eA5, hN_nC, n4] <;> rfl
  refine j0_astore_n dL_law_19 rfl (by decide) rfl rfl ?_
  refine j0_iconst dL_law_20 ?_
  refine j0_newarr (qn := 375) n5 (K := 61) rfl (by decide) (by decide) (by decide) (by decide) (by decide) rfl (gdI (i := 1832) (by decide +kernel) rfl) rfl (inR_lit _ rfl) (by decide) (fun _ => by rw [eA5, hDb_nC, eA4, hDb_modI, eA3, hDb_nC, eA2, hDb_proI, eA1, hDb_nC, hD]) dL_law_21 ?_
  obtain ⟨A6, eA6⟩ : ∃ B : AH, B = nC A5 61 (jal 61) := ⟨_, rfl⟩
  refine j0_hB eA6 ?_
  have n6 : hN A6 = 376 := by rw [eA6, hN_nC, n5] <;> rfl
  refine j0_astore dL_law_23 (by decide) rfl rfl ?_
  refine j0_iconst dL_law_25 ?_
  refine j0_istore dL_law_26 (by decide) rfl rfl ?_
  subst eA6 eA5 eA4 eA3 eA2 eA1
  exact KK
