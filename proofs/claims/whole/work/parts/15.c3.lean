def hisL (A : AH) : Nat → AH
  | 0 => A
  | i + 1 => sP (rosI (nC (hisL A i) 5 9) (66 + 31 * i)) 65 i (66 + 31 * i)
theorem hN_hisL (A : AH) (i : Nat) : hN (hisL A i) = hN A + 31 * i := by
  induction i with
  | zero => rfl
  | succ i ih =>
    rw [hisL, hN_sP, hN_rosI, hN_nC, ih]
    omega
theorem hDb_hisL (A : AH) (i : Nat) : hDb (hisL A i) = hDb A := by
  induction i with
  | zero => rfl
  | succ i ih => rw [hisL, hDb_sP, hDb_rosI, hDb_nC, ih]
theorem gP_rosI {A : AH} {a b j : Nat} (h0 : hN A = a + 1) (h1 : b < a) : gP (rosI A a) b j = gP A b j := by
  have e0 : hN (ros0 A a) = a + 6 := by rw [hN_ros0, h0]
  unfold rosI
  rw [gP_eltL hN_idF gP_idF _ _ _ _ _ (by omega) (by rw [hN_eltL hN_idF, hN_eltL hN_ordI, e0]; omega), gP_eltL hN_idF gP_idF _ _ _ _ _ (by omega) (by rw [hN_eltL hN_ordI, e0]; omega), gP_eltL hN_ordI gP_ordI _ _ _ _ _ (by omega) (by rw [e0]; omega)]
  unfold ros0
  simp only [gP_cpS, gP_sP, gP_nC, hN_sP, hN_nC, h0]
  simp only [show ¬ (b = a) by omega, show ¬ (b = a + 1) by omega, show ¬ (b = a + 1 + 1) by omega, show ¬ (b = a + 1 + 1 + 1) by omega, show ¬ (b = a + 1 + 1 + 1 + 1) by omega, show ¬ (b = a + 1 + 1 + 1 + 1 + 1) by omega, false_and, if_false]
theorem gP_hisL {A : AH} (h0 : hN A = 66) {b j : Nat} (hb : b < 65) (i : Nat) : gP (hisL A i) b j = gP A b j := by
  induction i with
  | zero => rfl
  | succ i ih =>
    have e1 := hN_hisL A i
    rw [hisL, gP_sP, if_neg (by omega), gP_rosI (by rw [hN_nC, e1, h0] <;> omega) (by omega), gP_nC, if_neg (by omega), ih]
theorem kd_his {i t : Nat} (hi : i < 9) (ht : t < 31) : kd (66 + 31 * i + t) = kRos t := by
  unfold kd
  rw [if_neg (by omega), if_neg (by omega), if_neg (by omega), if_neg (by omega), if_neg (by omega), if_pos (by omega)]
  congr 1
  omega
def his0 (A : AH) : AH := sP (nC A 16 (jal 16)) 64 0 65
def hisI (A : AH) : AH := hisL (his0 A) 9
theorem hN_hisI (A : AH) : hN (hisI A) = hN A + 280 := by
  unfold hisI
  rw [hN_hisL]
  rfl
theorem hDb_hisI (A : AH) : hDb (hisI A) = hDb A := by
  unfold hisI
  rw [hDb_hisL]
  rfl
def txtI (A : AH) : AH := (sP (nC A 17 (jal 17)) (345) 0 (346))
theorem hN_txtI (A : AH) : hN (txtI A) = hN A + 1 := rfl
theorem hDb_txtI (A : AH) : hDb (txtI A) = hDb A := by
  unfold txtI
  simp only [hDb_sP, hDb_sI, hDb_nC, hDb_rosI, hDb_hisI]
set_option maxRecDepth 100000 in
theorem ctX6_init {g : JG} {l : Launch} {d : Nat} {A : AH}  (hl : l.stackTraces = false) (hd : 2 ≤ d) (n0 : hN A = 346) : CT0 g l yX6_init cX6_init 1 none d [.ref (gB g + 345)] A ((0, none, txtI A) : JO) True := by
  refine CT0_of (lv := [(0, .ref (gB g + 345))]) (by decide +kernel) hl (by exact Nat.le_of_ble_eq_true rfl) rfl ?_
  refine j0_aload_n (j := 0) dX6_init_0 rfl rfl ?_
  refine j0_objInit (gdI (i := 293) (by decide +kernel) rfl) (gdI (i := 105) (by decide +kernel) rfl) (gdI (i := 106) (by decide +kernel) rfl) dX6_init_1 (by decide) (by omega) ?_
  refine j0_aload_n (j := 0) dX6_init_4 rfl rfl ?_
  refine j0_bipush dX6_init_5 rfl ?_
  refine j0_newarr (qn := 346) n0 (K := 17) rfl (by decide) (by decide) (by decide) (by decide) (by decide) rfl (gdI (i := 326) (by decide +kernel) rfl) rfl (inR_lit _ rfl) (by decide) (fun x => absurd x (by decide)) dX6_init_7 ?_
  obtain ⟨A1, eA1⟩ : ∃ B : AH, B = nC A 17 (jal 17) := ⟨_, rfl⟩
  refine j0_hB eA1 ?_
  have n1 : hN A1 = 347 := by rw [eA1, hN_nC, n0] <;> rfl
  refine j0_putFR (K := 6) (k := 0) (by decide) (by decide) rfl (gdI (i := 294) (by decide +kernel) rfl) rfl rfl rfl rfl (fun _ => rfl) (fun _ => rfl) dX6_init_9 (by decide) (by rw [n1]; decide) (kdA_lt (by decide) rfl) (by decide) ?_
  obtain ⟨A2, eA2⟩ : ∃ B : AH, B = sP A1 (345) 0 (346) := ⟨_, rfl⟩
  refine j0_hB eA2 ?_
  have n2 : hN A2 = 347 := by rw [eA2, hN_sP, n1] <;> rfl
  subst eA2 eA1
  exact j0_vret dX6_init_12 rfl rfl trivial
set_option maxRecDepth 100000 in
theorem tX1_l15 {g : JG} {l : Launch} {d n0 s0 : Nat} {o : JO} {Z : Prop} {B : AH} (hl : l.stackTraces = false) (hd : 4 ≤ d) (hB : hN B = 66) (hP : gP B 64 0 = 65) (KK : J0 g l d RX1 "<init>" cX1_init 2 none n0 s0 o Z 40 [(1, vI ((9 : Nat) : Int)), (0, .ref (gB g + 64))] [] (hisL B 9)) : ∀ k i : Nat, i + k = 9 → J0 g l d RX1 "<init>" cX1_init 2 none n0 s0 o Z 15 [(1, vI (i : Int)), (0, .ref (gB g + 64))] [] (hisL B i)
  | 0, i, h => by
    have hi : i = 9 := by omega
    subst hi
    refine j0_iload_n (j := 0) dX1_init_15 rfl rfl ?_
    refine j0_bipush dX1_init_16 rfl ?_
    exact j0_icmp_ge_t (inR_lit _ rfl) (inR_lit _ rfl) dX1_init_18 rfl (by decide) KK
  | k + 1, i, h => by
    have hi : i < 9 := by omega
    have hiR : inR (i : Int) := ⟨by omega, by omega⟩
    obtain ⟨C, eC⟩ : ∃ C : AH, C = hisL B i := ⟨_, rfl⟩
    have nC0 : hN C = 66 + 31 * i := by rw [eC, hN_hisL, hB]
    have pC : gP C 64 0 = 65 := by rw [eC, gP_hisL hB (by decide), hP]
    have hkq : ∀ t, t < 31 → kd (66 + 31 * i + t) = kRos t := fun t ht => kd_his hi ht
    refine j0_hB eC ?_
    refine j0_iload_n (j := 0) dX1_init_15 rfl rfl ?_
    refine j0_bipush dX1_init_16 rfl ?_
    refine j0_icmp_ge_f hiR (inR_lit _ rfl) dX1_init_18 rfl (by omega) ?_
    refine j0_aload_n (j := 1) dX1_init_21 rfl rfl ?_
    refine j0_getR FX1_13 rfl dX1_init_22 (by decide) (by omega) (kdA_lt (by decide) rfl) (q := 65) pC (by decide) ?_
    refine j0_iload_n (j := 0) dX1_init_25 rfl rfl ?_
    refine j0_new (qn := 66 + 31 * i) nC0 (K := 5) (by decide) (hkq 0 (by decide)) (by omega) (by omega) (gdI (i := 274) (by decide +kernel) rfl) (gdI (i := 108) (by decide +kernel) rfl) (gdI (i := 76) (by decide +kernel) rfl) dX1_init_26 ?_
    have nC1 : hN (nC C 5 (jfn 5)) = 66 + 31 * i + 1 := by rw [hN_nC, nC0]
    have nC2 : hN (rosI (nC C 5 (jfn 5)) (66 + 31 * i)) = 66 + 31 * i + 31 := by rw [hN_rosI, nC1]
    refine j0_dup dX1_init_29 rfl ?_
    refine j0_callI (y := yX5_init) (As := []) (d' := d - 1) (gdI (i := 276) (by decide +kernel) rfl) ⟨gdI (i := 76) (by decide +kernel) rfl, gdI (i := 111) (by decide +kernel) rfl, by decide, by decide, rfl⟩ (gdI (i := 110) (by decide +kernel) rfl) rfl (by decide) (by omega) (Nat.le_of_ble_eq_true rfl) rfl (ctX5_init hl (by omega) (by omega) (by omega) hkq nC1) dX1_init_30 rfl (fun _ _ => ?_)
    refine j0_aast (K := 16) (J := 5) hiR (by decide) (by decide) (by decide) (by decide) (by decide) rfl dX1_init_33 (by omega) (by omega) (kdA_lt (by decide) rfl) ⟨by omega, by show (i : Int) < 9; omega⟩ (by omega) (by omega) (kdA_lt (by omega) (hkq 0 (by decide))) ?_
    refine j0_iinc (k := 0) dX1_init_34 rfl (by decide) rfl (lv' := [(1, vI ((i + 1 : Nat) : Int)), (0, .ref (gB g + 64))]) (by rw [wrap_eq (by omega) (by omega)]; rfl) ?_
    refine j0_goto dX1_init_37 rfl ?_
    have ih := tX1_l15 hl hd hB hP KK k (i + 1) (by omega)
    rw [hisL, ← eC] at ih
    exact ih
set_option maxRecDepth 100000 in
theorem ctX1_init {g : JG} {l : Launch} {d : Nat} {A : AH}  (hl : l.stackTraces = false) (hd : 4 ≤ d) (n0 : hN A = 65) : CT0 g l yX1_init cX1_init 2 none d [.ref (gB g + 64)] A ((0, none, hisI A) : JO) True := by
  refine CT0_of (lv := [(0, .ref (gB g + 64))]) (by decide +kernel) hl (by exact Nat.le_of_ble_eq_true rfl) rfl ?_
  refine j0_aload_n (j := 0) dX1_init_0 rfl rfl ?_
  refine j0_objInit (gdI (i := 273) (by decide +kernel) rfl) (gdI (i := 105) (by decide +kernel) rfl) (gdI (i := 106) (by decide +kernel) rfl) dX1_init_1 (by decide) (by omega) ?_
  refine j0_aload_n (j := 0) dX1_init_4 rfl rfl ?_
  refine j0_bipush dX1_init_5 rfl ?_
  refine j0_newq (qn := 65) n0 (K := 16) rfl (by decide) (by decide) (by decide) (by decide) (by decide) (by decide) rfl (gdI (i := 274) (by decide +kernel) rfl) (fun _ h => h.2.2.2) rfl (inR_lit _ rfl) (by decide) dX1_init_7 ?_
  obtain ⟨A1, eA1⟩ : ∃ B : AH, B = nC A 16 (jal 16) := ⟨_, rfl⟩
  refine j0_hB eA1 ?_
  have n1 : hN A1 = 66 := by rw [eA1, hN_nC, n0] <;> rfl
  refine j0_putFR (K := 1) (k := 0) (by decide) (by decide) rfl (gdI (i := 277) (by decide +kernel) rfl) rfl rfl rfl rfl (fun _ => rfl) (fun _ => rfl) dX1_init_10 (by decide) (by rw [n1]; decide) (kdA_lt (by decide) rfl) (by decide) ?_
  obtain ⟨A2, eA2⟩ : ∃ B : AH, B = sP A1 (64) 0 (65) := ⟨_, rfl⟩
  refine j0_hB eA2 ?_
  have n2 : hN A2 = 66 := by rw [eA2, hN_sP, n1] <;> rfl
  have hP : gP A2 64 0 = 65 := (by rw [eA2, gP_sP_self])
  refine j0_iconst dX1_init_13 ?_
  refine j0_istore_n dX1_init_14 rfl (by decide) rfl rfl ?_
  refine tX1_l15 hl hd n2 hP ?_ 9 0 rfl
  have eF : hisL A2 9 = hisI A := by
    subst eA2 eA1
    rfl
  rw [eF]
  exact j0_vret dX1_init_40 rfl rfl trivial
