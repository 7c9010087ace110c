/-! how the functions are put together -/
def bnd {α β : Type} (x : α) (K : α → Option β) : Option β := K x
theorem bnd_elim {α β : Type} {x : α} {K : α → Option β} {o : β} (h : bnd x K = some o) : ∃ y, y = x ∧ K y = some o := ⟨x, rfl, h⟩
def chk {β : Type} (P : Prop) [Decidable P] (K : Option β) : Option β := if P then K else none
theorem chk_elim {β : Type} {P : Prop} [Decidable P] {K : Option β} {o : β} (h : chk P K = some o) : P ∧ K = some o := by
  unfold chk at h
  by_cases hP : P
  · rw [if_pos hP] at h
    exact ⟨hP, h⟩
  · rw [if_neg hP] at h
    cases h
def obind {α β : Type} (x : Option α) (K : α → Option β) : Option β := match x with
  | some y => K y
  | none => none
theorem obind_elim {α β : Type} {x : Option α} {K : α → Option β} {o : β} (h : obind x K = some o) : ∃ y, x = some y ∧ K y = some o := by
  cases x with
  | none => cases h
  | some y => exact ⟨y, rfl, h⟩
theorem chk_pos {β : Type} {P : Prop} [Decidable P] (K : Option β) (h : P) : chk P K = K := if_pos h
theorem obind_some {α β : Type} (y : α) (K : α → Option β) : obind (some y) K = K y := rfl
/-- an int's value in an outcome, if it returned -/
def jv (k : Nat) (x : Int) : Option Value := if k = 0 then some (vI x) else none
/-- addresses of a kind that never changes -/
def VK (K a : Nat) : Prop := 1 ≤ a ∧ a < 376 ∧ kd a = K
theorem VK.ka {K a : Nat} {A : AH} (v : VK K a) : kdA A a = K := by unfold kdA; rw [if_pos v.2.1]; exact v.2.2
theorem VK.lt {K a : Nat} {A : AH} (v : VK K a) : WFA A → a < hN A := fun w => Nat.lt_of_lt_of_le v.2.1 w.1
theorem VK_c (K a : Nat) (h : (decide (1 ≤ a) && decide (a < 376) && decide (kd a = K)) = true) : VK K a := by
  simp only [Bool.and_eq_true, decide_eq_true_eq] at h
  exact ⟨h.1.1, h.1.2, h.2⟩
def VQ (K a : Nat) : Prop := a = 0 ∨ VK K a
theorem VQ.nz {K a : Nat} (v : VQ K a) (h : ¬ a = 0) : VK K a := v.resolve_left h
theorem VK.ne {K a : Nat} (v : VK K a) : ¬ a = 0 := by have := v.1; omega
/-- an int array -/
def VI (a : Nat) : Prop := 1 ≤ a ∧ a < 376 ∧ 10 ≤ kd a ∧ kd a ≠ 99 ∧ jek (kd a) = 0
theorem VI.ka {a : Nat} {A : AH} (v : VI a) : kdA A a = kd a := by unfold kdA; rw [if_pos v.2.1]
theorem VI.lt {a : Nat} {A : AH} (v : VI a) : WFA A → a < hN A := fun w => Nat.lt_of_lt_of_le v.2.1 w.1
theorem VK.vi {K a : Nat} (v : VK K a) (h1 : 10 ≤ K) (h2 : K ≠ 99) (h3 : jek K = 0) : VI a := ⟨v.1, v.2.1, by rw [v.2.2]; exact h1, by rw [v.2.2]; exact h2, by rw [v.2.2]; exact h3⟩
theorem isLeg.ka {a : Nat} {A : AH} (v : isLeg A a) : kdA A a = 2 := by unfold kdA; rw [if_neg (by have := v.1; omega)]; exact v.2.2
theorem isLeg.lt {a : Nat} {A : AH} (v : isLeg A a) : WFA A → a < hN A := fun _ => v.2.1
theorem isLeg.pos {a : Nat} {A : AH} (v : isLeg A a) : 1 ≤ a := by have := v.1; omega
theorem isLeg.ne {a : Nat} {A : AH} (v : isLeg A a) : ¬ a = 0 := by have := v.1; omega
theorem LV.nz {a : Nat} {A : AH} (v : LV A a) (h : ¬ a = 0) : isLeg A a := v.resolve_left h
set_option maxRecDepth 100000 in
theorem kd_ros : ∀ r, r < 376 → kd r = 5 → r + 30 < 376 ∧ kd (r + 1) = 11 ∧ kd (r + 2) = 12 ∧ kd (r + 3) = 13 ∧ kd (r + 4) = 14 ∧ kd (r + 5) = 15 ∧ (∀ k, k < 16 → kd (r + 6 + k) = 3) ∧ (∀ k, k < 6 → kd (r + 22 + k) = 4) ∧ (∀ k, k < 3 → kd (r + 28 + k) = 0) := by decide +kernel
theorem VK.f1 {r : Nat} (v : VK 5 r) : VK 11 (r + 1) := ⟨by omega, by have := (kd_ros r v.2.1 v.2.2).1; omega, (kd_ros r v.2.1 v.2.2).2.1⟩
theorem VK.f2 {r : Nat} (v : VK 5 r) : VK 12 (r + 2) := ⟨by omega, by have := (kd_ros r v.2.1 v.2.2).1; omega, (kd_ros r v.2.1 v.2.2).2.2.1⟩
theorem VK.f3 {r : Nat} (v : VK 5 r) : VK 13 (r + 3) := ⟨by omega, by have := (kd_ros r v.2.1 v.2.2).1; omega, (kd_ros r v.2.1 v.2.2).2.2.2.1⟩
theorem VK.f4 {r : Nat} (v : VK 5 r) : VK 14 (r + 4) := ⟨by omega, by have := (kd_ros r v.2.1 v.2.2).1; omega, (kd_ros r v.2.1 v.2.2).2.2.2.2.1⟩
theorem VK.f5 {r : Nat} (v : VK 5 r) : VK 15 (r + 5) := ⟨by omega, by have := (kd_ros r v.2.1 v.2.2).1; omega, (kd_ros r v.2.1 v.2.2).2.2.2.2.2.1⟩
theorem VK.o {r : Nat} {z : Int} (v : VK 5 r) (h : 0 ≤ z ∧ z < 16) : VK 3 (r + 6 + z.toNat) := ⟨by omega, by have := (kd_ros r v.2.1 v.2.2).1; omega, (kd_ros r v.2.1 v.2.2).2.2.2.2.2.2.1 z.toNat (by omega)⟩
theorem VK.p {r : Nat} {z : Int} (v : VK 5 r) (h : 0 ≤ z ∧ z < 6) : VK 4 (r + 22 + z.toNat) := ⟨by omega, by have := (kd_ros r v.2.1 v.2.2).1; omega, (kd_ros r v.2.1 v.2.2).2.2.2.2.2.2.2.1 z.toNat (by omega)⟩
theorem VK.b {r : Nat} {z : Int} (v : VK 5 r) (h : 0 ≤ z ∧ z < 3) : VK 0 (r + 28 + z.toNat) := ⟨by omega, by have := (kd_ros r v.2.1 v.2.2).1; omega, (kd_ros r v.2.1 v.2.2).2.2.2.2.2.2.2.2 z.toNat (by omega)⟩
set_option maxRecDepth 100000 in
theorem kd_sl : ∀ k, k < 9 → kd (66 + 31 * k) = 5 := by decide +kernel
theorem VK_s {z : Int} (h : 0 ≤ z ∧ z < 9) : VK 5 (66 + 31 * z.toNat) := ⟨by omega, by omega, kd_sl z.toNat (by omega)⟩
theorem lay13 {r : Nat} {z : Int} (v : VK 5 r) (h : 0 ≤ z ∧ z < 16) : lay (r + 3) z.toNat = r + 6 + z.toNat := by
  unfold lay
  simp only [v.f3.2.2]
  simp [show z.toNat < 16 by omega]
  try omega
theorem lay14 {r : Nat} {z : Int} (v : VK 5 r) (h : 0 ≤ z ∧ z < 6) : lay (r + 4) z.toNat = r + 22 + z.toNat := by
  unfold lay
  simp only [v.f4.2.2]
  simp [show z.toNat < 6 by omega]
  try omega
theorem lay15 {r : Nat} {z : Int} (v : VK 5 r) (h : 0 ≤ z ∧ z < 3) : lay (r + 5) z.toNat = r + 28 + z.toNat := by
  unfold lay
  simp only [v.f5.2.2]
  simp [show z.toNat < 3 by omega]
  try omega
theorem lay16 {z : Int} (h : 0 ≤ z ∧ z < 9) : lay 65 z.toNat = 66 + 31 * z.toNat := by
  have e : kd 65 = 16 := rfl
  unfold lay
  simp only [e]
  simp [show z.toNat < 9 by omega]
theorem lay5 {r k : Nat} (v : VK 5 r) (h : k < 5) : lay r k = r + 1 + k := by
  unfold lay
  simp only [v.2.2]
  simp [h]
theorem bool_inR {x : Int} (h : x = 0 ∨ x = 1) : inR x := by rcases h with rfl | rfl <;> exact inR_lit _ rfl
theorem char_inR {x : Int} (h : 0 ≤ x ∧ x < 65536) : inR x := ⟨by omega, by omega⟩
def iUshr (x y : Int) : Int := ((Int32.ofInt x).toUInt32 >>> ((Int32.ofInt y).toUInt32 &&& Int32.toUInt32 31)).toInt32.toInt
theorem iUshr_inR (x y : Int) : inR (iUshr x y) := i32_inR _
/-- what a static array holds -/
def stA (k : Nat) (z : Int) : Int := ((jST k).2.2.getD z.toNat 0).toInt
theorem stA_eq (k : Nat) (z : Int) : (jST k).2.2.getD z.toNat 0 = Int32.ofInt (stA k z) := (i32_of _).symm
theorem stA_inR (k : Nat) (z : Int) : inR (stA k z) := i32_inR _
theorem jal_inR (K : Nat) : inR (jal K : Int) := by
  have h : jal K ≤ 23168 := by
    unfold jal
    split
    · rw [List.getD_eq_getElem?_getD]
      rcases h : ([5, 12, 16, 6, 3, 9, 60, 16] : List Nat)[K - 11]? with _ | x
      · simp
      · have hm := List.mem_of_getElem? h
        have ha : ∀ y ∈ ([5, 12, 16, 6, 3, 9, 60, 16] : List Nat), y ≤ 23168 := by decide
        exact ha x hm
    · split
      · rw [List.getD_eq_getElem?_getD]
        rcases h : ([5, 12, 16, 16, 16, 16, 16, 16, 16, 16, 16, 6, 6, 6, 3, 3, 3, 2703, 60, 30, 120, 23168, 2896, 2896] : List Nat)[K - 20]? with _ | x
        · simp
        · have hm := List.mem_of_getElem? h
          have ha : ∀ y ∈ ([5, 12, 16, 16, 16, 16, 16, 16, 16, 16, 16, 6, 6, 6, 3, 3, 3, 2703, 60, 30, 120, 23168, 2896, 2896] : List Nat), y ≤ 23168 := by decide
          exact ha x hm
      · decide
  unfold inR
  omega
theorem max_inR {x y : Int} (hx : inR x) (hy : inR y) : inR (max x y) := by unfold inR at *; omega
theorem min_inR {x y : Int} (hx : inR x) (hy : inR y) : inR (min x y) := by unfold inR at *; omega
section JH6
variable {g : JG} {l : Launch} {d : Nat} {own mn : String} {cc : ByteArray} {nL : Nat} {ret : Option FieldType} {n0 s0 : Nat} {o : JO} {Z : Prop} {pc : Nat} {lv : List (Nat × Value)} {st : List Value} {A : AH}
theorem j_nm {x y : Int} (h : y = x) (K : J g l d own mn cc nL ret n0 s0 o Z pc lv (vI y :: st) A) : J g l d own mn cc nL ret n0 s0 o Z pc lv (vI x :: st) A := h ▸ K
theorem j_hB {B C : AH} (h : B = C) (K : J g l d own mn cc nL ret n0 s0 o Z pc lv st B) : J g l d own mn cc nL ret n0 s0 o Z pc lv st C := h ▸ K
theorem j_unrv {q : Nat} (h : ¬ q = 0) (K : J g l d own mn cc nL ret n0 s0 o Z pc lv (.ref (gB g + q) :: st) A) : J g l d own mn cc nL ret n0 s0 o Z pc lv (rv g q :: st) A := by rw [rv_ne h]; exact K
theorem j_rv {q : Nat} (h : ¬ q = 0) (K : J g l d own mn cc nL ret n0 s0 o Z pc lv (rv g q :: st) A) : J g l d own mn cc nL ret n0 s0 o Z pc lv (.ref (gB g + q) :: st) A := by rw [rv_ne h] at K; exact K
theorem j_iincN {i k : Nat} {n x v : Int} {lv' : List (Nat × Value)} (hv : v = wrap (x + n)) (hd : decode cc pc = .ok (.iinc i n, 3)) (hk : lv[k]? = some (i, vI x)) (hn : i < nL) (hc : lv.all (fun q => q.2.category == 1) = true) (hl : (i, vI v) :: lv.filter (fun q => !(q.1 == i)) = lv')
    (K : J g l d own mn cc nL ret n0 s0 o Z (pc + 3) lv' st A) : J g l d own mn cc nL ret n0 s0 o Z pc lv st A := by
  subst hv
  exact j_iinc hd hk hn hc hl K
theorem j_iushr {x y : Int} (hd : decode cc pc = .ok (.iushr, 1)) (K : J g l d own mn cc nL ret n0 s0 o Z (pc + 1) lv (vI (iUshr x y) :: st) A) : J g l d own mn cc nL ret n0 s0 o Z pc lv (vI y :: vI x :: st) A :=
  J.lift (fun E _ _ _ _ _ _ _ h k => lv_iushr E.1 E.2.1 hd rfl (by have := k _ h; rw [vI, iUshr, i32_of] at this; exact this)) K
theorem j_ldcw {idx : Nat} {v : Int} (hc : Cond.constant own idx (Int32.ofInt v) ∈ lw_gd) (hd : decode cc pc = .ok (.ldc_w idx, 3)) (K : J g l d own mn cc nL ret n0 s0 o Z (pc + 3) lv (vI v :: st) A) : J g l d own mn cc nL ret n0 s0 o Z pc lv st A :=
  J.lift (fun E _ _ _ _ _ _ _ h k => lv_ldcw E.1 E.2.1 E.2.2.2.1 (E.2.2.2.2.1 _ hc) hd (k _ h)) K
theorem j_i2d {x : Int} (hd : decode cc pc = .ok (.i2d, 1)) (K : J g l d own mn cc nL ret n0 s0 o Z (pc + 1) lv (.double (FP.i2d (Int32.ofInt x)) :: st) A) : J g l d own mn cc nL ret n0 s0 o Z pc lv (vI x :: st) A :=
  J.lift (fun E _ _ _ _ _ _ _ h k => lv_i2d E.1 E.2.1 hd (k _ h)) K
theorem j_ddiv {x y : UInt64} (hne : (FP.ddiv x y) &&& 0x7fffffffffffffff ≤ 0x7ff0000000000000) (hd : decode cc pc = .ok (.ddiv, 1)) (K : J g l d own mn cc nL ret n0 s0 o Z (pc + 1) lv (.double (FP.ddiv x y) :: st) A) : J g l d own mn cc nL ret n0 s0 o Z pc lv (.double y :: .double x :: st) A :=
  J.lift (fun E _ _ _ _ _ _ _ h k => lv_ddiv E.1 E.2.1 hd hne (k _ h)) K
theorem j_i2f {x : Int} (hd : decode cc pc = .ok (.i2f, 1)) (K : J g l d own mn cc nL ret n0 s0 o Z (pc + 1) lv (.float (FP.i2f (Int32.ofInt x)) :: st) A) : J g l d own mn cc nL ret n0 s0 o Z pc lv (vI x :: st) A :=
  J.lift (fun E _ _ _ _ _ _ _ h k => lv_i2f E.1 E.2.1 hd (k _ h)) K
theorem j_fdiv {x y : UInt32} (hne : (FP.fdiv x y) &&& 0x7fffffff ≤ 0x7f800000) (hd : decode cc pc = .ok (.fdiv, 1)) (K : J g l d own mn cc nL ret n0 s0 o Z (pc + 1) lv (.float (FP.fdiv x y) :: st) A) : J g l d own mn cc nL ret n0 s0 o Z pc lv (.float y :: .float x :: st) A :=
  J.lift (fun E _ _ _ _ _ _ _ h k => lv_fdiv E.1 E.2.1 hd hne (k _ h)) K
theorem j_fconst0 (hd : decode cc pc = .ok (.fconst 0, 1)) (K : J g l d own mn cc nL ret n0 s0 o Z (pc + 1) lv (.float FP.fconst0 :: st) A) : J g l d own mn cc nL ret n0 s0 o Z pc lv st A :=
  J.lift (fun E _ _ _ _ _ _ _ h k => lv_fconst0 E.1 E.2.1 hd (k _ h)) K
theorem j_dconst0 (hd : decode cc pc = .ok (.dconst 0, 1)) (K : J g l d own mn cc nL ret n0 s0 o Z (pc + 1) lv (.double FP.dconst0 :: st) A) : J g l d own mn cc nL ret n0 s0 o Z pc lv st A :=
  J.lift (fun E _ _ _ _ _ _ _ h k => lv_dconst0 E.1 E.2.1 hd (k _ h)) K
end JH6
