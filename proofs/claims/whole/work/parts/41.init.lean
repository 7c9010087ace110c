/-! the heap as the constructors leave it -/
theorem WF0_cpS {A : AH} (w : WF0 A) {F : Nat → Int} (hF : ∀ j, inR (F j)) (a n : Nat) : WF0 (cpS A F a n) := fun q j => by
  rw [gI_cpS]
  split
  · exact hF j
  · exact w q j
theorem WF0_eltL {K n o r : Nat} {F : AH → Nat → AH} (hF : ∀ A q, WF0 A → WF0 (F A q)) {A : AH} (w : WF0 A) (a : Nat) : ∀ i, WF0 (eltL K n o r F A a i)
  | 0 => w
  | i + 1 => WF0_sP (hF _ _ (WF0_nC (WF0_eltL hF w a i) K n)) (a + r) i (a + o + i)
theorem WF0_ordI (A : AH) (q : Nat) (w : WF0 A) : WF0 (ordI A q) := WF0_sI (WF0_sI (WF0_sI w q 6 (inR_lit _ rfl)) q 7 (inR_lit _ rfl)) q 8 (inR_lit _ rfl)
theorem WF0_ros0 {A : AH} (w : WF0 A) (a : Nat) : WF0 (ros0 A a) := by
  unfold ros0
  refine WF0_cpS (WF0_cpS ?_ (fun _ => i32_inR _) _ _) (fun _ => i32_inR _) _ _
  exact WF0_sP (WF0_nC (WF0_sP (WF0_nC (WF0_sP (WF0_nC (WF0_sP (WF0_nC (WF0_sP (WF0_nC w _ _) _ _ _) _ _) _ _ _) _ _) _ _ _) _ _) _ _ _) _ _) _ _ _
theorem WF0_rosI {A : AH} (w : WF0 A) (a : Nat) : WF0 (rosI A a) :=
  WF0_eltL (fun _ _ h => h) (WF0_eltL (fun _ _ h => h) (WF0_eltL WF0_ordI (WF0_ros0 w a) a 16) a 6) a 3
theorem WF0_hisL {A : AH} (w : WF0 A) : ∀ i, WF0 (hisL A i)
  | 0 => w
  | i + 1 => WF0_sP (WF0_rosI (WF0_nC (WF0_hisL w i) 5 9) _) 65 i _
theorem WF0_hisI {A : AH} (w : WF0 A) : WF0 (hisI A) := WF0_hisL (WF0_sP (WF0_nC w _ _) 64 0 65) 9
theorem WF0_txtI {A : AH} (w : WF0 A) : WF0 (txtI A) := WF0_sP (WF0_nC w _ _) _ _ _
theorem WF0_proI {A : AH} (w : WF0 A) : WF0 (proI A) := by
  unfold proI
  repeat (first | with_reducible exact w | with_reducible refine WF0_sI ?_ _ _ ?_ | with_reducible refine WF0_sP ?_ _ _ _ | with_reducible refine WF0_nC ?_ _ _ | with_reducible refine WF0_txtI ?_ | with_reducible refine WF0_hisI ?_ | with_reducible refine WF0_rosI ?_ _ | exact inR_lit _ rfl)
theorem WF0_modI {A : AH} (w : WF0 A) : WF0 (modI A) := by
  unfold modI
  repeat (first | with_reducible exact w | with_reducible refine WF0_sI ?_ _ _ ?_ | with_reducible refine WF0_sP ?_ _ _ _ | with_reducible refine WF0_nC ?_ _ _ | exact inR_lit _ rfl)
theorem WF0_lawI {A : AH} (w : WF0 A) : WF0 (lawI A) := WF0_nC (WF0_nC (WF0_modI (WF0_nC (WF0_proI (WF0_nC w _ _)) _ _)) _ _) _ _
/-- no reference at the first place of a cell behind the layout -/
def PZ (A : AH) : Prop := ∀ a, 376 ≤ a → gP A a 0 = 0
theorem PZ_sI {A : AH} (w : PZ A) (a k : Nat) (v : Int) : PZ (sI A a k v) := w
theorem PZ_cpS {A : AH} (w : PZ A) (F : Nat → Int) (a n : Nat) : PZ (cpS A F a n) := w
theorem PZ_nC {A : AH} (w : PZ A) (K n : Nat) : PZ (nC A K n) := fun a h => by
  rw [gP_nC]
  split
  · rfl
  · exact w a h
theorem PZ_sP {A : AH} (w : PZ A) {a : Nat} (k q : Nat) (ha : a < 376) : PZ (sP A a k q) := fun b h => by
  rw [gP_sP, if_neg (fun z => by omega)]
  exact w b h
theorem PZ_eltL {K n o r : Nat} {F : AH → Nat → AH} (hF : ∀ A q, PZ A → PZ (F A q)) {A : AH} (w : PZ A) {a : Nat} (h : a + r < 376) : ∀ i, PZ (eltL K n o r F A a i)
  | 0 => w
  | i + 1 => PZ_sP (hF _ _ (PZ_nC (PZ_eltL hF w h i) K n)) i (a + o + i) h
theorem PZ_ros0 {A : AH} (w : PZ A) {a : Nat} (h : a + 5 < 376) : PZ (ros0 A a) := by
  unfold ros0
  refine PZ_cpS (PZ_cpS ?_ _ _ _) _ _ _
  exact PZ_sP (PZ_nC (PZ_sP (PZ_nC (PZ_sP (PZ_nC (PZ_sP (PZ_nC (PZ_sP (PZ_nC w _ _) _ _ (by omega)) _ _) _ _ (by omega)) _ _) _ _ (by omega)) _ _) _ _ (by omega)) _ _) _ _ (by omega)
theorem PZ_idF (A : AH) (q : Nat) (w : PZ A) : PZ (idF A q) := w
theorem PZ_ordI (A : AH) (q : Nat) (w : PZ A) : PZ (ordI A q) := PZ_sI (PZ_sI (PZ_sI w q 6 (-1)) q 7 (-1)) q 8 (-1)
theorem PZ_rosI {A : AH} (w : PZ A) {a : Nat} (h : a + 5 < 376) : PZ (rosI A a) := by
  have h3 : a + 3 < 376 := by omega
  have h4 : a + 4 < 376 := by omega
  unfold rosI
  exact PZ_eltL (F := idF) PZ_idF (PZ_eltL (F := idF) PZ_idF (PZ_eltL (F := ordI) PZ_ordI (PZ_ros0 w h) h3 16) h4 6) h 3
theorem PZ_hisL {A : AH} (w : PZ A) : ∀ i, i ≤ 9 → PZ (hisL A i)
  | 0, _ => w
  | i + 1, h => PZ_sP (PZ_rosI (PZ_nC (PZ_hisL w i (by omega)) 5 9) (by omega)) i _ (by decide)
theorem PZ_hisI {A : AH} (w : PZ A) : PZ (hisI A) := PZ_hisL (PZ_sP (PZ_nC w _ _) 0 65 (by decide)) 9 (by decide)
theorem PZ_txtI {A : AH} (w : PZ A) : PZ (txtI A) := PZ_sP (PZ_nC w _ _) _ _ (by decide)
theorem PZ_proI {A : AH} (w : PZ A) : PZ (proI A) := by
  unfold proI
  repeat (first | with_reducible exact w | with_reducible refine PZ_sI ?_ _ _ _ | with_reducible refine PZ_sP ?_ _ _ ?_ | with_reducible refine PZ_nC ?_ _ _ | with_reducible refine PZ_txtI ?_ | with_reducible refine PZ_hisI ?_ | with_reducible refine PZ_rosI ?_ ?_ | decide)
theorem PZ_modI {A : AH} (w : PZ A) : PZ (modI A) := by
  unfold modI
  repeat (first | with_reducible exact w | with_reducible refine PZ_sI ?_ _ _ _ | with_reducible refine PZ_sP ?_ _ _ ?_ | with_reducible refine PZ_nC ?_ _ _ | decide)
theorem PZ_lawI {A : AH} (w : PZ A) : PZ (lawI A) := PZ_nC (PZ_nC (PZ_modI (PZ_nC (PZ_proI (PZ_nC w _ _)) _ _)) _ _) _ _
/-- before the law has made anything; and behind its constructors -/
def zA : AH := ((1, 0), (fun _ _ => 0), (fun _ _ => 0), (fun _ => 0), 0)
def zL : AH := lawI zA
theorem WF0_zA : WF0 zA := fun _ _ => inR_0
theorem hN_zL : hN zL = 376 := hN_lawI zA
theorem lay_big (a m : Nat) : lay a (m + 41) = 0 := by
  have e1 : ¬ (m + 41 = 0) := by omega
  have e2 : ¬ (m + 41 < 5) := by omega
  have e3 : ¬ (1 ≤ m + 41 ∧ m + 41 ≤ 18) := by omega
  have e4 : ¬ (31 ≤ m + 41 ∧ m + 41 ≤ 33) := by omega
  have e5 : ¬ (38 ≤ m + 41 ∧ m + 41 ≤ 40) := by omega
  have e6 : ¬ (m + 41 < 16) := by omega
  have e7 : ¬ (m + 41 < 6) := by omega
  have e8 : ¬ (m + 41 < 3) := by omega
  have e9 : ¬ (m + 41 < 9) := by omega
  have e0 : ([2, 33, 64, 345, 347, 348] : List Nat).getD (m + 41) 0 = 0 := rfl
  have q1 : (if m + 41 = 0 then 65 else 0) = 0 := if_neg e1
  have q2 : (if m + 41 < 5 then a + 1 + (m + 41) else 0) = 0 := if_neg e2
  have q3 : (if m + 41 = 0 then 346 else 0) = 0 := if_neg e1
  have q4 : (if 1 ≤ m + 41 ∧ m + 41 ≤ 18 then 349 + (m + 41) else if 31 ≤ m + 41 ∧ m + 41 ≤ 33 then 337 + (m + 41) else if 38 ≤ m + 41 ∧ m + 41 ≤ 40 then 333 + (m + 41) else 0) = 0 := (if_neg e3).trans ((if_neg e4).trans (if_neg e5))
  have q5 : (if m + 41 < 16 then a + 3 + (m + 41) else 0) = 0 := if_neg e6
  have q6 : (if m + 41 < 6 then a + 18 + (m + 41) else 0) = 0 := if_neg e7
  have q7 : (if m + 41 < 3 then a + 23 + (m + 41) else 0) = 0 := if_neg e8
  have q8 : (if m + 41 < 9 then 66 + 31 * (m + 41) else 0) = 0 := if_neg e9
  show (if kd a = 8 then ([2, 33, 64, 345, 347, 348] : List Nat).getD (m + 41) 0 else if kd a = 1 then (if m + 41 = 0 then 65 else 0) else if kd a = 5 then (if m + 41 < 5 then a + 1 + (m + 41) else 0) else if kd a = 6 then (if m + 41 = 0 then 346 else 0) else if kd a = 9 then (if 1 ≤ m + 41 ∧ m + 41 ≤ 18 then 349 + (m + 41) else if 31 ≤ m + 41 ∧ m + 41 ≤ 33 then 337 + (m + 41) else if 38 ≤ m + 41 ∧ m + 41 ≤ 40 then 333 + (m + 41) else 0) else if kd a = 13 then (if m + 41 < 16 then a + 3 + (m + 41) else 0) else if kd a = 14 then (if m + 41 < 6 then a + 18 + (m + 41) else 0) else if kd a = 15 then (if m + 41 < 3 then a + 23 + (m + 41) else 0) else if kd a = 16 then (if m + 41 < 9 then 66 + 31 * (m + 41) else 0) else 0) = 0
  rw [q1, q2, q3, q4, q5, q6, q7, q8, e0]
  generalize kd a = K
  by_cases c1 : K = 8
  · rw [if_pos c1]
  rw [if_neg c1]
  by_cases c2 : K = 1
  · rw [if_pos c2]
  rw [if_neg c2]
  by_cases c3 : K = 5
  · rw [if_pos c3]
  rw [if_neg c3]
  by_cases c4 : K = 6
  · rw [if_pos c4]
  rw [if_neg c4]
  by_cases c5 : K = 9
  · rw [if_pos c5]
  rw [if_neg c5]
  by_cases c6 : K = 13
  · rw [if_pos c6]
  rw [if_neg c6]
  by_cases c7 : K = 14
  · rw [if_pos c7]
  rw [if_neg c7]
  by_cases c8 : K = 15
  · rw [if_pos c8]
  rw [if_neg c8]
  by_cases c9 : K = 16
  · rw [if_pos c9]
  rw [if_neg c9]
set_option maxRecDepth 100000 in
theorem zlay_0 : ((List.range 64).all fun a => (List.range 41).all fun k => lay a k == 0 || gP zL a k == lay a k) = true := by decide +kernel
set_option maxRecDepth 100000 in
theorem zlay_1 : ((List.range 93).all fun a => (List.range 41).all fun k => lay (64 + a) k == 0 || gP zL (64 + a) k == lay (64 + a) k) = true := by decide +kernel
set_option maxRecDepth 100000 in
theorem zlay_2 : ((List.range 93).all fun a => (List.range 41).all fun k => lay (157 + a) k == 0 || gP zL (157 + a) k == lay (157 + a) k) = true := by decide +kernel
set_option maxRecDepth 100000 in
theorem zlay_3 : ((List.range 126).all fun a => (List.range 41).all fun k => lay (250 + a) k == 0 || gP zL (250 + a) k == lay (250 + a) k) = true := by decide +kernel
set_option maxRecDepth 100000 in
theorem zleg_ok : ((List.range 376).all fun a => kd a != 4 || gP zL a 2 == 0) = true := by decide +kernel
theorem LAY_zL : LAY zL := fun a k ha hl => by
  have key : (lay a k == 0 || gP zL a k == lay a k) = true := by
    by_cases hk : k < 41
    · by_cases h0 : a < 64
      · have q1 : ((List.range 41).all fun k => lay a k == 0 || gP zL a k == lay a k) = true := List.all_eq_true.mp zlay_0 a (List.mem_range.mpr h0)
        exact List.all_eq_true.mp q1 k (List.mem_range.mpr hk)
      · by_cases h1 : a < 157
        · have q1 : ((List.range 41).all fun k => lay (64 + (a - 64)) k == 0 || gP zL (64 + (a - 64)) k == lay (64 + (a - 64)) k) = true := List.all_eq_true.mp zlay_1 (a - 64) (List.mem_range.mpr (by omega))
          rw [show 64 + (a - 64) = a by omega] at q1
          exact List.all_eq_true.mp q1 k (List.mem_range.mpr hk)
        · by_cases h2 : a < 250
          · have q1 : ((List.range 41).all fun k => lay (157 + (a - 157)) k == 0 || gP zL (157 + (a - 157)) k == lay (157 + (a - 157)) k) = true := List.all_eq_true.mp zlay_2 (a - 157) (List.mem_range.mpr (by omega))
            rw [show 157 + (a - 157) = a by omega] at q1
            exact List.all_eq_true.mp q1 k (List.mem_range.mpr hk)
          · have q1 : ((List.range 41).all fun k => lay (250 + (a - 250)) k == 0 || gP zL (250 + (a - 250)) k == lay (250 + (a - 250)) k) = true := List.all_eq_true.mp zlay_3 (a - 250) (List.mem_range.mpr (by omega))
            rw [show 250 + (a - 250) = a by omega] at q1
            exact List.all_eq_true.mp q1 k (List.mem_range.mpr hk)
    · obtain ⟨m, rfl⟩ : ∃ m, k = m + 41 := ⟨k - 41, by omega⟩
      exact absurd (lay_big a m) hl
  have hn : (lay a k == 0) = false := beq_eq_false_iff_ne.mpr hl
  rw [hn, Bool.false_or] at key
  exact beq_iff_eq.mp key
theorem WFA_zL : WFA zL := by
  refine ⟨Nat.le_of_eq hN_zL.symm, LAY_zL, WF0_lawI WF0_zA, fun a k h => Or.inl ?_⟩
  rcases h with ⟨h1, rfl, h3⟩ | ⟨h1, rfl⟩
  · have key : (kd a != 4 || gP zL a 2 == 0) = true := List.all_eq_true.mp zleg_ok a (List.mem_range.mpr h3)
    have hn : (kd a != 4) = false := by rw [h1]; rfl
    rw [hn, Bool.false_or] at key
    exact beq_iff_eq.mp key
  · exact PZ_lawI (A := zA) (fun _ _ => rfl) a h1
