/-! the reference keeps its row in an array, and takes it back -/
def lenM (j : Nat) : Nat := [5, 12, 16, 16, 16, 16, 16, 16, 16, 16, 16, 6, 6, 6, 3, 3, 3, 2703, 5].getD j 0
def ofM (j : Nat) : Nat := [0, 5, 17, 33, 49, 65, 81, 97, 113, 129, 145, 161, 167, 173, 179, 182, 185, 188, 2891].getD j 2896
theorem of_len : ∀ j, j < 18 → ofM (j + 1) = ofM j + lenM j := by decide
theorem jal_len : ∀ j, j < 18 → jal (kd (350 + j)) = lenM j := by decide
theorem of_le : ∀ j, j < 19 → ofM j ≤ 2891 := by decide
/-- the row M stands in the array y from a place on -/
def ROW (A : AH) (y off : Nat) (M : MR) : Prop := ∀ j, j < 19 → ∀ i, i < lenM j → gI A y (off + ofM j + i) = M j i
/-- alike where a row is read -/
def MEQ (M M' : MR) : Prop := ∀ j, j < 19 → ∀ i, i < lenM j → M' j i = M j i
theorem X9_movesK {N y1 y2 : Nat} (h12 : y1 ≠ y2) (h1 : y1 ≠ 349) (h2 : y2 ≠ 349) : ∀ {k n x c : Nat} {A : AH}, x + k = jal (kd y1) → c + k ≤ jal (kd y2) → jal (kd y2) ≤ 100000 → jal (kd y1) ≤ 100000 → gI A 349 44 = 1 → gI A 349 42 = c → k < n →
    ∃ B, fX9_moves_2 N y1 y2 n A x = some B ∧ FQ (fun a j => (a = y2 ∧ c ≤ j ∧ j < c + k) ∨ a = 349 ∧ j = 42) A B ∧ gI B 349 42 = ((c + k : Nat) : Int) ∧ ∀ i, i < k → gI B y2 (c + i) = gI A y1 (x + i)
  | 0, n, x, c, A, hx, hc, hj, hx2, h44, h42, hn => by
    match n, hn with
    | n + 1, _ =>
      refine ⟨A, ?_, FQ.rf A, by rw [h42, Nat.add_zero], fun i hi => by omega⟩
      rw [fX9_moves_2, if_pos (by omega)]
  | k + 1, n, x, c, A, hx, hc, hj, hx2, h44, h42, hn => by
    have ea : Unit → wrap ((x : Int) + 1) = ((x + 1 : Nat) : Int) := fun _ => wrap_eq (by omega) (by omega)
    have ec : Unit → wrap ((c : Int) + 1) = ((c + 1 : Nat) : Int) := fun _ => wrap_eq (by omega) (by omega)
    match n, hn with
    | n + 1, hn =>
      obtain ⟨C, hC⟩ : ∃ C, C = sI (sI A y2 c (gI A y1 x)) 349 42 ((c + 1 : Nat) : Int) := ⟨_, rfl⟩
      have fC : FQ (fun a j => (a = y2 ∧ c ≤ j ∧ j < c + (k + 1)) ∨ a = 349 ∧ j = 42) A C := by
        rw [hC]
        exact ((FQ.rf A).set (by omega)).set (by omega)
      have cI : ∀ a j, ¬ (a = y2 ∧ j = c) → ¬ (a = 349 ∧ j = 42) → gI C a j = gI A a j := fun a j q1 q2 => by
        rw [hC, gI_sI, if_neg q2, gI_sI, if_neg q1]
      obtain ⟨B, b1, b2, b3, b4⟩ := X9_movesK (N := N) h12 h1 h2 (k := k) (n := n) (x := x + 1) (c := c + 1) (A := C) (by omega) (by omega) hj hx2 (by rw [cI _ _ (by omega) (by omega)]; exact h44) (by rw [hC, gI_sI, if_pos ⟨rfl, rfl⟩]) (Nat.lt_of_succ_lt_succ hn)
      refine ⟨B, ?_, fC.tr (b2.mono (fun a j q => by omega)), by rw [b3, show c + 1 + k = c + (k + 1) by omega], fun i hi => ?_⟩
      · rw [fX9_moves_2, if_neg (by omega), h44, if_neg (by decide), h42, chk_pos _ (by omega), chk_pos _ (by omega), bnd_eq, Int.toNat_natCast, Int.toNat_natCast]
        unfold fX9_moves_36
        simp only [bnd_eq]
        rw [gI_sI, if_neg (by omega), h42, ea (), ec (), ← hC]
        exact b1
      · by_cases e : i = 0
        · subst e
          rw [Nat.add_zero, Nat.add_zero, b2.2.2 _ _ (by omega), hC, gI_sI, if_neg (by omega), gI_sI, if_pos ⟨rfl, rfl⟩]
        · have := b4 (i - 1) (by omega)
          rw [show c + 1 + (i - 1) = c + i by omega, show x + 1 + (i - 1) = x + i by omega] at this
          rw [this, cI _ _ (by omega) (by omega)]
theorem X9_movesB {N y1 y2 : Nat} (h12 : y1 ≠ y2) (h1 : y1 ≠ 349) (h2 : y2 ≠ 349) : ∀ {k n x c : Nat} {A : AH}, x + k = jal (kd y1) → c + k ≤ jal (kd y2) → jal (kd y2) ≤ 100000 → jal (kd y1) ≤ 100000 → gI A 349 44 = 0 → gI A 349 42 = c → k < n →
    ∃ B, fX9_moves_2 N y1 y2 n A x = some B ∧ FQ (fun a j => (a = y1 ∧ x ≤ j ∧ j < x + k) ∨ a = 349 ∧ j = 42) A B ∧ gI B 349 42 = ((c + k : Nat) : Int) ∧ ∀ i, i < k → gI B y1 (x + i) = gI A y2 (c + i)
  | 0, n, x, c, A, hx, hc, hj, hx2, h44, h42, hn => by
    match n, hn with
    | n + 1, _ =>
      refine ⟨A, ?_, FQ.rf A, by rw [h42, Nat.add_zero], fun i hi => by omega⟩
      rw [fX9_moves_2, if_pos (by omega)]
  | k + 1, n, x, c, A, hx, hc, hj, hx2, h44, h42, hn => by
    have ea : Unit → wrap ((x : Int) + 1) = ((x + 1 : Nat) : Int) := fun _ => wrap_eq (by omega) (by omega)
    have ec : Unit → wrap ((c : Int) + 1) = ((c + 1 : Nat) : Int) := fun _ => wrap_eq (by omega) (by omega)
    match n, hn with
    | n + 1, hn =>
      obtain ⟨C, hC⟩ : ∃ C, C = sI (sI A y1 x (gI A y2 c)) 349 42 ((c + 1 : Nat) : Int) := ⟨_, rfl⟩
      have fC : FQ (fun a j => (a = y1 ∧ x ≤ j ∧ j < x + (k + 1)) ∨ a = 349 ∧ j = 42) A C := by
        rw [hC]
        exact ((FQ.rf A).set (by omega)).set (by omega)
      have cI : ∀ a j, ¬ (a = y1 ∧ j = x) → ¬ (a = 349 ∧ j = 42) → gI C a j = gI A a j := fun a j q1 q2 => by
        rw [hC, gI_sI, if_neg q2, gI_sI, if_neg q1]
      obtain ⟨B, b1, b2, b3, b4⟩ := X9_movesB (N := N) h12 h1 h2 (k := k) (n := n) (x := x + 1) (c := c + 1) (A := C) (by omega) (by omega) hj hx2 (by rw [cI _ _ (by omega) (by omega)]; exact h44) (by rw [hC, gI_sI, if_pos ⟨rfl, rfl⟩]) (Nat.lt_of_succ_lt_succ hn)
      refine ⟨B, ?_, fC.tr (b2.mono (fun a j q => by omega)), by rw [b3, show c + 1 + k = c + (k + 1) by omega], fun i hi => ?_⟩
      · rw [fX9_moves_2, if_neg (by omega), h44, if_pos rfl, h42, chk_pos _ (by omega), chk_pos _ (by omega), bnd_eq, Int.toNat_natCast, Int.toNat_natCast]
        unfold fX9_moves_36
        simp only [bnd_eq]
        rw [gI_sI, if_neg (by omega), h42, ea (), ec (), ← hC]
        exact b1
      · by_cases e : i = 0
        · subst e
          rw [Nat.add_zero, Nat.add_zero, b2.2.2 _ _ (by omega), hC, gI_sI, if_neg (by omega), gI_sI, if_pos ⟨rfl, rfl⟩]
        · have := b4 (i - 1) (by omega)
          rw [show c + 1 + (i - 1) = c + i by omega, show x + 1 + (i - 1) = x + i by omega] at this
          rw [this, cI _ _ (by omega) (by omega)]
/-- the first j arrays are kept -/
def KP (y off j : Nat) (A B : AH) : Prop := gI B 349 42 = ((off + ofM j : Nat) : Int) ∧ gI B 349 44 = 1 ∧ FQ (fun a k => (a = y ∧ off ≤ k ∧ k < off + ofM j) ∨ a = 349 ∧ (k = 42 ∨ k = 44)) A B ∧ ∀ t, t < j → ∀ i, i < lenM t → gI B y (off + ofM t + i) = gI A (350 + t) i
theorem of_mono : ∀ j, j < 19 → ∀ t, t < j → ofM t + lenM t ≤ ofM j := by decide
theorem of_tot : ∀ j, j < 19 → ofM j + lenM j ≤ 2896 := by decide
theorem len_le : ∀ j, j < 19 → lenM j ≤ 2703 := by decide
theorem KP.step {N y off j : Nat} {A B : AH} (hN : 3000 ≤ N) (hy : 371 ≤ y ∧ y ≤ 373) (ho : off + 2896 ≤ jal (kd y)) (hl : jal (kd y) ≤ 100000) (hj : j < 18) (h : KP y off j A B) : ∃ C, fX9_moves N B (350 + j) y = some C ∧ KP y off (j + 1) A C := by
  obtain ⟨k1, k2, k3, k4⟩ := h
  have l1 := of_len j hj
  have l2 := of_le (j + 1) (by omega)
  have l3 := len_le j (by omega)
  obtain ⟨C, c1, c2, c3, c4⟩ := X9_movesK (N := N) (y1 := 350 + j) (y2 := y) (by omega) (by omega) (by omega) (k := lenM j) (n := N) (x := 0) (c := off + ofM j) (A := B) (by rw [jal_len j hj, Nat.zero_add]) (by omega) hl (by rw [jal_len j hj]; omega) k2 k1 (by omega)
  refine ⟨C, c1, ?_, ?_, ?_, ?_⟩
  · rw [c3, l1, Nat.add_assoc]
  · rw [c2.2.2 349 44 (by omega)]; exact k2
  · exact (k3.mono (fun a k q => by omega)).tr (c2.mono (fun a k q => by omega))
  · intro t ht i hi
    by_cases e : t = j
    · subst e
      rw [c4 i hi, Nat.zero_add, k3.2.2 _ _ (by omega)]
    · have := of_mono j (by omega) t (by omega)
      rw [c2.2.2 _ _ (by omega)]
      exact k4 t (by omega) i hi
/-- then the first i numbers -/
def KQ (y off i : Nat) (A B : AH) : Prop := gI B 349 42 = ((off + 2891 + i : Nat) : Int) ∧ gI B 349 44 = 1 ∧ FQ (fun a k => (a = y ∧ off ≤ k ∧ k < off + 2891 + i) ∨ a = 349 ∧ (k = 42 ∨ k = 44)) A B ∧ (∀ t, t < 18 → ∀ i, i < lenM t → gI B y (off + ofM t + i) = gI A (350 + t) i) ∧ ∀ t, t < i → gI B y (off + 2891 + t) = gI A 349 (19 + t)
theorem sI_same {A : AH} {a k : Nat} : sI A a k (gI A a k) = A := AH_ext rfl (fun b j => by
  rw [gI_sI]
  split
  · rename_i h
    rw [h.1, h.2]
  · rfl) (fun _ _ => rfl) rfl
theorem KQ.step {N y off i : Nat} {A B : AH} (hy : 371 ≤ y ∧ y ≤ 373) (ho : off + 2896 ≤ jal (kd y)) (hl : jal (kd y) ≤ 100000) (hi : i < 5) (h : KQ y off i A B) : ∃ C, fX9_move N B (gI B 349 (19 + i)) y = some (gI B 349 (19 + i), C) ∧ KQ y off (i + 1) A (sI C 349 (19 + i) (gI B 349 (19 + i))) := by
  obtain ⟨k1, k2, k3, k4, k5⟩ := h
  obtain ⟨C, hC⟩ : ∃ C, C = sI (sI B y (off + 2891 + i) (gI B 349 (19 + i))) 349 42 ((off + 2891 + (i + 1) : Nat) : Int) := ⟨_, rfl⟩
  have e9 : gI B 349 (19 + i) = gI C 349 (19 + i) := by rw [hC, gI_sI, if_neg (by omega), gI_sI, if_neg (by omega)]
  refine ⟨C, ?_, ?_⟩
  · unfold fX9_move fX9_move_17
    simp only [bnd_eq]
    rw [k2, if_neg (by decide), k1, chk_pos _ (by omega), Int.toNat_natCast, gI_sI, if_neg (by omega), k1, wrap_eq (by omega) (by omega), hC]
    rfl
  · rw [e9, sI_same]
    refine ⟨?_, ?_, ?_, ?_, ?_⟩
    · rw [hC, gI_sI, if_pos ⟨rfl, rfl⟩]
    · rw [hC, gI_sI, if_neg (by omega), gI_sI, if_neg (by omega)]; exact k2
    · rw [hC]
      exact ((k3.mono (fun a k q => by omega)).set (by omega)).set (by omega)
    · intro t ht j hj
      have q := of_mono 18 (by omega) t ht
      rw [show ofM 18 = 2891 from rfl] at q
      rw [hC, gI_sI, if_neg (by omega), gI_sI, if_neg (by omega)]
      exact k4 t ht j hj
    · intro t ht
      by_cases e : t = i
      · subst e
        rw [hC, gI_sI, if_neg (by omega), gI_sI, if_pos ⟨rfl, rfl⟩, k3.2.2 _ _ (by omega)]
      · rw [hC, gI_sI, if_neg (by omega), gI_sI, if_neg (by omega)]
        exact k5 t (by omega)
theorem X9_keep {N y off : Nat} {A : AH} (hN : 3000 ≤ N) (hy : 371 ≤ y ∧ y ≤ 373) (ho : off + 2896 ≤ jal (kd y)) (hl : jal (kd y) ≤ 100000) : ∃ B, fX9_passAll N A y (off : Int) 1 = some B ∧ FQ (fun a k => (a = y ∧ off ≤ k ∧ k < off + 2896) ∨ a = 349 ∧ (k = 42 ∨ k = 44)) A B ∧ ROW B y off (mvA A) := by
  obtain ⟨A2, hA2⟩ : ∃ A2, A2 = sI (sI A 349 44 1) 349 42 (off : Int) := ⟨_, rfl⟩
  have h0 : KP y off 0 A A2 := by
    refine ⟨?_, ?_, ?_, fun t ht => by omega⟩
    · rw [hA2, gI_sI, if_pos ⟨rfl, rfl⟩]; rfl
    · rw [hA2, gI_sI, if_neg (by omega), gI_sI, if_pos ⟨rfl, rfl⟩]
    · rw [hA2]
      exact ((FQ.rf A).set (by omega)).set (by omega)
  obtain ⟨C1, e1, h1⟩ := h0.step hN hy ho hl (by decide)
  obtain ⟨C2, e2, h2⟩ := h1.step hN hy ho hl (by decide)
  obtain ⟨C3, e3, h3⟩ := h2.step hN hy ho hl (by decide)
  obtain ⟨C4, e4, h4⟩ := h3.step hN hy ho hl (by decide)
  obtain ⟨C5, e5, h5⟩ := h4.step hN hy ho hl (by decide)
  obtain ⟨C6, e6, h6⟩ := h5.step hN hy ho hl (by decide)
  obtain ⟨C7, e7, h7⟩ := h6.step hN hy ho hl (by decide)
  obtain ⟨C8, e8, h8⟩ := h7.step hN hy ho hl (by decide)
  obtain ⟨C9, e9, h9⟩ := h8.step hN hy ho hl (by decide)
  obtain ⟨C10, e10, h10⟩ := h9.step hN hy ho hl (by decide)
  obtain ⟨C11, e11, h11⟩ := h10.step hN hy ho hl (by decide)
  obtain ⟨C12, e12, h12⟩ := h11.step hN hy ho hl (by decide)
  obtain ⟨C13, e13, h13⟩ := h12.step hN hy ho hl (by decide)
  obtain ⟨C14, e14, h14⟩ := h13.step hN hy ho hl (by decide)
  obtain ⟨C15, e15, h15⟩ := h14.step hN hy ho hl (by decide)
  obtain ⟨C16, e16, h16⟩ := h15.step hN hy ho hl (by decide)
  obtain ⟨C17, e17, h17⟩ := h16.step hN hy ho hl (by decide)
  obtain ⟨C18, e18, h18⟩ := h17.step hN hy ho hl (by decide)
  have g0 : KQ y off 0 A C18 := ⟨h18.1, h18.2.1, h18.2.2.1, h18.2.2.2, fun t ht => by omega⟩
  obtain ⟨D1, f1, g1⟩ := g0.step (N := N) hy ho hl (by decide)
  obtain ⟨D2, f2, g2⟩ := g1.step (N := N) hy ho hl (by decide)
  obtain ⟨D3, f3, g3⟩ := g2.step (N := N) hy ho hl (by decide)
  obtain ⟨D4, f4, g4⟩ := g3.step (N := N) hy ho hl (by decide)
  obtain ⟨D5, f5, g5⟩ := g4.step (N := N) hy ho hl (by decide)
  refine ⟨_, ?_, g5.2.2.1, ?_⟩
  · unfold fX9_passAll
    rw [bnd_eq, bnd_eq, ← hA2, e1, obind_some, e2, obind_some, e3, obind_some, e4, obind_some, e5, obind_some, e6, obind_some, e7, obind_some, e8, obind_some, e9, obind_some, e10, obind_some, e11, obind_some, e12, obind_some, e13, obind_some, e14, obind_some, e15, obind_some, e16, obind_some, e17, obind_some, e18, obind_some]
    rw [show (19 : Nat) = 19 + 0 from rfl, f1, obind_some, bnd_eq, show (20 : Nat) = 19 + 1 from rfl, f2, obind_some, bnd_eq, show (21 : Nat) = 19 + 2 from rfl, f3, obind_some, bnd_eq, show (22 : Nat) = 19 + 3 from rfl, f4, obind_some, bnd_eq, show (23 : Nat) = 19 + 4 from rfl, f5, obind_some, bnd_eq]
  · intro j hj i hi
    by_cases e : j = 18
    · subst e
      have q := g5.2.2.2.2 i hi
      have e9 : mvA A 18 i = gI A 349 (19 + i) := by
        unfold mvA
        rw [if_neg (by omega), if_pos ⟨rfl, hi⟩]
      rw [e9]
      exact q
    · have q := g5.2.2.2.1 j (by omega) i hi
      rw [q]
      unfold mvA
      rw [if_pos (by omega)]
/-- the first j arrays are taken back -/
def KB (y off j : Nat) (A B : AH) : Prop := gI B 349 42 = ((off + ofM j : Nat) : Int) ∧ gI B 349 44 = 0 ∧ FQ (fun a k => (350 ≤ a ∧ a < 350 + j) ∨ a = 349 ∧ (k = 42 ∨ k = 44)) A B ∧ ∀ t, t < j → ∀ i, i < lenM t → gI B (350 + t) i = gI A y (off + ofM t + i)
theorem KB.step {N y off j : Nat} {A B : AH} (hN : 3000 ≤ N) (hy : 371 ≤ y ∧ y ≤ 373) (ho : off + 2896 ≤ jal (kd y)) (hl : jal (kd y) ≤ 100000) (hj : j < 18) (h : KB y off j A B) : ∃ C, fX9_moves N B (350 + j) y = some C ∧ KB y off (j + 1) A C := by
  obtain ⟨k1, k2, k3, k4⟩ := h
  have l1 := of_len j hj
  have l2 := of_le (j + 1) (by omega)
  have l3 := len_le j (by omega)
  obtain ⟨C, c1, c2, c3, c4⟩ := X9_movesB (N := N) (y1 := 350 + j) (y2 := y) (by omega) (by omega) (by omega) (k := lenM j) (n := N) (x := 0) (c := off + ofM j) (A := B) (by rw [jal_len j hj, Nat.zero_add]) (by omega) hl (by rw [jal_len j hj]; omega) k2 k1 (by omega)
  refine ⟨C, c1, ?_, ?_, ?_, ?_⟩
  · rw [c3, l1, Nat.add_assoc]
  · rw [c2.2.2 349 44 (by omega)]; exact k2
  · exact (k3.mono (fun a k q => by omega)).tr (c2.mono (fun a k q => by omega))
  · intro t ht i hi
    by_cases e : t = j
    · subst e
      have q := c4 i hi
      rw [Nat.zero_add] at q
      rw [q, k3.2.2 _ _ (by omega)]
    · rw [c2.2.2 _ _ (by omega)]
      exact k4 t (by omega) i hi
def KD (y off i : Nat) (A B : AH) : Prop := gI B 349 42 = ((off + 2891 + i : Nat) : Int) ∧ gI B 349 44 = 0 ∧ FQ (fun a k => (350 ≤ a ∧ a < 368) ∨ a = 349 ∧ ((19 ≤ k ∧ k < 19 + i) ∨ k = 42 ∨ k = 44)) A B ∧ (∀ t, t < 18 → ∀ i, i < lenM t → gI B (350 + t) i = gI A y (off + ofM t + i)) ∧ ∀ t, t < i → gI B 349 (19 + t) = gI A y (off + 2891 + t)
theorem KD.step {N y off i : Nat} {A B : AH} {v : Int} (hy : 371 ≤ y ∧ y ≤ 373) (ho : off + 2896 ≤ jal (kd y)) (hl : jal (kd y) ≤ 100000) (hi : i < 5) (h : KD y off i A B) : ∃ C, fX9_move N B v y = some (gI A y (off + 2891 + i), C) ∧ KD y off (i + 1) A (sI C 349 (19 + i) (gI A y (off + 2891 + i))) := by
  obtain ⟨k1, k2, k3, k4, k5⟩ := h
  obtain ⟨C, hC⟩ : ∃ C, C = sI B 349 42 ((off + 2891 + (i + 1) : Nat) : Int) := ⟨_, rfl⟩
  have e9 : gI B y (off + 2891 + i) = gI A y (off + 2891 + i) := k3.2.2 _ _ (by omega)
  refine ⟨C, ?_, ?_⟩
  · unfold fX9_move fX9_move_17
    simp only [bnd_eq]
    rw [k2, if_pos rfl, k1, chk_pos _ (by omega), chk_pos _ (by omega), Int.toNat_natCast, sI_same, k1, wrap_eq (by omega) (by omega), e9, hC]
    rfl
  · refine ⟨?_, ?_, ?_, ?_, ?_⟩
    · rw [gI_sI, if_neg (by omega), hC, gI_sI, if_pos ⟨rfl, rfl⟩]
    · rw [gI_sI, if_neg (by omega), hC, gI_sI, if_neg (by omega)]; exact k2
    · rw [hC]
      exact ((k3.mono (fun a k q => by omega)).set (by omega)).set (by omega)
    · intro t ht j hj
      rw [gI_sI, if_neg (by omega), hC, gI_sI, if_neg (by omega)]
      exact k4 t ht j hj
    · intro t ht
      by_cases e : t = i
      · subst e
        rw [gI_sI, if_pos ⟨rfl, rfl⟩]
      · rw [gI_sI, if_neg (by omega), hC, gI_sI, if_neg (by omega)]
        exact k5 t (by omega)
theorem X9_back {N y off : Nat} {A : AH} {M : MR} (hN : 3000 ≤ N) (hy : 371 ≤ y ∧ y ≤ 373) (ho : off + 2896 ≤ jal (kd y)) (hl : jal (kd y) ≤ 100000) (hR : ROW A y off M) : ∃ B, fX9_passAll N A y (off : Int) 0 = some B ∧ FQ (fun a k => (350 ≤ a ∧ a < 368) ∨ a = 349 ∧ ((19 ≤ k ∧ k < 24) ∨ k = 42 ∨ k = 44)) A B ∧ MEQ M (mvA B) := by
  obtain ⟨A2, hA2⟩ : ∃ A2, A2 = sI (sI A 349 44 0) 349 42 (off : Int) := ⟨_, rfl⟩
  have h0 : KB y off 0 A A2 := by
    refine ⟨?_, ?_, ?_, fun t ht => by omega⟩
    · rw [hA2, gI_sI, if_pos ⟨rfl, rfl⟩]; rfl
    · rw [hA2, gI_sI, if_neg (by omega), gI_sI, if_pos ⟨rfl, rfl⟩]
    · rw [hA2]
      exact ((FQ.rf A).set (by omega)).set (by omega)
  obtain ⟨C1, e1, h1⟩ := h0.step hN hy ho hl (by decide)
  obtain ⟨C2, e2, h2⟩ := h1.step hN hy ho hl (by decide)
  obtain ⟨C3, e3, h3⟩ := h2.step hN hy ho hl (by decide)
  obtain ⟨C4, e4, h4⟩ := h3.step hN hy ho hl (by decide)
  obtain ⟨C5, e5, h5⟩ := h4.step hN hy ho hl (by decide)
  obtain ⟨C6, e6, h6⟩ := h5.step hN hy ho hl (by decide)
  obtain ⟨C7, e7, h7⟩ := h6.step hN hy ho hl (by decide)
  obtain ⟨C8, e8, h8⟩ := h7.step hN hy ho hl (by decide)
  obtain ⟨C9, e9, h9⟩ := h8.step hN hy ho hl (by decide)
  obtain ⟨C10, e10, h10⟩ := h9.step hN hy ho hl (by decide)
  obtain ⟨C11, e11, h11⟩ := h10.step hN hy ho hl (by decide)
  obtain ⟨C12, e12, h12⟩ := h11.step hN hy ho hl (by decide)
  obtain ⟨C13, e13, h13⟩ := h12.step hN hy ho hl (by decide)
  obtain ⟨C14, e14, h14⟩ := h13.step hN hy ho hl (by decide)
  obtain ⟨C15, e15, h15⟩ := h14.step hN hy ho hl (by decide)
  obtain ⟨C16, e16, h16⟩ := h15.step hN hy ho hl (by decide)
  obtain ⟨C17, e17, h17⟩ := h16.step hN hy ho hl (by decide)
  obtain ⟨C18, e18, h18⟩ := h17.step hN hy ho hl (by decide)
  have g0 : KD y off 0 A C18 := ⟨h18.1, h18.2.1, h18.2.2.1.mono (fun a k q => by omega), h18.2.2.2, fun t ht => by omega⟩
  obtain ⟨D1, f1, g1⟩ := g0.step (N := N) (v := gI (C18) 349 19) hy ho hl (by decide)
  obtain ⟨D2, f2, g2⟩ := g1.step (N := N) (v := gI (sI D1 349 19 (gI A y (off + 2891 + 0))) 349 20) hy ho hl (by decide)
  obtain ⟨D3, f3, g3⟩ := g2.step (N := N) (v := gI (sI D2 349 20 (gI A y (off + 2891 + 1))) 349 21) hy ho hl (by decide)
  obtain ⟨D4, f4, g4⟩ := g3.step (N := N) (v := gI (sI D3 349 21 (gI A y (off + 2891 + 2))) 349 22) hy ho hl (by decide)
  obtain ⟨D5, f5, g5⟩ := g4.step (N := N) (v := gI (sI D4 349 22 (gI A y (off + 2891 + 3))) 349 23) hy ho hl (by decide)
  refine ⟨_, ?_, g5.2.2.1.mono (fun a k q => by omega), ?_⟩
  · unfold fX9_passAll
    rw [bnd_eq, bnd_eq, ← hA2, e1, obind_some, e2, obind_some, e3, obind_some, e4, obind_some, e5, obind_some, e6, obind_some, e7, obind_some, e8, obind_some, e9, obind_some, e10, obind_some, e11, obind_some, e12, obind_some, e13, obind_some, e14, obind_some, e15, obind_some, e16, obind_some, e17, obind_some, e18, obind_some]
    rw [f1, obind_some, bnd_eq, f2, obind_some, bnd_eq, f3, obind_some, bnd_eq, f4, obind_some, bnd_eq, f5, obind_some, bnd_eq]
  · intro j hj i hi
    by_cases e : j = 18
    · subst e
      have q := g5.2.2.2.2 i hi
      have r := hR 18 (by decide) i hi
      have e9 : ∀ B : AH, mvA B 18 i = gI B 349 (19 + i) := fun B => by
        unfold mvA
        rw [if_neg (by omega), if_pos ⟨rfl, hi⟩]
      rw [e9, ← r]
      exact q
    · have q := g5.2.2.2.1 j (by omega) i hi
      rw [← hR j hj i hi, ← q]
      unfold mvA
      rw [if_pos (by omega)]
