/-! rosters are copied; the ring of kept states -/
theorem X3_copy {N : Nat} {A : AH} {y z : Nat} (h : z ≠ y) : ∃ B, fX3_copyFrom N A y z = some B ∧ FQ (fun a _ => a = y) A B ∧ ∀ k, k < 10 → gI B y k = gI A z k := by
  unfold fX3_copyFrom
  simp only [bnd_eq]
  refine ⟨_, rfl, FQ.setc (FQ.setc (FQ.setc (FQ.setc (FQ.setc (FQ.setc (FQ.setc (FQ.setc (FQ.setc (FQ.setc (FQ.rf A)))))))))), fun k hk => ?_⟩
  have e : k = 0 ∨ k = 1 ∨ k = 2 ∨ k = 3 ∨ k = 4 ∨ k = 5 ∨ k = 6 ∨ k = 7 ∨ k = 8 ∨ k = 9 := by omega
  rcases e with e | e | e | e | e | e | e | e | e | e <;> subst e <;> simp [gI_sI, h]
theorem X0_copy {N : Nat} {A : AH} {y z : Nat} (h : z ≠ y) : ∃ B, fX0_copyFrom N A y z = some B ∧ FQ (fun a _ => a = y) A B ∧ ∀ k, k < 5 → gI B y k = gI A z k := by
  unfold fX0_copyFrom
  simp only [bnd_eq]
  refine ⟨_, rfl, FQ.setc (FQ.setc (FQ.setc (FQ.setc (FQ.setc (FQ.rf A))))), fun k hk => ?_⟩
  have e : k = 0 ∨ k = 1 ∨ k = 2 ∨ k = 3 ∨ k = 4 := by omega
  rcases e with e | e | e | e | e <;> subst e <;> simp [gI_sI, h]
theorem FX_sP (A : AH) {a k q : Nat} {S : Nat → Prop} (ha : a < 376) (hS : S a) : FX 0 S A (sP A a k q) := by
  refine ⟨⟨Nat.le_refl _, fun b h1 h2 => ⟨rfl, fun j => rfl, fun j => ?_⟩⟩, ⟨Nat.le_refl _, Nat.le_refl _, Nat.le_refl _⟩, rfl, fun b h1 h2 j => ⟨rfl, ?_⟩⟩
  · rw [gP_sP, if_neg (by omega)]
  · rw [gP_sP, if_neg]
    rintro ⟨rfl, -⟩
    exact h2 hS
theorem X4_copy {N : Nat} {A : AH} {y z : Nat} (h : z ≠ y) (hy : y < 376) : ∃ B, fX4_copyFrom N A y z = some B ∧ FX 0 (fun a => a = y) A B ∧ gI B y 0 = gI A z 0 ∧ gI B y 1 = gI A z 1 ∧ gP B y 2 = gP A z 2 := by
  unfold fX4_copyFrom
  simp only [bnd_eq]
  refine ⟨_, rfl, ((FX_sI A (S := fun a => a = y) hy rfl).tr (FX_sI _ hy rfl)).tr (FX_sP _ hy rfl), ?_, ?_, ?_⟩
  · simp [gI_sP, gI_sI]
  · simp [gI_sP, gI_sI, h]
  · rw [gP_sP, if_pos ⟨rfl, rfl⟩]
    rfl
/-- within the roster at y, its orders, pilots, boats from the place a on -/
def rgn (y lo hi : Nat) : Nat → Prop := fun c => y + lo ≤ c ∧ c ≤ y + hi
theorem X5_copy125 {N y z : Nat} (hy : y + 31 ≤ 376) (hd : y + 30 < z ∨ z + 30 < y) : ∀ {k n a : Nat} {A : AH}, gI A y 8 = ((a + k : Nat) : Int) → a + k ≤ 3 → k < n → ∃ B, fX5_copyFrom_125 N y z n A a = some B ∧ FX 0 (rgn y 28 30) A B ∧ (∀ c, c < y + 28 + a → ∀ j, gI B c j = gI A c j) ∧ ∀ b, a ≤ b → b < a + k → ∀ j, j < 5 → gI B (y + 28 + b) j = gI A (z + 28 + b) j
  | 0, n, a, A, h, h3, hn => by
    match n, hn with
    | n + 1, _ =>
      refine ⟨A, ?_, FX.rf A, fun _ _ _ => rfl, fun b h1 h2 => by omega⟩
      rw [fX5_copyFrom_125, h, if_pos (by omega)]
  | k + 1, n, a, A, h, h3, hn => by
    have ea : Unit → wrap ((a : Int) + 1) = ((a + 1 : Nat) : Int) := fun _ => wrap_eq (by omega) (by omega)
    match n, hn with
    | n + 1, hn =>
      obtain ⟨C, c1, c2, c3⟩ := X0_copy (N := N) (A := A) (y := y + 28 + a) (z := z + 28 + a) (by omega)
      have xC : FX 0 (rgn y 28 30) A C := c2.fx (fun c j q => by
        have q : c = y + 28 + a := q
        unfold rgn
        omega)
      obtain ⟨B, b1, b2, b3, b4⟩ := X5_copy125 (N := N) hy hd (k := k) (n := n) (a := a + 1) (A := C) (by rw [c2.2.2 y 8 (by omega), h, show a + 1 + k = a + (k + 1) by omega]) (by omega) (Nat.lt_of_succ_lt_succ hn)
      refine ⟨B, ?_, xC.tr b2, fun c hc j => ?_, fun b h1 h2 j hj => ?_⟩
      · rw [fX5_copyFrom_125, h, if_neg (by omega), chk_pos _ (by omega), chk_pos _ (by omega), Int.toNat_natCast, c1, obind_some, bnd_eq, ea ()]
        exact b1
      · rw [b3 c (by omega) j, c2.2.2 c j (by omega)]
      · by_cases e : b = a
        · subst e
          rw [b3 _ (by omega) j, c3 j hj]
        · rw [b4 b (by omega) (by omega) j hj, c2.2.2 _ _ (by omega)]
theorem X5_copy94 {N y z : Nat} (hN : 100 ≤ N) (hy : y + 31 ≤ 376) (hz : z + 31 ≤ 376) (hd : y + 30 < z ∨ z + 30 < y) : ∀ {k n a : Nat} {A : AH}, gI A y 7 = ((a + k : Nat) : Int) → a + k ≤ 6 → k < n → ∃ B, fX5_copyFrom_94 N y z n A a = fX5_copyFrom_125 N y z N B 0 ∧ FX 0 (rgn y 22 27) A B ∧ (∀ c, c < y + 22 + a → ∀ j, gI B c j = gI A c j ∧ gP B c j = gP A c j) ∧ ∀ p, a ≤ p → p < a + k → gI B (y + 22 + p) 0 = gI A (z + 22 + p) 0 ∧ gI B (y + 22 + p) 1 = gI A (z + 22 + p) 1 ∧ gP B (y + 22 + p) 2 = gP A (z + 22 + p) 2
  | 0, n, a, A, h, h3, hn => by
    match n, hn with
    | n + 1, _ =>
      refine ⟨A, ?_, FX.rf A, fun _ _ _ => ⟨rfl, rfl⟩, fun b h1 h2 => by omega⟩
      rw [fX5_copyFrom_94, h, if_pos (by omega)]
  | k + 1, n, a, A, h, h3, hn => by
    have ea : Unit → wrap ((a : Int) + 1) = ((a + 1 : Nat) : Int) := fun _ => wrap_eq (by omega) (by omega)
    match n, hn with
    | n + 1, hn =>
      obtain ⟨C, c1, c2, c3, c4, c5⟩ := X4_copy (N := N) (A := A) (y := y + 22 + a) (z := z + 22 + a) (by omega) (by omega)
      have xC : FX 0 (rgn y 22 27) A C := c2.mono (Nat.le_refl 0) (fun c _ q => by
        have q : c = y + 22 + a := q
        unfold rgn
        omega)
      have cn : ∀ c, c < 376 → c ≠ y + 22 + a → ∀ j, gI C c j = gI A c j ∧ gP C c j = gP A c j := fun c h1 h2 j => c2.2.2.2 c h1 h2 j
      obtain ⟨B, b1, b2, b3, b4⟩ := X5_copy94 (N := N) hN hy hz hd (k := k) (n := n) (a := a + 1) (A := C) (by rw [(cn y (by omega) (by omega) 7).1, h, show a + 1 + k = a + (k + 1) by omega]) (by omega) (Nat.lt_of_succ_lt_succ hn)
      refine ⟨B, ?_, xC.tr b2, fun c hc j => ?_, fun b h1 h2 => ?_⟩
      · rw [fX5_copyFrom_94, h, if_neg (by omega), chk_pos _ (by omega), chk_pos _ (by omega), Int.toNat_natCast, c1, obind_some, bnd_eq, ea ()]
        exact b1
      · have e1 := b3 c (by omega) j
        have e2 := cn c (by omega) (by omega) j
        exact ⟨e1.1.trans e2.1, e1.2.trans e2.2⟩
      · by_cases e : b = a
        · subst e
          rw [(b3 _ (by omega) 0).1, (b3 _ (by omega) 1).1, (b3 _ (by omega) 2).2]
          exact ⟨c3, c4, c5⟩
        · have q := b4 b (by omega) (by omega)
          rw [q.1, q.2.1, q.2.2, (cn _ (by omega) (by omega) 0).1, (cn _ (by omega) (by omega) 1).1, (cn _ (by omega) (by omega) 2).2]
          exact ⟨rfl, rfl, rfl⟩
theorem X5_copy63 {N y z : Nat} (hN : 100 ≤ N) (hy : y + 31 ≤ 376) (hz : z + 31 ≤ 376) (hd : y + 30 < z ∨ z + 30 < y) : ∀ {k n a : Nat} {A : AH}, gI A y 6 = ((a + k : Nat) : Int) → a + k ≤ 16 → k < n → ∃ B, fX5_copyFrom_63 N y z n A a = fX5_copyFrom_94 N y z N B 0 ∧ FX 0 (rgn y 6 21) A B ∧ (∀ c, c < y + 6 + a → ∀ j, gI B c j = gI A c j) ∧ ∀ o, a ≤ o → o < a + k → ∀ j, j < 10 → gI B (y + 6 + o) j = gI A (z + 6 + o) j
  | 0, n, a, A, h, h3, hn => by
    match n, hn with
    | n + 1, _ =>
      refine ⟨A, ?_, FX.rf A, fun _ _ _ => rfl, fun b h1 h2 => by omega⟩
      rw [fX5_copyFrom_63, h, if_pos (by omega)]
  | k + 1, n, a, A, h, h3, hn => by
    have ea : Unit → wrap ((a : Int) + 1) = ((a + 1 : Nat) : Int) := fun _ => wrap_eq (by omega) (by omega)
    match n, hn with
    | n + 1, hn =>
      obtain ⟨C, c1, c2, c3⟩ := X3_copy (N := N) (A := A) (y := y + 6 + a) (z := z + 6 + a) (by omega)
      have xC : FX 0 (rgn y 6 21) A C := c2.fx (fun c j q => by
        have q : c = y + 6 + a := q
        unfold rgn
        omega)
      obtain ⟨B, b1, b2, b3, b4⟩ := X5_copy63 (N := N) hN hy hz hd (k := k) (n := n) (a := a + 1) (A := C) (by rw [c2.2.2 y 6 (by omega), h, show a + 1 + k = a + (k + 1) by omega]) (by omega) (Nat.lt_of_succ_lt_succ hn)
      refine ⟨B, ?_, xC.tr b2, fun c hc j => ?_, fun b h1 h2 j hj => ?_⟩
      · rw [fX5_copyFrom_63, h, if_neg (by omega), chk_pos _ (by omega), chk_pos _ (by omega), Int.toNat_natCast, c1, obind_some, bnd_eq, ea ()]
        exact b1
      · rw [b3 c (by omega) j, c2.2.2 c j (by omega)]
      · by_cases e : b = a
        · subst e
          rw [b3 _ (by omega) j, c3 j hj]
        · rw [b4 b (by omega) (by omega) j hj, c2.2.2 _ _ (by omega)]
theorem FQ_cpI (A : AH) (b a n : Nat) : FQ (fun c _ => c = a) A (cpI A b a n) := ⟨rfl, rfl, fun c k h => by
  rw [gI_cpI, if_neg (fun z => h z.1)]⟩
theorem X5_copy {N : Nat} {A : AH} {y z : Nat} {M : MR} (hN : 100 ≤ N) (hy : y + 31 ≤ 376) (hz : z + 31 ≤ 376) (hd : y + 30 < z ∨ z + 30 < y) (hG : GD M) (hP : RP A z M) : ∃ B, fX5_copyFrom N A y z = some B ∧ RP B y M ∧ FX 0 (rgn y 0 30) A B := by
  have c1 := hG.2.1.2.1
  have c2 := hG.2.1.2.2.1
  have c3 := hG.2.1.2.2.2.1
  obtain ⟨O, eO⟩ : ∃ O : Nat, M 18 3 = (O : Int) := ⟨(M 18 3).toNat, by omega⟩
  obtain ⟨P, eP⟩ : ∃ P : Nat, M 18 1 = (P : Int) := ⟨(M 18 1).toNat, by omega⟩
  obtain ⟨Q, eQ⟩ : ∃ Q : Nat, M 18 2 = (Q : Int) := ⟨(M 18 2).toNat, by omega⟩
  obtain ⟨⟨t1, t2⟩, ⟨q1, q2, q3, q4⟩, ho', hp', hb'⟩ := hP
  obtain ⟨A1, hA1⟩ : ∃ A1, A1 = sI (sI (sI (sI A y 5 (M 18 0)) y 6 (M 18 3)) y 7 (M 18 1)) y 8 (M 18 2) := ⟨_, rfl⟩
  have f1 : FQ (fun c _ => c = y) A A1 := by
    rw [hA1]
    exact FQ.setc (FQ.setc (FQ.setc (FQ.setc (FQ.rf A))))
  obtain ⟨A2, hA2⟩ : ∃ A2, A2 = cpI (cpI A1 (z + 1) (y + 1) 5) (z + 2) (y + 2) 12 := ⟨_, rfl⟩
  have f2 : FQ (fun c _ => y ≤ c ∧ c ≤ y + 2) A A2 := by
    rw [hA2]
    exact ((f1.mono (fun c _ q => by omega)).tr ((FQ_cpI A1 (z + 1) (y + 1) 5).mono (fun c _ q => by omega))).tr ((FQ_cpI _ (z + 2) (y + 2) 12).mono (fun c _ q => by omega))
  have x2 : FX 0 (rgn y 0 2) A A2 := f2.fx (fun c j q => by
    unfold rgn
    omega)
  have k1 : ∀ j, gI A2 y j = gI A1 y j := fun j => by rw [hA2, gI_cpI, if_neg (by omega), gI_cpI, if_neg (by omega)]
  have m5 : gI A2 y 5 = M 18 0 := by rw [k1, hA1]; simp [gI_sI]
  have m6 : gI A2 y 6 = M 18 3 := by rw [k1, hA1]; simp [gI_sI]
  have m7 : gI A2 y 7 = M 18 1 := by rw [k1, hA1]; simp [gI_sI]
  have m8 : gI A2 y 8 = M 18 2 := by rw [k1, hA1]; simp [gI_sI]
  have r1 : ∀ k, k < 5 → gI A2 (y + 1) k = M 0 k := fun k hk => by
    rw [hA2, gI_cpI, if_neg (by omega), gI_cpI, if_pos ⟨rfl, hk⟩, f1.2.2 _ _ (by omega)]
    exact t1 k hk
  have r2 : ∀ k, k < 12 → gI A2 (y + 2) k = M 1 k := fun k hk => by
    rw [hA2, gI_cpI, if_pos ⟨rfl, hk⟩, gI_cpI, if_neg (by omega), f1.2.2 _ _ (by omega)]
    exact t2 k hk
  obtain ⟨A3, a31, a32, a33, a34⟩ := X5_copy63 (N := N) hN hy hz hd (k := O) (n := N) (a := 0) (A := A2) (by rw [m6, eO, Nat.zero_add]) (by omega) (by omega)
  obtain ⟨A4, a41, a42, a43, a44⟩ := X5_copy94 (N := N) hN hy hz hd (k := P) (n := N) (a := 0) (A := A3) (by rw [a33 y (by omega), m7, eP, Nat.zero_add]) (by omega) (by omega)
  obtain ⟨B, b1, b2, b3, b4⟩ := X5_copy125 (N := N) hy hd (k := Q) (n := N) (a := 0) (A := A4) (by rw [(a43 y (by omega) 8).1, a33 y (by omega), m8, eQ, Nat.zero_add]) (by omega) (by omega)
  have xB : FX 0 (rgn y 0 30) A B := ((x2.mono (Nat.le_refl 0) (fun c _ q => by unfold rgn at *; omega)).tr (a32.mono (Nat.le_refl 0) (fun c _ q => by unfold rgn at *; omega))).tr ((a42.mono (Nat.le_refl 0) (fun c _ q => by unfold rgn at *; omega)).tr (b2.mono (Nat.le_refl 0) (fun c _ q => by unfold rgn at *; omega)))
  have zA2 : ∀ c, z ≤ c → c ≤ z + 30 → ∀ j, gI A2 c j = gI A c j := fun c h1 h2 j => f2.2.2 c j (by omega)
  have zA3 : ∀ c, z ≤ c → c ≤ z + 30 → ∀ j, gI A3 c j = gI A c j ∧ gP A3 c j = gP A c j := fun c h1 h2 j => by
    have := a32.2.2.2 c (by omega) (by unfold rgn; omega) j
    exact ⟨this.1.trans (zA2 c h1 h2 j), this.2.trans (f2.eP c j)⟩
  have zA4 : ∀ c, z ≤ c → c ≤ z + 30 → ∀ j, gI A4 c j = gI A c j ∧ gP A4 c j = gP A c j := fun c h1 h2 j => by
    have := a42.2.2.2 c (by omega) (by unfold rgn; omega) j
    have q := zA3 c h1 h2 j
    exact ⟨this.1.trans q.1, this.2.trans q.2⟩
  have lowB : ∀ c, c < y + 6 → ∀ j, gI B c j = gI A2 c j := fun c h j => by
    rw [b3 c (by omega) j, (a43 c (by omega) j).1, a33 c (by omega) j]
  refine ⟨B, ?_, ?_, xB⟩
  · unfold fX5_copyFrom
    simp only [bnd_eq]
    have w1 : gI A z 5 = M 18 0 := q1
    have w2 : gI (sI A y 5 (M 18 0)) z 6 = M 18 3 := by rw [gI_sI, if_neg (by omega)]; exact q2
    have w3 : gI (sI (sI A y 5 (M 18 0)) y 6 (M 18 3)) z 7 = M 18 1 := by rw [gI_sI, if_neg (by omega), gI_sI, if_neg (by omega)]; exact q3
    have w4 : gI (sI (sI (sI A y 5 (M 18 0)) y 6 (M 18 3)) y 7 (M 18 1)) z 8 = M 18 2 := by rw [gI_sI, if_neg (by omega), gI_sI, if_neg (by omega), gI_sI, if_neg (by omega)]; exact q4
    rw [w1, w2, w3, w4, ← hA1, ← hA2]
    exact (a31.trans a41).trans b1
  · refine ⟨⟨fun k hk => ?_, fun k hk => ?_⟩, ⟨?_, ?_, ?_, ?_⟩, fun i hi => ?_, fun i hi => ?_, fun i hi => ?_⟩
    · rw [lowB _ (by omega)]; exact r1 k hk
    · rw [lowB _ (by omega)]; exact r2 k hk
    · rw [lowB _ (by omega)]; exact m5
    · rw [lowB _ (by omega)]; exact m6
    · rw [lowB _ (by omega)]; exact m7
    · rw [lowB _ (by omega)]; exact m8
    · have h16 := hG.o16 hi
      have e : ∀ k, k < 10 → gI B (y + 6 + i) k = gI A (z + 6 + i) k := fun k hk => by
        rw [b3 _ (by omega) k, (a43 _ (by omega) k).1, a34 i (by omega) (by omega) k hk, zA2 _ (by omega) (by omega)]
      have h := ho' i hi
      unfold PO at *
      rw [e 0 (by omega), e 1 (by omega), e 2 (by omega), e 3 (by omega), e 4 (by omega), e 5 (by omega), e 6 (by omega), e 7 (by omega), e 8 (by omega), e 9 (by omega)]
      exact h
    · have h6 := hG.p6 hi
      obtain ⟨L, l1, l2⟩ := hp' i hi
      have e := a44 i (by omega) (by omega)
      have eb : ∀ j, gI B (y + 22 + i) j = gI A4 (y + 22 + i) j := fun j => b3 _ (by omega) j
      have ep : gP B (y + 22 + i) 2 = gP A4 (y + 22 + i) 2 := (b2.2.2.2 _ (by omega) (by unfold rgn; omega) 2).2
      refine ⟨L, ⟨?_, ?_, ?_⟩, l2⟩
      · rw [eb, e.1, (zA3 _ (by omega) (by omega) 0).1]; exact l1.1
      · rw [eb, e.2.1, (zA3 _ (by omega) (by omega) 1).1]; exact l1.2.1
      · rw [ep, e.2.2, (zA3 _ (by omega) (by omega) 2).2]
        exact l1.2.2.kl xB.1
    · have h3 := hG.b3 hi
      have h := hb' i hi
      have e : ∀ k, k < 5 → gI B (y + 28 + i) k = gI A (z + 28 + i) k := fun k hk => by
        rw [b4 i (by omega) (by omega) k hk, (zA4 _ (by omega) (by omega) k).1]
      unfold PB at *
      rw [e 0 (by omega), e 1 (by omega), e 2 (by omega), e 3 (by omega), e 4 (by omega)]
      exact h
/-! the ring -/
def slot (f : Nat) : Nat := 66 + 31 * f
theorem X1_prepare {N : Nat} {A : AH} {M : MR} {f : Nat} (hN : 100 ≤ N) (hG : GD M) (hP : RP A 2 M) (hf : gI A 64 1 = f) (h9 : f < 9) : ∃ B, fX1_prepare N A 2 = some B ∧ RP B (slot f) M ∧ FX 0 (rgn (slot f) 0 30) A B := by
  obtain ⟨B, b1, b2, b3⟩ := X5_copy (N := N) (A := A) (y := slot f) (z := 2) hN (by unfold slot; omega) (by omega) (by unfold slot; omega) hG hP
  refine ⟨B, ?_, b2, b3⟩
  unfold fX1_prepare
  rw [hf, chk_pos _ (by omega), Int.toNat_natCast, show 66 + 31 * f = slot f from rfl, b1, obind_some]
theorem X1_commit {N : Nat} {A : AH} {f c : Nat} (hf : gI A 64 1 = f) (h9 : f < 9) (hc : gI A 64 2 = c) (h8 : c ≤ 8) : ∃ B, fX1_commit N A = some B ∧ FQ (fun a _ => a = 64) A B ∧ gI B 64 1 = ((if f = 8 then 0 else f + 1 : Nat) : Int) ∧ gI B 64 2 = ((min 8 (c + 1) : Nat) : Int) := by
  have h20 : ∀ x : Int, ∃ B, fX1_commit_20 N A x = some B ∧ FQ (fun a _ => a = 64) A B ∧ gI B 64 1 = x ∧ gI B 64 2 = ((min 8 (c + 1) : Nat) : Int) := fun x => by
    unfold fX1_commit_20
    simp only [bnd_eq]
    refine ⟨_, rfl, FQ.setc (FQ.setc (FQ.rf A)), ?_, ?_⟩
    · rw [gI_sI, if_neg (by omega), gI_sI, if_pos ⟨rfl, rfl⟩]
    · rw [gI_sI, if_pos ⟨rfl, rfl⟩, gI_sI, if_neg (by omega), hc, wrap_eq (by omega) (by omega)]
      omega
  unfold fX1_commit
  rw [hf]
  by_cases e : f = 8
  · rw [if_pos (by omega), if_pos e]
    exact h20 0
  · rw [if_neg (by omega), if_neg e, wrap_eq (by omega) (by omega)]
    obtain ⟨B, b1, b2, b3, b4⟩ := h20 ((f : Int) + 1)
    exact ⟨B, b1, b2, by rw [b3]; omega, b4⟩
theorem X1_takeBack {N : Nat} {A : AH} {M : MR} {f : Nat} (hN : 100 ≤ N) (hG : GD M) (hf : gI A 64 1 = f) (h9 : f < 9) (hP : RP A (slot f) M) : ∃ B, fX1_takeBack N A 2 = some B ∧ RP B 2 M ∧ FX 0 (rgn 2 0 30) A B := by
  obtain ⟨B, b1, b2, b3⟩ := X5_copy (N := N) (A := A) (y := 2) (z := slot f) hN (by omega) (by unfold slot; omega) (by unfold slot; omega) hG hP
  refine ⟨B, ?_, b2, b3⟩
  unfold fX1_takeBack
  rw [hf, chk_pos _ (by omega), Int.toNat_natCast, show 66 + 31 * f = slot f from rfl, b1, obind_some]
