/-! the text: its items -/
/-- the program's text and place; the reference's -/
def TA (A : AH) (n : Nat) (T : Nat → Int) (i : Nat) : Prop := n ≤ 60 ∧ i ≤ n ∧ gI A 345 1 = n ∧ gI A 345 2 = i ∧ ∀ k, k < n → gI A 346 k = T k ∧ 0 ≤ T k ∧ T k < 65536
def TC (C : AH) (n : Nat) (T : Nat → Int) (i t : Nat) : Prop := n ≤ 60 ∧ i ≤ n ∧ gI C 349 34 = n ∧ gI C 349 35 = i ∧ gI C 349 36 = t ∧ ∀ k, k < n → gI C 368 k = T k ∧ 0 ≤ T k ∧ T k < 65536
theorem TA.fq {A B : AH} {n i j : Nat} {T : Nat → Int} (h : TA A n T i) (hf : FQ (fun a k => a = 345 ∧ 2 ≤ k) A B) (hj : gI B 345 2 = j) (hn : j ≤ n) : TA B n T j := by
  obtain ⟨h1, h2, h3, h4, h5⟩ := h
  exact ⟨h1, hn, by rw [hf.2.2 345 1 (by omega)]; exact h3, hj, fun k hk => by rw [hf.2.2 346 k (by omega)]; exact h5 k hk⟩
theorem TC.fq {A B : AH} {n i j t s : Nat} {T : Nat → Int} (h : TC A n T i t) (hf : FQ (fun a k => (a = 349 ∧ (k = 35 ∨ k = 36)) ∨ a = 369 ∨ a = 370) A B) (hj : gI B 349 35 = j) (ht : gI B 349 36 = s) (hn : j ≤ n) : TC B n T j s := by
  obtain ⟨h1, h2, h3, h4, h5, h6⟩ := h
  exact ⟨h1, hn, by rw [hf.2.2 349 34 (by omega)]; exact h3, hj, ht, fun k hk => by rw [hf.2.2 368 k (by omega)]; exact h6 k hk⟩
theorem X6_peek {N : Nat} {A : AH} {n i : Nat} {T : Nat → Int} (h : TA A n T i) : fX6_peek N A = some (if i < n then T i else 0) := by
  obtain ⟨h1, h2, h3, h4, h5⟩ := h
  unfold fX6_peek
  rw [h4, h3, if_neg (by omega)]
  by_cases e : i < n
  · have := h5 i e
    rw [if_neg (by omega), if_pos e, chk_pos _ (by omega), Int.toNat_natCast, this.1, chk_pos _ (by omega)]
  · rw [if_pos (by omega), if_neg e]
theorem X9_sign {N : Nat} {C : AH} {n i t : Nat} {T : Nat → Int} (h : TC C n T i t) : fX9_sign N C = some (if i < n then T i else -1) := by
  obtain ⟨h1, h2, h3, h4, h5, h6⟩ := h
  unfold fX9_sign
  rw [h4, h3]
  by_cases e : i < n
  · have := h6 i e
    rw [if_neg (by omega), if_pos e, chk_pos _ (by omega), Int.toNat_natCast, this.1]
  · rw [if_pos (by omega), if_neg e]
theorem wsuc {i : Nat} (h : i ≤ 60) : wrap ((i : Int) + 1) = ((i + 1 : Nat) : Int) := wrap_eq (by omega) (by omega)
theorem X6_yes {N : Nat} {A : AH} {n i : Nat} {T : Nat → Int} {x : Int} (h : TA A n T i) (hx : i < n ∧ T i = x) : ∃ B, fX6_accept N A x = some (1, B) ∧ TA B n T (i + 1) ∧ FQ (fun a k => a = 345 ∧ k = 2) A B := by
  have f : FQ (fun a k => a = 345 ∧ k = 2) A (sI A 345 2 ((i + 1 : Nat) : Int)) := (FQ.rf A).set ⟨rfl, rfl⟩
  refine ⟨sI A 345 2 ((i + 1 : Nat) : Int), ?_, h.fq (f.mono (fun a k q => by omega)) (by rw [gI_sI, if_pos ⟨rfl, rfl⟩]) (by omega), f⟩
  have h1 := h.1
  unfold fX6_accept
  rw [X6_peek h, obind_some, if_pos hx.1, if_pos hx.2, bnd_eq, h.2.2.2.1, wsuc (by omega)]
theorem X6_no {N : Nat} {A : AH} {n i : Nat} {T : Nat → Int} {x : Int} (h : TA A n T i) (h0 : x ≠ 0) (hx : ¬ (i < n ∧ T i = x)) : fX6_accept N A x = some (0, A) := by
  unfold fX6_accept
  rw [X6_peek h, obind_some]
  by_cases e : i < n
  · rw [if_pos e, if_neg (fun z => hx ⟨e, z⟩)]
  · rw [if_neg e, if_neg (fun z => h0 z.symm)]
theorem X9_yes {N : Nat} {C : AH} {n i t : Nat} {T : Nat → Int} {x : Int} (h : TC C n T i t) (hx : i < n ∧ T i = x) : ∃ B, fX9_skips N C x = some (1, B) ∧ TC B n T (i + 1) t ∧ FQ (fun a k => a = 349 ∧ k = 35) C B := by
  have f : FQ (fun a k => a = 349 ∧ k = 35) C (sI C 349 35 ((i + 1 : Nat) : Int)) := (FQ.rf C).set ⟨rfl, rfl⟩
  refine ⟨sI C 349 35 ((i + 1 : Nat) : Int), ?_, h.fq (f.mono (fun a k q => by omega)) (by rw [gI_sI, if_pos ⟨rfl, rfl⟩]) (by rw [gI_sI, if_neg (by omega)]; exact h.2.2.2.2.1) (by omega), f⟩
  have h1 := h.1
  unfold fX9_skips
  rw [X9_sign h, obind_some, if_pos hx.1, if_pos hx.2, bnd_eq, h.2.2.2.1, wsuc (by omega)]
theorem X9_no {N : Nat} {C : AH} {n i t : Nat} {T : Nat → Int} {x : Int} (h : TC C n T i t) (h0 : 0 ≤ x) (hx : ¬ (i < n ∧ T i = x)) : fX9_skips N C x = some (0, C) := by
  unfold fX9_skips
  rw [X9_sign h, obind_some]
  by_cases e : i < n
  · rw [if_pos e, if_neg (fun z => hx ⟨e, z⟩)]
  · rw [if_neg e, if_neg (by omega)]
/-- numbers of at most three figures -/
abbrev dig (n : Nat) (T : Nat → Int) (i : Nat) : Prop := i < n ∧ 48 ≤ T i ∧ T i ≤ 57
def nmR (n : Nat) (T : Nat → Int) : Nat → Int → Nat → Int × Nat
  | 0, v, i => (v, i)
  | k + 1, v, i => if dig n T i then nmR n T k (10 * v + T i - 48) (i + 1) else (v, i)
def nmV (n : Nat) (T : Nat → Int) (i : Nat) : Int := (nmR n T 3 0 i).1
def nmI (n : Nat) (T : Nat → Int) (i : Nat) : Nat := (nmR n T 3 0 i).2
def p10 : Nat → Int
  | 0 => 1000
  | 1 => 100
  | 2 => 10
  | _ => 1
theorem p10_step {k : Nat} {v d : Int} (hk : k ≤ 2) (hv : 0 ≤ v) (h : v < p10 (k + 1)) (hd : 0 ≤ d ∧ d ≤ 9) : 10 * v + d < p10 k := by
  match k, hk, h with
  | 0, _, h => simp only [p10] at h ⊢; omega
  | 1, _, h => simp only [p10] at h ⊢; omega
  | 2, _, h => simp only [p10] at h ⊢; omega
theorem p10_le (k : Nat) : p10 k ≤ 1000 := by unfold p10; split <;> omega
theorem nmR_rng {n : Nat} {T : Nat → Int} : ∀ {k : Nat} {v : Int} {i : Nat}, k ≤ 3 → i ≤ n → 0 ≤ v → v < p10 k → (0 ≤ (nmR n T k v i).1 ∧ (nmR n T k v i).1 < 1000) ∧ i ≤ (nmR n T k v i).2 ∧ (nmR n T k v i).2 ≤ n
  | 0, v, i, _, hi, h0, hv => ⟨⟨h0, hv⟩, Nat.le_refl i, hi⟩
  | k + 1, v, i, hk, hi, h0, hv => by
    rw [nmR]
    by_cases e : dig n T i
    · rw [if_pos e]
      obtain ⟨e1, e2, e3⟩ := e
      have := nmR_rng (n := n) (T := T) (k := k) (v := 10 * v + T i - 48) (i := i + 1) (by omega) (by omega) (by omega) (by have := p10_step (d := T i - 48) (by omega) h0 hv (by omega); omega)
      omega
    · rw [if_neg e]
      have := p10_le (k + 1)
      exact ⟨⟨h0, by omega⟩, Nat.le_refl i, hi⟩
theorem nm_rng {n : Nat} {T : Nat → Int} {i : Nat} (h : dig n T i) : (0 ≤ nmV n T i ∧ nmV n T i < 1000) ∧ i < nmI n T i ∧ nmI n T i ≤ n := by
  unfold nmV nmI
  rw [nmR, if_pos h]
  obtain ⟨e1, e2, e3⟩ := h
  have := nmR_rng (n := n) (T := T) (k := 2) (v := 10 * 0 + T i - 48) (i := i + 1) (by omega) (by omega) (by omega) (by simp only [p10]; omega)
  omega
theorem X6_digit {N : Nat} {A : AH} {n i : Nat} {T : Nat → Int} : fX6_isDigit N A (if i < n then T i else 0) = some (b2i (decide (dig n T i))) := by
  unfold fX6_isDigit
  by_cases e : i < n
  · rw [if_pos e]
    by_cases e2 : T i < 48
    · rw [if_pos e2, decide_eq_false (fun z => absurd z.2.1 (by omega))]; rfl
    · rw [if_neg e2]
      by_cases e3 : 57 < T i
      · rw [if_pos e3, decide_eq_false (fun z => absurd z.2.2 (by omega))]; rfl
      · rw [if_neg e3, decide_eq_true (show dig n T i from ⟨e, by omega, by omega⟩)]; rfl
  · rw [if_neg e, if_pos (by decide), decide_eq_false (fun z => e z.1)]; rfl
theorem X6_num4 {N : Nat} {n : Nat} {T : Nat → Int} : ∀ {k m i : Nat} {v : Int} {A : AH}, TA A n T i → k ≤ 3 → k < m → 0 ≤ v → v < p10 k → ∃ B, fX6_readNumber_4 N m A v (3 - k) = some ((nmR n T k v i).1, B) ∧ TA B n T (nmR n T k v i).2 ∧ FQ (fun a k => a = 345 ∧ k = 2) A B
  | 0, m, i, v, A, h, hk, hm, h0, hv => by
    match m, hm with
    | m + 1, _ =>
      refine ⟨A, ?_, h, FQ.rf A⟩
      rw [fX6_readNumber_4, if_pos (by decide)]
      rfl
  | k + 1, m, i, v, A, h, hk, hm, h0, hv => by
    match m, hm with
    | m + 1, hm =>
      have hn := h.1
      rw [fX6_readNumber_4, if_neg (by omega), X6_peek h, obind_some, X6_digit, obind_some, nmR]
      by_cases e : dig n T i
      · have e' := e
        obtain ⟨e1, e2, e3⟩ := e
        have hv2 := p10_step (d := T i - 48) (by omega) h0 hv (by omega)
        have hle := p10_le (k + 1)
        have f : FQ (fun a k => a = 345 ∧ k = 2) A (sI A 345 2 ((i + 1 : Nat) : Int)) := (FQ.rf A).set ⟨rfl, rfl⟩
        obtain ⟨B, b1, b2, b3⟩ := X6_num4 (N := N) (k := k) (m := m) (i := i + 1) (v := 10 * v + T i - 48) (h.fq (f.mono (fun a k q => by omega)) (by rw [gI_sI, if_pos ⟨rfl, rfl⟩]) (by omega)) (by omega) (by omega) (by omega) (by omega)
        refine ⟨B, ?_, by rw [if_pos e']; exact b2, f.tr b3⟩
        rw [decide_eq_true e', if_neg b2t', obind_some, if_pos e1, if_pos e']
        simp only [bnd_eq]
        rw [h.2.2.2.1, wsuc (by omega), show max v 0 = v by omega, show wrap (v * 10) = v * 10 from wrap_eq (by omega) (by omega), show wrap (T i - 48) = T i - 48 from wrap_eq (by omega) (by omega), wrap_eq (by omega) (by omega), show v * 10 + (T i - 48) = 10 * v + T i - 48 by omega, show wrap (3 - ((k + 1 : Nat) : Int) + 1) = 3 - (k : Int) from by rw [wrap_eq (by omega) (by omega)]; omega]
        exact b1
      · rw [decide_eq_false e, if_pos b2f', if_neg e]
        exact ⟨A, rfl, h, FQ.rf A⟩
theorem X6_num_yes {N : Nat} {A : AH} {n i : Nat} {T : Nat → Int} (hN0 : 100 ≤ N) (h : TA A n T i) (e : dig n T i) : ∃ B, fX6_readNumber N A = some (nmV n T i, B) ∧ TA B n T (nmI n T i) ∧ FQ (fun a k => a = 345 ∧ k = 2) A B := by
  have hn := h.1
  obtain ⟨e1, e2, e3⟩ := e
  have e' : dig n T i := ⟨e1, e2, e3⟩
  obtain ⟨m, rfl⟩ : ∃ m, N = m + 1 := ⟨N - 1, by omega⟩
  have f : FQ (fun a k => a = 345 ∧ k = 2) A (sI A 345 2 ((i + 1 : Nat) : Int)) := (FQ.rf A).set ⟨rfl, rfl⟩
  obtain ⟨B, b1, b2, b3⟩ := X6_num4 (N := m + 1) (k := 2) (m := m) (i := i + 1) (v := 10 * 0 + T i - 48) (h.fq (f.mono (fun a k q => by omega)) (by rw [gI_sI, if_pos ⟨rfl, rfl⟩]) (by omega)) (by omega) (by omega) (by omega) (by simp only [p10]; omega)
  have er : nmR n T 3 0 i = nmR n T 2 (10 * 0 + T i - 48) (i + 1) := by rw [nmR, if_pos e']
  refine ⟨B, ?_, by unfold nmI; rw [er]; exact b2, f.tr b3⟩
  unfold fX6_readNumber nmV
  rw [fX6_readNumber_4, if_neg (by decide), X6_peek h, obind_some, X6_digit, obind_some, decide_eq_true e', if_neg b2t', obind_some, if_pos e1, er]
  simp only [bnd_eq]
  rw [h.2.2.2.1, wsuc (by omega), show wrap (max (-1) 0 * 10) = 0 by decide, show wrap (T i - 48) = T i - 48 from wrap_eq (by omega) (by omega), wrap_eq (by omega) (by omega), show 0 + (T i - 48) = 10 * 0 + T i - 48 by omega, show wrap (0 + 1) = 3 - ((2 : Nat) : Int) by decide]
  exact b1
theorem X6_num_no {N : Nat} {A : AH} {n i : Nat} {T : Nat → Int} (hN0 : 100 ≤ N) (h : TA A n T i) (e : ¬ dig n T i) : fX6_readNumber N A = some (-1, A) := by
  obtain ⟨m, rfl⟩ : ∃ m, N = m + 1 := ⟨N - 1, by omega⟩
  unfold fX6_readNumber
  rw [fX6_readNumber_4, if_neg (by decide), X6_peek h, obind_some, X6_digit, obind_some, decide_eq_false e, if_pos b2f']
theorem X9_digit {N : Nat} {A : AH} {n i : Nat} {T : Nat → Int} : fX9_isBetween N A (if i < n then T i else -1) 48 57 = some (b2i (decide (dig n T i))) := by
  rw [X9_isBetween, bt_in]
  congr 2
  by_cases e : i < n
  · rw [if_pos e]
    exact decide_eq_decide.mpr ⟨fun z => ⟨e, z.1, z.2⟩, fun z => ⟨z.2.1, z.2.2⟩⟩
  · rw [if_neg e, decide_eq_false (show ¬ ((48 : Int) ≤ -1 ∧ (-1 : Int) ≤ 57) by omega), decide_eq_false (fun z => e z.1)]
theorem X9_num20 {N : Nat} {n t x : Nat} {T : Nat → Int} (ht : t < 30) (hx : x < 4) : ∀ {k m i : Nat} {v : Int} {C : AH}, TC C n T i t → k ≤ 3 → k < m → 0 ≤ v → v < p10 k → ∃ B, fX9_takesNumber_20 N x m C v (3 - k) = some (1, B) ∧ TC B n T (nmR n T k v i).2 t ∧ FQ (fun a j => (a = 349 ∧ j = 35) ∨ a = 370 ∧ j = 4 * t + x) C B ∧ gI B 370 (4 * t + x) = (nmR n T k v i).1 := by
  have fin : ∀ {i : Nat} {v : Int} {C : AH}, TC C n T i t → ∃ B, fX9_takesNumber_68 N C x v = some (1, B) ∧ TC B n T i t ∧ FQ (fun a j => (a = 349 ∧ j = 35) ∨ a = 370 ∧ j = 4 * t + x) C B ∧ gI B 370 (4 * t + x) = v := by
    intro i v C h
    have f : FQ (fun a j => (a = 349 ∧ j = 35) ∨ a = 370 ∧ j = 4 * t + x) C (sI C 370 (4 * t + x) v) := (FQ.rf C).set (by omega)
    refine ⟨sI C 370 (4 * t + x) v, ?_, h.fq (f.mono (fun a k q => by omega)) (by rw [gI_sI, if_neg (by omega)]; exact h.2.2.2.1) (by rw [gI_sI, if_neg (by omega)]; exact h.2.2.2.2.1) h.2.1, f, by rw [gI_sI, if_pos ⟨rfl, rfl⟩]⟩
    unfold fX9_takesNumber_68
    rw [h.2.2.2.2.1, show wrap (4 * (t : Int)) = ((4 * t : Nat) : Int) from by rw [wrap_eq (by omega) (by omega)]; omega, show wrap (((4 * t : Nat) : Int) + (x : Int)) = ((4 * t + x : Nat) : Int) from by rw [wrap_eq (by omega) (by omega)]; omega, chk_pos _ (by omega), bnd_eq, Int.toNat_natCast]
  intro k
  induction k with
  | zero =>
    intro m i v C h hk hm h0 hv
    match m, hm with
    | m + 1, _ =>
      obtain ⟨B, b1, b2, b3, b4⟩ := fin (v := v) h
      refine ⟨B, ?_, b2, b3, b4⟩
      rw [fX9_takesNumber_20, if_pos (by decide)]
      exact b1
  | succ k ih =>
    intro m i v C h hk hm h0 hv
    match m, hm with
    | m + 1, hm =>
      have hn := h.1
      rw [fX9_takesNumber_20, if_neg (by omega), X9_sign h, obind_some, X9_digit, obind_some, nmR]
      by_cases e : dig n T i
      · have e' := e
        obtain ⟨e1, e2, e3⟩ := e
        have hv2 := p10_step (d := T i - 48) (by omega) h0 hv (by omega)
        have hle := p10_le (k + 1)
        have f : FQ (fun a k => a = 349 ∧ k = 35) C (sI C 349 35 ((i + 1 : Nat) : Int)) := (FQ.rf C).set ⟨rfl, rfl⟩
        obtain ⟨B, b1, b2, b3, b4⟩ := ih (m := m) (i := i + 1) (v := 10 * v + T i - 48) (h.fq (f.mono (fun a k q => by omega)) (by rw [gI_sI, if_pos ⟨rfl, rfl⟩]) (by rw [gI_sI, if_neg (by omega)]; exact h.2.2.2.2.1) (by omega)) (by omega) (by omega) (by omega) (by omega)
        refine ⟨B, ?_, by rw [if_pos e']; exact b2, (f.mono (fun a k q => by omega)).tr b3, by rw [if_pos e']; exact b4⟩
        rw [decide_eq_true e', if_neg b2t', obind_some, if_pos e1]
        simp only [bnd_eq]
        rw [h.2.2.2.1, wsuc (by omega), show wrap (10 * v) = 10 * v from wrap_eq (by omega) (by omega), show wrap (10 * v + T i) = 10 * v + T i from wrap_eq (by omega) (by omega), show wrap (10 * v + T i - 48) = 10 * v + T i - 48 from wrap_eq (by omega) (by omega), show wrap (3 - ((k + 1 : Nat) : Int) + 1) = 3 - (k : Int) from by rw [wrap_eq (by omega) (by omega)]; omega]
        exact b1
      · rw [decide_eq_false e, if_pos b2f', if_neg e]
        exact fin h
theorem X9_num_yes {N : Nat} {C : AH} {n i t x : Nat} {T : Nat → Int} (hN0 : 100 ≤ N) (ht : t < 30) (hx : x < 4) (h : TC C n T i t) (e : dig n T i) : ∃ B, fX9_takesNumber N C x = some (1, B) ∧ TC B n T (nmI n T i) t ∧ FQ (fun a j => (a = 349 ∧ j = 35) ∨ a = 370 ∧ j = 4 * t + x) C B ∧ gI B 370 (4 * t + x) = nmV n T i := by
  obtain ⟨B, b1, b2, b3, b4⟩ := X9_num20 (N := N) ht hx (k := 3) (m := N) (v := 0) h (by omega) (by omega) (by omega) (by decide)
  refine ⟨B, ?_, b2, b3, b4⟩
  unfold fX9_takesNumber
  rw [X9_sign h, obind_some, X9_digit, obind_some, decide_eq_true e, if_neg b2t']
  exact b1
theorem X9_num_no {N : Nat} {C : AH} {n i t : Nat} {x : Int} {T : Nat → Int} (h : TC C n T i t) (e : ¬ dig n T i) : fX9_takesNumber N C x = some (0, C) := by
  unfold fX9_takesNumber
  rw [X9_sign h, obind_some, X9_digit, obind_some, decide_eq_false e, if_pos b2f']
