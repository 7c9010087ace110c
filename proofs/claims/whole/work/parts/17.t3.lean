/-! a good row -/
def doneM (M : MR) (p : Nat) : Int := sumN (fun o => if M 7 o = 2 ∧ M 8 o = (p : Int) then 1 else 0) (M 18 3).toNat 0
def MPs (M : MR) : Prop := ∀ p : Nat, (p : Int) < M 18 1 → (1 ≤ M 11 p ∧ M 11 p ≤ 4) ∧ M 13 p = doneM M p
def MBs (M : MR) : Prop := ∀ b : Nat, (b : Int) < M 18 2 → (1 ≤ M 14 b ∧ M 14 b ≤ 4) ∧ 0 ≤ M 15 b ∧ M 15 b ≤ M 16 b ∧ M 15 b ≤ 901 ∧ M 16 b ≤ 906
def RU (M : MR) (x : Int) : Prop := ∃ h len set to b : Nat, x = pkM h len set to b ∧ h ≤ 900 ∧ (1 ≤ len ∧ len ≤ 6) ∧ (set < 64 ∧ set < 2 ^ (M 18 1).toNat) ∧ to < 2 ∧ (b : Int) < M 18 2
def MRs (M : MR) : Prop := ∀ k : Nat, (k : Int) < M 18 4 → RU M (M 17 k)
def GD (M : MR) : Prop := MRu M ∧ MC M ∧ MOs M ∧ MPs M ∧ MBs M ∧ M 18 4 = sumN (M 15) (M 18 2).toNat 0 ∧ MRs M
theorem GD.b3 {M : MR} (h : GD M) {b : Nat} (hb : (b : Int) < M 18 2) : b < 3 := by
  have := h.2.1.2.2.1
  omega
theorem GD.p6 {M : MR} (h : GD M) {p : Nat} (hp : (p : Int) < M 18 1) : p < 6 := by
  have := h.2.1.2.1
  omega
theorem GD.o16 {M : MR} (h : GD M) {o : Nat} (ho : (o : Int) < M 18 3) : o < 16 := by
  have := h.2.1.2.2.2.1
  omega
theorem GD.room {M : MR} (h : GD M) {b : Nat} (hb : (b : Int) < M 18 2) (h9 : M 16 b ≤ 900) : M 15 b ≤ 900 ∧ M 18 4 < 2703 := by
  have hB := h.2.2.2.2.1
  have hs := h.2.2.2.2.2.1
  have h3 := h.b3 hb
  have hb2 := hB b hb
  refine ⟨by omega, ?_⟩
  have c := h.2.1.2.2.1
  obtain ⟨n, hn⟩ : ∃ n : Nat, M 18 2 = n := ⟨(M 18 2).toNat, by omega⟩
  rw [hn, Int.toNat_natCast] at hs
  rw [hs]
  have hn3 : n ≤ 3 := by omega
  have q : ∀ i : Nat, i < n → M 15 i ≤ 901 := fun i hi => (hB i (by omega)).2.2.2.1
  match n, hn3, q with
  | 0, _, _ => omega
  | 1, _, q =>
    have := q 0 (by omega)
    simp only [sumN]
    omega
  | 2, _, q =>
    have := q 0 (by omega)
    have := q 1 (by omega)
    simp only [sumN, Nat.zero_add, Nat.reduceAdd]
    omega
  | 3, _, q =>
    have q0 := q 0 (by omega)
    have q1 := q 1 (by omega)
    have q2 := q 2 (by omega)
    simp only [sumN, Nat.zero_add, Nat.reduceAdd]
    have e : b = 0 ∨ b = 1 ∨ b = 2 := by omega
    rcases e with e | e | e <;> subst e <;> omega
/-! how an order is served -/
def fstN (f : Nat → Bool) : Nat → Nat → Option Nat
  | 0, _ => none
  | k + 1, a => if f a then some a else fstN f k (a + 1)
def fst2 (g : Nat → Nat → Bool) (m : Nat) : Nat → Nat → Option (Nat × Nat)
  | 0, _ => none
  | k + 1, a => match fstN (g a) m 0 with
    | some b => some (a, b)
    | none => fst2 g m k (a + 1)
def chM (M : MR) (f : Nat → Bool) (g : Nat → Nat → Bool) : Option (Nat × Int) :=
  match fstN f (M 18 1).toNat 0 with
  | some p => some (p, -1)
  | none => match fst2 g (M 18 2).toNat (M 18 1).toNat 0 with
    | some (p, b) => some (p, (b : Int))
    | none => none
theorem fstN_rng {f : Nat → Bool} : ∀ {k a b : Nat}, fstN f k a = some b → (a ≤ b ∧ b < a + k) ∧ f b = true
  | 0, a, b, h => by simp [fstN] at h
  | k + 1, a, b, h => by
    rw [fstN] at h
    by_cases hf : f a = true
    · rw [if_pos hf] at h
      cases h
      exact ⟨by omega, hf⟩
    · rw [if_neg hf] at h
      have := fstN_rng h
      exact ⟨by omega, this.2⟩
theorem fstN_none {f : Nat → Bool} : ∀ {k a : Nat}, fstN f k a = none ↔ ∀ i, a ≤ i → i < a + k → f i = false
  | 0, a => by simp [fstN]; intro i h1 h2; omega
  | k + 1, a => by
    rw [fstN]
    by_cases hf : f a = true
    · rw [if_pos hf]
      constructor
      · intro h
        cases h
      · intro h
        rw [h a (by omega) (by omega)] at hf
        cases hf
    · rw [if_neg hf, fstN_none]
      constructor
      · intro h i h1 h2
        by_cases e : i = a
        · rw [e]; exact Bool.not_eq_true _ |>.mp hf
        · exact h i (by omega) (by omega)
      · intro h i h1 h2
        exact h i (by omega) (by omega)
theorem fstN_congr {f g : Nat → Bool} : ∀ {k a : Nat}, (∀ i, a ≤ i → i < a + k → f i = g i) → fstN f k a = fstN g k a
  | 0, a, h => rfl
  | k + 1, a, h => by
    rw [fstN, fstN, h a (by omega) (by omega), fstN_congr (fun i h1 h2 => h i (by omega) (by omega))]
theorem fst2_congr {f g : Nat → Nat → Bool} {m : Nat} : ∀ {k a : Nat}, (∀ i, a ≤ i → i < a + k → ∀ j, j < m → f i j = g i j) → fst2 f m k a = fst2 g m k a
  | 0, a, h => rfl
  | k + 1, a, h => by
    rw [fst2, fst2, fstN_congr (f := f a) (g := g a) (fun j h1 h2 => h a (by omega) (by omega) j (by omega)), fst2_congr (fun i h1 h2 => h i (by omega) (by omega))]
theorem fst2_rng {g : Nat → Nat → Bool} {m : Nat} : ∀ {k a p b : Nat}, fst2 g m k a = some (p, b) → (a ≤ p ∧ p < a + k) ∧ b < m ∧ g p b = true
  | 0, a, p, b, h => by simp [fst2] at h
  | k + 1, a, p, b, h => by
    rw [fst2] at h
    cases hf : fstN (g a) m 0 with
    | some c =>
      rw [hf] at h
      cases h
      have := fstN_rng hf
      exact ⟨by omega, by omega, this.2⟩
    | none =>
      rw [hf] at h
      have := fst2_rng (k := k) (a := a + 1) h
      exact ⟨by omega, this.2⟩
theorem fst2_none {g : Nat → Nat → Bool} {m : Nat} : ∀ {k a : Nat}, fst2 g m k a = none ↔ ∀ i, a ≤ i → i < a + k → ∀ j, j < m → g i j = false
  | 0, a => by simp [fst2]; intro i h1 h2; omega
  | k + 1, a => by
    rw [fst2]
    cases hf : fstN (g a) m 0 with
    | some c =>
      have hc := fstN_rng hf
      constructor
      · intro h
        cases h
      · intro h
        rw [h a (by omega) (by omega) c (by omega)] at hc
        exact absurd hc.2 (by decide)
    | none =>
      have hc := fstN_none.mp hf
      show fst2 g m k (a + 1) = none ↔ _
      rw [fst2_none]
      constructor
      · intro h i h1 h2 j hj
        by_cases e : i = a
        · rw [e]; exact hc j (by omega) (by omega)
        · exact h i (by omega) (by omega) j hj
      · intro h i h1 h2 j hj
        exact h i (by omega) (by omega) j hj
theorem chM_congr {M : MR} {f f' : Nat → Bool} {g g' : Nat → Nat → Bool} (h1 : ∀ p : Nat, (p : Int) < M 18 1 → f p = f' p) (h2 : ∀ p : Nat, (p : Int) < M 18 1 → ∀ b : Nat, (b : Int) < M 18 2 → g p b = g' p b) : chM M f g = chM M f' g' := by
  unfold chM
  rw [fstN_congr (f := f) (g := f') (fun i _ h => h1 i (by omega)), fst2_congr (f := g) (g := g') (fun i _ h j hj => h2 i (by omega) j (by omega))]
theorem chM_rng {M : MR} {f : Nat → Bool} {g : Nat → Nat → Bool} {p : Nat} {b : Int} (h : chM M f g = some (p, b)) : (p : Int) < M 18 1 ∧ (b = -1 ∧ f p = true ∨ ∃ c : Nat, b = c ∧ (c : Int) < M 18 2 ∧ g p c = true) := by
  unfold chM at h
  cases hf : fstN f (M 18 1).toNat 0 with
  | some q =>
    rw [hf] at h
    cases h
    have := fstN_rng hf
    exact ⟨by omega, Or.inl ⟨rfl, this.2⟩⟩
  | none =>
    rw [hf] at h
    cases h2 : fst2 g (M 18 2).toNat (M 18 1).toNat 0 with
    | some q =>
      obtain ⟨q1, q2⟩ := q
      rw [h2] at h
      cases h
      have := fst2_rng h2
      exact ⟨by omega, Or.inr ⟨q2, rfl, by omega, this.2.2⟩⟩
    | none =>
      rw [h2] at h
      cases h
theorem chM_none {M : MR} {f : Nat → Bool} {g : Nat → Nat → Bool} : chM M f g = none ↔ (∀ p : Nat, (p : Int) < M 18 1 → f p = false) ∧ ∀ p : Nat, (p : Int) < M 18 1 → ∀ b : Nat, (b : Int) < M 18 2 → g p b = false := by
  unfold chM
  cases hf : fstN f (M 18 1).toNat 0 with
  | some q =>
    have hq := fstN_rng hf
    constructor
    · intro h
      cases h
    · intro h
      rw [h.1 q (by omega)] at hq
      exact absurd hq.2 (by decide)
  | none =>
    have hn := fstN_none.mp hf
    cases h2 : fst2 g (M 18 2).toNat (M 18 1).toNat 0 with
    | some q =>
      obtain ⟨q1, q2⟩ := q
      have hq := fst2_rng h2
      constructor
      · intro h
        cases h
      · intro h
        rw [h.2 q1 (by omega) q2 (by omega)] at hq
        exact absurd hq.2.2 (by decide)
    | none =>
      have hm := fst2_none.mp h2
      exact ⟨fun _ => ⟨fun p hp => hn p (by omega) (by omega), fun p hp b hb => hm p (by omega) (by omega) b (by omega)⟩, fun _ => rfl⟩
theorem b2t (B : AH) : ¬ (b2i true, B).1 = 0 := by
  show ¬ (1 : Int) = 0
  decide
theorem b2f (B : AH) : (b2i false, B).1 = 0 := rfl
theorem b2t' : ¬ b2i true = 0 := by decide
theorem b2f' : b2i false = 0 := rfl
def canT (M : MR) (o p : Nat) (h : Int) : Bool := decide (whyT M o p h = 0)
def canR (M : MR) (o p b : Nat) (h : Int) : Bool := decide (0 ≤ h - M 0 1) && (decide (whyRunM M b (h - M 0 1) (iShl 1 (p : Int)) = 0) && decide (whyM M o p h h (1 - M 15 b % 2) (rstM M p) = 0))
def FND (B : AH) (h p b : Int) : Prop := gI B 349 26 = h ∧ gI B 349 27 = p ∧ gI B 349 28 = b
theorem X9_finds {N : Nat} {A : AH} {h p b : Int} : ∃ B, fX9_finds N A h p b = some (1, B) ∧ FQ SS A B ∧ FND B h p b := by
  unfold fX9_finds
  simp only [bnd_eq]
  refine ⟨_, rfl, (((FQ.rf A).set (by unfold SS; omega)).set (by unfold SS; omega)).set (by unfold SS; omega), ?_, ?_, ?_⟩ <;> simp [gI_sI]
theorem X9_canRide {N : Nat} {A : AH} {o p b : Nat} {h : Int} (hN : 3000 ≤ N) (hG : GD (mvA A)) (ho : (o : Int) < mvA A 18 3) (hp : (p : Int) < mvA A 18 1) (hb : (b : Int) < mvA A 18 2) (hh : 0 ≤ h ∧ h ≤ 1000) : ∃ B, fX9_canRide N A o p h b = some (b2i (canR (mvA A) o p b h), B) ∧ FQ SS A B := by
  have r1 := hG.1.2.1
  have hB := (hG.2.2.2.2.1 b hb).2
  unfold fX9_canRide canR
  rw [bnd_eq, show gI A 350 1 = mvA A 0 1 from rfl, wrap_eq (by omega) (by omega)]
  by_cases h1 : h - mvA A 0 1 < 0
  · refine ⟨A, ?_, FQ.rf A⟩
    rw [if_pos h1, decide_eq_false (show ¬ (0 ≤ h - mvA A 0 1) by omega), Bool.false_and]
    rfl
  · obtain ⟨B, e, f⟩ := X9_whyNotRun (N := N) (A := A) (b := b) (h := h - mvA A 0 1) (set := iShl 1 (p : Int)) hN (hG.b3 hb) hG.2.1 hG.2.2.1 hB.1
    have fv := f.ev
    rw [if_neg h1, e, obind_some]
    refine ⟨B, ?_, f⟩
    by_cases h2 : whyRunM (mvA A) b (h - mvA A 0 1) (iShl 1 (p : Int)) = 0
    · rw [if_pos h2, X9_placeOfBoat (hG.b3 hb) (by rw [fv]; exact hB.1), obind_some, fv, wrap_eq (z := 1 - mvA A 15 b % 2) (by omega) (by omega), X9_whyNot (by omega) (hG.o16 ho) (hG.p6 hp) (by rw [fv]; exact hG.1) (by rw [fv]; exact hG.2.1) (by rw [fv]; exact hG.2.2.1) (by rw [fv]; exact hG.2.2.1 o ho), obind_some, fv]
      by_cases h3 : whyM (mvA A) o p h h (1 - mvA A 15 b % 2) (rstM (mvA A) p) = 0
      · rw [if_pos h3, decide_eq_true (show (0 ≤ h - mvA A 0 1) by omega), decide_eq_true h2, decide_eq_true h3]
        rfl
      · rw [if_neg h3]
        simp [h3, b2i]
    · rw [if_neg h2]
      simp [h2, b2i]
