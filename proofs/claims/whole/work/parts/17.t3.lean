/-! a good row -/
def doneM (M : MR) (p : Nat) : Int := sumN (fun o => if M 7 o = 2 ∧ M 8 o = (p : Int) then 1 else 0) (M 18 3).toNat 0
def MPs (M : MR) : Prop := ∀ p : Nat, (p : Int) < M 18 1 → (1 ≤ M 11 p ∧ M 11 p ≤ 4) ∧ M 13 p = doneM M p
def MBs (M : MR) : Prop := ∀ b : Nat, (b : Int) < M 18 2 → (1 ≤ M 14 b ∧ M 14 b ≤ 4) ∧ 0 ≤ M 15 b ∧ M 15 b ≤ M 16 b ∧ M 15 b ≤ 901 ∧ M 16 b ≤ 906
def RU (M : MR) (x : Int) : Prop := ∃ h len set to b : Nat, x = pkM h len set to b ∧ h ≤ 900 ∧ (1 ≤ len ∧ len ≤ 6) ∧ (set < 64 ∧ set < 2 ^ (M 18 1).toNat) ∧ to < 2 ∧ (b : Int) < M 18 2
def MRs (M : MR) : Prop := ∀ k : Nat, (k : Int) < M 18 4 → RU M (M 17 k)
def GD (M : MR) : Prop := MRu M ∧ MC M ∧ MOs M ∧ MPs M ∧ MBs M ∧ M 18 4 = sumN (M 15) (M 18 2).toNat 0 ∧ MRs M
theorem GD.b3 {M : MR} (h : GD M) {b : Nat} (hb : (b : Int) < M 18 2) : b < 3 := by
  have := h.2.1.2.2.1
  omega
theorem GD.p6 {M : MR} (h : GD M) {p : Nat} (hp : (p : Int) < M 18 1) : p < 6 := by
  have := h.2.1.2.1
  omega
theorem GD.o16 {M : MR} (h : GD M) {o : Nat} (ho : (o : Int) < M 18 3) : o < 16 := by
  have := h.2.1.2.2.2.1
  omega
theorem GD.room {M : MR} (h : GD M) {b : Nat} (hb : (b : Int) < M 18 2) (h9 : M 16 b ≤ 900) : M 15 b ≤ 900 ∧ M 18 4 < 2703 := by
  have hB := h.2.2.2.2.1
  have hs := h.2.2.2.2.2.1
  have h3 := h.b3 hb
  have hb2 := hB b hb
  refine ⟨by omega, ?_⟩
  have c := h.2.1.2.2.1
  obtain ⟨n, hn⟩ : ∃ n : Nat, M 18 2 = n := ⟨(M 18 2).toNat, by omega⟩
  rw [hn, Int.toNat_natCast] at hs
  rw [hs]
  have hn3 : n ≤ 3 := by omega
  have q : ∀ i : Nat, i < n → M 15 i ≤ 901 := fun i hi => (hB i (by omega)).2.2.2.1
  match n, hn3, q with
  | 0, _, _ => omega
  | 1, _, q =>
    have := q 0 (by omega)
    simp only [sumN]
    omega
  | 2, _, q =>
    have := q 0 (by omega)
    have := q 1 (by omega)
    simp only [sumN]
    omega
  | 3, _, q =>
    have q0 := q 0 (by omega)
    have q1 := q 1 (by omega)
    have q2 := q 2 (by omega)
    simp only [sumN]
    have e : b = 0 ∨ b = 1 ∨ b = 2 := by omega
    rcases e with e | e | e <;> subst e <;> omega
/-! how an order is served -/
def fstN (f : Nat → Bool) : Nat → Nat → Option Nat
  | 0, _ => none
  | k + 1, a => if f a then some a else fstN f k (a + 1)
def fst2 (g : Nat → Nat → Bool) (m : Nat) : Nat → Nat → Option (Nat × Nat)
  | 0, _ => none
  | k + 1, a => match fstN (g a) m 0 with
    | some b => some (a, b)
    | none => fst2 g m k (a + 1)
def chM (M : MR) (f : Nat → Bool) (g : Nat → Nat → Bool) : Option (Nat × Int) :=
  match fstN f (M 18 1).toNat 0 with
  | some p => some (p, -1)
  | none => match fst2 g (M 18 2).toNat (M 18 1).toNat 0 with
    | some (p, b) => some (p, (b : Int))
    | none => none
theorem fstN_rng {f : Nat → Bool} : ∀ {k a b : Nat}, fstN f k a = some b → (a ≤ b ∧ b < a + k) ∧ f b = true
  | 0, a, b, h => by simp [fstN] at h
  | k + 1, a, b, h => by
    rw [fstN] at h
    by_cases hf : f a = true
    · rw [if_pos hf] at h
      cases h
      exact ⟨by omega, hf⟩
    · rw [if_neg hf] at h
      have := fstN_rng h
      exact ⟨by omega, this.2⟩
theorem fstN_none {f : Nat → Bool} : ∀ {k a : Nat}, fstN f k a = none ↔ ∀ i, a ≤ i → i < a + k → f i = false
  | 0, a => by simp [fstN]; intro i h1 h2; omega
  | k + 1, a => by
    rw [fstN]
    by_cases hf : f a = true
    · rw [if_pos hf]
      constructor
      · intro h
        cases h
      · intro h
        rw [h a (by omega) (by omega)] at hf
        cases hf
    · rw [if_neg hf, fstN_none]
      constructor
      · intro h i h1 h2
        by_cases e : i = a
        · rw [e]; exact Bool.not_eq_true _ |>.mp hf
        · exact h i (by omega) (by omega)
      · intro h i h1 h2
        exact h i (by omega) (by omega)
theorem fstN_congr {f g : Nat → Bool} : ∀ {k a : Nat}, (∀ i, a ≤ i → i < a + k → f i = g i) → fstN f k a = fstN g k a
  | 0, a, h => rfl
  | k + 1, a, h => by
    rw [fstN, fstN, h a (by omega) (by omega), fstN_congr (fun i h1 h2 => h i (by omega) (by omega))]
theorem fst2_congr {f g : Nat → Nat → Bool} {m : Nat} : ∀ {k a : Nat}, (∀ i, a ≤ i → i < a + k → ∀ j, j < m → f i j = g i j) → fst2 f m k a = fst2 g m k a
  | 0, a, h => rfl
  | k + 1, a, h => by
    rw [fst2, fst2, fstN_congr (f := f a) (g := g a) (fun j h1 h2 => h a (by omega) (by omega) j (by omega)), fst2_congr (fun i h1 h2 => h i (by omega) (by omega))]
theorem fst2_rng {g : Nat → Nat → Bool} {m : Nat} : ∀ {k a p b : Nat}, fst2 g m k a = some (p, b) → (a ≤ p ∧ p < a + k) ∧ b < m ∧ g p b = true
  | 0, a, p, b, h => by simp [fst2] at h
  | k + 1, a, p, b, h => by
    rw [fst2] at h
    cases hf : fstN (g a) m 0 with
    | some c =>
      rw [hf] at h
      cases h
      have := fstN_rng hf
      exact ⟨by omega, by omega, this.2⟩
    | none =>
      rw [hf] at h
      have := fst2_rng (k := k) (a := a + 1) h
      exact ⟨by omega, this.2⟩
theorem fst2_none {g : Nat → Nat → Bool} {m : Nat} : ∀ {k a : Nat}, fst2 g m k a = none ↔ ∀ i, a ≤ i → i < a + k → ∀ j, j < m → g i j = false
  | 0, a => by simp [fst2]; intro i h1 h2; omega
  | k + 1, a => by
    rw [fst2]
    cases hf : fstN (g a) m 0 with
    | some c =>
      have hc := fstN_rng hf
      constructor
      · intro h
        cases h
      · intro h
        rw [h a (by omega) (by omega) c (by omega)] at hc
        exact absurd hc.2 (by decide)
    | none =>
      have hc := fstN_none.mp hf
      show fst2 g m k (a + 1) = none ↔ _
      rw [fst2_none]
      constructor
      · intro h i h1 h2 j hj
        by_cases e : i = a
        · rw [e]; exact hc j (by omega) (by omega)
        · exact h i (by omega) (by omega) j hj
      · intro h i h1 h2 j hj
        exact h i (by omega) (by omega) j hj
theorem chM_congr {M : MR} {f f' : Nat → Bool} {g g' : Nat → Nat → Bool} (h1 : ∀ p : Nat, (p : Int) < M 18 1 → f p = f' p) (h2 : ∀ p : Nat, (p : Int) < M 18 1 → ∀ b : Nat, (b : Int) < M 18 2 → g p b = g' p b) : chM M f g = chM M f' g' := by
  unfold chM
  rw [fstN_congr (f := f) (g := f') (fun i _ h => h1 i (by omega)), fst2_congr (f := g) (g := g') (fun i _ h j hj => h2 i (by omega) j (by omega))]
theorem chM_rng {M : MR} {f : Nat → Bool} {g : Nat → Nat → Bool} {p : Nat} {b : Int} (h : chM M f g = some (p, b)) : (p : Int) < M 18 1 ∧ (b = -1 ∧ f p = true ∨ ∃ c : Nat, b = c ∧ (c : Int) < M 18 2 ∧ g p c = true) := by
  unfold chM at h
  cases hf : fstN f (M 18 1).toNat 0 with
  | some q =>
    rw [hf] at h
    cases h
    have := fstN_rng hf
    exact ⟨by omega, Or.inl ⟨rfl, this.2⟩⟩
  | none =>
    rw [hf] at h
    cases h2 : fst2 g (M 18 2).toNat (M 18 1).toNat 0 with
    | some q =>
      obtain ⟨q1, q2⟩ := q
      rw [h2] at h
      cases h
      have := fst2_rng h2
      exact ⟨by omega, Or.inr ⟨q2, rfl, by omega, this.2.2⟩⟩
    | none =>
      rw [h2] at h
      cases h
theorem chM_none {M : MR} {f : Nat → Bool} {g : Nat → Nat → Bool} : chM M f g = none ↔ (∀ p : Nat, (p : Int) < M 18 1 → f p = false) ∧ ∀ p : Nat, (p : Int) < M 18 1 → ∀ b : Nat, (b : Int) < M 18 2 → g p b = false := by
  unfold chM
  cases hf : fstN f (M 18 1).toNat 0 with
  | some q =>
    have hq := fstN_rng hf
    constructor
    · intro h
      cases h
    · intro h
      rw [h.1 q (by omega)] at hq
      exact absurd hq.2 (by decide)
  | none =>
    have hn := fstN_none.mp hf
    cases h2 : fst2 g (M 18 2).toNat (M 18 1).toNat 0 with
    | some q =>
      obtain ⟨q1, q2⟩ := q
      have hq := fst2_rng h2
      constructor
      · intro h
        cases h
      · intro h
        rw [h.2 q1 (by omega) q2 (by omega)] at hq
        exact absurd hq.2.2 (by decide)
    | none =>
      have hm := fst2_none.mp h2
      exact ⟨fun _ => ⟨fun p hp => hn p (by omega) (by omega), fun p hp b hb => hm p (by omega) (by omega) b (by omega)⟩, fun _ => rfl⟩
def canT (M : MR) (o p : Nat) (h : Int) : Bool := decide (whyT M o p h = 0)
def canR (M : MR) (o p b : Nat) (h : Int) : Bool := decide (0 ≤ h - M 0 1) && (decide (whyRunM M b (h - M 0 1) (iShl 1 (p : Int)) = 0) && decide (whyM M o p h h (1 - M 15 b % 2) (rstM M p) = 0))
def FND (B : AH) (h p b : Int) : Prop := gI B 349 26 = h ∧ gI B 349 27 = p ∧ gI B 349 28 = b
theorem X9_finds {N : Nat} {A : AH} {h p b : Int} : ∃ B, fX9_finds N A h p b = some (1, B) ∧ FQ SS A B ∧ FND B h p b := by
  unfold fX9_finds
  simp only [bnd_eq]
  refine ⟨_, rfl, (((FQ.rf A).set (by unfold SS; omega)).set (by unfold SS; omega)).set (by unfold SS; omega), ?_, ?_, ?_⟩ <;> simp [gI_sI]
theorem X9_canRide {N : Nat} {A : AH} {o p b : Nat} {h : Int} (hN : 3000 ≤ N) (hG : GD (mvA A)) (ho : (o : Int) < mvA A 18 3) (hp : (p : Int) < mvA A 18 1) (hb : (b : Int) < mvA A 18 2) (hh : 0 ≤ h ∧ h ≤ 1000) : ∃ B, fX9_canRide N A o p h b = some (b2i (canR (mvA A) o p b h), B) ∧ FQ SS A B := by
  have r1 := hG.1.2.1
  have hB := (hG.2.2.2.2.1 b hb).2
  unfold fX9_canRide canR
  rw [bnd_eq, show gI A 350 1 = mvA A 0 1 from rfl, wrap_eq (by omega) (by omega)]
  by_cases h1 : h - mvA A 0 1 < 0
  · refine ⟨A, ?_, FQ.rf A⟩
    rw [if_pos h1]
    simp [show ¬ (0 ≤ h - mvA A 0 1) by omega, b2i]
  · obtain ⟨B, e, f⟩ := X9_whyNotRun (N := N) (A := A) (b := b) (h := h - mvA A 0 1) (set := iShl 1 (p : Int)) hN (hG.b3 hb) hG.2.1 hG.2.2.1 hB.1
    have fv := f.ev
    rw [if_neg h1, e, obind_some]
    refine ⟨B, ?_, f⟩
    by_cases h2 : whyRunM (mvA A) b (h - mvA A 0 1) (iShl 1 (p : Int)) = 0
    · rw [if_pos h2, X9_placeOfBoat (hG.b3 hb) (by rw [fv]; exact hB.1), obind_some, fv, wrap_eq (z := 1 - mvA A 15 b % 2) (by omega) (by omega), X9_whyNot (by omega) (hG.o16 ho) (hG.p6 hp) (by rw [fv]; exact hG.1) (by rw [fv]; exact hG.2.1) (by rw [fv]; exact hG.2.2.1) (by rw [fv]; exact hG.2.2.1 o ho), obind_some, fv]
      by_cases h3 : whyM (mvA A) o p h h (1 - mvA A 15 b % 2) (rstM (mvA A) p) = 0
      · rw [if_pos h3]
        simp [show (0 ≤ h - mvA A 0 1) by omega, h2, h3, b2i]
      · rw [if_neg h3]
        simp [h3, b2i]
    · rw [if_neg h2]
      simp [h2, b2i]
theorem X9_findsAt47 {N : Nat} {o p : Nat} {h : Int} {k36 : AH → Int → Option (Int × AH)} (hN : 3000 ≤ N) (hh : 0 ≤ h ∧ h ≤ 1000) : ∀ {k n a : Nat} {A : AH}, GD (mvA A) → (o : Int) < mvA A 18 3 → (p : Int) < mvA A 18 1 → (a : Int) + k = mvA A 18 2 → k < n →
    (∃ b B, fstN (fun b => canR (mvA A) o p b h) k a = some b ∧ fX9_findsAt_47 N k36 o h p n A a = some (1, B) ∧ FQ SS A B ∧ FND B h p b) ∨
    (∃ B, fstN (fun b => canR (mvA A) o p b h) k a = none ∧ fX9_findsAt_47 N k36 o h p n A a = k36 B ((p + 1 : Nat) : Int) ∧ FQ SS A B)
  | 0, n, a, A, hG, ho, hp, hk, hn => by
    match n, hn with
    | n + 1, _ =>
      have hp6 := hG.p6 hp
      refine Or.inr ⟨A, rfl, ?_, FQ.rf A⟩
      rw [fX9_findsAt_47, show gI A 349 21 = mvA A 18 2 from rfl, if_pos (by omega), bnd_eq, wrap_eq (by omega) (by omega)]
      rfl
  | k + 1, n, a, A, hG, ho, hp, hk, hn => by
    have c1 := hG.2.1.2.2.1
    have ea : wrap ((a : Int) + 1) = ((a + 1 : Nat) : Int) := wrap_eq (by omega) (by omega)
    match n, hn with
    | n + 1, hn =>
      obtain ⟨B, e, f⟩ := X9_canRide (N := N) (A := A) (o := o) (p := p) (b := a) (h := h) hN hG ho hp (by omega) hh
      have fv := f.ev
      rw [fX9_findsAt_47, show gI A 349 21 = mvA A 18 2 from rfl, if_neg (by omega), e, obind_some, fstN]
      by_cases hc : canR (mvA A) o p a h = true
      · obtain ⟨C, e2, f2, f3⟩ := X9_finds (N := N) (A := B) (h := h) (p := p) (b := a)
        refine Or.inl ⟨a, C, by rw [if_pos hc], ?_, f.tr f2, f3⟩
        rw [hc, if_neg (by decide), e2, obind_some]
      · rw [if_neg hc, Bool.not_eq_true _ |>.mp hc, if_pos (by decide), bnd_eq, ea]
        rcases X9_findsAt47 (N := N) (o := o) (p := p) (h := h) (k36 := k36) hN hh (k := k) (n := n) (a := a + 1) (A := B) (by rw [fv]; exact hG) (by rw [fv]; exact ho) (by rw [fv]; exact hp) (by rw [fv]; omega) (by omega) with ⟨b, C, q1, q2, q3, q4⟩ | ⟨C, q1, q2, q3⟩
        · rw [fv] at q1
          exact Or.inl ⟨b, C, q1, q2, f.tr q3, q4⟩
        · rw [fv] at q1
          exact Or.inr ⟨C, q1, q2, f.tr q3⟩
theorem X9_findsAt36 {N : Nat} {o : Nat} {h : Int} (hN : 3000 ≤ N) (hh : 0 ≤ h ∧ h ≤ 1000) : ∀ {k n a : Nat} {A : AH}, GD (mvA A) → (o : Int) < mvA A 18 3 → (a : Int) + k = mvA A 18 1 → k < n →
    (∃ p b B, fst2 (fun p b => canR (mvA A) o p b h) (mvA A 18 2).toNat k a = some (p, b) ∧ fX9_findsAt_36 N o h n A a = some (1, B) ∧ FQ SS A B ∧ FND B h p b) ∨
    (∃ B, fst2 (fun p b => canR (mvA A) o p b h) (mvA A 18 2).toNat k a = none ∧ fX9_findsAt_36 N o h n A a = some (0, B) ∧ FQ SS A B)
  | 0, n, a, A, hG, ho, hk, hn => by
    match n, hn with
    | n + 1, _ =>
      refine Or.inr ⟨A, rfl, ?_, FQ.rf A⟩
      rw [fX9_findsAt_36, show gI A 349 20 = mvA A 18 1 from rfl, if_pos (by omega)]
  | k + 1, n, a, A, hG, ho, hk, hn => by
    have c1 := hG.2.1.2.1
    have c2 := hG.2.1.2.2.1
    match n, hn with
    | n + 1, hn =>
      rw [fX9_findsAt_36, show gI A 349 20 = mvA A 18 1 from rfl, if_neg (by omega), fst2]
      rcases X9_findsAt47 (N := N) (o := o) (p := a) (h := h) (k36 := fun A x3 => fX9_findsAt_36 N o h n A x3) hN hh (k := (mvA A 18 2).toNat) (n := N) (a := 0) (A := A) hG ho (by omega) (by omega) (by omega) with ⟨b, C, q1, q2, q3, q4⟩ | ⟨C, q1, q2, q3⟩
      · rw [q1]
        exact Or.inl ⟨a, b, C, rfl, q2, q3, q4⟩
      · have fv := q3.ev
        rw [q1]
        rcases X9_findsAt36 (N := N) (o := o) (h := h) hN hh (k := k) (n := n) (a := a + 1) (A := C) (by rw [fv]; exact hG) (by rw [fv]; exact ho) (by rw [fv]; omega) (by omega) with ⟨p, b, D, r1, r2, r3, r4⟩ | ⟨D, r1, r2, r3⟩
        · rw [fv] at r1
          exact Or.inl ⟨p, b, D, r1, q2.trans r2, q3.tr r3, r4⟩
        · rw [fv] at r1
          exact Or.inr ⟨D, r1, q2.trans r2, q3.tr r3⟩
theorem X9_findsAt2 {N : Nat} {o : Nat} {h : Int} (hN : 3000 ≤ N) (hh : 0 ≤ h ∧ h ≤ 1000) : ∀ {k n a : Nat} {A : AH}, GD (mvA A) → (o : Int) < mvA A 18 3 → (a : Int) + k = mvA A 18 1 → k < n →
    (∃ p B, fstN (fun p => canT (mvA A) o p h) k a = some p ∧ fX9_findsAt_2 N o h n A a = some (1, B) ∧ FQ SS A B ∧ FND B h p (-1)) ∨
    (∃ B, fstN (fun p => canT (mvA A) o p h) k a = none ∧ fX9_findsAt_2 N o h n A a = fX9_findsAt_36 N o h N B 0 ∧ FQ SS A B)
  | 0, n, a, A, hG, ho, hk, hn => by
    match n, hn with
    | n + 1, _ =>
      refine Or.inr ⟨A, rfl, ?_, FQ.rf A⟩
      rw [fX9_findsAt_2, show gI A 349 20 = mvA A 18 1 from rfl, if_pos (by omega)]
  | k + 1, n, a, A, hG, ho, hk, hn => by
    have c1 := hG.2.1.2.1
    have ea : wrap ((a : Int) + 1) = ((a + 1 : Nat) : Int) := wrap_eq (by omega) (by omega)
    match n, hn with
    | n + 1, hn =>
      rw [fX9_findsAt_2, show gI A 349 20 = mvA A 18 1 from rfl, if_neg (by omega), X9_whyNotTrip hN (hG.o16 ho) (by omega) hG.1 hG.2.1 hG.2.2.1 (hG.2.2.1 o ho), obind_some, fstN]
      by_cases hc : whyT (mvA A) o a h = 0
      · obtain ⟨C, e2, f2, f3⟩ := X9_finds (N := N) (A := setL A (lastM (mvA A) a)) (h := h) (p := a) (b := -1)
        refine Or.inl ⟨a, C, by rw [if_pos (show canT (mvA A) o a h = true from decide_eq_true hc)], ?_, (FQ_setL A _).tr f2, f3⟩
        rw [if_pos hc, e2, obind_some]
      · rw [if_neg hc, if_neg (show ¬ canT (mvA A) o a h = true from fun z => hc (of_decide_eq_true z)), bnd_eq, ea]
        have fv : mvA (setL A (lastM (mvA A) a)) = mvA A := mvA_setL A _
        rcases X9_findsAt2 (N := N) (o := o) (h := h) hN hh (k := k) (n := n) (a := a + 1) (A := setL A (lastM (mvA A) a)) (by rw [fv]; exact hG) (by rw [fv]; exact ho) (by rw [fv]; omega) (by omega) with ⟨p, D, r1, r2, r3, r4⟩ | ⟨D, r1, r2, r3⟩
        · rw [fv] at r1
          exact Or.inl ⟨p, D, r1, r2, (FQ_setL A _).tr r3, r4⟩
        · rw [fv] at r1
          exact Or.inr ⟨D, r1, r2, (FQ_setL A _).tr r3⟩
def wayAt (M : MR) (o : Nat) (h : Int) : Option (Nat × Int) := chM M (fun p => canT M o p h) (fun p b => canR M o p b h)
theorem X9_findsAt {N : Nat} {o : Nat} {h : Int} {A : AH} (hN : 3000 ≤ N) (hh : 0 ≤ h ∧ h ≤ 1000) (hG : GD (mvA A)) (ho : (o : Int) < mvA A 18 3) :
    (∃ p b B, wayAt (mvA A) o h = some (p, b) ∧ fX9_findsAt N A o h = some (1, B) ∧ FQ SS A B ∧ FND B h p b) ∨ (∃ B, wayAt (mvA A) o h = none ∧ fX9_findsAt N A o h = some (0, B) ∧ FQ SS A B) := by
  have c1 := hG.2.1.2.1
  unfold wayAt chM fX9_findsAt
  rcases X9_findsAt2 (N := N) (o := o) (h := h) hN hh (k := (mvA A 18 1).toNat) (n := N) (a := 0) (A := A) hG ho (by omega) (by omega) with ⟨p, B, r1, r2, r3, r4⟩ | ⟨B, r1, r2, r3⟩
  · rw [r1]
    exact Or.inl ⟨p, -1, B, rfl, r2, r3, r4⟩
  · have fv := r3.ev
    rw [r1]
    rcases X9_findsAt36 (N := N) (o := o) (h := h) hN hh (k := (mvA A 18 1).toNat) (n := N) (a := 0) (A := B) (by rw [fv]; exact hG) (by rw [fv]; exact ho) (by rw [fv]; omega) (by omega) with ⟨p, b, D, q1, q2, q3, q4⟩ | ⟨D, q1, q2, q3⟩
    · rw [fv] at q1
      rw [q1]
      exact Or.inl ⟨p, b, D, rfl, r2.trans q2, r3.tr q3, q4⟩
    · rw [fv] at q1
      rw [q1]
      exact Or.inr ⟨D, rfl, r2.trans q2, r3.tr q3⟩
/-- the first hour from h on, among k, at which an order can be served, and how -/
def srvN (M : MR) (o : Nat) : Nat → Int → Option (Int × Nat × Int)
  | 0, _ => none
  | k + 1, h => if deepM M o h = true then (match wayAt M o h with
      | some c => some (h, c)
      | none => srvN M o k (h + 1)) else srvN M o k (h + 1)
theorem X9_canServe38 {N : Nat} {o : Nat} (hN : 3000 ≤ N) : ∀ {k n : Nat} {h : Int} {A : AH}, GD (mvA A) → (o : Int) < mvA A 18 3 → (h + k = mvA A 6 o + 1 ∨ k = 0 ∧ mvA A 6 o < h) → 0 ≤ h → k < n →
    (∃ t p b B, srvN (mvA A) o k h = some (t, p, b) ∧ fX9_canServe_38 N o n A h = some (1, B) ∧ FQ SS A B ∧ FND B t p b) ∨ (∃ B, srvN (mvA A) o k h = none ∧ fX9_canServe_38 N o n A h = some (0, B) ∧ FQ SS A B)
  | 0, n, h, A, hG, ho, hk, h0, hn => by
    match n, hn with
    | n + 1, _ =>
      refine Or.inr ⟨A, rfl, ?_, FQ.rf A⟩
      rw [fX9_canServe_38, ck16 (hG.o16 ho), show gI A 356 (o : Int).toNat = mvA A 6 o from rfl, if_pos (by omega)]
  | k + 1, n, h, A, hG, ho, hk, h0, hn => by
    have hM := hG.2.2.1 o ho
    have h6 := hM.2.2.2.1
    match n, hn with
    | n + 1, hn =>
      have ea : wrap (h + 1) = h + 1 := wrap_eq (by omega) (by omega)
      rw [fX9_canServe_38, ck16 (hG.o16 ho), show gI A 356 (o : Int).toNat = mvA A 6 o from rfl, if_neg (by omega), X9_isDeep (by omega) (hG.o16 ho) hG.1 hM h0 (by omega), obind_some, srvN]
      by_cases hd : deepM (mvA A) o h = true
      · rw [hd, if_neg (by decide), if_pos rfl]
        rcases X9_findsAt (N := N) (o := o) (h := h) (A := A) hN (by omega) hG ho with ⟨p, b, B, r1, r2, r3, r4⟩ | ⟨B, r1, r2, r3⟩
        · rw [r1, r2, obind_some]
          exact Or.inl ⟨h, p, b, B, rfl, rfl, r3, r4⟩
        · have fv := r3.ev
          rw [r1, r2, obind_some, if_pos rfl, bnd_eq, ea]
          rcases X9_canServe38 (N := N) (o := o) hN (k := k) (n := n) (h := h + 1) (A := B) (by rw [fv]; exact hG) (by rw [fv]; exact ho) (by rw [fv]; omega) (by omega) (by omega) with ⟨t, p, b, D, q1, q2, q3, q4⟩ | ⟨D, q1, q2, q3⟩
          · rw [fv] at q1
            exact Or.inl ⟨t, p, b, D, q1, q2, r3.tr q3, q4⟩
          · rw [fv] at q1
            exact Or.inr ⟨D, q1, q2, r3.tr q3⟩
      · rw [if_neg hd, Bool.not_eq_true _ |>.mp hd, if_pos (by decide), bnd_eq, ea]
        exact X9_canServe38 (N := N) (o := o) hN (k := k) (n := n) (h := h + 1) (A := A) hG ho (by omega) (by omega) (by omega)
def servM (M : MR) (o : Nat) : Option (Int × Nat × Int) := srvN M o (M 6 o - max (M 18 0) (M 5 o) + 1).toNat (max (M 18 0) (M 5 o))
theorem X9_canServe {N : Nat} {o : Nat} {A : AH} (hN : 3000 ≤ N) (hG : GD (mvA A)) (ho : (o : Int) < mvA A 18 3) (h7 : mvA A 7 o = 0) :
    (∃ t p b B, servM (mvA A) o = some (t, p, b) ∧ fX9_canServe N A o = some (1, B) ∧ FQ SS A B ∧ FND B t p b) ∨ (∃ B, servM (mvA A) o = none ∧ fX9_canServe N A o = some (0, B) ∧ FQ SS A B) := by
  have c0 := hG.2.1.1
  have hM := hG.2.2.1 o ho
  have h6 := hM.2.2.2.1
  have e : fX9_canServe N A o = fX9_canServe_38 N o N A (max (mvA A 18 0) (mvA A 5 o)) := by
    unfold fX9_canServe
    rw [ck16 (hG.o16 ho), ck16 (hG.o16 ho), ck16 (hG.o16 ho), show gI A 357 (o : Int).toNat = mvA A 7 o from rfl, if_pos h7, show gI A 355 (o : Int).toNat = mvA A 5 o from rfl, show gI A 349 19 = mvA A 18 0 from rfl]
    by_cases hc : mvA A 5 o ≤ mvA A 18 0
    · rw [if_pos hc, bnd_eq, show max (mvA A 18 0) (mvA A 5 o) = mvA A 18 0 by omega]
    · rw [if_neg hc, bnd_eq, show max (mvA A 18 0) (mvA A 5 o) = mvA A 5 o by omega]
  rw [e]
  unfold servM
  exact X9_canServe38 hN hG ho (by omega) (by omega) (by omega)
theorem X9_canServe_no {N : Nat} {o : Nat} {A : AH} (ho : o < 16) (h7 : ¬ mvA A 7 o = 0) : fX9_canServe N A o = some (0, A) := by
  unfold fX9_canServe
  rw [ck16 ho, show gI A 357 (o : Int).toNat = mvA A 7 o from rfl, if_neg h7]
/-- the row after an order is served -/
def takeM (M : MR) (o : Nat) (t : Int) (p : Nat) (b : Int) : MR := plM (if b < 0 then M else goM M b.toNat (t - M 0 1) (iShl 1 (p : Int))) o p t
theorem srvN_spec {M : MR} {o : Nat} : ∀ {k : Nat} {h t : Int} {p : Nat} {b : Int}, srvN M o k h = some (t, p, b) → (h ≤ t ∧ t < h + k) ∧ deepM M o t = true ∧ wayAt M o t = some (p, b)
  | 0, h, t, p, b, e => by simp [srvN] at e
  | k + 1, h, t, p, b, e => by
    rw [srvN] at e
    by_cases hd : deepM M o h = true
    · rw [if_pos hd] at e
      cases hw : wayAt M o h with
      | some c =>
        rw [hw] at e
        cases e
        exact ⟨by omega, hd, hw⟩
      | none =>
        rw [hw] at e
        have := srvN_spec (k := k) e
        exact ⟨by omega, this.2⟩
    · rw [if_neg hd] at e
      have := srvN_spec (k := k) e
      exact ⟨by omega, this.2⟩
theorem X9_serves {N : Nat} {o : Nat} {A : AH} {t : Int} {p : Nat} {b : Int} (hN : 3000 ≤ N) (hG : GD (mvA A)) (ho : o < 16) (hF : FND A t p b) (ht : 0 ≤ t ∧ t ≤ 900) (hb : b = -1 ∨ ∃ c : Nat, b = c ∧ (c : Int) < mvA A 18 2 ∧ mvA A 16 c ≤ t - mvA A 0 1 ∧ 0 ≤ t - mvA A 0 1) : ∃ B, fX9_serves N A o = some (t, B) ∧ mvA B = takeM (mvA A) o t p b ∧ FQ SR A B := by
  obtain ⟨f1, f2, f3⟩ := hF
  have r1 := hG.1.2.1
  have h36 : ∀ {C : AH} {x : Int}, gI C 349 26 = t → gI C 349 27 = p → x ≤ t → ∃ B, fX9_serves_36 N C o x = some (t, B) ∧ mvA B = plM (mvA C) o p t ∧ FQ SR C B := by
    intro C x g1 g2 hx
    obtain ⟨B, e, e2, f⟩ := X9_plans (N := N) (A := C) (o := o) (p := p) (h := t) ho
    refine ⟨B, ?_, e2, f⟩
    unfold fX9_serves_36
    rw [g1, g2, e, obind_some]
    have g3 : gI B 349 26 = t := (f.2.2 349 26 (by unfold SR; omega)).trans g1
    rw [g3, if_pos hx]
  unfold fX9_serves takeM
  rw [f3, f1, f2]
  rcases hb with hb | ⟨c, hb, hc, h16, hs⟩
  · subst hb
    rw [if_neg (by decide), if_pos (by decide)]
    exact h36 f1 f2 ht.1
  · subst hb
    have hB := (hG.2.2.2.2.1 c hc).2
    have hroom := hG.room hc (by omega)
    have hm := hG.2.1.2.2.2.2
    rw [if_pos (by omega), if_neg (by omega), show gI A 350 1 = mvA A 0 1 from rfl, wrap_eq (by omega) (by omega), Int.toNat_natCast]
    obtain ⟨B, e, e2, f⟩ := X9_goes (N := N) (A := A) (b := c) (h := t - mvA A 0 1) (set := iShl 1 (p : Int)) (hG.b3 hc) hG.1 ⟨hB.1, hroom.1⟩ ⟨hm.1, hroom.2⟩ ⟨hs, by omega⟩
    rw [e, obind_some]
    have k1 : gI B 349 26 = t := (f.2.2 349 26 (by unfold SR; omega)).trans f1
    have k2 : gI B 349 27 = p := (f.2.2 349 27 (by unfold SR; omega)).trans f2
    obtain ⟨D, q1, q2, q3⟩ := h36 (C := B) (x := t - mvA A 0 1 + mvA A 0 1) k1 k2 (by omega)
    rw [e2] at q2
    exact ⟨D, q1, q2, f.tr q3⟩
