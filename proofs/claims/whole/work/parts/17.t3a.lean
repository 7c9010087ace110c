theorem X9_findsAt47 {N : Nat} {o p : Nat} {h : Int} {k36 : AH → Int → Option (Int × AH)} (hN : 3000 ≤ N) (hh : 0 ≤ h ∧ h ≤ 1000) : ∀ {k n a : Nat} {A : AH}, GD (mvA A) → (o : Int) < mvA A 18 3 → (p : Int) < mvA A 18 1 → (a : Int) + k = mvA A 18 2 → k < n →
    (∃ b B, fstN (fun b => canR (mvA A) o p b h) k a = some b ∧ fX9_findsAt_47 N k36 o h p n A a = some (1, B) ∧ FQ SS A B ∧ FND B h p b) ∨
    (∃ B, fstN (fun b => canR (mvA A) o p b h) k a = none ∧ fX9_findsAt_47 N k36 o h p n A a = k36 B ((p + 1 : Nat) : Int) ∧ FQ SS A B)
  | 0, n, a, A, hG, ho, hp, hk, hn => by
    match n, hn with
    | n + 1, _ =>
      have hp6 := hG.p6 hp
      refine Or.inr ⟨A, rfl, ?_, FQ.rf A⟩
      rw [fX9_findsAt_47, show gI A 349 21 = mvA A 18 2 from rfl, if_pos (by omega), bnd_eq, wrap_eq (by omega) (by omega)]
      rfl
  | k + 1, n, a, A, hG, ho, hp, hk, hn => by
    have c1 := hG.2.1.2.2.1
    have ha : (a : Int) < mvA A 18 2 := by
      clear ho hp hh hN hG
      omega
    have ea : wrap ((a : Int) + 1) = ((a + 1 : Nat) : Int) := wrap_eq (by omega) (by omega)
    match n, hn with
    | n + 1, hn =>
      obtain ⟨B, e, f⟩ := X9_canRide (N := N) (A := A) (o := o) (p := p) (b := a) (h := h) hN hG ho hp ha hh
      have fv := f.ev
      rw [fX9_findsAt_47, show gI A 349 21 = mvA A 18 2 from rfl, if_neg (Int.not_le.mpr ha), e, obind_some, fstN]
      by_cases hc : canR (mvA A) o p a h = true
      · obtain ⟨C, e2, f2, f3⟩ := X9_finds (N := N) (A := B) (h := h) (p := p) (b := a)
        refine Or.inl ⟨a, C, by rw [if_pos hc], ?_, f.tr f2, f3⟩
        rw [hc, if_neg (b2t B), e2, obind_some]
      · rw [if_neg hc, Bool.not_eq_true _ |>.mp hc, if_pos (b2f B), bnd_eq, ea]
        have q1 : GD (mvA B) := by rw [fv]; exact hG
        have q2 : (o : Int) < mvA B 18 3 := by rw [fv]; exact ho
        have q3 : (p : Int) < mvA B 18 1 := by rw [fv]; exact hp
        have q4 : ((a + 1 : Nat) : Int) + k = mvA B 18 2 := by
          rw [fv, ← hk]
          clear ho hp hh hN hG hk ha c1
          omega
        have q5 : k < n := Nat.lt_of_succ_lt_succ hn
        rcases X9_findsAt47 hN hh q1 q2 q3 q4 q5 with ⟨b, C, q1, q2, q3, q4⟩ | ⟨C, q1, q2, q3⟩
        · rw [fv] at q1
          exact Or.inl ⟨b, C, q1, q2, f.tr q3, q4⟩
        · rw [fv] at q1
          exact Or.inr ⟨C, q1, q2, f.tr q3⟩
