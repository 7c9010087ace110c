/-! the law's loop to its end -/
theorem BN.tr {c d : Nat} {A B C : AH} (h1 : BN c A B) (h2 : BN d B C) : BN (c + d) A C := by
  obtain ⟨a1, a2, a3, a4⟩ := h1
  obtain ⟨b1, b2, b3, b4⟩ := h2
  exact ⟨Nat.le_trans a1 b1, by omega, Nat.le_trans a3 b3, by omega⟩
theorem law_end {N n : Nat} {L x5 : Int} {xs : Nat → Int} {A : AH} (h0 : 0 ≤ L) (hL : L ≤ 3072) (h : L - 6 < x5) : fL_law_28 N L xs (n + 1) A x5 = some (1, A) := by
  have w6 : wrap (L - 6) = L - 6 := wrap_eq (by omega) (by omega)
  rw [fL_law_28, w6, if_pos h]
theorem law_all {N : Nat} {L : Int} {xs : Nat → Int} (hN0 : 25000 ≤ N) (h0 : 0 ≤ L) (hL : L ≤ 3072) (hxs : ∀ k, inR (xs k)) : ∀ (k n : Nat) (x5 : Int) (A : AH), 0 ≤ x5 → L - x5 ≤ 6 * (k : Int) + 5 → k < n → INV A A → ∃ B, fL_law_28 N L xs n A x5 = some (1, B) ∧ BN (430 * k) A B := by
  intro k
  induction k with
  | zero =>
    intro n x5 A hx hm hn _
    obtain ⟨n, rfl⟩ : ∃ m, n = m + 1 := ⟨n - 1, by omega⟩
    exact ⟨A, law_end h0 hL (by omega), Nat.le_refl _, by omega, Nat.le_refl _, by omega⟩
  | succ k ih =>
    intro n x5 A hx hm hn hI
    obtain ⟨n, rfl⟩ : ∃ m, n = m + 1 := ⟨n - 1, by omega⟩
    by_cases h : L - 6 < x5
    · exact ⟨A, law_end h0 hL h, Nat.le_refl _, by omega, Nat.le_refl _, by omega⟩
    · obtain ⟨B, b1, b2, b3⟩ := law_step (n := n) (L := L) (xs := xs) (x5 := x5) hN0 ⟨hx, by omega⟩ hL hxs hI
      obtain ⟨C, c1, c2⟩ := ih n (x5 + 6) B (by omega) (by omega) (by omega) b2
      refine ⟨C, by rw [b3]; exact c1, ?_⟩
      have h9 := b1.tr c2
      rw [show 430 * (k + 1) = 430 + 430 * k by omega]
      exact h9
