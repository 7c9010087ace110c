/-! serving all -/
theorem takeM_col {M : MR} {o p : Nat} {t b : Int} : (∀ i, takeM M o t p b 5 i = M 5 i ∧ takeM M o t p b 6 i = M 6 i) ∧ takeM M o t p b 18 3 = M 18 3 ∧ takeM M o t p b 7 o = 1 ∧ ∀ i, i ≠ o → takeM M o t p b 7 i = M 7 i := by
  have g : ∀ j i, j ≠ 15 → j ≠ 16 → j ≠ 17 → ¬ (j = 18 ∧ i = 4) → (if b < 0 then M else goM M b.toNat (t - M 0 1) (iShl 1 (p : Int))) j i = M j i := fun j i h1 h2 h3 h4 => by
    split
    · rfl
    · unfold goM
      rw [updM_ne (by omega), updM_ne (by omega), updM_ne (by omega), updM_ne (by omega)]
  unfold takeM plM
  refine ⟨fun i => ⟨?_, ?_⟩, ?_, ?_, fun i hi => ?_⟩
  · rw [updM_ne (by omega), updM_ne (by omega), updM_ne (by omega), g 5 i (by decide) (by decide) (by decide) (by omega)]
  · rw [updM_ne (by omega), updM_ne (by omega), updM_ne (by omega), g 6 i (by decide) (by decide) (by decide) (by omega)]
  · rw [updM_ne (by omega), updM_ne (by omega), updM_ne (by omega), g 18 3 (by decide) (by decide) (by decide) (by omega)]
  · rw [updM_ne (by omega), updM_ne (by omega), updM_self]
  · rw [updM_ne (by omega), updM_ne (by omega), updM_ne (by omega), g 7 i (by decide) (by decide) (by decide) (by omega)]
theorem keyM_eq {M M' : MR} (h : ∀ i, M' 5 i = M 5 i ∧ M' 6 i = M 6 i) (o : Nat) : keyM M' o = keyM M o := by
  unfold keyM
  rw [(h o).1, (h o).2]
theorem serveAll_loop {N : Nat} {M : MR} {n : Nat} {q : Nat → Nat} (hN0 : 25000 ≤ N) (hQ : SQ M n q (M 18 3).toNat) (hn : n ≤ 16) : ∀ {k n1 n2 i s : Nat} {A C : AH}, i + k = n → k < n1 → k < n2 → s ≤ i → 376 ≤ hN A → GD (mvA C) → RP A 2 (mvA C) → (∀ i, mvA C 5 i = M 5 i ∧ mvA C 6 i = M 6 i) → mvA C 18 3 = M 18 3 → (∀ o, mvA C 7 o = 0 → M 7 o = 0) → (∀ j, i ≤ j → j < n → mvA C 7 (q j) = 0) → (∀ j, j < n → gI A 348 j = q j) →
    ∃ (s' : Int) (B D : AH), fX8_serveAll_27 N n n1 A s i = some (s', B) ∧ fX9_serveAll_17 N n2 C s (if i < n then (q i : Int) else -1) = some (s', D) ∧ FX (7 * k) X2 A B ∧ RP B 2 (mvA D) ∧ GD (mvA D) ∧ FQ SRT C D ∧ gI D 349 0 = gI C 349 0 := by
  intro k
  induction k with
  | zero =>
    intro n1 n2 i s A C hi hn1 hn2 hs hA hG hP hK h18 h7 hop hq
    match n1, hn1, n2, hn2 with
    | n1 + 1, _, n2 + 1, _ =>
      refine ⟨s, A, C, ?_, ?_, (FX.rf A).mono (by omega) (fun _ _ z => z), hP, hG, FQ.rf C, rfl⟩
      · rw [fX8_serveAll_27, if_pos (by omega)]
      · rw [fX9_serveAll_17, if_neg (show ¬ i < n by omega), if_pos (by decide)]
  | succ k ih =>
    intro n1 n2 i s A C hi hn1 hn2 hs hA hG hP hK h18 h7 hop hq
    have hin : i < n := by omega
    have h0 := hop i (Nat.le_refl i) hin
    have ho : (q i : Int) < mvA C 18 3 := by have := (hQ.1 i hin).1; omega
    have h16 := hG.o16 ho
    have ei : Unit → wrap ((i : Int) + 1) = ((i + 1 : Nat) : Int) := fun _ => wrap_eq (by omega) (by omega)
    have es : Unit → wrap ((s : Int) + 1) = ((s + 1 : Nat) : Int) := fun _ => wrap_eq (by omega) (by omega)
    have es0 : Unit → wrap ((s : Int) + 0) = (s : Int) := fun _ => by rw [Int.add_zero]; exact wrap_eq (by omega) (by omega)
    -- the next, in a row like M's
    have nxt : ∀ D : AH, GD (mvA D) → (∀ i, mvA D 5 i = M 5 i ∧ mvA D 6 i = M 6 i) → mvA D 18 3 = M 18 3 → (∀ o, mvA D 7 o = 0 → M 7 o = 0) → (∀ j, i + 1 ≤ j → j < n → mvA D 7 (q j) = 0) → fX9_nextUrgent N D (q i) = some (if i + 1 < n then (q (i + 1) : Int) else -1) := by
      intro D g1 g2 g3 g4 g5
      obtain ⟨b, b1, b2⟩ := X9_next (N := N) (A := D) (x1 := q i) (z := keyM M (q i)) (by omega) g1 (Or.inr ⟨q i, rfl, by rw [g3, ← h18]; exact ho, (keyM_eq g2 (q i)).symm⟩)
      rw [g3] at b2
      have e := b2.at hQ (fun o _ => keyM_eq g2 o) (fun o _ => g4 o) g5 (hQ.after hin)
      rw [b1, e]
    match n1, hn1, n2, hn2 with
    | n1 + 1, hn1, n2 + 1, hn2 =>
      rw [fX8_serveAll_27, fX9_serveAll_17, if_neg (by omega), if_pos hin, if_neg (show ¬ (q i : Int) < 0 by omega), ck16 (show i < 16 by omega), Int.toNat_natCast, hq i hin]
      rcases X9_canServe (N := N) (by omega) hG ho h0 with ⟨t, p, b, C1, q1, q2, q3, q4⟩ | ⟨C1, q1, q2, q3⟩
      · rcases X5_serving (N := N) (by omega) hG hP ho with ⟨r1, r2⟩ | ⟨r1, r2, r3⟩ | ⟨t', p', b', A1, r1, r2, r3, r4, r5⟩
        · exact absurd h0 r1
        · rw [q1] at r2
          cases r2
        · rw [q1] at r2
          cases r2
          obtain ⟨hw, hp, hb⟩ := servM_facts hG ho h0 q1
          have ev : mvA C1 = mvA C := q3.ev
          obtain ⟨D, d1, d2, d3⟩ := X9_serves (N := N) (A := C1) (o := q i) (t := t) (p := p) (b := b) (by omega) (by rw [ev]; exact hG) h16 q4 ⟨hw.2.2.2.1, hw.2.2.2.2⟩ (by
            rw [ev]
            rcases hb with ⟨z, -⟩ | ⟨c, z1, z2, z3, z4, z5, z6⟩
            · exact Or.inl z
            · exact Or.inr ⟨c, z1, z2, z5, z3⟩)
          rw [ev] at d2
          have xa : FX 0 X2 A A1 := r4.fx (fun a k z => by unfold SW at z; unfold X2; omega)
          obtain ⟨B, b1, b2, b3, b4⟩ := X5_take (N := N) (A := A1) (r := 2) (by omega) (by have := xa.1.1; omega) (by omega) hG (hP.fx hG (r4.fx (S := fun a => a = 347) (fun a k z => by unfold SW at z; omega)) (fun a z1 z2 => by omega)) ho h0 q1 r5
          have hqA : ∀ j, j < n → gI A1 348 j = q j := fun j hj => by rw [r4.2.2 348 j (by unfold SW; omega)]; exact hq j hj
          have hqB : ∀ j, j < n → gI B 348 j = q j := fun j hj => by rw [(b3.2.2.2 348 (by omega) (by omega) j).1]; exact hqA j hj
          have tc := takeM_col (M := mvA C) (o := q i) (p := p) (t := t) (b := b)
          have D5 : ∀ i, mvA D 5 i = M 5 i ∧ mvA D 6 i = M 6 i := fun j => by rw [d2, (tc.1 j).1, (tc.1 j).2]; exact hK j
          have D18 : mvA D 18 3 = M 18 3 := by rw [d2, tc.2.1]; exact h18
          have D7 : ∀ o, mvA D 7 o = 0 → M 7 o = 0 := fun o => by
            rw [d2]
            by_cases e : o = q i
            · subst e
              rw [tc.2.2.1]
              intro z
              exact absurd z (by decide)
            · rw [tc.2.2.2 o e]
              exact h7 o
          have Dop : ∀ j, i + 1 ≤ j → j < n → mvA D 7 (q j) = 0 := fun j h1 h2 => by
            have := hQ.2.1 i j (by omega) h2
            rw [d2, tc.2.2.2 (q j) (fun z => by rw [z] at this; omega)]
            exact hop j (by omega) h2
          have GDD : GD (mvA D) := by rw [d2]; exact hG.takeM ho h0 q1
          obtain ⟨s', B', D', e1, e2, e3, e4, e5, e6, e7⟩ := ih (n1 := n1) (n2 := n2) (i := i + 1) (s := s + 1) (A := B) (C := D) (by omega) (by omega) (by omega) (by omega) (by have := xa.1.1; have := b3.1.1; omega) GDD (by rw [d2]; exact b2) D5 D18 D7 Dop hqB
          refine ⟨s', B', D', ?_, ?_, ((xa.tr (b3.mono (d := 7) (S' := X2) (Nat.le_refl 7) (fun a _ z => by unfold X2; omega))).tr e3).mono (by omega) (fun _ _ z => z), e4, e5, ?_, ?_⟩
          · rw [r3, obind_some, if_pos rfl]
            dsimp only
            rw [ck16 (show i < 16 by omega), hqA i hin, b1, obind_some, bnd_eq, es (), bnd_eq, ei ()]
            exact e1
          · rw [q2, obind_some, if_neg (p1n0 C1)]
            dsimp only
            rw [d1, obind_some, if_neg (show ¬ t < 0 by omega)]
            unfold fX9_serveAll_43
            dsimp only
            rw [bnd_eq, es (), nxt D GDD D5 D18 D7 Dop, obind_some]
            exact e2
          · exact ((q3.mono (fun a k z => ST_SRT a k (SS_ST a k z))).tr (d3.mono SR_SRT)).tr e6
          · rw [e7, d3.2.2 349 0 (by unfold SR; omega), q3.2.2 349 0 (by unfold SS; omega)]
      · rcases X5_serving (N := N) (by omega) hG hP ho with ⟨r1, r2⟩ | ⟨r1, r2, r3⟩ | ⟨t', p', b', A1, r1, r2, r3, r4, r5⟩
        · exact absurd h0 r1
        · have ev : mvA C1 = mvA C := q3.ev
          obtain ⟨s', B', D', e1, e2, e3, e4, e5, e6, e7⟩ := ih (n1 := n1) (n2 := n2) (i := i + 1) (s := s) (A := A) (C := C1) (by omega) (by omega) (by omega) (by omega) hA (by rw [ev]; exact hG) (by rw [ev]; exact hP) (by rw [ev]; exact hK) (by rw [ev]; exact h18) (by rw [ev]; exact h7) (fun j h1 h2 => by rw [ev]; exact hop j (by omega) h2) hq
          refine ⟨s', B', D', ?_, ?_, e3.mono (by omega) (fun _ _ z => z), e4, e5, (q3.mono (fun a k z => ST_SRT a k (SS_ST a k z))).tr e6, by rw [e7, q3.2.2 349 0 (by unfold SS; omega)]⟩
          · rw [r3, obind_some, if_neg (p12n0 A), bnd_eq, ei ()]
            exact e1
          · rw [q2, obind_some, if_pos rfl]
            unfold fX9_serveAll_43
            dsimp only
            rw [bnd_eq, es0 (), nxt C1 (by rw [ev]; exact hG) (by rw [ev]; exact hK) (by rw [ev]; exact h18) (by rw [ev]; exact h7) (fun j h1 h2 => by rw [ev]; exact hop j (by omega) h2), obind_some]
            exact e2
        · rw [q1] at r2
          cases r2
theorem op_serveAll {N : Nat} {A C : AH} (hN0 : 25000 ≤ N) (h : INV A C) : STEP [] (obind (fX8_serveAll N A) (fun p => some (0, p.1, p.2))) (fX9_serveAll N C) A C := by
  obtain ⟨A2, a1, a2, a3, a4⟩ := h.add (N := N) (by omega) (FX.rf A)
  obtain ⟨n, q, B, b1, b2, b3, b4, b5⟩ := X5_line (N := N) (by omega) h.1 a3
  have xB : FX 0 XQ A2 B := b2.fx (fun a k z => by have e : a = 348 := z; unfold XQ; omega)
  obtain ⟨C2, c1, c2, c3⟩ := h.rem (N := N) hN0 (FQ_thr C 0)
  have hG2 : GD (mvA C2) := by rw [c3]; exact h.1
  obtain ⟨b, f1, f2⟩ := X9_next (N := N) (A := C2) (x1 := -1) (z := -1) (by omega) hG2 (Or.inl ⟨rfl, rfl⟩)
  rw [c3] at f2
  have f3 := f2.at b4 (fun _ _ => rfl) (fun _ _ h => h) (k := 0) (fun i _ hi => (b4.1 i hi).2) (fun i hi => ⟨fun _ => Nat.zero_le i, fun _ => by
    have := keyM_nn h.1 (o := q i) (by have := (b4.1 i hi).1; omega)
    omega⟩)
  obtain ⟨s, B', D, e1, e2, e3, e4, e5, e6, e7⟩ := serveAll_loop (N := N) hN0 b4 b3 (k := n) (n1 := N) (n2 := N) (i := 0) (s := 0) (A := B) (C := C2) (by omega) (by omega) (by omega) (Nat.le_refl 0) (by have := xB.1.1; omega) hG2 (by rw [c3]; exact a3.fx h.1 xB (fun a z1 z2 => by unfold XQ; omega)) (fun i => by rw [c3]; exact ⟨rfl, rfl⟩) (by rw [c3]) (fun o z => by rw [c3] at z; exact z) (fun j _ hj => by rw [c3]; exact (b4.1 j hj).2) b5
  have e1' : fX8_serveAll_27 N n N B 0 0 = _ := e1
  have e2' : fX9_serveAll_17 N N C2 0 (if 0 < n then (q 0 : Int) else -1) = _ := e2
  unfold fX8_serveAll fX9_serveAll
  rw [a1, obind_some, b1, obind_some, bnd_eq, c1, obind_some, f1, obind_some, f3, e2']
  dsimp only
  rw [e1', obind_some]
  refine STEP.change h ⟨A, A2, FX.rf A, a2, (xB.mono (Nat.le_refl 0) (fun a _ z => XQ_X2 a z)).tr e3, e4⟩ (by omega) ⟨_, C2, FQ_thr C 0, c2, e6⟩ rfl e5 ?_
  rw [e7, c2.fq.2.2 349 0 (by unfold SH; omega), gI_thr]
