/-! the call read -/
theorem X9_room {N : Nat} {A : AH} {c : Nat} (hN0 : 25000 ≤ N) (hc : gI A 349 41 = c) (h8 : c ≤ 8) : ∃ B d, fX9_makesRoom N A = some B ∧ FQ (fun a k => a = 371 ∨ a = 349 ∧ k = 41) A B ∧ gI B 349 41 = ((d : Nat) : Int) ∧ d < 8 ∧ ((c < 8 ∧ d = c ∧ ∀ j, gI B 371 j = gI A 371 j) ∨ (c = 8 ∧ d = 7 ∧ ∀ j, j < 20272 → gI B 371 j = gI A 371 (j + 2896))) := by
  unfold fX9_makesRoom
  by_cases e : c = 8
  · subst e
    obtain ⟨B, c1, c2, c3, c4⟩ := X9_room12 (N := N) (k := 20272) (n := N) (x := 0) (A := A) rfl (by omega)
    have c1' : fX9_makesRoom_12 N N A 0 = some B := c1
    rw [hc] at c3
    rw [if_pos (by rw [hc]; decide), c1']
    exact ⟨B, 7, rfl, c2.mono (fun a k q => by omega), c3.trans (by decide), by decide, Or.inr ⟨rfl, rfl, fun j hj => c4 j (Nat.zero_le j) hj⟩⟩
  · rw [if_neg (by rw [hc]; omega)]
    exact ⟨A, c, rfl, FQ.rf A, hc, by omega, Or.inl ⟨by omega, rfl, fun _ => rfl⟩⟩
/-- what reading leaves alone, on both sides -/
abbrev SRd (a k : Nat) : Prop := SD a k ∨ a = 371 ∨ a = 368 ∨ a = 369 ∨ a = 370 ∨ a = 373 ∨ a = 349 ∧ (k = 30 ∨ k = 34 ∨ k = 35 ∨ k = 36 ∨ k = 37 ∨ k = 41 ∨ k = 42 ∨ k = 44 ∨ k = 45)
theorem op_read {N : Nat} {A C : AH} (hN0 : 25000 ≤ N) (h : INV A C) : STEP [(1, 1), (5, 2)] (fX8_read N A) (fX9_read N C) A C := by
  obtain ⟨hG, hP, hR, hS, hT, hK, h45, hA⟩ := h
  obtain ⟨t1, t2, t3⟩ := hT
  obtain ⟨k1, k2, k3, k4⟩ := hK
  obtain ⟨f, c, r1, r2, r3, r4, r5⟩ := hR.ring
  obtain ⟨n, hn⟩ : ∃ n : Nat, gI C 349 34 = n := ⟨(gI C 349 34).toNat, by omega⟩
  obtain ⟨T, hTT⟩ : ∃ T : Nat → Int, T = fun k => gI C 368 k := ⟨_, rfl⟩
  have hsl := slot_rng r1
  -- the program's first pass
  obtain ⟨A1, hA1⟩ : ∃ A1, A1 = sI A 345 2 0 := ⟨_, rfl⟩
  have fA1 : FQ (fun a k => a = 345 ∧ 2 ≤ k) A A1 := by rw [hA1]; exact (FQ.rf A).set (by omega)
  have tA1 : TA A1 n T 0 := ⟨by omega, Nat.zero_le n, by rw [hA1, gI_sI, if_neg (by omega), t1, hn], by rw [hA1, gI_me]; rfl, fun k hk => by
    have := t3 k (by omega)
    rw [hA1, gI_sI, if_neg (by omega), hTT]
    exact this⟩
  obtain ⟨C1, hC1⟩ : ∃ C1, C1 = sI (sI C 349 35 0) 349 36 0 := ⟨_, rfl⟩
  have fC1 : FQ SRd C C1 := by rw [hC1]; exact ((FQ.rf C).set (by omega)).set (by omega)
  have tC1 : TC C1 n T 0 0 := ⟨by omega, Nat.zero_le n, by rw [hC1, gI_sI, if_neg (by omega), gI_sI, if_neg (by omega)]; exact hn, by rw [hC1, gI_sI, if_neg (by omega), gI_me]; rfl, by rw [hC1, gI_me]; rfl, fun k hk => by
    have := t3 k (by omega)
    rw [hC1, gI_sI, if_neg (by omega), gI_sI, if_neg (by omega), hTT]
    exact ⟨rfl, this.2⟩⟩
  obtain ⟨A2, C2, e, a1, a2, a3, a4, a5⟩ := count_loop (N := N) (by omega) (k := 61) (n1 := N) (n2 := N) (i := 0) (t := 0) (A := A1) (C := C1) (by omega) (by omega) (by omega) (by omega) tA1 tC1
  have xA2 : FX 0 (fun a => a = 345) A A2 := (fA1.tr a1).fx (fun a k z => ⟨by omega, z.1⟩)
  have fC2 : FQ SRd C C2 := fC1.tr (a2.mono (fun a k q => by omega))
  have fC2' : FQ (fun a k => (a = 349 ∧ (k = 35 ∨ k = 36)) ∨ a = 369 ∨ a = 370) C C2 := by
    refine FQ.tr (B := C1) ?_ (a2.mono (fun a k q => by omega))
    rw [hC1]
    exact ((FQ.rf C).set (by omega)).set (by omega)
  have e8 : fX6_countItems N A = fX6_countItems_6 N N A1 ((0 + 1 : Nat) : Int) := by
    unfold fX6_countItems fX6_rewind
    rw [bnd_eq, obind_some, ← hA1]
    rfl
  have e9 : fX9_takesText N C = fX9_takesText_10 N N C1 := by
    unfold fX9_takesText
    rw [bnd_eq, bnd_eq, ← hC1]
  unfold fX8_read fX9_read
  rw [e8, e9]
  rcases a5 with ⟨a5, a6⟩ | ⟨m, ps, a7', a8', a5, a6, a9, a10, a11, a12⟩
  · -- a fault in the text
    rw [a5, obind_some, if_pos rfl, a6, obind_some]
    dsimp only
    rw [bnd_eq, bnd_eq, if_pos rfl, bnd_eq]
    unfold fX6_clear
    rw [bnd_eq, obind_some, X9_fails, obind_some]
    have g35 : gI (sI C2 349 34 0) 349 35 = e := by rw [gI_sI, if_neg (by omega)]; exact a4
    rw [a3, g35]
    obtain ⟨A3, hA3⟩ : ∃ A3, A3 = sI (sI A2 1 7 e) 345 1 0 := ⟨_, rfl⟩
    obtain ⟨C3, hC3⟩ : ∃ C3, C3 = sI (sI (sI C2 349 34 0) 349 37 e) 349 0 1 := ⟨_, rfl⟩
    have x23 : FX 0 (fun a => a = 345 ∨ a = 1) A2 A3 := by
      rw [hA3]
      exact FQ.fx (T := fun a k => a = 345 ∨ a = 1) (((FQ.rf A2).set (S := fun a k => a = 345 ∨ a = 1) (Or.inr rfl)).set (S := fun a k => a = 345 ∨ a = 1) (Or.inl rfl)) (fun a k z => ⟨by omega, z⟩)
    have xA : FX 0 (fun a => a = 345 ∨ a = 1) A A3 := (xA2.mono (Nat.le_refl 0) (fun a _ z => Or.inl z)).tr x23
    have fC : FQ (fun a k => a = 369 ∨ a = 370 ∨ a = 349 ∧ (k = 0 ∨ k = 34 ∨ k = 35 ∨ k = 36 ∨ k = 37)) C C3 := by
      rw [hC3]
      exact (((fC2'.mono (fun a k q => by omega)).set (by omega)).set (by omega)).set (by omega)
    have q1 : ∀ k, k ≠ 7 → gI A3 1 k = gI A 1 k := fun k hk => by
      rw [hA3, gI_sI, if_neg (by omega), gI_sI, if_neg (by omega), (xA2.2.2.2 1 (by omega) (by omega) k).1]
    have ev : mvA C3 = mvA C := fC.evs (fun a k q => by omega)
    have hI : INV A3 C3 := by
      refine ⟨by rw [ev]; exact hG, by rw [ev]; exact hP.fx hG xA (fun a z1 z2 => by omega), (hR.cls xA (fun a z1 z2 => by omega)).mdl fC (fun a k q => by omega), (hS.cls xA (fun a z1 z2 => by omega) (q1 6 (by decide))).mdl fC (fun a k q => by omega), ⟨?_, ?_, fun k hk => ?_⟩, ⟨?_, ?_, ?_, ?_⟩, by rw [fC.2.2 349 45 (by omega)]; exact h45, Nat.le_trans hA xA.1.1⟩
      · rw [hA3, gI_me, hC3, gI_sI, if_neg (by omega), gI_sI, if_neg (by omega), gI_me]
      · rw [hC3, gI_sI, if_neg (by omega), gI_sI, if_neg (by omega), gI_me]; decide
      · rw [hC3, gI_sI, if_neg (by omega), gI_sI, if_neg (by omega), gI_me] at hk
        omega
      · rw [hA3, gI_sI, if_neg (by omega), gI_me, hC3, gI_sI, if_neg (by omega), gI_me]
      · rw [q1 8 (by decide), fC.2.2 349 29 (by omega)]; exact k2
      · rw [q1 9 (by decide), fC.2.2 349 30 (by omega)]; exact k3
      · rw [hC3, gI_sI, if_neg (by omega), gI_me]; omega
    rw [← hA3, ← hC3]
    have x := FX_nX A3 (S := XQ) (Nat.le_trans hA xA.1.1)
    exact ⟨1, 0, nX A3, 0, C3, rfl, rfl, Or.inr (by rw [hC3, gI_me]; simp), ((xA.mono (d := 0) (S' := XA) (Nat.le_refl 0) (fun a _ z => by unfold XA; omega)).tr (x.mono (d := 1) (S' := XA) (Nat.le_refl 1) (fun a _ z => XQ_XA a z))).mono (by omega) (fun _ _ z => z), fC.mono (fun a k z => by unfold SM; omega), hI.query x (FQ.rf C3)⟩
  · -- the items are carried out
    have hP2 : RP A2 2 (mvA C) := hP.fx hG xA2 (fun a z1 z2 => by omega)
    obtain ⟨A3, b1, b2, b3⟩ := X1_prepare (N := N) (A := A2) (M := mvA C) (f := f) (by omega) hG hP2 (by rw [(xA2.2.2.2 64 (by omega) (by omega) 1).1]; exact r3) r1
    have b3' : FX 0 (fun a => slot f ≤ a ∧ a ≤ slot f + 30) A2 A3 := b3.mono (Nat.le_refl 0) (fun a _ z => by unfold rgn at z; omega)
    obtain ⟨A4, hA4⟩ : ∃ A4, A4 = sI A3 345 2 0 := ⟨_, rfl⟩
    have x34 : FX 0 (fun a => a = 345) A3 A4 := by
      rw [hA4]
      exact FQ.fx (T := fun a _ => a = 345) ((FQ.rf A3).setc) (fun a k z => ⟨by have e : a = 345 := z; omega, z⟩)
    have tA4 : TA A4 n T 0 := ⟨tA1.1, Nat.zero_le n, by rw [hA4, gI_sI, if_neg (by omega), (b3'.2.2.2 345 (by omega) (by omega) 1).1, a1.2.2 345 1 (by omega)]; exact tA1.2.2.1, by rw [hA4, gI_me]; rfl, fun k hk => by rw [hA4, gI_sI, if_neg (by omega), (b3'.2.2.2 346 (by omega) (by omega) k).1, a1.2.2 346 k (by omega)]; exact tA1.2.2.2.2 k hk⟩
    have hP4 : RP A4 2 (mvA C) := (hP2.fx hG b3' (fun a z1 z2 => by omega)).fx hG x34 (fun a z1 z2 => by omega)
    have hS4 : RP A4 (slot f) (mvA C) := b2.fx hG x34 (fun a z1 z2 => by omega)
    have xA4 : FX 0 (fun a => a = 345 ∨ X2 a ∨ (slot f ≤ a ∧ a ≤ slot f + 30)) A A4 := ((xA2.mono (Nat.le_refl 0) (fun a _ z => Or.inl z)).tr (b3'.mono (Nat.le_refl 0) (fun a _ z => Or.inr (Or.inr z)))).tr (x34.mono (Nat.le_refl 0) (fun a _ z => Or.inl z))
    obtain ⟨C3, hC3⟩ : ∃ C3, C3 = sI C2 349 34 0 := ⟨_, rfl⟩
    have fC3 : FQ (fun a k => a = 369 ∨ a = 370 ∨ a = 373 ∨ a = 349 ∧ (k = 34 ∨ k = 35 ∨ k = 36 ∨ k = 42 ∨ k = 44 ∨ k = 45)) C C3 := by
      rw [hC3]
      exact (fC2'.mono (fun a k q => by omega)).set (by omega)
    obtain ⟨C4, d1, d2, d3⟩ := X9_keep (N := N) (y := 373) (off := 0) (A := C3) (by omega) (by decide) (by rw [jal373]; decide) (by rw [jal373]; decide)
    have d1' : fX9_passAll N C3 373 0 1 = some C4 := d1
    rw [show mvA C3 = mvA C from fC3.evs (fun a k q => by omega)] at d3
    obtain ⟨C5, hC5⟩ : ∃ C5, C5 = sI C4 349 45 1 := ⟨_, rfl⟩
    have fC5 : FQ (fun a k => a = 369 ∨ a = 370 ∨ a = 373 ∨ a = 349 ∧ (k = 34 ∨ k = 35 ∨ k = 36 ∨ k = 42 ∨ k = 44 ∨ k = 45)) C C5 := by
      rw [hC5]
      exact (fC3.tr (d2.mono (fun a k q => by omega))).set (by omega)
    have ev5 : mvA C5 = mvA C := fC5.evs (fun a k q => by omega)
    have g45 : gI C5 349 45 = 1 := by rw [hC5, gI_me]
    have g36 : gI C5 349 36 = m := by rw [hC5, gI_sI, if_neg (by omega), d2.2.2 349 36 (by omega), hC3, gI_sI, if_neg (by omega)]; exact a9
    have g34 : gI C5 349 34 = 0 := by rw [hC5, gI_sI, if_neg (by omega), d2.2.2 349 34 (by omega), hC3, gI_me]
    have g41 : gI C5 349 41 = c := by rw [fC5.2.2 349 41 (by omega)]; exact r5
    have row5 : ROW C5 373 0 (mvA C) := d3.same (fun k _ _ => by rw [hC5, gI_sI, if_neg (by omega)])
    have km5 : ∀ i, i < m → KM C5 i (item n T (ps i)).2.2 := fun i hi => by
      have q := a12 i (Nat.zero_le i) hi
      have fr : ∀ a k, (a = 369 ∨ a = 370) → gI C5 a k = gI C2 a k := fun a k ha => by
        rw [hC5, gI_sI, if_neg (by omega), d2.2.2 a k (by omega), hC3, gI_sI, if_neg (by omega)]
      unfold KM at q ⊢
      rw [fr 369 i (Or.inl rfl), fr 370 (4 * i) (Or.inr rfl), fr 370 (4 * i + 1) (Or.inr rfl), fr 370 (4 * i + 2) (Or.inr rfl), fr 370 (4 * i + 3) (Or.inr rfl)]
      exact q
    obtain ⟨A5, C6, l1, l2, l3⟩ := read_loop (N := N) (n := n) (m := m) (T := T) (ps := ps) hN0 a8' a10 a11 (k := m) (n1 := N) (n2 := N) (j := 0) (p := 0) (A := A4) (C := C5) (x3 := 0) (by omega) (by omega) (by omega) (Nat.le_trans hA xA4.1.1) (by rw [ev5]; exact hG) (by rw [ev5]; exact hP4) ⟨Or.inr g45, c, r2, g41⟩ g45 g36 km5 tA4 (fun _ => Or.inl a10.symm)
    have x45 : FX 210 (fun a => a = 345 ∨ X2 a) A4 A5 := l1.mono (by omega) (fun a _ z => by rcases z with z | z; exact Or.inr z; exact Or.inl z)
    have hS5 : RP A5 (slot f) (mvA C) := hS4.fx hG x45 (fun a z1 z2 => ⟨by omega, fun z => by unfold X2 at z; omega⟩)
    have xA5 : FX 210 (fun a => a = 345 ∨ X2 a ∨ (slot f ≤ a ∧ a ≤ slot f + 30)) A A5 := (xA4.tr (x45.mono (Nat.le_refl 210) (fun a _ z => by rcases z with z | z; exact Or.inl z; exact Or.inr (Or.inl z)))).mono (by omega) (fun _ _ z => z)
    obtain ⟨A6, hA6⟩ : ∃ A6, A6 = sI A5 345 1 0 := ⟨_, rfl⟩
    have x56 : FX 0 (fun a => a = 345) A5 A6 := by
      rw [hA6]
      exact FQ.fx (T := fun a _ => a = 345) ((FQ.rf A5).setc) (fun a k z => ⟨by have e : a = 345 := z; omega, z⟩)
    have xA6 : FX 210 (fun a => a = 345 ∨ X2 a ∨ (slot f ≤ a ∧ a ≤ slot f + 30)) A A6 := (xA5.tr (x56.mono (Nat.le_refl 0) (fun a _ z => Or.inl z))).mono (by omega) (fun _ _ z => z)
    have e64 : ∀ k, gI A6 64 k = gI A 64 k := fun k => (xA6.2.2.2 64 (by omega) (by unfold X2; omega) k).1
    have e1 : ∀ k, gI A6 1 k = gI A 1 k := fun k => (xA6.2.2.2 1 (by omega) (by unfold X2; omega) k).1
    have e345 : gI A6 345 1 = 0 := by rw [hA6, gI_me]
    obtain ⟨C7, hC7⟩ : ∃ C7, C7 = sI C6 349 45 0 := ⟨_, rfl⟩
    have fC7 : FQ (fun a k => SD a k ∨ a = 369 ∨ a = 370 ∨ a = 373 ∨ a = 349 ∧ (k = 34 ∨ k = 35 ∨ k = 36 ∨ k = 42 ∨ k = 44 ∨ k = 45)) C C7 := by
      rw [hC7]
      exact ((fC5.mono (fun a k q => Or.inr q)).tr (l2.mono (fun a k q => Or.inl q))).set (by omega)
    have p34 : gI C7 349 34 = 0 := by rw [hC7, gI_sI, if_neg (by omega), l2.2.2 349 34 (by unfold SD SRT; omega)]; exact g34
    have p36 : gI C7 349 36 = m := by rw [hC7, gI_sI, if_neg (by omega), l2.2.2 349 36 (by unfold SD SRT; omega)]; exact g36
    have p45 : gI C7 349 45 = 0 := by rw [hC7, gI_me]
    have p41 : gI C7 349 41 = c := by rw [fC7.2.2 349 41 (by unfold SD SRT; omega)]; exact r5
    have p371 : ∀ j, gI C7 371 j = gI C 371 j := fun j => fC7.2.2 371 j (by unfold SD SRT; omega)
    have row7 : ROW C7 373 0 (mvA C) := row5.same (fun k _ _ => by rw [hC7, gI_sI, if_neg (by omega), l2.2.2 373 k (by unfold SD SRT; omega)])
    have ev7 : mvA C7 = mvA C6 := by
      rw [hC7]
      exact FQ.evs (S := fun a k => a = 349 ∧ k = 45) ((FQ.rf C6).set (by omega)) (fun a k q => by omega)
    have hm0 : ¬ (m : Int) = 0 := by omega
    rw [a5, obind_some, a6, obind_some]
    dsimp only
    rw [if_neg hm0, b1, obind_some]
    unfold fX6_rewind
    rw [bnd_eq, obind_some, ← hA4, bnd_eq, if_neg (show ¬ (1 : Int) = 0 by decide), ← hC3, d1', obind_some, bnd_eq, ← hC5]
    rcases l3 with ⟨y, s1, s2, s3, s4, s5⟩ | ⟨w, i, hw, hi, s1, s2⟩
    · -- all done: the row before is kept
      have s1' : fX8_read_66 N m N A4 0 0 0 = _ := s1
      have s2' : fX9_read_47 N N C5 0 0 = _ := s2
      obtain ⟨A7, y1, y2, y3, y4⟩ := X1_commit (N := N) (A := A6) (f := f) (c := c) (by rw [e64]; exact r3) r1 (by rw [e64]; exact r4) r2
      have x67 : FX 0 (fun a => a = 64) A6 A7 := y2.fx (fun a k z => ⟨by have e : a = 64 := z; omega, z⟩)
      have xA7 : FX 210 (fun a => a = 345 ∨ X2 a ∨ (slot f ≤ a ∧ a ≤ slot f + 30) ∨ a = 64) A A7 := ((xA6.mono (S' := fun a => a = 345 ∨ X2 a ∨ (slot f ≤ a ∧ a ≤ slot f + 30) ∨ a = 64) (Nat.le_refl 210) (fun a _ z => by rcases z with z | z | z; exact Or.inl z; exact Or.inr (Or.inl z); exact Or.inr (Or.inr (Or.inl z)))).tr (x67.mono (d := 0) (S' := fun a => a = 345 ∨ X2 a ∨ (slot f ≤ a ∧ a ≤ slot f + 30) ∨ a = 64) (Nat.le_refl 0) (fun a _ z => Or.inr (Or.inr (Or.inr z))))).mono (by omega) (fun _ _ z => z)
      obtain ⟨C8, hC8⟩ : ∃ C8, C8 = sI C7 349 0 0 := ⟨_, rfl⟩
      have q41 : gI C8 349 41 = c := by rw [hC8, gI_sI, if_neg (by omega)]; exact p41
      obtain ⟨C9, d, z1, z2, z3, z4, z5⟩ := X9_room (N := N) (A := C8) hN0 q41 r2
      obtain ⟨C10, w1, w2, w3, w4, w5⟩ := X9_read120 (N := N) (c := d) z4 (k := 2896) (n := N) (x := 0) (A := C9) (by omega) (by omega) z3
      have w1' : fX9_read_120 N N C9 0 = some (gI C9 349 36, C10) := w1
      have fC10 : FQ (fun a k => a = 371 ∨ a = 349 ∧ (k = 0 ∨ k = 41)) C7 C10 := by
        refine FQ.tr (B := C8) ?_ ((z2.mono (fun a k q => by omega)).tr (w2.mono (fun a k q => by omega)))
        rw [hC8]
        exact (FQ.rf C7).set (by omega)
      have fC : FQ SRd C C10 := (fC7.mono (fun a k q => by unfold SD SRT at q; unfold SRd SD SRT; omega)).tr (fC10.mono (fun a k q => by unfold SRd SD SRT; omega))
      have ev10 : mvA C10 = mvA C6 := by rw [← ev7]; exact fC10.evs (fun a k q => by omega)
      have t0 : gI C10 349 0 = 0 := by rw [w2.2.2 349 0 (by omega), z2.2.2 349 0 (by omega), hC8, gI_me]
      have t36 : gI C9 349 36 = m := by rw [z2.2.2 349 36 (by omega), hC8, gI_sI, if_neg (by omega)]; exact p36
      have f29 : gI C10 349 29 = gI C 349 29 := by rw [fC10.2.2 349 29 (by omega), hC7, gI_sI, if_neg (by omega), s5.2.2 349 29 (by unfold SRT; omega), fC5.2.2 349 29 (by omega)]
      have f8 : ∀ j, gI C8 371 j = gI C 371 j := fun j => by rw [hC8, gI_sI, if_neg (by omega)]; exact p371 j
      have r9 : ∀ j, gI C9 373 j = gI C7 373 j := fun j => by rw [z2.2.2 373 j (by omega), hC8, gI_sI, if_neg (by omega)]
      have rowN : ROW C10 371 (2896 * d) (mvA C) := fun j hj i hi => by
        have := of_tot j hj
        have r := row7 j hj i hi
        rw [Nat.zero_add] at r
        rw [Nat.add_assoc, w5 (ofM j + i) (Nat.zero_le _) (by omega), r9]
        exact r
      have e1' : ∀ k, gI A7 1 k = gI A 1 k := fun k => by rw [(x67.2.2.2 1 (by omega) (by omega) k).1]; exact e1 k
      have hRR : HR A7 C10 := hR.add2 (M := mvA C) hG r3 r4 y3 y4 (hS5.fx hG ((x56.mono (d := 0) (S' := fun a => a = 345 ∨ a = 64) (Nat.le_refl 0) (fun a _ z => Or.inl z)).tr (x67.mono (d := 0) (S' := fun a => a = 345 ∨ a = 64) (Nat.le_refl 0) (fun a _ z => Or.inr z))) (fun a q1 q2 => by omega)) xA7 (fun a q1 q2 q3 q4 => by unfold X2 at q4; omega) (by rw [w3]; omega) (fun q => by
          rcases z5 with ⟨u1, u2, u3⟩ | ⟨u1, u2, u3⟩
          · subst u2
            exact ⟨fun j hj => by rw [w2.2.2 371 j (by omega), u3, f8], rowN⟩
          · omega) (fun q => by
          rcases z5 with ⟨u1, u2, u3⟩ | ⟨u1, u2, u3⟩
          · omega
          · subst u2
            exact ⟨fun j hj => by rw [w2.2.2 371 j (by omega), u3 j hj, f8], rowN⟩)
      have hP7 : RP A7 2 (mvA C10) := by
        rw [ev10]
        exact (s3.fx s4 x56 (fun a q1 q2 => by omega)).fx s4 x67 (fun a q1 q2 => by omega)
      have hI : INV A7 C10 := by
        refine ⟨by rw [ev10]; exact s4, hP7, hRR, (hS.cls xA7 (fun a z1 z2 => by unfold X2; omega) (e1' 6)).mdl fC (fun a k q => by unfold SRd SD SRT at q; omega), ⟨?_, ?_, fun k hk => ?_⟩, ⟨?_, ?_, ?_, ?_⟩, ?_, Nat.le_trans hA xA7.1.1⟩
        · rw [fC10.2.2 349 34 (by omega), p34, (x67.2.2.2 345 (by omega) (by omega) 1).1, e345]
        · rw [fC10.2.2 349 34 (by omega), p34]; decide
        · rw [fC10.2.2 349 34 (by omega), p34] at hk
          omega
        · rw [e1' 7, fC10.2.2 349 37 (by omega), fC7.2.2 349 37 (by unfold SD SRT; omega)]; exact k1
        · rw [e1' 8, f29]; exact k2
        · rw [e1' 9, fC10.2.2 349 30 (by omega), fC7.2.2 349 30 (by unfold SD SRT; omega)]; exact k3
        · rw [fC10.2.2 349 37 (by omega), fC7.2.2 349 37 (by unfold SD SRT; omega)]; exact k4
        · rw [fC10.2.2 349 45 (by omega)]; exact p45
      rw [s1', s2']
      unfold fX8_read_208 fX6_clear fX9_read_71
      rw [bnd_eq, obind_some, ← hA6, if_pos rfl, y1, obind_some, bnd_eq, ← hC7, if_pos (Int.le_refl 0), bnd_eq, ← hC8, z1, obind_some, w1', t36]
      exact STEP.raw (xA7.mono (by omega) (fun a _ z => by unfold X2 at z; unfold XA; omega)) (fC.mono (fun a k z => by unfold SRd SD SRT at z; unfold SM; omega)) t0 hI
    · -- refused: the row before comes back
      have s1' : fX8_read_66 N m N A4 0 0 0 = _ := s1
      have s2' : fX9_read_47 N N C5 0 0 = _ := s2
      obtain ⟨A7, y1, y2, y3⟩ := X1_tb (N := N) (A := A6) (M := mvA C) (f := f) (by omega) hG (by rw [e64]; exact r3) r1 (hS5.fx hG x56 (fun a q1 q2 => by omega))
      obtain ⟨A8, hA8⟩ : ∃ A8, A8 = sI (sI A7 1 8 w) 1 9 i := ⟨_, rfl⟩
      have x67 : FX 0 (fun a => 2 ≤ a ∧ a ≤ 32) A6 A7 := y3.mono (Nat.le_refl 0) (fun a _ z => by unfold rgn at z; omega)
      have x78 : FX 0 (fun a => a = 1) A7 A8 := by
        rw [hA8]
        exact FQ.fx (T := fun a _ => a = 1) (((FQ.rf A7).setc).setc) (fun a k z => ⟨by have e : a = 1 := z; omega, z⟩)
      have xA7 : FX 210 (fun a => a = 345 ∨ X2 a ∨ (slot f ≤ a ∧ a ≤ slot f + 30)) A A7 := (xA6.tr (x67.mono (d := 0) (S' := fun a => a = 345 ∨ X2 a ∨ (slot f ≤ a ∧ a ≤ slot f + 30)) (Nat.le_refl 0) (fun a _ z => by unfold X2; omega))).mono (by omega) (fun _ _ z => z)
      have xA8 : FX 210 (fun a => a = 345 ∨ X2 a ∨ (slot f ≤ a ∧ a ≤ slot f + 30) ∨ a = 1) A A8 := ((xA7.mono (S' := fun a => a = 345 ∨ X2 a ∨ (slot f ≤ a ∧ a ≤ slot f + 30) ∨ a = 1) (Nat.le_refl 210) (fun a _ z => by rcases z with z | z | z; exact Or.inl z; exact Or.inr (Or.inl z); exact Or.inr (Or.inr (Or.inl z)))).tr (x78.mono (d := 0) (S' := fun a => a = 345 ∨ X2 a ∨ (slot f ≤ a ∧ a ≤ slot f + 30) ∨ a = 1) (Nat.le_refl 0) (fun a _ z => Or.inr (Or.inr (Or.inr z))))).mono (by omega) (fun _ _ z => z)
      obtain ⟨C8, z1, z2, z3⟩ := X9_back (N := N) (y := 373) (off := 0) (A := C7) (M := mvA C) (by omega) (by decide) (by rw [jal373]; decide) (by rw [jal373]; decide) row7
      have z1' : fX9_passAll N C7 373 0 0 = some C8 := z1
      obtain ⟨C10, hC10⟩ : ∃ C10, C10 = sI (sI (sI C8 349 29 w) 349 30 i) 349 0 2 := ⟨_, rfl⟩
      have f8 : FQ (fun a k => SD a k ∨ a = 349 ∧ (k = 30 ∨ k = 42 ∨ k = 44)) C8 C10 := by
        rw [hC10]
        exact (((FQ.rf C8).set (by unfold SD SRT; omega)).set (by unfold SD SRT; omega)).set (by unfold SD SRT; omega)
      have f78 : FQ (fun a k => SD a k ∨ a = 349 ∧ (k = 30 ∨ k = 42 ∨ k = 44)) C7 C10 := (z2.mono (fun a k q => by unfold SD SRT; omega)).tr f8
      have fC : FQ SRd C C10 := (fC7.mono (fun a k q => by unfold SD SRT at q; unfold SRd SD SRT; omega)).tr (f78.mono (fun a k q => by unfold SD SRT at q; unfold SRd SD SRT; omega))
      have ev10 : mvA C10 = mvA C8 := by
        rw [hC10]
        exact FQ.evs (S := fun a k => a = 349 ∧ (k = 0 ∨ k = 29 ∨ k = 30)) ((((FQ.rf C8).set (by omega)).set (by omega)).set (by omega)) (fun a k q => by omega)
      have q1 : gI A8 1 6 = gI A 1 6 ∧ gI A8 1 7 = gI A 1 7 := by
        rw [hA8, gI_sI, if_neg (by omega), gI_sI, if_neg (by omega), gI_sI, if_neg (by omega), gI_sI, if_neg (by omega), (x67.2.2.2 1 (by omega) (by omega) 6).1, (x67.2.2.2 1 (by omega) (by omega) 7).1, e1, e1]
        exact ⟨rfl, rfl⟩
      have hRR : HR A8 C10 := (hR.free r3 xA8 (fun a q1 q2 q3 q4 => by unfold X2 at q4; omega) (fun k => by rw [(x78.2.2.2 64 (by omega) (by omega) k).1, (x67.2.2.2 64 (by omega) (by omega) k).1]; exact e64 k)).mdl (S := fun a k => a ≠ 371 ∧ ¬ (a = 349 ∧ k = 41)) ⟨fC.1, fC.2.1, fun a k q => by
          by_cases z : a = 371
          · subst z
            rw [f78.2.2 371 k (by unfold SD SRT; omega)]
            exact p371 k
          · have z' : a = 349 ∧ k = 41 := by omega
            obtain ⟨rfl, rfl⟩ := z'
            rw [f78.2.2 349 41 (by unfold SD SRT; omega), p41, r5]⟩ (fun a k q => q)
      have hP8 : RP A8 2 (mvA C10) := by
        rw [ev10]
        exact (y2.fx hG x78 (fun a q1 q2 => by omega)).meq hG z3
      have hI : INV A8 C10 := by
        refine ⟨by rw [ev10]; exact hG.meq z3, hP8, hRR, (hS.cls xA8 (fun a z1 z2 => by unfold X2; omega) q1.1).mdl fC (fun a k q => by unfold SRd SD SRT at q; omega), ⟨?_, ?_, fun k hk => ?_⟩, ⟨?_, ?_, ?_, ?_⟩, ?_, Nat.le_trans hA xA8.1.1⟩
        · rw [f78.2.2 349 34 (by unfold SD SRT; omega), p34, (x78.2.2.2 345 (by omega) (by omega) 1).1, (x67.2.2.2 345 (by omega) (by omega) 1).1, e345]
        · rw [f78.2.2 349 34 (by unfold SD SRT; omega), p34]; decide
        · rw [f78.2.2 349 34 (by unfold SD SRT; omega), p34] at hk
          omega
        · rw [q1.2, f78.2.2 349 37 (by unfold SD SRT; omega), fC7.2.2 349 37 (by unfold SD SRT; omega)]; exact k1
        · rw [hA8, gI_sI, if_neg (by omega), gI_me, hC10, gI_sI, if_neg (by omega), gI_sI, if_neg (by omega), gI_me]
        · rw [hA8, gI_me, hC10, gI_sI, if_neg (by omega), gI_me]
        · rw [f78.2.2 349 37 (by unfold SD SRT; omega), fC7.2.2 349 37 (by unfold SD SRT; omega)]; exact k4
        · rw [f78.2.2 349 45 (by unfold SD SRT; omega)]; exact p45
      have ei : Unit → wrap (((i + 1 : Nat) : Int) - 1) = (i : Int) := fun _ => by rw [wrap_eq (by omega) (by omega)]; omega
      have ht : gI C10 349 0 = 2 := by rw [hC10, gI_me]
      rw [s1', s2']
      unfold fX8_read_208 fX6_clear fX9_read_71 fX8_keepRefusal
      rw [bnd_eq, obind_some, ← hA6, if_neg (show ¬ w = 0 by omega), y1, obind_some, bnd_eq, bnd_eq, obind_some, ← hA8, bnd_eq, ← hC7, if_neg (show ¬ w ≤ 0 by omega), z1', obind_some, bnd_eq, bnd_eq, X9_fails, obind_some, ei (), ← hC10]
      have x := FX_nX A8 (S := XQ) (Nat.le_trans hA xA8.1.1)
      exact ⟨5, 0, nX A8, 0, C10, rfl, rfl, Or.inr (by rw [ht]; simp), ((xA8.mono (d := 210) (S' := XA) (Nat.le_refl 210) (fun a _ z => by unfold X2 at z; unfold XA; omega)).tr (x.mono (d := 1) (S' := XA) (Nat.le_refl 1) (fun a _ z => XQ_XA a z))).mono (by omega) (fun _ _ z => z), fC.mono (fun a k z => by unfold SRd SD SRT at z; unfold SM; omega), hI.query x (FQ.rf C10)⟩
