/-! calls: feed, undo, save, restore -/
theorem STEP.raw {cs : List (Nat × Int)} {A A' C C' : AH} {v : Int} (ha : FX 430 XA A A') (hc : FQ SM C C') (ht : gI C' 349 0 = 0) (h : INV A' C') : STEP cs (some (0, v, A')) (some (v, C')) A C :=
  ⟨0, v, A', v, C', rfl, rfl, Or.inl ⟨rfl, ht, rfl⟩, ha, hc, h⟩
theorem INV.text {A A' C C' : AH} {c : Nat} (h : INV A C) (ha : FX c (fun a => a = 345 ∨ a = 346 ∨ XQ a) A A') (hc : FQ (fun a k => a = 368 ∨ ST a k ∨ a = 349 ∧ k = 34) C C') (ht : TX A' C') : INV A' C' := by
  obtain ⟨h1, h2, h3, h4, h5, h6, h7, h8⟩ := h
  have ev : mvA C' = mvA C := hc.evs (fun a k q => by unfold ST at q; omega)
  refine ⟨by rw [ev]; exact h1, by rw [ev]; exact h2.fx h1 ha (fun a q1 q2 => by unfold XQ; omega), (h3.cls ha (fun a q1 q2 => by unfold XQ; omega)).mdl hc (fun a k q => by unfold ST at q; omega), (h4.cls ha (fun a q1 q2 => by unfold XQ; omega) (ha.2.2.2 1 (by omega) (by unfold XQ; omega) 6).1).mdl hc (fun a k q => by unfold ST at q; omega), ht, (h6.cls ha (by unfold XQ; omega)).mdl hc (fun a k q => by unfold ST at q; omega), ?_, Nat.le_trans h8 ha.1.1⟩
  rw [hc.2.2 349 45 (by unfold ST; omega)]
  exact h7
theorem op_feed {N : Nat} {A C : AH} {x1 : Int} (h : INV A C) (hx : 0 ≤ x1 ∧ x1 < 65536) : STEP [(2, 1)] (fX8_feed N A x1) (fX9_feed N C x1) A C := by
  obtain ⟨t1, t2, t3⟩ := h.2.2.2.2.1
  unfold fX8_feed fX9_feed
  rw [t1]
  by_cases e : gI C 349 34 = 60
  · rw [if_neg (by omega), if_pos e, X9_fails, obind_some]
    exact STEP.throw h (FX.rf A) (by omega) (FQ_thr C 1) (gI_thr C 1) (by simp)
  · obtain ⟨t, et⟩ : ∃ t : Nat, gI C 349 34 = t := ⟨(gI C 349 34).toNat, by omega⟩
    have ht : t < 60 := by omega
    have ew : Unit → wrap ((t : Int) + 1) = ((t + 1 : Nat) : Int) := fun _ => wrap_eq (by omega) (by omega)
    obtain ⟨A', hA'⟩ : ∃ A', A' = sI (sI A 346 t x1) 345 1 ((t + 1 : Nat) : Int) := ⟨_, rfl⟩
    obtain ⟨C', hC'⟩ : ∃ C', C' = sI (sI (sI C 349 0 0) 368 t x1) 349 34 ((t + 1 : Nat) : Int) := ⟨_, rfl⟩
    have fA : FQ (fun a _ => a = 345 ∨ a = 346) A A' := by
      rw [hA']
      exact ((FQ.rf A).set (S := fun a _ => a = 345 ∨ a = 346) (Or.inr rfl)).set (S := fun a _ => a = 345 ∨ a = 346) (Or.inl rfl)
    have fC : FQ (fun a k => a = 368 ∨ ST a k ∨ a = 349 ∧ k = 34) C C' := by
      rw [hC']
      exact (((FQ.rf C).set (by unfold ST; omega)).set (by unfold ST; omega)).set (by unfold ST; omega)
    have xA : FX 0 (fun a => a = 345 ∨ a = 346 ∨ XQ a) A A' := fA.fx (fun a k z => by unfold XQ; omega)
    have gA : gI A' 345 1 = ((t + 1 : Nat) : Int) := by rw [hA', gI_sI, if_pos ⟨rfl, rfl⟩]
    have gC : gI C' 349 34 = ((t + 1 : Nat) : Int) := by rw [hC', gI_sI, if_pos ⟨rfl, rfl⟩]
    have ht' : TX A' C' := by
      refine ⟨by rw [gA, gC], by rw [gC]; omega, fun k hk => ?_⟩
      rw [gC] at hk
      by_cases e2 : k = t
      · subst e2
        rw [hA', hC', gI_sI, if_neg (by omega), gI_sI, if_pos ⟨rfl, rfl⟩, gI_sI, if_neg (by omega), gI_sI, if_pos ⟨rfl, rfl⟩]
        exact ⟨rfl, hx.1, hx.2⟩
      · have := t3 k (by omega)
        rw [hA', hC', gI_sI, if_neg (by omega), gI_sI, if_neg (by omega), gI_sI, if_neg (by omega), gI_sI, if_neg (by omega), gI_sI, if_neg (by omega)]
        exact this
    have hT : gI C' 349 0 = 0 := by rw [hC', gI_sI, if_neg (by omega), gI_sI, if_neg (by omega), gI_sI, if_pos ⟨rfl, rfl⟩]
    unfold fX6_append
    rw [if_pos (by omega), if_neg e, t1, et, if_neg (by omega), chk_pos _ (by omega)]
    simp only [bnd_eq]
    rw [gI_sI, if_neg (by omega), t1, et, ew (), Int.toNat_natCast, ← hA', obind_some, gA, show gI (sI C 349 0 0) 349 34 = t from by rw [gI_sI, if_neg (by omega), et], chk_pos _ (by omega), Int.toNat_natCast, show gI (sI (sI C 349 0 0) 368 t x1) 349 34 = t from by rw [gI_sI, if_neg (by omega), gI_sI, if_neg (by omega), et], ew (), ← hC', gC]
    exact STEP.raw (xA.mono (by omega) (fun a _ z => by unfold XQ at z; unfold XA; omega)) (fC.mono (fun a k z => by unfold ST at z; unfold SM; omega)) hT (h.text xA fC ht')
theorem INV.row {A A' C C' : AH} {c : Nat} (h : INV A C) (hG : GD (mvA C')) (hP : RP A' 2 (mvA C')) (hR : HR A' C') (ha : FX c (fun a => (2 ≤ a ∧ a ≤ 32) ∨ (64 ≤ a ∧ a ≤ 344) ∨ XQ a) A A') (hc : FQ (fun a k => SRT a k ∨ SH a k) C C') : INV A' C' := by
  obtain ⟨h1, h2, h3, h4, h5, h6, h7, h8⟩ := h
  refine ⟨hG, hP, hR, (h4.cls ha (fun a q1 q2 => by unfold XQ; omega) (ha.2.2.2 1 (by omega) (by unfold XQ; omega) 6).1).mdl hc (fun a k q => by unfold SRT SH at q; omega), (h5.cls ha (by unfold XQ; omega)).mdl hc (fun a k q => by unfold SRT SH at q; omega), (h6.cls ha (by unfold XQ; omega)).mdl hc (fun a k q => by unfold SRT SH at q; omega), ?_, Nat.le_trans h8 ha.1.1⟩
  rw [hc.2.2 349 45 (by unfold SRT SH; omega)]
  exact h7
theorem jal371 : jal (kd 371) = 23168 := by decide
theorem jal372 : jal (kd 372) = 2896 := by decide
theorem jal373 : jal (kd 373) = 2896 := by decide
theorem X1_tb {N : Nat} {A : AH} {M : MR} {f : Nat} (hN0 : 100 ≤ N) (hG : GD M) (hf : gI A 64 1 = f) (h9 : f < 9) (hP : RP A (slot f) M) : ∃ B, fX1_takeBack N A 2 = some B ∧ RP B 2 M ∧ FX 0 (rgn 2 0 30) A B := by
  have hs := slot_rng h9
  obtain ⟨B, b1, b2, b3⟩ := X5_copy (N := N) (A := A) (y := 2) (z := slot f) hN0 (by omega) (by omega) (by omega) hG hP
  refine ⟨B, ?_, b2, b3⟩
  unfold fX1_takeBack
  rw [hf, chk_pos _ (by omega), Int.toNat_natCast, show 66 + 31 * f = slot f from rfl, b1, obind_some]
theorem op_undo {N : Nat} {A C : AH} (hN0 : 25000 ≤ N) (h : INV A C) : STEP [(2, 1)] (fX8_undo N A) (fX9_undo N C) A C := by
  obtain ⟨c, f, h1, h2, h3, h4, h5, h6⟩ := h.2.2.1
  unfold fX8_undo fX9_undo
  rw [h3, h4]
  by_cases e : (c : Int) = 0
  · rw [if_pos e, if_pos e, X9_fails, obind_some]
    exact STEP.throw h (FX.rf A) (by omega) (FQ_thr C 1) (gI_thr C 1) (by simp)
  · obtain ⟨n, rfl⟩ : ∃ n, c = n + 1 := ⟨c - 1, by omega⟩
    obtain ⟨M, m1, m2, m3⟩ := h6 n (by omega)
    have en : Unit → wrap (((n + 1 : Nat) : Int) - 1) = (n : Int) := fun _ => by rw [wrap_eq (by omega) (by omega)]; omega
    have eo : Unit → wrap (2896 * (n : Int)) = ((2896 * n : Nat) : Int) := fun _ => wrap_eq (by omega) (by omega)
    obtain ⟨g, hg, hg9⟩ : ∃ g, g = (f + 9 - (n + 1) + n) % 9 ∧ g < 9 := ⟨_, rfl, Nat.mod_lt _ (by decide)⟩
    rw [← hg] at m3
    -- the program
    obtain ⟨A1, hA1⟩ : ∃ A1, A1 = sI (sI A 64 1 g) 64 2 n := ⟨_, rfl⟩
    have f1 : FX 0 (fun a => a = 64) A A1 := by
      rw [hA1]
      exact FQ.fx (T := fun a _ => a = 64) (((FQ.rf A).setc).setc) (fun a k z => by have e : a = 64 := z; omega)
    have hs := slot_rng hg9
    obtain ⟨A2, a1, a2, a3⟩ := X1_tb (N := N) (A := A1) (f := g) (by omega) m1 (by rw [hA1, gI_sI, if_neg (by omega), gI_sI, if_pos ⟨rfl, rfl⟩]) hg9 (m3.fx m1 f1 (fun a q1 q2 => by omega))
    have r8 : fX1_stepBack N A 2 = some A2 := by
      have w : fX1_stepBack_19 N A 2 g = some A2 := by
        unfold fX1_stepBack_19
        simp only [bnd_eq]
        rw [gI_sI, if_neg (by omega), h4, en (), ← hA1, a1, obind_some]
      unfold fX1_stepBack
      rw [h5]
      by_cases z : (f : Int) = 0
      · rw [if_pos z, show (8 : Int) = ((g : Nat) : Int) by omega]
        exact w
      · rw [if_neg z, wrap_eq (by omega) (by omega), show (f : Int) - 1 = ((g : Nat) : Int) by omega]
        exact w
    -- the reference
    obtain ⟨C1, hC1⟩ : ∃ C1, C1 = sI (sI C 349 0 0) 349 41 n := ⟨_, rfl⟩
    have g1 : FQ (fun a k => SRT a k ∨ SH a k) C C1 := by
      rw [hC1]
      exact ((FQ.rf C).set (by unfold SRT SH; omega)).set (by unfold SRT SH; omega)
    have m2' : ROW C1 371 (2896 * n) M := m2.same (fun k _ _ => by rw [hC1, gI_sI, if_neg (by omega), gI_sI, if_neg (by omega)])
    obtain ⟨C2, c1, c2, c3⟩ := X9_back (N := N) (y := 371) (off := 2896 * n) (A := C1) (M := M) (by omega) (by decide) (by rw [jal371]; omega) (by rw [jal371]; decide) m2'
    have g2 : FQ (fun a k => SRT a k ∨ SH a k) C1 C2 := c2.mono (fun a k q => by unfold SRT SH; omega)
    have e41 : gI C2 349 41 = n := by rw [c2.2.2 349 41 (by omega), hC1, gI_sI, if_pos ⟨rfl, rfl⟩]
    have e0 : gI C2 349 0 = 0 := by rw [c2.2.2 349 0 (by omega), hC1, gI_sI, if_neg (by omega), gI_sI, if_pos ⟨rfl, rfl⟩]
    have xA : FX 0 (fun a => (2 ≤ a ∧ a ≤ 32) ∨ (64 ≤ a ∧ a ≤ 344) ∨ XQ a) A A2 := (f1.mono (Nat.le_refl 0) (fun a _ z => by have e : a = 64 := z; omega)).tr (a3.mono (Nat.le_refl 0) (fun a _ z => by unfold rgn at z; omega))
    have gB : ∀ a, 33 ≤ a → a < 376 → a ≠ 64 → ∀ k, gI A2 a k = gI A a k := fun a q1 q2 q3 k => by rw [(a3.2.2.2 a q2 (by unfold rgn; omega) k).1, (f1.2.2.2 a q2 q3 k).1]
    have e64 : ∀ k, gI A2 64 k = gI A1 64 k := fun k => (a3.2.2.2 64 (by omega) (by unfold rgn; omega) k).1
    have hR : HR A2 C2 := by
      refine ⟨n, g, by omega, hg9, e41, by rw [e64, hA1, gI_sI, if_pos ⟨rfl, rfl⟩], by rw [e64, hA1, gI_sI, if_neg (by omega), gI_sI, if_pos ⟨rfl, rfl⟩], fun i hi => ?_⟩
      obtain ⟨M', p1, p2, p3⟩ := h6 i (by omega)
      have es : (g + 9 - n + i) % 9 = (f + 9 - (n + 1) + i) % 9 := by omega
      have hs2 := slot_rng (g := (f + 9 - (n + 1) + i) % 9) (Nat.mod_lt _ (by decide))
      rw [es]
      refine ⟨M', p1, p2.same (fun k _ _ => ?_), (p3.fx p1 f1 (fun a q1 q2 => by omega)).fx p1 a3 (fun a q1 q2 => by unfold rgn; omega)⟩
      rw [c2.2.2 371 k (by omega), hC1, gI_sI, if_neg (by omega), gI_sI, if_neg (by omega)]
    rw [if_neg e, if_neg e, r8, obind_some, e64, show gI A1 64 2 = n from by rw [hA1, gI_sI, if_pos ⟨rfl, rfl⟩]]
    simp only [bnd_eq]
    rw [show gI (sI C 349 0 0) 349 41 = ((n + 1 : Nat) : Int) from by rw [gI_sI, if_neg (by omega)]; exact h3, en (), ← hC1, show gI C1 349 41 = n from by rw [hC1, gI_sI, if_pos ⟨rfl, rfl⟩], eo (), c1, obind_some, e41]
    have fC := g1.tr g2
    exact STEP.raw (xA.mono (by omega) (fun a _ z => by unfold XQ at z; unfold XA; omega)) (fC.mono (fun a k z => by unfold SRT SH at z; unfold SM; omega)) e0 (h.row (m1.meq c3) (a2.meq m1 c3) hR xA fC)
theorem op_saveSnapshot {N : Nat} {A C : AH} (hN0 : 25000 ≤ N) (h : INV A C) : STEP [] (obind (fX8_saveSnapshot N A) (fun p => some (0, p.1, p.2))) (fX9_saveSnapshot N C) A C := by
  obtain ⟨A1, a1, a2, a3⟩ := X5_copy (N := N) (A := A) (y := 33) (z := 2) (by omega) (by omega) (by omega) (by omega) h.1 h.2.1
  obtain ⟨A2, hA2⟩ : ∃ A2, A2 = sI A1 1 6 1 := ⟨_, rfl⟩
  have f2 : FX 0 (fun a => a = 1) A1 A2 := by
    rw [hA2]
    exact FQ.fx (T := fun a _ => a = 1) ((FQ.rf A1).setc) (fun a k z => by have e : a = 1 := z; omega)
  have xA : FX 0 (fun a => a = 1 ∨ (33 ≤ a ∧ a ≤ 63)) A A2 := (a3.mono (Nat.le_refl 0) (fun a _ z => by unfold rgn at z; omega)).tr (f2.mono (Nat.le_refl 0) (fun a _ z => Or.inl z))
  obtain ⟨C1, hC1⟩ : ∃ C1, C1 = sI (sI C 349 0 0) 349 43 1 := ⟨_, rfl⟩
  have g1 : FQ (fun a k => a = 372 ∨ a = 349 ∧ (k = 0 ∨ (42 ≤ k ∧ k ≤ 44))) C C1 := by
    rw [hC1]
    exact ((FQ.rf C).set (by omega)).set (by omega)
  obtain ⟨C2, c1, c2, c3⟩ := X9_keep (N := N) (y := 372) (off := 0) (A := C1) (by omega) (by decide) (by rw [jal372]; decide) (by rw [jal372]; decide)
  have fC : FQ (fun a k => a = 372 ∨ a = 349 ∧ (k = 0 ∨ (42 ≤ k ∧ k ≤ 44))) C C2 := g1.tr (c2.mono (fun a k q => by omega))
  have e1 : mvA C1 = mvA C := g1.evs (fun a k q => by omega)
  have ev : mvA C2 = mvA C := fC.evs (fun a k q => by omega)
  rw [e1] at c3
  have hP : RP A2 2 (mvA C) := h.2.1.fx h.1 xA (fun a q1 q2 => by omega)
  have e0 : gI C2 349 0 = 0 := by rw [c2.2.2 349 0 (by omega), hC1, gI_sI, if_neg (by omega), gI_sI, if_pos ⟨rfl, rfl⟩]
  have e43 : gI C2 349 43 = 1 := by rw [c2.2.2 349 43 (by omega), hC1, gI_sI, if_pos ⟨rfl, rfl⟩]
  have k1 : ∀ k, k ≠ 6 → gI A2 1 k = gI A 1 k := fun k hk => by
    rw [hA2, gI_sI, if_neg (by omega), (a3.2.2.2 1 (by omega) (by unfold rgn; omega) k).1]
  have hI : INV A2 C2 := by
    obtain ⟨h1, h2, h3, h4, h5, h6, h7, h8⟩ := h
    refine ⟨by rw [ev]; exact h1, by rw [ev]; exact hP, (h3.cls xA (fun a q1 q2 => by omega)).mdl fC (fun a k q => by omega), ⟨by rw [e43, hA2, gI_sI, if_pos ⟨rfl, rfl⟩], Or.inr ⟨e43, mvA C, h1, c3, a2.fx h1 f2 (fun a q1 q2 => by omega)⟩⟩, (h5.cls xA (by omega)).mdl fC (fun a k q => by omega), ?_, ?_, Nat.le_trans h8 xA.1.1⟩
    · unfold KE at *
      rw [k1 7 (by omega), k1 8 (by omega), k1 9 (by omega), fC.2.2 349 37 (by omega), fC.2.2 349 29 (by omega), fC.2.2 349 30 (by omega)]
      exact h6
    · rw [fC.2.2 349 45 (by omega)]
      exact h7
  unfold fX8_saveSnapshot fX9_saveSnapshot
  simp only [bnd_eq]
  have c1' : fX9_passAll N C1 372 0 1 = some C2 := c1
  rw [a1, obind_some, ← hA2, obind_some, ← hC1, c1', obind_some, show gI C2 349 22 = mvA C2 18 3 from rfl, ev, hP.2.1.2.1]
  exact STEP.raw (xA.mono (by omega) (fun a _ z => by unfold XA; omega)) (fC.mono (fun a k z => by unfold SM; omega)) e0 hI
theorem op_restoreSnapshot {N : Nat} {A C : AH} (hN0 : 25000 ≤ N) (h : INV A C) : STEP [(2, 1)] (fX8_restoreSnapshot N A) (fX9_restoreSnapshot N C) A C := by
  obtain ⟨s1, s2⟩ := h.2.2.2.1
  unfold fX8_restoreSnapshot fX9_restoreSnapshot
  rw [s1]
  rcases s2 with s2 | ⟨s2, M, m1, m2, m3⟩
  · rw [s2, if_pos rfl, if_pos rfl, X9_fails, obind_some]
    exact STEP.throw h (FX.rf A) (by omega) (FQ_thr C 1) (gI_thr C 1) (by simp)
  · obtain ⟨f, c, r1, r2, r3, r4, r5⟩ := h.2.2.1.ring
    obtain ⟨A1, a1, a2, a3⟩ := X5_copy (N := N) (A := A) (y := 2) (z := 33) (by omega) (by omega) (by omega) (by omega) m1 m3
    obtain ⟨A2, hA2⟩ : ∃ A2, A2 = sI A1 64 2 0 := ⟨_, rfl⟩
    have f2 : FX 0 (fun a => a = 64) A1 A2 := by
      rw [hA2]
      exact FQ.fx (T := fun a _ => a = 64) ((FQ.rf A1).setc) (fun a k z => by have e : a = 64 := z; omega)
    have xA : FX 0 (fun a => (2 ≤ a ∧ a ≤ 32) ∨ (64 ≤ a ∧ a ≤ 344) ∨ XQ a) A A2 := (a3.mono (Nat.le_refl 0) (fun a _ z => by unfold rgn at z; omega)).tr (f2.mono (Nat.le_refl 0) (fun a _ z => by have e : a = 64 := z; omega))
    have g1 : FQ (fun a k => SRT a k ∨ SH a k) C (sI C 349 0 0) := (FQ.rf C).set (by unfold SRT SH; omega)
    obtain ⟨C2, c1, c2, c3⟩ := X9_back (N := N) (y := 372) (off := 0) (A := sI C 349 0 0) (M := M) (by omega) (by decide) (by rw [jal372]; decide) (by rw [jal372]; decide) (m2.same (fun k _ _ => by rw [gI_sI, if_neg (by omega)]))
    obtain ⟨C3, hC3⟩ : ∃ C3, C3 = sI C2 349 41 0 := ⟨_, rfl⟩
    have fC : FQ (fun a k => SRT a k ∨ SH a k) C C3 := by
      rw [hC3]
      exact (g1.tr (c2.mono (fun a k q => by unfold SRT SH; omega))).set (by unfold SRT SH; omega)
    have ev : mvA C3 = mvA C2 := by
      rw [hC3]
      exact FQ.evs (S := fun a k => a = 349 ∧ k = 41) ((FQ.rf C2).set (by omega)) (fun a k q => by omega)
    have hG : GD (mvA C3) := by rw [ev]; exact m1.meq c3
    have hP : RP A2 2 (mvA C3) := by rw [ev]; exact (a2.fx m1 f2 (fun a q1 q2 => by omega)).meq m1 c3
    have e0 : gI C3 349 0 = 0 := by rw [hC3, gI_sI, if_neg (by omega), c2.2.2 349 0 (by omega), gI_thr]
    have hR : HR A2 C3 := ⟨0, f, Nat.zero_le _, r1, by rw [hC3, gI_sI, if_pos ⟨rfl, rfl⟩]; rfl, by rw [hA2, gI_sI, if_pos ⟨rfl, rfl⟩]; rfl, by rw [hA2, gI_sI, if_neg (by omega), (a3.2.2.2 64 (by omega) (by unfold rgn; omega) 1).1]; exact r3, fun i hi => absurd hi (Nat.not_lt_zero i)⟩
    have c1' : fX9_passAll N (sI C 349 0 0) 372 0 0 = some C2 := c1
    rw [s2, if_neg (by decide), if_neg (by decide), a1, obind_some]
    simp only [bnd_eq]
    rw [← hA2, c1', obind_some, ← hC3, show gI C3 349 22 = mvA C3 18 3 from rfl, hP.2.1.2.1]
    exact STEP.raw (xA.mono (by omega) (fun a _ z => by unfold XQ at z; unfold XA; omega)) (fC.mono (fun a k z => by unfold SRT SH at z; unfold SM; omega)) e0 (h.row hG hP hR xA fC)
