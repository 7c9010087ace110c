/-! calls: serving, releasing, putting off, passing -/
theorem p12n0 (B : AH) : ¬ ((12 : Int), B).1 = 0 := by
  show ¬ (12 : Int) = 0
  decide
theorem X9_serve {N : Nat} {C : AH} {o : Nat} (hN : 25000 ≤ N) (hG : GD (mvA C)) (hq : CQ C) (ho : (o : Int) < mvA C 18 3) :
    (¬ mvA C 7 o = 0 ∧ fX9_serve N C o = fX9_refuses N C 1 2) ∨ (mvA C 7 o = 0 ∧ servM (mvA C) o = none ∧ ∃ C1, FQ ST C C1 ∧ fX9_serve N C o = fX9_refuses N C1 12 2) ∨
    (∃ t p b B, mvA C 7 o = 0 ∧ servM (mvA C) o = some (t, p, b) ∧ fX9_serve N C o = some (t, B) ∧ CHG C B ∧ gI B 349 0 = 0 ∧ mvA B = takeM (mvA C) o t p b) := by
  have h16 := hG.o16 ho
  have rf : ∀ (D : AH) (w : Int), obind (fX9_refuses N D w 2) (fun p => some (p.1, p.2)) = fX9_refuses N D w 2 := fun D w => by
    cases fX9_refuses N D w 2 <;> rfl
  unfold fX9_serve
  rw [X9_isOrder, obind_some, decide_eq_true (show 0 ≤ (o : Int) ∧ (o : Int) < mvA C 18 3 by omega), if_neg b2t', ck16 h16, show gI C 357 (o : Int).toNat = mvA C 7 o from rfl]
  by_cases h7 : mvA C 7 o = 0
  · rw [if_pos h7]
    rcases X9_canServe (N := N) (by omega) hG ho h7 with ⟨t, p, b, C1, q1, q2, q3, q4⟩ | ⟨C1, q1, q2, q3⟩
    · right
      right
      obtain ⟨hw, hp, hb⟩ := servM_facts hG ho h7 q1
      have fs : FQ ST C (sI C1 349 0 0) := (q3.mono SS_ST).tr (FQ_thr C1 0)
      obtain ⟨C2, c1, c2⟩ := X9_rem (N := N) hN (hq.fq fs (fun a k q => by unfold ST at q; omega))
      have ev : mvA C2 = mvA C := c2.ev.trans fs.evt
      have hF : FND C2 t p b := by
        obtain ⟨f1, f2, f3⟩ := q4
        have e : ∀ k, 26 ≤ k → k ≤ 28 → gI C2 349 k = gI C1 349 k := fun k k1 k2 => by
          rw [c2.fq.2.2 349 k (by unfold SH; omega), gI_sI, if_neg (by omega)]
        exact ⟨(e 26 (by omega) (by omega)).trans f1, (e 27 (by omega) (by omega)).trans f2, (e 28 (by omega) (by omega)).trans f3⟩
      obtain ⟨B, b1, b2, b3⟩ := X9_serves (N := N) (A := C2) (o := o) (t := t) (p := p) (b := b) (by omega) (by rw [ev]; exact hG) h16 hF ⟨hw.2.2.2.1, hw.2.2.2.2⟩ (by
        rw [ev]
        rcases hb with ⟨z, -⟩ | ⟨c, z1, z2, z3, z4, z5, z6⟩
        · exact Or.inl z
        · exact Or.inr ⟨c, z1, z2, z5, z3⟩)
      refine ⟨t, p, b, B, h7, q1, ?_, ⟨_, C2, fs, c2, b3.mono SR_SRT⟩, ?_, by rw [b2, ev]⟩
      · rw [q2, obind_some, if_neg (p1n0 C1), bnd_eq]
        dsimp only
        rw [c1, obind_some, b1, obind_some]
      · rw [b3.2.2 349 0 (by unfold SR; omega), c2.fq.2.2 349 0 (by unfold SH; omega), gI_thr]
    · right
      left
      refine ⟨h7, q1, C1, q3.mono SS_ST, ?_⟩
      rw [q2, obind_some, if_pos rfl]
      exact rf _ _
  · left
    refine ⟨h7, ?_⟩
    rw [if_neg h7]
    exact rf _ _
theorem X9_serve_no {N : Nat} {C : AH} {x : Int} (h : ¬ (0 ≤ x ∧ x < mvA C 18 3)) : fX9_serve N C x = some (0, sI C 349 0 1) := by
  unfold fX9_serve
  rw [X9_isOrder, obind_some, decide_eq_false h, if_pos b2f', X9_fails, obind_some]
theorem op_serve {N : Nat} {A C : AH} {x1 : Int} (hN0 : 25000 ≤ N) (h : INV A C) : STEP [(3, 1), (5, 2)] (fX8_serve N A x1) (fX9_serve N C x1) A C := by
  unfold fX8_serve
  rw [X8_order h.2.1]
  by_cases h1 : 0 ≤ x1 ∧ x1 < mvA C 18 3
  · obtain ⟨o, rfl⟩ : ∃ o : Nat, x1 = o := ⟨x1.toNat, by omega⟩
    have ho := h1.2
    rw [if_pos h1, obind_some, if_pos rfl]
    dsimp only
    rcases X9_serve (N := N) hN0 h.1 h.cq ho with ⟨q1, q2⟩ | ⟨q1, q2, C1, q3, q4⟩ | ⟨t, p, b, B, q1, q2, q3, q4, q5, q6⟩
    · rcases X5_serving (N := N) (by omega) h.1 h.2.1 ho with ⟨r1, r2⟩ | ⟨r1, r2, r3⟩ | ⟨t, p, b, B, r1, r2, r3, r4, r5⟩
      · rw [r2, obind_some, X8_refuse, if_neg (p1n0 A), obind_some, if_neg (n5 _), q2, X9_refuses h.2.2.2.2.2.2.1]
        exact STEP.refuse h (FX.rf A) (by omega) (FQ.rf C) (by simp)
      · exact absurd r1 q1
      · exact absurd r1 q1
    · rcases X5_serving (N := N) (by omega) h.1 h.2.1 ho with ⟨r1, r2⟩ | ⟨r1, r2, r3⟩ | ⟨t, p, b, B, r1, r2, r3, r4, r5⟩
      · exact absurd q1 r1
      · rw [r3, obind_some, X8_refuse, if_neg (p12n0 A), obind_some, if_neg (n5 _), q4, X9_refuses (by rw [q3.2.2 349 45 (by unfold ST; omega)]; exact h.2.2.2.2.2.2.1)]
        exact STEP.refuse h (FX.rf A) (by omega) q3 (by simp)
      · rw [q2] at r2
        cases r2
    · rcases X5_serving (N := N) (by omega) h.1 h.2.1 ho with ⟨r1, r2⟩ | ⟨r1, r2, r3⟩ | ⟨t', p', b', A1, r1, r2, r3, r4, r5⟩
      · exact absurd q1 r1
      · rw [q2] at r2
        cases r2
      · rw [q2] at r2
        cases r2
        have xa : FX 0 XQ A A1 := r4.fx (fun a k z => by unfold SW at z; unfold XQ; omega)
        obtain ⟨A2, a1, a2, a3, a4⟩ := h.add (N := N) (by omega) xa
        have hw : WAY A2 t p b := by
          have e := a2.fx.2.2.2 347 (by omega) (by omega)
          unfold WAY at *
          rw [(e 0).1, (e 1).1, (e 2).1]
          exact r5
        obtain ⟨A3, b1, b2, b3, b4⟩ := X5_take (N := N) (r := 2) (by omega) a4 (by omega) h.1 a3 ho q1 q2 hw
        rw [r3, obind_some, X8_refuse, if_pos rfl, obind_some, if_pos rfl]
        dsimp only
        rw [a1, obind_some, b1, obind_some, b4.1, q3]
        exact STEP.change h (CHX.of xa a2 b3 b2) (by omega) q4 q6 (h.1.takeM ho q1 q2) q5
  · rw [if_neg h1, obind_some, if_neg (n3 _), X9_serve_no h1]
    exact STEP.throw h (FX.rf A) (by omega) (FQ_thr C 1) (gI_thr C 1) (by simp)
theorem op_serving {N : Nat} {A C : AH} {x1 x2 : Int} (hN0 : 25000 ≤ N) (h : INV A C) : STEP [(3, 1), (1, 2), (6, 3)] (fX8_serving N A x1 x2) (fX9_serving N C x1 x2) A C := by
  unfold fX8_serving fX9_serving
  rw [X8_order h.2.1, X9_isOrder, obind_some]
  by_cases h1 : 0 ≤ x1 ∧ x1 < mvA C 18 3
  · obtain ⟨o, rfl⟩ : ∃ o : Nat, x1 = o := ⟨x1.toNat, by omega⟩
    have ho := h1.2
    have h16 := h.1.o16 ho
    rw [if_pos h1, decide_eq_true h1, obind_some, if_pos rfl, if_neg b2t', X9_isBetween, bt_in, obind_some]
    dsimp only
    by_cases h2 : 0 ≤ x2 ∧ x2 ≤ 2
    · rw [decide_eq_true h2, if_neg b2t', if_neg (by omega), if_pos h2.2]
      by_cases h7 : mvA C 7 o = 0
      · rcases X9_canServe (N := N) (by omega) h.1 ho h7 with ⟨t, p, b, C1, q1, q2, q3, q4⟩ | ⟨C1, q1, q2, q3⟩
        · rcases X5_serving (N := N) (by omega) h.1 h.2.1 ho with ⟨r1, r2⟩ | ⟨r1, r2, r3⟩ | ⟨t', p', b', A1, r1, r2, r3, r4, r5⟩
          · exact absurd h7 r1
          · rw [q1] at r2
            cases r2
          · rw [q1] at r2
            cases r2
            have xa : FX 0 XQ A A1 := r4.fx (fun a k z => by unfold SW at z; unfold XQ; omega)
            have fs : FQ ST C (sI C1 349 0 0) := (q3.mono SS_ST).tr (FQ_thr C1 0)
            rw [q2, obind_some, if_neg (p1n0 C1), bnd_eq, r3, obind_some, if_pos rfl]
            dsimp only
            have e : ∀ k, k ≠ 0 → gI (sI C1 349 0 0) 349 k = gI C1 349 k := fun k hk => by rw [gI_sI, if_neg (by omega)]
            rw [e 26 (by decide), e 27 (by decide), e 28 (by decide), q4.1, q4.2.1, q4.2.2, r5.1, r5.2.1, r5.2.2]
            by_cases e0 : x2 = 0
            · rw [if_pos e0, if_pos e0]
              exact STEP.query h xa (by omega) fs (gI_thr C1 0)
            · rw [if_neg e0, if_neg e0]
              by_cases e1 : x2 = 1
              · rw [if_pos e1, if_pos e1]
                exact STEP.query h xa (by omega) fs (gI_thr C1 0)
              · rw [if_neg e1, if_neg e1]
                exact STEP.query h xa (by omega) fs (gI_thr C1 0)
        · rcases X5_serving (N := N) (by omega) h.1 h.2.1 ho with ⟨r1, r2⟩ | ⟨r1, r2, r3⟩ | ⟨t', p', b', A1, r1, r2, r3, r4, r5⟩
          · exact absurd h7 r1
          · rw [q2, obind_some, if_pos rfl, X9_fails, obind_some, r3, obind_some, if_neg (p12n0 A)]
            exact STEP.throw h (FX.rf A) (by omega) ((q3.mono SS_ST).tr (FQ_thr C1 3)) (gI_thr C1 3) (by simp)
          · rw [q1] at r2
            cases r2
      · rcases X5_serving (N := N) (by omega) h.1 h.2.1 ho with ⟨r1, r2⟩ | ⟨r1, r2, r3⟩ | ⟨t', p', b', A1, r1, r2, r3, r4, r5⟩
        · rw [X9_canServe_no h16 h7, obind_some, if_pos rfl, X9_fails, obind_some, r2, obind_some, if_neg (p1n0 A)]
          exact STEP.throw h (FX.rf A) (by omega) (FQ_thr C 3) (gI_thr C 3) (by simp)
        · exact absurd r1 h7
        · exact absurd r1 h7
    · have thr := STEP.throw (cs := [(3, 1), (1, 2), (6, 3)]) (k := 1) (c := 2) (w := 0) h (FX.rf A) (by omega) (FQ_thr C 2) (gI_thr C 2) (by simp)
      rw [decide_eq_false h2, if_pos b2f', X9_fails, obind_some]
      by_cases h3 : x2 < 0
      · rw [if_pos h3]
        exact thr
      · rw [if_neg h3, if_neg (by omega)]
        exact thr
  · rw [if_neg h1, decide_eq_false h1, obind_some, if_neg (n3 _), if_pos b2f', X9_fails, obind_some]
    exact STEP.throw h (FX.rf A) (by omega) (FQ_thr C 1) (gI_thr C 1) (by simp)
theorem op_release {N : Nat} {A C : AH} {x1 : Int} (hN0 : 25000 ≤ N) (h : INV A C) : STEP [(3, 1), (5, 2)] (fX8_release N A x1) (fX9_release N C x1) A C := by
  unfold fX8_release fX9_release
  rw [X8_order h.2.1, X9_isOrder, obind_some]
  by_cases h1 : 0 ≤ x1 ∧ x1 < mvA C 18 3
  · obtain ⟨o, rfl⟩ : ∃ o : Nat, x1 = o := ⟨x1.toNat, by omega⟩
    have ho := h1.2
    have h16 := h.1.o16 ho
    have hM := h.1.2.2.1 o ho
    have hq := h.2.2.2.2.2.2.1
    rw [if_pos h1, decide_eq_true h1, obind_some, if_pos rfl, if_neg b2t', ck16 h16, ck16 h16, ck16 h16, show gI C 357 (o : Int).toNat = mvA C 7 o from rfl, show gI C 359 (o : Int).toNat = mvA C 9 o from rfl, show gI C 358 (o : Int).toNat = mvA C 8 o from rfl, show gI C 349 19 = mvA C 18 0 from rfl]
    dsimp only
    rw [X5_reasonRelease h.1 h.2.1 ho, obind_some, X8_refuse]
    unfold relM
    have r37 : fX9_release_37 N C = some (0, refC C 13 2) := by
      unfold fX9_release_37
      rw [X9_refuses hq, obind_some]
    by_cases h7 : mvA C 7 o = 1
    · rw [if_pos h7, if_pos h7]
      by_cases h9 : mvA C 18 0 < mvA C 9 o
      · rw [if_pos h9, if_pos h9, X9_findLastM (by omega) h.1.2.1 h.1.2.2.1, obind_some, X9_end h16 (by rw [mvA_setL]; exact hM) (by rw [mvA_setL]; exact Or.inl h7), obind_some, setL_24, mvA_setL, show (lastM (mvA C) (mvA C 8 o)).1 = freM (mvA C) (mvA C 8 o) from rfl]
        have fs : FQ ST C (setL C (lastM (mvA C) (mvA C 8 o))) := (FQ_setL C _).mono SS_ST
        by_cases hl : freM (mvA C) (mvA C 8 o) = endM (mvA C) o
        · rw [if_pos hl, if_pos hl, if_pos rfl, obind_some, if_pos rfl, bnd_eq]
          dsimp only
          have fs2 := fs.tr (FQ_thr (setL C (lastM (mvA C) (mvA C 8 o))) 0)
          obtain ⟨A2, a1, a2, a3, a4⟩ := h.add (N := N) (by omega) (FX.rf A)
          obtain ⟨C2, c1, c2, c3⟩ := h.rem (N := N) hN0 fs2
          obtain ⟨B, b1, b2, b3⟩ := X5_removeTrip (N := N) (A := A2) (r := 2) (by omega) h.1 a3 ho h7 hl
          have e6 : gI A2 (2 + 6 + o) 6 = mvA C 8 o := by
            have := (a3.2.2.1 o ho).2.2.2.2.2.2.2.1
            rw [if_pos (Or.inl h7)] at this
            exact this
          have e8 : gI (sI C2 357 o 0) 358 o = mvA C 8 o := by
            rw [gI_sI, if_neg (by omega), ← c3]
            rfl
          rw [a1, obind_some, ck16 h16, bnd_eq, show 2 + 6 + (o : Int).toNat = 2 + 6 + o by omega, e6, b1, obind_some, c1, obind_some, ck16 h16, bnd_eq, ck16 h16, Int.toNat_natCast, e8]
          exact STEP.change h (M' := updM (mvA C) 7 o 0) (CHX.of (FX.rf A) a2 b3 b2) (by omega) ⟨_, C2, fs2, c2, FQ_sI C2 (by unfold SRT; omega)⟩ (by rw [mvA_sIr _ (j := 7) rfl (by decide), c3]) (GD_state h.1 (by omega) (Or.inl rfl)) (by rw [gI_sI, if_neg (by omega), c2.fq.2.2 349 0 (by unfold SH; omega), gI_thr])
        · rw [if_neg hl, if_neg hl, if_neg (by decide), obind_some, if_neg (n5 _), X9_refuses (by rw [fs.2.2 349 45 (by unfold ST; omega)]; exact hq), obind_some]
          exact STEP.refuse h (FX.rf A) (by omega) fs (by simp)
      · rw [if_neg h9, if_neg h9, if_neg (by decide), obind_some, if_neg (n5 _), r37]
        exact STEP.refuse h (FX.rf A) (by omega) (FQ.rf C) (by simp)
    · rw [if_neg h7, if_neg h7, if_neg (by decide), obind_some, if_neg (n5 _), r37]
      exact STEP.refuse h (FX.rf A) (by omega) (FQ.rf C) (by simp)
  · rw [if_neg h1, decide_eq_false h1, obind_some, if_neg (n3 _), if_pos b2f', X9_fails, obind_some]
    exact STEP.throw h (FX.rf A) (by omega) (FQ_thr C 1) (gI_thr C 1) (by simp)
theorem X9_putOff {N : Nat} {C : AH} {o : Nat} {x : Int} (hN : 25000 ≤ N) (hG : GD (mvA C)) (hq : CQ C) (ho : (o : Int) < mvA C 18 3) :
    (¬ (1 ≤ x ∧ x ≤ 48) ∧ fX9_putOff N C o x = some (0, sI C 349 0 2)) ∨ ((1 ≤ x ∧ x ≤ 48) ∧ whyDelM (mvA C) o ≠ 0 ∧ fX9_putOff N C o x = fX9_refuses N C (whyDelM (mvA C) o) 3) ∨
    ((1 ≤ x ∧ x ≤ 48) ∧ whyDelM (mvA C) o = 0 ∧ mvA C 10 o < 2 ∧ ∃ B, fX9_putOff N C o x = some (min 900 (mvA C 6 o + x), B) ∧ CHG C B ∧ gI B 349 0 = 0 ∧ mvA B = delM (mvA C) o x) := by
  have h16 := hG.o16 ho
  have hM := hG.2.2.1 o ho
  have h6 := hM.2.2.2.1
  have h10 := hM.2.2.2.2.2.1
  have rf : ∀ (D : AH) (w : Int), obind (fX9_refuses N D w 3) (fun p => some (p.1, p.2)) = fX9_refuses N D w 3 := fun D w => by
    cases fX9_refuses N D w 3 <;> rfl
  unfold fX9_putOff
  rw [X9_isOrder, obind_some, decide_eq_true (show 0 ≤ (o : Int) ∧ (o : Int) < mvA C 18 3 by omega), if_neg b2t', X9_isBetween, bt_in, obind_some]
  by_cases hx : 1 ≤ x ∧ x ≤ 48
  · rw [decide_eq_true hx, if_neg b2t', ck16 h16, ck16 h16, show gI C 357 (o : Int).toNat = mvA C 7 o from rfl, show gI C 360 (o : Int).toNat = mvA C 10 o from rfl]
    right
    unfold whyDelM
    by_cases h7 : mvA C 7 o = 0
    · rw [if_pos h7, if_pos h7]
      by_cases h2 : mvA C 10 o = 2
      · rw [if_pos h2, if_neg (by omega)]
        exact Or.inl ⟨hx, by decide, rf _ _⟩
      · rw [if_neg h2, if_pos (by omega)]
        obtain ⟨C2, c1, c2⟩ := X9_rem (N := N) (A := sI C 349 0 0) hN (hq.fq (FQ_thr C 0) (fun a k q => by unfold ST at q; omega))
        have c3 : mvA C2 = mvA C := c2.ev.trans (mvA_thr C 0)
        have e6 : gI C2 356 o = mvA C 6 o := by rw [← c3]; rfl
        have e10 : gI C2 360 o = mvA C 10 o := by rw [← c3]; rfl
        have key : ∀ v : Int, v = min 900 (mvA C 6 o + x) → ∃ B, fX9_putOff_106 N C2 o o v = some (min 900 (mvA C 6 o + x), B) ∧ CHG C B ∧ gI B 349 0 = 0 ∧ mvA B = delM (mvA C) o x := by
          intro v hv
          unfold fX9_putOff_106
          rw [ck16 h16, bnd_eq, ck16 h16, ck16 h16, bnd_eq, ck16 h16, Int.toNat_natCast]
          have w : gI (sI C2 356 o v) 360 o = mvA C 10 o := by rw [gI_sI, if_neg (by omega), e10]
          rw [w, wrap_eq (by omega) (by omega)]
          have w2 : gI (sI (sI C2 356 o v) 360 o (mvA C 10 o + 1)) 356 o = v := by rw [gI_sI, if_neg (by omega), gI_sI, if_pos ⟨rfl, rfl⟩]
          rw [w2]
          refine ⟨_, by rw [hv], ⟨_, C2, FQ_thr C 0, c2, ((FQ.rf C2).set (by unfold SRT; omega)).set (by unfold SRT; omega)⟩, ?_, ?_⟩
          · rw [gI_sI, if_neg (by omega), gI_sI, if_neg (by omega), c2.fq.2.2 349 0 (by unfold SH; omega), gI_thr]
          · rw [mvA_sIr _ (j := 10) rfl (by decide), mvA_sIr _ (j := 6) rfl (by decide), c3]
            rfl
        refine Or.inr ⟨hx, rfl, by omega, ?_⟩
        rw [bnd_eq, c1, obind_some, ck16 h16, ck16 h16, Int.toNat_natCast, e6, wrap_eq (by omega) (by omega)]
        by_cases h9 : mvA C 6 o + x ≤ 900
        · rw [if_pos h9]
          exact key _ (by omega)
        · rw [if_neg h9]
          exact key _ (by omega)
    · rw [if_neg h7, if_neg h7]
      exact Or.inl ⟨hx, by decide, rf _ _⟩
  · rw [decide_eq_false hx, if_pos b2f', X9_fails, obind_some]
    exact Or.inl ⟨hx, rfl⟩
theorem X9_putOff_no {N : Nat} {C : AH} {x y : Int} (h : ¬ (0 ≤ x ∧ x < mvA C 18 3)) : fX9_putOff N C x y = some (0, sI C 349 0 1) := by
  unfold fX9_putOff
  rw [X9_isOrder, obind_some, decide_eq_false h, if_pos b2f', X9_fails, obind_some]
theorem X8_canPutOff {N : Nat} {A : AH} {x : Int} : fX8_canPutOffBy N A x = some (b2i (decide (1 ≤ x ∧ x ≤ 48))) := by
  unfold fX8_canPutOffBy
  by_cases h : 1 ≤ x ∧ x ≤ 48
  · rw [decide_eq_true h, if_neg (by omega), if_neg (by omega)]; rfl
  · rw [decide_eq_false h]
    by_cases h2 : x < 1
    · rw [if_pos h2]; rfl
    · rw [if_neg h2, if_pos (by omega)]; rfl
theorem X8_canPass {N : Nat} {A : AH} {x : Int} : fX8_canPassBy N A x = some (b2i (decide (0 ≤ x ∧ x ≤ 48))) := by
  unfold fX8_canPassBy
  by_cases h : 0 ≤ x ∧ x ≤ 48
  · rw [decide_eq_true h, if_neg (by omega), if_neg (by omega)]; rfl
  · rw [decide_eq_false h]
    by_cases h2 : x < 0
    · rw [if_pos h2]; rfl
    · rw [if_neg h2, if_pos (by omega)]; rfl
theorem op_putOff {N : Nat} {A C : AH} {x1 x2 : Int} (hN0 : 25000 ≤ N) (h : INV A C) : STEP [(3, 1), (1, 2), (5, 3)] (fX8_putOff N A x1 x2) (fX9_putOff N C x1 x2) A C := by
  unfold fX8_putOff
  rw [X8_order h.2.1]
  by_cases h1 : 0 ≤ x1 ∧ x1 < mvA C 18 3
  · obtain ⟨o, rfl⟩ : ∃ o : Nat, x1 = o := ⟨x1.toNat, by omega⟩
    have ho := h1.2
    have h16 := h.1.o16 ho
    have hO := h.2.1.2.2.1 o ho
    rw [if_pos h1, obind_some, if_pos rfl, X8_canPutOff, obind_some]
    dsimp only
    rcases X9_putOff (x := x2) hN0 h.1 h.cq ho with ⟨q1, q2⟩ | ⟨q1, q2, q3⟩ | ⟨q1, q2, q3, B9, q4, q5, q6, q7⟩
    · rw [decide_eq_false q1, if_pos b2f', q2]
      exact STEP.throw h (FX.rf A) (by omega) (FQ_thr C 2) (gI_thr C 2) (by simp)
    · rw [decide_eq_true q1, if_neg b2t', ck16 h16, show 2 + 6 + (o : Int).toNat = 2 + 6 + o by omega, X3_whyDel hO, obind_some, X8_refuse, if_neg q2, obind_some, if_neg (n5 _), q3, X9_refuses h.2.2.2.2.2.2.1]
      exact STEP.refuse h (FX.rf A) (by omega) (FQ.rf C) (by simp)
    · obtain ⟨A2, a1, a2, a3, a4⟩ := h.add (N := N) (by omega) (FX.rf A)
      obtain ⟨B, b1, b2, b3, b4⟩ := X3_delay (N := N) (A := A2) (r := 2) (x := x2) (by omega) h.1 a3 ho (by omega) q3
      rw [decide_eq_true q1, if_neg b2t', ck16 h16, show 2 + 6 + (o : Int).toNat = 2 + 6 + o by omega, X3_whyDel hO, obind_some, X8_refuse, if_pos q2, obind_some, if_pos rfl]
      dsimp only
      rw [a1, obind_some, b1, obind_some, b4, q4]
      exact STEP.change h (CHX.of (FX.rf A) a2 b3 b2) (by omega) q5 q7 (h.1.delM ho (by omega) q3) q6
  · rw [if_neg h1, obind_some, if_neg (n3 _), X9_putOff_no h1]
    exact STEP.throw h (FX.rf A) (by omega) (FQ_thr C 1) (gI_thr C 1) (by simp)
theorem X9_pass {N : Nat} {C : AH} {x : Int} (hN : 25000 ≤ N) (hG : GD (mvA C)) (hq : CQ C) :
    (¬ (0 ≤ x ∧ x ≤ 48) ∧ fX9_pass N C x = some (0, sI C 349 0 1)) ∨ ((0 ≤ x ∧ x ≤ 48) ∧ ¬ mvA C 18 0 + x ≤ 999 ∧ fX9_pass N C x = some (0, sI C 349 0 2)) ∨
    ((0 ≤ x ∧ x ≤ 48) ∧ mvA C 18 0 + x ≤ 999 ∧ ∃ B, fX9_pass N C x = some ((advM (mvA C) x).2, B) ∧ CHG C B ∧ gI B 349 0 = 0 ∧ mvA B = (advM (mvA C) x).1) := by
  have c0 := hG.2.1.1
  unfold fX9_pass
  rw [X9_isBetween, bt_in, obind_some]
  by_cases hx : 0 ≤ x ∧ x ≤ 48
  · rw [decide_eq_true hx, if_neg b2t', show gI C 349 19 = mvA C 18 0 from rfl, wrap_eq (by omega) (by omega)]
    right
    by_cases h9 : mvA C 18 0 + x ≤ 999
    · rw [if_pos h9]
      obtain ⟨C2, c1, c2⟩ := X9_rem (N := N) (A := sI C 349 0 0) hN (hq.fq (FQ_thr C 0) (fun a k q => by unfold ST at q; omega))
      have c3 : mvA C2 = mvA C := c2.ev.trans (mvA_thr C 0)
      obtain ⟨B, b1, b2, b3⟩ := X9_passes (N := N) (A := C2) (x := x) (by omega) (by rw [c3]; exact hG) (by rw [c3]; omega)
      rw [c3] at b1 b2
      refine Or.inr ⟨hx, h9, B, ?_, ⟨_, C2, FQ_thr C 0, c2, b3.mono SR_SRT⟩, ?_, b2⟩
      · rw [bnd_eq, c1, obind_some, b1, obind_some]
      · rw [b3.2.2 349 0 (by unfold SR; omega), c2.fq.2.2 349 0 (by unfold SH; omega), gI_thr]
    · rw [if_neg h9, X9_fails, obind_some]
      exact Or.inl ⟨hx, h9, rfl⟩
  · rw [decide_eq_false hx, if_pos b2f', X9_fails, obind_some]
    exact Or.inl ⟨hx, rfl⟩
theorem op_pass {N : Nat} {A C : AH} {x1 : Int} (hN0 : 25000 ≤ N) (h : INV A C) : STEP [(1, 1), (2, 2)] (fX8_pass N A x1) (fX9_pass N C x1) A C := by
  have c0 := h.1.2.1.1
  unfold fX8_pass
  rw [X8_canPass, obind_some, h.2.1.2.1.1]
  rcases X9_pass (x := x1) hN0 h.1 h.cq with ⟨q1, q2⟩ | ⟨q1, q2, q3⟩ | ⟨q1, q2, B9, q3, q4, q5, q6⟩
  · rw [decide_eq_false q1, if_pos b2f', q2]
    exact STEP.throw h (FX.rf A) (by omega) (FQ_thr C 1) (gI_thr C 1) (by simp)
  · rw [decide_eq_true q1, if_neg b2t', wrap_eq (by omega) (by omega), if_neg (by omega), q3]
    exact STEP.throw h (FX.rf A) (by omega) (FQ_thr C 2) (gI_thr C 2) (by simp)
  · obtain ⟨A2, a1, a2, a3, a4⟩ := h.add (N := N) (by omega) (FX.rf A)
    obtain ⟨B, b1, b2, b3, b4⟩ := X5_advance (N := N) (A := A2) (r := 2) (x := x1) (by omega) (by omega) h.1 a3 (by omega)
    rw [decide_eq_true q1, if_neg b2t', wrap_eq (by omega) (by omega), if_pos (by omega), a1, obind_some, b1, obind_some, q3]
    exact STEP.change h (CHX.of (FX.rf A) a2 b4 b2) (by omega) q4 q6 b3 q5
