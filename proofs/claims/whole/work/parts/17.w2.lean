/-! all items of a text -/
def IP (n : Nat) (T : Nat → Int) (m : Nat) (ps : Nat → Nat) (t : Nat) : Prop := ∀ j, t ≤ j → j < m → (item n T (ps j)).1 = true ∧ (j + 1 < m → (item n T (ps j)).2.1 < n ∧ T (item n T (ps j)).2.1 = 59 ∧ ps (j + 1) = (item n T (ps j)).2.1 + 1)
theorem count_loop {N n : Nat} {T : Nat → Int} (hN0 : 100 ≤ N) : ∀ {k n1 n2 i t : Nat} {A C : AH}, n + 1 ≤ i + k → k < n1 → k < n2 → 3 * t ≤ i → TA A n T i → TC C n T i t →
    ∃ (A' C' : AH) (e : Nat), FQ (fun a k => a = 345 ∧ 2 ≤ k) A A' ∧ FQ (fun a k => (a = 349 ∧ (k = 35 ∨ k = 36)) ∨ (a = 369 ∧ t ≤ k) ∨ a = 370 ∧ 4 * t ≤ k) C C' ∧ gI A' 345 2 = e ∧ gI C' 349 35 = e ∧
      ((fX6_countItems_6 N n1 A ((t + 1 : Nat) : Int) = some (0, A') ∧ fX9_takesText_10 N n2 C = some (0, C')) ∨
        ∃ (m : Nat) (ps : Nat → Nat), t < m ∧ m ≤ 30 ∧ fX6_countItems_6 N n1 A ((t + 1 : Nat) : Int) = some ((m : Int), A') ∧ fX9_takesText_10 N n2 C = some (1, C') ∧ gI C' 349 36 = m ∧ ps t = i ∧ IP n T m ps t ∧ ∀ j, t ≤ j → j < m → KM C' j (item n T (ps j)).2.2) := by
  intro k
  induction k with
  | zero =>
    intro n1 n2 i t A C hk hn1 hn2 hi hA hC
    have := hA.2.1
    omega
  | succ k ih =>
    intro n1 n2 i t A C hk hn1 hn2 hi hA hC
    have h60 := hA.1
    have hin := hA.2.1
    have ht : t < 30 := by omega
    match n1, hn1, n2, hn2 with
    | n1 + 1, hn1, n2 + 1, hn2 =>
      obtain ⟨B, b1, b2, b3, b4⟩ := X6_item (N := N) hN0 hA
      obtain ⟨D, d1, d2, d3, d4⟩ := X9_item (N := N) hN0 ht hC
      have fD : FQ (fun a k => (a = 349 ∧ (k = 35 ∨ k = 36)) ∨ (a = 369 ∧ t ≤ k) ∨ a = 370 ∧ 4 * t ≤ k) C D := d3.mono (fun a k q => by omega)
      rw [fX6_countItems_6, fX9_takesText_10, if_neg (by omega), b1, obind_some, d1, obind_some]
      by_cases ok : (item n T i).1 = true
      · obtain ⟨g1, g2⟩ := b4 ok
        have g3 := d4 ok
        rw [ok] at d2 ⊢
        rw [if_pos rfl] at d2
        rw [if_neg (b2t B), if_neg (b2t D)]
        dsimp only
        obtain ⟨e, he⟩ : ∃ e, e = (item n T i).2.1 := ⟨_, rfl⟩
        rw [← he] at b2 d2 g1
        by_cases e1 : e < n ∧ T e = 59
        · obtain ⟨B2, p1, p2, p3⟩ := X6_yes (N := N) b2 e1
          obtain ⟨D2, q1, q2, q3⟩ := X9_yes (N := N) d2 e1
          obtain ⟨A', C', e', r1, r2, r3, r4, r5⟩ := ih (n1 := n1) (n2 := n2) (i := e + 1) (t := t + 1) (A := B2) (C := D2) (by omega) (by omega) (by omega) (by omega) p2 q2
          have fC : FQ (fun a k => (a = 349 ∧ (k = 35 ∨ k = 36)) ∨ (a = 369 ∧ t ≤ k) ∨ a = 370 ∧ 4 * t ≤ k) C C' := (fD.tr (q3.mono (fun a k q => by omega))).tr (r2.mono (fun a k q => by omega))
          refine ⟨A', C', e', (b3.tr (p3.mono (fun a k q => by omega))).tr r1, fC, r3, r4, ?_⟩
          rw [p1, obind_some, if_neg (p1n0 B2), q1, obind_some, if_neg (p1n0 D2)]
          dsimp only
          rw [bnd_eq, wsuc (by omega)]
          rcases r5 with ⟨r5, r6⟩ | ⟨m, ps, r5, r6, r7, r8, r9, r10, r11, r12⟩
          · exact Or.inl ⟨r5, r6⟩
          · refine Or.inr ⟨m, fun j => if j = t then i else ps j, by omega, r6, r7, r8, r9, if_pos rfl, fun j h1 h2 => ?_, fun j h1 h2 => ?_⟩
            · dsimp only
              by_cases z : j = t
              · subst z
                rw [if_pos rfl, if_neg (by omega), ← he]
                exact ⟨ok, fun _ => ⟨e1.1, e1.2, r10⟩⟩
              · rw [if_neg z, if_neg (by omega)]
                exact r11 j (by omega) h2
            · dsimp only
              by_cases z : j = t
              · subst z
                rw [if_pos rfl]
                have f2 : KM D2 j (item n T i).2.2 := g3.fq (q3.mono (fun a k q => by omega))
                unfold KM at f2 ⊢
                rw [r2.2.2 369 j (by omega), r2.2.2 370 (4 * j) (by omega), r2.2.2 370 (4 * j + 1) (by omega), r2.2.2 370 (4 * j + 2) (by omega), r2.2.2 370 (4 * j + 3) (by omega)]
                exact f2
              · rw [if_neg z]
                exact r12 j (by omega) h2
        · refine ⟨B, D, e, b3, fD, b2.2.2.2.1, d2.2.2.2.1, ?_⟩
          rw [X6_no b2 (by decide) e1, obind_some, if_pos rfl, X9_no d2 (by decide) e1, obind_some, if_pos rfl]
          dsimp only
          rw [b2.2.2.2.1, b2.2.2.1, d2.2.2.2.1, d2.2.2.1]
          by_cases z : (e : Int) = n
          · rw [if_pos z, if_pos z]
            refine Or.inr ⟨t + 1, fun _ => i, by omega, by omega, rfl, rfl, d2.2.2.2.2.1, rfl, fun j h1 h2 => ⟨ok, fun w => by omega⟩, fun j h1 h2 => ?_⟩
            have : j = t := by omega
            subst this
            exact g3
          · rw [if_neg z, if_neg z]
            exact Or.inl ⟨rfl, rfl⟩
      · have ok2 : (item n T i).1 = false := Bool.not_eq_true _ |>.mp ok
        rw [ok2] at d2 ⊢
        rw [if_pos (b2f B), if_pos (b2f D)]
        exact ⟨B, D, (item n T i).2.1, b3, fD, b2.2.2.2.1, d2.2.2.2.1, Or.inl ⟨rfl, rfl⟩⟩
/-! one item is carried out -/
theorem X9_refq {N : Nat} {C : AH} {w code : Int} (h : gI C 349 45 = 1) : fX9_refuses N C w code = some (0, sI (sI C 349 29 w) 349 0 code) := by
  unfold fX9_refuses fX9_refuses_12
  rw [if_neg (by omega), bnd_eq, X9_fails, obind_some]
abbrev SD (a k : Nat) : Prop := SRT a k ∨ a = 349 ∧ k = 29
theorem CHG.quiet {C C' : AH} (hq : gI C 349 45 = 1) (h : CHG C C') : FQ SRT C C' := by
  obtain ⟨C1, C2, h1, h2, h3⟩ := h
  have e : gI C1 349 45 = 1 := by rw [h1.2.2 349 45 (by unfold ST; omega)]; exact hq
  rcases h2 with ⟨z, -⟩ | ⟨-, z⟩
  · omega
  · subst z
    exact (h1.mono ST_SRT).tr h3
theorem d112_ok {N : Nat} {C : AH} {x4 v : Int} (h : gI C 349 0 = 0) (hv : 0 ≤ v) : fX9_does_112 N C x4 v = some (0, C) := by
  unfold fX9_does_112
  rw [if_pos h, if_pos hv]
theorem d112_20 {N : Nat} {C : AH} {x4 v : Int} (h : ¬ gI C 349 0 = 0) (h1 : x4 = 115 → ¬ gI C 349 0 = 2) (h2 : x4 = 100 → ¬ gI C 349 0 = 3) : fX9_does_112 N C x4 v = some (20, C) := by
  have e : fX9_does_148 N C x4 = some (20, C) := by
    unfold fX9_does_148 fX9_does_168
    by_cases z : x4 = 100
    · rw [if_pos z, if_neg (h2 z), if_pos rfl]
    · rw [if_neg z, if_pos rfl]
  unfold fX9_does_112
  rw [if_neg h]
  by_cases z : x4 = 115
  · rw [if_pos z, if_neg (h1 z), e]
  · rw [if_neg z, e]
theorem d112_re {N : Nat} {C : AH} {x4 v : Int} (h : (x4 = 115 ∧ gI C 349 0 = 2) ∨ (x4 = 100 ∧ gI C 349 0 = 3)) : fX9_does_112 N C x4 v = some (gI C 349 29, C) := by
  unfold fX9_does_112 fX9_does_148 fX9_does_168
  rcases h with ⟨h1, h2⟩ | ⟨h1, h2⟩
  · rw [if_neg (by omega), if_pos h1, if_pos h2, if_neg (by decide)]
  · rw [if_neg (by omega), if_neg (by omega), if_pos h1, if_pos h2, if_neg (by decide)]
/-- what the program does for an item -/
def doC (N : Nat) (A : AH) : Option (Int × AH) :=
  if gI A 345 3 = 100 then fX8_carryOutPutOff N A (gI A 345 5) (gI A 345 6)
  else if gI A 345 3 = 115 then fX8_carryOutServe N A (gI A 345 5)
  else if gI A 345 3 = 119 then fX8_carryOutPass N A (gI A 345 5)
  else if gI A 345 3 = 111 then fX8_carryOutOrder N A 1
  else fX8_carryOutOrder N A 0
/-- how an item ends on both sides -/
def DID (r8 r9 : Option (Int × AH)) (A C : AH) : Prop := ∃ (w : Int) (A' C' : AH), r8 = some (w, A') ∧ r9 = some (w, C') ∧ 0 ≤ w ∧ FX 7 X2 A A' ∧ FQ SD C C' ∧ (w = 0 → RP A' 2 (mvA C') ∧ GD (mvA C') ∧ FQ SRT C C')
theorem DID.bad {A A1 C C1 : AH} {w : Int} (hw : 0 < w) (h1 : FX 0 X2 A A1) (h2 : FQ SD C C1) : DID (some (w, A1)) (some (w, C1)) A C := ⟨w, A1, C1, rfl, rfl, by omega, h1.mono (by omega) (fun _ _ z => z), h2, fun z => by omega⟩
theorem FQ_bad (C : AH) (x : Int) : FQ SD C (sI C 349 0 x) := (FQ_thr C x).mono (fun a k q => Or.inl (ST_SRT a k q))
theorem FQ_ref (C : AH) (w x : Int) : FQ SD C (sI (sI C 349 29 w) 349 0 x) := ((FQ.rf C).set (S := SD) (Or.inr ⟨rfl, rfl⟩)).tr (FQ_bad _ x)
theorem did_serve {N : Nat} {A C : AH} {x : Int} (hN0 : 25000 ≤ N) (hA : 376 ≤ hN A) (hG : GD (mvA C)) (hP : RP A 2 (mvA C)) (hq : CQ C) (h45 : gI C 349 45 = 1) : DID (fX8_carryOutServe N A x) (obind (fX9_serve N C x) (fun p23 => fX9_does_112 N p23.2 115 p23.1)) A C := by
  unfold fX8_carryOutServe
  rw [X5_hasOrder hP, obind_some]
  by_cases h1 : 0 ≤ x ∧ x < mvA C 18 3
  · obtain ⟨o, rfl⟩ : ∃ o : Nat, x = o := ⟨x.toNat, by omega⟩
    have ho := h1.2
    rw [decide_eq_true h1, if_neg b2t']
    rcases X9_serve (N := N) hN0 hG hq ho with ⟨q1, q2⟩ | ⟨q1, q2, C1, q3, q4⟩ | ⟨t, p, b, B, q1, q2, q3, q4, q5, q6⟩
    · rcases X5_serving (N := N) (by omega) hG hP ho with ⟨r1, r2⟩ | ⟨r1, r2, r3⟩ | ⟨t, p, b, B, r1, r2, r3, r4, r5⟩
      · rw [r2, obind_some, if_neg (p1n0 A), q2, X9_refq h45, obind_some, d112_re (Or.inl ⟨rfl, gI_thr _ 2⟩), gI_sI, if_neg (by omega), gI_me]
        exact DID.bad (show (0 : Int) < 1 by decide) (FX.rf A) (FQ_ref C 1 2)
      · exact absurd r1 q1
      · exact absurd r1 q1
    · rcases X5_serving (N := N) (by omega) hG hP ho with ⟨r1, r2⟩ | ⟨r1, r2, r3⟩ | ⟨t, p, b, B, r1, r2, r3, r4, r5⟩
      · exact absurd q1 r1
      · rw [r3, obind_some, if_neg (p12n0 A), q4, X9_refq (by rw [q3.2.2 349 45 (by unfold ST; omega)]; exact h45), obind_some, d112_re (Or.inl ⟨rfl, gI_thr _ 2⟩), gI_sI, if_neg (by omega), gI_me]
        exact DID.bad (show (0 : Int) < 12 by decide) (FX.rf A) ((q3.mono (fun a k q => Or.inl (ST_SRT a k q))).tr (FQ_ref C1 12 2))
      · rw [q2] at r2
        cases r2
    · rcases X5_serving (N := N) (by omega) hG hP ho with ⟨r1, r2⟩ | ⟨r1, r2, r3⟩ | ⟨t', p', b', A1, r1, r2, r3, r4, r5⟩
      · exact absurd q1 r1
      · rw [q2] at r2
        cases r2
      · rw [q2] at r2
        cases r2
        have hw := (servM_facts hG ho q1 q2).1
        have xa : FX 0 X2 A A1 := r4.fx (fun a k z => by unfold SW at z; unfold X2; omega)
        obtain ⟨A3, b1, b2, b3, b4⟩ := X5_take (N := N) (A := A1) (r := 2) (by omega) (by have := xa.1.1; omega) (by omega) hG (hP.fx hG (r4.fx (S := fun a => a = 347) (fun a k z => by unfold SW at z; omega)) (fun a z1 z2 => by omega)) ho q1 q2 r5
        have fq := q4.quiet h45
        rw [r3, obind_some, if_pos rfl]
        dsimp only
        rw [b1, obind_some, q3, obind_some, d112_ok q5 (by omega)]
        exact ⟨0, A3, B, rfl, rfl, by decide, (xa.tr (b3.mono (d := 7) (S' := X2) (Nat.le_refl 7) (fun a _ z => by unfold X2; omega))).mono (by omega) (fun _ _ z => z), fq.mono (fun a k z => Or.inl z), fun _ => ⟨by rw [q6]; exact b2, by rw [q6]; exact hG.takeM ho q1 q2, fq⟩⟩
  · rw [decide_eq_false h1, if_pos b2f', X9_serve_no h1, obind_some, d112_20 (by rw [gI_thr]; decide) (fun _ => by rw [gI_thr]; decide) (fun z => by omega)]
    exact DID.bad (by decide) (FX.rf A) (FQ_bad C 1)
theorem did_putOff {N : Nat} {A C : AH} {x y : Int} (hN0 : 25000 ≤ N) (hG : GD (mvA C)) (hP : RP A 2 (mvA C)) (hq : CQ C) (h45 : gI C 349 45 = 1) : DID (fX8_carryOutPutOff N A x y) (obind (fX9_putOff N C x y) (fun p23 => fX9_does_112 N p23.2 100 p23.1)) A C := by
  unfold fX8_carryOutPutOff
  rw [X5_hasOrder hP, obind_some]
  by_cases h1 : 0 ≤ x ∧ x < mvA C 18 3
  · obtain ⟨o, rfl⟩ : ∃ o : Nat, x = o := ⟨x.toNat, by omega⟩
    have ho := h1.2
    have h16 := hG.o16 ho
    have hO := hP.2.2.1 o ho
    have h6 := (hG.2.2.1 o ho).2.2.2.1
    rw [decide_eq_true h1, if_neg b2t', X8_canPutOff, obind_some]
    rcases X9_putOff (x := y) hN0 hG hq ho with ⟨q1, q2⟩ | ⟨q1, q2, q3⟩ | ⟨q1, q2, q3, B9, q4, q5, q6, q7⟩
    · rw [decide_eq_false q1, if_pos b2f', q2, obind_some, d112_20 (by rw [gI_thr]; decide) (fun z => by omega) (fun _ => by rw [gI_thr]; decide)]
      exact DID.bad (by decide) (FX.rf A) (FQ_bad C 2)
    · have hpos : 0 < whyDelM (mvA C) o := by
        unfold whyDelM at q2 ⊢
        split
        · rename_i z
          rw [if_pos z] at q2
          split
          · rename_i z2
            rw [if_pos z2] at q2
            exact absurd rfl q2
          · decide
        · decide
      rw [decide_eq_true q1, if_neg b2t', ck16 h16, show 2 + 6 + (o : Int).toNat = 2 + 6 + o by omega, X3_whyDel hO, obind_some, if_neg q2, q3, X9_refq h45, obind_some, d112_re (Or.inr ⟨rfl, gI_thr _ 3⟩), gI_sI, if_neg (by omega), gI_me]
      exact DID.bad hpos (FX.rf A) (FQ_ref C _ 3)
    · obtain ⟨B, b1, b2, b3, b4⟩ := X3_delay (N := N) (A := A) (r := 2) (x := y) (by omega) hG hP ho (by omega) q3
      have fq := q5.quiet h45
      rw [decide_eq_true q1, if_neg b2t', ck16 h16, show 2 + 6 + (o : Int).toNat = 2 + 6 + o by omega, X3_whyDel hO, obind_some, if_pos q2, ck16 h16, b1, obind_some, q2, q4, obind_some, d112_ok q6 (by omega)]
      exact ⟨0, B, B9, rfl, rfl, by decide, b3.mono (by omega) (fun a _ z => by unfold X2; omega), fq.mono (fun a k z => Or.inl z), fun _ => ⟨by rw [q7]; exact b2, by rw [q7]; exact hG.delM ho (by omega) q3, fq⟩⟩
  · rw [decide_eq_false h1, if_pos b2f', X9_putOff_no h1, obind_some, d112_20 (by rw [gI_thr]; decide) (fun z => by omega) (fun _ => by rw [gI_thr]; decide)]
    exact DID.bad (by decide) (FX.rf A) (FQ_bad C 1)
theorem did_pass {N : Nat} {A C : AH} {x : Int} (hN0 : 25000 ≤ N) (hG : GD (mvA C)) (hP : RP A 2 (mvA C)) (hq : CQ C) (h45 : gI C 349 45 = 1) (hv : 0 ≤ x → 0 ≤ (advM (mvA C) x).2) : DID (fX8_carryOutPass N A x) (obind (fX9_pass N C x) (fun p23 => fX9_does_112 N p23.2 119 p23.1)) A C := by
  have c0 := hG.2.1.1
  unfold fX8_carryOutPass
  rw [X8_canPass, obind_some, hP.2.1.1]
  rcases X9_pass (x := x) hN0 hG hq with ⟨q1, q2⟩ | ⟨q1, q2, q3⟩ | ⟨q1, q2, B9, q3, q4, q5, q6⟩
  · rw [decide_eq_false q1, if_pos b2f', q2, obind_some, d112_20 (by rw [gI_thr]; decide) (fun z => by omega) (fun z => by omega)]
    exact DID.bad (by decide) (FX.rf A) (FQ_bad C 1)
  · rw [decide_eq_true q1, if_neg b2t', wrap_eq (by omega) (by omega), if_neg (by omega), q3, obind_some, d112_20 (by rw [gI_thr]; decide) (fun z => by omega) (fun z => by omega)]
    exact DID.bad (by decide) (FX.rf A) (FQ_bad C 2)
  · obtain ⟨B, b1, b2, b3, b4⟩ := X5_advance (N := N) (A := A) (r := 2) (x := x) (by omega) (by omega) hG hP (by omega)
    have fq := q4.quiet h45
    rw [decide_eq_true q1, if_neg b2t', wrap_eq (by omega) (by omega), if_pos (by omega), b1, obind_some, q3, obind_some, d112_ok q5 (hv q1.1)]
    exact ⟨0, B, B9, rfl, rfl, by decide, b4.mono (by omega) (fun a _ z => by unfold X2; omega), fq.mono (fun a k z => Or.inl z), fun _ => ⟨by rw [q6]; exact b2, by rw [q6]; exact b3, fq⟩⟩
theorem did_order {N : Nat} {A C : AH} {d s t e l k : Int} (hN0 : 25000 ≤ N) (hG : GD (mvA C)) (hP : RP A 2 (mvA C)) (hq : CQ C) (h45 : gI C 349 45 = 1) (hd : d = 0 ∨ d = 1) (hk : ordK k) (g4 : gI A 345 4 = s) (g5 : gI A 345 5 = t) (g6 : gI A 345 6 = e) (g7 : gI A 345 7 = l) : DID (fX8_carryOutOrder N A d) (obind (fX9_order N C s d t e l) (fun p7 => fX9_does_112 N p7.2 k p7.1)) A C := by
  have c3 := hG.2.1.2.2.2.1
  unfold fX8_carryOutOrder
  rw [g4, g5, g6, g7, X5_isOrder hP, obind_some, hP.2.1.2.1]
  have ed : (if d = 0 then (0 : Int) else 1) = d := by
    rcases hd with z | z <;> subst z <;> rfl
  rcases X9_order (x1 := s) (x2 := d) (x3 := t) (x4 := e) (x5 := l) hN0 hG hq with ⟨q1, q2⟩ | ⟨q1, q2, q3⟩ | ⟨q1, q2, B9, q3, q4, q5, q6⟩
  · rw [decide_eq_false (show ¬ ((1 ≤ s ∧ s ≤ 4) ∧ (1 ≤ t ∧ t ≤ 30) ∧ mvA C 18 0 ≤ e ∧ e ≤ l ∧ l ≤ 900) from q1), if_pos b2f', q2, obind_some, d112_20 (by rw [gI_thr]; decide) (fun z => by omega) (fun z => by omega)]
    exact DID.bad (by decide) (FX.rf A) (FQ_bad C 1)
  · rw [decide_eq_true (show ((1 ≤ s ∧ s ≤ 4) ∧ (1 ≤ t ∧ t ≤ 30) ∧ mvA C 18 0 ≤ e ∧ e ≤ l ∧ l ≤ 900) from q1), if_neg b2t', if_neg (by omega), q3, obind_some, d112_20 (by rw [gI_thr]; decide) (fun z => by omega) (fun z => by omega)]
    exact DID.bad (by decide) (FX.rf A) (FQ_bad C 2)
  · obtain ⟨B, b1, b2, b3⟩ := X5_makeOrder (N := N) (s := s) (d := d) (t := t) (e := e) (l := l) (by omega) hG hP q2
    have fq := q4.quiet h45
    rw [ed] at q6
    rw [decide_eq_true (show ((1 ≤ s ∧ s ≤ 4) ∧ (1 ≤ t ∧ t ≤ 30) ∧ mvA C 18 0 ≤ e ∧ e ≤ l ∧ l ≤ 900) from q1), if_neg b2t', if_pos q2, b1, obind_some, q3, obind_some, d112_ok q5 c3.1]
    exact ⟨0, B, B9, rfl, rfl, by decide, b3.mono (by omega) (fun a _ z => by unfold X2; omega), fq.mono (fun a k z => Or.inl z), fun _ => ⟨by rw [q6]; exact b2, by rw [q6]; exact hG.mkO q2 hd q1, fq⟩⟩
