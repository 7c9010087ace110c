/-! calls: planOf, placeAgain -/
theorem isTh_lt {M : MR} {p : Int} {t : Nat} (hG : GD M) (h : isTh M p t) : t < 16 + 2703 := by
  have c5 := hG.2.1.2.2.2.2
  rcases h with ⟨h1, -⟩ | ⟨h1, h2, -⟩ <;> omega
theorem w16 {t : Nat} (h : 16 ≤ t) (h2 : t < 16 + 2703) : wrap ((t : Int) - 16) = ((t - 16 : Nat) : Int) := by
  rw [wrap_eq (by omega) (by omega)]
  omega
theorem X9_beginOf {N : Nat} {A : AH} {p : Int} {t : Nat} (hG : GD (mvA A)) (h : isTh (mvA A) p t) : fX9_beginOf N A t = some (lgB (thM (mvA A) t)) := by
  have hl := isTh_lt hG h
  unfold fX9_beginOf thM
  by_cases e : t < 16
  · rw [if_neg (by omega), if_pos e, ck16 e]
    rfl
  · rw [if_pos (by omega), if_neg e, w16 (by omega) hl, chk_pos _ (by omega)]
    rfl
theorem TH.begin {M : MR} {p : Int} {L : List LG} {j : Nat} {b : Int} (h : TH M p L j b) : (j = L.length ∧ b < 0) ∨ (j < L.length ∧ ¬ b < 0) := by
  rcases h with ⟨h1, h2⟩ | ⟨h1, t, h2, -⟩
  · exact Or.inl ⟨h1, by omega⟩
  · exact Or.inr ⟨h1, by omega⟩
theorem X9_plan33 {N : Nat} {A : AH} {p : Int} {L : List LG} {x2 x3 : Int} (hN0 : 3000 ≤ N) (hG : GD (mvA A)) (hP : PL (mvA A) p L) : ∀ {k n j : Nat} {b : Int}, j + k = L.length → k < n → (j : Int) ≤ x2 → TH (mvA A) p L j b → ∃ b', fX9_planOf_33 N p x2 x3 n A b j = fX9_planOf_65 N A x3 b' ∧ TH (mvA A) p L (min x2.toNat L.length) b' := by
  have hl := hP.len hG.2.1
  intro k
  induction k with
  | zero =>
    intro n j b hj hn hx h
    match n, hn with
    | n + 1, _ =>
      have e : j = L.length := by omega
      refine ⟨b, ?_, by rw [show min x2.toNat L.length = j by omega]; exact h⟩
      rw [fX9_planOf_33]
      by_cases z : x2 ≤ j
      · rw [if_pos z]
      · rw [if_neg z]
        rcases h.begin with ⟨-, z2⟩ | ⟨z2, -⟩
        · rw [if_pos z2]
        · omega
  | succ k ih =>
    intro n j b hj hn hx h
    have ej : Unit → wrap ((j : Int) + 1) = ((j + 1 : Nat) : Int) := fun _ => wrap_eq (by omega) (by omega)
    match n, hn with
    | n + 1, hn =>
      rw [fX9_planOf_33]
      by_cases z : x2 ≤ j
      · exact ⟨b, by rw [if_pos z], by rw [show min x2.toNat L.length = j by omega]; exact h⟩
      · rw [if_neg z]
        rcases h with ⟨h1, -⟩ | ⟨h1, t, h2, h3, h4⟩
        · omega
        · subst h2
          have m := SF_mem h1
          have hb := hP.2.2 _ m
          have eb : Unit → wrap (lgB (SF L j) + 1) = lgB (SF L j) + 1 := fun _ => wrap_eq (by omega) (by omega)
          obtain ⟨b', r1, r2⟩ := X9_nextOf (N := N) (A := A) (p := p) (fr := lgB (SF L j) + 1) (L := L) (j := j + 1) hN0 hG hP (by omega) (fun i hi => by
            constructor
            · intro w
              by_cases e : i < j
              · have a1 := SF_lt hP.2.1 e h1
                have a2 := hP.2.2 _ (SF_mem hi)
                omega
              · by_cases e2 : i = j
                · subst e2; omega
                · omega
            · intro w
              have a1 := SF_lt hP.2.1 (show j < i by omega) hi
              omega)
          rw [if_neg (by omega), X9_beginOf hG h3, obind_some, h4, eb (), r1, obind_some, bnd_eq, ej ()]
          exact ih (by omega) (by omega) (by omega) r2
/-- one number of a leg -/
def lgF (x : LG) (k : Int) : Int := if k = 0 then lgK x else if k = 1 then lgB x else if k = 2 then lgE x else if k = 3 then lgS x else lgG x
theorem X9_of {N : Nat} {A : AH} {p x3 : Int} {t : Nat} (hG : GD (mvA A)) (h : isTh (mvA A) p t) : (if (16 : Int) ≤ t then chk (0 ≤ (wrap ((t : Int) - 16)) ∧ (wrap ((t : Int) - 16)) < 2703) (obind (fX9_ofRide N A (gI A 367 (wrap ((t : Int) - 16)).toNat) x3) (fun z12 => some (z12, A))) else obind (fX9_ofTrip N A t x3) (fun z16 => some (z16, A))) = some (lgF (thM (mvA A) t) x3, A) := by
  have hl := isTh_lt hG h
  unfold thM
  by_cases e : t < 16
  · have htr : (t : Int) < mvA A 18 3 ∧ tofM (mvA A) t p = true := by
      rcases h with ⟨-, h2⟩ | ⟨h2, -⟩
      · exact h2
      · omega
    have ht : tripM (mvA A) t := by
      have hh := htr.2
      unfold tofM at hh
      rw [Bool.and_eq_true] at hh
      exact of_decide_eq_true hh.1
    rw [if_neg (by omega), if_pos e]
    unfold fX9_ofTrip lgF
    by_cases e0 : x3 = 0
    · rw [if_pos e0, if_pos e0, obind_some]
      rfl
    · rw [if_neg e0, if_neg e0]
      by_cases e1 : x3 = 1
      · rw [if_pos e1, if_pos e1, ck16 e, obind_some]
        rfl
      · rw [if_neg e1, if_neg e1]
        by_cases e2 : x3 = 2
        · rw [if_pos e2, if_pos e2, X9_end e (hG.2.2.1 t htr.1) ht, obind_some, obind_some]
          rfl
        · rw [if_neg e2, if_neg e2]
          by_cases e3 : x3 = 3
          · rw [if_pos e3, if_pos e3, obind_some]
            rfl
          · rw [if_neg e3, if_neg e3, X9_goalOf e, obind_some, obind_some]
            rfl
  · rw [if_pos (by omega), if_neg e, w16 (by omega) hl, chk_pos _ (by omega)]
    unfold fX9_ofRide lgF
    by_cases e0 : x3 = 0
    · rw [if_pos e0, if_pos e0, obind_some]
      rfl
    · rw [if_neg e0, if_neg e0]
      by_cases e1 : x3 = 1
      · rw [if_pos e1, if_pos e1]
        unfold fX9_hourOf
        rw [obind_some, obind_some]
        rfl
      · rw [if_neg e1, if_neg e1]
        by_cases e2 : x3 = 2
        · rw [if_pos e2, if_pos e2]
          unfold fX9_endOf
          rw [obind_some, obind_some]
          rfl
        · rw [if_neg e2, if_neg e2]
          by_cases e3 : x3 = 3
          · rw [if_pos e3, if_pos e3]
            unfold fX9_boatOf
            rw [obind_some, obind_some]
            rfl
          · rw [if_neg e3, if_neg e3]
            unfold fX9_toOf
            rw [obind_some, obind_some]
            rfl
theorem n6 (B : AH) (v : Int) : ¬ ((6 : Nat), v, B).1 = 0 := by
  show ¬ (6 : Nat) = 0
  decide
theorem op_planOf {N : Nat} {A C : AH} {x1 x2 x3 : Int} (hN0 : 25000 ≤ N) (h : INV A C) : STEP [(3, 1), (6, 2), (1, 3)] (fX8_planOf N A x1 x2 x3) (fX9_planOf N C x1 x2 x3) A C := by
  have e : mvA (sI C 349 0 0) = mvA C := mvA_thr C 0
  unfold fX8_planOf fX9_planOf
  rw [X8_pilot h.2.1, X9_isPilot, obind_some]
  by_cases h1 : 0 ≤ x1 ∧ x1 < mvA C 18 1
  · obtain ⟨p, rfl⟩ : ∃ p : Nat, x1 = p := ⟨x1.toNat, by omega⟩
    have hp := h1.2
    have hp6 := h.1.p6 hp
    obtain ⟨L, l1, l2⟩ := h.2.1.2.2.2.1 p hp
    have hl := l2.len h.1.2.1
    obtain ⟨q, q1, q2⟩ := X4_legAt (N := N) (A := A) (y := 2 + 22 + p) (L := L) (i := x2) l1.2.2 (by omega)
    rw [if_pos h1, decide_eq_true h1, obind_some, if_pos rfl, if_neg b2t']
    dsimp only
    rw [ck6 hp6, show 2 + 22 + (p : Int).toNat = 2 + 22 + p by omega, q1, obind_some]
    have no : ∀ b : Int, b < 0 → q = 0 → STEP [(3, 1), (6, 2), (1, 3)] (some (6, 0, nX A)) (fX9_planOf_65 N C x3 b) A C := fun b hb hq => by
      unfold fX9_planOf_65
      rw [if_neg (by omega), X9_fails, obind_some]
      exact STEP.throw h (FX.rf A) (by omega) (FQ_thr C 2) (gI_thr C 2) (by simp)
    by_cases h2 : 0 ≤ x2
    · obtain ⟨b, r1, r2⟩ := X9_nextOf (N := N) (A := C) (p := p) (fr := 0) (L := L) (j := 0) (by omega) h.1 l2 (Nat.zero_le _) (fun i hi => by
        have := (l2.2.2 _ (SF_mem hi)).2.1
        exact ⟨fun _ => Nat.zero_le i, fun _ => this⟩)
      obtain ⟨b', s1, s2⟩ := X9_plan33 (N := N) (A := C) (x2 := x2) (x3 := x3) (by omega) h.1 l2 (k := L.length) (n := N) (j := 0) (b := b) (by omega) (by omega) h2 r2
      have s1' : fX9_planOf_33 N p x2 x3 N C b 0 = _ := s1
      rw [if_pos h2, r1, obind_some, s1']
      rcases s2 with ⟨t1, t2⟩ | ⟨t1, t, t2, t3, t4⟩
      · rcases q2 with ⟨z1, z2⟩ | ⟨z1, z2⟩
        · omega
        · rw [if_pos z2]
          exact no b' (by omega) z2
      · rcases q2 with ⟨z1, z2⟩ | ⟨z1, z2⟩
        · have ej : min x2.toNat L.length = x2.toNat := by omega
          rw [ej] at t4
          subst t2
          unfold fX9_planOf_65
          rw [if_neg z2.ne, if_pos (show (0 : Int) ≤ (t : Int) by omega), X9_isBetween, bt_in, obind_some]
          by_cases h3 : 0 ≤ x3 ∧ x3 ≤ 4
          · have r := X9_of (N := N) (A := sI C 349 0 0) (p := p) (x3 := x3) (t := t) (by rw [e]; exact h.1) (by rw [e]; exact t3)
            rw [e, t4] at r
            rw [decide_eq_true h3, if_neg b2t', bnd_eq, r]
            obtain ⟨-, -, f2, f3, f4, f5, f6⟩ := z2
            unfold lgF
            rw [f2, f3, f4, f5, f6]
            have hx : x3 = 0 ∨ x3 = 1 ∨ x3 = 2 ∨ x3 = 3 ∨ x3 = 4 := by omega
            rcases hx with hx | hx | hx | hx | hx <;> subst hx
            · rw [if_pos rfl, if_pos rfl]
              exact STEP.query h (FX.rf A) (by omega) (FQ_thr C 0) (gI_thr C 0)
            · rw [if_neg (by decide), if_pos rfl, if_neg (by decide), if_pos rfl]
              exact STEP.query h (FX.rf A) (by omega) (FQ_thr C 0) (gI_thr C 0)
            · rw [if_neg (by decide), if_neg (by decide), if_pos rfl, if_neg (by decide), if_neg (by decide), if_pos rfl]
              exact STEP.query h (FX.rf A) (by omega) (FQ_thr C 0) (gI_thr C 0)
            · rw [if_neg (by decide), if_neg (by decide), if_neg (by decide), if_pos rfl, if_neg (by decide), if_neg (by decide), if_neg (by decide), if_pos rfl]
              exact STEP.query h (FX.rf A) (by omega) (FQ_thr C 0) (gI_thr C 0)
            · rw [if_neg (by decide), if_neg (by decide), if_neg (by decide), if_neg (by decide), if_pos rfl, if_neg (by decide), if_neg (by decide), if_neg (by decide), if_neg (by decide)]
              exact STEP.query h (FX.rf A) (by omega) (FQ_thr C 0) (gI_thr C 0)
          · rw [decide_eq_false h3, if_pos b2f', X9_fails, obind_some, if_neg (show ¬ x3 = 0 by omega), if_neg (show ¬ x3 = 1 by omega), if_neg (show ¬ x3 = 2 by omega), if_neg (show ¬ x3 = 3 by omega), if_neg (show ¬ x3 = 4 by omega)]
            exact STEP.throw h (FX.rf A) (by omega) (FQ_thr C 3) (gI_thr C 3) (by simp)
        · omega
    · rcases q2 with ⟨z1, z2⟩ | ⟨z1, z2⟩
      · omega
      · have s1 : fX9_planOf_33 N p x2 x3 N C (-1) 0 = fX9_planOf_65 N C x3 (-1) := by
          obtain ⟨m, rfl⟩ : ∃ m, N = m + 1 := ⟨N - 1, by omega⟩
          rw [fX9_planOf_33, if_pos (by omega)]
        rw [if_pos z2, if_neg h2, s1]
        exact no (-1) (by decide) z2
  · rw [if_neg h1, decide_eq_false h1, obind_some, if_neg (n3 _), if_pos b2f', X9_fails, obind_some]
    exact STEP.throw h (FX.rf A) (by omega) (FQ_thr C 1) (gI_thr C 1) (by simp)
theorem X9_again36 {N : Nat} {A : AH} {p H : Int} {L : List LG} (hN0 : 3000 ≤ N) (hG : GD (mvA A)) (hP : PL (mvA A) p L) : ∀ {k n j : Nat} {b : Int}, j + k = L.length → k < n → TH (mvA A) p L j b → (∀ i, i < j → lgE (SF L i) ≤ H) → fX9_placeAgain_36 N p H n A (if j = 0 then 0 else lgG (SF L (j - 1))) b = some (placeL H L, A) := by
  have bE : ∀ x ∈ L, lgB x < lgE x := fun x hx => (hP.2.2 x hx).1
  have fin : ∀ {j : Nat}, j ≤ L.length → (∀ i, i < j → lgE (SF L i) ≤ H) → (j < L.length → H < lgE (SF L j)) → placeL H L = plF L H j := fun {j} hj h1 h2 => placeL_at hP.2.1 bE hj (fun i hi => by
    constructor
    · intro z
      by_cases e : i < j
      · exact e
      · by_cases e2 : i = j
        · subst e2
          have := h2 hi
          omega
        · have a1 := h2 (by omega)
          have a2 := SF_lt hP.2.1 (show j < i by omega) hi
          have a3 := bE _ (SF_mem hi)
          omega
    · exact h1 i)
  intro k
  induction k with
  | zero =>
    intro n j b hj hn h hH
    match n, hn with
    | n + 1, _ =>
      rcases h.begin with ⟨z1, z2⟩ | ⟨z1, -⟩
      · rw [fX9_placeAgain_36, if_pos z2, fin (j := j) (by omega) hH (fun z => by omega)]
        unfold plF
        rw [if_neg (show ¬ (j < L.length ∧ lgB (SF L j) ≤ H) from fun z => absurd z.1 (by omega))]
      · omega
  | succ k ih =>
    intro n j b hj hn h hH
    match n, hn with
    | n + 1, hn =>
      rcases h with ⟨h1, -⟩ | ⟨h1, t, h2, h3, h4⟩
      · omega
      · subst h2
        have hb := hP.2.2 _ (SF_mem h1)
        have hl := isTh_lt hG h3
        rw [fX9_placeAgain_36, if_neg (by omega), X9_beginOf hG h3, obind_some, h4]
        by_cases e : H < lgB (SF L j)
        · rw [if_pos e, fin (j := j) (by omega) hH (fun z => by omega)]
          unfold plF
          rw [if_neg (show ¬ (j < L.length ∧ lgB (SF L j) ≤ H) from fun z => absurd z.2 (by omega))]
        · rw [if_neg e]
          have go : ∀ k36 : AH → Int → Int → Option (Int × AH), k36 = (fun A x3 x4 => fX9_placeAgain_36 N p H n A x3 x4) → fX9_placeAgain_80 N k36 A p H t (lgE (SF L j)) = some (placeL H L, A) := by
            intro k36 ek
            unfold fX9_placeAgain_80
            by_cases e2 : lgE (SF L j) ≤ H
            · obtain ⟨b', r1, r2⟩ := X9_nextOf (N := N) (A := A) (p := p) (fr := lgE (SF L j)) (L := L) (j := j + 1) hN0 hG hP (by omega) (fun i hi => by
                constructor
                · intro w
                  by_cases e : i < j
                  · have a1 := SF_lt hP.2.1 e h1
                    have a2 := bE _ (SF_mem hi)
                    omega
                  · by_cases e2 : i = j
                    · subst e2
                      have a2 := bE _ (SF_mem hi)
                      omega
                    · omega
                · intro w
                  exact SF_lt hP.2.1 (show j < i by omega) hi)
              have r3 := ih (n := n) (j := j + 1) (b := b') (by omega) (by omega) r2 (fun i hi => by
                by_cases e3 : i = j
                · subst e3; exact e2
                · exact hH i (by omega))
              rw [if_neg (by omega), Nat.add_sub_cancel] at r3
              rw [if_pos e2]
              unfold fX9_placeAgain_119
              unfold thM at h4
              by_cases e3 : t < 16
              · rw [if_pos e3] at h4
                rw [if_neg (by omega), X9_goalOf e3, obind_some, show mvA A 3 t = lgG (SF L j) from by rw [← h4]; rfl, r1, obind_some, ek]
                exact r3
              · rw [if_neg e3] at h4
                unfold fX9_toOf
                rw [if_pos (by omega), w16 (by omega) hl, chk_pos _ (by omega), obind_some, show iAnd (iShr (gI A 367 (((t - 16 : Nat) : Int)).toNat) 19) 1 = lgG (SF L j) from by rw [← h4]; rfl, r1, obind_some, ek]
                exact r3
            · rw [if_neg e2, fin (j := j) (by omega) hH (fun _ => by omega)]
              unfold plF
              rw [if_pos (show j < L.length ∧ lgB (SF L j) ≤ H from ⟨h1, by omega⟩)]
          have h4' := h4
          unfold thM at h4'
          by_cases e3 : t < 16
          · rw [if_pos e3] at h4'
            have htr : (t : Int) < mvA A 18 3 ∧ tofM (mvA A) t p = true := by
              rcases h3 with ⟨-, h2⟩ | ⟨h2, -⟩
              · exact h2
              · omega
            have ht : tripM (mvA A) t := by
              have hh := htr.2
              unfold tofM at hh
              rw [Bool.and_eq_true] at hh
              exact of_decide_eq_true hh.1
            rw [if_neg (by omega), X9_end e3 (hG.2.2.1 t htr.1) ht, obind_some, show endM (mvA A) t = lgE (SF L j) from by rw [← h4']; rfl]
            exact go _ rfl
          · rw [if_neg e3] at h4'
            unfold fX9_endOf
            rw [if_pos (by omega), w16 (by omega) hl, chk_pos _ (by omega), obind_some, show wrap (iAnd (gI A 367 (((t - 16 : Nat) : Int)).toNat) 1023 + iAnd (iShr (gI A 367 (((t - 16 : Nat) : Int)).toNat) 10) 7) = lgE (SF L j) from by rw [← h4']; rfl]
            exact go _ rfl
theorem op_placeAgain {N : Nat} {A C : AH} {x1 x2 : Int} (hN0 : 25000 ≤ N) (h : INV A C) : STEP [(3, 1)] (fX8_placeAgain N A x1 x2) (fX9_placeAgain N C x1 x2) A C := by
  unfold fX8_placeAgain fX9_placeAgain
  have thr := STEP.throw (cs := [(3, 1)]) (k := 3) (c := 1) (w := 0) h (FX.rf A) (by omega) (FQ_thr C 1) (gI_thr C 1) (by simp)
  rw [X8_pilot h.2.1, X9_isPilot, obind_some]
  by_cases h1 : 0 ≤ x1 ∧ x1 < mvA C 18 1
  · obtain ⟨p, rfl⟩ : ∃ p : Nat, x1 = p := ⟨x1.toNat, by omega⟩
    have hp := h1.2
    have hp6 := h.1.p6 hp
    obtain ⟨L, l1, l2⟩ := h.2.1.2.2.2.1 p hp
    have hl := l2.len h.1.2.1
    rw [if_pos h1, decide_eq_true h1, obind_some, if_pos rfl, if_neg b2t', X9_isHour, obind_some]
    dsimp only
    rw [X8_hour]
    by_cases h3 : 0 ≤ x2 ∧ x2 ≤ 999
    · have e : mvA (sI C 349 0 0) = mvA C := mvA_thr C 0
      have hGe : GD (mvA (sI C 349 0 0)) := by rw [e]; exact h.1
      have hPe : PL (mvA (sI C 349 0 0)) p L := by rw [e]; exact l2
      obtain ⟨b, r1, r2⟩ := X9_nextOf (N := N) (A := sI C 349 0 0) (p := p) (fr := 0) (L := L) (j := 0) (by omega) hGe hPe (Nat.zero_le _) (fun i hi => by
        have := (l2.2.2 _ (SF_mem hi)).2.1
        exact ⟨fun _ => Nat.zero_le i, fun _ => this⟩)
      have r3 := X9_again36 (N := N) (A := sI C 349 0 0) (p := p) (H := x2) (L := L) (by omega) hGe hPe (k := L.length) (n := N) (j := 0) (b := b) (by omega) (by omega) r2 (fun i hi => by omega)
      rw [if_pos rfl] at r3
      rw [if_pos h3, decide_eq_true h3, obind_some, if_pos rfl, if_neg b2t', ck6 hp6, bnd_eq, r1, obind_some, r3]
      dsimp only
      rw [show 2 + 22 + (p : Int).toNat = 2 + 22 + p by omega, X4_hour (by omega) l1.2.2 l2 h.1.2.1 h3, obind_some]
      exact STEP.query h (FX.rf A) (by omega) (FQ_thr C 0) (gI_thr C 0)
    · rw [if_neg h3, decide_eq_false h3, obind_some, if_neg (n3 _), if_pos b2f', X9_fails, obind_some]
      exact thr
  · rw [if_neg h1, decide_eq_false h1, obind_some, if_neg (n3 _), if_pos b2f', X9_fails, obind_some]
    exact thr
