theorem sc_cast {a k : Nat} : ((a + 1 : Nat) : Int) + (k : Int) = (a : Int) + ((k + 1 : Nat) : Int) := by omega
theorem lt_sc {a k : Nat} {x : Int} (h : (a : Int) + ((k + 1 : Nat) : Int) = x) : (a : Int) < x := by omega
theorem ge_z {a : Nat} {x : Int} (h : (a : Int) + ((0 : Nat) : Int) = x) : x ≤ (a : Int) := by omega
theorem nat0 {x : Int} (h : 0 ≤ x) : ((0 : Nat) : Int) + (x.toNat : Int) = x := by omega
theorem toNat_lt {x : Int} {N : Nat} (h : x ≤ 20) (hN : 3000 ≤ N) : x.toNat < N := by omega
theorem X9_findsAt36 {N : Nat} {o : Nat} {h : Int} (hN : 3000 ≤ N) (hh : 0 ≤ h ∧ h ≤ 1000) : ∀ {k n a : Nat} {A : AH}, GD (mvA A) → (o : Int) < mvA A 18 3 → (a : Int) + k = mvA A 18 1 → k < n →
    (∃ p b B, fst2 (fun p b => canR (mvA A) o p b h) (mvA A 18 2).toNat k a = some (p, b) ∧ fX9_findsAt_36 N o h n A a = some (1, B) ∧ FQ SS A B ∧ FND B h p b) ∨
    (∃ B, fst2 (fun p b => canR (mvA A) o p b h) (mvA A 18 2).toNat k a = none ∧ fX9_findsAt_36 N o h n A a = some (0, B) ∧ FQ SS A B)
  | 0, n, a, A, hG, ho, hk, hn => by
    match n, hn with
    | n + 1, _ =>
      refine Or.inr ⟨A, rfl, ?_, FQ.rf A⟩
      rw [fX9_findsAt_36, show gI A 349 20 = mvA A 18 1 from rfl, if_pos (by omega)]
  | k + 1, n, a, A, hG, ho, hk, hn => by
    have c1 := hG.2.1.2.1
    have c2 := hG.2.1.2.2.1
    match n, hn with
    | n + 1, hn =>
      rw [fX9_findsAt_36, show gI A 349 20 = mvA A 18 1 from rfl, if_neg (Int.not_le.mpr (lt_sc hk)), fst2]
      rcases X9_findsAt47 (N := N) (o := o) (p := a) (h := h) (k36 := fun A x3 => fX9_findsAt_36 N o h n A x3) hN hh (k := (mvA A 18 2).toNat) (n := N) (a := 0) (A := A) hG ho (lt_sc hk) (nat0 c2.1) (toNat_lt (Int.le_trans c2.2 (by decide)) hN) with ⟨b, C, q1, q2, q3, q4⟩ | ⟨C, q1, q2, q3⟩
      · rw [q1]
        exact Or.inl ⟨a, b, C, rfl, q2, q3, q4⟩
      · have fv := q3.ev
        rw [q1]
        rcases X9_findsAt36 (N := N) (o := o) (h := h) hN hh (k := k) (n := n) (a := a + 1) (A := C) (by rw [fv]; exact hG) (by rw [fv]; exact ho) (by rw [fv, sc_cast]; exact hk) (Nat.lt_of_succ_lt_succ hn) with ⟨p, b, D, r1, r2, r3, r4⟩ | ⟨D, r1, r2, r3⟩
        · rw [fv] at r1
          exact Or.inl ⟨p, b, D, r1, q2.trans r2, q3.tr r3, r4⟩
        · rw [fv] at r1
          exact Or.inr ⟨D, r1, q2.trans r2, q3.tr r3⟩
theorem X9_findsAt2 {N : Nat} {o : Nat} {h : Int} (hN : 3000 ≤ N) (hh : 0 ≤ h ∧ h ≤ 1000) : ∀ {k n a : Nat} {A : AH}, GD (mvA A) → (o : Int) < mvA A 18 3 → (a : Int) + k = mvA A 18 1 → k < n →
    (∃ p B, fstN (fun p => canT (mvA A) o p h) k a = some p ∧ fX9_findsAt_2 N o h n A a = some (1, B) ∧ FQ SS A B ∧ FND B h p (-1)) ∨
    (∃ B, fstN (fun p => canT (mvA A) o p h) k a = none ∧ fX9_findsAt_2 N o h n A a = fX9_findsAt_36 N o h N B 0 ∧ FQ SS A B)
  | 0, n, a, A, hG, ho, hk, hn => by
    match n, hn with
    | n + 1, _ =>
      refine Or.inr ⟨A, rfl, ?_, FQ.rf A⟩
      rw [fX9_findsAt_2, show gI A 349 20 = mvA A 18 1 from rfl, if_pos (by omega)]
  | k + 1, n, a, A, hG, ho, hk, hn => by
    have c1 := hG.2.1.2.1
    have ea : wrap ((a : Int) + 1) = ((a + 1 : Nat) : Int) := wrap_eq (by omega) (by omega)
    match n, hn with
    | n + 1, hn =>
      rw [fX9_findsAt_2, show gI A 349 20 = mvA A 18 1 from rfl, if_neg (Int.not_le.mpr (lt_sc hk)), X9_whyNotTrip hN (hG.o16 ho) (hG.p6 (lt_sc hk)) hG.1 hG.2.1 hG.2.2.1 (hG.2.2.1 o ho), obind_some, fstN]
      by_cases hc : whyT (mvA A) o a h = 0
      · obtain ⟨C, e2, f2, f3⟩ := X9_finds (N := N) (A := setL A (lastM (mvA A) a)) (h := h) (p := a) (b := -1)
        refine Or.inl ⟨a, C, by rw [if_pos (show canT (mvA A) o a h = true from decide_eq_true hc)], ?_, (FQ_setL A _).tr f2, f3⟩
        rw [if_pos hc, e2, obind_some]
      · rw [if_neg hc, if_neg (show ¬ canT (mvA A) o a h = true from fun z => hc (of_decide_eq_true z)), bnd_eq, ea]
        have fv : mvA (setL A (lastM (mvA A) a)) = mvA A := mvA_setL A _
        rcases X9_findsAt2 (N := N) (o := o) (h := h) hN hh (k := k) (n := n) (a := a + 1) (A := setL A (lastM (mvA A) a)) (by rw [fv]; exact hG) (by rw [fv]; exact ho) (by rw [fv, sc_cast]; exact hk) (Nat.lt_of_succ_lt_succ hn) with ⟨p, D, r1, r2, r3, r4⟩ | ⟨D, r1, r2, r3⟩
        · rw [fv] at r1
          exact Or.inl ⟨p, D, r1, r2, (FQ_setL A _).tr r3, r4⟩
        · rw [fv] at r1
          exact Or.inr ⟨D, r1, r2, (FQ_setL A _).tr r3⟩
def wayAt (M : MR) (o : Nat) (h : Int) : Option (Nat × Int) := chM M (fun p => canT M o p h) (fun p b => canR M o p b h)
theorem X9_findsAt {N : Nat} {o : Nat} {h : Int} {A : AH} (hN : 3000 ≤ N) (hh : 0 ≤ h ∧ h ≤ 1000) (hG : GD (mvA A)) (ho : (o : Int) < mvA A 18 3) :
    (∃ p b B, wayAt (mvA A) o h = some (p, b) ∧ fX9_findsAt N A o h = some (1, B) ∧ FQ SS A B ∧ FND B h p b) ∨ (∃ B, wayAt (mvA A) o h = none ∧ fX9_findsAt N A o h = some (0, B) ∧ FQ SS A B) := by
  have c1 := hG.2.1.2.1
  unfold wayAt chM fX9_findsAt
  rcases X9_findsAt2 (N := N) (o := o) (h := h) hN hh (k := (mvA A 18 1).toNat) (n := N) (a := 0) (A := A) hG ho (nat0 c1.1) (toNat_lt (Int.le_trans c1.2 (by decide)) hN) with ⟨p, B, r1, r2, r3, r4⟩ | ⟨B, r1, r2, r3⟩
  · rw [r1]
    exact Or.inl ⟨p, -1, B, rfl, r2, r3, r4⟩
  · have fv := r3.ev
    rw [r1]
    rcases X9_findsAt36 (N := N) (o := o) (h := h) hN hh (k := (mvA A 18 1).toNat) (n := N) (a := 0) (A := B) (by rw [fv]; exact hG) (by rw [fv]; exact ho) (by rw [fv]; exact nat0 c1.1) (toNat_lt (Int.le_trans c1.2 (by decide)) hN) with ⟨p, b, D, q1, q2, q3, q4⟩ | ⟨D, q1, q2, q3⟩
    · rw [fv] at q1
      rw [q1]
      exact Or.inl ⟨p, b, D, rfl, r2.trans q2, r3.tr q3, q4⟩
    · rw [fv] at q1
      rw [q1]
      exact Or.inr ⟨D, rfl, r2.trans q2, r3.tr q3⟩
/-- the first hour from h on, among k, at which an order can be served, and how -/
def srvN (M : MR) (o : Nat) : Nat → Int → Option (Int × Nat × Int)
  | 0, _ => none
  | k + 1, h => if deepM M o h = true then (match wayAt M o h with
      | some c => some (h, c)
      | none => srvN M o k (h + 1)) else srvN M o k (h + 1)
theorem X9_canServe38 {N : Nat} {o : Nat} (hN : 3000 ≤ N) : ∀ {k n : Nat} {h : Int} {A : AH}, GD (mvA A) → (o : Int) < mvA A 18 3 → (h + k = mvA A 6 o + 1 ∨ k = 0 ∧ mvA A 6 o < h) → 0 ≤ h → k < n →
    (∃ t p b B, srvN (mvA A) o k h = some (t, p, b) ∧ fX9_canServe_38 N o n A h = some (1, B) ∧ FQ SS A B ∧ FND B t p b) ∨ (∃ B, srvN (mvA A) o k h = none ∧ fX9_canServe_38 N o n A h = some (0, B) ∧ FQ SS A B)
  | 0, n, h, A, hG, ho, hk, h0, hn => by
    match n, hn with
    | n + 1, _ =>
      refine Or.inr ⟨A, rfl, ?_, FQ.rf A⟩
      rw [fX9_canServe_38, ck16 (hG.o16 ho), show gI A 356 (o : Int).toNat = mvA A 6 o from rfl, if_pos (by omega)]
  | k + 1, n, h, A, hG, ho, hk, h0, hn => by
    have hM := hG.2.2.1 o ho
    have h6 := hM.2.2.2.1
    match n, hn with
    | n + 1, hn =>
      have ea : wrap (h + 1) = h + 1 := wrap_eq (by omega) (by omega)
      rw [fX9_canServe_38, ck16 (hG.o16 ho), show gI A 356 (o : Int).toNat = mvA A 6 o from rfl, if_neg (by omega), X9_isDeep (by omega) (hG.o16 ho) hG.1 hM h0 (by omega), obind_some, srvN]
      by_cases hd : deepM (mvA A) o h = true
      · rw [hd, if_neg b2t', if_pos rfl]
        rcases X9_findsAt (N := N) (o := o) (h := h) (A := A) hN (by omega) hG ho with ⟨p, b, B, r1, r2, r3, r4⟩ | ⟨B, r1, r2, r3⟩
        · rw [r1, r2, obind_some]
          exact Or.inl ⟨h, p, b, B, rfl, rfl, r3, r4⟩
        · have fv := r3.ev
          rw [r1, r2, obind_some, if_pos rfl, bnd_eq, ea]
          rcases X9_canServe38 (N := N) (o := o) hN (k := k) (n := n) (h := h + 1) (A := B) (by rw [fv]; exact hG) (by rw [fv]; exact ho) (by rw [fv]; omega) (by omega) (by omega) with ⟨t, p, b, D, q1, q2, q3, q4⟩ | ⟨D, q1, q2, q3⟩
          · rw [fv] at q1
            exact Or.inl ⟨t, p, b, D, q1, q2, r3.tr q3, q4⟩
          · rw [fv] at q1
            exact Or.inr ⟨D, q1, q2, r3.tr q3⟩
      · rw [if_neg hd, Bool.not_eq_true _ |>.mp hd, if_pos b2f', bnd_eq, ea]
        exact X9_canServe38 (N := N) (o := o) hN (k := k) (n := n) (h := h + 1) (A := A) hG ho (by omega) (by omega) (by omega)
def servM (M : MR) (o : Nat) : Option (Int × Nat × Int) := srvN M o (M 6 o - max (M 18 0) (M 5 o) + 1).toNat (max (M 18 0) (M 5 o))
theorem X9_canServe {N : Nat} {o : Nat} {A : AH} (hN : 3000 ≤ N) (hG : GD (mvA A)) (ho : (o : Int) < mvA A 18 3) (h7 : mvA A 7 o = 0) :
    (∃ t p b B, servM (mvA A) o = some (t, p, b) ∧ fX9_canServe N A o = some (1, B) ∧ FQ SS A B ∧ FND B t p b) ∨ (∃ B, servM (mvA A) o = none ∧ fX9_canServe N A o = some (0, B) ∧ FQ SS A B) := by
  have c0 := hG.2.1.1
  have hM := hG.2.2.1 o ho
  have h6 := hM.2.2.2.1
  have e : fX9_canServe N A o = fX9_canServe_38 N o N A (max (mvA A 18 0) (mvA A 5 o)) := by
    unfold fX9_canServe
    rw [ck16 (hG.o16 ho), ck16 (hG.o16 ho), ck16 (hG.o16 ho), show gI A 357 (o : Int).toNat = mvA A 7 o from rfl, if_pos h7, show gI A 355 (o : Int).toNat = mvA A 5 o from rfl, show gI A 349 19 = mvA A 18 0 from rfl]
    by_cases hc : mvA A 5 o ≤ mvA A 18 0
    · rw [if_pos hc, bnd_eq, show max (mvA A 18 0) (mvA A 5 o) = mvA A 18 0 by omega]
    · rw [if_neg hc, bnd_eq, show max (mvA A 18 0) (mvA A 5 o) = mvA A 5 o by omega]
  rw [e]
  unfold servM
  exact X9_canServe38 hN hG ho (by omega) (by omega) (by omega)
theorem X9_canServe_no {N : Nat} {o : Nat} {A : AH} (ho : o < 16) (h7 : ¬ mvA A 7 o = 0) : fX9_canServe N A o = some (0, A) := by
  unfold fX9_canServe
  rw [ck16 ho, show gI A 357 (o : Int).toNat = mvA A 7 o from rfl, if_neg h7]
/-- the row after an order is served -/
def takeM (M : MR) (o : Nat) (t : Int) (p : Nat) (b : Int) : MR := plM (if b < 0 then M else goM M b.toNat (t - M 0 1) (iShl 1 (p : Int))) o p t
theorem srvN_spec {M : MR} {o : Nat} : ∀ {k : Nat} {h t : Int} {p : Nat} {b : Int}, srvN M o k h = some (t, p, b) → (h ≤ t ∧ t < h + k) ∧ deepM M o t = true ∧ wayAt M o t = some (p, b)
  | 0, h, t, p, b, e => by simp [srvN] at e
  | k + 1, h, t, p, b, e => by
    rw [srvN] at e
    by_cases hd : deepM M o h = true
    · rw [if_pos hd] at e
      cases hw : wayAt M o h with
      | some c =>
        rw [hw] at e
        cases e
        exact ⟨by omega, hd, hw⟩
      | none =>
        rw [hw] at e
        have := srvN_spec (k := k) e
        exact ⟨by omega, this.2⟩
    · rw [if_neg hd] at e
      have := srvN_spec (k := k) e
      exact ⟨by omega, this.2⟩
theorem X9_serves {N : Nat} {o : Nat} {A : AH} {t : Int} {p : Nat} {b : Int} (hN : 3000 ≤ N) (hG : GD (mvA A)) (ho : o < 16) (hF : FND A t p b) (ht : 0 ≤ t ∧ t ≤ 900) (hb : b = -1 ∨ ∃ c : Nat, b = c ∧ (c : Int) < mvA A 18 2 ∧ mvA A 16 c ≤ t - mvA A 0 1 ∧ 0 ≤ t - mvA A 0 1) : ∃ B, fX9_serves N A o = some (t, B) ∧ mvA B = takeM (mvA A) o t p b ∧ FQ SR A B := by
  obtain ⟨f1, f2, f3⟩ := hF
  have r1 := hG.1.2.1
  have h36 : ∀ {C : AH} {x : Int}, gI C 349 26 = t → gI C 349 27 = p → x ≤ t → ∃ B, fX9_serves_36 N C o x = some (t, B) ∧ mvA B = plM (mvA C) o p t ∧ FQ SR C B := by
    intro C x g1 g2 hx
    obtain ⟨B, e, e2, f⟩ := X9_plans (N := N) (A := C) (o := o) (p := p) (h := t) ho
    refine ⟨B, ?_, e2, f⟩
    unfold fX9_serves_36
    rw [g1, g2, e, obind_some]
    have g3 : gI B 349 26 = t := (f.2.2 349 26 (by unfold SR; omega)).trans g1
    rw [g3, if_pos hx]
  unfold fX9_serves takeM
  rw [f3, f1, f2]
  rcases hb with hb | ⟨c, hb, hc, h16, hs⟩
  · subst hb
    rw [if_neg (by decide), if_pos (by decide)]
    exact h36 f1 f2 ht.1
  · subst hb
    have hB := (hG.2.2.2.2.1 c hc).2
    have hroom := hG.room hc (by omega)
    have hm := hG.2.1.2.2.2.2
    rw [if_pos (by omega), if_neg (by omega), show gI A 350 1 = mvA A 0 1 from rfl, wrap_eq (by omega) (by omega), Int.toNat_natCast]
    obtain ⟨B, e, e2, f⟩ := X9_goes (N := N) (A := A) (b := c) (h := t - mvA A 0 1) (set := iShl 1 (p : Int)) (hG.b3 hc) hG.1 ⟨hB.1, hroom.1⟩ ⟨hm.1, hroom.2⟩ ⟨hs, by omega⟩
    rw [e, obind_some]
    have k1 : gI B 349 26 = t := (f.2.2 349 26 (by unfold SR; omega)).trans f1
    have k2 : gI B 349 27 = p := (f.2.2 349 27 (by unfold SR; omega)).trans f2
    obtain ⟨D, q1, q2, q3⟩ := h36 (C := B) (x := t - mvA A 0 1 + mvA A 0 1) k1 k2 (by omega)
    rw [e2] at q2
    exact ⟨D, q1, q2, f.tr q3⟩
