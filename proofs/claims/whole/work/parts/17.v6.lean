/-! calls: the most urgent first -/
def keyM (M : MR) (o : Nat) : Int := M 6 o * 1048576 + M 5 o * 1024 + (o : Int)
theorem jal348 : jal (kd 348) = 16 := by decide
/-- what the orders' cells hold of urgency -/
def UO (A : AH) (r : Nat) (M : MR) : Prop := ∀ o : Nat, (o : Int) < M 18 3 → gI A (r + 6 + o) 3 = M 5 o ∧ gI A (r + 6 + o) 4 = M 6 o ∧ gI A (r + 6 + o) 5 = M 7 o
theorem UO.fq {A B : AH} {r : Nat} {M : MR} (h : UO A r M) (hG : GD M) (hr : r + 40 ≤ 348) (hf : FQ (fun a _ => a = 348) A B) : UO B r M := fun o ho => by
  have := hG.o16 ho
  have e : ∀ k, gI B (r + 6 + o) k = gI A (r + 6 + o) k := fun k => hf.2.2 _ _ (by omega)
  rw [e, e, e]
  exact h o ho
theorem X3_urgent {N : Nat} {A : AH} {r i j : Nat} {M : MR} (hG : GD M) (h : UO A r M) (hi : (i : Int) < M 18 3) (hj : j < i) : fX3_isMoreUrgentThan N A (r + 6 + i) (r + 6 + j) = some (b2i (decide (keyM M i < keyM M j))) := by
  have hj2 : (j : Int) < M 18 3 := by omega
  have a1 := (hG.2.2.1 i hi).2.2.2.1
  have a2 := (hG.2.2.1 j hj2).2.2.2.1
  have h16 := hG.o16 hi
  unfold fX3_isMoreUrgentThan keyM
  rw [(h i hi).1, (h i hi).2.1, (h j hj2).1, (h j hj2).2.1]
  by_cases e : M 6 i = M 6 j
  · rw [if_pos e]
    by_cases e2 : M 5 j ≤ M 5 i
    · rw [if_pos e2, decide_eq_false (by omega)]; rfl
    · rw [if_neg e2, decide_eq_true (by omega)]; rfl
  · rw [if_neg e]
    by_cases e2 : M 6 j ≤ M 6 i
    · rw [if_pos e2, decide_eq_false (by omega)]; rfl
    · rw [if_neg e2, decide_eq_true (by omega)]; rfl
theorem X9_ahead {N : Nat} {A : AH} {i j : Nat} (hG : GD (mvA A)) (hi : (i : Int) < mvA A 18 3) (hj : (j : Int) < mvA A 18 3) : fX9_isAhead N A i j = some (b2i (decide (keyM (mvA A) i < keyM (mvA A) j))) := by
  have a1 := (hG.2.2.1 i hi).2.2.2.1
  have a2 := (hG.2.2.1 j hj).2.2.2.1
  have h16 := hG.o16 hi
  have j16 := hG.o16 hj
  have e5 : ∀ o : Nat, gI A 355 (o : Int).toNat = mvA A 5 o := fun o => rfl
  have e6 : ∀ o : Nat, gI A 356 (o : Int).toNat = mvA A 6 o := fun o => rfl
  unfold fX9_isAhead keyM
  rw [ck16 h16, ck16 j16, ck16 h16, ck16 j16, ck16 h16, ck16 j16, ck16 h16, ck16 j16, e5, e5, e6, e6]
  generalize mvA A 5 i = x5 at *
  generalize mvA A 6 i = x6 at *
  generalize mvA A 5 j = y5 at *
  generalize mvA A 6 j = y6 at *
  by_cases e : x6 = y6
  · rw [if_pos e]
    by_cases e3 : x5 = y5
    · rw [if_pos e3]
      by_cases e2 : (j : Int) ≤ (i : Int)
      · rw [if_pos e2, decide_eq_false (by omega)]; rfl
      · rw [if_neg e2, decide_eq_true (by omega)]; rfl
    · rw [if_neg e3]
      by_cases e2 : y5 ≤ x5
      · rw [if_pos e2, decide_eq_false (by omega)]; rfl
      · rw [if_neg e2, decide_eq_true (by omega)]; rfl
  · rw [if_neg e]
    by_cases e2 : y6 ≤ x6
    · rw [if_pos e2, decide_eq_false (by omega)]; rfl
    · rw [if_neg e2, decide_eq_true (by omega)]; rfl
/-- the next after z among the first c orders -/
def NU (M : MR) (z : Int) (c : Nat) (b : Int) : Prop := (b = -1 ∧ ∀ o, o < c → M 7 o = 0 → ¬ z < keyM M o) ∨ ∃ q : Nat, b = q ∧ q < c ∧ M 7 q = 0 ∧ z < keyM M q ∧ ∀ o, o < c → M 7 o = 0 → z < keyM M o → keyM M q ≤ keyM M o
theorem NU.skip {M : MR} {z b : Int} {c : Nat} (h : NU M z c b) (hc : M 7 c = 0 → ¬ z < keyM M c) : NU M z (c + 1) b := by
  rcases h with ⟨h1, h2⟩ | ⟨q, h1, h2, h3, h4, h5⟩
  · refine Or.inl ⟨h1, fun o ho h7 => ?_⟩
    by_cases e : o = c
    · subst e; exact hc h7
    · exact h2 o (by omega) h7
  · refine Or.inr ⟨q, h1, by omega, h3, h4, fun o ho h7 hz => ?_⟩
    by_cases e : o = c
    · subst e; exact absurd hz (hc h7)
    · exact h5 o (by omega) h7 hz
theorem X9_next34 {N : Nat} {A : AH} {k4 : Int → Int → Option Int} {x1 z b : Int} {c : Nat} (hG : GD (mvA A)) (hc : (c : Int) < mvA A 18 3) (h7 : mvA A 7 c = 0) (hz : z < keyM (mvA A) c) (h : NU (mvA A) z c b) : ∃ b', NU (mvA A) z (c + 1) b' ∧ fX9_nextUrgent_34 N k4 A x1 b c = k4 b' ((c + 1 : Nat) : Int) := by
  have h16 := hG.o16 hc
  have ea : Unit → wrap ((c : Int) + 1) = ((c + 1 : Nat) : Int) := fun _ => wrap_eq (by omega) (by omega)
  unfold fX9_nextUrgent_34
  simp only [bnd_eq]
  rw [ea ()]
  rcases h with ⟨h1, h2⟩ | ⟨q, h1, h2, h3, h4, h5⟩
  · subst h1
    rw [if_pos (by decide)]
    refine ⟨c, Or.inr ⟨c, rfl, by omega, h7, hz, fun o ho h0 hzo => ?_⟩, rfl⟩
    by_cases e : o = c
    · subst e; exact Int.le_refl _
    · exact absurd hzo (h2 o (by omega) h0)
  · subst h1
    rw [if_neg (by omega), X9_ahead hG hc (by omega), obind_some]
    by_cases hk : keyM (mvA A) c < keyM (mvA A) q
    · rw [decide_eq_true hk, if_neg b2t']
      refine ⟨c, Or.inr ⟨c, rfl, by omega, h7, hz, fun o ho h0 hzo => ?_⟩, rfl⟩
      by_cases e : o = c
      · subst e; exact Int.le_refl _
      · have := h5 o (by omega) h0 hzo
        omega
    · rw [decide_eq_false hk, if_pos b2f']
      refine ⟨q, Or.inr ⟨q, rfl, by omega, h3, h4, fun o ho h0 hzo => ?_⟩, rfl⟩
      by_cases e : o = c
      · subst e; omega
      · exact h5 o (by omega) h0 hzo
theorem keyM_nn {M : MR} {o : Nat} (hG : GD M) (ho : (o : Int) < M 18 3) : 0 ≤ keyM M o := by
  have a1 := (hG.2.2.1 o ho).2.2.2.1
  unfold keyM
  omega
theorem X9_next4 {N : Nat} {A : AH} {x1 z : Int} (hG : GD (mvA A)) (hz : (x1 = -1 ∧ z = -1) ∨ ∃ p : Nat, x1 = p ∧ (p : Int) < mvA A 18 3 ∧ z = keyM (mvA A) p) : ∀ {k n c : Nat} {b : Int}, (c : Int) + k = mvA A 18 3 → k < n → NU (mvA A) z c b → ∃ b', fX9_nextUrgent_4 N A x1 n b c = some b' ∧ NU (mvA A) z (c + k) b'
  | 0, n, c, b, hc, hn, h => by
    match n, hn with
    | n + 1, _ =>
      refine ⟨b, ?_, h⟩
      rw [fX9_nextUrgent_4, show gI A 349 22 = mvA A 18 3 from rfl, if_pos (ge_z hc)]
  | k + 1, n, c, b, hc, hn, h => by
    have ha := lt_sc hc
    have h16 := hG.o16 ha
    have ea : Unit → wrap ((c : Int) + 1) = ((c + 1 : Nat) : Int) := fun _ => wrap_eq (by omega) (by omega)
    have ek : c + (k + 1) = c + 1 + k := by omega
    match n, hn with
    | n + 1, hn =>
      have ih := fun b' hb' => X9_next4 (N := N) hG hz (k := k) (n := n) (c := c + 1) (b := b') (by rw [sc_cast]; exact hc) (Nat.lt_of_succ_lt_succ hn) hb'
      rw [fX9_nextUrgent_4, show gI A 349 22 = mvA A 18 3 from rfl, if_neg (Int.not_le.mpr ha), ck16 h16, show gI A 357 (c : Int).toNat = mvA A 7 c from rfl, ek]
      by_cases h7 : mvA A 7 c = 0
      · rw [if_pos h7]
        rcases hz with ⟨e1, e2⟩ | ⟨p, e1, e2, e3⟩
        · subst e1
          obtain ⟨b', q1, q2⟩ := X9_next34 (N := N) (k4 := fun x2 x3 => fX9_nextUrgent_4 N A (-1) n x2 x3) (x1 := -1) hG ha h7 (z := z) (by have := keyM_nn hG ha; omega) h
          rw [if_pos (by decide), q2]
          exact ih b' q1
        · subst e1
          rw [if_neg (by omega), X9_ahead hG e2 ha, obind_some, ← e3]
          by_cases hk : z < keyM (mvA A) c
          · obtain ⟨b', q1, q2⟩ := X9_next34 (N := N) (k4 := fun x2 x3 => fX9_nextUrgent_4 N A p n x2 x3) (x1 := p) hG ha h7 hk h
            rw [decide_eq_true hk, if_neg b2t', q2]
            exact ih b' q1
          · rw [decide_eq_false hk, if_pos b2f', bnd_eq, ea ()]
            exact ih b (h.skip (fun _ => hk))
      · rw [if_neg h7, bnd_eq, ea ()]
        exact ih b (h.skip (fun q => absurd q h7))
theorem X9_next {N : Nat} {A : AH} {x1 z : Int} (hN0 : 100 ≤ N) (hG : GD (mvA A)) (hz : (x1 = -1 ∧ z = -1) ∨ ∃ p : Nat, x1 = p ∧ (p : Int) < mvA A 18 3 ∧ z = keyM (mvA A) p) : ∃ b, fX9_nextUrgent N A x1 = some b ∧ NU (mvA A) z (mvA A 18 3).toNat b := by
  have c3 := hG.2.1.2.2.2.1
  obtain ⟨b, b1, b2⟩ := X9_next4 (N := N) hG hz (k := (mvA A 18 3).toNat) (n := N) (c := 0) (b := -1) (nat0 c3.1) (by omega) (Or.inl ⟨rfl, fun o ho => by omega⟩)
  rw [Nat.zero_add] at b2
  exact ⟨b, b1, b2⟩
/-- the open ones of the first c orders, in order -/
def SQ (M : MR) (n : Nat) (q : Nat → Nat) (c : Nat) : Prop := (∀ i, i < n → q i < c ∧ M 7 (q i) = 0) ∧ (∀ i j, i < j → j < n → keyM M (q i) < keyM M (q j)) ∧ ∀ o, o < c → M 7 o = 0 → ∃ i, i < n ∧ q i = o
def insQ (q : Nat → Nat) (m c : Nat) (i : Nat) : Nat := if i < m then q i else if i = m then c else q (i - 1)
theorem insQ_lt {q : Nat → Nat} {m c i : Nat} (h : i < m) : insQ q m c i = q i := by unfold insQ; rw [if_pos h]
theorem insQ_eq {q : Nat → Nat} {m c : Nat} : insQ q m c m = c := by unfold insQ; rw [if_neg (Nat.lt_irrefl m), if_pos rfl]
theorem insQ_gt {q : Nat → Nat} {m c i : Nat} (h : m ≤ i) : insQ q m c (i + 1) = q i := by unfold insQ; rw [if_neg (by omega), if_neg (by omega), Nat.add_sub_cancel]
theorem SQ.skip {M : MR} {n c : Nat} {q : Nat → Nat} (h : SQ M n q c) (h7 : ¬ M 7 c = 0) : SQ M n q (c + 1) := by
  obtain ⟨h1, h2, h3⟩ := h
  refine ⟨fun i hi => ⟨by have := (h1 i hi).1; omega, (h1 i hi).2⟩, h2, fun o ho h0 => ?_⟩
  by_cases e : o = c
  · subst e; exact absurd h0 h7
  · exact h3 o (by omega) h0
theorem SQ.ins {M : MR} {n m c : Nat} {q : Nat → Nat} (h : SQ M n q c) (h7 : M 7 c = 0) (hm : m ≤ n) (hhi : ∀ i, m ≤ i → i < n → keyM M c < keyM M (q i)) (hlo : ∀ i, i < m → keyM M (q i) < keyM M c) : SQ M (n + 1) (insQ q m c) (c + 1) := by
  obtain ⟨h1, h2, h3⟩ := h
  have tri : ∀ i, i < n + 1 → (i < m ∧ insQ q m c i = q i) ∨ (i = m ∧ insQ q m c i = c) ∨ ∃ j, m ≤ j ∧ i = j + 1 ∧ j < n ∧ insQ q m c i = q j := fun i hi => by
    by_cases e1 : i < m
    · exact Or.inl ⟨e1, insQ_lt e1⟩
    · by_cases e2 : i = m
      · subst e2; exact Or.inr (Or.inl ⟨rfl, insQ_eq⟩)
      · refine Or.inr (Or.inr ⟨i - 1, by omega, by omega, by omega, ?_⟩)
        have := insQ_gt (q := q) (m := m) (c := c) (i := i - 1) (by omega)
        rw [Nat.sub_add_cancel (by omega)] at this
        exact this
  refine ⟨fun i hi => ?_, fun i j hij hj => ?_, fun o ho h0 => ?_⟩
  · rcases tri i hi with ⟨e, e2⟩ | ⟨e, e2⟩ | ⟨j, e, e2, e3, e4⟩
    · rw [e2]
      have := h1 i (by omega)
      exact ⟨by omega, this.2⟩
    · rw [e2]
      exact ⟨by omega, h7⟩
    · rw [e4]
      have := h1 j e3
      exact ⟨by omega, this.2⟩
  · rcases tri i (by omega) with ⟨e, e2⟩ | ⟨e, e2⟩ | ⟨i', e, e2, e3, e4⟩
    · rcases tri j hj with ⟨f, f2⟩ | ⟨f, f2⟩ | ⟨j', f, f2, f3, f4⟩
      · rw [e2, f2]; exact h2 i j hij (by omega)
      · rw [e2, f2]; exact hlo i e
      · rw [e2, f4]; exact h2 i j' (by omega) f3
    · rcases tri j hj with ⟨f, f2⟩ | ⟨f, f2⟩ | ⟨j', f, f2, f3, f4⟩
      · omega
      · omega
      · rw [e2, f4]; exact hhi j' f f3
    · rcases tri j hj with ⟨f, f2⟩ | ⟨f, f2⟩ | ⟨j', f, f2, f3, f4⟩
      · omega
      · omega
      · rw [e4, f4]; exact h2 i' j' (by omega) f3
  · by_cases e : o = c
    · subst e; exact ⟨m, by omega, insQ_eq⟩
    · obtain ⟨i, i1, i2⟩ := h3 o (by omega) h0
      by_cases e1 : i < m
      · exact ⟨i, by omega, by rw [insQ_lt e1]; exact i2⟩
      · exact ⟨i + 1, by omega, by rw [insQ_gt (by omega)]; exact i2⟩
theorem X5_line33 {N : Nat} {r n c : Nat} {M : MR} {q : Nat → Nat} {k4 : AH → Int → Int → Option (Int × AH)} (hG : GD M) (hr : r + 40 ≤ 348) (hc : (c : Int) < M 18 3) (hn : n ≤ c) (hq : ∀ i, i < n → q i < c) : ∀ {m n1 : Nat} {A : AH}, UO A r M → m ≤ n → m < n1 → (∀ i, i < m → gI A 348 i = q i) → (∀ i, m ≤ i → i < n → gI A 348 (i + 1) = q i) → (∀ i, m ≤ i → i < n → keyM M c < keyM M (q i)) →
    ∃ m' B, m' ≤ n ∧ fX5_lineUp_33 N k4 r 348 n c n1 A m = k4 B ((n + 1 : Nat) : Int) ((c + 1 : Nat) : Int) ∧ FQ (fun a _ => a = 348) A B ∧ (∀ i, i < n + 1 → gI B 348 i = insQ q m' c i) ∧ (∀ i, m' ≤ i → i < n → keyM M c < keyM M (q i)) ∧ (0 < m' → ¬ keyM M c < keyM M (q (m' - 1))) := by
  have h16 := hG.o16 hc
  have ec : Unit → wrap ((c : Int) + 1) = ((c + 1 : Nat) : Int) := fun _ => wrap_eq (by omega) (by omega)
  have en : Unit → wrap ((n : Int) + 1) = ((n + 1 : Nat) : Int) := fun _ => wrap_eq (by omega) (by omega)
  have fin : ∀ {m : Nat} {A : AH}, m ≤ n → (∀ i, i < m → gI A 348 i = q i) → (∀ i, m ≤ i → i < n → gI A 348 (i + 1) = q i) → ∀ i, i < n + 1 → gI (sI A 348 m c) 348 i = insQ q m c i := by
    intro m A hm h1 h2 i hi
    by_cases e1 : i < m
    · rw [gI_sI, if_neg (by omega), insQ_lt e1, h1 i e1]
    · by_cases e2 : i = m
      · subst e2
        rw [gI_sI, if_pos ⟨rfl, rfl⟩, insQ_eq]
      · obtain ⟨j, rfl⟩ : ∃ j, i = j + 1 := ⟨i - 1, by omega⟩
        rw [gI_sI, if_neg (by omega), insQ_gt (by omega), h2 j (by omega) (by omega)]
  intro m
  induction m with
  | zero =>
    intro n1 A hU hm hn1 h1 h2 h3
    match n1, hn1 with
    | n1 + 1, _ =>
      refine ⟨0, sI A 348 0 c, Nat.zero_le _, ?_, (FQ.rf A).setc, fin (Nat.zero_le _) h1 h2, h3, fun z => absurd z (Nat.lt_irrefl 0)⟩
      rw [fX5_lineUp_33, if_pos (by decide), jal348, chk_pos _ (by decide)]
      simp only [bnd_eq]
      rw [ec (), en ()]
      rfl
  | succ m ih =>
    intro n1 A hU hm hn1 h1 h2 h3
    match n1, hn1 with
    | n1 + 1, hn1 =>
      have em : Unit → wrap (((m + 1 : Nat) : Int) - 1) = (m : Int) := fun _ => by rw [wrap_eq (by omega) (by omega)]; omega
      have em2 : Unit → wrap (((m + 1 : Nat) : Int) + -1) = (m : Int) := fun _ => by rw [wrap_eq (by omega) (by omega)]; omega
      have hqm := hq m (by omega)
      have g1 := h1 m (by omega)
      have cm : ∀ {β : Type} (K : Option β), chk (0 ≤ (m : Int) ∧ (m : Int) < ((16 : Nat) : Int)) K = K := fun K => chk_pos K ⟨by omega, by omega⟩
      have cm1 : ∀ {β : Type} (K : Option β), chk (0 ≤ ((m + 1 : Nat) : Int) ∧ ((m + 1 : Nat) : Int) < ((16 : Nat) : Int)) K = K := fun K => chk_pos K ⟨by omega, by omega⟩
      rw [fX5_lineUp_33, if_neg (by omega), ck16 h16, jal348, em (), cm, Int.toNat_natCast, g1, ck16 (show q m < 16 by omega), Int.toNat_natCast, Int.toNat_natCast, X3_urgent hG hU hc hqm, obind_some]
      simp only [bnd_eq]
      rw [ec (), en (), em2 (), cm1, cm, cm1, Int.toNat_natCast]
      by_cases hk : keyM M c < keyM M (q m)
      · rw [decide_eq_true hk, if_neg b2t']
        have fA : FQ (fun a _ => a = 348) A (sI A 348 (m + 1) (q m)) := (FQ.rf A).setc
        obtain ⟨m', B, b1, b2, b3, b4, b5, b6⟩ := ih (n1 := n1) (A := sI A 348 (m + 1) (q m)) (hU.fq hG hr fA) (by omega) (by omega) (fun i hi => by rw [gI_sI, if_neg (by omega)]; exact h1 i (by omega)) (fun i hi hi2 => by
          by_cases e : i = m
          · subst e
            rw [gI_sI, if_pos ⟨rfl, rfl⟩]
          · rw [gI_sI, if_neg (by omega)]
            exact h2 i (by omega) hi2) (fun i hi hi2 => by
          by_cases e : i = m
          · subst e; exact hk
          · exact h3 i (by omega) hi2)
        exact ⟨m', B, b1, b2, fA.tr b3, b4, b5, b6⟩
      · rw [decide_eq_false hk, if_pos b2f']
        exact ⟨m + 1, sI A 348 (m + 1) c, hm, rfl, (FQ.rf A).setc, fin hm h1 h2, h3, fun _ => hk⟩
theorem X5_line4 {N : Nat} {r : Nat} {M : MR} (hN0 : 100 ≤ N) (hG : GD M) (hr : r + 40 ≤ 348) : ∀ {k n1 c n : Nat} {q : Nat → Nat} {A : AH}, UO A r M → gI A r 6 = M 18 3 → (c : Int) + k = M 18 3 → k < n1 → n ≤ c → SQ M n q c → (∀ i, i < n → gI A 348 i = q i) →
    ∃ n' q' B, fX5_lineUp_4 N r 348 n1 A n c = some (((n' : Nat) : Int), B) ∧ FQ (fun a _ => a = 348) A B ∧ n' ≤ c + k ∧ SQ M n' q' (c + k) ∧ ∀ i, i < n' → gI B 348 i = q' i
  | 0, n1, c, n, q, A, hU, h6, hc, hn1, hn, hQ, hq => by
    match n1, hn1 with
    | n1 + 1, _ =>
      refine ⟨n, q, A, ?_, FQ.rf A, hn, hQ, hq⟩
      rw [fX5_lineUp_4, h6, if_pos (ge_z hc)]
  | k + 1, n1, c, n, q, A, hU, h6, hc, hn1, hn, hQ, hq => by
    have ha := lt_sc hc
    have h16 := hG.o16 ha
    have ea : Unit → wrap ((c : Int) + 1) = ((c + 1 : Nat) : Int) := fun _ => wrap_eq (by omega) (by omega)
    have ek : c + (k + 1) = c + 1 + k := by omega
    match n1, hn1 with
    | n1 + 1, hn1 =>
      rw [fX5_lineUp_4, h6, if_neg (Int.not_le.mpr ha), jal348, if_neg (by omega), ck16 h16, Int.toNat_natCast, (hU c ha).2.2, ek]
      by_cases h7 : M 7 c = 0
      · rw [if_pos h7]
        obtain ⟨m', B, b1, b2, b3, b4, b5, b6⟩ := X5_line33 (N := N) (k4 := fun A x2 x3 => fX5_lineUp_4 N r 348 n1 A x2 x3) hG hr ha hn (fun i hi => (hQ.1 i hi).1) (m := n) (n1 := N) (A := A) hU (Nat.le_refl n) (by omega) hq (fun i h1 h2 => by omega) (fun i h1 h2 => by omega)
        rw [b2]
        have hlo : ∀ i, i < m' → keyM M (q i) < keyM M c := fun i hi => by
          have e1 := b6 (by omega)
          have e2 : keyM M (q i) ≤ keyM M (q (m' - 1)) := by
            by_cases e : i = m' - 1
            · subst e; exact Int.le_refl _
            · exact Int.le_of_lt (hQ.2.1 i (m' - 1) (by omega) (by omega))
          have e3 := (hQ.1 i (by omega)).1
          have o1 := (hG.2.2.1 c ha).2.2.2.1
          have o2 := (hG.2.2.1 (q i) (by omega)).2.2.2.1
          have e4 : ¬ keyM M (q i) = keyM M c := by
            unfold keyM
            omega
          omega
        obtain ⟨n', q', B', c1, c2, c3, c4, c5⟩ := X5_line4 (N := N) hN0 hG hr (k := k) (n1 := n1) (c := c + 1) (n := n + 1) (q := insQ q m' c) (A := B) (hU.fq hG hr b3) (by rw [b3.2.2 r 6 (by omega)]; exact h6) (by rw [sc_cast]; exact hc) (Nat.lt_of_succ_lt_succ hn1) (by omega) (hQ.ins h7 b1 b5 hlo) b4
        exact ⟨n', q', B', c1, b3.tr c2, c3, c4, c5⟩
      · rw [if_neg h7, bnd_eq, ea ()]
        exact X5_line4 (N := N) hN0 hG hr (k := k) (n1 := n1) (c := c + 1) (n := n) (q := q) (A := A) hU h6 (by rw [sc_cast]; exact hc) (Nat.lt_of_succ_lt_succ hn1) (by omega) (hQ.skip h7) hq
theorem X5_line {N : Nat} {A : AH} {M : MR} (hN0 : 100 ≤ N) (hG : GD M) (hP : RP A 2 M) : ∃ n q B, fX5_lineUp N A 2 348 = some (((n : Nat) : Int), B) ∧ FQ (fun a _ => a = 348) A B ∧ n ≤ 16 ∧ SQ M n q (M 18 3).toNat ∧ ∀ i, i < n → gI B 348 i = q i := by
  have c3 := hG.2.1.2.2.2.1
  obtain ⟨n, q, B, b1, b2, b3, b4, b5⟩ := X5_line4 (N := N) (r := 2) hN0 hG (by omega) (k := (M 18 3).toNat) (n1 := N) (c := 0) (n := 0) (q := fun i => i) (A := A) (fun o ho => ⟨(hP.2.2.1 o ho).2.2.2.1, (hP.2.2.1 o ho).2.2.2.2.1, (hP.2.2.1 o ho).2.2.2.2.2.1⟩) hP.2.1.2.1 (nat0 c3.1) (by omega) (Nat.le_refl 0) ⟨fun i hi => by omega, fun i j h1 h2 => by omega, fun o ho => by omega⟩ (fun i hi => by omega)
  rw [Nat.zero_add] at b3 b4
  exact ⟨n, q, B, b1, b2, by omega, b4, b5⟩
/-- the next in a row that keeps the keys, from place k on -/
theorem NU.at {M M' : MR} {n k c : Nat} {q : Nat → Nat} {z b : Int} (hQ : SQ M n q c) (hK : ∀ o, o < c → keyM M' o = keyM M o) (h0 : ∀ o, o < c → M' 7 o = 0 → M 7 o = 0) (hk : ∀ i, k ≤ i → i < n → M' 7 (q i) = 0) (hz : ∀ i, i < n → (z < keyM M (q i) ↔ k ≤ i)) (h : NU M' z c b) : b = if k < n then (q k : Int) else -1 := by
  obtain ⟨h1, h2, h3⟩ := hQ
  rcases h with ⟨e1, e2⟩ | ⟨p, e1, e2, e3, e4, e5⟩
  · by_cases e : k < n
    · exact absurd (by rw [hK _ (h1 k e).1]; exact (hz k e).mpr (Nat.le_refl k)) (e2 (q k) (h1 k e).1 (hk k (Nat.le_refl k) e))
    · rw [if_neg e]; exact e1
  · obtain ⟨i, i1, i2⟩ := h3 p e2 (h0 p e2 e3)
    subst i2
    have hki : k ≤ i := (hz i i1).mp (by rw [← hK _ e2]; exact e4)
    have e : k < n := by omega
    rw [if_pos e, e1]
    have e6 := e5 (q k) (h1 k e).1 (hk k (Nat.le_refl k) e) (by rw [hK _ (h1 k e).1]; exact (hz k e).mpr (Nat.le_refl k))
    rw [hK _ e2, hK _ (h1 k e).1] at e6
    by_cases e7 : k = i
    · rw [e7]
    · have := h2 k i (by omega) i1
      omega
theorem SQ.after {M : MR} {n c k : Nat} {q : Nat → Nat} (hQ : SQ M n q c) (hk : k < n) : ∀ i, i < n → (keyM M (q k) < keyM M (q i) ↔ k + 1 ≤ i) := fun i hi => by
  constructor
  · intro h
    by_cases e : i = k
    · subst e; omega
    · by_cases e2 : i < k
      · have := hQ.2.1 i k e2 hk
        omega
      · omega
  · intro h
    exact hQ.2.1 k i (by omega) hi
theorem X9_urgent18 {N : Nat} {A : AH} {x1 : Int} {n : Nat} {q : Nat → Nat} (hN0 : 100 ≤ N) (hG : GD (mvA A)) (hQ : SQ (mvA A) n q (mvA A 18 3).toNat) (hn : n ≤ 16) : ∀ {k n1 x : Nat}, x + k = n → k < n1 → (x : Int) ≤ x1 → fX9_urgent_18 N x1 n1 A (if x < n then (q x : Int) else -1) x = fX9_urgent_39 N A (if x1 < n then (q x1.toNat : Int) else -1) := by
  have c3 := hG.2.1.2.2.2.1
  intro k
  induction k with
  | zero =>
    intro n1 x hx hn1 hx1
    match n1, hn1 with
    | n1 + 1, _ =>
      rw [fX9_urgent_18, if_neg (show ¬ x < n by omega), if_neg (show ¬ x1 < (n : Int) by omega)]
      by_cases e : x1 ≤ x
      · rw [if_pos e]
      · rw [if_neg e, if_pos (by decide)]
  | succ k ih =>
    intro n1 x hx hn1 hx1
    have hxn : x < n := by omega
    have ea : Unit → wrap ((x : Int) + 1) = ((x + 1 : Nat) : Int) := fun _ => wrap_eq (by omega) (by omega)
    match n1, hn1 with
    | n1 + 1, hn1 =>
      rw [fX9_urgent_18, if_pos hxn]
      by_cases e : x1 ≤ x
      · rw [if_pos e, if_pos (show x1 < (n : Int) by omega), show x1.toNat = x by omega]
      · obtain ⟨b, b1, b2⟩ := X9_next (N := N) (x1 := q x) (z := keyM (mvA A) (q x)) hN0 hG (Or.inr ⟨q x, rfl, by have := (hQ.1 x hxn).1; omega, rfl⟩)
        have e3 := b2.at hQ (fun _ _ => rfl) (fun _ _ h => h) (fun i _ hi => (hQ.1 i hi).2) (hQ.after hxn)
        rw [if_neg e, if_neg (by omega), b1, obind_some, bnd_eq, ea (), e3]
        exact ih (by omega) (by omega) (by omega)
theorem op_urgent {N : Nat} {A C : AH} {x1 : Int} (hN0 : 25000 ≤ N) (h : INV A C) : STEP [(6, 1)] (fX8_urgent N A x1) (fX9_urgent N C x1) A C := by
  obtain ⟨n, q, B, b1, b2, b3, b4, b5⟩ := X5_line (N := N) (by omega) h.1 h.2.1
  have xB : FX 0 XQ A B := b2.fx (fun a k z => by have e : a = 348 := z; unfold XQ; omega)
  unfold fX8_urgent fX9_urgent
  rw [b1, obind_some]
  dsimp only
  by_cases e : x1 < 0
  · rw [if_pos e, if_neg (by omega), X9_fails, obind_some]
    exact STEP.throw h xB (by omega) (FQ_thr C 1) (gI_thr C 1) (by simp)
  · obtain ⟨b, f1, f2⟩ := X9_next (N := N) (A := C) (x1 := -1) (z := -1) (by omega) h.1 (Or.inl ⟨rfl, rfl⟩)
    have f3 := f2.at b4 (fun _ _ => rfl) (fun _ _ h => h) (k := 0) (fun i _ hi => (b4.1 i hi).2) (fun i hi => ⟨fun _ => Nat.zero_le i, fun _ => by
      have := keyM_nn h.1 (o := q i) (by have := (b4.1 i hi).1; omega)
      omega⟩)
    have f4 := X9_urgent18 (N := N) (x1 := x1) (by omega) h.1 b4 b3 (k := n) (n1 := N) (x := 0) (by omega) (by omega) (by omega)
    have f4' : fX9_urgent_18 N x1 N C (if 0 < n then (q 0 : Int) else -1) 0 = _ := f4
    rw [if_neg e, if_pos (show 0 ≤ x1 by omega), f1, obind_some, f3, f4']
    unfold fX9_urgent_39
    by_cases e2 : x1 < n
    · rw [if_pos e2, if_pos e2, chk_pos _ ⟨by omega, by omega⟩, b5 x1.toNat (by omega), if_pos (by omega), bnd_eq]
      exact STEP.query h xB (by omega) (FQ_thr C 0) (gI_thr C 0)
    · rw [if_neg e2, if_neg e2, if_neg (by omega), X9_fails, obind_some]
      exact STEP.throw h xB (by omega) (FQ_thr C 1) (gI_thr C 1) (by simp)
