/-! sums over plans; places -/
theorem perm_sum {α : Type} (f : α → Int) {l l' : List α} (h : l.Perm l') : (l.map f).sum = (l'.map f).sum := by
  induction h with
  | nil => rfl
  | cons x _ ih => rw [List.map_cons, List.map_cons, List.sum_cons, List.sum_cons, ih]
  | swap x y l => rw [List.map_cons, List.map_cons, List.map_cons, List.map_cons, List.sum_cons, List.sum_cons, List.sum_cons, List.sum_cons]; omega
  | trans _ _ ih1 ih2 => rw [ih1, ih2]
theorem sum_selF (f : Nat → Bool) (g : Nat → Int) : ∀ (n a : Nat), ((selF f n a).map g).sum = sumN (fun i => if f i = true then g i else 0) n a
  | 0, a => rfl
  | n + 1, a => by
    rw [selF, sumN]
    by_cases h : f a = true
    · rw [if_pos h, if_pos h, List.map_cons, List.sum_cons, sum_selF f g n (a + 1)]
    · rw [if_neg h, if_neg h, sum_selF f g n (a + 1), Int.zero_add]
theorem items_sum {M : MR} {p : Int} (g : LG → Int) : ((itemsL M p).map g).sum = sumN (fun o => if tofM M o p = true then g (legT M o) else 0) (M 18 3).toNat 0 + sumN (fun k => if hasR (M 17 k) p = true then g (legR M k) else 0) (M 18 4).toNat 0 := by
  unfold itemsL tripsL ridesL
  rw [List.map_append, List.sum_append, List.map_map, List.map_map, sum_selF, sum_selF]
  rfl
theorem len_sum : ∀ (L : List LG), (L.length : Int) = (L.map (fun _ => (1 : Int))).sum
  | [] => rfl
  | x :: L => by
    rw [List.length_cons, List.map_cons, List.sum_cons, ← len_sum L]
    omega
def plStep (h : Int) (c : Int × Int) (x : LG) : Int × Int := if lgB x ≤ h ∧ c.2 ≤ lgB x then ((if lgE x ≤ h then lgG x else -1), lgB x) else c
theorem plStep_fold {h : Int} {x : LG} : ∀ {I : List LG} {c : Int × Int}, (∀ y ∈ I, y = x ∨ lgB y < lgB x ∨ h < lgB y) → lgB x ≤ h → (x ∈ I ∧ c.2 ≤ lgB x ∨ c = ((if lgE x ≤ h then lgG x else -1), lgB x)) → I.foldl (plStep h) c = ((if lgE x ≤ h then lgG x else -1), lgB x)
  | [], c, _, _, hc => by
    rcases hc with ⟨h1, -⟩ | h1
    · cases h1
    · exact h1
  | y :: I, c, hI, hx, hc => by
    have hy := hI y List.mem_cons_self
    rw [List.foldl_cons]
    refine plStep_fold (fun z hz => hI z (List.mem_cons_of_mem _ hz)) hx ?_
    rcases hc with ⟨h1, h2⟩ | h1
    · by_cases e : y = x
      · right
        subst e
        unfold plStep
        rw [if_pos ⟨hx, h2⟩]
      · left
        refine ⟨(List.mem_cons.mp h1).resolve_left (fun z => e z.symm), ?_⟩
        unfold plStep
        split
        · show lgB y ≤ lgB x
          rcases hy with q | q | q
          · exact absurd q e
          · omega
          · omega
        · exact h2
    · right
      subst h1
      unfold plStep
      by_cases e : y = x
      · subst e
        rw [if_pos ⟨hx, Int.le_refl _⟩]
      · rw [if_neg]
        show ¬ (lgB y ≤ h ∧ lgB x ≤ lgB y)
        rcases hy with q | q | q
        · exact absurd q e
        · omega
        · omega
theorem plStep_none {h : Int} : ∀ {I : List LG} {c : Int × Int}, (∀ y ∈ I, h < lgB y) → I.foldl (plStep h) c = c
  | [], c, _ => rfl
  | y :: I, c, hI => by
    rw [List.foldl_cons]
    have : plStep h c y = c := by
      unfold plStep
      rw [if_neg (by have := hI y List.mem_cons_self; omega)]
    rw [this]
    exact plStep_none (fun z hz => hI z (List.mem_cons_of_mem _ hz))
theorem placeL_find {h : Int} : ∀ {L : List LG}, (∀ x ∈ L, lgB x < lgE x) → placeL h L = match L.find? (fun x => decide (lgB x ≤ h)) with
    | none => 0
    | some x => if lgE x ≤ h then lgG x else -1
  | [], _ => rfl
  | x :: L, hL => by
    have hx := hL x List.mem_cons_self
    show (if lgE x ≤ h then lgG x else if lgB x ≤ h then -1 else placeL h L) = _
    by_cases h1 : lgB x ≤ h
    · rw [List.find?_cons_of_pos (by simp [h1])]
      show _ = (if lgE x ≤ h then lgG x else -1)
      rw [if_pos h1]
    · rw [List.find?_cons_of_neg (by simp [h1]), if_neg (by omega), if_neg h1]
      exact placeL_find (fun y hy => hL y (List.mem_cons_of_mem _ hy))
def placeM (M : MR) (p h : Int) : Int := ((itemsL M p).foldl (plStep h) (0, -1)).1
theorem PL.place {M : MR} {p : Int} {L : List LG} (hP : PL M p L) {h : Int} : placeM M p h = placeL h L := by
  obtain ⟨h1, h2, h3⟩ := hP
  rw [placeL_find (fun x hx => (h3 x hx).1)]
  unfold placeM
  cases hf : L.find? (fun x => decide (lgB x ≤ h)) with
  | none =>
    have hn := List.find?_eq_none.mp hf
    rw [plStep_none (fun y hy => by
      have := hn y (h1.mem_iff.mpr hy)
      simp at this
      exact this)]
  | some x =>
    obtain ⟨hk, as, bs, hL, has⟩ := List.find?_eq_some_iff_append.mp hf
    have hx : x ∈ L := List.mem_of_find?_eq_some hf
    have hk2 : lgB x ≤ h := of_decide_eq_true hk
    rw [plStep_fold (x := x) (fun y hy => ?_) hk2 (Or.inl ⟨h1.mem_iff.mp hx, by have := (h3 x hx).2.1; show (-1 : Int) ≤ lgB x; omega⟩)]
    have hyL := h1.mem_iff.mpr hy
    rw [hL] at hyL h2
    rcases List.mem_append.mp hyL with q | q
    · right
      right
      have := has y q
      simp at this
      exact this
    · rcases List.mem_cons.mp q with q | q
      · exact Or.inl q
      · right
        left
        have a1 := (List.pairwise_cons.mp (List.pairwise_append.mp h2).2.1).1 y q
        have a2 := (h3 y (h1.mem_iff.mpr hy)).1
        omega
theorem X9_placeAt92 {N : Nat} {A : AH} {p h : Int} (hR : gI A 349 23 ≤ 2703) : ∀ {k n a : Nat} {c : Int × Int}, (a : Int) + k = gI A 349 23 → k < n → fX9_placeAt_92 N A p h n c.1 c.2 a = some (((selF (fun i => hasR (mvA A 17 i) p) k a).map (legR (mvA A))).foldl (plStep h) c).1
  | 0, n, a, c, e, hn => by
    match n, hn with
    | n + 1, _ =>
      rw [fX9_placeAt_92, if_pos (by omega)]
      rfl
  | k + 1, n, a, c, e, hn => by
    have ea : Unit → wrap ((a : Int) + 1) = ((a + 1 : Nat) : Int) := fun _ => wrap_eq (by omega) (by omega)
    match n, hn with
    | n + 1, hn =>
      have ih := fun (c : Int × Int) => X9_placeAt92 (N := N) (p := p) (h := h) hR (k := k) (n := n) (a := a + 1) (c := c) (by omega) (Nat.lt_of_succ_lt_succ hn)
      have e7 : gI A 367 (a : Int).toNat = mvA A 17 a := rfl
      unfold fX9_placeAt_92 fX9_hourOf
      rw [if_neg (by omega), chk_pos _ (by omega), obind_some, chk_pos _ (by omega), X9_has, obind_some, e7, selF]
      by_cases hh : hasR (mvA A 17 a) p = true
      · rw [hh, if_neg b2t', if_pos rfl, List.map_cons, List.foldl_cons]
        have hB : iAnd (mvA A 17 a) 1023 = lgB (legR (mvA A) a) := rfl
        rw [hB]
        unfold plStep
        by_cases h1 : h < lgB (legR (mvA A) a)
        · rw [if_pos h1, if_neg (by omega), bnd_eq, ea ()]
          exact ih c
        · rw [if_neg h1]
          by_cases h2 : c.2 ≤ lgB (legR (mvA A) a)
          · unfold fX9_endOf fX9_toOf
            rw [if_pos h2, if_pos ⟨by omega, h2⟩, chk_pos _ (by omega), obind_some, chk_pos _ (by omega), obind_some]
            have hE : wrap (iAnd (mvA A 17 a) 1023 + iAnd (iShr (mvA A 17 a) 10) 7) = lgE (legR (mvA A) a) := rfl
            have hT : iAnd (iShr (mvA A 17 a) 19) 1 = lgG (legR (mvA A) a) := rfl
            rw [hE, hT]
            by_cases h3 : lgE (legR (mvA A) a) ≤ h
            · rw [if_pos h3, if_pos h3, bnd_eq, ea ()]
              exact ih (_, _)
            · rw [if_neg h3, if_neg h3, bnd_eq, ea ()]
              exact ih (_, _)
          · rw [if_neg h2, if_neg (by omega), bnd_eq, ea ()]
            exact ih c
      · rw [Bool.not_eq_true _ |>.mp hh, if_pos b2f', if_neg (by decide), bnd_eq, ea ()]
        exact ih c
theorem X9_placeAt8 {N : Nat} {A : AH} {p h : Int} (hN : 3000 ≤ N) (hG : GD (mvA A)) : ∀ {k n a : Nat} {c : Int × Int}, (a : Int) + k = mvA A 18 3 → k < n → fX9_placeAt_8 N A p h n c.1 c.2 a = some (((selF (fun i => hasR (mvA A 17 i) p) (mvA A 18 4).toNat 0).map (legR (mvA A))).foldl (plStep h) (((selF (fun o => tofM (mvA A) o p) k a).map (legT (mvA A))).foldl (plStep h) c)).1
  | 0, n, a, c, e, hn => by
    have c5 := hG.2.1.2.2.2.2
    match n, hn with
    | n + 1, _ =>
      rw [fX9_placeAt_8, show gI A 349 22 = mvA A 18 3 from rfl, if_pos (ge_z e)]
      exact X9_placeAt92 (a := 0) c5.2 (nat0 c5.1) (by omega)
  | k + 1, n, a, c, e, hn => by
    have ha := lt_sc e
    have h16 := hG.o16 ha
    have hO := hG.2.2.1 a ha
    have ea : Unit → wrap ((a : Int) + 1) = ((a + 1 : Nat) : Int) := fun _ => wrap_eq (by omega) (by omega)
    match n, hn with
    | n + 1, hn =>
      have ih := fun (c : Int × Int) => X9_placeAt8 (p := p) (h := h) hN hG (k := k) (n := n) (a := a + 1) (c := c) (by rw [sc_cast]; exact e) (Nat.lt_of_succ_lt_succ hn)
      rw [fX9_placeAt_8, show gI A 349 22 = mvA A 18 3 from rfl, if_neg (Int.not_le.mpr ha), X9_isTripOf h16, obind_some, selF]
      by_cases hh : tofM (mvA A) a p = true
      · have ht : tripM (mvA A) a := by
          unfold tofM at hh
          rw [Bool.and_eq_true] at hh
          exact of_decide_eq_true hh.1
        rw [hh, if_neg b2t', if_pos rfl, List.map_cons, List.foldl_cons, ck16 h16, ck16 h16, ck16 h16, show gI A 359 (a : Int).toNat = lgB (legT (mvA A) a) from rfl]
        unfold plStep
        by_cases h1 : h < lgB (legT (mvA A) a)
        · rw [if_pos h1, if_neg (by omega), bnd_eq, ea ()]
          exact ih c
        · rw [if_neg h1]
          by_cases h2 : c.2 ≤ lgB (legT (mvA A) a)
          · rw [if_pos h2, if_pos ⟨by omega, h2⟩, bnd_eq, X9_end h16 hO ht, obind_some, X9_goalOf h16, obind_some]
            have hE : endM (mvA A) a = lgE (legT (mvA A) a) := rfl
            have hT : mvA A 3 a = lgG (legT (mvA A) a) := rfl
            rw [hE, hT]
            by_cases h3 : lgE (legT (mvA A) a) ≤ h
            · rw [if_pos h3, if_pos h3, bnd_eq, ea ()]
              exact ih (_, _)
            · rw [if_neg h3, if_neg h3, bnd_eq, ea ()]
              exact ih (_, _)
          · rw [if_neg h2, if_neg (by omega), bnd_eq, ea ()]
            exact ih c
      · rw [Bool.not_eq_true _ |>.mp hh, if_pos b2f', if_neg (by decide), bnd_eq, ea ()]
        exact ih c
theorem X9_placeAt {N : Nat} {A : AH} {p h : Int} (hN : 3000 ≤ N) (hG : GD (mvA A)) : fX9_placeAt N A p h = some (placeM (mvA A) p h) := by
  have c4 := hG.2.1.2.2.2.1
  have e := X9_placeAt8 (p := p) (h := h) hN hG (k := (mvA A 18 3).toNat) (n := N) (a := 0) (c := (0, -1)) (nat0 c4.1) (by omega)
  unfold fX9_placeAt placeM itemsL tripsL ridesL
  rw [List.foldl_append]
  exact e
theorem X4_placeAt {N : Nat} {A : AH} {y : Nat} {L : List LG} {h : Int} (hC : CH A (gP A y 2) L) (hL : L.length < N) : fX4_placeAt N A y h = some (placeL h L) := X4_placeAt5 hC hL
theorem op_place {N : Nat} {A C : AH} {x1 x2 : Int} (hN : 25000 ≤ N) (h : INV A C) : STEP [(3, 1)] (fX8_place N A x1 x2) (fX9_place N C x1 x2) A C := by
  unfold fX8_place fX9_place
  have thr := STEP.throw (cs := [(3, 1)]) (k := 3) (c := 1) (w := 0) h (FX.rf A) (by omega) (FQ_thr C 1) (gI_thr C 1) (by simp)
  rw [X8_pilot h.2.1, X9_isPilot, obind_some]
  by_cases h1 : 0 ≤ x1 ∧ x1 < mvA C 18 1
  · obtain ⟨p, rfl⟩ : ∃ p : Nat, x1 = p := ⟨x1.toNat, by omega⟩
    have hp := h1.2
    have hp6 := h.1.p6 hp
    obtain ⟨L, l1, l2⟩ := h.2.1.2.2.2.1 p hp
    rw [if_pos h1, decide_eq_true h1, obind_some, if_pos rfl, if_neg b2t', X9_isHour, obind_some]
    dsimp only
    rw [X8_hour]
    by_cases h3 : 0 ≤ x2 ∧ x2 ≤ 999
    · have e : mvA (sI C 349 0 0) = mvA C := mvA_thr C 0
      rw [if_pos h3, decide_eq_true h3, obind_some, if_pos rfl, if_neg b2t', ck6 hp6, bnd_eq, X9_placeAt (by omega) (by rw [e]; exact h.1), obind_some, e, l2.place]
      dsimp only
      rw [show 2 + 22 + (p : Int).toNat = 2 + 22 + p by omega, X4_placeAt l1.2.2 (by have := l2.len h.1.2.1; omega), obind_some]
      exact STEP.query h (FX.rf A) (by omega) (FQ_thr C 0) (gI_thr C 0)
    · rw [if_neg h3, decide_eq_false h3, obind_some, if_neg (n3 _), if_pos b2f', X9_fails, obind_some]
      exact thr
  · rw [if_neg h1, decide_eq_false h1, obind_some, if_neg (n3 _), if_pos b2f', X9_fails, obind_some]
    exact thr
