/-! the text's items, on both sides -/
theorem gI_me (A : AH) (a k : Nat) (v : Int) : gI (sI A a k v) a k = v := by rw [gI_sI, if_pos ⟨rfl, rfl⟩]
abbrev ITM : Type := Bool × Nat × Int × Int × Int × Int × Int
def shp (n : Nat) (T : Nat → Int) (j : Nat) : Bool × Nat × Int × Int × Int :=
  if dig n T j then
    if nmI n T j < n ∧ T (nmI n T j) = 64 then
      if dig n T (nmI n T j + 1) then
        if nmI n T (nmI n T j + 1) < n ∧ T (nmI n T (nmI n T j + 1)) = 45 then
          if dig n T (nmI n T (nmI n T j + 1) + 1) then (true, nmI n T (nmI n T (nmI n T j + 1) + 1), nmV n T j, nmV n T (nmI n T j + 1), nmV n T (nmI n T (nmI n T j + 1) + 1))
          else (false, nmI n T (nmI n T j + 1) + 1, 0, 0, 0)
        else (false, nmI n T (nmI n T j + 1), 0, 0, 0)
      else (false, nmI n T j + 1, 0, 0, 0)
    else (false, nmI n T j, 0, 0, 0)
  else (false, j, 0, 0, 0)
def oth (n : Nat) (T : Nat → Int) (c : Int) (j : Nat) : Bool × Nat × Int × Int :=
  if dig n T j then
    if c = 100 then
      if nmI n T j < n ∧ T (nmI n T j) = 43 then
        if dig n T (nmI n T j + 1) then (true, nmI n T (nmI n T j + 1), nmV n T j, nmV n T (nmI n T j + 1))
        else (false, nmI n T j + 1, 0, 0)
      else (false, nmI n T j, 0, 0)
    else (true, nmI n T j, nmV n T j, 0)
  else (false, j, 0, 0)
def item (n : Nat) (T : Nat → Int) (i : Nat) : ITM :=
  if i < n ∧ 49 ≤ T i ∧ T i ≤ 52 then
    if i + 1 < n ∧ (T (i + 1) = 105 ∨ T (i + 1) = 111) then ((shp n T (i + 2)).1, (shp n T (i + 2)).2.1, T (i + 1), T i - 48, (shp n T (i + 2)).2.2.1, (shp n T (i + 2)).2.2.2.1, (shp n T (i + 2)).2.2.2.2)
    else (false, i + 1, 0, 0, 0, 0, 0)
  else if i < n ∧ (T i = 115 ∨ T i = 100 ∨ T i = 119) then ((oth n T (T i) (i + 1)).1, (oth n T (T i) (i + 1)).2.1, T i, (oth n T (T i) (i + 1)).2.2.1, (oth n T (T i) (i + 1)).2.2.2, 0, 0)
  else (false, i, 0, 0, 0, 0, 0)
abbrev ordK (k : Int) : Prop := k = 105 ∨ k = 111
/-- what the program holds of an item; the reference, of its t-th -/
def KC (B : AH) (r : Int × Int × Int × Int × Int) : Prop := gI B 345 3 = r.1 ∧ (ordK r.1 → gI B 345 4 = r.2.1 ∧ gI B 345 5 = r.2.2.1 ∧ gI B 345 6 = r.2.2.2.1 ∧ gI B 345 7 = r.2.2.2.2) ∧ (¬ ordK r.1 → gI B 345 5 = r.2.1) ∧ (r.1 = 100 → gI B 345 6 = r.2.2.1)
def KM (B : AH) (t : Nat) (r : Int × Int × Int × Int × Int) : Prop := gI B 369 t = r.1 ∧ gI B 370 (4 * t) = r.2.1 ∧ (ordK r.1 → gI B 370 (4 * t + 1) = r.2.2.1 ∧ gI B 370 (4 * t + 2) = r.2.2.2.1 ∧ gI B 370 (4 * t + 3) = r.2.2.2.2) ∧ (r.1 = 100 → gI B 370 (4 * t + 1) = r.2.2.1)
theorem TA.fld {A : AH} {n i k : Nat} {T : Nat → Int} {v : Int} (h : TA A n T i) (hk : 3 ≤ k) : TA (sI A 345 k v) n T i := h.fq ((FQ.rf A).set (by omega)) (by rw [gI_sI, if_neg (by omega)]; exact h.2.2.2.1) h.2.1
theorem TA.nx {A : AH} {n i : Nat} {T : Nat → Int} (h : TA A n T i) (hi : i < n) : TA (sI A 345 2 ((i + 1 : Nat) : Int)) n T (i + 1) := h.fq ((FQ.rf A).set (by omega)) (by rw [gI_sI, if_pos ⟨rfl, rfl⟩]) (by omega)
theorem X6_ord28 {N : Nat} {A : AH} {n j : Nat} {T : Nat → Int} (hN0 : 100 ≤ N) (h : TA A n T j) : ∃ B, fX6_readOrder_28 N A = some (b2i (shp n T j).1, B) ∧ TA B n T (shp n T j).2.1 ∧ FQ (fun a k => a = 345 ∧ (k = 2 ∨ 5 ≤ k)) A B ∧ ((shp n T j).1 = true → j + 1 ≤ (shp n T j).2.1 ∧ gI B 345 5 = (shp n T j).2.2.1 ∧ gI B 345 6 = (shp n T j).2.2.2.1 ∧ gI B 345 7 = (shp n T j).2.2.2.2) := by
  have fS : ∀ {C : AH} {k : Nat} {v : Int}, 5 ≤ k → FQ (fun a k => a = 345 ∧ (k = 2 ∨ 5 ≤ k)) C (sI C 345 k v) := fun {C k v} hk => (FQ.rf C).set (by omega)
  have m2 : ∀ {C D : AH}, FQ (fun a k => a = 345 ∧ k = 2) C D → FQ (fun a k => a = 345 ∧ (k = 2 ∨ 5 ≤ k)) C D := fun {C D} z => z.mono (fun a k q => by omega)
  unfold fX6_readOrder_28 shp
  by_cases e1 : dig n T j
  · have r1 := nm_rng e1
    obtain ⟨B1, b1, b2, b3⟩ := X6_num_yes hN0 h e1
    rw [if_pos e1, b1, obind_some]
    simp only [bnd_eq]
    rw [gI_me, if_neg (show ¬ nmV n T j = -1 by omega)]
    obtain ⟨A1, hA1⟩ : ∃ A1, A1 = sI B1 345 5 (nmV n T j) := ⟨_, rfl⟩
    have t1 : TA A1 n T (nmI n T j) := by rw [hA1]; exact b2.fld (by omega)
    have f1 : FQ (fun a k => a = 345 ∧ (k = 2 ∨ 5 ≤ k)) A A1 := by rw [hA1]; exact (m2 b3).tr (fS (by omega))
    rw [← hA1]
    by_cases e2 : nmI n T j < n ∧ T (nmI n T j) = 64
    · obtain ⟨B2, c1, c2, c3⟩ := X6_yes (N := N) t1 e2
      rw [if_pos e2, c1, obind_some, if_neg (p1n0 B2)]
      dsimp only
      by_cases e3 : dig n T (nmI n T j + 1)
      · have r2 := nm_rng e3
        obtain ⟨B3, d1, d2, d3⟩ := X6_num_yes hN0 c2 e3
        rw [if_pos e3, d1, obind_some]
        dsimp only
        rw [gI_me, if_neg (show ¬ nmV n T (nmI n T j + 1) = -1 by omega)]
        obtain ⟨A2, hA2⟩ : ∃ A2, A2 = sI B3 345 6 (nmV n T (nmI n T j + 1)) := ⟨_, rfl⟩
        have t2 : TA A2 n T (nmI n T (nmI n T j + 1)) := by rw [hA2]; exact d2.fld (by omega)
        have f2 : FQ (fun a k => a = 345 ∧ (k = 2 ∨ 5 ≤ k)) A1 A2 := by rw [hA2]; exact ((m2 c3).tr (m2 d3)).tr (fS (by omega))
        rw [← hA2]
        by_cases e4 : nmI n T (nmI n T j + 1) < n ∧ T (nmI n T (nmI n T j + 1)) = 45
        · obtain ⟨B4, g1, g2, g3⟩ := X6_yes (N := N) t2 e4
          rw [if_pos e4, g1, obind_some, if_neg (p1n0 B4)]
          dsimp only
          by_cases e5 : dig n T (nmI n T (nmI n T j + 1) + 1)
          · have r3 := nm_rng e5
            obtain ⟨B5, k1, k2, k3⟩ := X6_num_yes hN0 g2 e5
            rw [if_pos e5, k1, obind_some]
            dsimp only
            rw [gI_me, if_neg (show ¬ nmV n T (nmI n T (nmI n T j + 1) + 1) = -1 by omega)]
            refine ⟨_, rfl, k2.fld (by omega), ((f1.tr f2).tr ((m2 g3).tr (m2 k3))).tr (fS (by omega)), fun _ => ⟨by omega, ?_, ?_, ?_⟩⟩
            · rw [gI_sI, if_neg (by omega), k3.2.2 345 5 (by omega), g3.2.2 345 5 (by omega), hA2, gI_sI, if_neg (by omega), d3.2.2 345 5 (by omega), c3.2.2 345 5 (by omega), hA1, gI_sI, if_pos ⟨rfl, rfl⟩]
            · rw [gI_sI, if_neg (by omega), k3.2.2 345 6 (by omega), g3.2.2 345 6 (by omega), hA2, gI_sI, if_pos ⟨rfl, rfl⟩]
            · rw [gI_sI, if_pos ⟨rfl, rfl⟩]
          · rw [if_neg e5, X6_num_no hN0 g2 e5, obind_some]
            dsimp only
            rw [gI_me, if_pos rfl]
            exact ⟨_, rfl, g2.fld (by omega), ((f1.tr f2).tr (m2 g3)).tr (fS (by omega)), fun z => by cases z⟩
        · rw [if_neg e4, X6_no t2 (by decide) e4, obind_some, if_pos rfl]
          exact ⟨_, rfl, t2, f1.tr f2, fun z => by cases z⟩
      · rw [if_neg e3, X6_num_no hN0 c2 e3, obind_some]
        dsimp only
        rw [gI_me, if_pos rfl]
        exact ⟨_, rfl, c2.fld (by omega), (f1.tr (m2 c3)).tr (fS (by omega)), fun z => by cases z⟩
    · rw [if_neg e2, X6_no t1 (by decide) e2, obind_some, if_pos rfl]
      exact ⟨_, rfl, t1, f1, fun z => by cases z⟩
  · rw [if_neg e1, X6_num_no hN0 h e1, obind_some]
    simp only [bnd_eq]
    rw [gI_me, if_pos rfl]
    exact ⟨_, rfl, h.fld (by omega), fS (by omega), fun z => by cases z⟩
theorem X6_it60 {N : Nat} {A : AH} {n i : Nat} {T : Nat → Int} {c : Int} (hN0 : 100 ≤ N) (h : TA A n T i) (hi : i < n) (hc : 0 ≤ c ∧ c < 65536) : ∃ B, fX6_readItem_60 N A c = some (b2i (oth n T c (i + 1)).1, B) ∧ TA B n T (oth n T c (i + 1)).2.1 ∧ FQ (fun a k => a = 345 ∧ 2 ≤ k) A B ∧ ((oth n T c (i + 1)).1 = true → i + 2 ≤ (oth n T c (i + 1)).2.1 ∧ gI B 345 3 = c ∧ gI B 345 5 = (oth n T c (i + 1)).2.2.1 ∧ (c = 100 → gI B 345 6 = (oth n T c (i + 1)).2.2.2)) := by
  have fS : ∀ {C : AH} {k : Nat} {v : Int}, 2 ≤ k → FQ (fun a k => a = 345 ∧ 2 ≤ k) C (sI C 345 k v) := fun {C k v} hk => (FQ.rf C).set (by omega)
  have m2 : ∀ {C D : AH}, FQ (fun a k => a = 345 ∧ k = 2) C D → FQ (fun a k => a = 345 ∧ 2 ≤ k) C D := fun {C D} z => z.mono (fun a k q => by omega)
  have hn := h.1
  unfold fX6_readItem_60 oth
  simp only [bnd_eq]
  rw [h.2.2.2.1, wsuc (by omega), chk_pos _ hc]
  obtain ⟨A1, hA1⟩ : ∃ A1, A1 = sI (sI A 345 2 ((i + 1 : Nat) : Int)) 345 3 c := ⟨_, rfl⟩
  have t1 : TA A1 n T (i + 1) := by rw [hA1]; exact (h.nx hi).fld (by omega)
  have f1 : FQ (fun a k => a = 345 ∧ 2 ≤ k) A A1 := by rw [hA1]; exact (fS (by omega)).tr (fS (by omega))
  have v3 : gI A1 345 3 = c := by rw [hA1, gI_sI, if_pos ⟨rfl, rfl⟩]
  rw [← hA1]
  by_cases e1 : dig n T (i + 1)
  · have r1 := nm_rng e1
    obtain ⟨B1, b1, b2, b3⟩ := X6_num_yes hN0 t1 e1
    obtain ⟨A2, hA2⟩ : ∃ A2, A2 = sI B1 345 5 (nmV n T (i + 1)) := ⟨_, rfl⟩
    have t2 : TA A2 n T (nmI n T (i + 1)) := by rw [hA2]; exact b2.fld (by omega)
    have f2 : FQ (fun a k => a = 345 ∧ 2 ≤ k) A A2 := by rw [hA2]; exact (f1.tr (m2 b3)).tr (fS (by omega))
    have w3 : gI A2 345 3 = c := by rw [hA2, gI_sI, if_neg (by omega), b3.2.2 345 3 (by omega)]; exact v3
    have w5 : gI A2 345 5 = nmV n T (i + 1) := by rw [hA2, gI_sI, if_pos ⟨rfl, rfl⟩]
    rw [if_pos e1, b1, obind_some]
    dsimp only
    rw [← hA2, w5]
    by_cases e2 : c = 100
    · rw [if_pos e2, if_pos e2, if_neg (by omega)]
      by_cases e3 : nmI n T (i + 1) < n ∧ T (nmI n T (i + 1)) = 43
      · obtain ⟨B2, c1, c2, c3⟩ := X6_yes (N := N) t2 e3
        rw [if_pos e3, c1, obind_some, if_neg (p1n0 B2)]
        dsimp only
        by_cases e4 : dig n T (nmI n T (i + 1) + 1)
        · have r2 := nm_rng e4
          obtain ⟨B3, d1, d2, d3⟩ := X6_num_yes hN0 c2 e4
          rw [if_pos e4, d1, obind_some]
          dsimp only
          rw [gI_me, if_neg (show ¬ nmV n T (nmI n T (i + 1) + 1) = -1 by omega)]
          refine ⟨_, rfl, d2.fld (by omega), ((f2.tr (m2 c3)).tr (m2 d3)).tr (fS (by omega)), fun _ => ⟨by omega, ?_, ?_, fun _ => ?_⟩⟩
          · rw [gI_sI, if_neg (by omega), d3.2.2 345 3 (by omega), c3.2.2 345 3 (by omega)]; exact w3
          · rw [gI_sI, if_neg (by omega), d3.2.2 345 5 (by omega), c3.2.2 345 5 (by omega)]; exact w5
          · rw [gI_sI, if_pos ⟨rfl, rfl⟩]
        · rw [if_neg e4, X6_num_no hN0 c2 e4, obind_some]
          dsimp only
          rw [gI_me, if_pos rfl]
          exact ⟨_, rfl, c2.fld (by omega), (f2.tr (m2 c3)).tr (fS (by omega)), fun z => by cases z⟩
      · rw [if_neg e3, X6_no t2 (by decide) e3, obind_some, if_pos rfl]
        exact ⟨_, rfl, t2, f2, fun z => by cases z⟩
    · rw [if_neg e2, if_neg e2, if_neg (by omega)]
      exact ⟨_, rfl, t2, f2, fun _ => ⟨show i + 2 ≤ nmI n T (i + 1) by omega, w3, w5, fun z => absurd z e2⟩⟩
  · rw [if_neg e1, X6_num_no hN0 t1 e1, obind_some]
    dsimp only
    rw [gI_me, if_pos rfl, if_pos rfl]
    have fin : ∀ x : Option (Int × AH), x = some (0, sI A1 345 5 (-1)) → ∃ B, x = some (b2i false, B) ∧ TA B n T (i + 1) ∧ FQ (fun a k => a = 345 ∧ 2 ≤ k) A B ∧ (false = true → i + 2 ≤ (i + 1) ∧ gI B 345 3 = c ∧ gI B 345 5 = 0 ∧ (c = 100 → gI B 345 6 = 0)) := fun x hx => ⟨_, hx, t1.fld (by omega), f1.tr (fS (by omega)), fun z => by cases z⟩
    refine fin _ ?_
    by_cases e2 : c = 100
    · rw [if_pos e2]
    · rw [if_neg e2]
theorem item_head {n i : Nat} {T : Nat → Int} (h : (item n T i).1 = true) : i < n ∧ T i ≠ 59 := by
  unfold item at h
  by_cases e1 : i < n ∧ 49 ≤ T i ∧ T i ≤ 52
  · exact ⟨e1.1, by omega⟩
  · rw [if_neg e1] at h
    by_cases e2 : i < n ∧ (T i = 115 ∨ T i = 100 ∨ T i = 119)
    · exact ⟨e2.1, by omega⟩
    · rw [if_neg e2] at h
      cases h
theorem X6_item {N : Nat} {A : AH} {n i : Nat} {T : Nat → Int} (hN0 : 100 ≤ N) (h : TA A n T i) : ∃ B, fX6_readItem N A = some (b2i (item n T i).1, B) ∧ TA B n T (item n T i).2.1 ∧ FQ (fun a k => a = 345 ∧ 2 ≤ k) A B ∧ ((item n T i).1 = true → i + 2 ≤ (item n T i).2.1 ∧ KC B (item n T i).2.2) := by
  have hn := h.1
  have fS : ∀ {C : AH} {k : Nat} {v : Int}, 2 ≤ k → FQ (fun a k => a = 345 ∧ 2 ≤ k) C (sI C 345 k v) := fun {C k v} hk => (FQ.rf C).set (by omega)
  unfold fX6_readItem item
  rw [X6_peek h, obind_some]
  by_cases e1 : i < n ∧ 49 ≤ T i ∧ T i ≤ 52
  · rw [if_pos e1.1, if_neg (by omega), if_neg (by omega), if_pos e1]
    simp only [bnd_eq]
    rw [h.2.2.2.1, wsuc (by omega), show wrap (T i - 48) = T i - 48 from wrap_eq (by omega) (by omega)]
    obtain ⟨A1, hA1⟩ : ∃ A1, A1 = sI (sI A 345 2 ((i + 1 : Nat) : Int)) 345 4 (T i - 48) := ⟨_, rfl⟩
    have t1 : TA A1 n T (i + 1) := by rw [hA1]; exact (h.nx e1.1).fld (by omega)
    have f1 : FQ (fun a k => a = 345 ∧ 2 ≤ k) A A1 := by rw [hA1]; exact (fS (by omega)).tr (fS (by omega))
    have v4 : gI A1 345 4 = T i - 48 := by rw [hA1, gI_sI, if_pos ⟨rfl, rfl⟩]
    rw [← hA1]
    unfold fX6_readOrder
    rw [X6_peek t1, obind_some]
    simp only [bnd_eq]
    obtain ⟨A2, hA2⟩ : ∃ A2, A2 = sI A1 345 3 (if i + 1 < n then T (i + 1) else 0) := ⟨_, rfl⟩
    have t2 : TA A2 n T (i + 1) := by rw [hA2]; exact t1.fld (by omega)
    have f2 : FQ (fun a k => a = 345 ∧ 2 ≤ k) A A2 := by rw [hA2]; exact f1.tr (fS (by omega))
    have w4 : gI A2 345 4 = T i - 48 := by rw [hA2, gI_sI, if_neg (by omega)]; exact v4
    rw [← hA2]
    by_cases e2 : i + 1 < n ∧ (T (i + 1) = 105 ∨ T (i + 1) = 111)
    · have w3 : gI A2 345 3 = T (i + 1) := by rw [hA2, gI_sI, if_pos ⟨rfl, rfl⟩, if_pos e2.1]
      rw [if_pos e2]
      have go : ∀ {B1 : AH}, TA B1 n T (i + 1 + 1) → FQ (fun a k => a = 345 ∧ k = 2) A2 B1 → ∃ B, obind (fX6_readOrder_28 N B1) (fun p11 => some (p11.1, p11.2)) = some (b2i (shp n T (i + 2)).1, B) ∧ TA B n T (shp n T (i + 2)).2.1 ∧ FQ (fun a k => a = 345 ∧ 2 ≤ k) A B ∧ ((shp n T (i + 2)).1 = true → i + 2 ≤ (shp n T (i + 2)).2.1 ∧ KC B (T (i + 1), T i - 48, (shp n T (i + 2)).2.2.1, (shp n T (i + 2)).2.2.2.1, (shp n T (i + 2)).2.2.2.2)) := by
        intro B1 c2 c3
        obtain ⟨B, b1, b2, b3, b4⟩ := X6_ord28 hN0 c2
        refine ⟨B, by rw [b1, obind_some], b2, (f2.tr (c3.mono (fun a k q => by omega))).tr (b3.mono (fun a k q => by omega)), fun z => ?_⟩
        obtain ⟨g1, g2, g3, g4⟩ := b4 z
        have g1' : i + 2 + 1 ≤ (shp n T (i + 2)).2.1 := g1
        refine ⟨by omega, ?_, fun _ => ⟨?_, g2, g3, g4⟩, fun q => absurd e2.2 q, fun q => ?_⟩
        · rw [b3.2.2 345 3 (by omega), c3.2.2 345 3 (by omega)]; exact w3
        · rw [b3.2.2 345 4 (by omega), c3.2.2 345 4 (by omega)]; exact w4
        · have q' : T (i + 1) = 100 := q
          omega
      by_cases e3 : T (i + 1) = 105
      · obtain ⟨B1, c1, c2, c3⟩ := X6_yes (N := N) t2 ⟨e2.1, e3⟩
        rw [c1, obind_some, if_neg (p1n0 B1)]
        exact go c2 c3
      · obtain ⟨B1, c1, c2, c3⟩ := X6_yes (N := N) (x := 111) t2 ⟨e2.1, by omega⟩
        rw [X6_no t2 (by decide) (fun z => e3 z.2), obind_some, if_pos rfl]
        dsimp only
        rw [c1, obind_some, if_neg (p1n0 B1)]
        exact go c2 c3
    · rw [if_neg e2, X6_no t2 (by decide) (fun z => e2 ⟨z.1, Or.inl z.2⟩), obind_some, if_pos rfl]
      dsimp only
      rw [X6_no t2 (by decide) (fun z => e2 ⟨z.1, Or.inr z.2⟩), obind_some, if_pos rfl, obind_some]
      exact ⟨_, rfl, t2, f2, fun z => by cases z⟩
  · have e40 : (if (if i < n then T i else 0) < 49 then fX6_readItem_40 N A (if i < n then T i else 0) else if 52 < (if i < n then T i else 0) then fX6_readItem_40 N A (if i < n then T i else 0) else bnd (sI A 345 2 (wrap ((gI A 345 2) + 1))) (fun A8 => bnd (sI A8 345 4 (wrap ((if i < n then T i else 0) - 48))) (fun A9 => obind (fX6_readOrder N A9 ) (fun p11 => some (p11.1, p11.2))))) = fX6_readItem_40 N A (if i < n then T i else 0) := by
      by_cases z : (if i < n then T i else 0) < 49
      · rw [if_pos z]
      · rw [if_neg z, if_pos]
        by_cases w : i < n
        · rw [if_pos w] at z ⊢
          omega
        · rw [if_neg w] at z
          omega
    rw [e40, if_neg e1]
    unfold fX6_readItem_40
    by_cases e2 : i < n ∧ (T i = 115 ∨ T i = 100 ∨ T i = 119)
    · obtain ⟨B, b1, b2, b3, b4⟩ := X6_it60 (N := N) (c := T i) hN0 h e2.1 (by omega)
      have e3 : (if T i = 115 then fX6_readItem_60 N A (T i) else if T i = 100 then fX6_readItem_60 N A (T i) else if T i = 119 then fX6_readItem_60 N A (T i) else some (0, A)) = fX6_readItem_60 N A (T i) := by
        by_cases z1 : T i = 115
        · rw [if_pos z1]
        · rw [if_neg z1]
          by_cases z2 : T i = 100
          · rw [if_pos z2]
          · rw [if_neg z2, if_pos (by omega)]
      rw [if_pos e2.1, e3, if_pos e2, b1]
      refine ⟨B, rfl, b2, b3, fun z => ?_⟩
      obtain ⟨g1, g2, g3, g4⟩ := b4 z
      refine ⟨g1, g2, fun q => ?_, fun _ => g3, g4⟩
      have q' : T i = 105 ∨ T i = 111 := q
      omega
    · rw [if_neg e2]
      have e3 : (if (if i < n then T i else 0) = 115 then fX6_readItem_60 N A (if i < n then T i else 0) else if (if i < n then T i else 0) = 100 then fX6_readItem_60 N A (if i < n then T i else 0) else if (if i < n then T i else 0) = 119 then fX6_readItem_60 N A (if i < n then T i else 0) else some (0, A)) = some (0, A) := by
        by_cases w : i < n
        · rw [if_pos w, if_neg (fun z => e2 ⟨w, by omega⟩), if_neg (fun z => e2 ⟨w, by omega⟩), if_neg (fun z => e2 ⟨w, by omega⟩)]
        · rw [if_neg w, if_neg (by decide), if_neg (by decide), if_neg (by decide)]
      rw [e3]
      exact ⟨A, rfl, h, FQ.rf A, fun z => by cases z⟩
