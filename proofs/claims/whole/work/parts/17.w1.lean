/-! the reference's items -/
abbrev SI (t : Nat) (a k : Nat) : Prop := (a = 349 ∧ (k = 35 ∨ k = 36)) ∨ (a = 369 ∧ k = t) ∨ a = 370 ∧ 4 * t ≤ k ∧ k ≤ 4 * t + 3
theorem TC.s {A B : AH} {n i j t s : Nat} {T : Nat → Int} (h : TC A n T i t) (hf : FQ (SI t) A B) (hj : gI B 349 35 = j) (ht : gI B 349 36 = s) (hn : j ≤ n) : TC B n T j s := h.fq (hf.mono (fun a k q => by omega)) hj ht hn
theorem X9_ship48 {N : Nat} {C : AH} {n j t : Nat} {T : Nat → Int} (hN0 : 100 ≤ N) (ht : t < 30) (h : TC C n T j t) (hj : j < n) : ∃ B, fX9_takesShip_48 N C = some (b2i (shp n T (j + 1)).1, B) ∧ TC B n T (shp n T (j + 1)).2.1 t ∧ FQ (SI t) C B ∧ gI B 370 (4 * t) = gI C 370 (4 * t) ∧ ((shp n T (j + 1)).1 = true → gI B 369 t = T j ∧ gI B 370 (4 * t + 1) = (shp n T (j + 1)).2.2.1 ∧ gI B 370 (4 * t + 2) = (shp n T (j + 1)).2.2.2.1 ∧ gI B 370 (4 * t + 3) = (shp n T (j + 1)).2.2.2.2) := by
  obtain ⟨hn, hi, h1, h2, h3, h4⟩ := h
  have h : TC C n T j t := ⟨hn, hi, h1, h2, h3, h4⟩
  have m35 : ∀ {C D : AH}, FQ (fun a k => a = 349 ∧ k = 35) C D → FQ (SI t) C D := fun {C D} z => z.mono (fun a k q => by omega)
  have mnum : ∀ {C D : AH} {x : Nat}, x < 4 → FQ (fun a j => (a = 349 ∧ j = 35) ∨ a = 370 ∧ j = 4 * t + x) C D → FQ (SI t) C D := fun {C D x} hx z => z.mono (fun a k q => by omega)
  have hT := h4 j hj
  unfold fX9_takesShip_48 shp
  simp only [bnd_eq]
  rw [gI_sI, if_neg (by omega), h2, h3, chk_pos _ (by omega), chk_pos _ (by omega), Int.toNat_natCast, Int.toNat_natCast, hT.1, chk_pos _ hT.2, wsuc (by omega)]
  obtain ⟨C1, hC1⟩ : ∃ C1, C1 = sI (sI C 369 t (T j)) 349 35 ((j + 1 : Nat) : Int) := ⟨_, rfl⟩
  have f1 : FQ (SI t) C C1 := by rw [hC1]; exact ((FQ.rf C).set (by omega)).set (by omega)
  have t1 : TC C1 n T (j + 1) t := h.s f1 (by rw [hC1, gI_me]) (by rw [hC1, gI_sI, if_neg (by omega), gI_sI, if_neg (by omega)]; exact h3) (by omega)
  have v9 : gI C1 369 t = T j := by rw [hC1, gI_sI, if_neg (by omega), gI_me]
  have v0 : gI C1 370 (4 * t) = gI C 370 (4 * t) := by rw [hC1, gI_sI, if_neg (by omega), gI_sI, if_neg (by omega)]
  rw [← hC1]
  by_cases e1 : dig n T (j + 1)
  · have r1 := nm_rng e1
    obtain ⟨C2, b1, b2, b3, b4⟩ := X9_num_yes (x := 1) hN0 ht (by decide) t1 e1
    have b1' : fX9_takesNumber N C1 1 = some (1, C2) := b1
    rw [if_pos e1, b1', obind_some, if_neg (p1n0 C2)]
    dsimp only
    by_cases e2 : nmI n T (j + 1) < n ∧ T (nmI n T (j + 1)) = 64
    · obtain ⟨C3, c1, c2, c3⟩ := X9_yes (N := N) b2 e2
      rw [if_pos e2, c1, obind_some, if_neg (p1n0 C3)]
      dsimp only
      by_cases e3 : dig n T (nmI n T (j + 1) + 1)
      · have r2 := nm_rng e3
        obtain ⟨C4, d1, d2, d3, d4⟩ := X9_num_yes (x := 2) hN0 ht (by decide) c2 e3
        have d1' : fX9_takesNumber N C3 2 = some (1, C4) := d1
        rw [if_pos e3, d1', obind_some, if_neg (p1n0 C4)]
        dsimp only
        by_cases e4 : nmI n T (nmI n T (j + 1) + 1) < n ∧ T (nmI n T (nmI n T (j + 1) + 1)) = 45
        · obtain ⟨C5, g1, g2, g3⟩ := X9_yes (N := N) d2 e4
          rw [if_pos e4, g1, obind_some, if_neg (p1n0 C5)]
          dsimp only
          by_cases e5 : dig n T (nmI n T (nmI n T (j + 1) + 1) + 1)
          · obtain ⟨C6, k1, k2, k3, k4⟩ := X9_num_yes (x := 3) hN0 ht (by decide) g2 e5
            have k1' : fX9_takesNumber N C5 3 = some (1, C6) := k1
            rw [if_pos e5, k1', obind_some, if_neg (p1n0 C6)]
            refine ⟨C6, rfl, k2, ((((f1.tr (mnum (by decide) b3)).tr (m35 c3)).tr (mnum (by decide) d3)).tr (m35 g3)).tr (mnum (by decide) k3), ?_, fun _ => ⟨?_, ?_, ?_, k4⟩⟩
            · rw [k3.2.2 370 (4 * t) (by omega), g3.2.2 370 (4 * t) (by omega), d3.2.2 370 (4 * t) (by omega), c3.2.2 370 (4 * t) (by omega), b3.2.2 370 (4 * t) (by omega)]; exact v0
            · rw [k3.2.2 369 t (by omega), g3.2.2 369 t (by omega), d3.2.2 369 t (by omega), c3.2.2 369 t (by omega), b3.2.2 369 t (by omega)]; exact v9
            · rw [k3.2.2 370 (4 * t + 1) (by omega), g3.2.2 370 (4 * t + 1) (by omega), d3.2.2 370 (4 * t + 1) (by omega), c3.2.2 370 (4 * t + 1) (by omega)]; exact b4
            · rw [k3.2.2 370 (4 * t + 2) (by omega), g3.2.2 370 (4 * t + 2) (by omega)]; exact d4
          · rw [if_neg e5, X9_num_no g2 e5, obind_some, if_pos rfl]
            refine ⟨C5, rfl, g2, (((f1.tr (mnum (by decide) b3)).tr (m35 c3)).tr (mnum (by decide) d3)).tr (m35 g3), ?_, fun z => by cases z⟩
            rw [g3.2.2 370 (4 * t) (by omega), d3.2.2 370 (4 * t) (by omega), c3.2.2 370 (4 * t) (by omega), b3.2.2 370 (4 * t) (by omega)]; exact v0
        · rw [if_neg e4, X9_no d2 (by decide) e4, obind_some, if_pos rfl]
          refine ⟨C4, rfl, d2, ((f1.tr (mnum (by decide) b3)).tr (m35 c3)).tr (mnum (by decide) d3), ?_, fun z => by cases z⟩
          rw [d3.2.2 370 (4 * t) (by omega), c3.2.2 370 (4 * t) (by omega), b3.2.2 370 (4 * t) (by omega)]; exact v0
      · rw [if_neg e3, X9_num_no c2 e3, obind_some, if_pos rfl]
        refine ⟨C3, rfl, c2, (f1.tr (mnum (by decide) b3)).tr (m35 c3), ?_, fun z => by cases z⟩
        rw [c3.2.2 370 (4 * t) (by omega), b3.2.2 370 (4 * t) (by omega)]; exact v0
    · rw [if_neg e2, X9_no b2 (by decide) e2, obind_some, if_pos rfl]
      refine ⟨C2, rfl, b2, f1.tr (mnum (by decide) b3), ?_, fun z => by cases z⟩
      rw [b3.2.2 370 (4 * t) (by omega)]; exact v0
  · rw [if_neg e1, X9_num_no t1 e1, obind_some, if_pos rfl]
    exact ⟨C1, rfl, t1, f1, v0, fun z => by cases z⟩
theorem X9_it106 {N : Nat} {C : AH} {n j t : Nat} {T : Nat → Int} (ht : t < 30) (h : TC C n T j t) : ∃ B, fX9_takesItem_106 N C = some (1, B) ∧ TC B n T j (t + 1) ∧ FQ (fun a k => a = 349 ∧ k = 36) C B := by
  have f : FQ (fun a k => a = 349 ∧ k = 36) C (sI C 349 36 ((t + 1 : Nat) : Int)) := (FQ.rf C).set ⟨rfl, rfl⟩
  refine ⟨_, ?_, h.fq (f.mono (fun a k q => by omega)) (by rw [gI_sI, if_neg (by omega)]; exact h.2.2.2.1) (by rw [gI_me]) h.2.1, f⟩
  unfold fX9_takesItem_106
  simp only [bnd_eq]
  rw [h.2.2.2.2.1, wsuc (by omega)]
theorem KM.fq {C B : AH} {t : Nat} {r : Int × Int × Int × Int × Int} (h : KM C t r) (hf : FQ (fun a k => a = 349 ∨ (350 ≤ a ∧ a ≤ 368)) C B) : KM B t r := by
  unfold KM at *
  rw [hf.2.2 369 t (by omega), hf.2.2 370 (4 * t) (by omega), hf.2.2 370 (4 * t + 1) (by omega), hf.2.2 370 (4 * t + 2) (by omega), hf.2.2 370 (4 * t + 3) (by omega)]
  exact h
theorem X9_it45 {N : Nat} {C : AH} {n i t : Nat} {T : Nat → Int} (hN0 : 100 ≤ N) (ht : t < 30) (h : TC C n T i t) (hi : i < n) (hc : ¬ ordK (T i)) : ∃ B, fX9_takesItem_45 N C (T i) = some (b2i (oth n T (T i) (i + 1)).1, B) ∧ TC B n T (oth n T (T i) (i + 1)).2.1 (if (oth n T (T i) (i + 1)).1 = true then t + 1 else t) ∧ FQ (SI t) C B ∧ ((oth n T (T i) (i + 1)).1 = true → KM B t (T i, (oth n T (T i) (i + 1)).2.2.1, (oth n T (T i) (i + 1)).2.2.2, 0, 0)) := by
  obtain ⟨hn, hi', h1, h2, h3, h4⟩ := h
  have h : TC C n T i t := ⟨hn, hi', h1, h2, h3, h4⟩
  have m35 : ∀ {C D : AH}, FQ (fun a k => a = 349 ∧ k = 35) C D → FQ (SI t) C D := fun {C D} z => z.mono (fun a k q => by omega)
  have m36 : ∀ {C D : AH}, FQ (fun a k => a = 349 ∧ k = 36) C D → FQ (SI t) C D := fun {C D} z => z.mono (fun a k q => by omega)
  have mnum : ∀ {C D : AH} {x : Nat}, x < 4 → FQ (fun a j => (a = 349 ∧ j = 35) ∨ a = 370 ∧ j = 4 * t + x) C D → FQ (SI t) C D := fun {C D x} hx z => z.mono (fun a k q => by omega)
  have hT := h4 i hi
  unfold fX9_takesItem_45 oth
  simp only [bnd_eq]
  rw [gI_sI, if_neg (by omega), h2, h3, chk_pos _ (by omega), chk_pos _ (by omega), Int.toNat_natCast, Int.toNat_natCast, hT.1, chk_pos _ hT.2, wsuc (by omega)]
  obtain ⟨C1, hC1⟩ : ∃ C1, C1 = sI (sI C 369 t (T i)) 349 35 ((i + 1 : Nat) : Int) := ⟨_, rfl⟩
  have f1 : FQ (SI t) C C1 := by rw [hC1]; exact ((FQ.rf C).set (by omega)).set (by omega)
  have t1 : TC C1 n T (i + 1) t := h.s f1 (by rw [hC1, gI_me]) (by rw [hC1, gI_sI, if_neg (by omega), gI_sI, if_neg (by omega)]; exact h3) (by omega)
  have v9 : gI C1 369 t = T i := by rw [hC1, gI_sI, if_neg (by omega), gI_me]
  rw [← hC1]
  by_cases e1 : dig n T (i + 1)
  · obtain ⟨C2, b1, b2, b3, b4⟩ := X9_num_yes (x := 0) hN0 ht (by decide) t1 e1
    have b1' : fX9_takesNumber N C1 0 = some (1, C2) := b1
    rw [if_pos e1, b1', obind_some, if_neg (p1n0 C2)]
    dsimp only
    rw [Nat.add_zero] at b4
    by_cases e2 : T i = 100
    · rw [if_pos e2, if_pos e2]
      by_cases e3 : nmI n T (i + 1) < n ∧ T (nmI n T (i + 1)) = 43
      · obtain ⟨C3, c1, c2, c3⟩ := X9_yes (N := N) b2 e3
        rw [if_pos e3, c1, obind_some, if_neg (p1n0 C3)]
        dsimp only
        by_cases e4 : dig n T (nmI n T (i + 1) + 1)
        · obtain ⟨C4, d1, d2, d3, d4⟩ := X9_num_yes (x := 1) hN0 ht (by decide) c2 e4
          have d1' : fX9_takesNumber N C3 1 = some (1, C4) := d1
          obtain ⟨C5, g1, g2, g3⟩ := X9_it106 (N := N) ht d2
          rw [if_pos e4, d1', obind_some, if_neg (p1n0 C4)]
          dsimp only
          rw [g1]
          refine ⟨C5, rfl, g2, (((f1.tr (mnum (by decide) b3)).tr (m35 c3)).tr (mnum (by decide) d3)).tr (m36 g3), fun _ => ⟨?_, ?_, fun z => absurd z hc, fun _ => ?_⟩⟩
          · rw [g3.2.2 369 t (by omega), d3.2.2 369 t (by omega), c3.2.2 369 t (by omega), b3.2.2 369 t (by omega)]; exact v9
          · rw [g3.2.2 370 (4 * t) (by omega), d3.2.2 370 (4 * t) (by omega), c3.2.2 370 (4 * t) (by omega)]; exact b4
          · rw [g3.2.2 370 (4 * t + 1) (by omega)]; exact d4
        · rw [if_neg e4, X9_num_no c2 e4, obind_some, if_pos rfl]
          exact ⟨C3, rfl, c2, (f1.tr (mnum (by decide) b3)).tr (m35 c3), fun z => by cases z⟩
      · rw [if_neg e3, X9_no b2 (by decide) e3, obind_some, if_pos rfl]
        exact ⟨C2, rfl, b2, f1.tr (mnum (by decide) b3), fun z => by cases z⟩
    · obtain ⟨C5, g1, g2, g3⟩ := X9_it106 (N := N) ht b2
      rw [if_neg e2, if_neg e2, g1]
      refine ⟨C5, rfl, g2, (f1.tr (mnum (by decide) b3)).tr (m36 g3), fun _ => ⟨?_, ?_, fun z => absurd z hc, fun z => absurd z e2⟩⟩
      · rw [g3.2.2 369 t (by omega), b3.2.2 369 t (by omega)]; exact v9
      · rw [g3.2.2 370 (4 * t) (by omega)]; exact b4
  · rw [if_neg e1, X9_num_no t1 e1, obind_some, if_pos rfl]
    exact ⟨C1, rfl, t1, f1, fun z => by cases z⟩
theorem X9_item {N : Nat} {C : AH} {n i t : Nat} {T : Nat → Int} (hN0 : 100 ≤ N) (ht : t < 30) (h : TC C n T i t) : ∃ B, fX9_takesItem N C = some (b2i (item n T i).1, B) ∧ TC B n T (item n T i).2.1 (if (item n T i).1 = true then t + 1 else t) ∧ FQ (SI t) C B ∧ ((item n T i).1 = true → KM B t (item n T i).2.2) := by
  obtain ⟨hn, hi', h1, h2, h3, h4⟩ := h
  have h : TC C n T i t := ⟨hn, hi', h1, h2, h3, h4⟩
  unfold fX9_takesItem item
  rw [X9_sign h, obind_some, X9_isBetween, bt_in, obind_some]
  by_cases e1 : i < n ∧ 49 ≤ T i ∧ T i ≤ 52
  · rw [if_pos e1.1, decide_eq_true (show 49 ≤ T i ∧ T i ≤ 52 from e1.2), if_neg b2t', if_pos e1]
    unfold fX9_takesShip
    rw [X9_sign h, obind_some, if_pos e1.1, h3, show wrap (4 * (t : Int)) = ((4 * t : Nat) : Int) from by rw [wrap_eq (by omega) (by omega)]; omega, chk_pos _ (by omega), Int.toNat_natCast, show wrap (T i - 48) = T i - 48 from wrap_eq (by omega) (by omega)]
    simp only [bnd_eq]
    rw [show gI (sI C 370 (4 * t) (T i - 48)) 349 35 = i from by rw [gI_sI, if_neg (by omega), h2], wsuc (by omega)]
    obtain ⟨C1, hC1⟩ : ∃ C1, C1 = sI (sI C 370 (4 * t) (T i - 48)) 349 35 ((i + 1 : Nat) : Int) := ⟨_, rfl⟩
    have f1 : FQ (SI t) C C1 := by rw [hC1]; exact ((FQ.rf C).set (by omega)).set (by omega)
    have t1 : TC C1 n T (i + 1) t := h.s f1 (by rw [hC1, gI_me]) (by rw [hC1, gI_sI, if_neg (by omega), gI_sI, if_neg (by omega)]; exact h3) (by omega)
    have v0 : gI C1 370 (4 * t) = T i - 48 := by rw [hC1, gI_sI, if_neg (by omega), gI_me]
    rw [← hC1, X9_sign t1, obind_some, obind_some]
    by_cases e2 : i + 1 < n ∧ (T (i + 1) = 105 ∨ T (i + 1) = 111)
    · have e3 : (if (if i + 1 < n then T (i + 1) else -1) = 105 then fX9_takesShip_48 N C1 else if (if i + 1 < n then T (i + 1) else -1) = 111 then fX9_takesShip_48 N C1 else some (0, C1)) = fX9_takesShip_48 N C1 := by
        rw [if_pos e2.1]
        by_cases z : T (i + 1) = 105
        · rw [if_pos z]
        · rw [if_neg z, if_pos (by omega)]
      obtain ⟨B, b1, b2, b3, b4, b5⟩ := X9_ship48 (N := N) hN0 ht t1 e2.1
      rw [e3, if_pos e2, b1, obind_some]
      by_cases ok : (shp n T (i + 2)).1 = true
      · obtain ⟨B2, g1, g2, g3⟩ := X9_it106 (N := N) ht b2
        have ok' : (shp n T (i + 1 + 1)).1 = true := ok
        obtain ⟨k1, k2, k3, k4⟩ := b5 ok
        rw [ok', if_neg (b2t B)]
        dsimp only
        rw [g1, if_pos rfl]
        refine ⟨B2, rfl, g2, (f1.tr b3).tr (g3.mono (fun a k q => by omega)), fun _ => ⟨?_, ?_, fun _ => ⟨?_, ?_, ?_⟩, fun z => ?_⟩⟩
        · rw [g3.2.2 369 t (by omega)]; exact k1
        · rw [g3.2.2 370 (4 * t) (by omega), b4]; exact v0
        · rw [g3.2.2 370 (4 * t + 1) (by omega)]; exact k2
        · rw [g3.2.2 370 (4 * t + 2) (by omega)]; exact k3
        · rw [g3.2.2 370 (4 * t + 3) (by omega)]; exact k4
        · have z' : T (i + 1) = 100 := z
          omega
      · have ok2 : (shp n T (i + 2)).1 = false := Bool.not_eq_true _ |>.mp ok
        have ok' : (shp n T (i + 1 + 1)).1 = false := ok2
        rw [ok', if_pos (b2f B)]
        dsimp only
        rw [if_neg (by decide)]
        exact ⟨B, rfl, b2, f1.tr b3, fun z => by cases z⟩
    · have e3 : (if (if i + 1 < n then T (i + 1) else -1) = 105 then fX9_takesShip_48 N C1 else if (if i + 1 < n then T (i + 1) else -1) = 111 then fX9_takesShip_48 N C1 else some (0, C1)) = some (0, C1) := by
        by_cases w : i + 1 < n
        · rw [if_pos w, if_neg (fun z => e2 ⟨w, Or.inl z⟩), if_neg (fun z => e2 ⟨w, Or.inr z⟩)]
        · rw [if_neg w, if_neg (by decide), if_neg (by decide)]
      rw [e3, if_neg e2, obind_some, if_pos rfl]
      exact ⟨C1, rfl, t1, f1, fun z => by cases z⟩
  · have e0 : decide (49 ≤ (if i < n then T i else -1) ∧ (if i < n then T i else -1) ≤ 52) = false := by
      refine decide_eq_false (fun z => ?_)
      by_cases w : i < n
      · rw [if_pos w] at z
        exact e1 ⟨w, z⟩
      · rw [if_neg w] at z
        omega
    rw [e0, if_pos b2f', if_neg e1]
    by_cases e2 : i < n ∧ (T i = 115 ∨ T i = 100 ∨ T i = 119)
    · obtain ⟨B, b1, b2, b3, b4⟩ := X9_it45 (N := N) hN0 ht h e2.1 (by unfold ordK; omega)
      rw [if_pos e2.1, if_pos e2]
      have e3 : (if T i = 115 then fX9_takesItem_45 N C (T i) else if T i = 100 then fX9_takesItem_45 N C (T i) else if T i = 119 then fX9_takesItem_45 N C (T i) else some (0, C)) = fX9_takesItem_45 N C (T i) := by
        by_cases z1 : T i = 115
        · rw [if_pos z1]
        · rw [if_neg z1]
          by_cases z2 : T i = 100
          · rw [if_pos z2]
          · rw [if_neg z2, if_pos (by omega)]
      rw [e3]
      exact ⟨B, b1, b2, b3, b4⟩
    · rw [if_neg e2]
      have e3 : (if (if i < n then T i else -1) = 115 then fX9_takesItem_45 N C (if i < n then T i else -1) else if (if i < n then T i else -1) = 100 then fX9_takesItem_45 N C (if i < n then T i else -1) else if (if i < n then T i else -1) = 119 then fX9_takesItem_45 N C (if i < n then T i else -1) else some (0, C)) = some (0, C) := by
        by_cases w : i < n
        · rw [if_pos w, if_neg (fun z => e2 ⟨w, by omega⟩), if_neg (fun z => e2 ⟨w, by omega⟩), if_neg (fun z => e2 ⟨w, by omega⟩)]
        · rw [if_neg w, if_neg (by decide), if_neg (by decide), if_neg (by decide)]
      rw [e3]
      exact ⟨C, rfl, h, FQ.rf C, fun z => by cases z⟩
