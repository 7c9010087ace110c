/-! reading: the loop -/
theorem misF_nn : ∀ {k a : Nat} {M : MR} {c : Int}, 0 ≤ c → 0 ≤ (misF k a M c).2
  | 0, _, _, _, h => h
  | k + 1, a, M, c, h => by
    rw [misF]
    split
    · exact misF_nn (by omega)
    · exact misF_nn h
theorem advM_nn (M : MR) (x : Int) : 0 ≤ (advM M x).2 := misF_nn (Int.le_refl 0)
theorem w4 {j : Nat} (hj : j < 30) : wrap (4 * (j : Int)) = ((4 * j : Nat) : Int) := by
  rw [wrap_eq (by omega) (by omega)]
  omega
theorem w4s {j : Nat} {s : Int} {r : Nat} (hj : j < 30) (hs : 0 ≤ s ∧ s < 4) (hr : r = s) : wrap (((4 * j : Nat) : Int) + s) = ((4 * j + r : Nat) : Int) := by
  rw [wrap_eq (by omega) (by omega)]
  omega
theorem c120 {β : Type} {x : Nat} (h : x < 120) (K : Option β) : chk (0 ≤ (x : Int) ∧ (x : Int) < 120) K = K := chk_pos K ⟨by omega, by omega⟩
theorem c30 {β : Type} {x : Nat} (h : x < 30) (K : Option β) : chk (0 ≤ (x : Int) ∧ (x : Int) < 30) K = K := chk_pos K ⟨by omega, by omega⟩
theorem does_eq {N : Nat} {C : AH} {j : Nat} (hj : j < 30) : fX9_does N C j = (if gI C 369 j = 115 then obind (fX9_serve N C (gI C 370 (4 * j))) (fun p23 => fX9_does_112 N p23.2 (gI C 369 j) p23.1) else if gI C 369 j = 100 then obind (fX9_putOff N C (gI C 370 (4 * j)) (gI C 370 (4 * j + 1))) (fun p19 => fX9_does_112 N p19.2 (gI C 369 j) p19.1) else if gI C 369 j = 119 then obind (fX9_pass N C (gI C 370 (4 * j))) (fun p15 => fX9_does_112 N p15.2 (gI C 369 j) p15.1) else if gI C 369 j = 111 then fX9_does_88 N C j (gI C 370 (4 * j + 1)) (gI C 369 j) (gI C 370 (4 * j)) 1 else fX9_does_88 N C j (gI C 370 (4 * j + 1)) (gI C 369 j) (gI C 370 (4 * j)) 0) := by
  have e1 : wrap (((4 * j : Nat) : Int) + 1) = ((4 * j + 1 : Nat) : Int) := w4s (r := 1) hj (by decide) rfl
  have l0 : 4 * j < 120 := by omega
  have l1 : 4 * j + 1 < 120 := by omega
  unfold fX9_does
  rw [w4 hj, e1, c120 l0, bnd_eq, c120 l1, bnd_eq, c30 hj, bnd_eq, Int.toNat_natCast, Int.toNat_natCast, Int.toNat_natCast]
theorem does88 {N : Nat} {C : AH} {j : Nat} {a b k s : Int} (hj : j < 30) (hs : s = 0 ∨ s = 1) : fX9_does_88 N C j b k a s = obind (fX9_order N C a s b (gI C 370 (4 * j + 2)) (gI C 370 (4 * j + 3))) (fun p7 => fX9_does_112 N p7.2 k p7.1) := by
  have e2 : wrap (((4 * j : Nat) : Int) + 2) = ((4 * j + 2 : Nat) : Int) := w4s (r := 2) hj (by decide) rfl
  have e3 : wrap (((4 * j : Nat) : Int) + 3) = ((4 * j + 3 : Nat) : Int) := w4s (r := 3) hj (by decide) rfl
  have l2 : 4 * j + 2 < 120 := by omega
  have l3 : 4 * j + 3 < 120 := by omega
  unfold fX9_does_88
  rw [w4 hj, e2, e3, c120 l2, c120 l3, chk_pos _ hs, Int.toNat_natCast, Int.toNat_natCast]
theorem did_item {N : Nat} {A C : AH} {j : Nat} {k a b c d : Int} (hN0 : 25000 ≤ N) (hA : 376 ≤ hN A) (hG : GD (mvA C)) (hP : RP A 2 (mvA C)) (hq : CQ C) (h45 : gI C 349 45 = 1) (hj : j < 30) (kc : KC A (k, a, b, c, d)) (km : KM C j (k, a, b, c, d)) (hk : k = 115 ∨ k = 100 ∨ k = 119 ∨ ordK k) : DID (doC N A) (fX9_does N C j) A C := by
  obtain ⟨c1, c2, c3, c4⟩ := kc
  obtain ⟨m1, m2, m3, m4⟩ := km
  dsimp only at c1 c2 c3 c4 m1 m2 m3 m4
  rw [does_eq hj, m1, m2]
  unfold doC
  rw [c1]
  rcases hk with z | z | z | z
  · subst z
    rw [if_neg (show ¬ (115 : Int) = 100 by decide), if_pos rfl, if_pos rfl, c3 (by decide)]
    exact did_serve hN0 hA hG hP hq h45
  · subst z
    rw [if_pos rfl, if_neg (show ¬ (100 : Int) = 115 by decide), if_pos rfl, c3 (by decide), c4 rfl, m4 rfl]
    exact did_putOff hN0 hG hP hq h45
  · subst z
    rw [if_neg (show ¬ (119 : Int) = 100 by decide), if_neg (show ¬ (119 : Int) = 115 by decide), if_pos rfl, if_neg (show ¬ (119 : Int) = 115 by decide), if_neg (show ¬ (119 : Int) = 100 by decide), if_pos rfl, c3 (by decide)]
    exact did_pass hN0 hG hP hq h45 (fun _ => advM_nn _ _)
  · obtain ⟨g4, g5, g6, g7⟩ := c2 z
    obtain ⟨n1, n2, n3⟩ := m3 z
    rw [n1]
    rcases z with z | z
    · subst z
      rw [if_neg (show ¬ (105 : Int) = 100 by decide), if_neg (show ¬ (105 : Int) = 115 by decide), if_neg (show ¬ (105 : Int) = 119 by decide), if_neg (show ¬ (105 : Int) = 111 by decide), if_neg (show ¬ (105 : Int) = 115 by decide), if_neg (show ¬ (105 : Int) = 100 by decide), if_neg (show ¬ (105 : Int) = 119 by decide), if_neg (show ¬ (105 : Int) = 111 by decide), does88 hj (Or.inl rfl), n2, n3]
      exact did_order hN0 hG hP hq h45 (Or.inl rfl) (Or.inl rfl) g4 g5 g6 g7
    · subst z
      rw [if_neg (show ¬ (111 : Int) = 100 by decide), if_neg (show ¬ (111 : Int) = 115 by decide), if_neg (show ¬ (111 : Int) = 119 by decide), if_pos rfl, if_neg (show ¬ (111 : Int) = 115 by decide), if_neg (show ¬ (111 : Int) = 100 by decide), if_neg (show ¬ (111 : Int) = 119 by decide), if_pos rfl, does88 hj (Or.inr rfl), n2, n3]
      exact did_order hN0 hG hP hq h45 (Or.inr rfl) (Or.inr rfl) g4 g5 g6 g7
theorem item_kind {n i : Nat} {T : Nat → Int} (h : (item n T i).1 = true) : (item n T i).2.2.1 = 115 ∨ (item n T i).2.2.1 = 100 ∨ (item n T i).2.2.1 = 119 ∨ ordK (item n T i).2.2.1 := by
  unfold item at h ⊢
  by_cases e1 : i < n ∧ 49 ≤ T i ∧ T i ≤ 52
  · rw [if_pos e1] at h ⊢
    by_cases e2 : i + 1 < n ∧ (T (i + 1) = 105 ∨ T (i + 1) = 111)
    · rw [if_pos e2]
      exact Or.inr (Or.inr (Or.inr e2.2))
    · rw [if_neg e2] at h
      cases h
  · rw [if_neg e1] at h ⊢
    by_cases e2 : i < n ∧ (T i = 115 ∨ T i = 100 ∨ T i = 119)
    · rw [if_pos e2]
      show T i = 115 ∨ T i = 100 ∨ T i = 119 ∨ ordK (T i)
      omega
    · rw [if_neg e2] at h
      cases h
theorem TA.fx {A B : AH} {n i m : Nat} {T : Nat → Int} {S : Nat → Prop} (h : TA A n T i) (hf : FX m S A B) (hs : ¬ S 345 ∧ ¬ S 346) : TA B n T i := by
  obtain ⟨h1, h2, h3, h4, h5⟩ := h
  have e1 := hf.2.2.2 345 (by omega) hs.1
  have e2 := hf.2.2.2 346 (by omega) hs.2
  exact ⟨h1, h2, by rw [(e1 1).1]; exact h3, by rw [(e1 2).1]; exact h4, fun k hk => by rw [(e2 k).1]; exact h5 k hk⟩
theorem X6_next {N : Nat} {A : AH} {n p q : Nat} {T : Nat → Int} (hN0 : 100 ≤ N) (h : TA A n T p) (ok : (item n T q).1 = true) (hq : p = q ∨ (p < n ∧ T p = 59 ∧ q = p + 1)) : ∃ B, fX6_nextItem N A = some B ∧ TA B n T (item n T q).2.1 ∧ FQ (fun a k => a = 345 ∧ 2 ≤ k) A B ∧ KC B (item n T q).2.2 := by
  unfold fX6_nextItem
  rcases hq with z | ⟨z1, z2, z3⟩
  · subst z
    have hh := item_head ok
    obtain ⟨B, b1, b2, b3, b4⟩ := X6_item (N := N) hN0 h
    rw [X6_no h (by decide) (fun w => hh.2 w.2), obind_some]
    dsimp only
    rw [b1, obind_some]
    exact ⟨B, rfl, b2, b3, (b4 ok).2⟩
  · subst z3
    obtain ⟨B1, c1, c2, c3⟩ := X6_yes (N := N) h ⟨z1, z2⟩
    obtain ⟨B, b1, b2, b3, b4⟩ := X6_item (N := N) hN0 c2
    rw [c1, obind_some]
    dsimp only
    rw [b1, obind_some]
    exact ⟨B, rfl, b2, (c3.mono (fun a k q => by omega)).tr b3, (b4 ok).2⟩
theorem read66_step {N m n1 j : Nat} {A B A' : AH} {x3 w : Int} (hj : j < m) (hm : m ≤ 30) (h1 : fX6_nextItem N A = some B) (h2 : doC N B = some (w, A')) : fX8_read_66 N m (n1 + 1) A 0 x3 j = fX8_read_66 N m n1 A' w j ((j + 1 : Nat) : Int) := by
  unfold doC at h2
  rw [fX8_read_66, if_neg (by omega), if_pos rfl, h1, obind_some]
  by_cases z1 : gI B 345 3 = 100
  · rw [if_pos z1] at h2 ⊢
    rw [h2, obind_some, bnd_eq, wsuc (by omega)]
  · rw [if_neg z1] at h2 ⊢
    by_cases z2 : gI B 345 3 = 115
    · rw [if_pos z2] at h2 ⊢
      rw [h2, obind_some, bnd_eq, wsuc (by omega)]
    · rw [if_neg z2] at h2 ⊢
      by_cases z3 : gI B 345 3 = 119
      · rw [if_pos z3] at h2 ⊢
        rw [h2, obind_some, bnd_eq, wsuc (by omega)]
      · rw [if_neg z3] at h2 ⊢
        by_cases z4 : gI B 345 3 = 111
        · rw [if_pos z4] at h2 ⊢
          rw [h2, obind_some, bnd_eq, wsuc (by omega)]
        · rw [if_neg z4] at h2 ⊢
          rw [h2, obind_some, bnd_eq, wsuc (by omega)]
theorem read66_end {N m n1 j : Nat} {A : AH} {x3 w : Int} (h : m ≤ j ∨ w ≠ 0) : fX8_read_66 N m (n1 + 1) A w x3 j = fX8_read_208 N A m w x3 := by
  rw [fX8_read_66]
  by_cases z : (m : Int) ≤ j
  · rw [if_pos z]
  · rw [if_neg z, if_neg (by omega)]
theorem read47_end {N m n1 j : Nat} {C : AH} {w : Int} (hm : gI C 349 36 = m) (h : m ≤ j ∨ w ≠ 0) : fX9_read_47 N (n1 + 1) C w j = fX9_read_71 N C w j := by
  rw [fX9_read_47, hm]
  by_cases z : (m : Int) ≤ j
  · rw [if_pos z]
  · rw [if_neg z, if_neg (by omega)]
abbrev SL (a : Nat) : Prop := X2 a ∨ a = 345
theorem read_loop {N n m : Nat} {T : Nat → Int} {ps : Nat → Nat} (hN0 : 25000 ≤ N) (hm : m ≤ 30) (h0 : ps 0 = 0) (hip : IP n T m ps 0) : ∀ {k n1 n2 j p : Nat} {A C : AH} {x3 : Int}, j + k = m → k + 1 < n1 → k + 1 < n2 → 376 ≤ hN A → GD (mvA C) → RP A 2 (mvA C) → CQ C → gI C 349 45 = 1 → gI C 349 36 = m → (∀ i, i < m → KM C i (item n T (ps i)).2.2) → TA A n T p → (j < m → p = ps j ∨ (p < n ∧ T p = 59 ∧ ps j = p + 1)) →
    ∃ A' C', FX (7 * k) SL A A' ∧ FQ SD C C' ∧ ((∃ y, fX8_read_66 N m n1 A 0 x3 j = fX8_read_208 N A' m 0 y ∧ fX9_read_47 N n2 C 0 j = fX9_read_71 N C' 0 m ∧ RP A' 2 (mvA C') ∧ GD (mvA C') ∧ FQ SRT C C') ∨ ∃ (w : Int) (i : Nat), 0 < w ∧ i < 30 ∧ fX8_read_66 N m n1 A 0 x3 j = fX8_read_208 N A' m w i ∧ fX9_read_47 N n2 C 0 j = fX9_read_71 N C' w ((i + 1 : Nat) : Int)) := by
  intro k
  induction k with
  | zero =>
    intro n1 n2 j p A C x3 hj hn1 hn2 hA hG hP hq h45 h36 hkm hT hp
    match n1, hn1, n2, hn2 with
    | n1 + 1, _, n2 + 1, _ =>
      have e : j = m := by omega
      subst e
      exact ⟨A, C, (FX.rf A).mono (by omega) (fun _ _ z => z), FQ.rf C, Or.inl ⟨x3, read66_end (Or.inl (Nat.le_refl j)), read47_end h36 (Or.inl (Nat.le_refl j)), hP, hG, FQ.rf C⟩⟩
  | succ k ih =>
    intro n1 n2 j p A C x3 hj hn1 hn2 hA hG hP hq h45 h36 hkm hT hp
    match n1, hn1, n2, hn2 with
    | n1 + 1, hn1, n2 + 1, hn2 =>
      have hjm : j < m := by omega
      obtain ⟨ok, hnx⟩ := hip j (Nat.zero_le j) hjm
      obtain ⟨B, b1, b2, b3, b4⟩ := X6_next (N := N) (by omega) hT ok (hp hjm)
      have xB1 : FX 0 (fun a => a = 345) A B := b3.fx (fun a k z => ⟨by omega, z.1⟩)
      have xB : FX 0 SL A B := xB1.mono (Nat.le_refl 0) (fun a _ z => Or.inr z)
      obtain ⟨kk, aa, bb, cc, dd, er⟩ : ∃ kk aa bb cc dd, (item n T (ps j)).2.2 = (kk, aa, bb, cc, dd) := ⟨_, _, _, _, _, rfl⟩
      have hkd := item_kind ok
      have hkj := hkm j hjm
      rw [er] at b4 hkd hkj
      obtain ⟨w, A1, C1, r1, r2, r3, r4, r5, r6⟩ := did_item (N := N) (A := B) (C := C) (j := j) hN0 (Nat.le_trans hA xB.1.1) hG (hP.fx hG xB1 (fun a q1 q2 => ⟨by omega, by omega⟩)) hq h45 (by omega) b4 hkj hkd
      have e36 : gI C1 349 36 = m := by rw [r5.2.2 349 36 (by unfold SD SRT; omega)]; exact h36
      have e45 : gI C1 349 45 = 1 := by rw [r5.2.2 349 45 (by unfold SD SRT; omega)]; exact h45
      have x1 : FX 7 SL A A1 := (xB.tr (r4.mono (d := 7) (S' := SL) (Nat.le_refl 7) (fun a _ z => Or.inl z))).mono (by omega) (fun _ _ z => z)
      have st8 := read66_step (N := N) (n1 := n1) (x3 := x3) hjm hm b1 r1
      have st9 : fX9_read_47 N (n2 + 1) C 0 j = fX9_read_47 N n2 C1 w ((j + 1 : Nat) : Int) := by
        rw [fX9_read_47, h36, if_neg (by omega), if_pos rfl, r2, obind_some, bnd_eq, wsuc (by omega)]
      rw [st8, st9]
      by_cases hw : w = 0
      · subst hw
        obtain ⟨g1, g2, g3⟩ := r6 rfl
        obtain ⟨A', C', s1, s2, s3⟩ := ih (n1 := n1) (n2 := n2) (j := j + 1) (p := (item n T (ps j)).2.1) (A := A1) (C := C1) (x3 := j) (by omega) (by omega) (by omega) (Nat.le_trans hA x1.1.1) g2 g1 (hq.fq r5 (fun a k z => by unfold SD SRT at z; omega)) e45 e36 (fun i hi => (hkm i hi).fq (r5.mono (fun a k z => by unfold SD SRT at z; omega))) (b2.fx r4 ⟨by unfold X2; omega, by unfold X2; omega⟩) (fun h => Or.inr (hnx h))
        refine ⟨A', C', (x1.tr s1).mono (by omega) (fun _ _ z => z), r5.tr s2, ?_⟩
        rcases s3 with ⟨y, t1, t2, t3, t4, t5⟩ | ⟨w', i, t1, t2, t3, t4⟩
        · exact Or.inl ⟨y, t1, t2, t3, t4, g3.tr t5⟩
        · exact Or.inr ⟨w', i, t1, t2, t3, t4⟩
      · obtain ⟨n1, rfl⟩ : ∃ x, n1 = x + 1 := ⟨n1 - 1, by omega⟩
        obtain ⟨n2, rfl⟩ : ∃ x, n2 = x + 1 := ⟨n2 - 1, by omega⟩
        exact ⟨A1, C1, x1.mono (by omega) (fun _ _ z => z), r5, Or.inr ⟨w, j, by omega, by omega, read66_end (Or.inr hw), read47_end e36 (Or.inr hw)⟩⟩
theorem X9_read120 {N : Nat} {c : Nat} (hc : c < 8) : ∀ {k n x : Nat} {A : AH}, x + k = 2896 → k < n → gI A 349 41 = c → ∃ B, fX9_read_120 N n A x = some (gI A 349 36, B) ∧ FQ (fun a j => (a = 371 ∧ 2896 * c ≤ j) ∨ a = 349 ∧ j = 41) A B ∧ gI B 349 41 = ((c + 1 : Nat) : Int) ∧ (∀ i, i < x → gI B 371 (2896 * c + i) = gI A 371 (2896 * c + i)) ∧ ∀ i, x ≤ i → i < 2896 → gI B 371 (2896 * c + i) = gI A 373 i
  | 0, n, x, A, h, hn, h41 => by
    match n, hn with
    | n + 1, _ =>
      refine ⟨sI A 349 41 ((c + 1 : Nat) : Int), ?_, (FQ.rf A).set (by omega), by rw [gI_me], fun i hi => by rw [gI_sI, if_neg (by omega)], fun i h1 h2 => by omega⟩
      rw [fX9_read_120, if_pos (by omega)]
      simp only [bnd_eq]
      rw [h41, wsuc (by omega), gI_sI, if_neg (by omega)]
  | k + 1, n, x, A, h, hn, h41 => by
    have ea : Unit → wrap ((x : Int) + 1) = ((x + 1 : Nat) : Int) := fun _ => wrap_eq (by omega) (by omega)
    have ec : Unit → wrap (2896 * (c : Int)) = ((2896 * c : Nat) : Int) := fun _ => by rw [wrap_eq (by omega) (by omega)]; omega
    have ed : Unit → wrap (((2896 * c : Nat) : Int) + (x : Int)) = ((2896 * c + x : Nat) : Int) := fun _ => by rw [wrap_eq (by omega) (by omega)]; omega
    match n, hn with
    | n + 1, hn =>
      obtain ⟨D, hD⟩ : ∃ D, D = sI A 371 (2896 * c + x) (gI A 373 x) := ⟨_, rfl⟩
      obtain ⟨B, b1, b2, b3, b4, b5⟩ := X9_read120 (N := N) hc (k := k) (n := n) (x := x + 1) (A := D) (by omega) (Nat.lt_of_succ_lt_succ hn) (by rw [hD, gI_sI, if_neg (by omega)]; exact h41)
      have e36 : gI D 349 36 = gI A 349 36 := by rw [hD, gI_sI, if_neg (by omega)]
      have fD : FQ (fun a j => (a = 371 ∧ 2896 * c ≤ j) ∨ a = 349 ∧ j = 41) A D := by
        rw [hD]
        exact (FQ.rf A).set (by omega)
      refine ⟨B, ?_, fD.tr b2, b3, fun i hi => ?_, fun i h1 h2 => ?_⟩
      · rw [fX9_read_120, if_neg (by omega), h41, ec (), ed (), chk_pos _ (by omega), chk_pos _ (by omega)]
        simp only [bnd_eq]
        rw [ea (), Int.toNat_natCast, Int.toNat_natCast, ← hD, ← e36]
        exact b1
      · rw [b4 i (by omega), hD, gI_sI, if_neg (by omega)]
      · by_cases e : i = x
        · subst e
          rw [b4 i (by omega), hD, gI_me]
        · rw [b5 i (by omega) h2, hD, gI_sI, if_neg (by omega)]
theorem HR.add2 {A A' C C' : AH} {M : MR} {m f c : Nat} {S : Nat → Prop} (h : HR A C) (hG : GD M) (a3 : gI A 64 1 = f) (a4 : gI A 64 2 = c) (a5 : gI A' 64 1 = ((if f = 8 then 0 else f + 1 : Nat) : Int)) (a6 : gI A' 64 2 = ((min 8 (c + 1) : Nat) : Int)) (a7 : RP A' (slot f) M) (a8 : FX m S A A') (hS : ∀ a, 66 ≤ a → a ≤ 344 → ¬ (slot f ≤ a ∧ a ≤ slot f + 30) → ¬ S a) (m3 : gI C' 349 41 = ((min 8 (c + 1) : Nat) : Int)) (m4 : c < 8 → (∀ j, j < 2896 * c → gI C' 371 j = gI C 371 j) ∧ ROW C' 371 (2896 * c) M) (m5 : c = 8 → (∀ j, j < 20272 → gI C' 371 j = gI C 371 (j + 2896)) ∧ ROW C' 371 20272 M) : HR A' C' := by
  obtain ⟨n, f', h1, h2, h3, h4, h5, h6⟩ := h
  have ef : f' = f := by omega
  have ec : c = n := by omega
  subst ef ec
  have old : ∀ g, g < 9 → g ≠ f' → ∀ M, GD M → RP A (slot g) M → RP A' (slot g) M := fun g hg hne M hM hP => hP.fx hM a8 (fun a q1 q2 => by
    have := slot_rng hg
    refine ⟨by omega, hS a (by omega) (by omega) ?_⟩
    unfold slot at q1 q2
    unfold slot
    omega)
  refine ⟨min 8 (c + 1), (if f' = 8 then 0 else f' + 1), by omega, by split <;> omega, m3, a6, a5, fun i hi => ?_⟩
  by_cases h8 : c = 8
  · obtain ⟨k1, k2⟩ := m5 h8
    subst h8
    by_cases e : i = 7
    · subst e
      refine ⟨M, hG, k2, ?_⟩
      have : ((if f' = 8 then 0 else f' + 1) + 9 - min 8 (8 + 1) + 7) % 9 = f' := by split <;> omega
      rw [this]
      exact a7
    · obtain ⟨M', q1, q2, q3⟩ := h6 (i + 1) (by omega)
      have hg : ((if f' = 8 then 0 else f' + 1) + 9 - min 8 (8 + 1) + i) % 9 = (f' + 9 - 8 + (i + 1)) % 9 := by split <;> omega
      rw [hg]
      refine ⟨M', q1, fun j hj t ht => ?_, old _ (Nat.mod_lt _ (by decide)) (by omega) M' q1 q3⟩
      have := of_tot j hj
      rw [k1 _ (by omega), show 2896 * i + ofM j + t + 2896 = 2896 * (i + 1) + ofM j + t by omega]
      exact q2 j hj t ht
  · obtain ⟨k1, k2⟩ := m4 (by omega)
    by_cases e : i = c
    · subst e
      refine ⟨M, hG, k2, ?_⟩
      have : ((if f' = 8 then 0 else f' + 1) + 9 - min 8 (i + 1) + i) % 9 = f' := by split <;> omega
      rw [this]
      exact a7
    · obtain ⟨M', q1, q2, q3⟩ := h6 i (by omega)
      have hg : ((if f' = 8 then 0 else f' + 1) + 9 - min 8 (c + 1) + i) % 9 = (f' + 9 - c + i) % 9 := by split <;> omega
      rw [hg]
      refine ⟨M', q1, q2.same (fun k h1 h2 => k1 k ?_), old _ (Nat.mod_lt _ (by decide)) (by omega) M' q1 q3⟩
      have : i + 1 ≤ c := by omega
      have := Nat.mul_le_mul_left 2896 this
      omega
/-- the next slot is written, nothing is kept -/
theorem HR.free {A A' C : AH} {m f : Nat} {S : Nat → Prop} (h : HR A C) (a3 : gI A 64 1 = f) (a8 : FX m S A A') (hS : ∀ a, 66 ≤ a → a ≤ 344 → ¬ (slot f ≤ a ∧ a ≤ slot f + 30) → ¬ S a) (e64 : ∀ k, gI A' 64 k = gI A 64 k) : HR A' C := by
  obtain ⟨n, f', h1, h2, h3, h4, h5, h6⟩ := h
  have ef : f' = f := by omega
  subst ef
  refine ⟨n, f', h1, h2, h3, by rw [e64]; exact h4, by rw [e64]; exact h5, fun i hi => ?_⟩
  obtain ⟨M, q1, q2, q3⟩ := h6 i hi
  refine ⟨M, q1, q2, q3.fx q1 a8 (fun a z1 z2 => ?_)⟩
  have hg : (f' + 9 - n + i) % 9 < 9 := Nat.mod_lt _ (by decide)
  have := slot_rng hg
  refine ⟨by omega, hS a (by omega) (by omega) ?_⟩
  unfold slot at z1 z2
  unfold slot
  omega
