/-! time passes in the reference -/
theorem ck6 {β : Type} {p : Nat} (h : p < 6) (K : Option β) : chk (0 ≤ (p : Int) ∧ (p : Int) < 6) K = K := chk_pos K ⟨by omega, by omega⟩
theorem X9_isOver {N : Nat} {A : AH} {o : Nat} (hG : GD (mvA A)) (ho : (o : Int) < mvA A 18 3) (h7 : mvA A 7 o = 1) : ∃ B, fX9_isOver N A o = some B ∧ mvA B = isOverM (mvA A) o ∧ FQ SR A B := by
  have h16 := hG.o16 ho
  obtain ⟨hp, -⟩ := trip_of hG ho (Or.inl h7)
  obtain ⟨p, ep⟩ : ∃ p : Nat, mvA A 8 o = (p : Int) := ⟨(mvA A 8 o).toNat, by omega⟩
  rw [ep] at hp
  have hp6 := hG.p6 hp.2
  have hp4 := (hG.2.2.2.1 p hp.2).1
  obtain ⟨C, hC⟩ : ∃ C, C = sI (sI A 357 o 2) 363 p (wrap (mvA A 13 p + 1)) := ⟨_, rfl⟩
  have vC : mvA C = overB (mvA A) o := by
    rw [hC, mvA_sIr _ (j := 13) rfl (by decide), mvA_sIr _ (j := 7) rfl (by decide)]
    unfold overB
    rw [ep, Int.toNat_natCast]
  have fC : FQ SR A C := by
    rw [hC]
    exact ((FQ.rf A).set (by unfold SR; omega)).set (by unfold SR; omega)
  have e2 : gI C 352 o = mvA A 2 o := by
    show mvA C 2 o = _
    rw [vC, overB_n (by omega)]
  have e11 : gI C 361 p = mvA A 11 p := by
    show mvA C 11 p = _
    rw [vC, overB_n (by omega)]
  have e12 : gI C 362 p = mvA A 12 p := by
    show mvA C 12 p = _
    rw [vC, overB_n (by omega)]
  have e0 : gI C 350 2 = mvA A 0 2 := by
    show mvA C 0 2 = _
    rw [vC, overB_n (by omega)]
  unfold fX9_isOver
  simp only [bnd_eq]
  rw [ck16 h16, ck16 h16, Int.toNat_natCast, show gI A 358 o = mvA A 8 o from rfl, ep, ck6 hp6, ck6 hp6, ck16 h16, ck6 hp6, Int.toNat_natCast, show gI (sI A 357 o 2) 363 p = mvA A 13 p from by rw [gI_sI, if_neg (by omega)]; rfl, ← hC, e2, e11]
  unfold isOverM
  rw [ep, Int.toNat_natCast]
  by_cases hs : mvA A 2 o = mvA A 11 p
  · rw [if_pos hs, if_pos hs, ck6 hp6, ck6 hp6, e12]
    obtain ⟨D, hD⟩ : ∃ D, D = sI C 362 p (wrap (mvA A 12 p + 1)) := ⟨_, rfl⟩
    have vD : mvA D = updM (overB (mvA A) o) 12 p (wrap (mvA A 12 p + 1)) := by
      rw [hD, mvA_sIr _ (j := 12) rfl (by decide), vC]
    have fD : FQ SR A D := by
      rw [hD]
      exact fC.set (by unfold SR; omega)
    have d11 : gI D 361 p = mvA A 11 p := by rw [hD, gI_sI, if_neg (by omega), e11]
    have d0 : gI D 350 2 = mvA A 0 2 := by rw [hD, gI_sI, if_neg (by omega), e0]
    have d12 : gI D 362 p = wrap (mvA A 12 p + 1) := by rw [hD, gI_sI, if_pos ⟨rfl, rfl⟩]
    rw [← hD, ck6 hp6, ck6 hp6, d11, d0, d12]
    unfold credM
    dsimp only
    rw [overB_n (j := 0) (by omega), overB_n (j := 12) (by omega), overB_n (j := 11) (by omega)]
    by_cases h4 : mvA A 11 p = 4
    · rw [if_pos h4, if_pos h4]
      refine ⟨D, rfl, ?_, fD⟩
      rw [vD]
      split <;> rfl
    · rw [if_neg h4, if_neg h4]
      by_cases hn : mvA A 0 2 ≤ wrap (mvA A 12 p + 1)
      · rw [if_pos hn, if_pos hn, ck6 hp6, ck6 hp6, ck6 hp6]
        refine ⟨_, rfl, ?_, (fD.set (by unfold SR; omega)).set (by unfold SR; omega)⟩
        rw [mvA_sIr _ (j := 12) rfl (by decide), mvA_sIr _ (j := 11) rfl (by decide), vD]
      · rw [if_neg hn, if_neg hn]
        exact ⟨D, rfl, vD, fD⟩
  · rw [if_neg hs, if_neg hs]
    exact ⟨C, rfl, vC, fC⟩
theorem X9_nextOver4 {N : Nat} {A : AH} (hG : GD (mvA A)) : ∀ {k n a : Nat} {c : Int}, (a : Int) + k = mvA A 18 3 → (c = -1 ∨ (0 ≤ c ∧ c < mvA A 18 3 ∧ mvA A 7 c.toNat = 1)) → k < n → fX9_nextOver_4 N A n c a = some (nextF (mvA A) k a c)
  | 0, n, a, c, h, hc, hn => by
    match n, hn with
    | n + 1, _ =>
      rw [fX9_nextOver_4, show gI A 349 22 = mvA A 18 3 from rfl, if_pos (ge_z h)]
      rfl
  | k + 1, n, a, c, h, hc, hn => by
    have ha := lt_sc h
    have h16 := hG.o16 ha
    have ea : Unit → wrap ((a : Int) + 1) = ((a + 1 : Nat) : Int) := fun _ => wrap_eq (by omega) (by omega)
    match n, hn with
    | n + 1, hn =>
      have hn2 : k < n := Nat.lt_of_succ_lt_succ hn
      have hk2 : ((a + 1 : Nat) : Int) + k = mvA A 18 3 := by rw [sc_cast]; exact h
      rw [fX9_nextOver_4, show gI A 349 22 = mvA A 18 3 from rfl, if_neg (Int.not_le.mpr ha), ck16 h16, show gI A 357 (a : Int).toNat = mvA A 7 a from rfl, nextF]
      by_cases h7 : mvA A 7 a = 1
      · have hca : (a : Int) = -1 ∨ (0 ≤ (a : Int) ∧ (a : Int) < mvA A 18 3 ∧ mvA A 7 (a : Int).toNat = 1) := Or.inr ⟨by omega, ha, by rw [Int.toNat_natCast]; exact h7⟩
        rw [if_pos h7, X9_end h16 (hG.2.2.1 a ha) (Or.inl h7), obind_some, show gI A 349 19 = mvA A 18 0 from rfl]
        by_cases hl : mvA A 18 0 < endM (mvA A) a
        · rw [if_pos hl, if_neg (by omega), bnd_eq, ea ()]
          exact X9_nextOver4 hG hk2 hc hn2
        · rw [if_neg hl]
          rcases hc with hc | ⟨k1, k2, k3⟩
          · rw [if_pos (show c < 0 by omega), if_pos ⟨h7, by omega, Or.inl (by omega)⟩, bnd_eq, ea ()]
            exact X9_nextOver4 hG hk2 hca hn2
          · have ec : c = (c.toNat : Int) := by omega
            rw [if_neg (by omega), obind_some]
            have eE : fX9_end N A c = some (endM (mvA A) c.toNat) := by
              rw [ec]
              exact X9_end (hG.o16 (by omega)) (hG.2.2.1 _ (by omega)) (Or.inl k3)
            rw [eE, obind_some]
            by_cases hl2 : endM (mvA A) c.toNat ≤ endM (mvA A) a
            · rw [if_pos hl2, if_neg (by omega), bnd_eq, ea ()]
              exact X9_nextOver4 hG hk2 (Or.inr ⟨k1, k2, k3⟩) hn2
            · rw [if_neg hl2, if_pos ⟨h7, by omega, Or.inr (by omega)⟩, bnd_eq, ea ()]
              exact X9_nextOver4 hG hk2 hca hn2
      · rw [if_neg h7, if_neg (fun z => h7 z.1), bnd_eq, ea ()]
        exact X9_nextOver4 hG hk2 hc hn2
theorem X9_nextOver {N : Nat} {A : AH} (hN : 100 ≤ N) (hG : GD (mvA A)) : fX9_nextOver N A = some (nextO (mvA A)) := by
  have c4 := hG.2.1.2.2.2.1
  exact X9_nextOver4 (c := -1) (a := 0) hG (nat0 c4.1) (Or.inl rfl) (by omega)
/-- how many are planned -/
def planC (M : MR) : Int := sumN (fun o => if M 7 o = 1 then 1 else 0) (M 18 3).toNat 0
theorem planC_over {M : MR} {o : Nat} (ho : (o : Int) < M 18 3) (h7 : M 7 o = 1) : planC (isOverM M o) = planC M - 1 := by
  unfold planC
  rw [isOverM_n (by omega)]
  have e : sumN (fun i => (if isOverM M o 7 i = 1 then 1 else 0) + (if i = o then 1 else 0)) (M 18 3).toNat 0 = sumN (fun i => if isOverM M o 7 i = 1 then 1 else 0) (M 18 3).toNat 0 + 1 := by
    rw [sumN_add, sumN_one (by omega) (by omega)]
  have e2 : sumN (fun i => (if isOverM M o 7 i = 1 then 1 else 0) + (if i = o then 1 else 0)) (M 18 3).toNat 0 = sumN (fun o => if M 7 o = 1 then 1 else 0) (M 18 3).toNat 0 := sumN_congr (fun i _ _ => by
    rw [isOverM_7]
    by_cases q : i = o
    · subst q
      rw [if_pos rfl, if_pos rfl, if_neg (by decide), if_pos h7]
      rfl
    · rw [if_neg q, if_neg q, Int.add_zero])
  omega
theorem planC_pos {M : MR} {o : Nat} (ho : (o : Int) < M 18 3) (h7 : M 7 o = 1) : 1 ≤ planC M := by
  have e := planC_over ho h7
  have h := sumN_nn (g := fun i => if isOverM M o 7 i = 1 then (1 : Int) else 0) (c := 1) (k := (isOverM M o 18 3).toNat) (a := 0) (fun i _ _ => by
    show 0 ≤ (if isOverM M o 7 i = 1 then (1 : Int) else 0) ∧ (if isOverM M o 7 i = 1 then (1 : Int) else 0) ≤ 1
    split <;> decide)
  unfold planC at *
  omega
theorem X9_passes15 {N : Nat} (hN : 100 ≤ N) : ∀ {k n : Nat} {A : AH}, GD (mvA A) → planC (mvA A) ≤ k → k < n → ∃ B, fX9_passes_15 N n A (nextO (mvA A)) = fX9_passes_36 N N B 0 0 ∧ mvA B = oversM k (mvA A) ∧ FQ SR A B
  | k, 0, A, hG, hk, hn => by omega
  | k, n + 1, A, hG, hk, hn => by
    rcases nextO_rng hG.2.1 with q | ⟨q1, q2, q3⟩
    · refine ⟨A, ?_, (oversM_stop (by omega) k).symm, FQ.rf A⟩
      rw [fX9_passes_15, if_pos (by omega)]
    · have eo : nextO (mvA A) = ((nextO (mvA A)).toNat : Int) := by omega
      have ho : ((nextO (mvA A)).toNat : Int) < mvA A 18 3 := by omega
      have hp1 := planC_pos ho q3
      have hp2 := planC_over ho q3
      obtain ⟨C, c1, c2, c3⟩ := X9_isOver (N := N) hG ho q3
      have hGC := hG.isOverM ho q3
      match k, hk, hn with
      | 0, hk, _ => omega
      | k + 1, hk, hn =>
        obtain ⟨B, b1, b2, b3⟩ := X9_passes15 hN (k := k) (n := n) (A := C) (by rw [c2]; exact hGC) (by rw [c2, hp2]; omega) (Nat.lt_of_succ_lt_succ hn)
        refine ⟨B, ?_, ?_, c3.tr b3⟩
        · rw [fX9_passes_15, if_neg (by omega)]
          rw [eo, c1, obind_some, X9_nextOver hN (by rw [c2]; exact hGC), obind_some]
          exact b1
        · rw [b2, c2, oversM, if_neg (by omega)]
theorem X9_passes36 {N : Nat} : ∀ {k n a : Nat} {A : AH} {c : Int}, GD (mvA A) → (a : Int) + k = mvA A 18 3 → (0 ≤ c ∧ c ≤ a) → k < n → ∃ B, fX9_passes_36 N n A c a = some ((misF k a (mvA A) c).2, B) ∧ mvA B = (misF k a (mvA A) c).1 ∧ FQ SR A B
  | 0, n, a, A, c, hG, h, hc, hn => by
    match n, hn with
    | n + 1, _ =>
      refine ⟨A, ?_, rfl, FQ.rf A⟩
      rw [fX9_passes_36, show gI A 349 22 = mvA A 18 3 from rfl, if_pos (ge_z h)]
      rfl
  | k + 1, n, a, A, c, hG, h, hc, hn => by
    have ha := lt_sc h
    have h16 := hG.o16 ha
    have ea : Unit → wrap ((a : Int) + 1) = ((a + 1 : Nat) : Int) := fun _ => wrap_eq (by omega) (by omega)
    have ec : Unit → wrap (c + 1) = c + 1 := fun _ => wrap_eq (by omega) (by omega)
    match n, hn with
    | n + 1, hn =>
      have hn2 : k < n := Nat.lt_of_succ_lt_succ hn
      have hk2 : ((a + 1 : Nat) : Int) + k = mvA A 18 3 := by rw [sc_cast]; exact h
      rw [fX9_passes_36, show gI A 349 22 = mvA A 18 3 from rfl, if_neg (Int.not_le.mpr ha), ck16 h16, ck16 h16, ck16 h16, Int.toNat_natCast, show gI A 357 a = mvA A 7 a from rfl, show gI A 356 a = mvA A 6 a from rfl, show gI A 349 19 = mvA A 18 0 from rfl, misF]
      by_cases h7 : mvA A 7 a = 0
      · rw [if_pos h7]
        by_cases h6 : mvA A 6 a < mvA A 18 0
        · have v := mvA_sIr A (a := 357) (j := 7) (i := a) (v := 3) rfl (by decide)
          have hG2 := GD_state (o := a) (v := 3) hG (by omega) (Or.inr rfl)
          obtain ⟨B, b1, b2, b3⟩ := X9_passes36 (N := N) (k := k) (n := n) (a := a + 1) (A := sI A 357 a 3) (c := c + 1) (by rw [v]; exact hG2) (by rw [v, updM_ne (by omega)]; exact hk2) (by omega) hn2
          rw [if_pos h6, if_pos ⟨h7, h6⟩]
          simp only [bnd_eq]
          rw [ea (), ec ()]
          rw [v] at b1 b2
          exact ⟨B, b1, b2, ((FQ.rf A).set (by unfold SR; omega)).tr b3⟩
        · obtain ⟨B, b1, b2, b3⟩ := X9_passes36 (N := N) (k := k) (n := n) (a := a + 1) (A := A) (c := c) hG hk2 (by omega) hn2
          rw [if_neg h6, if_neg (by omega), bnd_eq, ea ()]
          exact ⟨B, b1, b2, b3⟩
      · obtain ⟨B, b1, b2, b3⟩ := X9_passes36 (N := N) (k := k) (n := n) (a := a + 1) (A := A) (c := c) hG hk2 (by omega) hn2
        rw [if_neg h7, if_neg (fun z => h7 z.1), bnd_eq, ea ()]
        exact ⟨B, b1, b2, b3⟩
theorem X9_passes {N : Nat} {A : AH} {x : Int} (hN : 100 ≤ N) (hG : GD (mvA A)) (hx : 0 ≤ x ∧ mvA A 18 0 + x ≤ 999) : ∃ B, fX9_passes N A x = some ((advM (mvA A) x).2, B) ∧ mvA B = (advM (mvA A) x).1 ∧ FQ SR A B := by
  have c0 := hG.2.1.1
  have c4 := hG.2.1.2.2.2.1
  have hG1 := GD_now (v := mvA A 18 0 + x) hG (by omega)
  have v := mvA_sI9 A (k := 19) (i := 0) (v := mvA A 18 0 + x) rfl (by decide)
  have n3 : updM (mvA A) 18 0 (mvA A 18 0 + x) 18 3 = mvA A 18 3 := updM_ne (by omega)
  have hpl : planC (updM (mvA A) 18 0 (mvA A 18 0 + x)) ≤ ((mvA A 18 3).toNat : Int) := by
    have h := sumN_nn (g := fun o => if updM (mvA A) 18 0 (mvA A 18 0 + x) 7 o = 1 then (1 : Int) else 0) (c := 1) (k := (mvA A 18 3).toNat) (a := 0) (fun i _ _ => by
      show 0 ≤ (if updM (mvA A) 18 0 (mvA A 18 0 + x) 7 i = 1 then (1 : Int) else 0) ∧ (if updM (mvA A) 18 0 (mvA A 18 0 + x) 7 i = 1 then (1 : Int) else 0) ≤ 1
      split <;> decide)
    unfold planC
    rw [n3]
    omega
  obtain ⟨C, c1, c2, c3⟩ := X9_passes15 (N := N) hN (k := (mvA A 18 3).toNat) (n := N) (A := sI A 349 19 (mvA A 18 0 + x)) (by rw [v]; exact hG1) (by rw [v]; exact hpl) (by omega)
  have hG2 := GD.oversM (k := (mvA A 18 3).toNat) hG1
  rw [v] at c1 c2
  rw [n3, ← c2] at hG2
  obtain ⟨B, b1, b2, b3⟩ := X9_passes36 (N := N) (k := (mvA A 18 3).toNat) (n := N) (a := 0) (A := C) (c := 0) hG2.1 (by rw [hG2.2.1]; omega) (by omega) (by omega)
  refine ⟨B, ?_, ?_, (((FQ.rf A).set (by unfold SR; omega)).tr c3).tr b3⟩
  · unfold fX9_passes
    rw [bnd_eq, show gI A 349 19 = mvA A 18 0 from rfl, wrap_eq (by omega) (by omega), X9_nextOver hN (by rw [v]; exact hG1), obind_some, v]
    refine (c1.trans b1).trans ?_
    rw [c2]
    rfl
  · rw [b2, c2]
    rfl
