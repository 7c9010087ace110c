/-! pilots, boats, orders are made -/
def mkP (M : MR) (v : Int) : MR := updM (updM (updM (updM M 11 (M 18 1).toNat v) 12 (M 18 1).toNat 0) 13 (M 18 1).toNat 0) 18 1 (M 18 1 + 1)
def mkB (M : MR) (v : Int) : MR := updM (updM (updM (updM M 14 (M 18 2).toNat v) 15 (M 18 2).toNat 0) 16 (M 18 2).toNat 0) 18 2 (M 18 2 + 1)
def mkO (M : MR) (s d t e l : Int) : MR := updM (updM (updM (updM (updM (updM (updM (updM M 2 (M 18 3).toNat s) 3 (M 18 3).toNat d) 4 (M 18 3).toNat t) 5 (M 18 3).toNat e) 6 (M 18 3).toNat l) 7 (M 18 3).toNat 0) 10 (M 18 3).toNat 0) 18 3 (M 18 3 + 1)
theorem mkP_n {M : MR} {v : Int} {j i : Nat} (h : (j < 11 ∨ 13 < j ∨ i ≠ (M 18 1).toNat) ∧ ¬ (j = 18 ∧ i = 1)) : mkP M v j i = M j i := by
  unfold mkP
  rw [updM_ne (by omega), updM_ne (by omega), updM_ne (by omega), updM_ne (by omega)]
theorem mkB_n {M : MR} {v : Int} {j i : Nat} (h : (j < 14 ∨ 16 < j ∨ i ≠ (M 18 2).toNat) ∧ ¬ (j = 18 ∧ i = 2)) : mkB M v j i = M j i := by
  unfold mkB
  rw [updM_ne (by omega), updM_ne (by omega), updM_ne (by omega), updM_ne (by omega)]
theorem mkO_n {M : MR} {s d t e l : Int} {j i : Nat} (h : (j < 2 ∨ 10 < j ∨ i ≠ (M 18 3).toNat) ∧ ¬ (j = 18 ∧ i = 3)) : mkO M s d t e l j i = M j i := by
  unfold mkO
  rw [updM_ne (by omega), updM_ne (by omega), updM_ne (by omega), updM_ne (by omega), updM_ne (by omega), updM_ne (by omega), updM_ne (by omega), updM_ne (by omega)]
theorem selF_nil {f : Nat → Bool} : ∀ {n a : Nat}, (∀ i, a ≤ i → i < a + n → f i = false) → selF f n a = []
  | 0, a, h => rfl
  | n + 1, a, h => by
    rw [selF, h a (by omega) (by omega), selF_nil (fun i h1 h2 => h i (by omega) (by omega))]
    rfl
theorem GD.newP {M : MR} (hG : GD M) (h5 : M 18 1 < 6) : itemsL M ((M 18 1).toNat : Nat) = [] := by
  have c1 := hG.2.1.2.1
  have c4 := hG.2.1.2.2.2
  unfold itemsL tripsL ridesL
  rw [selF_nil (f := fun o => tofM M o ((M 18 1).toNat : Nat)) (fun o _ ho => ?_), selF_nil (f := fun k => hasR (M 17 k) ((M 18 1).toNat : Nat)) (fun k _ hk => ?_)]
  · rfl
  · obtain ⟨h, len, set, to, b, e, q1, q2, q3, q4, q5⟩ := hG.2.2.2.2.2.2 k (by omega)
    rw [e, hasR_pk (by omega) (by omega) q3.1 q4 (hG.b3 q5) (by omega), bitF_nat (by omega) (by omega), Nat.div_eq_of_lt q3.2]
    rfl
  · unfold tofM
    by_cases ht : tripM M o
    · have := (hG.2.2.1 o (by omega)).2.2.2.2.2.2 ht
      rw [decide_eq_false (show ¬ M 8 o = (((M 18 1).toNat : Nat) : Int) by omega), Bool.and_false]
    · rw [decide_eq_false ht, Bool.false_and]
theorem PL.nil {M : MR} {p : Int} (h : itemsL M p = []) : PL M p [] := ⟨by rw [h], List.Pairwise.nil, fun x hx => by cases hx⟩
theorem GD.mkP {M : MR} {v : Int} (hG : GD M) (h5 : M 18 1 < 6) (hv : 1 ≤ v ∧ v ≤ 4) : GD (mkP M v) := by
  obtain ⟨g1, g2, g3, g4, g5, g6, g7⟩ := hG
  have c1 := g2.2.1
  have e1 : Jvm.Pilot.@@N@@.mkP M v 18 1 = M 18 1 + 1 := by
    unfold Jvm.Pilot.@@N@@.mkP
    rw [updM_self]
  refine ⟨g1.same (fun k => mkP_n (by omega)) (fun k => mkP_n (by omega)), ?_, fun i hi => ?_, fun i hi => ?_, fun i hi => ?_, ?_, fun i hi => ?_⟩
  · unfold MC at *
    rw [e1, mkP_n (by omega), mkP_n (by omega), mkP_n (by omega), mkP_n (by omega)]
    exact ⟨g2.1, by omega, g2.2.2⟩
  · rw [mkP_n (by omega)] at hi
    have h := g3 i hi
    unfold MO tripM at *
    rw [mkP_n (j := 2) (by omega), mkP_n (j := 3) (by omega), mkP_n (j := 4) (by omega), mkP_n (j := 5) (by omega), mkP_n (j := 6) (by omega), mkP_n (j := 7) (by omega), mkP_n (j := 8) (by omega), mkP_n (j := 9) (by omega), mkP_n (j := 10) (by omega), e1]
    exact ⟨h.1, h.2.1, h.2.2.1, h.2.2.2.1, h.2.2.2.2.1, h.2.2.2.2.2.1, fun z => by
      have := h.2.2.2.2.2.2 z
      omega⟩
  · rw [e1] at hi
    rw [doneM_congr (M := M) (mkP_n (by omega)) (fun o _ => by rw [mkP_n (by omega), mkP_n (by omega)])]
    by_cases e : i = (M 18 1).toNat
    · subst e
      have e11 : Jvm.Pilot.@@N@@.mkP M v 11 (M 18 1).toNat = v := by
        unfold Jvm.Pilot.@@N@@.mkP
        rw [updM_ne (by omega), updM_ne (by omega), updM_ne (by omega), updM_self]
      have e13 : Jvm.Pilot.@@N@@.mkP M v 13 (M 18 1).toNat = 0 := by
        unfold Jvm.Pilot.@@N@@.mkP
        rw [updM_ne (by omega), updM_self]
      rw [e11, e13]
      refine ⟨hv, ?_⟩
      unfold doneM
      rw [sumN_z (fun o _ ho => ?_)]
      by_cases h7 : M 7 o = 2
      · have := (g3 o (by have := g2.2.2.2; omega)).2.2.2.2.2.2 (Or.inr h7)
        rw [if_neg (by omega)]
      · rw [if_neg (fun z => h7 z.1)]
    · rw [mkP_n (by omega), mkP_n (by omega)]
      exact g4 i (by omega)
  · rw [mkP_n (by omega)] at hi
    rw [mkP_n (by omega), mkP_n (by omega), mkP_n (by omega)]
    exact g5 i hi
  · rw [mkP_n (by omega), mkP_n (by omega), g6]
    exact sumN_congr (fun i _ _ => (mkP_n (by omega)).symm)
  · rw [mkP_n (by omega)] at hi
    obtain ⟨h, len, set, to, b, e, q1, q2, q3, q4, q5⟩ := g7 i hi
    unfold RU
    rw [mkP_n (by omega), e1, mkP_n (by omega)]
    refine ⟨h, len, set, to, b, e, q1, q2, ⟨q3.1, ?_⟩, q4, q5⟩
    exact Nat.lt_of_lt_of_le q3.2 (Nat.pow_le_pow_right (by decide) (by omega))
theorem mkP_items {M : MR} {v : Int} {p : Int} : itemsL (mkP M v) p = itemsL M p := by
  refine items_congr (mkP_n (by omega)) (mkP_n (by omega)) (fun o _ => ⟨?_, fun _ => ?_⟩) (fun k _ => mkP_n (by omega))
  · unfold tofM tripM
    rw [mkP_n (by omega), mkP_n (by omega)]
  · unfold legT endM
    rw [mkP_n (by omega), mkP_n (by omega), mkP_n (by omega)]
theorem X5_makePilot {N : Nat} {A : AH} {r : Nat} {M : MR} {v : Int} (hr : r + 31 ≤ 376) (hG : GD M) (hP : RP A r M) (h5 : M 18 1 < 6) : ∃ B, fX5_makePilot N A r v = some (M 18 1, B) ∧ RP B r (mkP M v) ∧ FX 0 (fun a => r ≤ a ∧ a ≤ r + 30) A B := by
  have c1 := hG.2.1.2.1
  obtain ⟨P, eP⟩ : ∃ P : Nat, M 18 1 = (P : Int) := ⟨(M 18 1).toNat, by omega⟩
  have eP2 : (M 18 1).toNat = P := by omega
  obtain ⟨B, hB⟩ : ∃ B, B = sI (sP (sI (sI A (r + 22 + P) 0 v) (r + 22 + P) 1 0) (r + 22 + P) 2 0) r 7 (M 18 1 + 1) := ⟨_, rfl⟩
  have hI : ∀ a k, ¬ (a = r + 22 + P ∧ k < 2) → ¬ (a = r ∧ k = 7) → gI B a k = gI A a k := fun a k h1 h2 => by
    rw [hB, gI_sI, if_neg (by omega), gI_sP, gI_sI, if_neg (by omega), gI_sI, if_neg (by omega)]
  have hQ : ∀ a k, ¬ (a = r + 22 + P ∧ k = 2) → gP B a k = gP A a k := fun a k h1 => by
    rw [hB, gP_sI, gP_sP, if_neg (by omega)]
    rfl
  have hK : KL A B := by
    refine ⟨by rw [hB]; exact Nat.le_refl _, fun a h1 h2 => ⟨by rw [hB]; rfl, fun k => hI a k (by omega) (by omega), fun k => hQ a k (by omega)⟩⟩
  refine ⟨B, ?_, ?_, hK, ⟨by rw [hB]; exact Nat.le_refl _, by rw [hB]; exact Nat.le_refl _, by rw [hB]; exact Nat.le_refl _⟩, by rw [hB]; rfl, fun a h1 h2 k => ⟨hI a k (by omega) (by omega), hQ a k (by omega)⟩⟩
  · unfold fX5_makePilot fX4_start
    simp only [bnd_eq]
    rw [hP.2.1.2.2.1, if_neg (by omega), chk_pos _ (by omega), obind_some, eP2, gI_sP, gI_sI, if_neg (by omega), gI_sI, if_neg (by omega), hP.2.1.2.2.1, wrap_eq (by omega) (by omega), hB]
  · obtain ⟨⟨t1, t2⟩, ⟨q1, q2, q3, q4⟩, ho', hp', hb'⟩ := hP
    have e1 : mkP M v 18 1 = M 18 1 + 1 := by
      unfold mkP
      rw [updM_self]
    refine ⟨⟨fun k hk => ?_, fun k hk => ?_⟩, ⟨?_, ?_, ?_, ?_⟩, fun i hi => ?_, fun i hi => ?_, fun i hi => ?_⟩
    · rw [hI _ _ (by omega) (by omega), mkP_n (by omega)]; exact t1 k hk
    · rw [hI _ _ (by omega) (by omega), mkP_n (by omega)]; exact t2 k hk
    · rw [hI _ _ (by omega) (by omega), mkP_n (by omega)]; exact q1
    · rw [hI _ _ (by omega) (by omega), mkP_n (by omega)]; exact q2
    · rw [e1, hB, gI_sI, if_pos ⟨rfl, rfl⟩]
    · rw [hI _ _ (by omega) (by omega), mkP_n (by omega)]; exact q4
    · rw [mkP_n (by omega)] at hi
      have := hG.o16 hi
      exact (ho' i hi).mv (fun k => hI _ _ (by omega) (by omega)) (fun j _ _ => mkP_n (by omega))
    · rw [e1] at hi
      by_cases e : i = P
      · subst e
        refine ⟨[], ⟨?_, ?_, ?_⟩, PL.nil (by rw [mkP_items, ← eP2]; exact hG.newP h5)⟩
        · rw [hB]
          unfold mkP
          rw [eP2, updM_ne (by omega), updM_ne (by omega), updM_ne (by omega), updM_self, gI_sI, if_neg (by omega), gI_sP, gI_sI, if_neg (by omega), gI_sI, if_pos ⟨rfl, rfl⟩]
        · rw [hB]
          unfold mkP
          rw [eP2, updM_ne (by omega), updM_ne (by omega), updM_self, gI_sI, if_neg (by omega), gI_sP, gI_sI, if_pos ⟨rfl, rfl⟩]
        · show gP B (r + 22 + i) 2 = 0
          rw [hB, gP_sI, gP_sP, if_pos ⟨rfl, rfl⟩]
      · obtain ⟨L, l1, l2⟩ := hp' i (by omega)
        exact ⟨L, l1.mv hK (fun k => hI _ _ (by omega) (by omega)) (hQ _ _ (by omega)) (mkP_n (by omega)) (mkP_n (by omega)), l2.mv mkP_items⟩
    · rw [mkP_n (by omega)] at hi
      have := hG.b3 hi
      exact (hb' i hi).mv (fun k => hI _ _ (by omega) (by omega)) (mkP_n (by omega)) (mkP_n (by omega)) (mkP_n (by omega)) (rides_congr (mkP_n (by omega)) (fun k _ => mkP_n (by omega)))
/-! boats -/
theorem GD.newB {M : MR} (hG : GD M) : ridesM M (M 18 2).toNat = 0 := by
  have c2 := hG.2.1.2.2.1
  have c4 := hG.2.1.2.2.2.2
  unfold ridesM
  refine sumN_z (fun k _ hk => ?_)
  obtain ⟨h, len, set, to, b, e, q1, q2, q3, q4, q5⟩ := hG.2.2.2.2.2.2 k (by omega)
  rw [e, boatR_pk (by omega) (by omega) q3.1 q4 (hG.b3 q5), if_neg (by omega)]
theorem GD.mkB {M : MR} {v : Int} (hG : GD M) (h3 : M 18 2 < 3) (hv : 1 ≤ v ∧ v ≤ 4) : GD (mkB M v) := by
  obtain ⟨g1, g2, g3, g4, g5, g6, g7⟩ := hG
  have c2 := g2.2.2.1
  have e2 : Jvm.Pilot.@@N@@.mkB M v 18 2 = M 18 2 + 1 := by
    unfold Jvm.Pilot.@@N@@.mkB
    rw [updM_self]
  have e14 : Jvm.Pilot.@@N@@.mkB M v 14 (M 18 2).toNat = v := by
    unfold Jvm.Pilot.@@N@@.mkB
    rw [updM_ne (by omega), updM_ne (by omega), updM_ne (by omega), updM_self]
  have e15 : Jvm.Pilot.@@N@@.mkB M v 15 (M 18 2).toNat = 0 := by
    unfold Jvm.Pilot.@@N@@.mkB
    rw [updM_ne (by omega), updM_ne (by omega), updM_self]
  have e16 : Jvm.Pilot.@@N@@.mkB M v 16 (M 18 2).toNat = 0 := by
    unfold Jvm.Pilot.@@N@@.mkB
    rw [updM_ne (by omega), updM_self]
  refine ⟨g1.same (fun k => mkB_n (by omega)) (fun k => mkB_n (by omega)), ?_, fun i hi => ?_, fun i hi => ?_, fun i hi => ?_, ?_, fun i hi => ?_⟩
  · unfold MC at *
    rw [e2, mkB_n (by omega), mkB_n (by omega), mkB_n (by omega), mkB_n (by omega)]
    exact ⟨g2.1, g2.2.1, by omega, g2.2.2.2⟩
  · rw [mkB_n (by omega)] at hi
    exact (g3 i hi).same (fun j _ _ => mkB_n (by omega)) (mkB_n (by omega))
  · rw [mkB_n (by omega)] at hi
    rw [mkB_n (by omega), mkB_n (by omega), doneM_congr (M := M) (mkB_n (by omega)) (fun o _ => by rw [mkB_n (by omega), mkB_n (by omega)])]
    exact g4 i hi
  · rw [e2] at hi
    by_cases e : i = (M 18 2).toNat
    · subst e
      rw [e14, e15, e16]
      exact ⟨hv, by decide, by decide, by decide, by decide⟩
    · rw [mkB_n (by omega), mkB_n (by omega), mkB_n (by omega)]
      exact g5 i (by omega)
  · rw [mkB_n (by omega), e2, show (M 18 2 + 1).toNat = (M 18 2).toNat + 1 by omega, sumN_succ, Nat.zero_add, e15, Int.add_zero, g6]
    exact sumN_congr (fun i _ _ => (mkB_n (by omega)).symm)
  · rw [mkB_n (by omega)] at hi
    obtain ⟨h, len, set, to, b, e, q1, q2, q3, q4, q5⟩ := g7 i hi
    unfold RU
    rw [mkB_n (by omega), mkB_n (by omega), e2]
    exact ⟨h, len, set, to, b, e, q1, q2, q3, q4, by omega⟩
theorem mkB_items {M : MR} {v : Int} {p : Int} : itemsL (mkB M v) p = itemsL M p := by
  refine items_congr (mkB_n (by omega)) (mkB_n (by omega)) (fun o _ => ⟨?_, fun _ => ?_⟩) (fun k _ => mkB_n (by omega))
  · unfold tofM tripM
    rw [mkB_n (by omega), mkB_n (by omega)]
  · unfold legT endM
    rw [mkB_n (by omega), mkB_n (by omega), mkB_n (by omega)]
theorem X5_makeBoat {N : Nat} {A : AH} {r : Nat} {M : MR} {v : Int} (hr : r + 31 ≤ 376) (hG : GD M) (hP : RP A r M) (h3 : M 18 2 < 3) : ∃ B, fX5_makeBoat N A r v = some (M 18 2, B) ∧ RP B r (mkB M v) ∧ FX 0 (fun a => r ≤ a ∧ a ≤ r + 30) A B := by
  have c2 := hG.2.1.2.2.1
  obtain ⟨P, eP⟩ : ∃ P : Nat, M 18 2 = (P : Int) := ⟨(M 18 2).toNat, by omega⟩
  have eP2 : (M 18 2).toNat = P := by omega
  obtain ⟨B, hB⟩ : ∃ B, B = sI (sI (sI (sI (sI (sI A (r + 28 + P) 0 v) (r + 28 + P) 1 0) (r + 28 + P) 2 0) (r + 28 + P) 3 0) (r + 28 + P) 4 0) r 8 (M 18 2 + 1) := ⟨_, rfl⟩
  have hI : ∀ a k, a ≠ r + 28 + P → ¬ (a = r ∧ k = 8) → gI B a k = gI A a k := fun a k h1 h2 => by
    rw [hB, gI_sI, if_neg (by omega), gI_sI, if_neg (by omega), gI_sI, if_neg (by omega), gI_sI, if_neg (by omega), gI_sI, if_neg (by omega), gI_sI, if_neg (by omega)]
  have hQ : ∀ a k, gP B a k = gP A a k := fun a k => by rw [hB]; rfl
  have hK : KL A B := by
    refine ⟨by rw [hB]; exact Nat.le_refl _, fun a h1 h2 => ⟨by rw [hB]; rfl, fun k => hI a k (by omega) (by omega), fun k => hQ a k⟩⟩
  refine ⟨B, ?_, ?_, hK, ⟨by rw [hB]; exact Nat.le_refl _, by rw [hB]; exact Nat.le_refl _, by rw [hB]; exact Nat.le_refl _⟩, by rw [hB]; rfl, fun a h1 h2 k => ⟨hI a k (by omega) (by omega), hQ a k⟩⟩
  · unfold fX5_makeBoat fX0_start
    simp only [bnd_eq]
    rw [hP.2.1.2.2.2, if_neg (by omega), chk_pos _ (by omega), obind_some, eP2, gI_sI, if_neg (by omega), gI_sI, if_neg (by omega), gI_sI, if_neg (by omega), gI_sI, if_neg (by omega), gI_sI, if_neg (by omega), hP.2.1.2.2.2, wrap_eq (by omega) (by omega), hB]
  · obtain ⟨⟨t1, t2⟩, ⟨q1, q2, q3, q4⟩, ho', hp', hb'⟩ := hP
    have e2 : mkB M v 18 2 = M 18 2 + 1 := by
      unfold mkB
      rw [updM_self]
    refine ⟨⟨fun k hk => ?_, fun k hk => ?_⟩, ⟨?_, ?_, ?_, ?_⟩, fun i hi => ?_, fun i hi => ?_, fun i hi => ?_⟩
    · rw [hI _ _ (by omega) (by omega), mkB_n (by omega)]; exact t1 k hk
    · rw [hI _ _ (by omega) (by omega), mkB_n (by omega)]; exact t2 k hk
    · rw [hI _ _ (by omega) (by omega), mkB_n (by omega)]; exact q1
    · rw [hI _ _ (by omega) (by omega), mkB_n (by omega)]; exact q2
    · rw [hI _ _ (by omega) (by omega), mkB_n (by omega)]; exact q3
    · rw [e2, hB, gI_sI, if_pos ⟨rfl, rfl⟩]
    · rw [mkB_n (by omega)] at hi
      have := hG.o16 hi
      exact (ho' i hi).mv (fun k => hI _ _ (by omega) (by omega)) (fun j _ _ => mkB_n (by omega))
    · rw [mkB_n (by omega)] at hi
      have := hG.p6 hi
      obtain ⟨L, l1, l2⟩ := hp' i hi
      exact ⟨L, l1.mv hK (fun k => hI _ _ (by omega) (by omega)) (hQ _ _) (mkB_n (by omega)) (mkB_n (by omega)), l2.mv mkB_items⟩
    · rw [e2] at hi
      have hr4 : ridesM (mkB M v) i = ridesM M i := rides_congr (mkB_n (by omega)) (fun k _ => mkB_n (by omega))
      by_cases e : i = P
      · subst e
        unfold PB
        rw [hr4, ← eP2, hG.newB, eP2]
        have n14 : mkB M v 14 i = v := by
          unfold mkB
          rw [eP2, updM_ne (by omega), updM_ne (by omega), updM_ne (by omega), updM_self]
        have n15 : mkB M v 15 i = 0 := by
          unfold mkB
          rw [eP2, updM_ne (by omega), updM_ne (by omega), updM_self]
        have n16 : mkB M v 16 i = 0 := by
          unfold mkB
          rw [eP2, updM_ne (by omega), updM_self]
        rw [n14, n15, n16, hB]
        refine ⟨?_, ?_, ?_, ?_, ?_⟩ <;> simp [gI_sI]
      · exact (hb' i (by omega)).mv (fun k => hI _ _ (by omega) (by omega)) (mkB_n (by omega)) (mkB_n (by omega)) (mkB_n (by omega)) hr4
/-! orders -/
def ordOk (M : MR) (s t e l : Int) : Prop := (1 ≤ s ∧ s ≤ 4) ∧ (1 ≤ t ∧ t ≤ 30) ∧ M 18 0 ≤ e ∧ e ≤ l ∧ l ≤ 900
theorem mkO_2 {M : MR} {s d t e l : Int} : mkO M s d t e l 2 (M 18 3).toNat = s := by
  unfold mkO
  rw [updM_ne (by omega), updM_ne (by omega), updM_ne (by omega), updM_ne (by omega), updM_ne (by omega), updM_ne (by omega), updM_ne (by omega), updM_self]
theorem mkO_3 {M : MR} {s d t e l : Int} : mkO M s d t e l 3 (M 18 3).toNat = d := by
  unfold mkO
  rw [updM_ne (by omega), updM_ne (by omega), updM_ne (by omega), updM_ne (by omega), updM_ne (by omega), updM_ne (by omega), updM_self]
theorem mkO_4 {M : MR} {s d t e l : Int} : mkO M s d t e l 4 (M 18 3).toNat = t := by
  unfold mkO
  rw [updM_ne (by omega), updM_ne (by omega), updM_ne (by omega), updM_ne (by omega), updM_ne (by omega), updM_self]
theorem mkO_5 {M : MR} {s d t e l : Int} : mkO M s d t e l 5 (M 18 3).toNat = e := by
  unfold mkO
  rw [updM_ne (by omega), updM_ne (by omega), updM_ne (by omega), updM_ne (by omega), updM_self]
theorem mkO_6 {M : MR} {s d t e l : Int} : mkO M s d t e l 6 (M 18 3).toNat = l := by
  unfold mkO
  rw [updM_ne (by omega), updM_ne (by omega), updM_ne (by omega), updM_self]
theorem mkO_7 {M : MR} {s d t e l : Int} : mkO M s d t e l 7 (M 18 3).toNat = 0 := by
  unfold mkO
  rw [updM_ne (by omega), updM_ne (by omega), updM_self]
theorem mkO_10 {M : MR} {s d t e l : Int} : mkO M s d t e l 10 (M 18 3).toNat = 0 := by
  unfold mkO
  rw [updM_ne (by omega), updM_self]
theorem mkO_c {M : MR} {s d t e l : Int} : mkO M s d t e l 18 3 = M 18 3 + 1 := by
  unfold mkO
  rw [updM_self]
theorem GD.mkO {M : MR} {s d t e l : Int} (hG : GD M) (h16 : M 18 3 < 16) (hd : d = 0 ∨ d = 1) (hv : ordOk M s t e l) : GD (mkO M s d t e l) := by
  obtain ⟨g1, g2, g3, g4, g5, g6, g7⟩ := hG
  obtain ⟨v1, v2, v3, v4, v5⟩ := hv
  have c0 := g2.1
  have c3 := g2.2.2.2.1
  refine ⟨g1.same (fun k => mkO_n (by omega)) (fun k => mkO_n (by omega)), ?_, fun i hi => ?_, fun i hi => ?_, fun i hi => ?_, ?_, fun i hi => ?_⟩
  · unfold MC at *
    rw [mkO_c, mkO_n (by omega), mkO_n (by omega), mkO_n (by omega), mkO_n (by omega)]
    exact ⟨g2.1, g2.2.1, g2.2.2.1, by omega, g2.2.2.2.2⟩
  · rw [mkO_c] at hi
    by_cases q : i = (M 18 3).toNat
    · subst q
      unfold MO tripM
      rw [mkO_2, mkO_3, mkO_4, mkO_5, mkO_6, mkO_7, mkO_10]
      exact ⟨v1, hd, v2, by omega, by decide, by decide, fun z => by omega⟩
    · exact (g3 i (by omega)).same (fun j _ _ => mkO_n (by omega)) (mkO_n (by omega))
  · rw [mkO_n (by omega)] at hi
    have h := g4 i hi
    rw [mkO_n (by omega), mkO_n (by omega)]
    refine ⟨h.1, h.2.trans ?_⟩
    unfold doneM
    rw [mkO_c, show (M 18 3 + 1).toNat = (M 18 3).toNat + 1 by omega, sumN_succ, Nat.zero_add, mkO_7, if_neg (by omega), Int.add_zero]
    exact sumN_congr (fun j _ _ => by rw [mkO_n (by omega), mkO_n (by omega)])
  · rw [mkO_n (by omega)] at hi
    rw [mkO_n (by omega), mkO_n (by omega), mkO_n (by omega)]
    exact g5 i hi
  · rw [mkO_n (by omega), mkO_n (by omega), g6]
    exact sumN_congr (fun i _ _ => (mkO_n (by omega)).symm)
  · rw [mkO_n (by omega)] at hi
    unfold RU
    rw [mkO_n (by omega), mkO_n (by omega), mkO_n (by omega)]
    exact g7 i hi
theorem mkO_items {M : MR} {s d t e l : Int} {p : Int} (hC : MC M) : itemsL (mkO M s d t e l) p = itemsL M p := by
  have c3 := hC.2.2.2.1
  unfold itemsL tripsL ridesL
  have ef : tofM (mkO M s d t e l) (M 18 3).toNat p = false := by
    unfold tofM tripM
    rw [mkO_7]
    rfl
  rw [mkO_c, show (M 18 3 + 1).toNat = (M 18 3).toNat + 1 by omega, selF_succ, Nat.zero_add, ef, if_neg (by decide), List.append_nil, mkO_n (by omega)]
  rw [selF_congr (f := fun o => tofM (mkO M s d t e l) o p) (g := fun o => tofM M o p) (fun i _ hi => by
    unfold tofM tripM
    rw [mkO_n (by omega), mkO_n (by omega)]), selF_congr (f := fun k => hasR (mkO M s d t e l 17 k) p) (g := fun k => hasR (M 17 k) p) (fun i _ hi => by rw [mkO_n (by omega)])]
  congr 1
  · refine List.map_congr_left (fun o ho => ?_)
    have := mem_selF.mp ho
    unfold legT endM
    rw [mkO_n (by omega), mkO_n (by omega), mkO_n (by omega)]
theorem X5_makeOrder {N : Nat} {A : AH} {r : Nat} {M : MR} {s d t e l : Int} (hr : r + 31 ≤ 376) (hG : GD M) (hP : RP A r M) (h16 : M 18 3 < 16) : ∃ B, fX5_makeOrder N A r s d t e l = some (M 18 3, B) ∧ RP B r (mkO M s d t e l) ∧ FX 0 (fun a => r ≤ a ∧ a ≤ r + 30) A B := by
  have c3 := hG.2.1.2.2.2.1
  obtain ⟨O, eO⟩ : ∃ O : Nat, M 18 3 = (O : Int) := ⟨(M 18 3).toNat, by omega⟩
  have eO2 : (M 18 3).toNat = O := by omega
  obtain ⟨C, hC⟩ : ∃ C, C = sI (sI (sI (sI (sI (sI (sI (sI (sI (sI A (r + 6 + O) 0 s) (r + 6 + O) 1 d) (r + 6 + O) 2 t) (r + 6 + O) 3 e) (r + 6 + O) 4 l) (r + 6 + O) 9 0) (r + 6 + O) 5 0) (r + 6 + O) 6 (-1)) (r + 6 + O) 7 (-1)) (r + 6 + O) 8 (-1) := ⟨_, rfl⟩
  have fC : FQ (fun a _ => a = r + 6 + O) A C := by
    rw [hC]
    exact FQ.setc (FQ.setc (FQ.setc (FQ.setc (FQ.setc (FQ.setc (FQ.setc (FQ.setc (FQ.setc (FQ.setc (FQ.rf A))))))))))
  obtain ⟨B, hB⟩ : ∃ B, B = sI C r 6 (M 18 3 + 1) := ⟨_, rfl⟩
  have hI : ∀ a k, a ≠ r + 6 + O → ¬ (a = r ∧ k = 6) → gI B a k = gI A a k := fun a k h1 h2 => by
    rw [hB, gI_sI, if_neg (by omega), fC.2.2 a k h1]
  have hQ : ∀ a k, gP B a k = gP A a k := fun a k => by rw [hB]; exact fC.eP a k
  have hK : KL A B := by
    refine ⟨by rw [hB, hC]; exact Nat.le_refl _, fun a h1 h2 => ⟨by rw [hB, hC]; rfl, fun k => hI a k (by omega) (by omega), fun k => hQ a k⟩⟩
  refine ⟨B, ?_, ?_, hK, ⟨by rw [hB, hC]; exact Nat.le_refl _, by rw [hB, hC]; exact Nat.le_refl _, by rw [hB, hC]; exact Nat.le_refl _⟩, by rw [hB, hC]; rfl, fun a h1 h2 k => ⟨hI a k (by omega) (by omega), hQ a k⟩⟩
  · unfold fX5_makeOrder fX3_start fX3_setOpen
    simp only [bnd_eq]
    rw [hP.2.1.2.1, if_neg (by omega), chk_pos _ (by omega), obind_some, obind_some, eO2, ← hC, fC.2.2 r 6 (by omega), hP.2.1.2.1, wrap_eq (by omega) (by omega), hB]
  · obtain ⟨⟨t1, t2⟩, ⟨q1, q2, q3, q4⟩, ho', hp', hb'⟩ := hP
    refine ⟨⟨fun k hk => ?_, fun k hk => ?_⟩, ⟨?_, ?_, ?_, ?_⟩, fun i hi => ?_, fun i hi => ?_, fun i hi => ?_⟩
    · rw [hI _ _ (by omega) (by omega), mkO_n (by omega)]; exact t1 k hk
    · rw [hI _ _ (by omega) (by omega), mkO_n (by omega)]; exact t2 k hk
    · rw [hI _ _ (by omega) (by omega), mkO_n (by omega)]; exact q1
    · rw [mkO_c, hB, gI_sI, if_pos ⟨rfl, rfl⟩]
    · rw [hI _ _ (by omega) (by omega), mkO_n (by omega)]; exact q3
    · rw [hI _ _ (by omega) (by omega), mkO_n (by omega)]; exact q4
    · rw [mkO_c] at hi
      by_cases q : i = O
      · subst q
        have nt : ¬ tripM (mkO M s d t e l) i := by
          unfold tripM
          rw [← eO2, mkO_7]
          omega
        unfold PO
        rw [if_neg nt, if_neg nt, if_neg nt]
        have k : ∀ j, gI B (r + 6 + i) j = gI C (r + 6 + i) j := fun j => by rw [hB, gI_sI, if_neg (by omega)]
        simp only [k]
        rw [← eO2, mkO_2, mkO_3, mkO_4, mkO_5, mkO_6, mkO_7, mkO_10, eO2, hC]
        refine ⟨?_, ?_, ?_, ?_, ?_, ?_, ?_, ?_, ?_, ?_⟩ <;> simp [gI_sI]
      · have hi2 : (i : Int) < M 18 3 := by omega
        exact (ho' i hi2).mv (fun k => hI _ _ (by omega) (by omega)) (fun j _ _ => mkO_n (by omega))
    · rw [mkO_n (by omega)] at hi
      have := hG.p6 hi
      obtain ⟨L, l1, l2⟩ := hp' i hi
      exact ⟨L, l1.mv hK (fun k => hI _ _ (by omega) (by omega)) (hQ _ _) (mkO_n (by omega)) (mkO_n (by omega)), l2.mv (mkO_items hG.2.1)⟩
    · rw [mkO_n (by omega)] at hi
      have := hG.b3 hi
      exact (hb' i hi).mv (fun k => hI _ _ (by omega) (by omega)) (mkO_n (by omega)) (mkO_n (by omega)) (mkO_n (by omega)) (rides_congr (mkO_n (by omega)) (fun k _ => mkO_n (by omega)))
