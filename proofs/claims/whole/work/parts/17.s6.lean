/-! the model's search of a pilot's last trip or ride -/
theorem X9_has {N : Nat} {A : AH} {x p : Int} : fX9_has N A x p = some (b2i (hasR x p)) := by
  unfold fX9_has hasR
  by_cases h : iAnd (iShr x (wrap (13 + p))) 1 = 1 <;> simp [h, b2i]
theorem gI_setL {A : AH} {c : Int × Int} {a k : Nat} (h : ¬ (a = 349 ∧ (k = 24 ∨ k = 25))) : gI (setL A c) a k = gI A a k := by
  unfold setL
  simp only [gI_sI]
  rw [if_neg (by omega), if_neg (by omega)]
theorem setL_24 (A : AH) (c : Int × Int) : gI (setL A c) 349 24 = c.1 := by
  unfold setL
  simp [gI_sI]
theorem setL_25 (A : AH) (c : Int × Int) : gI (setL A c) 349 25 = c.2 := by
  unfold setL
  simp [gI_sI]
theorem mvA_setL (A : AH) (c : Int × Int) : mvA (setL A c) = mvA A := by
  unfold setL
  rw [mvA_sI (by omega), mvA_sI (by omega)]
theorem X9_looks {N : Nat} {A : AH} {c : Int × Int} {x : LG} : fX9_looks N (setL A c) (lgE x) (lgG x) = some (setL A (look c x)) := by
  unfold fX9_looks
  rw [setL_24]
  unfold look
  by_cases h : c.1 < lgE x
  · rw [if_pos h, if_pos h]
    simp only [bnd_eq]
    show some (setL (setL A c) (lgE x, lgG x)) = _
    rw [setL_setL]
  · rw [if_neg h, if_neg h]
theorem X9_findLast51 {N : Nat} {A : AH} {p : Int} (hR : gI A 349 23 ≤ 2703) : ∀ {k n a : Nat} {c : Int × Int}, (a : Int) + k = gI A 349 23 → k < n → fX9_findLast_51 N p n (setL A c) a = some (setL A (((selF (fun i => hasR (mvA A 17 i) p) k a).map (legR (mvA A))).foldl look c))
  | 0, n, a, c, h, hn => by
    match n, hn with
    | n + 1, _ =>
      rw [fX9_findLast_51, gI_setL (by omega), if_pos (by omega)]
      rfl
  | k + 1, n, a, c, h, hn => by
    match n, hn with
    | n + 1, hn =>
      rw [fX9_findLast_51, gI_setL (by omega), if_neg (by omega), gI_setL (by omega), chk_pos _ (by omega), X9_has, obind_some]
      have e : gI A 367 (a : Int).toNat = mvA A 17 a := rfl
      have ea : wrap ((a : Int) + 1) = ((a + 1 : Nat) : Int) := wrap_eq (by omega) (by omega)
      rw [e, selF]
      by_cases hh : hasR (mvA A 17 a) p = true
      · rw [hh, if_neg (by decide), chk_pos _ (by omega), if_pos rfl]
        unfold fX9_endOf fX9_toOf
        rw [obind_some, chk_pos _ (by omega), obind_some]
        have e2 : fX9_looks N (setL A c) (endR (mvA A 17 a)) (toR (mvA A 17 a)) = _ := X9_looks (x := legR (mvA A) a)
        show obind (fX9_looks N (setL A c) (endR (mvA A 17 a)) (toR (mvA A 17 a))) _ = _
        rw [e2, obind_some, bnd_eq, ea, X9_findLast51 (k := k) hR (by omega) (by omega)]
        rfl
      · rw [if_neg hh, Bool.not_eq_true _ |>.mp hh, if_pos (by decide), bnd_eq, ea, X9_findLast51 (k := k) hR (by omega) (by omega)]
theorem MO.mv {M M' : MR} (h : MEq M M') {o : Nat} (hO : MO M o) : MO M' o := by
  unfold MO tripM at *
  simp only [h _ _ (Or.inr (show 2 < 18 by decide)), h _ _ (Or.inr (show 3 < 18 by decide)), h _ _ (Or.inr (show 4 < 18 by decide)), h _ _ (Or.inr (show 5 < 18 by decide)), h _ _ (Or.inr (show 6 < 18 by decide)), h _ _ (Or.inr (show 7 < 18 by decide)), h _ _ (Or.inr (show 8 < 18 by decide)), h _ _ (Or.inr (show 9 < 18 by decide)), h _ _ (Or.inr (show 10 < 18 by decide)), h 18 1 (Or.inl (by decide))]
  exact hO
theorem tofM_eq {M M' : MR} (h : MEq M M') (o : Nat) (p : Int) : tofM M' o p = tofM M o p := by
  unfold tofM tripM
  simp only [h 7 o (Or.inr (by decide)), h 8 o (Or.inr (by decide))]
theorem X9_findLast12 {N : Nat} {A : AH} {p : Int} (hN : 3000 ≤ N) (hC : MC (mvA A)) (hO : ∀ o : Nat, (o : Int) < mvA A 18 3 → MO (mvA A) o) : ∀ {k n a : Nat} {c : Int × Int}, (a : Int) + k = mvA A 18 3 → k < n → fX9_findLast_12 N p n (setL A c) a = some (setL A (((selF (fun i => hasR (mvA A 17 i) p) (mvA A 18 4).toNat 0).map (legR (mvA A))).foldl look (((selF (fun o => tofM (mvA A) o p) k a).map (legT (mvA A))).foldl look c)))
  | 0, n, a, c, h, hn => by
    obtain ⟨-, -, -, c4, c5⟩ := hC
    match n, hn with
    | n + 1, _ =>
      rw [fX9_findLast_12, gI_setL (by omega), show gI A 349 22 = mvA A 18 3 from rfl, if_pos (by omega)]
      exact X9_findLast51 (k := (mvA A 18 4).toNat) (a := 0) c5.2 (show ((0 : Nat) : Int) + ((mvA A 18 4).toNat : Int) = mvA A 18 4 by omega) (by omega)
  | k + 1, n, a, c, h, hn => by
    have hC' := hC
    obtain ⟨-, -, -, c4, c5⟩ := hC
    match n, hn with
    | n + 1, hn =>
      have ho : a < 16 := by omega
      have hMo := hO a (by omega)
      have hq : MEq (mvA A) (mvA (setL A c)) := fun j i hi => by rw [mvA_setL]
      rw [fX9_findLast_12, gI_setL (by omega), show gI A 349 22 = mvA A 18 3 from rfl, if_neg (by omega), X9_isTripOf ho, obind_some, tofM_eq hq, selF]
      have ea : wrap ((a : Int) + 1) = ((a + 1 : Nat) : Int) := wrap_eq (by omega) (by omega)
      by_cases hh : tofM (mvA A) a p = true
      · have ht : tripM (mvA A) a := by
          unfold tofM at hh
          simp at hh
          exact hh.1
        have ht' : tripM (mvA (setL A c)) a := by
          unfold tripM
          rw [hq 7 a (Or.inr (by decide))]
          exact ht
        rw [hh, if_neg (by decide), if_pos rfl, X9_end ho (hMo.mv hq) ht', obind_some, X9_goalOf ho, obind_some]
        have e2 : fX9_looks N (setL A c) (endM (mvA A) a) (mvA A 3 a) = _ := X9_looks (x := legT (mvA A) a)
        have e3 : endM (mvA (setL A c)) a = endM (mvA A) a := by
          unfold endM
          rw [hq 9 a (Or.inr (by decide)), hq 2 a (Or.inr (by decide))]
        rw [e3, hq 3 a (Or.inr (by decide)), e2, obind_some, bnd_eq, ea, X9_findLast12 (k := k) hN hC' hO (by omega) (by omega)]
        rfl
      · rw [if_neg hh, Bool.not_eq_true _ |>.mp hh, if_pos (by decide), bnd_eq, ea, X9_findLast12 (k := k) hN hC' hO (by omega) (by omega)]
theorem X9_findLast {N : Nat} {A : AH} {p : Int} {L : List LG} (hN : 3000 ≤ N) (hC : MC (mvA A)) (hO : ∀ o : Nat, (o : Int) < mvA A 18 3 → MO (mvA A) o) (hL : PL (mvA A) p L) : fX9_findLast N A p = some (setL A (frees L, goals L)) := by
  obtain ⟨-, -, -, c4, c5⟩ := id hC
  unfold fX9_findLast
  simp only [bnd_eq]
  have e := X9_findLast12 (N := N) (A := A) (p := p) (k := (mvA A 18 3).toNat) (n := N) (a := 0) (c := (0, 0)) hN hC hO (show ((0 : Nat) : Int) + ((mvA A 18 3).toNat : Int) = mvA A 18 3 by omega) (by omega)
  rw [← List.foldl_append] at e
  have e2 := hL.last
  unfold itemsL tripsL ridesL at e2
  rw [e2] at e
  exact e
