/-! a good row stays good -/
theorem MO.same {M M' : MR} {o : Nat} (h : MO M o) (hj : ∀ j, 2 ≤ j → j ≤ 10 → M' j o = M j o) (h1 : M' 18 1 = M 18 1) : MO M' o := by
  unfold MO tripM at *
  rw [hj 2 (by omega) (by omega), hj 3 (by omega) (by omega), hj 4 (by omega) (by omega), hj 5 (by omega) (by omega), hj 6 (by omega) (by omega), hj 7 (by omega) (by omega), hj 8 (by omega) (by omega), hj 9 (by omega) (by omega), hj 10 (by omega) (by omega), h1]
  exact h
theorem doneM_congr {M M' : MR} {p : Nat} (h3 : M' 18 3 = M 18 3) (h : ∀ o : Nat, (o : Int) < M 18 3 → ((M' 7 o = 2 ∧ M' 8 o = (p : Int)) ↔ (M 7 o = 2 ∧ M 8 o = (p : Int)))) : doneM M' p = doneM M p := by
  unfold doneM
  rw [h3]
  refine sumN_congr (fun i _ hi => ?_)
  have := h i (by omega)
  by_cases e : M 7 i = 2 ∧ M 8 i = (p : Int)
  · rw [if_pos e, if_pos (this.mpr e)]
  · rw [if_neg e, if_neg (fun z => e (this.mp z))]
theorem GD.upd {M M' : MR} (hG : GD M) (h18 : M' 18 1 = M 18 1 ∧ M' 18 2 = M 18 2 ∧ M' 18 3 = M 18 3 ∧ M' 18 4 = M 18 4) (h0 : MRu M') (hn : 0 ≤ M' 18 0 ∧ M' 18 0 ≤ 999) (hO : ∀ o : Nat, (o : Int) < M 18 3 → MO M' o)
    (hP : ∀ p : Nat, (p : Int) < M 18 1 → (1 ≤ M' 11 p ∧ M' 11 p ≤ 4) ∧ M' 13 p = doneM M' p) (hB : ∀ b : Nat, (b : Int) < M 18 2 → M' 14 b = M 14 b ∧ M' 15 b = M 15 b ∧ M' 16 b = M 16 b) (hr : ∀ k : Nat, (k : Int) < M 18 4 → M' 17 k = M 17 k) : GD M' := by
  obtain ⟨g1, g2, g3, g4, g5, g6, g7⟩ := hG
  obtain ⟨n1, n2, n3, n4⟩ := h18
  refine ⟨h0, ?_, fun i hi => hO i (by rw [← n3]; exact hi), fun i hi => hP i (by rw [← n1]; exact hi), fun i hi => ?_, ?_, fun i hi => ?_⟩
  · unfold MC at *
    rw [n1, n2, n3, n4]
    exact ⟨hn, g2.2⟩
  · rw [n2] at hi
    obtain ⟨z1, z2, z3⟩ := hB i hi
    rw [z1, z2, z3]
    exact g5 i hi
  · rw [n4, n2, g6]
    exact sumN_congr (fun i _ hi => ((hB i (by omega)).2.1).symm)
  · rw [n4] at hi
    unfold RU
    rw [hr i hi, n1, n2]
    exact g7 i hi
theorem MRu.same {M M' : MR} (h : MRu M) (h0 : ∀ k, M' 0 k = M 0 k) (h1 : ∀ k, M' 1 k = M 1 k) : MRu M' := by
  unfold MRu at *
  simp only [h0, h1]
  exact h
theorem GD_now {M : MR} {v : Int} (hG : GD M) (hv : 0 ≤ v ∧ v ≤ 999) : GD (updM M 18 0 v) :=
  hG.upd ⟨updM_ne (by omega), updM_ne (by omega), updM_ne (by omega), updM_ne (by omega)⟩ (hG.1.same (fun k => updM_ne (by omega)) (fun k => updM_ne (by omega))) (by rw [updM_self]; exact hv) (fun o ho => (hG.2.2.1 o ho).same (fun j _ _ => updM_ne (by omega)) (updM_ne (by omega)))
    (fun p hp => by
      rw [updM_ne (by omega), updM_ne (by omega), doneM_congr (M := M) (updM_ne (by omega)) (fun o _ => by rw [updM_ne (by omega), updM_ne (by omega)])]
      exact hG.2.2.2.1 p hp) (fun b _ => ⟨updM_ne (by omega), updM_ne (by omega), updM_ne (by omega)⟩) (fun k _ => updM_ne (by omega))
theorem GD_01 {M : MR} {j i : Nat} {v : Int} (hG : GD M) (hj : j < 2) (h : MRu (updM M j i v)) : GD (updM M j i v) :=
  hG.upd ⟨updM_ne (by omega), updM_ne (by omega), updM_ne (by omega), updM_ne (by omega)⟩ h (by rw [updM_ne (by omega)]; exact hG.2.1.1) (fun o ho => (hG.2.2.1 o ho).same (fun j _ _ => updM_ne (by omega)) (updM_ne (by omega)))
    (fun p hp => by
      rw [updM_ne (by omega), updM_ne (by omega), doneM_congr (M := M) (updM_ne (by omega)) (fun o _ => by rw [updM_ne (by omega), updM_ne (by omega)])]
      exact hG.2.2.2.1 p hp) (fun b _ => ⟨updM_ne (by omega), updM_ne (by omega), updM_ne (by omega)⟩) (fun k _ => updM_ne (by omega))
theorem GD_tide {M : MR} {i : Nat} {v : Int} (hG : GD M) (hv : 0 ≤ v ∧ v ≤ 9) : GD (updM M 1 i v) := by
  refine GD_01 hG (by decide) ?_
  have h := hG.1
  unfold MRu at *
  rw [updM_ne (by omega), updM_ne (by omega), updM_ne (by omega), updM_ne (by omega), updM_ne (by omega)]
  refine ⟨h.1, h.2.1, h.2.2.1, h.2.2.2.1, h.2.2.2.2.1, fun k hk => ?_⟩
  by_cases e : k = i
  · rw [e, updM_self]; exact hv
  · rw [updM_ne (by omega)]; exact h.2.2.2.2.2 k hk
def ruleOk (i : Nat) (v : Int) : Prop := (i = 0 → 0 ≤ v ∧ v ≤ 24) ∧ (i = 1 → 1 ≤ v ∧ v ≤ 6) ∧ (i = 2 → 1 ≤ v ∧ v ≤ 9) ∧ (i = 3 → 1 ≤ v ∧ v ≤ 30) ∧ (i = 4 → 0 ≤ v ∧ v ≤ 12)
theorem GD_rule {M : MR} {i : Nat} {v : Int} (hG : GD M) (hv : ruleOk i v) : GD (updM M 0 i v) := by
  refine GD_01 hG (by decide) ?_
  have h := hG.1
  obtain ⟨v0, v1, v2, v3, v4⟩ := hv
  have at' : ∀ k : Nat, updM M 0 i v 0 k = if k = i then v else M 0 k := fun k => by
    by_cases e : k = i
    · rw [if_pos e, e, updM_self]
    · rw [if_neg e, updM_ne (by omega)]
  unfold MRu at *
  rw [at', at', at', at', at']
  refine ⟨?_, ?_, ?_, ?_, ?_, fun k hk => ?_⟩
  · split
    · rename_i e; exact v0 e.symm
    · exact h.1
  · split
    · rename_i e; exact v1 e.symm
    · exact h.2.1
  · split
    · rename_i e; exact v2 e.symm
    · exact h.2.2.1
  · split
    · rename_i e; exact v3 e.symm
    · exact h.2.2.2.1
  · split
    · rename_i e; exact v4 e.symm
    · exact h.2.2.2.2.1
  · rw [updM_ne (by omega)]; exact h.2.2.2.2.2 k hk
/-- an order's number j is set, its state and pilot are not -/
theorem GD_ord {M : MR} {j o : Nat} {v : Int} (hG : GD M) (hj : j ≤ 6 ∧ 2 ≤ j ∨ 9 ≤ j ∧ j ≤ 10) (h : (o : Int) < M 18 3 → MO (updM M j o v) o) : GD (updM M j o v) :=
  hG.upd ⟨updM_ne (by omega), updM_ne (by omega), updM_ne (by omega), updM_ne (by omega)⟩ (hG.1.same (fun k => updM_ne (by omega)) (fun k => updM_ne (by omega))) (by rw [updM_ne (by omega)]; exact hG.2.1.1) (fun i hi => by
      by_cases e : i = o
      · subst e; exact h hi
      · exact (hG.2.2.1 i hi).same (fun j _ _ => updM_ne (by omega)) (updM_ne (by omega)))
    (fun p hp => by
      rw [updM_ne (by omega), updM_ne (by omega), doneM_congr (M := M) (updM_ne (by omega)) (fun o _ => by rw [updM_ne (by omega), updM_ne (by omega)])]
      exact hG.2.2.2.1 p hp) (fun b _ => ⟨updM_ne (by omega), updM_ne (by omega), updM_ne (by omega)⟩) (fun k _ => updM_ne (by omega))
theorem GD_late {M : MR} {o : Nat} {v : Int} (hG : GD M) (hv : M 5 o ≤ v ∧ v ≤ 900) : GD (updM M 6 o v) := by
  refine GD_ord hG (by omega) (fun ho => ?_)
  have h := hG.2.2.1 o ho
  have n : ∀ j i, j ≠ 6 → updM M 6 o v j i = M j i := fun j i hj => updM_ne (by omega)
  unfold MO tripM at *
  rw [n 2 o (by decide), n 3 o (by decide), n 4 o (by decide), n 5 o (by decide), n 7 o (by decide), n 8 o (by decide), n 9 o (by decide), n 10 o (by decide), n 18 1 (by decide), updM_self]
  exact ⟨h.1, h.2.1, h.2.2.1, ⟨h.2.2.2.1.1, hv⟩, h.2.2.2.2⟩
theorem GD_putOffs {M : MR} {o : Nat} {v : Int} (hG : GD M) (hv : 0 ≤ v ∧ v ≤ 2) : GD (updM M 10 o v) := by
  refine GD_ord hG (by omega) (fun ho => ?_)
  have h := hG.2.2.1 o ho
  have n : ∀ j i, j ≠ 10 → updM M 10 o v j i = M j i := fun j i hj => updM_ne (by omega)
  unfold MO tripM at *
  rw [n 2 o (by decide), n 3 o (by decide), n 4 o (by decide), n 5 o (by decide), n 6 o (by decide), n 7 o (by decide), n 8 o (by decide), n 9 o (by decide), n 18 1 (by decide), updM_self]
  exact ⟨h.1, h.2.1, h.2.2.1, h.2.2.2.1, h.2.2.2.2.1, hv, h.2.2.2.2.2.2⟩
/-- an order that is not done is open or missed then -/
theorem GD_state {M : MR} {o : Nat} {v : Int} (hG : GD M) (h7 : M 7 o ≠ 2) (hv : v = 0 ∨ v = 3) : GD (updM M 7 o v) :=
  hG.upd ⟨updM_ne (by omega), updM_ne (by omega), updM_ne (by omega), updM_ne (by omega)⟩ (hG.1.same (fun k => updM_ne (by omega)) (fun k => updM_ne (by omega))) (by rw [updM_ne (by omega)]; exact hG.2.1.1) (fun i hi => by
      by_cases e : i = o
      · subst e
        have h := hG.2.2.1 i hi
        have n : ∀ j t, j ≠ 7 → updM M 7 i v j t = M j t := fun j t hj => updM_ne (by omega)
        unfold MO tripM at *
        rw [n 2 i (by decide), n 3 i (by decide), n 4 i (by decide), n 5 i (by decide), n 6 i (by decide), n 8 i (by decide), n 9 i (by decide), n 10 i (by decide), n 18 1 (by decide), updM_self]
        exact ⟨h.1, h.2.1, h.2.2.1, h.2.2.2.1, by omega, h.2.2.2.2.2.1, fun z => by omega⟩
      · exact (hG.2.2.1 i hi).same (fun j _ _ => updM_ne (by omega)) (updM_ne (by omega)))
    (fun p hp => by
      rw [updM_ne (by omega), updM_ne (by omega), doneM_congr (M := M) (updM_ne (by omega)) (fun i _ => by
        by_cases e : i = o
        · subst e
          rw [updM_self, updM_ne (by omega)]
          omega
        · rw [updM_ne (by omega), updM_ne (by omega)])]
      exact hG.2.2.2.1 p hp) (fun b _ => ⟨updM_ne (by omega), updM_ne (by omega), updM_ne (by omega)⟩) (fun k _ => updM_ne (by omega))
/-! an order is put off -/
def delM (M : MR) (o : Nat) (x : Int) : MR := updM (updM M 6 o (min 900 (M 6 o + x))) 10 o (M 10 o + 1)
def whyDelM (M : MR) (o : Nat) : Int := if M 7 o = 0 then (if M 10 o < 2 then 0 else 15) else 1
theorem GD.delM {M : MR} {o : Nat} {x : Int} (hG : GD M) (ho : (o : Int) < M 18 3) (hx : 0 ≤ x) (h : M 10 o < 2) : GD (delM M o x) := by
  have hM := hG.2.2.1 o ho
  have h6 := hM.2.2.2.1
  have h10 := hM.2.2.2.2.2.1
  exact GD_putOffs (GD_late hG (by omega)) (by omega)
theorem X3_whyDel {N : Nat} {A : AH} {y o : Nat} {M : MR} (hO : PO A y M o) : fX3_reasonAgainstDelay N A y = some (whyDelM M o) := by
  unfold fX3_reasonAgainstDelay whyDelM
  rw [hO.2.2.2.2.2.1, hO.2.2.2.2.2.2.1]
  by_cases h7 : M 7 o = 0
  · rw [if_pos h7, if_pos h7]
    by_cases h : M 10 o < 2
    · rw [if_pos h, if_pos h]
    · rw [if_neg h, if_neg h]
  · rw [if_neg h7, if_neg h7]
theorem X3_delay {N : Nat} {A : AH} {r o : Nat} {M : MR} {x : Int} (hr : r + 31 ≤ 376) (hG : GD M) (hP : RP A r M) (ho : (o : Int) < M 18 3) (hx : 0 ≤ x ∧ x ≤ 1000) (h : M 10 o < 2) : ∃ B, fX3_delay N A (r + 6 + o) x = some B ∧ RP B r (delM M o x) ∧ FX 0 (fun a => r ≤ a ∧ a ≤ r + 30) A B ∧ gI B (r + 6 + o) 4 = min 900 (M 6 o + x) := by
  have hM := hG.2.2.1 o ho
  have h6 := hM.2.2.2.1
  have h10 := hM.2.2.2.2.2.1
  have h16 := hG.o16 ho
  have hO := hP.2.2.1 o ho
  obtain ⟨C, hC⟩ : ∃ C, C = sI A (r + 6 + o) 4 (min 900 (M 6 o + x)) := ⟨_, rfl⟩
  have hPC : RP C r (updM M 6 o (min 900 (M 6 o + x))) := by rw [hC]; exact RP_late hr hG.2.1 hP ho
  have hGC : GD (updM M 6 o (min 900 (M 6 o + x))) := GD_late hG (by omega)
  have e9 : gI C (r + 6 + o) 9 = M 10 o := by rw [hC, gI_sI, if_neg (by omega)]; exact hO.2.2.2.2.2.2.1
  refine ⟨sI C (r + 6 + o) 9 (M 10 o + 1), ?_, RP_putOffs hr hGC.2.1 hPC (by rw [updM_ne (by omega)]; exact ho), ?_, ?_⟩
  · unfold fX3_delay
    simp only [bnd_eq]
    rw [hO.2.2.2.2.1, wrap_eq (z := M 6 o + x) (by omega) (by omega), ← hC, e9, wrap_eq (by omega) (by omega)]
  · have := (FX_sI A (a := r + 6 + o) (k := 4) (v := min 900 (M 6 o + x)) (S := fun a => r ≤ a ∧ a ≤ r + 30) (by omega) (by omega))
    rw [← hC] at this
    exact this.tr (FX_sI C (by omega) (by omega))
  · rw [gI_sI, if_neg (by omega), hC, gI_sI, if_pos ⟨rfl, rfl⟩]
