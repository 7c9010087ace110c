theorem MC.b3 {M : MR} (h : MC M) {b : Nat} (hb : (b : Int) < M 18 2) : b < 3 := by
  have := h.2.2.1
  omega
theorem MC.p6 {M : MR} (h : MC M) {p : Nat} (hp : (p : Int) < M 18 1) : p < 6 := by
  have := h.2.1
  omega
theorem MC.o16 {M : MR} (h : MC M) {o : Nat} (ho : (o : Int) < M 18 3) : o < 16 := by
  have := h.2.2.2.1
  omega
/-! one cell of a roster is changed -/
theorem RP.upd {A B : AH} {r : Nat} {M M' : MR} (hP : RP A r M) (hG : MC M) (hK : KL A B) (y : Nat) (hS : ∀ a, r ≤ a → a ≤ r + 30 → a ≠ y → ∀ k, gI B a k = gI A a k) (hPr : ∀ a, r ≤ a → a ≤ r + 30 → gP B a 2 = gP A a 2)
    (h18 : M' 18 1 = M 18 1 ∧ M' 18 2 = M 18 2 ∧ M' 18 3 = M 18 3 ∧ M' 18 4 = M 18 4) (hrun : ∀ k : Nat, (k : Int) < M 18 4 → M' 17 k = M 17 k)
    (hT : (y ≠ r + 1 ∧ y ≠ r + 2 ∧ (∀ k, M' 0 k = M 0 k) ∧ ∀ k, M' 1 k = M 1 k) ∨ PT B r M')
    (hC : (y ≠ r ∧ M' 18 0 = M 18 0) ∨ (gI B r 5 = M' 18 0 ∧ gI B r 6 = gI A r 6 ∧ gI B r 7 = gI A r 7 ∧ gI B r 8 = gI A r 8))
    (hO : ∀ o : Nat, (o : Int) < M 18 3 → (y ≠ r + 6 + o ∧ ∀ j, 2 ≤ j → j ≤ 10 → M' j o = M j o) ∨ PO B (r + 6 + o) M' o)
    (hit : ∀ p : Nat, (p : Int) < M 18 1 → itemsL M' p = itemsL M p)
    (hPp : ∀ p : Nat, (p : Int) < M 18 1 → (y ≠ r + 22 + p ∧ M' 11 p = M 11 p ∧ M' 12 p = M 12 p) ∨ (gI B (r + 22 + p) 0 = M' 11 p ∧ gI B (r + 22 + p) 1 = M' 12 p))
    (hBb : ∀ b : Nat, (b : Int) < M 18 2 → y ≠ r + 28 + b ∧ M' 14 b = M 14 b ∧ M' 15 b = M 15 b ∧ M' 16 b = M 16 b) : RP B r M' := by
  obtain ⟨⟨t1, t2⟩, ⟨q1, q2, q3, q4⟩, ho', hp', hb'⟩ := hP
  obtain ⟨n1, n2, n3, n4⟩ := h18
  refine ⟨?_, ?_, fun o h => ?_, fun p h => ?_, fun b h => ?_⟩
  · rcases hT with ⟨y1, y2, z1, z2⟩ | hT
    · exact ⟨fun k hk => by rw [hS (r + 1) (by omega) (by omega) (by omega), z1]; exact t1 k hk, fun k hk => by rw [hS (r + 2) (by omega) (by omega) (by omega), z2]; exact t2 k hk⟩
    · exact hT
  · rw [n1, n2, n3]
    rcases hC with ⟨y1, z1⟩ | ⟨z1, z2, z3, z4⟩
    · have e := hS r (by omega) (by omega) (by omega)
      rw [e, e, e, e, z1]
      exact ⟨q1, q2, q3, q4⟩
    · rw [z1, z2, z3, z4]
      exact ⟨rfl, q2, q3, q4⟩
  · rw [n3] at h
    have := hG.o16 h
    rcases hO o h with ⟨y1, z1⟩ | z
    · exact (ho' o h).mv (fun k => hS _ (by omega) (by omega) (by omega) k) z1
    · exact z
  · rw [n1] at h
    have := hG.p6 h
    obtain ⟨L, l1, l2⟩ := hp' p h
    refine ⟨L, ?_, l2.mv (hit p h)⟩
    rcases hPp p h with ⟨y1, z1, z2⟩ | ⟨z1, z2⟩
    · exact l1.mv hK (fun k => hS _ (by omega) (by omega) (by omega) k) (hPr _ (by omega) (by omega)) z1 z2
    · exact ⟨z1, z2, by rw [hPr _ (by omega) (by omega)]; exact l1.2.2.kl hK⟩
  · rw [n2] at h
    have := hG.b3 h
    obtain ⟨y1, z1, z2, z3⟩ := hBb b h
    exact (hb' b h).mv (fun k => hS _ (by omega) (by omega) (by omega) k) z1 z2 z3 (rides_congr n4 hrun)
theorem FX_sI (A : AH) {a k : Nat} {v : Int} {S : Nat → Prop} (ha : a < 376) (hS : S a) : FX 0 S A (sI A a k v) :=
  (FQ_sI (S := fun b _ => b = a) A rfl).fx (fun b k z => by
    have z : b = a := z
    subst z
    exact ⟨ha, hS⟩)
/-- the items of a row that differs elsewhere -/
theorem items_upd {M : MR} {j i : Nat} {v : Int} {p : Int} (hj : j ≠ 2 ∧ j ≠ 3 ∧ j ≠ 7 ∧ j ≠ 8 ∧ j ≠ 9 ∧ j ≠ 17 ∧ ¬ (j = 18 ∧ (i = 3 ∨ i = 4))) : itemsL (updM M j i v) p = itemsL M p := by
  refine items_congr (updM_ne (by omega)) (updM_ne (by omega)) (fun o _ => ⟨?_, fun _ => ?_⟩) (fun k _ => updM_ne (by omega))
  · unfold tofM tripM
    rw [updM_ne (by omega), updM_ne (by omega)]
  · unfold legT endM
    rw [updM_ne (by omega), updM_ne (by omega), updM_ne (by omega)]
theorem items_state {M : MR} {o : Nat} {v : Int} {p : Int} (h : tripM M o ↔ (v = 1 ∨ v = 2)) : itemsL (updM M 7 o v) p = itemsL M p := by
  refine items_congr (updM_ne (by omega)) (updM_ne (by omega)) (fun i _ => ⟨?_, fun _ => ?_⟩) (fun k _ => updM_ne (by omega))
  · by_cases e : i = o
    · subst e
      unfold tofM tripM
      rw [updM_self, updM_ne (by omega)]
      congr 1
      exact decide_eq_decide.mpr h.symm
    · exact tofM_updo e
  · unfold legT endM
    rw [updM_ne (by omega), updM_ne (by omega), updM_ne (by omega)]
theorem RP_now {A : AH} {r : Nat} {M : MR} {v : Int} (hr : r + 31 ≤ 376) (hG : MC M) (hP : RP A r M) : RP (sI A r 5 v) r (updM M 18 0 v) :=
  hP.upd hG (FX_sI A (S := fun _ => True) (by omega) trivial).1 r (fun a _ _ h k => by rw [gI_sI, if_neg (by omega)]) (fun a _ _ => rfl) ⟨updM_ne (by omega), updM_ne (by omega), updM_ne (by omega), updM_ne (by omega)⟩ (fun k _ => updM_ne (by omega))
    (Or.inl ⟨by omega, by omega, fun k => updM_ne (by omega), fun k => updM_ne (by omega)⟩) (Or.inr ⟨by rw [gI_sI, if_pos ⟨rfl, rfl⟩, updM_self], by rw [gI_sI, if_neg (by omega)], by rw [gI_sI, if_neg (by omega)], by rw [gI_sI, if_neg (by omega)]⟩)
    (fun o _ => Or.inl ⟨by omega, fun j _ _ => updM_ne (by omega)⟩) (fun p _ => items_upd (by omega)) (fun p _ => Or.inl ⟨by omega, updM_ne (by omega), updM_ne (by omega)⟩) (fun b _ => ⟨by omega, updM_ne (by omega), updM_ne (by omega), updM_ne (by omega)⟩)
theorem RP_rule {A : AH} {r i : Nat} {M : MR} {v : Int} (hr : r + 31 ≤ 376) (hG : MC M) (hP : RP A r M) (hi : i < 5) : RP (sI A (r + 1) i v) r (updM M 0 i v) :=
  hP.upd hG (FX_sI A (S := fun _ => True) (by omega) trivial).1 (r + 1) (fun a _ _ h k => by rw [gI_sI, if_neg (by omega)]) (fun a _ _ => rfl) ⟨updM_ne (by omega), updM_ne (by omega), updM_ne (by omega), updM_ne (by omega)⟩ (fun k _ => updM_ne (by omega))
    (Or.inr ⟨fun k hk => by
      rw [gI_sI]
      by_cases e : k = i
      · rw [if_pos ⟨rfl, e⟩, e, updM_self]
      · rw [if_neg (by omega), updM_ne (by omega)]
        exact hP.1.1 k hk, fun k hk => by
      rw [gI_sI, if_neg (by omega), updM_ne (by omega)]
      exact hP.1.2 k hk⟩) (Or.inl ⟨by omega, updM_ne (by omega)⟩)
    (fun o _ => Or.inl ⟨by omega, fun j _ _ => updM_ne (by omega)⟩) (fun p _ => items_upd (by omega)) (fun p _ => Or.inl ⟨by omega, updM_ne (by omega), updM_ne (by omega)⟩) (fun b _ => ⟨by omega, updM_ne (by omega), updM_ne (by omega), updM_ne (by omega)⟩)
theorem RP_tide {A : AH} {r i : Nat} {M : MR} {v : Int} (hr : r + 31 ≤ 376) (hG : MC M) (hP : RP A r M) (hi : i < 12) : RP (sI A (r + 2) i v) r (updM M 1 i v) :=
  hP.upd hG (FX_sI A (S := fun _ => True) (by omega) trivial).1 (r + 2) (fun a _ _ h k => by rw [gI_sI, if_neg (by omega)]) (fun a _ _ => rfl) ⟨updM_ne (by omega), updM_ne (by omega), updM_ne (by omega), updM_ne (by omega)⟩ (fun k _ => updM_ne (by omega))
    (Or.inr ⟨fun k hk => by
      rw [gI_sI, if_neg (by omega), updM_ne (by omega)]
      exact hP.1.1 k hk, fun k hk => by
      rw [gI_sI]
      by_cases e : k = i
      · rw [if_pos ⟨rfl, e⟩, e, updM_self]
      · rw [if_neg (by omega), updM_ne (by omega)]
        exact hP.1.2 k hk⟩) (Or.inl ⟨by omega, updM_ne (by omega)⟩)
    (fun o _ => Or.inl ⟨by omega, fun j _ _ => updM_ne (by omega)⟩) (fun p _ => items_upd (by omega)) (fun p _ => Or.inl ⟨by omega, updM_ne (by omega), updM_ne (by omega)⟩) (fun b _ => ⟨by omega, updM_ne (by omega), updM_ne (by omega), updM_ne (by omega)⟩)
/-- an order's state: a trip stays one, what is none stays none -/
theorem RP_state {A : AH} {r o : Nat} {M : MR} {v : Int} (hr : r + 31 ≤ 376) (hG : MC M) (hP : RP A r M) (ho : (o : Int) < M 18 3) (ht : tripM M o ↔ (v = 1 ∨ v = 2)) : RP (sI A (r + 6 + o) 5 v) r (updM M 7 o v) :=
  hP.upd hG (FX_sI A (S := fun _ => True) (by have := hG.o16 ho; omega) trivial).1 (r + 6 + o) (fun a _ _ h k => by rw [gI_sI, if_neg (by omega)]) (fun a _ _ => rfl) ⟨updM_ne (by omega), updM_ne (by omega), updM_ne (by omega), updM_ne (by omega)⟩ (fun k _ => updM_ne (by omega))
    (Or.inl ⟨by omega, by omega, fun k => updM_ne (by omega), fun k => updM_ne (by omega)⟩) (Or.inl ⟨by omega, updM_ne (by omega)⟩)
    (fun i hi => by
      by_cases e : i = o
      · subst e
        right
        have h := hP.2.2.1 i hi
        have e7 : tripM (updM M 7 i v) i ↔ tripM M i := by
          unfold tripM at ht ⊢
          rw [updM_self]
          exact ht.symm
        have n : ∀ j, j ≠ 7 → updM M 7 i v j i = M j i := fun j hj => updM_ne (by omega)
        have g : ∀ k, k ≠ 5 → gI (sI A (r + 6 + i) 5 v) (r + 6 + i) k = gI A (r + 6 + i) k := fun k hk => by rw [gI_sI, if_neg (by omega)]
        have g5 : gI (sI A (r + 6 + i) 5 v) (r + 6 + i) 5 = v := by rw [gI_sI, if_pos ⟨rfl, rfl⟩]
        unfold PO at *
        simp only [e7]
        rw [g 0 (by decide), g 1 (by decide), g 2 (by decide), g 3 (by decide), g 4 (by decide), g5, g 9 (by decide), g 6 (by decide), g 7 (by decide), g 8 (by decide), n 2 (by decide), n 3 (by decide), n 4 (by decide), n 5 (by decide), n 6 (by decide), updM_self, n 10 (by decide), n 8 (by decide), n 9 (by decide)]
        exact ⟨h.1, h.2.1, h.2.2.1, h.2.2.2.1, h.2.2.2.2.1, rfl, h.2.2.2.2.2.2.1, h.2.2.2.2.2.2.2.1, h.2.2.2.2.2.2.2.2.1, h.2.2.2.2.2.2.2.2.2⟩
      · exact Or.inl ⟨by omega, fun j _ _ => updM_ne (by omega)⟩) (fun p _ => items_state ht) (fun p _ => Or.inl ⟨by have := hG.o16 ho; omega, updM_ne (by omega), updM_ne (by omega)⟩) (fun b _ => ⟨by have := hG.o16 ho; omega, updM_ne (by omega), updM_ne (by omega), updM_ne (by omega)⟩)
theorem RP_late {A : AH} {r o : Nat} {M : MR} {v : Int} (hr : r + 31 ≤ 376) (hG : MC M) (hP : RP A r M) (ho : (o : Int) < M 18 3) : RP (sI A (r + 6 + o) 4 v) r (updM M 6 o v) :=
  hP.upd hG (FX_sI A (S := fun _ => True) (by have := hG.o16 ho; omega) trivial).1 (r + 6 + o) (fun a _ _ h k => by rw [gI_sI, if_neg (by omega)]) (fun a _ _ => rfl) ⟨updM_ne (by omega), updM_ne (by omega), updM_ne (by omega), updM_ne (by omega)⟩ (fun k _ => updM_ne (by omega))
    (Or.inl ⟨by omega, by omega, fun k => updM_ne (by omega), fun k => updM_ne (by omega)⟩) (Or.inl ⟨by omega, updM_ne (by omega)⟩)
    (fun i hi => by
      by_cases e : i = o
      · subst e
        right
        have h := hP.2.2.1 i hi
        have n : ∀ j, j ≠ 6 → updM M 6 i v j i = M j i := fun j hj => updM_ne (by omega)
        have g : ∀ k, k ≠ 4 → gI (sI A (r + 6 + i) 4 v) (r + 6 + i) k = gI A (r + 6 + i) k := fun k hk => by rw [gI_sI, if_neg (by omega)]
        have g5 : gI (sI A (r + 6 + i) 4 v) (r + 6 + i) 4 = v := by rw [gI_sI, if_pos ⟨rfl, rfl⟩]
        unfold PO tripM at *
        rw [g 0 (by decide), g 1 (by decide), g 2 (by decide), g 3 (by decide), g 5 (by decide), g 6 (by decide), g 7 (by decide), g 8 (by decide), g 9 (by decide), g5, n 2 (by decide), n 3 (by decide), n 4 (by decide), n 5 (by decide), n 7 (by decide), n 8 (by decide), n 9 (by decide), n 10 (by decide), updM_self]
        exact ⟨h.1, h.2.1, h.2.2.1, h.2.2.2.1, rfl, h.2.2.2.2.2.1, h.2.2.2.2.2.2.1, h.2.2.2.2.2.2.2.1, h.2.2.2.2.2.2.2.2.1, h.2.2.2.2.2.2.2.2.2⟩
      · exact Or.inl ⟨by omega, fun j _ _ => updM_ne (by omega)⟩) (fun p _ => items_upd (by omega)) (fun p _ => Or.inl ⟨by have := hG.o16 ho; omega, updM_ne (by omega), updM_ne (by omega)⟩) (fun b _ => ⟨by have := hG.o16 ho; omega, updM_ne (by omega), updM_ne (by omega), updM_ne (by omega)⟩)
theorem RP_putOffs {A : AH} {r o : Nat} {M : MR} {v : Int} (hr : r + 31 ≤ 376) (hG : MC M) (hP : RP A r M) (ho : (o : Int) < M 18 3) : RP (sI A (r + 6 + o) 9 v) r (updM M 10 o v) :=
  hP.upd hG (FX_sI A (S := fun _ => True) (by have := hG.o16 ho; omega) trivial).1 (r + 6 + o) (fun a _ _ h k => by rw [gI_sI, if_neg (by omega)]) (fun a _ _ => rfl) ⟨updM_ne (by omega), updM_ne (by omega), updM_ne (by omega), updM_ne (by omega)⟩ (fun k _ => updM_ne (by omega))
    (Or.inl ⟨by omega, by omega, fun k => updM_ne (by omega), fun k => updM_ne (by omega)⟩) (Or.inl ⟨by omega, updM_ne (by omega)⟩)
    (fun i hi => by
      by_cases e : i = o
      · subst e
        right
        have h := hP.2.2.1 i hi
        have n : ∀ j, j ≠ 10 → updM M 10 i v j i = M j i := fun j hj => updM_ne (by omega)
        have g : ∀ k, k ≠ 9 → gI (sI A (r + 6 + i) 9 v) (r + 6 + i) k = gI A (r + 6 + i) k := fun k hk => by rw [gI_sI, if_neg (by omega)]
        have g5 : gI (sI A (r + 6 + i) 9 v) (r + 6 + i) 9 = v := by rw [gI_sI, if_pos ⟨rfl, rfl⟩]
        unfold PO tripM at *
        rw [g 0 (by decide), g 1 (by decide), g 2 (by decide), g 3 (by decide), g 4 (by decide), g 5 (by decide), g 6 (by decide), g 7 (by decide), g 8 (by decide), g5, n 2 (by decide), n 3 (by decide), n 4 (by decide), n 5 (by decide), n 6 (by decide), n 7 (by decide), n 8 (by decide), n 9 (by decide), updM_self]
        exact ⟨h.1, h.2.1, h.2.2.1, h.2.2.2.1, h.2.2.2.2.1, h.2.2.2.2.2.1, rfl, h.2.2.2.2.2.2.2.1, h.2.2.2.2.2.2.2.2.1, h.2.2.2.2.2.2.2.2.2⟩
      · exact Or.inl ⟨by omega, fun j _ _ => updM_ne (by omega)⟩) (fun p _ => items_upd (by omega)) (fun p _ => Or.inl ⟨by have := hG.o16 ho; omega, updM_ne (by omega), updM_ne (by omega)⟩) (fun b _ => ⟨by have := hG.o16 ho; omega, updM_ne (by omega), updM_ne (by omega), updM_ne (by omega)⟩)
theorem RP_pil {A : AH} {r p i : Nat} {M : MR} {v : Int} (hr : r + 31 ≤ 376) (hG : MC M) (hP : RP A r M) (hp : (p : Int) < M 18 1) (hi : i < 2) : RP (sI A (r + 22 + p) i v) r (updM M (11 + i) p v) :=
  hP.upd hG (FX_sI A (S := fun _ => True) (by have := hG.p6 hp; omega) trivial).1 (r + 22 + p) (fun a _ _ h k => by rw [gI_sI, if_neg (by omega)]) (fun a _ _ => rfl) ⟨updM_ne (by omega), updM_ne (by omega), updM_ne (by omega), updM_ne (by omega)⟩ (fun k _ => updM_ne (by omega))
    (Or.inl ⟨by omega, by omega, fun k => updM_ne (by omega), fun k => updM_ne (by omega)⟩) (Or.inl ⟨by omega, updM_ne (by omega)⟩)
    (fun o ho => Or.inl ⟨by have := hG.o16 ho; omega, fun j _ _ => updM_ne (by omega)⟩) (fun p _ => items_upd (by omega)) (fun q hq => by
      by_cases e : q = p
      · subst e
        right
        obtain ⟨L, l1, -⟩ := hP.2.2.2.1 q hq
        by_cases e0 : i = 0
        · subst e0
          rw [gI_sI, if_pos ⟨rfl, rfl⟩, gI_sI, if_neg (by omega), updM_self, updM_ne (by omega)]
          exact ⟨rfl, l1.2.1⟩
        · have e1 : i = 1 := by omega
          subst e1
          rw [gI_sI, if_neg (by omega), gI_sI, if_pos ⟨rfl, rfl⟩, updM_ne (by omega), updM_self]
          exact ⟨l1.1, rfl⟩
      · exact Or.inl ⟨by omega, updM_ne (by omega), updM_ne (by omega)⟩) (fun b _ => ⟨by have := hG.p6 hp; omega, updM_ne (by omega), updM_ne (by omega), updM_ne (by omega)⟩)
/-- the trips done of a pilot stand in the reference's row alone -/
theorem RP_13 {A : AH} {r p : Nat} {M : MR} {v : Int} (hG : MC M) (hP : RP A r M) : RP A r (updM M 13 p v) :=
  hP.upd hG (KL.rf A) 0 (fun a _ _ _ k => rfl) (fun a _ _ => rfl) ⟨updM_ne (by omega), updM_ne (by omega), updM_ne (by omega), updM_ne (by omega)⟩ (fun k _ => updM_ne (by omega))
    (Or.inl ⟨by omega, by omega, fun k => updM_ne (by omega), fun k => updM_ne (by omega)⟩) (Or.inr ⟨by rw [updM_ne (by omega)]; exact hP.2.1.1, rfl, rfl, rfl⟩)
    (fun o ho => Or.inl ⟨by omega, fun j _ _ => updM_ne (by omega)⟩) (fun p _ => items_upd (by omega)) (fun q hq => Or.inl ⟨by omega, updM_ne (by omega), updM_ne (by omega)⟩) (fun b _ => ⟨by omega, updM_ne (by omega), updM_ne (by omega), updM_ne (by omega)⟩)
