/-! what the program's calls leave as it is -/
def FX (c : Nat) (S : Nat → Prop) (A B : AH) : Prop := KL A B ∧ (hN B ≤ hN A + c ∧ hSl A ≤ hSl B ∧ hSl B ≤ hSl A + 7 * c) ∧ hDb B = hDb A ∧ ∀ a, a < 376 → ¬ S a → ∀ k, gI B a k = gI A a k ∧ gP B a k = gP A a k
theorem FX.rf {S : Nat → Prop} (A : AH) : FX 0 S A A := ⟨KL.rf A, ⟨by omega, by omega, by omega⟩, rfl, fun _ _ _ _ => ⟨rfl, rfl⟩⟩
theorem FX.tr {c d : Nat} {S : Nat → Prop} {A B C : AH} (h : FX c S A B) (h2 : FX d S B C) : FX (c + d) S A C := by
  obtain ⟨a1, a2, a3, a4⟩ := h
  obtain ⟨b1, b2, b3, b4⟩ := h2
  refine ⟨a1.tr b1, ⟨by omega, by omega, by omega⟩, b3.trans a3, fun a h1 h2 k => ?_⟩
  have e1 := a4 a h1 h2 k
  have e2 := b4 a h1 h2 k
  exact ⟨e2.1.trans e1.1, e2.2.trans e1.2⟩
theorem FX.mono {c d : Nat} {S S' : Nat → Prop} {A B : AH} (h : FX c S A B) (hc : c ≤ d) (hs : ∀ a, a < 376 → S a → S' a) : FX d S' A B := by
  obtain ⟨a1, a2, a3, a4⟩ := h
  exact ⟨a1, ⟨by omega, by omega, by omega⟩, a3, fun a h1 h2 k => a4 a h1 (fun z => h2 (hs a h1 z)) k⟩
theorem FQ.fx {T : Nat → Nat → Prop} {S : Nat → Prop} {A B : AH} (h : FQ T A B) (hT : ∀ a k, T a k → a < 376 ∧ S a) : FX 0 S A B := by
  have e1 : hN B = hN A := h.eN
  have e2 : hSl B = hSl A := by unfold hSl; rw [h.1]
  have e3 : hDb B = hDb A := by unfold hDb; rw [h.2.1]
  have e4 : ∀ a, gK B a = gK A a := fun a => by unfold gK; rw [h.2.1]
  refine ⟨⟨by omega, fun a h1 _ => ⟨e4 a, fun k => h.2.2 a k (fun z => by have := (hT a k z).1; omega), fun k => h.eP a k⟩⟩, ⟨by omega, by omega, by omega⟩, e3, fun a h1 h2 k => ⟨h.2.2 a k (fun z => h2 (hT a k z).2), h.eP a k⟩⟩
theorem FQ.setc {c : Nat} {A B : AH} (h : FQ (fun a _ => a = c) A B) {k : Nat} {v : Int} : FQ (fun a _ => a = c) A (sI B c k v) := h.set (S := fun a _ => a = c) rfl
theorem PO.mv {A B : AH} {y o : Nat} {M M' : MR} (h : PO A y M o) (hB : ∀ k, gI B y k = gI A y k) (hM : ∀ j, 2 ≤ j → j ≤ 10 → M' j o = M j o) : PO B y M' o := by
  unfold PO tripM at *
  simp only [hB, hM 2 (by omega) (by omega), hM 3 (by omega) (by omega), hM 4 (by omega) (by omega), hM 5 (by omega) (by omega), hM 6 (by omega) (by omega), hM 7 (by omega) (by omega), hM 8 (by omega) (by omega), hM 9 (by omega) (by omega), hM 10 (by omega) (by omega)]
  exact h
theorem PP.mv {A B : AH} {y p : Nat} {M M' : MR} {L : List LG} (h : PP A y M p L) (hK : KL A B) (hB : ∀ k, gI B y k = gI A y k) (hP : gP B y 2 = gP A y 2) (h1 : M' 11 p = M 11 p) (h2 : M' 12 p = M 12 p) : PP B y M' p L := by
  unfold PP at *
  rw [hB, hB, hP, h1, h2]
  exact ⟨h.1, h.2.1, h.2.2.kl hK⟩
theorem PL.mv {M M' : MR} {p : Int} {L : List LG} (h : PL M p L) (he : itemsL M' p = itemsL M p) : PL M' p L := by
  unfold PL at *
  rw [he]
  exact h
theorem PB.mv {A B : AH} {y b : Nat} {M M' : MR} (h : PB A y M b) (hB : ∀ k, gI B y k = gI A y k) (h1 : M' 14 b = M 14 b) (h2 : M' 15 b = M 15 b) (h3 : M' 16 b = M 16 b) (h4 : ridesM M' b = ridesM M b) : PB B y M' b := by
  unfold PB at *
  rw [hB, hB, hB, hB, hB, h1, h2, h3, h4]
  exact h
theorem selF_congr {f g : Nat → Bool} : ∀ {n a : Nat}, (∀ i, a ≤ i → i < a + n → f i = g i) → selF f n a = selF g n a
  | 0, a, h => rfl
  | n + 1, a, h => by
    rw [selF, selF, h a (by omega) (by omega), selF_congr (fun i h1 h2 => h i (by omega) (by omega))]
theorem selF_succ (f : Nat → Bool) : ∀ (n a : Nat), selF f (n + 1) a = selF f n a ++ (if f (a + n) then [a + n] else [])
  | 0, a => by
    rw [selF, selF, Nat.add_zero]
    rfl
  | n + 1, a => by
    rw [selF, selF_succ f n (a + 1), selF, show a + 1 + n = a + (n + 1) by omega]
    split <;> rfl
theorem selF_ins {f g : Nat → Bool} {o : Nat} (hf : f o = false) (hg : g o = true) (h : ∀ i, i ≠ o → f i = g i) : ∀ {n a : Nat}, a ≤ o → o < a + n → (o :: selF f n a).Perm (selF g n a)
  | 0, a, h1, h2 => by omega
  | n + 1, a, h1, h2 => by
    rw [selF, selF]
    by_cases e : a = o
    · subst e
      rw [if_neg (by rw [hf]; decide), if_pos hg, selF_congr (fun i h3 h4 => h i (by omega))]
    · rw [h a e]
      by_cases hh : g a = true
      · rw [if_pos hh, if_pos hh]
        exact (List.Perm.swap a o _).trans ((selF_ins hf hg h (by omega) (by omega)).cons a)
      · rw [if_neg hh, if_neg hh]
        exact selF_ins hf hg h (by omega) (by omega)
theorem items_congr {M M' : MR} {p : Int} (h3 : M' 18 3 = M 18 3) (h4 : M' 18 4 = M 18 4) (ht : ∀ o : Nat, (o : Int) < M 18 3 → tofM M' o p = tofM M o p ∧ (tofM M o p = true → legT M' o = legT M o)) (hr : ∀ k : Nat, (k : Int) < M 18 4 → M' 17 k = M 17 k) : itemsL M' p = itemsL M p := by
  unfold itemsL tripsL ridesL
  rw [h3, h4, selF_congr (f := fun o => tofM M' o p) (g := fun o => tofM M o p) (fun i _ h => (ht i (by omega)).1), selF_congr (f := fun k => hasR (M' 17 k) p) (g := fun k => hasR (M 17 k) p) (fun i _ h => by rw [hr i (by omega)])]
  congr 1
  · refine List.map_congr_left (fun o ho => ?_)
    have := mem_selF.mp ho
    exact (ht o (by omega)).2 this.2
  · refine List.map_congr_left (fun k hk => ?_)
    have := mem_selF.mp hk
    unfold legR
    rw [hr k (by omega)]
theorem rides_congr {M M' : MR} {b : Nat} (h4 : M' 18 4 = M 18 4) (hr : ∀ k : Nat, (k : Int) < M 18 4 → M' 17 k = M 17 k) : ridesM M' b = ridesM M b := by
  unfold ridesM
  rw [h4]
  exact sumN_congr (fun i _ h => by rw [hr i (by omega)])
/-- the roster at r in another heap -/
theorem RP.fx {c : Nat} {S : Nat → Prop} {A B : AH} {r : Nat} {M : MR} (hP : RP A r M) (hG : GD M) (hf : FX c S A B) (hS : ∀ a, r ≤ a → a ≤ r + 30 → a < 376 ∧ ¬ S a) : RP B r M := by
  have hs : ∀ a, r ≤ a → a ≤ r + 30 → ∀ k, gI B a k = gI A a k ∧ gP B a k = gP A a k := fun a h1 h2 k => hf.2.2.2 a (hS a h1 h2).1 (hS a h1 h2).2 k
  obtain ⟨⟨t1, t2⟩, ⟨c1, c2, c3, c4⟩, ho, hp, hb⟩ := hP
  refine ⟨⟨fun k hk => ?_, fun k hk => ?_⟩, ⟨?_, ?_, ?_, ?_⟩, fun o h => ?_, fun p h => ?_, fun b h => ?_⟩
  · rw [(hs (r + 1) (by omega) (by omega) k).1]; exact t1 k hk
  · rw [(hs (r + 2) (by omega) (by omega) k).1]; exact t2 k hk
  · rw [(hs r (by omega) (by omega) 5).1]; exact c1
  · rw [(hs r (by omega) (by omega) 6).1]; exact c2
  · rw [(hs r (by omega) (by omega) 7).1]; exact c3
  · rw [(hs r (by omega) (by omega) 8).1]; exact c4
  · have := hG.o16 h
    exact (ho o h).mv (fun k => (hs _ (by omega) (by omega) k).1) (fun _ _ _ => rfl)
  · have := hG.p6 h
    obtain ⟨L, l1, l2⟩ := hp p h
    exact ⟨L, l1.mv hf.1 (fun k => (hs _ (by omega) (by omega) k).1) (hs _ (by omega) (by omega) 2).2 rfl rfl, l2⟩
  · have := hG.b3 h
    exact (hb b h).mv (fun k => (hs _ (by omega) (by omega) k).1) rfl rfl rfl rfl
/-! a leg more -/
theorem X4_add {N : Nat} {A : AH} {y : Nat} {L : List LG} {k s b e g : Int} (hy : y < 376) (hA : 376 ≤ hN A) (hC : CH A (gP A y 2) L) (hL : L.length ≤ 100000) : ∃ B, fX4_add N A y k s b e g = some B ∧ CH B (gP B y 2) ((k, s, b, e, g) :: L) ∧ FX 1 (fun a => a = y) A B ∧ ∀ j, gI B y j = gI A y j := by
  obtain ⟨q, hq⟩ : ∃ q, q = hN A := ⟨_, rfl⟩
  obtain ⟨y1, hy1⟩ : ∃ y1, y1 = gP A y 2 := ⟨_, rfl⟩
  have hi : (if y1 = 0 then (0 : Int) else wrap ((gI (sP (nC A 2 7) q 0 y1) y1 1) + 1)) = (L.length : Int) := by
    rw [← hy1] at hC
    cases L with
    | nil => rw [if_pos hC.z]; rfl
    | cons x L =>
      have h1 := hC.1
      rw [if_neg hC.nz, gI_sP, gI_nC, if_neg (by have := h1.1.2.1; omega), h1.2.1, List.length_cons]
      simp only [List.length_cons] at hL
      exact wrap_eq (by omega) (by omega)
  have ef : fX4_add N A y k s b e g = some (sP (sI (sI (sI (sI (sI (sI (sP (nC A 2 7) q 0 y1) q 1 (L.length : Int)) q 2 k) q 3 s) q 4 b) q 5 e) q 6 g) y 2 q) := by
    unfold fX4_add fX2_init fX2_init_24
    simp only [bnd_eq]
    rw [← hq, gP_nC, ← hq, if_neg (show ¬ y = q by omega), ← hy1]
    by_cases h0 : y1 = 0
    · rw [if_pos h0] at hi
      rw [if_pos h0, obind_some, ← hi]
    · rw [if_neg h0] at hi
      rw [if_neg h0, obind_some, hi]
  obtain ⟨B, hB⟩ : ∃ B, B = sP (sI (sI (sI (sI (sI (sI (sP (nC A 2 7) q 0 y1) q 1 (L.length : Int)) q 2 k) q 3 s) q 4 b) q 5 e) q 6 g) y 2 q := ⟨_, rfl⟩
  have eI : ∀ a j, a ≠ q → gI B a j = gI A a j := fun a j h => by
    rw [hB]
    simp only [gI_sP, gI_sI]
    rw [if_neg (by omega), if_neg (by omega), if_neg (by omega), if_neg (by omega), if_neg (by omega), if_neg (by omega), gI_nC, if_neg (by omega)]
  have eP : ∀ a j, a ≠ q → a ≠ y → gP B a j = gP A a j := fun a j h h2 => by
    rw [hB, gP_sP, if_neg (by omega)]
    simp only [gP_sI]
    rw [gP_sP, if_neg (by omega), gP_nC, if_neg (by omega)]
  have eN : hN B = hN A + 1 := by rw [hB]; rfl
  have eS : hSl B = hSl A + 7 := by rw [hB]; rfl
  have eK : ∀ a, gK B a = if a = q then 2 else gK A a := fun a => by
    rw [hB, gK_sP]
    simp only [gK_sI]
    rw [gK_sP, gK_nC, ← hq]
  have hK : KL A B := ⟨by omega, fun a h1 h2 => ⟨by rw [eK, if_neg (by omega)], fun k => eI a k (by omega), fun k => eP a k (by omega) (by omega)⟩⟩
  refine ⟨B, by rw [ef, hB], ?_, ⟨hK, ⟨by omega, by omega, by omega⟩, by rw [hB]; rfl, fun a h1 h2 k => ⟨eI a k (by omega), eP a k (by omega) h2⟩⟩, fun j => eI y j (by omega)⟩
  have e0 : gP B y 2 = q := by rw [hB, gP_sP, if_pos ⟨rfl, rfl⟩]
  have e1 : gP B q 0 = y1 := by
    rw [hB, gP_sP, if_neg (by omega)]
    simp only [gP_sI]
    rw [gP_sP, if_pos ⟨rfl, rfl⟩]
  rw [e0]
  refine ⟨⟨⟨by omega, by omega, by rw [eK, if_pos rfl]⟩, ?_, ?_, ?_, ?_, ?_, ?_⟩, ?_⟩
  · rw [hB]; simp [gI_sP, gI_sI]
  · rw [hB]; simp [gI_sP, gI_sI, lgK]
  · rw [hB]; simp [gI_sP, gI_sI, lgS]
  · rw [hB]; simp [gI_sP, gI_sI, lgB]
  · rw [hB]; simp [gI_sP, gI_sI, lgE]
  · rw [hB]; simp [gI_sP, gI_sI, lgG]
  · rw [e1, hy1]
    exact hC.kl hK
/-- the plan with one leg more, or one less -/
theorem PL.head {M : MR} {p : Int} {L : List LG} (h : PL M p L) : ∀ y ∈ L, lgE y ≤ frees L := by
  obtain ⟨-, h2, h3⟩ := h
  cases L with
  | nil => intro y hy; cases hy
  | cons x L =>
    intro y hy
    show lgE y ≤ lgE x
    rcases List.mem_cons.mp hy with e | e
    · rw [e]; exact Int.le_refl _
    · have a1 := (List.pairwise_cons.mp h2).1 y e
      have a2 := (h3 x List.mem_cons_self).1
      omega
theorem PL.cons {M M' : MR} {p : Int} {L : List LG} {x : LG} (h : PL M p L) (hi : (x :: itemsL M p).Perm (itemsL M' p)) (h1 : frees L ≤ lgB x) (h2 : lgB x < lgE x ∧ 0 ≤ lgB x ∧ lgE x ≤ 2000) : PL M' p (x :: L) := by
  refine ⟨(h.1.cons x).trans hi, List.pairwise_cons.mpr ⟨fun y hy => ?_, h.2.1⟩, fun y hy => ?_⟩
  · have := h.head y hy
    omega
  · rcases List.mem_cons.mp hy with e | e
    · rw [e]; exact h2
    · exact h.2.2 y e
theorem PL.tail {M M' : MR} {p : Int} {L : List LG} {x : LG} (h : PL M p (x :: L)) (hi : (x :: itemsL M' p).Perm (itemsL M p)) : PL M' p L :=
  ⟨(h.1.trans hi.symm).cons_inv, (List.pairwise_cons.mp h.2.1).2, fun y hy => h.2.2 y (List.mem_cons_of_mem _ hy)⟩
/-- the items of a row in which one order more is a trip -/
theorem items_ins {M M' : MR} {p : Int} {o : Nat} (ho : (o : Int) < M 18 3) (h3 : M' 18 3 = M 18 3) (h4 : M' 18 4 = M 18 4) (hf : tofM M o p = false) (hg : tofM M' o p = true) (ht : ∀ i : Nat, i ≠ o → tofM M' i p = tofM M i p ∧ legT M' i = legT M i) (hr : ∀ k : Nat, (k : Int) < M 18 4 → M' 17 k = M 17 k) : (legT M' o :: itemsL M p).Perm (itemsL M' p) := by
  unfold itemsL tripsL ridesL
  rw [h3, h4, selF_congr (f := fun k => hasR (M' 17 k) p) (g := fun k => hasR (M 17 k) p) (fun i _ h => by rw [hr i (by omega)])]
  have e2 : (selF (fun k => hasR (M 17 k) p) (M 18 4).toNat 0).map (legR M') = (selF (fun k => hasR (M 17 k) p) (M 18 4).toNat 0).map (legR M) := List.map_congr_left (fun k hk => by
    have := mem_selF.mp hk
    unfold legR
    rw [hr k (by omega)])
  rw [e2, ← List.cons_append]
  refine List.Perm.append_right _ ?_
  have e1 : (selF (fun o => tofM M o p) (M 18 3).toNat 0).map (legT M) = (selF (fun o => tofM M o p) (M 18 3).toNat 0).map (legT M') := List.map_congr_left (fun i hi => by
    have := mem_selF.mp hi
    refine (ht i (fun e => ?_)).2.symm
    rw [e] at this
    rw [hf] at this
    exact absurd this.2 (by decide))
  rw [e1, ← List.map_cons]
  exact (selF_ins (f := fun o => tofM M o p) (g := fun o => tofM M' o p) hf hg (fun i hi => (ht i hi).1.symm) (by omega) (by omega)).map _
theorem tofM_updo {M : MR} {o i : Nat} {p : Int} {a : Nat} {v : Int} (h : i ≠ o) : tofM (updM M a o v) i p = tofM M i p := by
  unfold tofM tripM
  rw [updM_ne (by omega), updM_ne (by omega)]
theorem legT_updo {M : MR} {o i : Nat} {a : Nat} {v : Int} (h : i ≠ o) : legT (updM M a o v) i = legT M i := by
  unfold legT endM
  rw [updM_ne (by omega), updM_ne (by omega), updM_ne (by omega)]
/-! a trip is planned -/
theorem plM_at (M : MR) (o : Nat) (p h : Int) (j i : Nat) : plM M o p h j i = if j = 9 ∧ i = o then h else if j = 8 ∧ i = o then p else if j = 7 ∧ i = o then 1 else M j i := rfl
theorem plM_o {M : MR} {o : Nat} {p h : Int} {j i : Nat} (hi : i ≠ o) : plM M o p h j i = M j i := by
  rw [plM_at, if_neg (by omega), if_neg (by omega), if_neg (by omega)]
theorem plM_j {M : MR} {o : Nat} {p h : Int} {j i : Nat} (hj : j < 7 ∨ 9 < j) : plM M o p h j i = M j i := by
  rw [plM_at, if_neg (by omega), if_neg (by omega), if_neg (by omega)]
theorem plM_7 {M : MR} {o : Nat} {p h : Int} : plM M o p h 7 o = 1 := by rw [plM_at]; simp
theorem plM_8 {M : MR} {o : Nat} {p h : Int} : plM M o p h 8 o = p := by rw [plM_at]; simp
theorem plM_9 {M : MR} {o : Nat} {p h : Int} : plM M o p h 9 o = h := by rw [plM_at]; simp
theorem plM_tof {M : MR} {o i : Nat} {p h q : Int} (hi : i ≠ o) : tofM (plM M o p h) i q = tofM M i q := by
  unfold tofM tripM
  rw [plM_o hi, plM_o hi]
theorem plM_leg {M : MR} {o i : Nat} {p h : Int} (hi : i ≠ o) : legT (plM M o p h) i = legT M i := by
  unfold legT endM
  rw [plM_o hi, plM_o hi, plM_o hi]
theorem GD.plM {M : MR} {o p : Nat} {h : Int} (hG : GD M) (ho : (o : Int) < M 18 3) (hp : (p : Int) < M 18 1) (hh : 0 ≤ h ∧ h ≤ 900) (h7 : M 7 o = 0) : GD (plM M o p h) := by
  obtain ⟨g1, g2, g3, g4, g5, g6, g7⟩ := hG
  refine ⟨?_, ?_, fun i hi => ?_, fun i hi => ?_, fun i hi => ?_, ?_, fun i hi => ?_⟩
  · unfold MRu at *
    simp only [plM_j (M := M) (o := o) (p := p) (h := h) (j := 0) (Or.inl (by decide)), plM_j (M := M) (o := o) (p := p) (h := h) (j := 1) (Or.inl (by decide))]
    exact g1
  · unfold MC at *
    simp only [plM_j (M := M) (o := o) (p := p) (h := h) (j := 18) (Or.inr (by decide))]
    exact g2
  · rw [plM_j (Or.inr (by decide))] at hi
    have hm := g3 i hi
    by_cases e : i = o
    · subst e
      unfold MO tripM at *
      rw [plM_7, plM_8, plM_9, plM_j (Or.inl (by decide)), plM_j (Or.inl (by decide)), plM_j (Or.inl (by decide)), plM_j (Or.inl (by decide)), plM_j (Or.inl (by decide)), plM_j (Or.inr (by decide)), plM_j (Or.inr (by decide))]
      exact ⟨hm.1, hm.2.1, hm.2.2.1, hm.2.2.2.1, by decide, hm.2.2.2.2.2.1, fun _ => ⟨⟨by omega, hp⟩, hh⟩⟩
    · unfold MO tripM at *
      simp only [plM_o e, plM_j (M := M) (o := o) (p := p) (h := h) (j := 18) (Or.inr (by decide))]
      exact hm
  · rw [plM_j (Or.inr (by decide))] at hi
    have hm := g4 i hi
    rw [plM_j (Or.inr (by decide)), plM_j (Or.inr (by decide))]
    refine ⟨hm.1, hm.2.trans ?_⟩
    unfold doneM
    rw [plM_j (Or.inr (by decide))]
    refine sumN_congr (fun j _ hj => ?_)
    by_cases e : j = o
    · subst e
      rw [plM_7, h7, if_neg (by omega), if_neg (by omega)]
    · rw [plM_o e, plM_o e]
  · rw [plM_j (Or.inr (by decide))] at hi
    rw [plM_j (Or.inr (by decide)), plM_j (Or.inr (by decide)), plM_j (Or.inr (by decide))]
    exact g5 i hi
  · rw [plM_j (Or.inr (by decide)), plM_j (Or.inr (by decide)), g6]
    exact sumN_congr (fun j _ _ => (plM_j (Or.inr (by decide))).symm)
  · rw [plM_j (Or.inr (by decide))] at hi
    unfold RU
    rw [plM_j (Or.inr (by decide)), plM_j (Or.inr (by decide)), plM_j (Or.inr (by decide))]
    exact g7 i hi
theorem X5_addTrip {N : Nat} {A : AH} {r o p : Nat} {M : MR} {h : Int} (hA : 376 ≤ hN A) (hr : r + 31 ≤ 376) (hG : GD M) (hP : RP A r M) (ho : (o : Int) < M 18 3) (hp : (p : Int) < M 18 1) (h7 : M 7 o = 0) (hh : 0 ≤ h ∧ h ≤ 900) (hf : freM M p ≤ h) : ∃ B, fX5_addTrip N A r o p h = some B ∧ RP B r (plM M o p h) ∧ FX 1 (fun a => r ≤ a ∧ a ≤ r + 30) A B ∧ gI B (r + 6 + o) 8 = h + M 2 o + 2 := by
  have h16 := hG.o16 ho
  have h6 := hG.p6 hp
  have hM := hG.2.2.1 o ho
  have o1 := hM.1
  have hO := hP.2.2.1 o ho
  obtain ⟨L, l1, l2⟩ := hP.2.2.2.1 p hp
  have hlen := l2.len hG.2.1
  obtain ⟨C, hC⟩ : ∃ C, C = sI (sI (sI (sI A (r + 6 + o) 5 1) (r + 6 + o) 6 p) (r + 6 + o) 7 h) (r + 6 + o) 8 (h + M 2 o + 2) := ⟨_, rfl⟩
  have eC : fX3_setPlanned N A (r + 6 + o) p h = some C := by
    unfold fX3_setPlanned fX3_tripHours
    simp only [bnd_eq]
    rw [obind_some, gI_sI, if_neg (by omega), gI_sI, if_neg (by omega), gI_sI, if_neg (by omega), hO.1, wrap_eq (z := M 2 o + 2) (by omega) (by omega), wrap_eq (by omega) (by omega), hC, show h + (M 2 o + 2) = h + M 2 o + 2 by omega]
  have fC : FQ (fun a _ => a = r + 6 + o) A C := by
    rw [hC]
    exact FQ.setc (FQ.setc (FQ.setc (FQ.setc (FQ.rf A))))
  have xC : FX 0 (fun a => a = r + 6 + o) A C := fC.fx (fun a k z => ⟨by omega, z⟩)
  have c0 : gI C (r + 6 + o) 1 = M 3 o := by
    rw [hC]
    simp only [gI_sI]
    rw [if_neg (by omega), if_neg (by omega), if_neg (by omega), if_neg (by omega)]
    exact hO.2.1
  have c8 : gI C (r + 6 + o) 8 = h + M 2 o + 2 := by rw [hC]; simp [gI_sI]
  have eg : fX3_goal N C (r + 6 + o) = some (M 3 o) := by
    unfold fX3_goal
    rw [c0]
    rcases hM.2.1 with z | z <;> rw [z] <;> rfl
  have hch : CH C (gP C (r + 22 + p) 2) L := by
    rw [fC.eP]
    exact l1.2.2.kl xC.1
  obtain ⟨B, b1, b2, b3, b4⟩ := X4_add (N := N) (A := C) (y := r + 22 + p) (L := L) (k := 0) (s := o) (b := h) (e := h + M 2 o + 2) (g := M 3 o) (by omega) (by have := fC.eN; omega) hch (by omega)
  have xB : FX 1 (fun a => a = r + 6 + o ∨ a = r + 22 + p) A B := (xC.mono (Nat.le_refl 0) (fun a _ z => Or.inl z)).tr (b3.mono (Nat.le_refl 1) (fun a _ z => Or.inr z))
  have e8 : gI B (r + 6 + o) 8 = h + M 2 o + 2 := by
    rw [(b3.2.2.2 (r + 6 + o) (by omega) (by omega) 8).1, c8]
  refine ⟨B, ?_, ?_, xB.mono (Nat.le_refl 1) (fun a _ z => by omega), e8⟩
  · unfold fX5_addTrip
    rw [X5_hasOrder hP, obind_some, decide_eq_true (show 0 ≤ (o : Int) ∧ (o : Int) < M 18 3 by omega), if_neg (by decide), X5_hasPilot hP, obind_some, decide_eq_true (show 0 ≤ (p : Int) ∧ (p : Int) < M 18 1 by omega), if_neg (by decide), ck16 h16, Int.toNat_natCast, eC, obind_some, chk_pos _ (show 0 ≤ (p : Int) ∧ (p : Int) < 6 by omega), eg, obind_some, Int.toNat_natCast, c8, b1, obind_some]
  · have hs : ∀ a, a < 376 → a ≠ r + 6 + o → a ≠ r + 22 + p → ∀ k, gI B a k = gI A a k ∧ gP B a k = gP A a k := fun a h1 h2 h3 k => xB.2.2.2 a h1 (by omega) k
    obtain ⟨⟨t1, t2⟩, ⟨c1, c2, c3, c4⟩, ho', hp', hb'⟩ := hP
    have j18 : ∀ i, plM M o p h 18 i = M 18 i := fun i => plM_j (Or.inr (by decide))
    refine ⟨⟨fun k hk => ?_, fun k hk => ?_⟩, ⟨?_, ?_, ?_, ?_⟩, fun i hi => ?_, fun i hi => ?_, fun i hi => ?_⟩
    · rw [(hs (r + 1) (by omega) (by omega) (by omega) k).1, plM_j (Or.inl (by decide))]; exact t1 k hk
    · rw [(hs (r + 2) (by omega) (by omega) (by omega) k).1, plM_j (Or.inl (by decide))]; exact t2 k hk
    · rw [(hs r (by omega) (by omega) (by omega) 5).1, j18]; exact c1
    · rw [(hs r (by omega) (by omega) (by omega) 6).1, j18]; exact c2
    · rw [(hs r (by omega) (by omega) (by omega) 7).1, j18]; exact c3
    · rw [(hs r (by omega) (by omega) (by omega) 8).1, j18]; exact c4
    · rw [j18] at hi
      by_cases e : i = o
      · subst e
        have hk : ∀ k, gI B (r + 6 + i) k = gI C (r + 6 + i) k := fun k => (b3.2.2.2 (r + 6 + i) (by omega) (by omega) k).1
        unfold PO tripM
        simp only [hk]
        rw [plM_7, plM_8, plM_9, plM_j (j := 2) (Or.inl (by decide)), plM_j (j := 3) (Or.inl (by decide)), plM_j (j := 4) (Or.inl (by decide)), plM_j (j := 5) (Or.inl (by decide)), plM_j (j := 6) (Or.inl (by decide)), plM_j (j := 10) (Or.inr (by decide)), if_pos (Or.inl rfl), if_pos (Or.inl rfl), if_pos (Or.inl rfl), hC]
        simp only [gI_sI]
        refine ⟨?_, ?_, ?_, ?_, ?_, ?_, ?_, ?_, ?_, ?_⟩
        · rw [if_neg (by omega), if_neg (by omega), if_neg (by omega), if_neg (by omega)]; exact hO.1
        · rw [if_neg (by omega), if_neg (by omega), if_neg (by omega), if_neg (by omega)]; exact hO.2.1
        · rw [if_neg (by omega), if_neg (by omega), if_neg (by omega), if_neg (by omega)]; exact hO.2.2.1
        · rw [if_neg (by omega), if_neg (by omega), if_neg (by omega), if_neg (by omega)]; exact hO.2.2.2.1
        · rw [if_neg (by omega), if_neg (by omega), if_neg (by omega), if_neg (by omega)]; exact hO.2.2.2.2.1
        · simp
        · rw [if_neg (by omega), if_neg (by omega), if_neg (by omega), if_neg (by omega)]; exact hO.2.2.2.2.2.2.1
        · simp
        · simp
        · simp
      · have := hG.o16 hi
        exact (ho' i hi).mv (fun k => (hs _ (by omega) (by omega) (by omega) k).1) (fun j _ _ => plM_o e)
    · rw [j18] at hi
      have hi6 := hG.p6 hi
      by_cases e : i = p
      · subst e
        refine ⟨(0, (o : Int), h, h + M 2 o + 2, M 3 o) :: L, ⟨?_, ?_, b2⟩, ?_⟩
        · rw [b4, plM_j (Or.inr (by decide)), fC.2.2 _ _ (by omega)]; exact l1.1
        · rw [b4, plM_j (Or.inr (by decide)), fC.2.2 _ _ (by omega)]; exact l1.2.1
        · have hl : legT (plM M o i h) o = (0, (o : Int), h, h + M 2 o + 2, M 3 o) := by
            unfold legT endM
            rw [plM_9, plM_j (Or.inl (by decide)), plM_j (Or.inl (by decide))]
          refine l2.cons ?_ ?_ ?_
          · rw [← hl]
            refine items_ins ho (j18 3) (j18 4) ?_ ?_ (fun t ht => ⟨plM_tof ht, plM_leg ht⟩) (fun k _ => plM_j (Or.inr (by decide)))
            · unfold tofM tripM
              rw [h7]
              rfl
            · unfold tofM tripM
              rw [plM_7, plM_8]
              simp
          · rw [← l2.fre]; exact hf
          · show h < h + M 2 o + 2 ∧ 0 ≤ h ∧ h + M 2 o + 2 ≤ 2000
            omega
      · obtain ⟨L', q1, q2⟩ := hp' i hi
        refine ⟨L', q1.mv xB.1 (fun k => (hs _ (by omega) (by omega) (by omega) k).1) (hs _ (by omega) (by omega) (by omega) 2).2 (plM_j (Or.inr (by decide))) (plM_j (Or.inr (by decide))), q2.mv (items_congr (j18 3) (j18 4) (fun t ht => ?_) (fun k _ => plM_j (Or.inr (by decide))))⟩
        by_cases et : t = o
        · subst et
          unfold tofM tripM
          rw [plM_7, plM_8, h7]
          have : ¬ (p : Int) = (i : Int) := by omega
          simp [this]
        · exact ⟨plM_tof et, fun _ => plM_leg et⟩
    · rw [j18] at hi
      have := hG.b3 hi
      exact (hb' i hi).mv (fun k => (hs _ (by omega) (by omega) (by omega) k).1) (plM_j (Or.inr (by decide))) (plM_j (Or.inr (by decide))) (plM_j (Or.inr (by decide))) (rides_congr (j18 4) (fun k _ => plM_j (Or.inr (by decide))))
