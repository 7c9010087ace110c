/-! rows alike where they are read; how many changes are kept -/
theorem len_ord : ∀ j, j < 11 → 2 ≤ j → lenM j = 16 := by decide
theorem GD.meq {M M' : MR} (hG : GD M) (h : MEQ M M') : GD M' := by
  have c1 := hG.2.1.2.1
  have c2 := hG.2.1.2.2.1
  have c3 := hG.2.1.2.2.2.1
  have c4 := hG.2.1.2.2.2.2
  have hj : ∀ o : Nat, (o : Int) < M 18 3 → ∀ j, 2 ≤ j → j ≤ 10 → M' j o = M j o := fun o ho j h1 h2 => h j (by omega) o (by rw [len_ord j (by omega) h1]; omega)
  refine hG.upd ⟨h 18 (by decide) 1 (by decide), h 18 (by decide) 2 (by decide), h 18 (by decide) 3 (by decide), h 18 (by decide) 4 (by decide)⟩ ?_ (by rw [h 18 (by decide) 0 (by decide)]; exact hG.2.1.1) (fun o ho => (hG.2.2.1 o ho).same (hj o ho) (h 18 (by decide) 1 (by decide))) (fun p hp => ?_) (fun b hb => ⟨h 14 (by decide) b (show b < 3 by omega), h 15 (by decide) b (show b < 3 by omega), h 16 (by decide) b (show b < 3 by omega)⟩) (fun k hk => h 17 (by decide) k (show k < 2703 by omega))
  · have g := hG.1
    unfold MRu at *
    rw [h 0 (by decide) 0 (by decide), h 0 (by decide) 1 (by decide), h 0 (by decide) 2 (by decide), h 0 (by decide) 3 (by decide), h 0 (by decide) 4 (by decide)]
    exact ⟨g.1, g.2.1, g.2.2.1, g.2.2.2.1, g.2.2.2.2.1, fun k hk => by
      rw [h 1 (by decide) k hk]
      exact g.2.2.2.2.2 k hk⟩
  · rw [h 11 (by decide) p (show p < 6 by omega), h 13 (by decide) p (show p < 6 by omega), doneM_congr (M := M) (h 18 (by decide) 3 (by decide)) (fun o ho => by rw [hj o ho 7 (by omega) (by omega), hj o ho 8 (by omega) (by omega)])]
    exact hG.2.2.2.1 p hp
theorem items_meq {M M' : MR} {p : Int} (hC : MC M) (h : MEQ M M') : itemsL M' p = itemsL M p := by
  have c3 := hC.2.2.2.1
  have c4 := hC.2.2.2.2
  have hj : ∀ o : Nat, (o : Int) < M 18 3 → ∀ j, 2 ≤ j → j ≤ 10 → M' j o = M j o := fun o ho j h1 h2 => h j (by omega) o (by rw [len_ord j (by omega) h1]; omega)
  refine items_congr (h 18 (by decide) 3 (by decide)) (h 18 (by decide) 4 (by decide)) (fun o ho => ⟨?_, fun _ => ?_⟩) (fun k hk => h 17 (by decide) k (show k < 2703 by omega))
  · unfold tofM tripM
    rw [hj o ho 7 (by omega) (by omega), hj o ho 8 (by omega) (by omega)]
  · unfold legT endM
    rw [hj o ho 9 (by omega) (by omega), hj o ho 2 (by omega) (by omega), hj o ho 3 (by omega) (by omega)]
theorem RP.meq {A : AH} {r : Nat} {M M' : MR} (hG : GD M) (hP : RP A r M) (h : MEQ M M') : RP A r M' := by
  have c1 := hG.2.1.2.1
  have c2 := hG.2.1.2.2.1
  have c3 := hG.2.1.2.2.2.1
  have c4 := hG.2.1.2.2.2.2
  have hj : ∀ o : Nat, (o : Int) < M 18 3 → ∀ j, 2 ≤ j → j ≤ 10 → M' j o = M j o := fun o ho j h1 h2 => h j (by omega) o (by rw [len_ord j (by omega) h1]; omega)
  exact hP.upd hG.2.1 (KL.rf A) (r + 31) (fun _ _ _ _ _ => rfl) (fun _ _ _ => rfl) ⟨h 18 (by decide) 1 (by decide), h 18 (by decide) 2 (by decide), h 18 (by decide) 3 (by decide), h 18 (by decide) 4 (by decide)⟩ (fun k hk => h 17 (by decide) k (show k < 2703 by omega))
    (Or.inr ⟨fun k hk => by rw [h 0 (by decide) k hk]; exact hP.1.1 k hk, fun k hk => by rw [h 1 (by decide) k hk]; exact hP.1.2 k hk⟩) (Or.inl ⟨by omega, h 18 (by decide) 0 (by decide)⟩)
    (fun o ho => Or.inl ⟨by omega, hj o ho⟩) (fun p _ => items_meq hG.2.1 h) (fun p hp => Or.inl ⟨by omega, h 11 (by decide) p (show p < 6 by omega), h 12 (by decide) p (show p < 6 by omega)⟩)
    (fun b hb => ⟨by omega, h 14 (by decide) b (show b < 3 by omega), h 15 (by decide) b (show b < 3 by omega), h 16 (by decide) b (show b < 3 by omega)⟩)
theorem FQ.evs {S : Nat → Nat → Prop} {A B : AH} (h : FQ S A B) (hs : ∀ a k, S a k → ¬ ((350 ≤ a ∧ a ≤ 367) ∨ a = 349 ∧ 19 ≤ k ∧ k ≤ 23)) : mvA B = mvA A := by
  funext j i
  unfold mvA
  split
  · exact h.2.2 _ _ (fun z => hs _ _ z (by omega))
  · split
    · exact h.2.2 _ _ (fun z => hs _ _ z (by omega))
    · rfl
theorem X9_room12 {N : Nat} : ∀ {k n x : Nat} {A : AH}, x + k = 20272 → k < n → ∃ B, fX9_makesRoom_12 N n A x = some B ∧ FQ (fun a j => (a = 371 ∧ x ≤ j) ∨ a = 349 ∧ j = 41) A B ∧ gI B 349 41 = wrap (gI A 349 41 - 1) ∧ ∀ j, x ≤ j → j < 20272 → gI B 371 j = gI A 371 (j + 2896)
  | 0, n, x, A, h, hn => by
    match n, hn with
    | n + 1, _ =>
      refine ⟨sI A 349 41 (wrap (gI A 349 41 - 1)), ?_, FQ_sI A (by omega), by rw [gI_sI, if_pos ⟨rfl, rfl⟩], fun j h1 h2 => by omega⟩
      rw [fX9_makesRoom_12, if_pos (by omega)]
      rfl
  | k + 1, n, x, A, h, hn => by
    have ea : Unit → wrap ((x : Int) + 1) = ((x + 1 : Nat) : Int) := fun _ => wrap_eq (by omega) (by omega)
    have ec : Unit → wrap ((x : Int) + 2896) = ((x + 2896 : Nat) : Int) := fun _ => wrap_eq (by omega) (by omega)
    match n, hn with
    | n + 1, hn =>
      obtain ⟨B, b1, b2, b3, b4⟩ := X9_room12 (N := N) (k := k) (n := n) (x := x + 1) (A := sI A 371 x (gI A 371 (x + 2896))) (by omega) (Nat.lt_of_succ_lt_succ hn)
      refine ⟨B, ?_, ((FQ.rf A).set (by omega)).tr (b2.mono (fun a j q => by omega)), by rw [b3, gI_sI, if_neg (by omega)], fun j h1 h2 => ?_⟩
      · rw [fX9_makesRoom_12, if_neg (by omega), ec (), chk_pos _ (by omega), chk_pos _ (by omega)]
        simp only [bnd_eq]
        rw [ea (), Int.toNat_natCast, Int.toNat_natCast]
        exact b1
      · by_cases e : j = x
        · subst e
          rw [b2.2.2 _ _ (by omega), gI_sI, if_pos ⟨rfl, rfl⟩]
        · rw [b4 j (by omega) h2, gI_sI, if_neg (by omega)]
def SH (a k : Nat) : Prop := a = 371 ∨ a = 349 ∧ (k = 41 ∨ k = 42 ∨ k = 44)
/-- what remembering does -/
def MRem (A B : AH) : Prop := FQ SH A B ∧ ∃ c : Nat, c ≤ 8 ∧ gI A 349 41 = c ∧ gI B 349 41 = ((min 8 (c + 1) : Nat) : Int) ∧ (c < 8 → (∀ j, j < 2896 * c → gI B 371 j = gI A 371 j) ∧ ROW B 371 (2896 * c) (mvA A)) ∧ (c = 8 → (∀ j, j < 20272 → gI B 371 j = gI A 371 (j + 2896)) ∧ ROW B 371 20272 (mvA A))
theorem MRem.ev {A B : AH} (h : MRem A B) : mvA B = mvA A := h.1.evs (fun a k q => by unfold SH at q; omega)
theorem ROW.same {A B : AH} {y off : Nat} {M : MR} (h : ROW A y off M) (he : ∀ k, off ≤ k → k < off + 2896 → gI B y k = gI A y k) : ROW B y off M := fun j hj i hi => by
  have := of_tot j hj
  rw [he _ (by omega) (by omega)]
  exact h j hj i hi
theorem X9_remembers {N : Nat} {A : AH} {c : Nat} (hN : 25000 ≤ N) (hq : gI A 349 45 = 0) (hc : gI A 349 41 = c) (h8 : c ≤ 8) : ∃ B, fX9_remembers N A = some B ∧ MRem A B := by
  have j371 : jal (kd 371) = 23168 := by decide
  have keep : ∀ {C : AH} {d : Nat}, gI C 349 41 = d → d < 8 → ∃ B, obind (fX9_passAll N C 371 (wrap (2896 * (gI C 349 41))) 1) (fun p9 => bnd (sI p9 349 41 (wrap ((gI p9 349 41) + 1))) (fun A13 => some A13)) = some B ∧ FQ (fun a k => (a = 371 ∧ 2896 * d ≤ k) ∨ a = 349 ∧ (k = 41 ∨ k = 42 ∨ k = 44)) C B ∧ gI B 349 41 = ((d + 1 : Nat) : Int) ∧ ROW B 371 (2896 * d) (mvA C) := by
    intro C d hd h7
    obtain ⟨B, b1, b2, b3⟩ := X9_keep (N := N) (y := 371) (off := 2896 * d) (A := C) (by omega) (by decide) (by rw [j371]; omega) (by rw [j371]; decide)
    have e41 : gI B 349 41 = d := (b2.2.2 349 41 (by omega)).trans hd
    refine ⟨sI B 349 41 ((d + 1 : Nat) : Int), ?_, (b2.mono (fun a k q => by omega)).set (by omega), by rw [gI_sI, if_pos ⟨rfl, rfl⟩], b3.same (fun k _ _ => by rw [gI_sI, if_neg (by omega)])⟩
    rw [hd, show wrap (2896 * (d : Int)) = ((2896 * d : Nat) : Int) from wrap_eq (by omega) (by omega), b1, obind_some, bnd_eq, e41, wrap_eq (by omega) (by omega)]
    rfl
  unfold fX9_remembers
  rw [if_pos hq]
  unfold fX9_makesRoom
  by_cases e : c = 8
  · subst e
    obtain ⟨C, c1, c2, c3, c4⟩ := X9_room12 (N := N) (k := 20272) (n := N) (x := 0) (A := A) rfl (by omega)
    rw [hc] at c3
    obtain ⟨B, b1, b2, b3, b4⟩ := keep (C := C) (d := 7) (c3.trans (by decide)) (by decide)
    have vC : mvA C = mvA A := c2.evs (fun a k q => by omega)
    rw [if_pos (by rw [hc]; decide)]
    have c1' : fX9_makesRoom_12 N N A 0 = some C := c1
    rw [c1', obind_some]
    refine ⟨B, b1, (c2.mono (fun a k q => by unfold SH; omega)).tr (b2.mono (fun a k q => by unfold SH; omega)), 8, Nat.le_refl 8, hc, b3, fun q => absurd q (by decide), fun _ => ⟨fun j hj => ?_, by rw [← vC]; exact b4⟩⟩
    rw [b2.2.2 371 j (by omega), c4 j (by omega) hj]
  · rw [if_neg (by rw [hc]; omega), obind_some]
    obtain ⟨B, b1, b2, b3, b4⟩ := keep (C := A) hc (by omega)
    refine ⟨B, b1, b2.mono (fun a k q => by unfold SH; omega), c, h8, hc, by rw [b3, show min 8 (c + 1) = c + 1 by omega], fun _ => ⟨fun j hj => b2.2.2 371 j (by omega), b4⟩, fun q => absurd q e⟩
/-! both sides' kept states -/
def HR (A C : AH) : Prop := ∃ c f : Nat, c ≤ 8 ∧ f < 9 ∧ gI C 349 41 = c ∧ gI A 64 2 = c ∧ gI A 64 1 = f ∧ ∀ i, i < c → ∃ M, GD M ∧ ROW C 371 (2896 * i) M ∧ RP A (slot ((f + 9 - c + i) % 9)) M
def SN (A C : AH) : Prop := gI A 1 6 = gI C 349 43 ∧ (gI C 349 43 = 0 ∨ (gI C 349 43 = 1 ∧ ∃ M, GD M ∧ ROW C 372 0 M ∧ RP A 33 M))
theorem slot_rng {g : Nat} (h : g < 9) : 66 ≤ slot g ∧ slot g + 30 ≤ 344 := by unfold slot; omega
theorem HR.cls {A A' C : AH} {c : Nat} {S : Nat → Prop} (h : HR A C) (hf : FX c S A A') (hs : ∀ a, 64 ≤ a → a ≤ 344 → ¬ S a) : HR A' C := by
  obtain ⟨n, f, h1, h2, h3, h4, h5, h6⟩ := h
  have e := hf.2.2.2 64 (by omega) (hs 64 (by omega) (by omega))
  refine ⟨n, f, h1, h2, h3, by rw [(e 2).1]; exact h4, by rw [(e 1).1]; exact h5, fun i hi => ?_⟩
  obtain ⟨M, m1, m2, m3⟩ := h6 i hi
  have hg := slot_rng (g := (f + 9 - n + i) % 9) (Nat.mod_lt _ (by decide))
  exact ⟨M, m1, m2, m3.fx m1 hf (fun a q1 q2 => ⟨by omega, hs a (by omega) (by omega)⟩)⟩
theorem HR.mdl {A C C' : AH} {S : Nat → Nat → Prop} (h : HR A C) (hf : FQ S C C') (hs : ∀ a k, S a k → a ≠ 371 ∧ ¬ (a = 349 ∧ k = 41)) : HR A C' := by
  obtain ⟨n, f, h1, h2, h3, h4, h5, h6⟩ := h
  refine ⟨n, f, h1, h2, by rw [hf.2.2 349 41 (fun z => (hs _ _ z).2 ⟨rfl, rfl⟩)]; exact h3, h4, h5, fun i hi => ?_⟩
  obtain ⟨M, m1, m2, m3⟩ := h6 i hi
  exact ⟨M, m1, m2.same (fun k _ _ => hf.2.2 371 k (fun z => (hs _ _ z).1 rfl)), m3⟩
theorem SN.cls {A A' C : AH} {c : Nat} {S : Nat → Prop} (h : SN A C) (hf : FX c S A A') (hs : ∀ a, 33 ≤ a → a ≤ 63 → ¬ S a) (h6 : gI A' 1 6 = gI A 1 6) : SN A' C := by
  obtain ⟨h1, h2⟩ := h
  refine ⟨h6.trans h1, h2.imp id (fun z => ⟨z.1, ?_⟩)⟩
  obtain ⟨-, M, m1, m2, m3⟩ := z
  exact ⟨M, m1, m2, m3.fx m1 hf (fun a q1 q2 => ⟨by omega, hs a (by omega) (by omega)⟩)⟩
theorem SN.mdl {A C C' : AH} {S : Nat → Nat → Prop} (h : SN A C) (hf : FQ S C C') (hs : ∀ a k, S a k → a ≠ 372 ∧ ¬ (a = 349 ∧ k = 43)) : SN A C' := by
  obtain ⟨h1, h2⟩ := h
  have e := hf.2.2 349 43 (fun z => (hs _ _ z).2 ⟨rfl, rfl⟩)
  refine ⟨h1.trans e.symm, h2.imp (fun z => e.trans z) (fun z => ⟨e.trans z.1, ?_⟩)⟩
  obtain ⟨-, M, m1, m2, m3⟩ := z
  exact ⟨M, m1, m2.same (fun k _ _ => hf.2.2 372 k (fun z => (hs _ _ z).1 rfl)), m3⟩
/-- what adding to the ring does: A' keeps M behind the others -/
def CAdd (A A' : AH) (M : MR) : Prop := ∃ f c : Nat, f < 9 ∧ c ≤ 8 ∧ gI A 64 1 = f ∧ gI A 64 2 = c ∧ gI A' 64 1 = ((if f = 8 then 0 else f + 1 : Nat) : Int) ∧ gI A' 64 2 = ((min 8 (c + 1) : Nat) : Int) ∧ RP A' (slot f) M ∧ FX 0 (fun a => a = 64 ∨ rgn (slot f) 0 30 a) A A'
theorem CAdd.fx {A A' : AH} {M : MR} (h : CAdd A A' M) : FX 0 (fun a => 64 ≤ a ∧ a ≤ 344) A A' := by
  obtain ⟨f, c, h1, h2, -, -, -, -, -, hf⟩ := h
  have := slot_rng h1
  exact hf.mono (Nat.le_refl 0) (fun a _ q => by unfold rgn at q; omega)
theorem X1_add {N : Nat} {A : AH} {M : MR} {f c : Nat} (hN : 100 ≤ N) (hG : GD M) (hP : RP A 2 M) (hf : gI A 64 1 = f) (h9 : f < 9) (hc : gI A 64 2 = c) (h8 : c ≤ 8) : ∃ B, fX1_add N A 2 = some B ∧ CAdd A B M ∧ RP B 2 M := by
  have hsl := slot_rng h9
  obtain ⟨C, c1, c2, c3⟩ := X1_prepare (N := N) hN hG hP hf h9
  have e := c3.2.2.2 64 (by omega) (by unfold rgn; omega)
  obtain ⟨B, b1, b2, b3, b4⟩ := X1_commit (N := N) (A := C) (f := f) (c := c) (by rw [(e 1).1]; exact hf) h9 (by rw [(e 2).1]; exact hc) h8
  have xB : FX 0 (fun a => a = 64) C B := b2.fx (fun a k q => ⟨by omega, q⟩)
  have xAB : FX 0 (fun a => a = 64 ∨ rgn (slot f) 0 30 a) A B := (c3.mono (Nat.le_refl 0) (fun a _ q => Or.inr q)).tr (xB.mono (Nat.le_refl 0) (fun a _ q => Or.inl q))
  refine ⟨B, ?_, ⟨f, c, h9, h8, hf, hc, b3, b4, c2.fx hG xB (fun a q1 q2 => by omega), xAB⟩, hP.fx hG xAB (fun a q1 q2 => by unfold rgn; omega)⟩
  unfold fX1_add
  rw [c1, obind_some, b1, obind_some]
theorem HR.ring {A C : AH} (h : HR A C) : ∃ f c : Nat, f < 9 ∧ c ≤ 8 ∧ gI A 64 1 = f ∧ gI A 64 2 = c ∧ gI C 349 41 = c := by
  obtain ⟨n, f, h1, h2, h3, h4, h5, -⟩ := h
  exact ⟨f, n, h2, h1, h5, h4, h3⟩
theorem HR.add {A A' C C' : AH} (h : HR A C) (hG : GD (mvA C)) (ha : CAdd A A' (mvA C)) (hm : MRem C C') : HR A' C' := by
  obtain ⟨n, f, h1, h2, h3, h4, h5, h6⟩ := h
  obtain ⟨f', c', a1, a2, a3, a4, a5, a6, a7, a8⟩ := ha
  have ef : f' = f := by omega
  have ec : c' = n := by omega
  subst ef ec
  obtain ⟨hq, c2, m1, m2, m3, m4, m5⟩ := hm
  have ec2 : c2 = c' := by omega
  subst ec2
  have old : ∀ g, g < 9 → g ≠ f' → ∀ M, GD M → RP A (slot g) M → RP A' (slot g) M := fun g hg hne M hM hP => hP.fx hM a8 (fun a q1 q2 => by
    unfold slot at q1 q2
    unfold rgn slot
    omega)
  refine ⟨min 8 (c2 + 1), (if f' = 8 then 0 else f' + 1), by omega, by split <;> omega, m3, a6, a5, fun i hi => ?_⟩
  by_cases h8 : c2 = 8
  · obtain ⟨k1, k2⟩ := m5 h8
    subst h8
    by_cases e : i = 7
    · subst e
      refine ⟨mvA C, hG, k2, ?_⟩
      have : ((if f' = 8 then 0 else f' + 1) + 9 - min 8 (8 + 1) + 7) % 9 = f' := by split <;> omega
      rw [this]
      exact a7
    · obtain ⟨M, q1, q2, q3⟩ := h6 (i + 1) (by omega)
      have hg : ((if f' = 8 then 0 else f' + 1) + 9 - min 8 (8 + 1) + i) % 9 = (f' + 9 - 8 + (i + 1)) % 9 := by split <;> omega
      rw [hg]
      refine ⟨M, q1, fun j hj t ht => ?_, old _ (Nat.mod_lt _ (by decide)) (by omega) M q1 q3⟩
      have := of_tot j hj
      rw [k1 _ (by omega), show 2896 * i + ofM j + t + 2896 = 2896 * (i + 1) + ofM j + t by omega]
      exact q2 j hj t ht
  · obtain ⟨k1, k2⟩ := m4 (by omega)
    by_cases e : i = c2
    · subst e
      refine ⟨mvA C, hG, k2, ?_⟩
      have : ((if f' = 8 then 0 else f' + 1) + 9 - min 8 (i + 1) + i) % 9 = f' := by split <;> omega
      rw [this]
      exact a7
    · obtain ⟨M, q1, q2, q3⟩ := h6 i (by omega)
      have hg : ((if f' = 8 then 0 else f' + 1) + 9 - min 8 (c2 + 1) + i) % 9 = (f' + 9 - c2 + i) % 9 := by split <;> omega
      rw [hg]
      refine ⟨M, q1, q2.same (fun k h1 h2 => k1 k ?_), old _ (Nat.mod_lt _ (by decide)) (by omega) M q1 q3⟩
      have : i + 1 ≤ c2 := by omega
      have := Nat.mul_le_mul_left 2896 this
      omega
