/-! both sides together: A the program's heap, C the reference's -/
def TX (A C : AH) : Prop := gI A 345 1 = gI C 349 34 ∧ (0 ≤ gI C 349 34 ∧ gI C 349 34 ≤ 60) ∧ ∀ k : Nat, (k : Int) < gI C 349 34 → gI A 346 k = gI C 368 k ∧ 0 ≤ gI C 368 k ∧ gI C 368 k < 65536
def KE (A C : AH) : Prop := gI A 1 7 = gI C 349 37 ∧ gI A 1 8 = gI C 349 29 ∧ gI A 1 9 = gI C 349 30 ∧ -1 ≤ gI C 349 37
def INV (A C : AH) : Prop := GD (mvA C) ∧ RP A 2 (mvA C) ∧ HR A C ∧ SN A C ∧ TX A C ∧ KE A C ∧ gI C 349 45 = 0 ∧ 376 ≤ hN A
/-- the program's scratch; its scratch and roster; all that is the program's -/
def XQ (a : Nat) : Prop := a = 347 ∨ a = 348
def X2 (a : Nat) : Prop := (2 ≤ a ∧ a ≤ 32) ∨ a = 347 ∨ a = 348
def XA (a : Nat) : Prop := 1 ≤ a ∧ a ≤ 348
/-- the reference's scratch and thrown; with its row -/
def ST (a k : Nat) : Prop := a = 349 ∧ (k = 0 ∨ (24 ≤ k ∧ k ≤ 28))
def SRT (a k : Nat) : Prop := (350 ≤ a ∧ a ≤ 367) ∨ a = 349 ∧ (k = 0 ∨ (19 ≤ k ∧ k ≤ 28))
theorem XQ_X2 (a : Nat) (h : XQ a) : X2 a := by unfold XQ at h; unfold X2; omega
theorem XQ_XA (a : Nat) (h : XQ a) : XA a := by unfold XQ at h; unfold XA; omega
theorem X2_XA (a : Nat) (h : X2 a) : XA a := by unfold X2 at h; unfold XA; omega
theorem ST_SRT (a k : Nat) (h : ST a k) : SRT a k := by unfold ST at h; unfold SRT; omega
theorem SS_ST (a k : Nat) (h : SS a k) : ST a k := by unfold SS at h; unfold ST; omega
theorem SR_SRT (a k : Nat) (h : SR a k) : SRT a k := by unfold SR at h; unfold SRT; omega
theorem ST_SM (a k : Nat) (h : ST a k) : SM a k := by unfold ST at h; unfold SM; omega
theorem SRT_SM (a k : Nat) (h : SRT a k) : SM a k := by unfold SRT at h; unfold SM; omega
theorem SH_SM (a k : Nat) (h : SH a k) : SM a k := by unfold SH at h; unfold SM; omega
theorem FQ.evt {A B : AH} (h : FQ ST A B) : mvA B = mvA A := h.evs (fun a k q => by unfold ST at q; omega)
theorem TX.cls {A A' C : AH} {c : Nat} {S : Nat → Prop} (h : TX A C) (hf : FX c S A A') (hs : ¬ S 345 ∧ ¬ S 346) : TX A' C := by
  obtain ⟨h1, h2, h3⟩ := h
  refine ⟨by rw [(hf.2.2.2 345 (by omega) hs.1 1).1]; exact h1, h2, fun k hk => ?_⟩
  rw [(hf.2.2.2 346 (by omega) hs.2 k).1]
  exact h3 k hk
theorem TX.mdl {A C C' : AH} {S : Nat → Nat → Prop} (h : TX A C) (hf : FQ S C C') (hs : ∀ a k, S a k → a ≠ 368 ∧ ¬ (a = 349 ∧ k = 34)) : TX A C' := by
  obtain ⟨h1, h2, h3⟩ := h
  have e := hf.2.2 349 34 (fun z => (hs _ _ z).2 ⟨rfl, rfl⟩)
  refine ⟨h1.trans e.symm, by rw [e]; exact h2, fun k hk => ?_⟩
  rw [hf.2.2 368 k (fun z => (hs _ _ z).1 rfl)]
  exact h3 k (by rw [← e]; exact hk)
theorem KE.cls {A A' C : AH} {c : Nat} {S : Nat → Prop} (h : KE A C) (hf : FX c S A A') (hs : ¬ S 1) : KE A' C := by
  have e := hf.2.2.2 1 (by omega) hs
  unfold KE at *
  rw [(e 7).1, (e 8).1, (e 9).1]
  exact h
theorem KE.mdl {A C C' : AH} {S : Nat → Nat → Prop} (h : KE A C) (hf : FQ S C C') (hs : ∀ a k, S a k → ¬ (a = 349 ∧ (k = 37 ∨ k = 29 ∨ k = 30))) : KE A C' := by
  unfold KE at *
  rw [hf.2.2 349 37 (fun z => hs _ _ z (by omega)), hf.2.2 349 29 (fun z => hs _ _ z (by omega)), hf.2.2 349 30 (fun z => hs _ _ z (by omega))]
  exact h
theorem INV.query {A A' C C' : AH} {c : Nat} (h : INV A C) (ha : FX c XQ A A') (hc : FQ ST C C') : INV A' C' := by
  obtain ⟨h1, h2, h3, h4, h5, h6, h7, h8⟩ := h
  have ev := hc.evt
  refine ⟨by rw [ev]; exact h1, by rw [ev]; exact h2.fx h1 ha (fun a q1 q2 => by unfold XQ; omega), (h3.cls ha (fun a q1 q2 => by unfold XQ; omega)).mdl hc (fun a k q => by unfold ST at q; omega), (h4.cls ha (fun a q1 q2 => by unfold XQ; omega) (ha.2.2.2 1 (by omega) (by unfold XQ; omega) 6).1).mdl hc (fun a k q => by unfold ST at q; omega), (h5.cls ha (by unfold XQ; omega)).mdl hc (fun a k q => by unfold ST at q; omega), (h6.cls ha (by unfold XQ; omega)).mdl hc (fun a k q => by unfold ST at q; omega), ?_, Nat.le_trans h8 ha.1.1⟩
  rw [hc.2.2 349 45 (by unfold ST; omega)]
  exact h7
/-- remembering, in quiet too -/
def REM (A B : AH) : Prop := (gI A 349 45 = 0 ∧ MRem A B) ∨ (gI A 349 45 = 1 ∧ B = A)
def CQ (A : AH) : Prop := (gI A 349 45 = 0 ∨ gI A 349 45 = 1) ∧ ∃ c : Nat, c ≤ 8 ∧ gI A 349 41 = c
theorem X9_rem {N : Nat} {A : AH} (hN : 25000 ≤ N) (h : CQ A) : ∃ B, fX9_remembers N A = some B ∧ REM A B := by
  obtain ⟨hq, c, h8, hc⟩ := h
  rcases hq with hq | hq
  · obtain ⟨B, b1, b2⟩ := X9_remembers hN hq hc h8
    exact ⟨B, b1, Or.inl ⟨hq, b2⟩⟩
  · refine ⟨A, ?_, Or.inr ⟨hq, rfl⟩⟩
    unfold fX9_remembers
    rw [if_neg (by omega)]
theorem REM.ev {A B : AH} (h : REM A B) : mvA B = mvA A := by
  rcases h with ⟨-, h⟩ | ⟨-, h⟩
  · exact h.ev
  · rw [h]
theorem REM.fq {A B : AH} (h : REM A B) : FQ SH A B := by
  rcases h with ⟨-, h⟩ | ⟨-, h⟩
  · exact h.1
  · rw [h]
    exact FQ.rf A
theorem CQ.fq {A B : AH} {S : Nat → Nat → Prop} (h : CQ A) (hf : FQ S A B) (hs : ∀ a k, S a k → ¬ (a = 349 ∧ (k = 41 ∨ k = 45))) : CQ B := by
  unfold CQ at *
  rw [hf.2.2 349 41 (fun z => hs _ _ z (by omega)), hf.2.2 349 45 (fun z => hs _ _ z (by omega))]
  exact h
/-- a change in the reference -/
def CHG (C C' : AH) : Prop := ∃ C1 C2, FQ ST C C1 ∧ REM C1 C2 ∧ FQ SRT C2 C'
/-- a change in the program, of the row M into M' -/
def CHX (A A' : AH) (M M' : MR) (c : Nat) : Prop := ∃ A1 A2, FX 0 XQ A A1 ∧ CAdd A1 A2 M ∧ FX c X2 A2 A' ∧ RP A' 2 M'
theorem CHG.fq {C C' : AH} (h : CHG C C') : FQ (fun a k => SRT a k ∨ SH a k) C C' := by
  obtain ⟨C1, C2, h1, h2, h3⟩ := h
  exact ((h1.mono (fun a k q => Or.inl (ST_SRT a k q))).tr (h2.fq.mono (fun a k q => Or.inr q))).tr (h3.mono (fun a k q => Or.inl q))
theorem CHX.fx {A A' : AH} {M M' : MR} {c : Nat} (h : CHX A A' M M' c) : FX c (fun a => 2 ≤ a ∧ a ≤ 32 ∨ 64 ≤ a ∧ a ≤ 344 ∨ a = 347 ∨ a = 348) A A' := by
  obtain ⟨A1, A2, h1, h2, h3, -⟩ := h
  exact (((h1.mono (Nat.le_refl 0) (fun a _ q => by unfold XQ at q; omega)).tr (h2.fx.mono (Nat.le_refl 0) (fun a _ q => by omega))).tr (h3.mono (Nat.le_refl c) (fun a _ q => by unfold X2 at q; omega))).mono (by omega) (fun _ _ q => q)
theorem INV.change {A A' C C' : AH} {M' : MR} {c : Nat} (h : INV A C) (ha : CHX A A' (mvA C) M' c) (hc : CHG C C') (hv : mvA C' = M') (hG : GD M') : INV A' C' ∧ FX c XA A A' ∧ FQ SM C C' := by
  have xa := ha.fx
  have fc := hc.fq
  obtain ⟨h1, h2, h3, h4, h5, h6, h7, h8⟩ := h
  obtain ⟨A1, A2, a1, a2, a3, a4⟩ := ha
  obtain ⟨C1, C2, c1, c2, c3⟩ := hc
  have e1 : mvA C1 = mvA C := c1.evt
  have q1 : gI C1 349 45 = 0 := by rw [c1.2.2 349 45 (by unfold ST; omega)]; exact h7
  have hm : MRem C1 C2 := by
    rcases c2 with ⟨-, z⟩ | ⟨z, -⟩
    · exact z
    · omega
  have hr1 : HR A1 C1 := (h3.cls a1 (fun a q1 q2 => by unfold XQ; omega)).mdl c1 (fun a k q => by unfold ST at q; omega)
  have hr2 : HR A2 C2 := hr1.add (by rw [e1]; exact h1) (by rw [e1]; exact a2) hm
  have hr3 : HR A' C' := (hr2.cls a3 (fun a q1 q2 => by unfold X2; omega)).mdl c3 (fun a k q => by unfold SRT at q; omega)
  refine ⟨⟨by rw [hv]; exact hG, by rw [hv]; exact a4, hr3, (h4.cls xa (fun a q1 q2 => by omega) (xa.2.2.2 1 (by omega) (by omega) 6).1).mdl fc (fun a k q => by unfold SRT SH at q; omega), (h5.cls xa (by omega)).mdl fc (fun a k q => by unfold SRT SH at q; omega), (h6.cls xa (by omega)).mdl fc (fun a k q => by unfold SRT SH at q; omega), ?_, Nat.le_trans h8 xa.1.1⟩, xa.mono (Nat.le_refl c) (fun a _ q => by unfold XA; omega), fc.mono (fun a k q => by unfold SRT SH at q; unfold SM; omega)⟩
  rw [fc.2.2 349 45 (by unfold SRT SH; omega)]
  exact h7
theorem FX_nX (A : AH) {S : Nat → Prop} (h : 376 ≤ hN A) : FX 1 S A (nX A) := by
  refine ⟨⟨by rw [hN_nC]; omega, fun a h1 h2 => ⟨by rw [gK_nC, if_neg (by omega)], fun k => by rw [gI_nC, if_neg (by omega)], fun k => by rw [gP_nC, if_neg (by omega)]⟩⟩, ⟨by rw [hN_nC]; omega, by rw [hSl_nC]; omega, by rw [hSl_nC]; omega⟩, rfl, fun a h1 _ k => ⟨by rw [gI_nC, if_neg (by omega)], by rw [gP_nC, if_neg (by omega)]⟩⟩
/-- one call of both sides: the program's outcome r8, the reference's r9; cs: which of the program's throws is which number of the reference -/
def STEP (cs : List (Nat × Int)) (r8 : Option (Nat × Int × AH)) (r9 : Option (Int × AH)) (A C : AH) : Prop :=
  ∃ (k : Nat) (v : Int) (A' : AH) (w : Int) (C' : AH), r8 = some (k, v, A') ∧ r9 = some (w, C') ∧ ((k = 0 ∧ gI C' 349 0 = 0 ∧ v = w) ∨ (k, gI C' 349 0) ∈ cs) ∧ FX 430 XA A A' ∧ FQ SM C C' ∧ INV A' C'
theorem STEP.throw {cs : List (Nat × Int)} {A A1 C C' : AH} {k : Nat} {c : Int} {w : Int} {m : Nat} (h : INV A C) (ha : FX m XQ A A1) (hm : m ≤ 400) (hc : FQ ST C C') (ht : gI C' 349 0 = c) (hk : (k, c) ∈ cs) : STEP cs (some (k, 0, nX A1)) (some (w, C')) A C := by
  have x := ha.tr (FX_nX A1 (S := XQ) (Nat.le_trans h.2.2.2.2.2.2.2 ha.1.1))
  exact ⟨k, 0, nX A1, w, C', rfl, rfl, Or.inr (by rw [ht]; exact hk), x.mono (by omega) (fun a _ q => XQ_XA a q), hc.mono ST_SM, h.query x hc⟩
theorem STEP.query {cs : List (Nat × Int)} {A A' C C' : AH} {v : Int} {m : Nat} (h : INV A C) (ha : FX m XQ A A') (hm : m ≤ 400) (hc : FQ ST C C') (ht : gI C' 349 0 = 0) : STEP cs (some (0, v, A')) (some (v, C')) A C :=
  ⟨0, v, A', v, C', rfl, rfl, Or.inl ⟨rfl, ht, rfl⟩, ha.mono (by omega) (fun a _ q => XQ_XA a q), hc.mono ST_SM, h.query ha hc⟩
theorem STEP.change {cs : List (Nat × Int)} {A A' C C' : AH} {v : Int} {M' : MR} {m : Nat} (h : INV A C) (ha : CHX A A' (mvA C) M' m) (hm : m ≤ 400) (hc : CHG C C') (hv : mvA C' = M') (hG : GD M') (ht : gI C' 349 0 = 0) : STEP cs (some (0, v, A')) (some (v, C')) A C := by
  obtain ⟨q1, q2, q3⟩ := h.change ha hc hv hG
  exact ⟨0, v, A', v, C', rfl, rfl, Or.inl ⟨rfl, ht, rfl⟩, q2.mono (by omega) (fun _ _ q => q), q3, q1⟩
theorem X9_fails {N : Nat} {A : AH} {x : Int} : fX9_fails N A x = some (0, sI A 349 0 x) := rfl
theorem FQ_thr (A : AH) (x : Int) : FQ ST A (sI A 349 0 x) := FQ_sI A (by unfold ST; omega)
theorem gI_thr (A : AH) (x : Int) : gI (sI A 349 0 x) 349 0 = x := by rw [gI_sI, if_pos ⟨rfl, rfl⟩]
theorem mvA_thr (A : AH) (x : Int) : mvA (sI A 349 0 x) = mvA A := (FQ_thr A x).evt
theorem INV.cq {A C : AH} (h : INV A C) : CQ C := by
  obtain ⟨n, f, h1, h2, h3, -⟩ := h.2.2.1
  exact ⟨Or.inl h.2.2.2.2.2.2.1, n, h1, h3⟩
/-- the program adds to the ring -/
theorem INV.add {N : Nat} {A A1 C : AH} (hN0 : 100 ≤ N) (h : INV A C) (ha : FX 0 XQ A A1) : ∃ B, fX1_add N A1 2 = some B ∧ CAdd A1 B (mvA C) ∧ RP B 2 (mvA C) ∧ 376 ≤ hN B := by
  obtain ⟨f, c, r1, r2, r3, r4, -⟩ := h.2.2.1.ring
  have e := ha.2.2.2 64 (by omega) (by unfold XQ; omega)
  obtain ⟨B, b1, b2, b3⟩ := X1_add (N := N) (A := A1) (M := mvA C) hN0 h.1 (h.2.1.fx h.1 ha (fun a q1 q2 => by unfold XQ; omega)) (by rw [(e 1).1]; exact r3) r1 (by rw [(e 2).1]; exact r4) r2
  exact ⟨B, b1, b2, b3, Nat.le_trans h.2.2.2.2.2.2.2 (Nat.le_trans ha.1.1 b2.fx.1.1)⟩
theorem CHX.of {A A1 A2 A' : AH} {M M' : MR} {c : Nat} (h1 : FX 0 XQ A A1) (h2 : CAdd A1 A2 M) (h3 : FX c (fun a => 2 ≤ a ∧ a ≤ 32) A2 A') (h4 : RP A' 2 M') : CHX A A' M M' c := ⟨A1, A2, h1, h2, h3.mono (Nat.le_refl c) (fun a _ q => by unfold X2; omega), h4⟩
/-- the reference remembers, then changes its row -/
theorem INV.rem {N : Nat} {A C C1 : AH} (hN : 25000 ≤ N) (h : INV A C) (hc : FQ ST C C1) : ∃ B, fX9_remembers N C1 = some B ∧ REM C1 B ∧ mvA B = mvA C := by
  obtain ⟨B, b1, b2⟩ := X9_rem (N := N) hN (h.cq.fq hc (fun a k q => by unfold ST at q; omega))
  exact ⟨B, b1, b2, b2.ev.trans hc.evt⟩
theorem bt_in {x a b : Int} : (decide (a ≤ x) && decide (x ≤ b)) = decide (a ≤ x ∧ x ≤ b) := (Bool.decide_and _ _).symm
/-! rules, tides, depth -/
theorem stA_all : ∀ i : Nat, i < 5 → stA 0 (i : Int) = stA 4 (i : Int) ∧ stA 1 (i : Int) = stA 5 (i : Int) := by decide +kernel
theorem stA_vals : (stA 0 0 = 0 ∧ stA 0 1 = 1 ∧ stA 0 2 = 1 ∧ stA 0 3 = 1 ∧ stA 0 4 = 0) ∧ (stA 1 0 = 24 ∧ stA 1 1 = 6 ∧ stA 1 2 = 9 ∧ stA 1 3 = 30 ∧ stA 1 4 = 12) := by decide +kernel
theorem ruleOk_of {i : Nat} {v : Int} (hi : i < 5) (h1 : stA 0 (i : Int) ≤ v) (h2 : v ≤ stA 1 (i : Int)) : ruleOk i v := by
  obtain ⟨⟨a0, a1, a2, a3, a4⟩, b0, b1, b2, b3, b4⟩ := stA_vals
  refine ⟨fun e => ?_, fun e => ?_, fun e => ?_, fun e => ?_, fun e => ?_⟩ <;> subst e
  · exact ⟨by rw [← a0]; exact h1, by rw [← b0]; exact h2⟩
  · exact ⟨by rw [← a1]; exact h1, by rw [← b1]; exact h2⟩
  · exact ⟨by rw [← a2]; exact h1, by rw [← b2]; exact h2⟩
  · exact ⟨by rw [← a3]; exact h1, by rw [← b3]; exact h2⟩
  · exact ⟨by rw [← a4]; exact h1, by rw [← b4]; exact h2⟩
theorem op_rule {N : Nat} {A C : AH} {x1 x2 : Int} (hN : 25000 ≤ N) (h : INV A C) : STEP [(1, 1)] (fX8_rule N A x1 x2) (fX9_rule N C x1 x2) A C := by
  unfold fX8_rule fX9_rule
  rw [X9_isBetween, bt_in, obind_some]
  have thr := STEP.throw (cs := [(1, 1)]) (k := 1) (c := 1) (w := 0) h (FX.rf A) (by omega) (FQ_thr C 1) (gI_thr C 1) (by simp)
  by_cases h1 : 0 ≤ x1 ∧ x1 ≤ 4
  · obtain ⟨i, rfl⟩ : ∃ i : Nat, x1 = i := ⟨x1.toNat, by omega⟩
    have hi : i < 5 := by omega
    obtain ⟨s1, s2⟩ := stA_all i hi
    rw [decide_eq_true h1, if_neg b2t', if_neg (by omega), if_pos (by omega), chk_pos _ (by omega), chk_pos _ (by omega), chk_pos _ (by omega), chk_pos _ (by omega), X9_isBetween, bt_in, obind_some, ← s1, ← s2]
    by_cases h2 : stA 0 (i : Int) ≤ x2 ∧ x2 ≤ stA 1 (i : Int)
    · rw [decide_eq_true h2, if_neg b2t', if_neg (by omega), if_pos h2.2]
      obtain ⟨A2, a1, a2, a3, a4⟩ := h.add (N := N) (by omega) (FX.rf A)
      obtain ⟨C2, c1, c2, c3⟩ := h.rem (N := N) hN (FQ_thr C 0)
      rw [a1, obind_some, chk_pos _ (by omega), bnd_eq, chk_pos _ (by omega), bnd_eq, bnd_eq, c1, obind_some, chk_pos _ (by omega), bnd_eq, chk_pos _ (by omega), bnd_eq, Int.toNat_natCast]
      have v0 : gI C2 350 i = mvA C 0 i := by
        rw [← c3]
        rfl
      rw [a3.1.1 i hi, v0]
      refine STEP.change h (M' := updM (mvA C) 0 i x2) (CHX.of (FX.rf A) a2 (FX_sI A2 (by omega) (by omega)) (RP_rule (by omega) h.1.2.1 a3 hi)) (by omega) ⟨_, C2, FQ_thr C 0, c2, FQ_sI C2 (by unfold SRT; omega)⟩ ?_ (GD_rule h.1 (ruleOk_of hi h2.1 h2.2)) ?_
      · rw [mvA_sIr _ (j := 0) rfl (by decide), c3]
      · rw [gI_sI, if_neg (by omega), c2.fq.2.2 349 0 (by unfold SH; omega), gI_thr]
    · rw [decide_eq_false h2, if_pos b2f', X9_fails, obind_some]
      by_cases h3 : x2 < stA 0 (i : Int)
      · rw [if_pos h3]
        exact thr
      · rw [if_neg h3, if_neg (by omega)]
        exact thr
  · rw [decide_eq_false h1, if_pos b2f', X9_fails, obind_some]
    by_cases h3 : x1 < 0
    · rw [if_pos h3]
      exact thr
    · rw [if_neg h3, if_neg (by omega)]
      exact thr
theorem op_tide {N : Nat} {A C : AH} {x1 x2 : Int} (hN : 25000 ≤ N) (h : INV A C) : STEP [(1, 1)] (fX8_tide N A x1 x2) (fX9_tide N C x1 x2) A C := by
  unfold fX8_tide fX9_tide
  rw [X9_isBetween, bt_in, obind_some, X9_isBetween, bt_in, obind_some]
  have thr := STEP.throw (cs := [(1, 1)]) (k := 1) (c := 1) (w := 0) h (FX.rf A) (by omega) (FQ_thr C 1) (gI_thr C 1) (by simp)
  by_cases h1 : 0 ≤ x1 ∧ x1 ≤ 11
  · obtain ⟨i, rfl⟩ : ∃ i : Nat, x1 = i := ⟨x1.toNat, by omega⟩
    have hi : i < 12 := by omega
    rw [decide_eq_true h1, if_neg b2t', if_neg (by omega), if_pos (by omega)]
    by_cases h2 : 0 ≤ x2 ∧ x2 ≤ 9
    · rw [decide_eq_true h2, if_neg b2t', if_neg (by omega), if_pos h2.2]
      obtain ⟨A2, a1, a2, a3, a4⟩ := h.add (N := N) (by omega) (FX.rf A)
      obtain ⟨C2, c1, c2, c3⟩ := h.rem (N := N) hN (FQ_thr C 0)
      rw [a1, obind_some, chk_pos _ (by omega), bnd_eq, chk_pos _ (by omega), bnd_eq, bnd_eq, c1, obind_some, chk_pos _ (by omega), bnd_eq, chk_pos _ (by omega), bnd_eq, Int.toNat_natCast]
      have v0 : gI C2 351 i = mvA C 1 i := by
        rw [← c3]
        rfl
      rw [a3.1.2 i hi, v0]
      refine STEP.change h (M' := updM (mvA C) 1 i x2) (CHX.of (FX.rf A) a2 (FX_sI A2 (by omega) (by omega)) (RP_tide (by omega) h.1.2.1 a3 hi)) (by omega) ⟨_, C2, FQ_thr C 0, c2, FQ_sI C2 (by unfold SRT; omega)⟩ ?_ (GD_tide h.1 h2) ?_
      · rw [mvA_sIr _ (j := 1) rfl (by decide), c3]
      · rw [gI_sI, if_neg (by omega), c2.fq.2.2 349 0 (by unfold SH; omega), gI_thr]
    · rw [decide_eq_false h2, if_pos b2f', X9_fails, obind_some]
      by_cases h3 : x2 < 0
      · rw [if_pos h3]
        exact thr
      · rw [if_neg h3, if_neg (by omega)]
        exact thr
  · rw [decide_eq_false h1, if_pos b2f', X9_fails, obind_some]
    by_cases h3 : x1 < 0
    · rw [if_pos h3]
      exact thr
    · rw [if_neg h3, if_neg (by omega)]
      exact thr
