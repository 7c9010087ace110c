/-! both sides on one heap -/
theorem INV.left {A B C : AH} {c : Nat} {S : Nat → Prop} (h : INV A C) (hf : FX c S A B) (hs : ∀ a, 1 ≤ a → a ≤ 348 → ¬ S a) : INV B C := by
  obtain ⟨h1, h2, h3, h4, h5, h6, h7, h8⟩ := h
  exact ⟨h1, h2.fx h1 hf (fun a q1 q2 => ⟨by omega, hs a (by omega) (by omega)⟩), h3.cls hf (fun a q1 q2 => hs a (by omega) (by omega)), h4.cls hf (fun a q1 q2 => hs a (by omega) (by omega)) (hf.2.2.2 1 (by omega) (hs 1 (by omega) (by omega)) 6).1, h5.cls hf ⟨hs 345 (by omega) (by omega), hs 346 (by omega) (by omega)⟩, h6.cls hf (hs 1 (by omega) (by omega)), h7, Nat.le_trans h8 hf.1.1⟩
theorem INV.right {A C D : AH} (h : INV A C) (he : ∀ a k, 349 ≤ a → a ≤ 373 → gI D a k = gI C a k) : INV A D := by
  have ev : mvA D = mvA C := by
    funext j i
    unfold mvA
    split
    · exact he _ _ (by omega) (by omega)
    · split
      · exact he _ _ (by omega) (by omega)
      · rfl
  have e9 : ∀ k, gI D 349 k = gI C 349 k := fun k => he 349 k (by omega) (by omega)
  obtain ⟨h1, h2, ⟨n, f, r1, r2, r3, r4, r5, r6⟩, ⟨s1, s2⟩, ⟨t1, t2, t3⟩, ⟨k1, k2, k3, k4⟩, h7, h8⟩ := h
  refine ⟨by rw [ev]; exact h1, by rw [ev]; exact h2, ⟨n, f, r1, r2, by rw [e9]; exact r3, r4, r5, fun i hi => ?_⟩, ⟨by rw [e9]; exact s1, ?_⟩, ⟨by rw [e9]; exact t1, by rw [e9]; exact t2, fun k hk => ?_⟩, ⟨by rw [e9]; exact k1, by rw [e9]; exact k2, by rw [e9]; exact k3, by rw [e9]; exact k4⟩, by rw [e9]; exact h7, h8⟩
  · obtain ⟨M, m1, m2, m3⟩ := r6 i hi
    exact ⟨M, m1, m2.same (fun k _ _ => he 371 k (by omega) (by omega)), m3⟩
  · rw [e9]
    refine s2.imp id (fun z => ⟨z.1, ?_⟩)
    obtain ⟨-, M, m1, m2, m3⟩ := z
    exact ⟨M, m1, m2.same (fun k _ _ => he 372 k (by omega) (by omega)), m3⟩
  · rw [he 368 k (by omega) (by omega)]
    exact t3 k (by rw [← e9]; exact hk)
/-- so many cells and slots more -/
def BN (c : Nat) (A B : AH) : Prop := hN A ≤ hN B ∧ hN B ≤ hN A + c ∧ hSl A ≤ hSl B ∧ hSl B ≤ hSl A + 7 * c
theorem FX.bn {c : Nat} {S : Nat → Prop} {A B : AH} (h : FX c S A B) : BN c A B := ⟨h.1.1, h.2.1.1, h.2.1.2.1, h.2.1.2.2⟩
theorem FQ.bn {c : Nat} {S : Nat → Nat → Prop} {A B C : AH} (h : FQ S B C) (hA : BN c A B) : BN c A C := by
  unfold BN hN hSl at *
  rw [h.1]
  exact hA
theorem sync_core {A A' D C' : AH} (hx : FX 430 XA A A') (hD : FQ (fun a _ => a = 374) A' D) (hC : FQ SM D C') (hI : INV A' C') : BN 430 A C' ∧ INV C' C' ∧ gI C' 374 0 = gI D 374 0 := by
  have f : FQ (fun a _ => 349 ≤ a ∧ a ≤ 374) A' C' := (hD.mono (fun a k z => by have e : a = 374 := z; omega)).tr (hC.mono (fun a k z => by unfold SM at z; omega))
  have x : FX 0 (fun a => 349 ≤ a ∧ a ≤ 374) A' C' := f.fx (fun a k z => ⟨by omega, z⟩)
  exact ⟨f.bn hx.bn, hI.left x (fun a q1 q2 => by omega), hC.2.2 374 0 (by unfold SM; omega)⟩
theorem sync_inv {A A' D : AH} (h : INV A A) (hx : FX 430 XA A A') (hD : ∀ a k, 349 ≤ a → a ≤ 373 → gI D a k = gI A' a k) : INV A D := h.right (fun a k q1 q2 => by
  rw [hD a k q1 q2, (hx.2.2.2 a (by omega) (by unfold XA; omega) k).1])
theorem STEP.sync {cs : List (Nat × Int)} {f8 : Option (Nat × Int × AH)} {f9 : AH → Option (Int × AH)} {A : AH} (h : INV A A) (op : ∀ D, INV A D → STEP cs f8 (f9 D) A D) : ∃ (k : Nat) (v : Int) (A' : AH), f8 = some (k, v, A') ∧ ∀ D, FQ (fun a _ => a = 374) A' D → ∃ (w : Int) (C' : AH), f9 D = some (w, C') ∧ ((k = 0 ∧ gI C' 349 0 = 0 ∧ v = w) ∨ (k, gI C' 349 0) ∈ cs) ∧ BN 430 A C' ∧ INV C' C' ∧ gI C' 374 0 = gI D 374 0 := by
  obtain ⟨k, v, A', w0, C0, e1, -, -, e4, -, -⟩ := op A h
  refine ⟨k, v, A', e1, fun D hD => ?_⟩
  obtain ⟨k2, v2, A2, w, C', g1, g2, g3, g4, g5, g6⟩ := op D (sync_inv h e4 (fun a k q1 q2 => hD.2.2 a k (by omega)))
  rw [e1] at g1
  cases g1
  exact ⟨w, C', g2, g3, sync_core e4 hD g5 g6⟩
theorem CH_sD {A : AH} {x : UInt64} : ∀ {L : List LG} {q : Nat}, CH (sD A x) q L = CH A q L
  | [], q => rfl
  | y :: L, q => by
    show (LF (sD A x) q y L.length ∧ CH (sD A x) (gP (sD A x) q 0) L) = (LF A q y L.length ∧ CH A (gP A q 0) L)
    rw [CH_sD]
    rfl
theorem RP_sD {A : AH} {x : UInt64} {r : Nat} {M : MR} : RP (sD A x) r M = RP A r M := by
  unfold RP PP
  simp only [CH_sD]
  rfl
theorem sD_inv {A C : AH} {x : UInt64} (h : INV A C) : INV (sD A x) C := by
  obtain ⟨h1, h2, ⟨n, f, r1, r2, r3, r4, r5, r6⟩, ⟨s1, s2⟩, h5, h6, h7, h8⟩ := h
  refine ⟨h1, by rw [RP_sD]; exact h2, ⟨n, f, r1, r2, r3, r4, r5, fun i hi => ?_⟩, ⟨s1, s2.imp id (fun z => ⟨z.1, ?_⟩)⟩, h5, h6, h7, h8⟩
  · obtain ⟨M, m1, m2, m3⟩ := r6 i hi
    exact ⟨M, m1, m2, by rw [RP_sD]; exact m3⟩
  · obtain ⟨-, M, m1, m2, m3⟩ := z
    exact ⟨M, m1, m2, by rw [RP_sD]; exact m3⟩
theorem STEPD.sync {cs : List (Nat × Int)} {f8 : Option (Nat × UInt64 × AH)} {f9 : AH → Option (UInt64 × AH)} {A : AH} (h : INV A A) (op : ∀ D, INV A D → STEPD cs f8 (f9 D) A D) : ∃ (k : Nat) (v : UInt64) (A' : AH), f8 = some (k, v, A') ∧ ∀ D, (D = A' ∨ ∃ x, D = sD A' x) → ∃ (w : UInt64) (C' : AH), f9 D = some (w, C') ∧ ((k = 0 ∧ gI C' 349 0 = 0 ∧ v = w) ∨ (k, gI C' 349 0) ∈ cs) ∧ BN 430 A C' ∧ INV C' C' ∧ hDb C' = hDb D := by
  obtain ⟨k, v, A', w0, C0, e1, -, -, e4, -, -⟩ := op A h
  refine ⟨k, v, A', e1, fun D hD => ?_⟩
  have hD2 : ∀ a k, gI D a k = gI A' a k := fun a k => by
    rcases hD with z | ⟨x, z⟩ <;> subst z <;> rfl
  obtain ⟨k2, v2, A2, w, C', g1, g2, g3, g4, g5, g6⟩ := op D (sync_inv h e4 (fun a k q1 q2 => hD2 a k))
  rw [e1] at g1
  cases g1
  refine ⟨w, C', g2, g3, ?_⟩
  have hb : hDb C' = hDb D := by
    unfold hDb
    rw [g5.2.1]
  have hI : INV D C' := by
    rcases hD with z | ⟨x, z⟩ <;> subst z
    · exact g6
    · exact sD_inv g6
  have hbn : BN 430 A D := by
    rcases hD with z | ⟨x, z⟩ <;> subst z
    · exact e4.bn
    · exact e4.bn
  exact ⟨g5.bn hbn, hI.left (g5.fx (S := fun a => 349 ≤ a ∧ a ≤ 373) (fun a k z => by unfold SM at z; omega)) (fun a q1 q2 => by omega), hb⟩
theorem STEPF.sync {cs : List (Nat × Int)} {f8 : Option (Nat × UInt32 × AH)} {f9 : AH → Option (UInt32 × AH)} {A : AH} (h : INV A A) (op : ∀ D, INV A D → STEPF cs f8 (f9 D) A D) : ∃ (k : Nat) (v : UInt32) (A' : AH), f8 = some (k, v, A') ∧ (k = 0 → (∀ c, (0, c) ∉ cs) → FP.f2d v &&& 0x7fffffffffffffff ≤ 0x7ff0000000000000) ∧ ∀ D, (D = A' ∨ ∃ x, D = sD A' x) → ∃ (w : UInt32) (C' : AH), f9 D = some (w, C') ∧ ((k = 0 ∧ gI C' 349 0 = 0 ∧ v = w) ∨ (k, gI C' 349 0) ∈ cs) ∧ BN 430 A C' ∧ INV C' C' ∧ hDb C' = hDb D := by
  obtain ⟨k, v, A', w0, C0, e1, -, e3, e4, -, -⟩ := op A h
  refine ⟨k, v, A', e1, fun hk hc => ?_, fun D hD => ?_⟩
  · rcases e3 with ⟨-, -, -, z⟩ | z
    · exact z
    · subst hk
      exact absurd z (hc _)
  have hD2 : ∀ a k, gI D a k = gI A' a k := fun a k => by
    rcases hD with z | ⟨x, z⟩ <;> subst z <;> rfl
  obtain ⟨k2, v2, A2, w, C', g1, g2, g3, g4, g5, g6⟩ := op D (sync_inv h e4 (fun a k q1 q2 => hD2 a k))
  rw [e1] at g1
  cases g1
  refine ⟨w, C', g2, g3.imp (fun z => ⟨z.1, z.2.1, z.2.2.1⟩) id, ?_⟩
  have hb : hDb C' = hDb D := by
    unfold hDb
    rw [g5.2.1]
  have hI : INV D C' := by
    rcases hD with z | ⟨x, z⟩ <;> subst z
    · exact g6
    · exact sD_inv g6
  have hbn : BN 430 A D := by
    rcases hD with z | ⟨x, z⟩ <;> subst z
    · exact e4.bn
    · exact e4.bn
  exact ⟨g5.bn hbn, hI.left (g5.fx (S := fun a => 349 ≤ a ∧ a ≤ 373) (fun a k z => by unfold SM at z; omega)) (fun a q1 q2 => by omega), hb⟩
