/-! both sides agree at the start -/
set_option maxRecDepth 100000 in
theorem z_ru : MRu (mvA zL) := by
  unfold MRu
  decide +kernel
set_option maxRecDepth 100000 in
theorem z_m18 : ∀ i, i < 5 → mvA zL 18 i = 0 := by decide +kernel
set_option maxRecDepth 100000 in
theorem z_pt0 : ∀ k, k < 5 → gI zL 3 k = mvA zL 0 k := by decide +kernel
set_option maxRecDepth 100000 in
theorem z_pt1 : ∀ k, k < 12 → gI zL 4 k = mvA zL 1 k := by decide +kernel
set_option maxRecDepth 100000 in
theorem z_ros : gI zL 2 5 = 0 ∧ gI zL 2 6 = 0 ∧ gI zL 2 7 = 0 ∧ gI zL 2 8 = 0 ∧ gI zL 64 1 = 0 ∧ gI zL 64 2 = 0 := by decide +kernel
set_option maxRecDepth 100000 in
theorem z_pro : gI zL 1 6 = 0 ∧ gI zL 1 7 = -1 ∧ gI zL 1 8 = 0 ∧ gI zL 1 9 = 0 ∧ gI zL 345 1 = 0 := by decide +kernel
set_option maxRecDepth 100000 in
theorem z_mod : gI zL 349 29 = 0 ∧ gI zL 349 30 = 0 ∧ gI zL 349 34 = 0 ∧ gI zL 349 37 = -1 ∧ gI zL 349 41 = 0 ∧ gI zL 349 43 = 0 ∧ gI zL 349 45 = 0 := by decide +kernel
theorem z_GD : GD (mvA zL) := by
  have e0 := z_m18 0 (by decide)
  have e1 := z_m18 1 (by decide)
  have e2 := z_m18 2 (by decide)
  have e3 := z_m18 3 (by decide)
  have e4 := z_m18 4 (by decide)
  refine ⟨z_ru, ?_, fun o h => ?_, fun p h => ?_, fun b h => ?_, ?_, fun k h => ?_⟩
  · unfold MC
    rw [e0, e1, e2, e3, e4]
    decide
  · rw [e3] at h
    omega
  · rw [e1] at h
    omega
  · rw [e2] at h
    omega
  · rw [e2, e4]
    rfl
  · rw [e4] at h
    omega
theorem z_RP : RP zL 2 (mvA zL) := by
  have e0 := z_m18 0 (by decide)
  have e1 := z_m18 1 (by decide)
  have e2 := z_m18 2 (by decide)
  have e3 := z_m18 3 (by decide)
  obtain ⟨r1, r2, r3, r4, -, -⟩ := z_ros
  refine ⟨⟨z_pt0, z_pt1⟩, ⟨r1.trans e0.symm, r2.trans e3.symm, r3.trans e1.symm, r4.trans e2.symm⟩, fun o h => ?_, fun p h => ?_, fun b h => ?_⟩
  · rw [e3] at h
    omega
  · rw [e1] at h
    omega
  · rw [e2] at h
    omega
theorem z_INV : INV zL zL := by
  obtain ⟨-, -, -, -, r5, r6⟩ := z_ros
  obtain ⟨p1, p2, p3, p4, p5⟩ := z_pro
  obtain ⟨m1, m2, m3, m4, m5, m6, m7⟩ := z_mod
  refine ⟨z_GD, z_RP, ⟨0, 0, by decide, by decide, m5, r6, r5, fun i hi => absurd hi (Nat.not_lt_zero i)⟩, ⟨p1.trans m6.symm, Or.inl m6⟩, ⟨p5.trans m3.symm, ⟨?_, ?_⟩, fun k h => ?_⟩, ⟨p2.trans m4.symm, p3.trans m1.symm, p4.trans m2.symm, ?_⟩, m7, Nat.le_of_eq hN_zL.symm⟩
  · rw [m3]
    decide
  · rw [m3]
    decide
  · rw [m3] at h
    omega
  · rw [m4]
    decide
