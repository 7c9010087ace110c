/-! the law's loop -/
theorem one_call {N : Nat} {cs : List (Nat × Int)} {f8 : Option (Nat × Int × AH)} {f9 : AH → Option (Int × AH)} {A : AH} {x5 : Int} {K : AH → Int → Option (Int × AH)} (hcs : GC cs) (h : INV A A) (op : ∀ D, INV A D → STEP cs f8 (f9 D) A D) (h5 : 0 ≤ x5 ∧ x5 ≤ 4000) : ∃ B, BN 430 A B ∧ INV B B ∧ obind (MP cs f8) (fun p7 => obind (f9 p7.2) (fun p13 => obind (fX9_thrown N p13.2) (fun z17 => if z17 = p7.1 then (if p7.1 = 0 then (if (icmp (gI p13.2 374 0) p13.1) = 0 then bnd (wrap (x5 + 6)) (fun u => K p13.2 u) else some (0, p13.2)) else bnd (wrap (x5 + 6)) (fun u => K p13.2 u)) else some (0, p13.2)))) = K B (x5 + 6) := by
  obtain ⟨z, D, w, C', e1, e2, e3, e4, e5, e6⟩ := STEP.law hcs h op
  refine ⟨C', e5, e6, ?_⟩
  rw [e1, obind_some]
  dsimp only
  rw [e2, obind_some]
  dsimp only
  unfold fX9_thrown
  rw [obind_some, e3, if_pos rfl]
  exact law_go (K := K) e4 h5
theorem gc_0 : GC [(1, 1), (2, 2)] := fun k c B h => by
  simp only [List.mem_cons, List.not_mem_nil, or_false, Prod.mk.injEq] at h
  rcases h with ⟨rfl, rfl⟩ | ⟨rfl, rfl⟩
  · exact ⟨by decide, by decide, rfl⟩
  · exact ⟨by decide, by decide, rfl⟩
theorem gc_1 : GC [(1, 1), (5, 2)] := fun k c B h => by
  simp only [List.mem_cons, List.not_mem_nil, or_false, Prod.mk.injEq] at h
  rcases h with ⟨rfl, rfl⟩ | ⟨rfl, rfl⟩
  · exact ⟨by decide, by decide, rfl⟩
  · exact ⟨by decide, by decide, rfl⟩
theorem gc_2 : GC [(1, 1)] := fun k c B h => by
  simp only [List.mem_cons, List.not_mem_nil, or_false, Prod.mk.injEq] at h
  rcases h with ⟨rfl, rfl⟩
  · exact ⟨by decide, by decide, rfl⟩
theorem gc_3 : GC [(2, 1)] := fun k c B h => by
  simp only [List.mem_cons, List.not_mem_nil, or_false, Prod.mk.injEq] at h
  rcases h with ⟨rfl, rfl⟩
  · exact ⟨by decide, by decide, rfl⟩
theorem gc_4 : GC [(3, 1), (1, 2), (5, 3)] := fun k c B h => by
  simp only [List.mem_cons, List.not_mem_nil, or_false, Prod.mk.injEq] at h
  rcases h with ⟨rfl, rfl⟩ | ⟨rfl, rfl⟩ | ⟨rfl, rfl⟩
  · exact ⟨by decide, by decide, rfl⟩
  · exact ⟨by decide, by decide, rfl⟩
  · exact ⟨by decide, by decide, rfl⟩
theorem gc_5 : GC [(3, 1), (1, 2), (6, 3)] := fun k c B h => by
  simp only [List.mem_cons, List.not_mem_nil, or_false, Prod.mk.injEq] at h
  rcases h with ⟨rfl, rfl⟩ | ⟨rfl, rfl⟩ | ⟨rfl, rfl⟩
  · exact ⟨by decide, by decide, rfl⟩
  · exact ⟨by decide, by decide, rfl⟩
  · exact ⟨by decide, by decide, rfl⟩
theorem gc_6 : GC [(3, 1), (1, 2)] := fun k c B h => by
  simp only [List.mem_cons, List.not_mem_nil, or_false, Prod.mk.injEq] at h
  rcases h with ⟨rfl, rfl⟩ | ⟨rfl, rfl⟩
  · exact ⟨by decide, by decide, rfl⟩
  · exact ⟨by decide, by decide, rfl⟩
theorem gc_7 : GC [(3, 1), (5, 2)] := fun k c B h => by
  simp only [List.mem_cons, List.not_mem_nil, or_false, Prod.mk.injEq] at h
  rcases h with ⟨rfl, rfl⟩ | ⟨rfl, rfl⟩
  · exact ⟨by decide, by decide, rfl⟩
  · exact ⟨by decide, by decide, rfl⟩
theorem gc_8 : GC [(3, 1), (6, 2), (1, 3)] := fun k c B h => by
  simp only [List.mem_cons, List.not_mem_nil, or_false, Prod.mk.injEq] at h
  rcases h with ⟨rfl, rfl⟩ | ⟨rfl, rfl⟩ | ⟨rfl, rfl⟩
  · exact ⟨by decide, by decide, rfl⟩
  · exact ⟨by decide, by decide, rfl⟩
  · exact ⟨by decide, by decide, rfl⟩
theorem gc_9 : GC [(3, 1), (6, 2)] := fun k c B h => by
  simp only [List.mem_cons, List.not_mem_nil, or_false, Prod.mk.injEq] at h
  rcases h with ⟨rfl, rfl⟩ | ⟨rfl, rfl⟩
  · exact ⟨by decide, by decide, rfl⟩
  · exact ⟨by decide, by decide, rfl⟩
theorem gc_10 : GC [(3, 1)] := fun k c B h => by
  simp only [List.mem_cons, List.not_mem_nil, or_false, Prod.mk.injEq] at h
  rcases h with ⟨rfl, rfl⟩
  · exact ⟨by decide, by decide, rfl⟩
theorem gc_11 : GC [(6, 1)] := fun k c B h => by
  simp only [List.mem_cons, List.not_mem_nil, or_false, Prod.mk.injEq] at h
  rcases h with ⟨rfl, rfl⟩
  · exact ⟨by decide, by decide, rfl⟩
theorem two_call {N : Nat} {f8 : Option (Int × AH)} {f9 : AH → Option (Int × AH)} {A : AH} {x5 : Int} {K : AH → Int → Option (Int × AH)} (h : INV A A) (op : ∀ D, INV A D → STEP [] (obind f8 (fun p => some (0, p.1, p.2))) (f9 D) A D) (h5 : 0 ≤ x5 ∧ x5 ≤ 4000) : ∃ B, BN 430 A B ∧ INV B B ∧ obind f8 (fun p => obind (f9 p.2) (fun q => if p.1 = q.1 then bnd (wrap (x5 + 6)) (fun u => K q.2 u) else some (0, q.2))) = K B (x5 + 6) := by
  obtain ⟨k, v, A', e1, e2⟩ := STEP.sync h op
  obtain ⟨w, C', g1, g2, g3, g4, g5⟩ := e2 A' (FQ.rf A')
  have e : Unit → wrap (x5 + 6) = x5 + 6 := fun _ => wrap_eq (by omega) (by omega)
  cases f8 with
  | none => cases e1
  | some p =>
    rw [obind_some] at e1
    cases e1
    refine ⟨C', g3, g4, ?_⟩
    rw [obind_some, g1, obind_some]
    dsimp only
    rcases g2 with ⟨-, -, z⟩ | z
    · rw [if_pos z, bnd_eq, e ()]
    · cases z
theorem mean_call {N : Nat} {A : AH} {x5 : Int} {K : AH → Int → Option (Int × AH)} (hN0 : 25000 ≤ N) (h : INV A A) (h5 : 0 ≤ x5 ∧ x5 ≤ 4000) : ∃ B, BN 430 A B ∧ INV B B ∧ obind (fL_meanWait N A) (fun p518 => obind (fX9_meanWait N p518.2) (fun p522 => obind (fX9_thrown N p522.2) (fun z526 => if z526 = p518.1 then (if p518.1 = 0 then (if ((Op.cmpValue (FP.dcmp (hDb p522.2) p522.1) .l).toInt) = 0 then bnd (wrap (x5 + 6)) (fun u => K p522.2 u) else (if ((Op.cmpValue (FP.dcmp (hDb p522.2) (hDb p522.2)) .l).toInt) = 0 then some (0, p522.2) else (if ((Op.cmpValue (FP.dcmp p522.1 p522.1) .l).toInt) = 0 then some (0, p522.2) else bnd (wrap (x5 + 6)) (fun u => K p522.2 u)))) else bnd (wrap (x5 + 6)) (fun u => K p522.2 u)) else some (0, p522.2)))) = K B (x5 + 6) := by
  have e : Unit → wrap (x5 + 6) = x5 + 6 := fun _ => wrap_eq (by omega) (by omega)
  obtain ⟨k, v, A', e1, e2⟩ := STEPD.sync h (fun D hD => op_meanWait (N := N) hN0 hD)
  unfold fL_meanWait
  rw [e1, obind_some]
  dsimp only
  by_cases hk : k = 0
  · subst hk
    obtain ⟨w, C', g1, g2, g3, g4, g5⟩ := e2 (sD A' v) (Or.inr ⟨v, rfl⟩)
    refine ⟨C', g3, g4, ?_⟩
    rw [if_pos rfl, bnd_eq, obind_some]
    dsimp only
    rw [g1, obind_some]
    unfold fX9_thrown
    dsimp only
    rcases g2 with ⟨-, g2, g6⟩ | g2
    · have e3 : hDb C' = w := g5.trans g6
      simp only [bnd_eq]
      rw [obind_some, g2, if_pos rfl, if_pos trivial, e3, e ()]
      by_cases z : (Op.cmpValue (FP.dcmp w w) .l).toInt = 0
      · rw [if_pos z]
      · rw [if_neg z, if_neg z, if_neg z]
    · simp at g2
  · obtain ⟨w, C', g1, g2, g3, g4, g5⟩ := e2 A' (Or.inl rfl)
    rcases g2 with ⟨z, -⟩ | g2
    · exact absurd z hk
    · simp only [List.mem_cons, List.not_mem_nil, or_false, Prod.mk.injEq] at g2
      obtain ⟨q1, q2⟩ := g2
      subst q1
      refine ⟨C', g3, g4, ?_⟩
      rw [if_neg (by decide), if_pos rfl, obind_some]
      dsimp only
      rw [g1, obind_some]
      unfold fX9_thrown
      dsimp only
      rw [obind_some, q2, if_pos rfl, if_neg (by decide), bnd_eq, e ()]
