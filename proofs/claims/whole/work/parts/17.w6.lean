/-! one call of the law -/
def mpc : List (Nat × Int) → Nat → AH → Option (Int × AH)
  | [], _, _ => none
  | (k0, c) :: cs, k, A => if k = k0 then some (c, A) else mpc cs k A
/-- the law's wrapper of a call: the answer is put into its cell, a throw becomes a number -/
def MP (cs : List (Nat × Int)) (f8 : Option (Nat × Int × AH)) : Option (Int × AH) := obind f8 (fun p2 => if p2.1 = 0 then bnd (sI p2.2.2 374 0 p2.2.1) (fun A8 => some (0, A8)) else mpc cs p2.1 p2.2.2)
def GC (cs : List (Nat × Int)) : Prop := ∀ (k : Nat) (c : Int) (B : AH), (k, c) ∈ cs → k ≠ 0 ∧ c ≠ 0 ∧ mpc cs k B = some (c, B)
theorem STEP.law {cs : List (Nat × Int)} {f8 : Option (Nat × Int × AH)} {f9 : AH → Option (Int × AH)} {A : AH} (hcs : GC cs) (h : INV A A) (op : ∀ D, INV A D → STEP cs f8 (f9 D) A D) : ∃ (z : Int) (D : AH) (w : Int) (C' : AH), MP cs f8 = some (z, D) ∧ f9 D = some (w, C') ∧ gI C' 349 0 = z ∧ (z = 0 → gI C' 374 0 = w) ∧ BN 430 A C' ∧ INV C' C' := by
  obtain ⟨k, v, A', e1, e2⟩ := STEP.sync h op
  unfold MP
  rw [e1, obind_some]
  dsimp only
  by_cases hk : k = 0
  · subst hk
    obtain ⟨w, C', g1, g2, g3, g4, g5⟩ := e2 (sI A' 374 0 v) ((FQ.rf A').setc)
    rcases g2 with ⟨-, g2, g6⟩ | g2
    · exact ⟨0, sI A' 374 0 v, w, C', by rw [if_pos rfl, bnd_eq], g1, g2, fun _ => by rw [g5, gI_me, g6], g3, g4⟩
    · exact absurd rfl (hcs 0 _ A' g2).1
  · obtain ⟨w, C', g1, g2, g3, g4, g5⟩ := e2 A' (FQ.rf A')
    rcases g2 with ⟨z, -⟩ | g2
    · exact absurd z hk
    · obtain ⟨q1, q2, q3⟩ := hcs k _ A' g2
      exact ⟨gI C' 349 0, A', w, C', by rw [if_neg hk, q3], g1, rfl, fun z => absurd z q2, g3, g4⟩
/-- how the law's loop goes on after both answers -/
theorem law_go {x5 w z : Int} {C' : AH} {K : AH → Int → Option (Int × AH)} (hz : z = 0 → gI C' 374 0 = w) (h5 : 0 ≤ x5 ∧ x5 ≤ 4000) : (if z = 0 then (if (icmp (gI C' 374 0) w) = 0 then bnd (wrap (x5 + 6)) (fun u => K C' u) else some (0, C')) else bnd (wrap (x5 + 6)) (fun u => K C' u)) = K C' (x5 + 6) := by
  have e : Unit → wrap (x5 + 6) = x5 + 6 := fun _ => wrap_eq (by omega) (by omega)
  simp only [bnd_eq]
  rw [e ()]
  by_cases h : z = 0
  · rw [if_pos h, hz h]
    have e0 : icmp w w = 0 := by
      unfold icmp
      simp
    rw [e0, if_pos rfl]
  · rw [if_neg h]
