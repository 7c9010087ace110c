/-! a double that is a number equals itself -/
theorem dec_num {x : UInt64} (h : x &&& 0x7fffffffffffffff ≤ 0x7ff0000000000000) : FP.Core.decode FP.Core.b64 x.toNat ≠ .nan := by
  rw [UInt64.le_iff_toNat_le, UInt64.toNat_and, show (0x7fffffffffffffff : UInt64).toNat = 2 ^ 63 - 1 from rfl, Nat.and_two_pow_sub_one_eq_mod] at h
  have h2 : x.toNat % 9223372036854775808 ≤ 9218868437227405312 := h
  unfold FP.Core.decode FP.Core.fieldE FP.Core.fieldT
  rw [t64, e64]
  clear h
  generalize x.toNat = n at h2 ⊢
  by_cases c : n / 4503599627370496 % 2048 = 2048 - 1
  · have ht : n % 4503599627370496 = 0 := by omega
    rw [if_pos c, if_pos ht]
    exact fun z => by cases z
  · rw [if_neg c]
    split <;> exact fun z => by cases z
theorem icmp_me (a : Int) : compare a a = .eq := by
  show compareOfLessAndEq a a = .eq
  unfold compareOfLessAndEq
  rw [if_neg (Int.lt_irrefl a), if_pos rfl]
theorem ord_self {d : FP.Core.Datum} (h : d ≠ .nan) : FP.Core.order d d = some .eq := by
  cases d with
  | nan => exact absurd rfl h
  | inf s => exact congrArg some (icmp_me _)
  | fin s c q => exact congrArg some (icmp_me _)
theorem dcmp_self {x : UInt64} (h : x &&& 0x7fffffffffffffff ≤ 0x7ff0000000000000) : (Op.cmpValue (FP.dcmp x x) .l).toInt = 0 := by
  have e : FP.dcmp x x = some .eq := ord_self (dec_num h)
  rw [e]
  rfl
theorem share_call {N : Nat} {A : AH} {x1 x5 : Int} {K : AH → Int → Option (Int × AH)} (hN0 : 25000 ≤ N) (h : INV A A) (h5 : 0 ≤ x5 ∧ x5 ≤ 4000) : ∃ B, BN 430 A B ∧ INV B B ∧ obind (fL_share N A x1) (fun p540 => obind (fX9_share N p540.2 x1) (fun p545 => obind (fX9_thrown N p545.2) (fun z549 => if z549 = p540.1 then (if p540.1 = 0 then chk ((FP.f2d p545.1) &&& 0x7fffffffffffffff ≤ 0x7ff0000000000000) (if ((Op.cmpValue (FP.dcmp (hDb p545.2) (FP.f2d p545.1)) .l).toInt) = 0 then bnd (wrap (x5 + 6)) (fun u => K p545.2 u) else (if ((Op.cmpValue (FP.dcmp (hDb p545.2) (hDb p545.2)) .l).toInt) = 0 then some (0, p545.2) else (if ((Op.cmpValue (FP.fcmp p545.1 p545.1) .l).toInt) = 0 then some (0, p545.2) else bnd (wrap (x5 + 6)) (fun u => K p545.2 u)))) else bnd (wrap (x5 + 6)) (fun u => K p545.2 u)) else some (0, p545.2)))) = K B (x5 + 6) := by
  have e : Unit → wrap (x5 + 6) = x5 + 6 := fun _ => wrap_eq (by omega) (by omega)
  obtain ⟨k, v, A', e1, ek, e2⟩ := STEPF.sync h (fun D hD => op_share (N := N) (x1 := x1) hN0 hD)
  unfold fL_share
  rw [e1, obind_some]
  dsimp only
  by_cases hk : k = 0
  · subst hk
    have hv : FP.f2d v &&& 0x7fffffffffffffff ≤ 0x7ff0000000000000 := ek rfl (fun c hc => by simp at hc)
    obtain ⟨w, C', g1, g2, g3, g4, g5⟩ := e2 (sD A' (FP.f2d v)) (Or.inr ⟨_, rfl⟩)
    refine ⟨C', g3, g4, ?_⟩
    rw [if_pos rfl, chk_pos _ hv, bnd_eq, obind_some]
    dsimp only
    rw [g1, obind_some]
    unfold fX9_thrown
    dsimp only
    rcases g2 with ⟨-, g2, g6⟩ | g2
    · subst g6
      have e3 : hDb C' = FP.f2d v := g5
      rw [obind_some, g2, if_pos rfl, if_pos rfl, chk_pos _ hv, e3, if_pos (dcmp_self hv), bnd_eq, e ()]
    · simp at g2
  · obtain ⟨w, C', g1, g2, g3, g4, g5⟩ := e2 A' (Or.inl rfl)
    rcases g2 with ⟨z, -⟩ | g2
    · exact absurd z hk
    · simp only [List.mem_cons, List.not_mem_nil, or_false, Prod.mk.injEq] at g2
      rcases g2 with ⟨q1, q2⟩ | ⟨q1, q2⟩
      · subst q1
        refine ⟨C', g3, g4, ?_⟩
        rw [if_neg (by decide), if_pos rfl, obind_some]
        dsimp only
        rw [g1, obind_some]
        unfold fX9_thrown
        dsimp only
        rw [obind_some, q2, if_pos rfl, if_neg (by decide), bnd_eq, e ()]
      · subst q1
        refine ⟨C', g3, g4, ?_⟩
        rw [if_neg (by decide), if_neg (by decide), if_pos rfl, obind_some]
        dsimp only
        rw [g1, obind_some]
        unfold fX9_thrown
        dsimp only
        rw [obind_some, q2, if_pos rfl, if_neg (by decide), bnd_eq, e ()]
