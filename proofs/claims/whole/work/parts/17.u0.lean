/-! time passes -/
def overB (M : MR) (o : Nat) : MR := updM (updM M 7 o 2) 13 (M 8 o).toNat (wrap (M 13 (M 8 o).toNat + 1))
def credM (M : MR) (p : Nat) : MR := let M2 := updM M 12 p (wrap (M 12 p + 1)); if M 0 2 ≤ wrap (M 12 p + 1) then (if M 11 p = 4 then M2 else updM (updM M2 11 p (wrap (M 11 p + 1))) 12 p 0) else M2
def isOverM (M : MR) (o : Nat) : MR := if M 2 o = M 11 (M 8 o).toNat then credM (overB M o) (M 8 o).toNat else overB M o
def nextF (M : MR) : Nat → Nat → Int → Int
  | 0, _, c => c
  | k + 1, a, c => nextF M k (a + 1) (if M 7 a = 1 ∧ endM M a ≤ M 18 0 ∧ (c < 0 ∨ endM M a < endM M c.toNat) then (a : Int) else c)
def nextO (M : MR) : Int := nextF M (M 18 3).toNat 0 (-1)
def oversM : Nat → MR → MR
  | 0, M => M
  | k + 1, M => if nextO M < 0 then M else oversM k (isOverM M (nextO M).toNat)
def misF : Nat → Nat → MR → Int → MR × Int
  | 0, _, M, c => (M, c)
  | k + 1, a, M, c => if M 7 a = 0 ∧ M 6 a < M 18 0 then misF k (a + 1) (updM M 7 a 3) (c + 1) else misF k (a + 1) M c
def advM (M : MR) (x : Int) : MR × Int :=
  let M1 := oversM (M 18 3).toNat (updM M 18 0 (M 18 0 + x))
  misF (M 18 3).toNat 0 M1 0
theorem overB_n {M : MR} {o : Nat} {j i : Nat} (h : j ≠ 7 ∧ j ≠ 13) : overB M o j i = M j i := by
  unfold overB
  rw [updM_ne (by omega), updM_ne (by omega)]
theorem credM_n {M : MR} {p : Nat} {j i : Nat} (h : j ≠ 11 ∧ j ≠ 12) : credM M p j i = M j i := by
  unfold credM
  split
  · split
    · rw [updM_ne (by omega)]
    · rw [updM_ne (by omega), updM_ne (by omega), updM_ne (by omega)]
  · rw [updM_ne (by omega)]
theorem isOverM_n {M : MR} {o : Nat} {j i : Nat} (h : j ≠ 7 ∧ j ≠ 13 ∧ j ≠ 11 ∧ j ≠ 12) : isOverM M o j i = M j i := by
  unfold isOverM
  split
  · rw [credM_n (by omega), overB_n (by omega)]
  · rw [overB_n (by omega)]
theorem isOverM_7 {M : MR} {o i : Nat} : isOverM M o 7 i = if i = o then 2 else M 7 i := by
  have e : overB M o 7 i = if i = o then 2 else M 7 i := by
    unfold overB
    rw [updM_ne (by omega)]
    by_cases h : i = o
    · rw [if_pos h, h, updM_self]
    · rw [if_neg h, updM_ne (by omega)]
  unfold isOverM
  split
  · rw [credM_n (by omega), e]
  · exact e
theorem MC.updj {M : MR} {j i : Nat} {v : Int} (h : MC M) (hj : j ≠ 18) : MC (updM M j i v) := by
  unfold MC at *
  rw [updM_ne (by omega), updM_ne (by omega), updM_ne (by omega), updM_ne (by omega), updM_ne (by omega)]
  exact h
theorem GD.overB {M : MR} {o : Nat} (hG : GD M) (ho : (o : Int) < M 18 3) (h7 : M 7 o = 1) : GD (overB M o) := by
  have h16 := hG.o16 ho
  obtain ⟨hp, -⟩ := trip_of hG ho (Or.inl h7)
  have c3 := hG.2.1.2.2.2.1
  refine hG.upd ⟨overB_n (by omega), overB_n (by omega), overB_n (by omega), overB_n (by omega)⟩ (hG.1.same (fun k => overB_n (by omega)) (fun k => overB_n (by omega))) (by rw [overB_n (by omega)]; exact hG.2.1.1) (fun i hi => ?_) (fun p hp2 => ?_) (fun b _ => ⟨overB_n (by omega), overB_n (by omega), overB_n (by omega)⟩) (fun k _ => overB_n (by omega))
  · by_cases e : i = o
    · subst e
      have h := hG.2.2.1 i hi
      have e7 : Jvm.Pilot.@@N@@.overB M i 7 i = 2 := by
        unfold Jvm.Pilot.@@N@@.overB
        rw [updM_ne (by omega), updM_self]
      unfold MO tripM at *
      rw [e7, overB_n (by omega), overB_n (by omega), overB_n (by omega), overB_n (by omega), overB_n (by omega), overB_n (by omega), overB_n (by omega), overB_n (by omega), overB_n (by omega)]
      exact ⟨h.1, h.2.1, h.2.2.1, h.2.2.2.1, by decide, h.2.2.2.2.2.1, fun _ => h.2.2.2.2.2.2 (Or.inl h7)⟩
    · refine (hG.2.2.1 i hi).same (fun j _ _ => ?_) (overB_n (by omega))
      unfold Jvm.Pilot.@@N@@.overB
      rw [updM_ne (by omega), updM_ne (by omega)]
  · have hp4 := hG.2.2.2.1 p hp2
    rw [overB_n (by omega)]
    refine ⟨hp4.1, ?_⟩
    have hd : doneM (Jvm.Pilot.@@N@@.overB M o) p = doneM M p + (if p = (M 8 o).toNat then 1 else 0) := by
      unfold doneM
      rw [overB_n (by omega)]
      have e1 : sumN (fun i => (if M 7 i = 2 ∧ M 8 i = (p : Int) then 1 else 0) + (if i = o then (if p = (M 8 o).toNat then 1 else 0) else 0)) (M 18 3).toNat 0 = sumN (fun i => if M 7 i = 2 ∧ M 8 i = (p : Int) then 1 else 0) (M 18 3).toNat 0 + (if p = (M 8 o).toNat then 1 else 0) := by
        rw [sumN_add, sumN_one (by omega) (by omega)]
      rw [← e1]
      refine sumN_congr (fun i _ hi => ?_)
      rw [overB_n (j := 8) (by omega)]
      by_cases e : i = o
      · subst e
        have e7 : Jvm.Pilot.@@N@@.overB M i 7 i = 2 := by
          unfold Jvm.Pilot.@@N@@.overB
          rw [updM_ne (by omega), updM_self]
        rw [e7, h7, if_neg (show ¬ ((1 : Int) = 2 ∧ M 8 i = (p : Int)) by omega), if_pos (rfl : i = i)]
        by_cases q : p = (M 8 i).toNat
        · rw [if_pos q, if_pos ⟨rfl, by omega⟩]
          rfl
        · rw [if_neg q, if_neg (by omega)]
          rfl
      · have e7 : Jvm.Pilot.@@N@@.overB M o 7 i = M 7 i := by
          unfold Jvm.Pilot.@@N@@.overB
          rw [updM_ne (by omega), updM_ne (by omega)]
        rw [e7, if_neg e, Int.add_zero]
    rw [hd, ← hp4.2]
    have hb : 0 ≤ doneM M p ∧ doneM M p ≤ 1 * ((M 18 3).toNat : Int) := sumN_nn (fun i _ _ => by split <;> decide)
    by_cases q : p = (M 8 o).toNat
    · rw [if_pos q]
      have e13 : Jvm.Pilot.@@N@@.overB M o 13 p = wrap (M 13 p + 1) := by
        unfold Jvm.Pilot.@@N@@.overB
        rw [q, updM_self]
      rw [e13, wrap_eq (by omega) (by omega)]
    · rw [if_neg q, Int.add_zero]
      unfold Jvm.Pilot.@@N@@.overB
      rw [updM_ne (by omega), updM_ne (by omega)]
theorem GD.credM {M : MR} {p : Nat} (hG : GD M) (hp : (p : Int) < M 18 1) : GD (credM M p) := by
  refine hG.upd ⟨credM_n (by omega), credM_n (by omega), credM_n (by omega), credM_n (by omega)⟩ (hG.1.same (fun k => credM_n (by omega)) (fun k => credM_n (by omega))) (by rw [credM_n (by omega)]; exact hG.2.1.1) (fun i hi => (hG.2.2.1 i hi).same (fun j _ _ => credM_n (by omega)) (credM_n (by omega))) (fun q hq => ?_) (fun b _ => ⟨credM_n (by omega), credM_n (by omega), credM_n (by omega)⟩) (fun k _ => credM_n (by omega))
  have hq4 := hG.2.2.2.1 q hq
  rw [credM_n (j := 13) (by omega), doneM_congr (M := M) (credM_n (by omega)) (fun o _ => by rw [credM_n (by omega), credM_n (by omega)])]
  refine ⟨?_, hq4.2⟩
  unfold Jvm.Pilot.@@N@@.credM
  split
  · split
    · rw [updM_ne (by omega)]; exact hq4.1
    · rename_i h4
      rw [updM_ne (by omega)]
      by_cases e : q = p
      · subst e
        rw [updM_self, wrap_eq (by omega) (by omega)]
        omega
      · rw [updM_ne (by omega), updM_ne (by omega)]; exact hq4.1
  · rw [updM_ne (by omega)]; exact hq4.1
theorem GD.isOverM {M : MR} {o : Nat} (hG : GD M) (ho : (o : Int) < M 18 3) (h7 : M 7 o = 1) : GD (isOverM M o) := by
  obtain ⟨hp, -⟩ := trip_of hG ho (Or.inl h7)
  have h := hG.overB ho h7
  unfold Jvm.Pilot.@@N@@.isOverM
  split
  · exact h.credM (by rw [overB_n (by omega)]; omega)
  · exact h
/-- the program finishes a trip -/
theorem X4_credit {N : Nat} {A : AH} {r p : Nat} {M : MR} {x : Int} (hr : r + 31 ≤ 376) (hG : GD M) (hP : RP A r M) (hp : (p : Int) < M 18 1) : ∃ B, fX4_credit N A (r + 22 + p) x (M 0 2) = some B ∧ RP B r (if x = M 11 p then credM M p else M) ∧ FX 0 (fun a => r ≤ a ∧ a ≤ r + 30) A B := by
  have hp6 := hG.p6 hp
  have hp4 := (hG.2.2.2.1 p hp).1
  obtain ⟨L, l1, -⟩ := hP.2.2.2.1 p hp
  unfold fX4_credit
  rw [l1.1]
  by_cases hx : x = M 11 p
  · rw [if_pos hx, if_pos hx]
    simp only [bnd_eq]
    rw [l1.2.1]
    obtain ⟨C, hC⟩ : ∃ C, C = sI A (r + 22 + p) 1 (wrap (M 12 p + 1)) := ⟨_, rfl⟩
    have hPC : RP C r (updM M 12 p (wrap (M 12 p + 1))) := by rw [hC]; exact RP_pil (i := 1) hr hG.2.1 hP hp (by decide)
    have xC : FX 0 (fun a => r ≤ a ∧ a ≤ r + 30) A C := by rw [hC]; exact FX_sI A (by omega) (by omega)
    have e1 : gI C (r + 22 + p) 1 = wrap (M 12 p + 1) := by rw [hC, gI_sI, if_pos ⟨rfl, rfl⟩]
    have e0 : gI C (r + 22 + p) 0 = M 11 p := by rw [hC, gI_sI, if_neg (by omega)]; exact l1.1
    rw [← hC, e1, e0]
    unfold credM
    simp only
    by_cases h2 : wrap (M 12 p + 1) < M 0 2
    · rw [if_pos h2, if_neg (by omega)]
      exact ⟨C, rfl, hPC, xC⟩
    · rw [if_neg h2, if_pos (show M 0 2 ≤ wrap (M 12 p + 1) by omega)]
      by_cases h4 : M 11 p = 4
      · rw [if_pos (by omega), if_pos h4]
        exact ⟨C, rfl, hPC, xC⟩
      · rw [if_neg (by omega), if_neg h4]
        have hC1 : MC (updM M 12 p (wrap (M 12 p + 1))) := hG.2.1.updj (by decide)
        have hPD := RP_pil (p := p) (i := 0) (v := wrap (M 11 p + 1)) hr hC1 hPC (by rw [updM_ne (by omega)]; exact hp) (by decide)
        have hPE := RP_pil (p := p) (i := 1) (v := 0) hr (hC1.updj (by decide)) hPD (by rw [updM_ne (by omega), updM_ne (by omega)]; exact hp) (by decide)
        exact ⟨_, rfl, hPE, (xC.tr (FX_sI C (by omega) (by omega))).tr (FX_sI _ (by omega) (by omega))⟩
  · rw [if_neg hx, if_neg hx]
    exact ⟨A, rfl, hP, FX.rf A⟩
theorem X5_finish {N : Nat} {A : AH} {r o : Nat} {M : MR} (hr : r + 31 ≤ 376) (hG : GD M) (hP : RP A r M) (ho : (o : Int) < M 18 3) (h7 : M 7 o = 1) : ∃ B, fX5_finish N A r (r + 6 + o) = some B ∧ RP B r (isOverM M o) ∧ FX 0 (fun a => r ≤ a ∧ a ≤ r + 30) A B := by
  have h16 := hG.o16 ho
  obtain ⟨hp, -⟩ := trip_of hG ho (Or.inl h7)
  have hO := hP.2.2.1 o ho
  have h8 := hO.2.2.2.2.2.2.2.1
  rw [if_pos (Or.inl h7)] at h8
  obtain ⟨p, ep⟩ : ∃ p : Nat, M 8 o = (p : Int) := ⟨(M 8 o).toNat, by omega⟩
  rw [ep] at hp h8
  have hp6 := hG.p6 hp.2
  obtain ⟨C, hC⟩ : ∃ C, C = sI A (r + 6 + o) 5 2 := ⟨_, rfl⟩
  have hPC : RP C r (overB M o) := by
    unfold overB
    rw [hC]
    exact RP_13 (hG.2.1.updj (by decide)) (RP_state hr hG.2.1 hP ho ⟨fun _ => Or.inr rfl, fun _ => Or.inl h7⟩)
  have hGC := hG.overB ho h7
  have xC : FX 0 (fun a => r ≤ a ∧ a ≤ r + 30) A C := by rw [hC]; exact FX_sI A (by omega) (by omega)
  have e6 : gI C (r + 6 + o) 6 = (p : Int) := by rw [hC, gI_sI, if_neg (by omega)]; exact h8
  have e0 : gI C (r + 6 + o) 0 = M 2 o := by rw [hC, gI_sI, if_neg (by omega)]; exact hO.1
  have e2 : gI C (r + 1) 2 = overB M o 0 2 := hPC.1.1 2 (by decide)
  obtain ⟨B, b1, b2, b3⟩ := X4_credit (N := N) (A := C) (r := r) (p := p) (M := overB M o) (x := M 2 o) hr hGC hPC (by rw [overB_n (by omega)]; exact hp.2)
  refine ⟨B, ?_, ?_, (xC.tr b3)⟩
  · unfold fX5_finish
    rw [bnd_eq, ← hC, e6, X5_hasPilot hPC, obind_some, overB_n (by omega), decide_eq_true hp, if_neg b2t', chk_pos _ (by omega), Int.toNat_natCast, e0, e2, b1, obind_some]
  · unfold isOverM
    rw [ep, Int.toNat_natCast]
    rw [overB_n (j := 11) (by omega)] at b2
    exact b2
/-- the address of an order, or 0 -/
def adr (r : Nat) (c : Int) : Nat := if c < 0 then 0 else r + 6 + c.toNat
theorem nextF_rng {M : MR} : ∀ {k a : Nat} {c : Int}, (a : Int) + k = M 18 3 → (c = -1 ∨ (0 ≤ c ∧ c < M 18 3 ∧ M 7 c.toNat = 1)) → (nextF M k a c = -1 ∨ (0 ≤ nextF M k a c ∧ nextF M k a c < M 18 3 ∧ M 7 (nextF M k a c).toNat = 1))
  | 0, a, c, h, hc => hc
  | k + 1, a, c, h, hc => by
    rw [nextF]
    refine nextF_rng (by omega) ?_
    split
    · rename_i q
      exact Or.inr ⟨by omega, by omega, by rw [Int.toNat_natCast]; exact q.1⟩
    · exact hc
theorem nextO_rng {M : MR} (hC : MC M) : nextO M = -1 ∨ (0 ≤ nextO M ∧ nextO M < M 18 3 ∧ M 7 (nextO M).toNat = 1) := by
  have c4 := hC.2.2.2.1
  exact nextF_rng (by omega) (Or.inl rfl)
theorem X5_firstEnded4 {N : Nat} {A : AH} {r : Nat} {M : MR} (hG : GD M) (hP : RP A r M) : ∀ {k n a : Nat} {c : Int}, (a : Int) + k = M 18 3 → (c = -1 ∨ (0 ≤ c ∧ c < M 18 3 ∧ M 7 c.toNat = 1)) → k < n → fX5_firstEnded_4 N A r n (adr r c) a = some (adr r (nextF M k a c))
  | 0, n, a, c, h, hc, hn => by
    match n, hn with
    | n + 1, _ =>
      rw [fX5_firstEnded_4, hP.2.1.2.1, if_pos (ge_z h)]
      rfl
  | k + 1, n, a, c, h, hc, hn => by
    have ha := lt_sc h
    have h16 := hG.o16 ha
    have hO := hP.2.2.1 a ha
    have ea : Unit → wrap ((a : Int) + 1) = ((a + 1 : Nat) : Int) := fun _ => wrap_eq (by omega) (by omega)
    match n, hn with
    | n + 1, hn =>
      have hn2 : k < n := Nat.lt_of_succ_lt_succ hn
      have hk2 : ((a + 1 : Nat) : Int) + k = M 18 3 := by rw [sc_cast]; exact h
      rw [fX5_firstEnded_4, hP.2.1.2.1, if_neg (Int.not_le.mpr ha), ck16 h16, ck16 h16, ck16 h16, ck16 h16, Int.toNat_natCast, hO.2.2.2.2.2.1, hP.2.1.1, nextF]
      by_cases h7 : M 7 a = 1
      · have h8 := hO.2.2.2.2.2.2.2.2.2
        rw [if_pos (Or.inl h7)] at h8
        have hca : (a : Int) = -1 ∨ (0 ≤ (a : Int) ∧ (a : Int) < M 18 3 ∧ M 7 (a : Int).toNat = 1) := Or.inr ⟨by omega, ha, by rw [Int.toNat_natCast]; exact h7⟩
        have ead : r + 6 + a = adr r (a : Int) := by
          unfold adr
          rw [if_neg (by omega), Int.toNat_natCast]
        rw [if_pos h7, h8, show M 9 a + M 2 a + 2 = endM M a from rfl]
        by_cases hl : M 18 0 < endM M a
        · rw [if_pos hl, if_neg (by omega), bnd_eq, ea ()]
          exact X5_firstEnded4 hG hP hk2 hc hn2
        · rw [if_neg hl]
          rcases hc with hc | ⟨k1, k2, k3⟩
          · have e0 : adr r c = 0 := by unfold adr; rw [if_pos (by omega)]
            rw [if_pos e0, if_pos ⟨h7, by omega, Or.inl (by omega)⟩, bnd_eq, ea (), ead]
            exact X5_firstEnded4 hG hP hk2 hca hn2
          · have e0 : adr r c = r + 6 + c.toNat := by unfold adr; rw [if_neg (by omega)]
            have hOc := (hP.2.2.1 c.toNat (by omega)).2.2.2.2.2.2.2.2.2
            rw [if_pos (Or.inl k3)] at hOc
            rw [if_neg (by omega), e0, hOc, show M 9 c.toNat + M 2 c.toNat + 2 = endM M c.toNat from rfl]
            by_cases hl2 : endM M c.toNat ≤ endM M a
            · rw [if_pos hl2, if_neg (by omega), bnd_eq, ea (), ← e0]
              exact X5_firstEnded4 hG hP hk2 (Or.inr ⟨k1, k2, k3⟩) hn2
            · rw [if_neg hl2, if_pos ⟨h7, by omega, Or.inr (by omega)⟩, bnd_eq, ea (), ead]
              exact X5_firstEnded4 hG hP hk2 hca hn2
      · rw [if_neg h7, if_neg (fun z => h7 z.1), bnd_eq, ea ()]
        exact X5_firstEnded4 hG hP hk2 hc hn2
theorem X5_firstEnded {N : Nat} {A : AH} {r : Nat} {M : MR} (hN : 100 ≤ N) (hG : GD M) (hP : RP A r M) : fX5_firstEnded N A r = some (adr r (nextO M)) := by
  have c4 := hG.2.1.2.2.2.1
  exact X5_firstEnded4 (c := -1) (a := 0) hG hP (show ((0 : Nat) : Int) + ((M 18 3).toNat : Int) = M 18 3 by omega) (Or.inl rfl) (by omega)
theorem oversM_stop {M : MR} (h : nextO M < 0) : ∀ k, oversM k M = M
  | 0 => rfl
  | k + 1 => by rw [oversM, if_pos h]
theorem GD.oversM : ∀ {k : Nat} {M : MR}, GD M → GD (oversM k M) ∧ oversM k M 18 3 = M 18 3 ∧ oversM k M 18 0 = M 18 0
  | 0, M, hG => ⟨hG, rfl, rfl⟩
  | k + 1, M, hG => by
    rw [Jvm.Pilot.@@N@@.oversM]
    rcases nextO_rng hG.2.1 with h | ⟨h1, h2, h3⟩
    · rw [if_pos (by omega)]
      exact ⟨hG, rfl, rfl⟩
    · rw [if_neg (by omega)]
      have := GD.oversM (k := k) (hG.isOverM (o := (nextO M).toNat) (by omega) h3)
      rw [isOverM_n (by omega), isOverM_n (by omega)] at this
      exact this
theorem X5_adv12 {N : Nat} {r : Nat} (hN : 100 ≤ N) (hr : r + 31 ≤ 376) : ∀ {k n a : Nat} {A : AH} {M : MR}, GD M → RP A r M → (a : Int) + k = M 18 3 → k < n → ∃ B, fX5_advance_12 N r n A a = fX5_advance_44 N r N B 0 0 ∧ RP B r (oversM k M) ∧ FX 0 (fun a => r ≤ a ∧ a ≤ r + 30) A B
  | 0, n, a, A, M, hG, hP, h, hn => by
    match n, hn with
    | n + 1, _ =>
      refine ⟨A, ?_, hP, FX.rf A⟩
      rw [fX5_advance_12, hP.2.1.2.1, if_pos (ge_z h)]
  | k + 1, n, a, A, M, hG, hP, h, hn => by
    have ha := lt_sc h
    have h16 := hG.o16 ha
    have ea : Unit → wrap ((a : Int) + 1) = ((a + 1 : Nat) : Int) := fun _ => wrap_eq (by omega) (by omega)
    match n, hn with
    | n + 1, hn =>
      have hn2 : k < n := Nat.lt_of_succ_lt_succ hn
      have hk2 : ((a + 1 : Nat) : Int) + k = M 18 3 := by rw [sc_cast]; exact h
      rw [fX5_advance_12, hP.2.1.2.1, if_neg (Int.not_le.mpr ha), X5_firstEnded hN hG hP, obind_some, oversM]
      rcases nextO_rng hG.2.1 with q | ⟨q1, q2, q3⟩
      · have e0 : adr r (nextO M) = 0 := by unfold adr; rw [if_pos (by omega)]
        obtain ⟨B, b1, b2, b3⟩ := X5_adv12 hN hr hG hP hk2 hn2
        rw [oversM_stop (by omega)] at b2
        rw [if_pos e0, if_pos (by omega), bnd_eq, ea ()]
        exact ⟨B, b1, b2, b3⟩
      · have e0 : adr r (nextO M) = r + 6 + (nextO M).toNat := by unfold adr; rw [if_neg (by omega)]
        obtain ⟨C, c1, c2, c3⟩ := X5_finish (N := N) (A := A) (r := r) (o := (nextO M).toNat) (M := M) hr hG hP (by omega) q3
        have hG2 := hG.isOverM (o := (nextO M).toNat) (by omega) q3
        obtain ⟨B, b1, b2, b3⟩ := X5_adv12 hN hr hG2 c2 (k := k) (n := n) (a := a + 1) (by rw [isOverM_n (by omega)]; exact hk2) hn2
        rw [if_neg (by omega), if_neg (by omega), e0, c1, obind_some, bnd_eq, ea ()]
        exact ⟨B, b1, b2, c3.tr b3⟩
theorem X5_adv44 {N : Nat} {r : Nat} (hr : r + 31 ≤ 376) : ∀ {k n a : Nat} {A : AH} {M : MR} {c : Int}, GD M → RP A r M → (a : Int) + k = M 18 3 → (0 ≤ c ∧ c ≤ a) → k < n → ∃ B, fX5_advance_44 N r n A c a = some ((misF k a M c).2, B) ∧ RP B r (misF k a M c).1 ∧ GD (misF k a M c).1 ∧ FX 0 (fun a => r ≤ a ∧ a ≤ r + 30) A B
  | 0, n, a, A, M, c, hG, hP, h, hc, hn => by
    match n, hn with
    | n + 1, _ =>
      refine ⟨A, ?_, hP, hG, FX.rf A⟩
      rw [fX5_advance_44, hP.2.1.2.1, if_pos (ge_z h)]
      rfl
  | k + 1, n, a, A, M, c, hG, hP, h, hc, hn => by
    have ha := lt_sc h
    have h16 := hG.o16 ha
    have hO := hP.2.2.1 a ha
    have ea : Unit → wrap ((a : Int) + 1) = ((a + 1 : Nat) : Int) := fun _ => wrap_eq (by omega) (by omega)
    have ec : Unit → wrap (c + 1) = c + 1 := fun _ => wrap_eq (by omega) (by omega)
    match n, hn with
    | n + 1, hn =>
      have hn2 : k < n := Nat.lt_of_succ_lt_succ hn
      have hk2 : ((a + 1 : Nat) : Int) + k = M 18 3 := by rw [sc_cast]; exact h
      rw [fX5_advance_44, hP.2.1.2.1, if_neg (Int.not_le.mpr ha), ck16 h16, ck16 h16, ck16 h16, Int.toNat_natCast, hO.2.2.2.2.2.1, hO.2.2.2.2.1, hP.2.1.1, misF]
      by_cases h7 : M 7 a = 0
      · rw [if_pos h7]
        by_cases h6 : M 6 a < M 18 0
        · have hP2 := RP_state (v := 3) hr hG.2.1 hP ha ⟨fun z => by unfold tripM at z; omega, fun z => by omega⟩
          have hG2 := GD_state (o := a) (v := 3) hG (by omega) (Or.inr rfl)
          obtain ⟨B, b1, b2, b3, b4⟩ := X5_adv44 (N := N) hr hG2 hP2 (k := k) (n := n) (a := a + 1) (c := c + 1) (by rw [updM_ne (by omega)]; exact hk2) (by omega) hn2
          rw [if_neg (by omega), if_pos ⟨h7, h6⟩]
          simp only [bnd_eq]
          rw [ea (), ec ()]
          exact ⟨B, b1, b2, b3, (FX_sI A (by omega) (by omega)).tr b4⟩
        · obtain ⟨B, b1, b2, b3, b4⟩ := X5_adv44 (N := N) hr hG hP (k := k) (n := n) (a := a + 1) (c := c) hk2 (by omega) hn2
          rw [if_pos (show M 18 0 ≤ M 6 a by omega), if_neg (by omega), bnd_eq, ea ()]
          exact ⟨B, b1, b2, b3, b4⟩
      · obtain ⟨B, b1, b2, b3, b4⟩ := X5_adv44 (N := N) hr hG hP (k := k) (n := n) (a := a + 1) (c := c) hk2 (by omega) hn2
        rw [if_neg h7, if_neg (fun z => h7 z.1), bnd_eq, ea ()]
        exact ⟨B, b1, b2, b3, b4⟩
theorem X5_advance {N : Nat} {A : AH} {r : Nat} {M : MR} {x : Int} (hN : 100 ≤ N) (hr : r + 31 ≤ 376) (hG : GD M) (hP : RP A r M) (hx : 0 ≤ x ∧ M 18 0 + x ≤ 999) : ∃ B, fX5_advance N A r x = some ((advM M x).2, B) ∧ RP B r (advM M x).1 ∧ GD (advM M x).1 ∧ FX 0 (fun a => r ≤ a ∧ a ≤ r + 30) A B := by
  have c0 := hG.2.1.1
  have c4 := hG.2.1.2.2.2.1
  have hP1 := RP_now (v := M 18 0 + x) hr hG.2.1 hP
  have hG1 := GD_now (v := M 18 0 + x) hG (by omega)
  have n3 : updM M 18 0 (M 18 0 + x) 18 3 = M 18 3 := updM_ne (by omega)
  obtain ⟨C, c1, c2, c3⟩ := X5_adv12 (k := (M 18 3).toNat) (n := N) (a := 0) hN hr hG1 hP1 (by rw [n3]; omega) (by omega)
  have hG2 := GD.oversM (k := (M 18 3).toNat) hG1
  rw [n3] at hG2
  obtain ⟨B, b1, b2, b3, b4⟩ := X5_adv44 (N := N) (k := (M 18 3).toNat) (n := N) (a := 0) (c := 0) hr hG2.1 c2 (by rw [hG2.2.1]; omega) (by omega) (by omega)
  refine ⟨B, ?_, b2, b3, ((FX_sI A (by omega) (by omega)).tr c3).tr b4⟩
  unfold fX5_advance
  rw [bnd_eq, hP.2.1.1, wrap_eq (by omega) (by omega)]
  exact c1.trans b1
