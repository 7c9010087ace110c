/-! a run is made -/
theorem goM_at (M : MR) (b : Nat) (h set : Int) (j i : Nat) : goM M b h set j i = if j = 16 ∧ i = b then h + M 0 1 else if j = 15 ∧ i = b then M 15 b + 1 else if j = 18 ∧ i = 4 then M 18 4 + 1 else if j = 17 ∧ i = (M 18 4).toNat then pkM h (M 0 1) set (1 - M 15 b % 2) b else M j i := rfl
theorem goM_j {M : MR} {b : Nat} {h set : Int} {j i : Nat} (hj : j < 15) : goM M b h set j i = M j i := by
  rw [goM_at, if_neg (by omega), if_neg (by omega), if_neg (by omega), if_neg (by omega)]
theorem goM_18 {M : MR} {b : Nat} {h set : Int} {i : Nat} (hi : i < 4) : goM M b h set 18 i = M 18 i := by
  rw [goM_at, if_neg (by omega), if_neg (by omega), if_neg (by omega), if_neg (by omega)]
theorem goM_184 {M : MR} {b : Nat} {h set : Int} : goM M b h set 18 4 = M 18 4 + 1 := by
  rw [goM_at, if_neg (by omega), if_neg (by omega), if_pos (by omega)]
theorem goM_b {M : MR} {b : Nat} {h set : Int} {j i : Nat} (hi : i ≠ b) (hj : j = 15 ∨ j = 16) : goM M b h set j i = M j i := by
  rw [goM_at, if_neg (by omega), if_neg (by omega), if_neg (by omega), if_neg (by omega)]
theorem goM_15 {M : MR} {b : Nat} {h set : Int} : goM M b h set 15 b = M 15 b + 1 := by
  rw [goM_at, if_neg (by omega), if_pos (by omega)]
theorem goM_16 {M : MR} {b : Nat} {h set : Int} : goM M b h set 16 b = h + M 0 1 := by
  rw [goM_at, if_pos (by omega)]
theorem goM_r {M : MR} {b : Nat} {h set : Int} {k : Nat} (hk : (k : Int) < M 18 4) : goM M b h set 17 k = M 17 k := by
  rw [goM_at, if_neg (by omega), if_neg (by omega), if_neg (by omega), if_neg (by omega)]
theorem goM_n {M : MR} {b : Nat} {h set : Int} : goM M b h set 17 (M 18 4).toNat = pkM h (M 0 1) set (1 - M 15 b % 2) b := by
  rw [goM_at, if_neg (by omega), if_neg (by omega), if_neg (by omega), if_pos (by omega)]
/-- the numbers of a new run -/
def NR (M : MR) (b : Nat) (h : Int) (s : Nat) : Prop := (b : Int) < M 18 2 ∧ (0 ≤ h ∧ h ≤ 900) ∧ M 16 b ≤ h ∧ s < 64 ∧ s < 2 ^ (M 18 1).toNat
theorem NR.ru {M : MR} {b s : Nat} {h : Int} (hG : GD M) (hn : NR M b h s) : ∃ hh ln tt : Nat, (h = hh ∧ M 0 1 = ln ∧ 1 - M 15 b % 2 = tt) ∧ hh ≤ 900 ∧ (1 ≤ ln ∧ ln ≤ 6) ∧ tt < 2 ∧ b < 3 ∧ pkM h (M 0 1) s (1 - M 15 b % 2) b = pkM (hh : Int) (ln : Int) (s : Int) (tt : Int) (b : Int) := by
  have r1 := hG.1.2.1
  obtain ⟨n1, n2, n3, n4, n5⟩ := hn
  refine ⟨h.toNat, (M 0 1).toNat, (1 - M 15 b % 2).toNat, ⟨by omega, by omega, by omega⟩, by omega, by omega, by omega, hG.b3 n1, ?_⟩
  rw [show (h.toNat : Int) = h by omega, show ((M 0 1).toNat : Int) = M 0 1 by omega, show ((1 - M 15 b % 2).toNat : Int) = 1 - M 15 b % 2 by omega]
def legN (M : MR) (b : Nat) (h : Int) : LG := (1, (b : Int), h, h + M 0 1, 1 - M 15 b % 2)
theorem goM_leg {M : MR} {b s : Nat} {h : Int} (hG : GD M) (hn : NR M b h s) : legR (goM M b h s) (M 18 4).toNat = legN M b h := by
  obtain ⟨hh, ln, tt, ⟨e1, e2, e3⟩, h1, h2, h3, h4, e⟩ := hn.ru hG
  unfold legR legN
  rw [goM_n, e, boatR_pk (by omega) (by omega) hn.2.2.2.1 h3 h4, hourR_pk (by omega) (by omega) hn.2.2.2.1 h3 h4, endR_pk (by omega) (by omega) hn.2.2.2.1 h3 h4, toR_pk (by omega) (by omega) hn.2.2.2.1 h3 h4, e1, e2, e3]
theorem goM_has {M : MR} {b s p : Nat} {h : Int} (hG : GD M) (hn : NR M b h s) (hp : p < 6) : hasR (goM M b h s 17 (M 18 4).toNat) p = bitF s p := by
  obtain ⟨hh, ln, tt, ⟨e1, e2, e3⟩, h1, h2, h3, h4, e⟩ := hn.ru hG
  rw [goM_n, e, hasR_pk (by omega) (by omega) hn.2.2.2.1 h3 h4 hp]
theorem goM_items {M : MR} {b s p : Nat} {h : Int} (hG : GD M) (hn : NR M b h s) (hp : p < 6) : itemsL (goM M b h s) p = itemsL M p ++ (if bitF s p = true then [legN M b h] else []) := by
  have c4 := hG.2.1.2.2.2.2
  have t1 : tripsL (goM M b h s) p = tripsL M p := by
    have e : ∀ o, tofM (goM M b h s) o p = tofM M o p := fun o => by
      unfold tofM tripM
      rw [goM_j (by decide), goM_j (by decide)]
    have e2 : ∀ o, legT (goM M b h s) o = legT M o := fun o => by
      unfold legT endM
      rw [goM_j (by decide), goM_j (by decide), goM_j (by decide)]
    unfold tripsL
    rw [goM_18 (by omega), selF_congr (f := fun o => tofM (goM M b h s) o p) (g := fun o => tofM M o p) (fun i _ _ => e i)]
    exact List.map_congr_left (fun o _ => e2 o)
  have r1 : ridesL (goM M b h s) p = ridesL M p ++ (if bitF s p = true then [legN M b h] else []) := by
    unfold ridesL
    rw [goM_184, show (M 18 4 + 1).toNat = (M 18 4).toNat + 1 by omega, selF_succ, Nat.zero_add, List.map_append, goM_has hG hn hp, selF_congr (f := fun k => hasR (goM M b h s 17 k) p) (g := fun k => hasR (M 17 k) p) (fun i _ hi => by rw [goM_r (by omega)])]
    have e3 : (selF (fun k => hasR (M 17 k) p) (M 18 4).toNat 0).map (legR (goM M b h s)) = (selF (fun k => hasR (M 17 k) p) (M 18 4).toNat 0).map (legR M) := List.map_congr_left (fun k hk => by
      have := mem_selF.mp hk
      unfold legR
      rw [goM_r (by omega)])
    rw [e3]
    congr 1
    split
    · rw [List.map_cons, List.map_nil, goM_leg hG hn]
    · rfl
  unfold itemsL
  rw [t1, r1, List.append_assoc]
theorem goM_rides {M : MR} {b s c : Nat} {h : Int} (hG : GD M) (hn : NR M b h s) : ridesM (goM M b h s) c = ridesM M c + (if c = b then bitsM s else 0) := by
  obtain ⟨hh, ln, tt, ⟨e1, e2, e3⟩, h1, h2, h3, h4, e⟩ := hn.ru hG
  have c4 := hG.2.1.2.2.2.2
  unfold ridesM
  rw [goM_184, show (M 18 4 + 1).toNat = (M 18 4).toNat + 1 by omega, sumN_succ, Nat.zero_add, goM_n, e, boatR_pk (by omega) (by omega) hn.2.2.2.1 h3 h4, setR_pk (by omega) (by omega) hn.2.2.2.1 h3 h4]
  congr 1
  · exact sumN_congr (fun i _ hi => by rw [goM_r (by omega)])
  · by_cases e : c = b
    · rw [if_pos e, if_pos (by omega)]
    · rw [if_neg e, if_neg (by omega)]
theorem GD.goM {M : MR} {b s : Nat} {h : Int} (hG : GD M) (hn : NR M b h s) : GD (goM M b h s) := by
  have hroom := hG.room hn.1 (by have := hn.2.2.1; have := hn.2.1; omega)
  obtain ⟨hh, ln, tt, ⟨e1, e2, e3⟩, h1, h2, h3, h4, e⟩ := hn.ru hG
  obtain ⟨n1, n2, n3, n4, n5⟩ := hn
  obtain ⟨g1, g2, g3, g4, g5, g6, g7⟩ := hG
  have hB := g5 b n1
  have r1 := g1.2.1
  refine ⟨?_, ?_, fun i hi => ?_, fun i hi => ?_, fun i hi => ?_, ?_, fun i hi => ?_⟩
  · unfold MRu at *
    simp only [goM_j (M := M) (b := b) (h := h) (set := s) (j := 0) (by decide), goM_j (M := M) (b := b) (h := h) (set := s) (j := 1) (by decide)]
    exact g1
  · unfold MC at *
    rw [goM_18 (by omega), goM_18 (by omega), goM_18 (by omega), goM_18 (by omega), goM_184]
    exact ⟨g2.1, g2.2.1, g2.2.2.1, g2.2.2.2.1, by omega⟩
  · rw [goM_18 (by omega)] at hi
    have hm := g3 i hi
    unfold MO tripM at *
    rw [goM_j (j := 2) (by decide), goM_j (j := 3) (by decide), goM_j (j := 4) (by decide), goM_j (j := 5) (by decide), goM_j (j := 6) (by decide), goM_j (j := 7) (by decide), goM_j (j := 8) (by decide), goM_j (j := 9) (by decide), goM_j (j := 10) (by decide), goM_18 (i := 1) (by decide)]
    exact hm
  · rw [goM_18 (by omega)] at hi
    have hm := g4 i hi
    rw [goM_j (by decide), goM_j (by decide)]
    refine ⟨hm.1, hm.2.trans ?_⟩
    unfold doneM
    rw [goM_18 (by omega)]
    exact sumN_congr (fun j _ hj => by rw [goM_j (by decide), goM_j (by decide)])
  · rw [goM_18 (by omega)] at hi
    have hm := g5 i hi
    rw [goM_j (by decide)]
    by_cases e : i = b
    · subst e
      rw [goM_15, goM_16]
      exact ⟨hm.1, by omega, by omega, by omega, by omega⟩
    · rw [goM_b e (Or.inl rfl), goM_b e (Or.inr rfl)]
      exact hm
  · rw [goM_184, goM_18 (by omega), g6]
    have q : sumN (fun i => M 15 i + (if i = b then 1 else 0)) (M 18 2).toNat 0 = sumN (M 15) (M 18 2).toNat 0 + 1 := by
      rw [sumN_add, sumN_one (by omega) (by omega)]
    rw [← q]
    refine sumN_congr (fun i _ hi => ?_)
    by_cases e : i = b
    · subst e
      rw [if_pos rfl, goM_15]
    · rw [if_neg e, goM_b e (Or.inl rfl), Int.add_zero]
  · rw [goM_184] at hi
    unfold RU
    rw [goM_18 (by omega), goM_18 (by omega)]
    by_cases e5 : i = (M 18 4).toNat
    · subst e5
      rw [goM_n, e]
      exact ⟨hh, ln, s, tt, b, rfl, h1, h2, ⟨n4, n5⟩, h3, n1⟩
    · rw [goM_r (by omega)]
      exact g7 i (by omega)
theorem sumN_split (g : Nat → Int) : ∀ (k m a : Nat), sumN g (k + m) a = sumN g k a + sumN g m (a + k)
  | 0, m, a => by simp [sumN]
  | k + 1, m, a => by
    rw [show k + 1 + m = (k + m) + 1 by omega, sumN, sumN, sumN_split g k m (a + 1), show a + 1 + k = a + (k + 1) by omega]
    omega
theorem bits_P {s P : Nat} (h : s < 64) (hP : P ≤ 6) (hs : s < 2 ^ P) : sumN (fun p => if bitF s p = true then 1 else 0) P 0 = bitsM s := by
  have e : bitsM (s : Int) = sumN (fun p => if bitF s p = true then 1 else 0) 6 0 := by
    unfold bitsM
    refine sumN_congr (fun i _ hi => ?_)
    by_cases hb : bitF (s : Int) i = true
    · rw [if_pos hb]
      unfold bitF at hb
      exact of_decide_eq_true hb
    · rw [if_neg hb]
      exact bit0.mpr (Bool.not_eq_true _ |>.mp hb)
  rw [e, show (6 : Nat) = P + (6 - P) by omega, sumN_split]
  rw [sumN_z (k := 6 - P) (a := 0 + P) (fun i h1 h2 => ?_)]
  · omega
  · rw [bitF_nat (by omega) (by omega)]
    have h3 : 2 ^ P ≤ 2 ^ i := Nat.pow_le_pow_right (by decide) (by omega)
    rw [Nat.div_eq_of_lt (by omega)]
    rfl
theorem isRider_bit {N : Nat} {A : AH} {x : Int} {p : Nat} : fX5_isRider N A x p = some (b2i (bitF x p)) := by
  unfold fX5_isRider
  by_cases h : bitF x p = true
  · rw [if_neg (fun z => by rw [bit0.mp z] at h; cases h), h]
    rfl
  · rw [Bool.not_eq_true] at h
    rw [if_pos (bit0.mpr h), h]
    rfl
theorem X5_addRun30 {N r b P : Nat} {h set e pl : Int} {L : Nat → List LG} (hr : r + 31 ≤ 376) (hb : b < 3) (hP6 : P ≤ 6) (hpl : pl = 0 ∨ pl = 1) (hL : ∀ p, (L p).length ≤ 100000) : ∀ {k n a : Nat} {A : AH}, 376 ≤ hN A → gI A r 7 = P → gI A (r + 28 + b) 2 = pl → inR (gI A (r + 28 + b) 4) → (∀ p, a ≤ p → p < P → CH A (gP A (r + 22 + p) 2) (L p)) → a + k = P → k < n →
    ∃ B, fX5_addRun_30 N r b h set (r + 28 + b) e n A a = some B ∧ (∀ p, a ≤ p → p < P → CH B (gP B (r + 22 + p) 2) (if bitF set p = true then (1, (b : Int), h, e, 1 - pl) :: L p else L p) ∧ ∀ j, gI B (r + 22 + p) j = gI A (r + 22 + p) j) ∧
    (gI B (r + 28 + b) 0 = gI A (r + 28 + b) 0 ∧ gI B (r + 28 + b) 1 = wrap (gI A (r + 28 + b) 1 + 1) ∧ gI B (r + 28 + b) 2 = 1 - pl ∧ gI B (r + 28 + b) 3 = e ∧ gI B (r + 28 + b) 4 = wrap (gI A (r + 28 + b) 4 + sumN (fun p => if bitF set p = true then 1 else 0) k a)) ∧
    FX k (fun c => c = r + 28 + b ∨ r + 22 + a ≤ c ∧ c ≤ r + 27) A B
  | 0, n, a, A, hA, h7, h2, h4, hc, hk, hn => by
    match n, hn with
    | n + 1, _ =>
      have eg : fX0_goal N A (r + 28 + b) = some (1 - pl) := by
        unfold fX0_goal
        rw [h2]
        rcases hpl with z | z <;> rw [z] <;> rfl
      have ef : fX5_addRun_30 N r b h set (r + 28 + b) e (n + 1) A a = some (sI (sI (sI A (r + 28 + b) 2 (1 - pl)) (r + 28 + b) 3 e) (r + 28 + b) 1 (wrap (gI A (r + 28 + b) 1 + 1))) := by
        rw [fX5_addRun_30, h7, if_pos (by omega), eg, obind_some]
        simp only [bnd_eq]
        rw [gI_sI, if_neg (by omega), gI_sI, if_neg (by omega)]
      have fC : FQ (fun c _ => c = r + 28 + b) A (sI (sI (sI A (r + 28 + b) 2 (1 - pl)) (r + 28 + b) 3 e) (r + 28 + b) 1 (wrap (gI A (r + 28 + b) 1 + 1))) := FQ.setc (FQ.setc (FQ.setc (FQ.rf A)))
      refine ⟨_, ef, fun p h1 h2 => by omega, ⟨?_, ?_, ?_, ?_, ?_⟩, fC.fx (fun c k z => ⟨by omega, Or.inl z⟩)⟩
      · simp [gI_sI]
      · simp [gI_sI]
      · simp [gI_sI]
      · simp [gI_sI]
      · rw [sumN, Int.add_zero, wrap_of h4]
        simp [gI_sI]
  | k + 1, n, a, A, hA, h7, h2, h4, hc, hk, hn => by
    have ea : Unit → wrap ((a : Int) + 1) = ((a + 1 : Nat) : Int) := fun _ => wrap_eq (by omega) (by omega)
    match n, hn with
    | n + 1, hn =>
      by_cases hbit : bitF set a = true
      · have eg : fX0_goal N A (r + 28 + b) = some (1 - pl) := by
          unfold fX0_goal
          rw [h2]
          rcases hpl with z | z <;> rw [z] <;> rfl
        obtain ⟨C, c1, c2, c3, c4⟩ := X4_add (N := N) (A := A) (y := r + 22 + a) (L := L a) (k := 1) (s := b) (b := h) (e := e) (g := 1 - pl) (by omega) hA (hc a (by omega) (by omega)) (hL a)
        obtain ⟨D, hD⟩ : ∃ D, D = sI C (r + 28 + b) 4 (wrap (gI C (r + 28 + b) 4 + 1)) := ⟨_, rfl⟩
        have fD : FQ (fun c _ => c = r + 28 + b) C D := by rw [hD]; exact FQ.setc (FQ.rf C)
        have xD : FX 0 (fun c => c = r + 28 + b) C D := fD.fx (fun c k z => ⟨by omega, z⟩)
        have y4 : ∀ j, gI C (r + 28 + b) j = gI A (r + 28 + b) j := fun j => (c3.2.2.2 (r + 28 + b) (by omega) (by omega) j).1
        have xAD : FX 1 (fun c => c = r + 28 + b ∨ c = r + 22 + a) A D := (c3.mono (Nat.le_refl 1) (fun a _ z => Or.inr z)).tr (xD.mono (Nat.le_refl 0) (fun a _ z => Or.inl z))
        obtain ⟨B, b1, b2, b3, b4⟩ := X5_addRun30 (N := N) (r := r) (b := b) (P := P) (h := h) (set := set) (e := e) (pl := pl) (L := L) hr hb hP6 hpl hL (k := k) (n := n) (a := a + 1) (A := D) (by have := xAD.1.1; omega) (by rw [(xAD.2.2.2 r (by omega) (by omega) 7).1]; exact h7) (by rw [hD, gI_sI, if_neg (by omega), y4]; exact h2) (by rw [hD, gI_sI, if_pos ⟨rfl, rfl⟩]; exact wrap_inR _) (fun p h1 h2 => by
          rw [(xAD.2.2.2 (r + 22 + p) (by omega) (by omega) 2).2]
          exact (hc p (by omega) h2).kl xAD.1) (by omega) (by omega)
        refine ⟨B, ?_, fun p h1 h2 => ?_, ?_, ?_⟩
        · rw [fX5_addRun_30, h7, if_neg (by omega), isRider_bit, obind_some, hbit, if_neg (by decide), chk_pos _ (by omega), eg, obind_some, Int.toNat_natCast, c1, obind_some]
          simp only [bnd_eq]
          rw [ea (), ← hD]
          exact b1
        · by_cases ep : p = a
          · subst ep
            rw [if_pos hbit]
            have q := b4.2.2.2 (r + 22 + p) (by omega) (by omega)
            refine ⟨?_, fun j => ?_⟩
            · rw [(q 2).2, fD.eP]
              exact (c2.kl xD.1).kl b4.1
            · rw [(q j).1, fD.2.2 _ _ (by omega), c4]
          · have q := b2 p (by omega) h2
            exact ⟨q.1, fun j => by rw [q.2 j, (xAD.2.2.2 (r + 22 + p) (by omega) (by omega) j).1]⟩
        · obtain ⟨z0, z1, z2, z3, z4⟩ := b3
          have w : ∀ j, j ≠ 4 → gI D (r + 28 + b) j = gI A (r + 28 + b) j := fun j hj => by rw [hD, gI_sI, if_neg (by omega), y4]
          refine ⟨by rw [z0, w 0 (by decide)], by rw [z1, w 1 (by decide)], z2, z3, ?_⟩
          rw [z4, hD, gI_sI, if_pos ⟨rfl, rfl⟩, y4, wrap_wadd, sumN, if_pos hbit, Int.add_assoc]
        · exact ((xAD.mono (S' := fun c => c = r + 28 + b ∨ r + 22 + a ≤ c ∧ c ≤ r + 27) (Nat.le_refl 1) (fun c _ z => by omega)).tr (b4.mono (Nat.le_refl k) (fun c _ z => by omega))).mono (by omega) (fun _ _ z => z)
      · obtain ⟨B, b1, b2, b3, b4⟩ := X5_addRun30 (N := N) (r := r) (b := b) (P := P) (h := h) (set := set) (e := e) (pl := pl) (L := L) hr hb hP6 hpl hL (k := k) (n := n) (a := a + 1) (A := A) hA h7 h2 h4 (fun p h1 h2 => hc p (by omega) h2) (by omega) (by omega)
        refine ⟨B, ?_, fun p h1 h2 => ?_, ?_, b4.mono (by omega) (fun c _ z => by omega)⟩
        · rw [fX5_addRun_30, h7, if_neg (by omega), isRider_bit, obind_some, Bool.not_eq_true _ |>.mp hbit, if_pos (by decide), bnd_eq, ea ()]
          exact b1
        · by_cases ep : p = a
          · subst ep
            rw [if_neg hbit]
            have q := b4.2.2.2 (r + 22 + p) (by omega) (by omega)
            exact ⟨by rw [(q 2).2]; exact (hc p h1 h2).kl b4.1, fun j => (q j).1⟩
          · exact b2 p (by omega) h2
        · rw [sumN, if_neg hbit, Int.zero_add]
          exact b3
theorem ridesM_rng {M : MR} {b : Nat} (hC : MC M) : 0 ≤ ridesM M b ∧ ridesM M b ≤ 20000 := by
  have c4 := hC.2.2.2.2
  have h := sumN_nn (g := fun k => if boatR (M 17 k) = (b : Int) then bitsM (iAnd (iShr (M 17 k) 13) 63) else 0) (c := 6) (k := (M 18 4).toNat) (a := 0) (fun i _ _ => by
    show 0 ≤ (if boatR (M 17 i) = (b : Int) then bitsM (iAnd (iShr (M 17 i) 13) 63) else 0) ∧ (if boatR (M 17 i) = (b : Int) then bitsM (iAnd (iShr (M 17 i) 13) 63) else 0) ≤ 6
    have := bitsM_rng (iAnd (iShr (M 17 i) 13) 63)
    split
    · exact this
    · decide)
  unfold ridesM
  omega
theorem X5_addRun {N : Nat} {A : AH} {r b s : Nat} {M : MR} {h : Int} (hN7 : 10 ≤ N) (hA : 376 ≤ hN A) (hr : r + 31 ≤ 376) (hG : GD M) (hP : RP A r M) (hn : NR M b h s) (hf : ∀ p : Nat, (p : Int) < M 18 1 → bitF s p = true → freM M p ≤ h) : ∃ B, fX5_addRun N A r b h s = some B ∧ RP B r (goM M b h s) ∧ FX 6 (fun a => r ≤ a ∧ a ≤ r + 30) A B := by
  have hb := hG.b3 hn.1
  have c1 := hG.2.1.2.1
  have r1 := hG.1.2.1
  have hB := hP.2.2.2.2 b hn.1
  have hb2 := (hG.2.2.2.2.1 b hn.1).2
  have hLx : ∀ p : Nat, ∃ L, (L.length ≤ 100000) ∧ ((p : Int) < M 18 1 → PP A (r + 22 + p) M p L ∧ PL M p L) := fun p => by
    by_cases hp : (p : Int) < M 18 1
    · obtain ⟨L, l1, l2⟩ := hP.2.2.2.1 p hp
      have := l2.len hG.2.1
      exact ⟨L, by omega, fun _ => ⟨l1, l2⟩⟩
    · exact ⟨[], by simp, fun z => absurd z hp⟩
  obtain ⟨L, hL⟩ : ∃ L : Nat → List LG, ∀ p, (L p).length ≤ 100000 ∧ ((p : Int) < M 18 1 → PP A (r + 22 + p) M p (L p) ∧ PL M p (L p)) := ⟨fun p => (hLx p).choose, fun p => (hLx p).choose_spec⟩
  have hrr := ridesM_rng (b := b) hG.2.1
  obtain ⟨B, b1, b2, b3, b4⟩ := X5_addRun30 (N := N) (r := r) (b := b) (P := (M 18 1).toNat) (h := h) (set := (s : Int)) (e := h + M 0 1) (pl := M 15 b % 2) (L := L) hr hb (by omega) (by omega) (fun p => (hL p).1) (k := (M 18 1).toNat) (n := N) (a := 0) (A := A) hA (by rw [hP.2.1.2.2.1]; omega) hB.2.2.1 (by rw [hB.2.2.2.2]; exact ⟨by omega, by omega⟩) (fun p _ hp => ((hL p).2 (by omega)).1.2.2) (by omega) (by omega)
  rw [bits_P hn.2.2.2.1 (by omega) hn.2.2.2.2, hB.1, hB.2.1, hB.2.2.2.2] at b3
  have xB := b4.mono (d := 6) (S' := fun a => r ≤ a ∧ a ≤ r + 30) (by omega) (fun c _ z => by omega)
  refine ⟨B, ?_, ?_, xB⟩
  · unfold fX5_addRun
    rw [X5_hasBoat hP, obind_some, decide_eq_true (show 0 ≤ (b : Int) ∧ (b : Int) < M 18 2 by have := hn.1; omega), if_neg (by decide), chk_pos _ (by omega), bnd_eq, hP.1.1 1 (by decide), wrap_eq (by have := hn.2.1; omega) (by have := hn.2.1; omega), Int.toNat_natCast]
    exact b1
  · have hs : ∀ a, a < 376 → ¬ (a = r + 28 + b ∨ r + 22 + 0 ≤ a ∧ a ≤ r + 27) → ∀ k, gI B a k = gI A a k ∧ gP B a k = gP A a k := fun a h1 h2 k => b4.2.2.2 a h1 h2 k
    have hk0 := hn.2.1
    have hk1 := hn.2.2.1
    obtain ⟨⟨t1, t2⟩, ⟨q1, q2, q3, q4⟩, ho', hp', hb'⟩ := hP
    refine ⟨⟨fun k hk => ?_, fun k hk => ?_⟩, ⟨?_, ?_, ?_, ?_⟩, fun i hi => ?_, fun i hi => ?_, fun i hi => ?_⟩
    · rw [(hs (r + 1) (by omega) (by omega) k).1, goM_j (by decide)]; exact t1 k hk
    · rw [(hs (r + 2) (by omega) (by omega) k).1, goM_j (by decide)]; exact t2 k hk
    · rw [(hs r (by omega) (by omega) 5).1, goM_18 (by decide)]; exact q1
    · rw [(hs r (by omega) (by omega) 6).1, goM_18 (by decide)]; exact q2
    · rw [(hs r (by omega) (by omega) 7).1, goM_18 (by decide)]; exact q3
    · rw [(hs r (by omega) (by omega) 8).1, goM_18 (by decide)]; exact q4
    · rw [goM_18 (by decide)] at hi
      have := hG.o16 hi
      exact (ho' i hi).mv (fun k => (hs _ (by omega) (by omega) k).1) (fun j _ _ => goM_j (by omega))
    · rw [goM_18 (by decide)] at hi
      have hi6 := hG.p6 hi
      obtain ⟨l1, l2⟩ := (hL i).2 hi
      obtain ⟨w1, w2⟩ := b2 i (by omega) (by omega)
      refine ⟨_, ⟨?_, ?_, w1⟩, ?_⟩
      · rw [w2, goM_j (by decide)]; exact l1.1
      · rw [w2, goM_j (by decide)]; exact l1.2.1
      · have hit := goM_items (p := i) hG hn hi6
        by_cases hbit : bitF (s : Int) i = true
        · rw [if_pos hbit] at hit ⊢
          refine l2.cons ?_ (by rw [← l2.fre]; exact hf i hi hbit) ?_
          · rw [hit]
            exact (List.perm_append_singleton _ _).symm
          · show h < h + M 0 1 ∧ 0 ≤ h ∧ h + M 0 1 ≤ 2000
            omega
        · rw [if_neg hbit] at hit ⊢
          rw [List.append_nil] at hit
          exact l2.mv hit
    · rw [goM_18 (by decide)] at hi
      have hi3 := hG.b3 hi
      have hrd := goM_rides (c := i) hG hn
      by_cases e : i = b
      · subst e
        rw [if_pos rfl] at hrd
        obtain ⟨z0, z1, z2, z3, z4⟩ := b3
        have hbb := bitsM_rng (s : Int)
        unfold PB
        rw [goM_j (by decide), goM_15, goM_16, hrd, z0, z1, z2, z3, z4, wrap_eq (z := M 15 i + 1) (by omega) (by omega), wrap_eq (by omega) (by omega)]
        exact ⟨rfl, rfl, by omega, rfl, rfl⟩
      · rw [if_neg e, Int.add_zero] at hrd
        exact (hb' i hi).mv (fun k => (hs _ (by omega) (by omega) k).1) (goM_j (by decide)) (goM_b e (Or.inl rfl)) (goM_b e (Or.inr rfl)) hrd
