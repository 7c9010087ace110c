/-! an order is served: both sides' facts -/
theorem servM_facts {M : MR} {o p : Nat} {t b : Int} (hG : GD M) (ho : (o : Int) < M 18 3) (h7 : M 7 o = 0) (h : servM M o = some (t, p, b)) : (M 18 0 ≤ t ∧ M 5 o ≤ t ∧ t ≤ M 6 o ∧ 0 ≤ t ∧ t ≤ 900) ∧ (p : Int) < M 18 1 ∧
    ((b = -1 ∧ freM M p ≤ t) ∨ ∃ c : Nat, b = (c : Int) ∧ (c : Int) < M 18 2 ∧ 0 ≤ t - M 0 1 ∧ M 18 0 ≤ t - M 0 1 ∧ M 16 c ≤ t - M 0 1 ∧ freM M p ≤ t - M 0 1) := by
  have c0 := hG.2.1.1
  have h6 := (hG.2.2.1 o ho).2.2.2.1
  unfold servM at h
  obtain ⟨s1, s2, s3⟩ := srvN_spec h
  have hw : M 18 0 ≤ t ∧ M 5 o ≤ t ∧ t ≤ M 6 o ∧ 0 ≤ t ∧ t ≤ 900 := by omega
  obtain ⟨r1, r2⟩ := chM_rng s3
  refine ⟨hw, r1, ?_⟩
  rcases r2 with ⟨e, q⟩ | ⟨c, e, hc, q⟩
  · left
    refine ⟨e, ?_⟩
    rw [canT_iff h7 hw.1 hw.2.1 hw.2.2.1 hw.2.2.2.2 s2] at q
    have q := of_decide_eq_true q
    unfold woM at q
    split at q
    · omega
    · split at q <;> omega
  · right
    refine ⟨c, e, hc, ?_⟩
    unfold canR at q
    rw [Bool.and_eq_true, Bool.and_eq_true] at q
    have q1 := of_decide_eq_true q.1
    have q2 := (whyRun_one hG r1 hc).mp (of_decide_eq_true q.2.1)
    exact ⟨q1, q2.1, q2.2.1, q2.2.2.1⟩
theorem goM_fre {M : MR} {b s p : Nat} {h : Int} (hG : GD M) (hn : NR M b h s) (hp : p < 6) (hb : bitF s p = true) (hf : freM M p ≤ h) : freM (goM M b h s) p = h + M 0 1 := by
  have r1 := hG.1.2.1
  have e : freM (goM M b h s) p = max (freM M p) (h + M 0 1) := by
    unfold freM lastM
    rw [goM_items hG hn hp, if_pos hb, List.foldl_append]
    exact look_end
  rw [e]
  omega
theorem pow_lt6 : ∀ p : Nat, p < 6 → 2 ^ p < 64 := by decide
theorem one_NR {M : MR} {c p : Nat} {h : Int} (hG : GD M) (hp : (p : Int) < M 18 1) (hc : (c : Int) < M 18 2) (h0 : 0 ≤ h ∧ h ≤ 900) (h16 : M 16 c ≤ h) : NR M c h (2 ^ p) := by
  have h6 := hG.p6 hp
  refine ⟨hc, h0, h16, pow_lt6 p h6, Nat.pow_lt_pow_right (by decide) (by omega)⟩
theorem takeM_no (M : MR) (o p : Nat) (t : Int) : takeM M o t p (-1) = plM M o p t := by
  unfold takeM
  rw [if_pos (by decide)]
theorem takeM_c {M : MR} {o p c : Nat} {t : Int} (hp : p < 6) : takeM M o t p (c : Int) = plM (goM M c (t - M 0 1) ((2 ^ p : Nat) : Int)) o p t := by
  unfold takeM
  rw [if_neg (by omega), Int.toNat_natCast, (one_bits p hp).2]
theorem bit_pow {p : Nat} (hp : p < 6) : ∀ q : Nat, q < 6 → bitF ((2 ^ p : Nat) : Int) q = decide (q = p) := fun q hq => by
  rw [← (one_bits p hp).2]
  exact one_bitF p hp q hq
theorem GD.takeM {M : MR} {o p : Nat} {t b : Int} (hG : GD M) (ho : (o : Int) < M 18 3) (h7 : M 7 o = 0) (h : servM M o = some (t, p, b)) : GD (takeM M o t p b) := by
  obtain ⟨hw, hp, hb⟩ := servM_facts hG ho h7 h
  have h6 := hG.p6 hp
  rcases hb with ⟨e, hf⟩ | ⟨c, e, hc, q0, q1, q2, q3⟩
  · subst e
    rw [takeM_no]
    exact hG.plM ho hp ⟨hw.2.2.2.1, hw.2.2.2.2⟩ h7
  · subst e
    rw [takeM_c h6]
    have r1 := hG.1.2.1
    have hn := one_NR (h := t - M 0 1) hG hp hc ⟨q0, by omega⟩ q2
    exact (hG.goM hn).plM (by rw [goM_18 (by decide)]; exact ho) (by rw [goM_18 (by decide)]; exact hp) ⟨hw.2.2.2.1, hw.2.2.2.2⟩ (by rw [goM_j (by decide)]; exact h7)
theorem X5_take33 {N : Nat} {A : AH} {r o p : Nat} {M : MR} {t b : Int} (hA : 376 ≤ hN A) (hr : r + 31 ≤ 345) (hG : GD M) (hP : RP A r M) (ho : (o : Int) < M 18 3) (hp : (p : Int) < M 18 1) (h7 : M 7 o = 0) (hh : 0 ≤ t ∧ t ≤ 900) (hf : freM M p ≤ t) (hw : WAY A t p b) : ∃ B, fX5_take_33 N A r o = some B ∧ RP B r (plM M o p t) ∧ FX 1 (fun a => r ≤ a ∧ a ≤ r + 30) A B := by
  obtain ⟨B, e, q1, q2, -⟩ := X5_addTrip (N := N) (A := A) (r := r) (o := o) (p := p) (M := M) (h := t) hA (by omega) hG hP ho hp h7 hh hf
  refine ⟨B, ?_, q1, q2⟩
  unfold fX5_take_33
  rw [hw.1, hw.2.1, e, obind_some]
theorem X5_take {N : Nat} {A : AH} {r o p : Nat} {M : MR} {t b : Int} (hN7 : 10 ≤ N) (hA : 376 ≤ hN A) (hr : r + 31 ≤ 345) (hG : GD M) (hP : RP A r M) (ho : (o : Int) < M 18 3) (h7 : M 7 o = 0) (h : servM M o = some (t, p, b)) (hw : WAY A t p b) : ∃ B, fX5_take N A r o = some B ∧ RP B r (takeM M o t p b) ∧ FX 7 (fun a => r ≤ a ∧ a ≤ r + 30) A B ∧ WAY B t p b := by
  obtain ⟨hx, hp, hb⟩ := servM_facts hG ho h7 h
  have h6 := hG.p6 hp
  have wk : ∀ {c : Nat} {C D : AH}, FX c (fun a => r ≤ a ∧ a ≤ r + 30) C D → WAY C t p b → WAY D t p b := by
    intro c C D hf hw
    unfold WAY at *
    have e := hf.2.2.2 347 (by omega) (by omega)
    rw [(e 0).1, (e 1).1, (e 2).1]
    exact hw
  unfold fX5_take
  rcases hb with ⟨e, hf⟩ | ⟨c, e, hc, q0, q1, q2, q3⟩
  · subst e
    obtain ⟨B, b1, b2, b3⟩ := X5_take33 (N := N) hA hr hG hP ho hp h7 ⟨hx.2.2.2.1, hx.2.2.2.2⟩ hf hw
    rw [takeM_no, hw.2.2, if_pos rfl]
    exact ⟨B, b1, b2, b3.mono (by omega) (fun _ _ z => z), wk b3 hw⟩
  · subst e
    have r1 := hG.1.2.1
    have hn := one_NR (h := t - M 0 1) hG hp hc ⟨q0, by omega⟩ q2
    have hM0 : gI A (r + 1) 1 = M 0 1 := hP.1.1 1 (by decide)
    obtain ⟨C, c1, c2, c3⟩ := X5_addRun (N := N) (A := A) (r := r) (b := c) (s := 2 ^ p) (M := M) (h := t - M 0 1) hN7 hA (by omega) hG hP hn (fun q hq hbq => by
      rw [bit_pow h6 q (hG.p6 hq)] at hbq
      rw [of_decide_eq_true hbq]
      exact q3)
    have hbit : bitF ((2 ^ p : Nat) : Int) p = true := by
      rw [bit_pow h6 p h6]
      exact decide_eq_true rfl
    have hfre := goM_fre hG hn h6 hbit q3
    have hN2 : 376 ≤ hN C := Nat.le_trans hA c3.1.1
    obtain ⟨B, b1, b2, b3⟩ := X5_take33 (N := N) (A := C) (t := t) (b := c) hN2 hr (hG.goM hn) c2 (by rw [goM_18 (by decide)]; exact ho) (by rw [goM_18 (by decide)]; exact hp) (by rw [goM_j (by decide)]; exact h7) ⟨hx.2.2.2.1, hx.2.2.2.2⟩ (by rw [hfre]; omega) (wk c3 hw)
    rw [takeM_c h6, hw.2.2, if_neg (by omega), hw.1, hw.2.1, hM0, (one_bits p h6).2, wrap_eq (by omega) (by omega), c1, obind_some]
    exact ⟨B, b1, b2, (c3.tr b3), wk b3 (wk c3 hw)⟩
/-! an order is released -/
def relM (M : MR) (o : Nat) : Int := if M 7 o = 1 then (if M 18 0 < M 9 o then (if freM M (M 8 o) = endM M o then 0 else 14) else 13) else 13
theorem PL.ends {M : MR} {p : Int} {L : List LG} {o : Nat} (h : PL M p L) (ho : (o : Int) < M 18 3) (ht : tofM M o p = true) : endsL o L = (if frees L = endM M o then 1 else 0) ∧ (frees L = endM M o → ∃ L', L = legT M o :: L') := by
  obtain ⟨h1, h2, h3⟩ := h
  have hm : legT M o ∈ L := h1.mem_iff.mpr (List.mem_append_left _ (mem_tripsL.mpr ⟨o, by omega, ht, rfl⟩))
  cases L with
  | nil => cases hm
  | cons x L =>
    by_cases e : x = legT M o
    · subst e
      refine ⟨?_, fun _ => ⟨L, rfl⟩⟩
      show (if lgK (legT M o) = 0 ∧ lgS (legT M o) = (o : Int) then (1 : Int) else 0) = if lgE (legT M o) = endM M o then 1 else 0
      rw [if_pos ⟨rfl, rfl⟩, if_pos (show lgE (legT M o) = endM M o from rfl)]
    · have hm2 : legT M o ∈ L := (List.mem_cons.mp hm).resolve_left (fun z => e z.symm)
      have a1 := (List.pairwise_cons.mp h2).1 _ hm2
      have a2 := (h3 x List.mem_cons_self).1
      have a3 : lgE (legT M o) = endM M o := rfl
      have ne : ¬ lgE x = endM M o := by omega
      refine ⟨?_, fun z => absurd z ne⟩
      show (if lgK x = 0 ∧ lgS x = (o : Int) then (1 : Int) else 0) = if lgE x = endM M o then 1 else 0
      rw [if_neg ne, if_neg]
      rintro ⟨k1, k2⟩
      rcases List.mem_append.mp (h1.mem_iff.mp List.mem_cons_self) with hi | hi
      · obtain ⟨o', -, -, q⟩ := mem_tripsL.mp hi
        rw [← q] at k2
        have k3 : (o' : Int) = (o : Int) := k2
        have k4 : o' = o := by omega
        subst k4
        exact e q.symm
      · obtain ⟨k, -, -, q⟩ := mem_ridesL.mp hi
        rw [← q] at k1
        exact absurd k1 (by show ¬ ((1 : Int) = 0); decide)
theorem trip_of {M : MR} {o : Nat} (hG : GD M) (ho : (o : Int) < M 18 3) (h7 : tripM M o) : (0 ≤ M 8 o ∧ M 8 o < M 18 1) ∧ tofM M o (M 8 o) = true := by
  have := (hG.2.2.1 o ho).2.2.2.2.2.2 h7
  refine ⟨this.1, ?_⟩
  unfold tofM
  rw [decide_eq_true h7, decide_eq_true rfl]
  rfl
theorem X5_reasonRelease {N : Nat} {A : AH} {r o : Nat} {M : MR} (hG : GD M) (hP : RP A r M) (ho : (o : Int) < M 18 3) : fX5_reasonAgainstRelease N A r o = some (relM M o) := by
  have h16 := hG.o16 ho
  have hO := hP.2.2.1 o ho
  unfold fX5_reasonAgainstRelease relM
  rw [X5_hasOrder hP, obind_some, decide_eq_true (show 0 ≤ (o : Int) ∧ (o : Int) < M 18 3 by omega), if_neg b2t', ck16 h16, ck16 h16, ck16 h16, Int.toNat_natCast, hO.2.2.2.2.2.1]
  by_cases h7 : M 7 o = 1
  · have ht : tripM M o := Or.inl h7
    obtain ⟨hp, hto⟩ := trip_of hG ho ht
    have h8 := hO.2.2.2.2.2.2.2.1
    have h9 := hO.2.2.2.2.2.2.2.2.1
    rw [if_pos ht] at h8 h9
    rw [if_pos h7, if_pos h7, hP.2.1.1, h9, h8, bnd_eq]
    by_cases hn : M 18 0 < M 9 o
    · have c1 := hG.2.1.2.1
      rw [if_pos hn, if_pos hn, X5_hasPilot hP, obind_some, decide_eq_true hp, if_neg b2t', chk_pos _ (by omega)]
      obtain ⟨L, l1, l2⟩ := hP.2.2.2.1 (M 8 o).toNat (by omega)
      rw [show ((M 8 o).toNat : Int) = M 8 o by omega] at l2
      rw [X4_endsWith l1.2.2, obind_some, (l2.ends ho hto).1, l2.fre]
      by_cases hf : frees L = endM M o
      · rw [if_pos hf, if_pos hf, if_neg (by decide)]
      · rw [if_neg hf, if_neg hf, if_pos rfl]
    · rw [if_neg hn, if_neg hn]
  · rw [if_neg h7, if_neg h7]
theorem X5_removeTrip {N : Nat} {A : AH} {r o : Nat} {M : MR} (hr : r + 31 ≤ 376) (hG : GD M) (hP : RP A r M) (ho : (o : Int) < M 18 3) (h7 : M 7 o = 1) (hl : freM M (M 8 o) = endM M o) : ∃ B, fX5_removeTrip N A r o = some B ∧ RP B r (updM M 7 o 0) ∧ FX 0 (fun a => r ≤ a ∧ a ≤ r + 30) A B := by
  have h16 := hG.o16 ho
  have hO := hP.2.2.1 o ho
  have ht : tripM M o := Or.inl h7
  obtain ⟨hp, hto⟩ := trip_of hG ho ht
  have c1 := hG.2.1.2.1
  obtain ⟨p, ep⟩ : ∃ p : Nat, M 8 o = (p : Int) := ⟨(M 8 o).toNat, by omega⟩
  rw [ep] at hp hto hl
  have hp6 := hG.p6 hp.2
  have h8 := hO.2.2.2.2.2.2.2.1
  rw [if_pos ht, ep] at h8
  obtain ⟨L, l1, l2⟩ := hP.2.2.2.1 p hp.2
  rw [l2.fre] at hl
  obtain ⟨L', eL⟩ := (l2.ends ho hto).2 hl
  subst eL
  have hq := l1.2.2
  obtain ⟨C, hC⟩ : ∃ C, C = sP A (r + 22 + p) 2 (gP A (gP A (r + 22 + p) 2) 0) := ⟨_, rfl⟩
  obtain ⟨B, hB⟩ : ∃ B, B = sI (sI (sI (sI C (r + 6 + o) 5 0) (r + 6 + o) 6 (-1)) (r + 6 + o) 7 (-1)) (r + 6 + o) 8 (-1) := ⟨_, rfl⟩
  have kC : KL A C := by
    rw [hC]
    refine ⟨Nat.le_refl _, fun a h1 h2 => ⟨rfl, fun k => rfl, fun k => ?_⟩⟩
    rw [gP_sP, if_neg (by omega)]
  have fB : FQ (fun a _ => a = r + 6 + o) C B := by
    rw [hB]
    exact FQ.setc (FQ.setc (FQ.setc (FQ.setc (FQ.rf C))))
  have xB : FX 0 (fun a => a = r + 6 + o) C B := fB.fx (fun a k z => ⟨by omega, z⟩)
  have xC : FX 0 (fun a => a = r + 22 + p) A C := by
    refine ⟨kC, ⟨by rw [hC, hN_sP]; omega, by rw [hC, hSl_sP]; omega, by rw [hC, hSl_sP]; omega⟩, by rw [hC]; rfl, fun a h1 h2 k => ⟨by rw [hC]; rfl, ?_⟩⟩
    rw [hC, gP_sP, if_neg (by omega)]
  have xAB : FX 0 (fun a => a = r + 6 + o ∨ a = r + 22 + p) A B := (xC.mono (Nat.le_refl 0) (fun _ _ z => Or.inr z)).tr (xB.mono (Nat.le_refl 0) (fun _ _ z => Or.inl z))
  have hs : ∀ a, a < 376 → a ≠ r + 6 + o → a ≠ r + 22 + p → ∀ k, gI B a k = gI A a k ∧ gP B a k = gP A a k := fun a h1 h2 h3 k => xAB.2.2.2 a h1 (by omega) k
  refine ⟨B, ?_, ?_, xAB.mono (Nat.le_refl 0) (fun a _ z => by omega)⟩
  · unfold fX5_removeTrip
    rw [X5_hasOrder hP, obind_some, decide_eq_true (show 0 ≤ (o : Int) ∧ (o : Int) < M 18 3 by omega), if_neg b2t', ck16 h16, ck16 h16, Int.toNat_natCast, h8, X5_hasPilot hP, obind_some, decide_eq_true hp, if_neg b2t', chk_pos _ (by omega), Int.toNat_natCast]
    unfold fX4_removeLast fX3_setOpen
    simp only [bnd_eq]
    rw [if_neg hq.nz, obind_some, ck16 h16, obind_some, hB, hC]
  · have n : ∀ j i, ¬ (j = 7 ∧ i = o) → updM M 7 o 0 j i = M j i := fun j i h => updM_ne h
    obtain ⟨⟨t1, t2⟩, ⟨c1, c2, c3, c4⟩, ho', hp', hb'⟩ := hP
    refine ⟨⟨fun k hk => ?_, fun k hk => ?_⟩, ⟨?_, ?_, ?_, ?_⟩, fun i hi => ?_, fun i hi => ?_, fun i hi => ?_⟩
    · rw [(hs (r + 1) (by omega) (by omega) (by omega) k).1, n 0 k (by omega)]; exact t1 k hk
    · rw [(hs (r + 2) (by omega) (by omega) (by omega) k).1, n 1 k (by omega)]; exact t2 k hk
    · rw [(hs r (by omega) (by omega) (by omega) 5).1, n 18 0 (by omega)]; exact c1
    · rw [(hs r (by omega) (by omega) (by omega) 6).1, n 18 3 (by omega)]; exact c2
    · rw [(hs r (by omega) (by omega) (by omega) 7).1, n 18 1 (by omega)]; exact c3
    · rw [(hs r (by omega) (by omega) (by omega) 8).1, n 18 2 (by omega)]; exact c4
    · rw [n 18 3 (by omega)] at hi
      by_cases e : i = o
      · subst e
        have hk : ∀ k, k ≠ 5 → k ≠ 6 → k ≠ 7 → k ≠ 8 → gI B (r + 6 + i) k = gI A (r + 6 + i) k := fun k k1 k2 k3 k4 => by
          rw [hB, gI_sI, if_neg (by omega), gI_sI, if_neg (by omega), gI_sI, if_neg (by omega), gI_sI, if_neg (by omega), hC]
          rfl
        have k5 : gI B (r + 6 + i) 5 = 0 := by rw [hB]; simp [gI_sI]
        have k6 : gI B (r + 6 + i) 6 = -1 := by rw [hB]; simp [gI_sI]
        have k7 : gI B (r + 6 + i) 7 = -1 := by rw [hB]; simp [gI_sI]
        have k8 : gI B (r + 6 + i) 8 = -1 := by rw [hB]; simp [gI_sI]
        have nt : ¬ tripM (updM M 7 i 0) i := by
          unfold tripM
          rw [updM_self]
          omega
        unfold PO
        rw [if_neg nt, if_neg nt, if_neg nt, k5, k6, k7, k8, hk 0 (by omega) (by omega) (by omega) (by omega), hk 1 (by omega) (by omega) (by omega) (by omega), hk 2 (by omega) (by omega) (by omega) (by omega), hk 3 (by omega) (by omega) (by omega) (by omega), hk 4 (by omega) (by omega) (by omega) (by omega), hk 9 (by omega) (by omega) (by omega) (by omega), n 2 i (by omega), n 3 i (by omega), n 4 i (by omega), n 5 i (by omega), n 6 i (by omega), n 10 i (by omega), updM_self]
        exact ⟨hO.1, hO.2.1, hO.2.2.1, hO.2.2.2.1, hO.2.2.2.2.1, rfl, hO.2.2.2.2.2.2.1, rfl, rfl, rfl⟩
      · have := hG.o16 hi
        exact (ho' i hi).mv (fun k => (hs _ (by omega) (by omega) (by omega) k).1) (fun j _ _ => n j i (by omega))
    · rw [n 18 1 (by omega)] at hi
      have hi6 := hG.p6 hi
      by_cases e : i = p
      · subst e
        have fi : ∀ k, gI B (r + 22 + i) k = gI A (r + 22 + i) k := fun k => by
          rw [fB.2.2 _ _ (by omega), hC]
          rfl
        have fp : gP B (r + 22 + i) 2 = gP A (gP A (r + 22 + i) 2) 0 := by
          rw [fB.eP, hC, gP_sP, if_pos ⟨rfl, rfl⟩]
        refine ⟨L', ⟨?_, ?_, ?_⟩, ?_⟩
        · rw [fi, n 11 i (by omega)]; exact l1.1
        · rw [fi, n 12 i (by omega)]; exact l1.2.1
        · rw [fp]
          exact hq.2.kl xAB.1
        · refine l2.tail (items_ins (M := updM M 7 o 0) (M' := M) (o := o) (by rw [n 18 3 (by omega)]; exact ho) (n 18 3 (by omega)).symm (n 18 4 (by omega)).symm ?_ hto (fun t ht2 => ⟨(tofM_updo ht2).symm, (legT_updo ht2).symm⟩) (fun k _ => (n 17 k (by omega)).symm))
          unfold tofM tripM
          rw [updM_self]
          rfl
      · obtain ⟨L2, q1, q2⟩ := hp' i hi
        refine ⟨L2, q1.mv xAB.1 (fun k => (hs _ (by omega) (by omega) (by omega) k).1) (hs _ (by omega) (by omega) (by omega) 2).2 (n 11 i (by omega)) (n 12 i (by omega)), q2.mv (items_congr (n 18 3 (by omega)) (n 18 4 (by omega)) (fun t ht2 => ?_) (fun k _ => n 17 k (by omega)))⟩
        by_cases et : t = o
        · subst et
          unfold tofM tripM
          rw [updM_self, n 8 t (by omega), h7, ep]
          have : ¬ (p : Int) = (i : Int) := by omega
          simp [this]
        · exact ⟨tofM_updo et, fun _ => legT_updo et⟩
    · rw [n 18 2 (by omega)] at hi
      have := hG.b3 hi
      exact (hb' i hi).mv (fun k => (hs _ (by omega) (by omega) (by omega) k).1) (n 14 i (by omega)) (n 15 i (by omega)) (n 16 i (by omega)) (rides_congr (n 18 4 (by omega)) (fun k _ => n 17 k (by omega)))
