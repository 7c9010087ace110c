/-! the program's roster holds a row -/
def ridesM (M : MR) (b : Nat) : Int := sumN (fun k => if boatR (M 17 k) = (b : Int) then bitsM (iAnd (iShr (M 17 k) 13) 63) else 0) (M 18 4).toNat 0
def PB (A : AH) (y : Nat) (M : MR) (b : Nat) : Prop := gI A y 0 = M 14 b ∧ gI A y 1 = M 15 b ∧ gI A y 2 = M 15 b % 2 ∧ gI A y 3 = M 16 b ∧ gI A y 4 = ridesM M b
def RP (A : AH) (r : Nat) (M : MR) : Prop := PT A r M ∧ (gI A r 5 = M 18 0 ∧ gI A r 6 = M 18 3 ∧ gI A r 7 = M 18 1 ∧ gI A r 8 = M 18 2) ∧ (∀ o : Nat, (o : Int) < M 18 3 → PO A (r + 6 + o) M o) ∧
  (∀ p : Nat, (p : Int) < M 18 1 → ∃ L, PP A (r + 22 + p) M p L ∧ PL M p L) ∧ ∀ b : Nat, (b : Int) < M 18 2 → PB A (r + 28 + b) M b
theorem p1n0 (B : AH) : ¬ ((1 : Int), B).1 = 0 := by
  show ¬ (1 : Int) = 0
  decide
theorem selF_len {f : Nat → Bool} : ∀ {n a : Nat}, (selF f n a).length ≤ n
  | 0, a => Nat.le_refl _
  | n + 1, a => by
    rw [selF]
    have := selF_len (f := f) (n := n) (a := a + 1)
    split
    · rw [List.length_cons]; omega
    · omega
theorem PL.len {M : MR} {p : Int} {L : List LG} (hC : MC M) (h : PL M p L) : L.length ≤ 2719 := by
  obtain ⟨-, -, -, c4, c5⟩ := hC
  have h1 := h.1.length_eq
  unfold itemsL tripsL ridesL at h1
  rw [List.length_append, List.length_map, List.length_map] at h1
  have h2 := selF_len (f := fun o => tofM M o p) (n := (M 18 3).toNat) (a := 0)
  have h3 := selF_len (f := fun k => hasR (M 17 k) p) (n := (M 18 4).toNat) (a := 0)
  omega
theorem PL.frng {M : MR} {p : Int} {L : List LG} (h : PL M p L) : 0 ≤ frees L ∧ frees L ≤ 2000 := by
  cases L with
  | nil => exact ⟨Int.le_refl _, by decide⟩
  | cons x L =>
    have := h.2.2 x List.mem_cons_self
    show 0 ≤ lgE x ∧ lgE x ≤ 2000
    omega
theorem PL.rrng {M : MR} {p : Int} {L : List LG} (h : PL M p L) (hR : MRu M) : 0 ≤ restL M L ∧ restL M L ≤ 2040 := by
  obtain ⟨m0, -, -, -, m4, -⟩ := hR
  unfold restL
  cases hf : L.find? (fun x => lgK x == 0) with
  | none => exact ⟨Int.le_refl 0, show (0 : Int) ≤ 2040 by decide⟩
  | some x =>
    have := h.2.2 x (List.mem_of_find?_eq_some hf)
    show 0 ≤ lgE x + M 0 0 + _ ∧ lgE x + M 0 0 + _ ≤ 2040
    split <;> omega
/-- the first hour at which a pilot could make a trip, without a ride, with one, tides apart -/
def woM (M : MR) (o p : Nat) : Int := if M 11 p < M 2 o then 5000 else if goaM M p = startM M o then max (freM M p) (rstM M p) else 5000
def wrM (M : MR) (o p b : Nat) : Int := if M 11 p < M 2 o then 5000 else if goaM M p = M 15 b % 2 then (if 1 - M 15 b % 2 = startM M o then max (max (M 18 0) (max (freM M p) (M 16 b)) + M 0 1) (rstM M p) else 5000) else 5000
theorem X5_fromWithout {N : Nat} {A : AH} {r o p : Nat} {M : MR} (hN : 5000 ≤ N) (hG : GD M) (hP : RP A r M) (ho : (o : Int) < M 18 3) (hp : (p : Int) < M 18 1) : fX5_fromWithoutRide N A r (r + 6 + o) (r + 22 + p) = some (woM M o p) := by
  obtain ⟨L, h1, h2⟩ := hP.2.2.2.1 p hp
  have hO := hP.2.2.1 o ho
  unfold fX5_fromWithoutRide woM
  rw [h1.1, hO.1]
  by_cases c1 : M 11 p < M 2 o
  · rw [if_pos c1, if_pos c1]
  · rw [if_neg c1, if_neg c1, X4_lastGoal h1.2.2, obind_some, X3_origin hO, obind_some, h2.goa]
    by_cases c2 : goals L = startM M o
    · rw [if_pos c2, if_pos c2, X4_freeFrom h1.2.2, obind_some, X5_restedFrom hN (by have := h2.len hG.2.1; omega) hP.1 hG.1 h1.2.2 h2, obind_some, h2.fre, h2.rst]
    · rw [if_neg c2, if_neg c2]
theorem X0_goal {N : Nat} {A : AH} {y b : Nat} {M : MR} (h : PB A y M b) : fX0_goal N A y = some (1 - M 15 b % 2) := by
  unfold fX0_goal
  rw [h.2.2.1]
  by_cases c : M 15 b % 2 = 0
  · rw [if_pos c, c]
    rfl
  · rw [if_neg c, show M 15 b % 2 = 1 by omega]
    rfl
theorem X5_fromWith {N : Nat} {A : AH} {r o p b : Nat} {M : MR} (hN : 5000 ≤ N) (hG : GD M) (hP : RP A r M) (ho : (o : Int) < M 18 3) (hp : (p : Int) < M 18 1) (hb : (b : Int) < M 18 2) : fX5_fromWithRide N A r (r + 6 + o) (r + 22 + p) (r + 28 + b) = some (wrM M o p b) := by
  obtain ⟨L, h1, h2⟩ := hP.2.2.2.1 p hp
  have hO := hP.2.2.1 o ho
  have hB := hP.2.2.2.2 b hb
  have hb2 := (hG.2.2.2.2.1 b hb).2
  have hf := h2.frng
  have hR := hG.1.2.1
  have hn := hG.2.1.1
  unfold fX5_fromWithRide wrM
  rw [h1.1, hO.1]
  by_cases c1 : M 11 p < M 2 o
  · rw [if_pos c1, if_pos c1]
  · rw [if_neg c1, if_neg c1, X4_lastGoal h1.2.2, obind_some, hB.2.2.1, h2.goa]
    by_cases c2 : goals L = M 15 b % 2
    · rw [if_pos c2, if_pos c2, X0_goal hB, obind_some, X3_origin hO, obind_some]
      by_cases c3 : 1 - M 15 b % 2 = startM M o
      · rw [if_pos c3, if_pos c3, X4_freeFrom h1.2.2, obind_some, bnd_eq, X5_restedFrom hN (by have := h2.len hG.2.1; omega) hP.1 hG.1 h1.2.2 h2, obind_some, h2.fre, h2.rst, hP.2.1.1, hB.2.2.2.1, hP.1.1 1 (by decide), wrap_eq (by omega) (by omega)]
      · rw [if_neg c3, if_neg c3]
    · rw [if_neg c2, if_neg c2]
theorem RP.worng {A : AH} {r o p : Nat} {M : MR} (hG : GD M) (hP : RP A r M) (hp : (p : Int) < M 18 1) : 0 ≤ woM M o p := by
  obtain ⟨L, h1, h2⟩ := hP.2.2.2.1 p hp
  have := h2.frng
  unfold woM
  rw [h2.fre]
  split
  · decide
  · split
    · omega
    · decide
theorem RP.wrrng {A : AH} {r o p b : Nat} {M : MR} (hG : GD M) (hP : RP A r M) (hp : (p : Int) < M 18 1) : 0 ≤ wrM M o p b := by
  obtain ⟨L, h1, h2⟩ := hP.2.2.2.1 p hp
  have := h2.rrng hG.1
  unfold wrM
  rw [h2.rst]
  split
  · decide
  · split
    · split
      · omega
      · decide
    · decide
theorem X5_any33 {N : Nat} {A : AH} {r o p : Nat} {M : MR} {k6 : Int → Int → Option Int} (hN : 5000 ≤ N) (hG : GD M) (hP : RP A r M) (ho : (o : Int) < M 18 3) (hp : (p : Int) < M 18 1) : ∀ {k n a : Nat} {x : Int}, (a : Int) + k = M 18 2 → k < n → 0 ≤ x ∧ x ≤ 5000 → ∃ v, fX5_fromAnyWay_33 N A k6 r (r + 6 + o) p n x a = k6 v ((p + 1 : Nat) : Int) ∧ (0 ≤ v ∧ v ≤ 5000) ∧ ∀ h, v ≤ h ↔ x ≤ h ∨ ∃ b : Nat, (a ≤ b ∧ b < a + k) ∧ wrM M o p b ≤ h
  | 0, n, a, x, h, hn, hx => by
    have h6 := hG.p6 hp
    match n, hn with
    | n + 1, _ =>
      refine ⟨x, ?_, hx, fun h => ⟨Or.inl, ?_⟩⟩
      · rw [fX5_fromAnyWay_33, hP.2.1.2.2.2, if_pos (by omega), bnd_eq, wrap_eq (by omega) (by omega)]
        rfl
      · rintro (z | ⟨b, z, -⟩)
        · exact z
        · omega
  | k + 1, n, a, x, h, hn, hx => by
    have h6 := hG.p6 hp
    have c2 := hG.2.1.2.2.1
    have ea : Unit → wrap ((a : Int) + 1) = ((a + 1 : Nat) : Int) := fun _ => wrap_eq (by omega) (by omega)
    match n, hn with
    | n + 1, hn =>
      have hw := hP.wrrng (o := o) (b := a) hG hp
      obtain ⟨v, e, hv, hi⟩ := X5_any33 (N := N) (A := A) (r := r) (o := o) (p := p) (M := M) (k6 := k6) hN hG hP ho hp (k := k) (n := n) (a := a + 1) (x := min x (wrM M o p a)) (by omega) (by omega) (by omega)
      refine ⟨v, ?_, hv, fun h => ?_⟩
      · rw [fX5_fromAnyWay_33, hP.2.1.2.2.2, if_neg (by omega), chk_pos _ (by omega), chk_pos _ (by omega), Int.toNat_natCast, Int.toNat_natCast, X5_fromWith hN hG hP ho hp (by omega), obind_some]
        simp only [bnd_eq]
        rw [ea (), e]
      · rw [hi]
        constructor
        · rintro (z | ⟨b, z1, z2⟩)
          · by_cases q : x ≤ h
            · exact Or.inl q
            · exact Or.inr ⟨a, by omega, by omega⟩
          · exact Or.inr ⟨b, by omega, z2⟩
        · rintro (z | ⟨b, z1, z2⟩)
          · exact Or.inl (by omega)
          · by_cases q : b = a
            · subst q
              exact Or.inl (by omega)
            · exact Or.inr ⟨b, by omega, z2⟩
theorem X5_any6 {N : Nat} {A : AH} {r o : Nat} {M : MR} (hN : 5000 ≤ N) (hG : GD M) (hP : RP A r M) (ho : (o : Int) < M 18 3) : ∀ {k n a : Nat} {x : Int}, (a : Int) + k = M 18 1 → k < n → 0 ≤ x ∧ x ≤ 5000 → ∃ v, fX5_fromAnyWay_6 N A r (r + 6 + o) n x a = some v ∧ (0 ≤ v ∧ v ≤ 5000) ∧ ∀ h, v ≤ h ↔ x ≤ h ∨ ∃ p : Nat, (a ≤ p ∧ p < a + k) ∧ (woM M o p ≤ h ∨ ∃ b : Nat, (b : Int) < M 18 2 ∧ wrM M o p b ≤ h)
  | 0, n, a, x, h, hn, hx => by
    match n, hn with
    | n + 1, _ =>
      refine ⟨x, ?_, hx, fun h => ⟨Or.inl, ?_⟩⟩
      · rw [fX5_fromAnyWay_6, hP.2.1.2.2.1, if_pos (by omega)]
      · rintro (z | ⟨b, z, -⟩)
        · exact z
        · omega
  | k + 1, n, a, x, h, hn, hx => by
    have c1 := hG.2.1.2.1
    have c2 := hG.2.1.2.2.1
    match n, hn with
    | n + 1, hn =>
      have hw := hP.worng (o := o) hG (p := a) (by omega)
      obtain ⟨u, e1, hu, hi1⟩ := X5_any33 (N := N) (A := A) (r := r) (o := o) (p := a) (M := M) (k6 := fun x2 x3 => fX5_fromAnyWay_6 N A r (r + 6 + o) n x2 x3) hN hG hP ho (by omega) (k := (M 18 2).toNat) (n := N) (a := 0) (x := min x (woM M o a)) (by omega) (by omega) (by omega)
      obtain ⟨v, e, hv, hi⟩ := X5_any6 (N := N) (A := A) (r := r) (o := o) (M := M) hN hG hP ho (k := k) (n := n) (a := a + 1) (x := u) (by omega) (by omega) hu
      refine ⟨v, ?_, hv, fun h => ?_⟩
      · rw [fX5_fromAnyWay_6, hP.2.1.2.2.1, if_neg (by omega), chk_pos _ (by omega), Int.toNat_natCast, X5_fromWithout hN hG hP ho (by omega), obind_some, bnd_eq]
        exact e1.trans e
      · rw [hi, hi1]
        constructor
        · rintro ((z | ⟨b, z1, z2⟩) | ⟨p, z1, z2⟩)
          · by_cases q : x ≤ h
            · exact Or.inl q
            · exact Or.inr ⟨a, by omega, Or.inl (by omega)⟩
          · exact Or.inr ⟨a, by omega, Or.inr ⟨b, by omega, z2⟩⟩
          · exact Or.inr ⟨p, by omega, z2⟩
        · rintro (z | ⟨p, z1, z2⟩)
          · exact Or.inl (Or.inl (by omega))
          · by_cases q : p = a
            · subst q
              rcases z2 with z2 | ⟨b, z2, z3⟩
              · exact Or.inl (Or.inl (by omega))
              · exact Or.inl (Or.inr ⟨b, by omega, z3⟩)
            · exact Or.inr ⟨p, by omega, z2⟩
/-- v is the first hour at which an order could be served in any way, tides apart -/
def ANY (M : MR) (o : Nat) (v : Int) : Prop := (0 ≤ v ∧ v ≤ 5000) ∧ ∀ h, h < 5000 → (v ≤ h ↔ ∃ p : Nat, (p : Int) < M 18 1 ∧ (woM M o p ≤ h ∨ ∃ b : Nat, (b : Int) < M 18 2 ∧ wrM M o p b ≤ h))
theorem X5_fromAny {N : Nat} {A : AH} {r o : Nat} {M : MR} (hN : 5000 ≤ N) (hG : GD M) (hP : RP A r M) (ho : (o : Int) < M 18 3) : ∃ v, fX5_fromAnyWay N A r (r + 6 + o) = some v ∧ ANY M o v := by
  have c1 := hG.2.1.2.1
  obtain ⟨v, e, hv, hi⟩ := X5_any6 (N := N) (A := A) (r := r) (o := o) (M := M) hN hG hP ho (k := (M 18 1).toNat) (n := N) (a := 0) (x := 5000) (by omega) (by omega) (by decide)
  refine ⟨v, e, hv, fun h h5 => ?_⟩
  rw [hi]
  constructor
  · rintro (z | ⟨p, z1, z2⟩)
    · omega
    · exact ⟨p, by omega, z2⟩
  · rintro ⟨p, z1, z2⟩
    exact Or.inr ⟨p, by omega, z2⟩
def fitW (M : MR) (o : Nat) (h : Int) : Option (Nat × Int) := chM M (fun p => decide (woM M o p ≤ h)) (fun p b => decide (wrM M o p b ≤ h))
theorem fitW_none {M : MR} {o : Nat} {v h : Int} (hA : ANY M o v) (h5 : h < 5000) : fitW M o h = none ↔ ¬ v ≤ h := by
  unfold fitW
  rw [chM_none, hA.2 h h5]
  constructor
  · rintro ⟨h1, h2⟩ ⟨p, hp, z | ⟨b, hb, z⟩⟩
    · exact absurd z (of_decide_eq_false (h1 p hp))
    · exact absurd z (of_decide_eq_false (h2 p hp b hb))
  · intro hn
    exact ⟨fun p hp => decide_eq_false (fun z => hn ⟨p, hp, Or.inl z⟩), fun p hp b hb => decide_eq_false (fun z => hn ⟨p, hp, Or.inr ⟨b, hb, z⟩⟩)⟩
theorem canT_iff {M : MR} {o p : Nat} {h : Int} (h7 : M 7 o = 0) (h1 : M 18 0 ≤ h) (h2 : M 5 o ≤ h) (h3 : h ≤ M 6 o) (h9 : h ≤ 900) (hd : deepM M o h = true) : canT M o p h = decide (woM M o p ≤ h) := by
  unfold canT
  refine decide_eq_decide.mpr ?_
  unfold whyT whyM woM
  rw [if_pos h7, if_neg (by omega), if_pos hd]
  by_cases c1 : M 11 p < M 2 o
  · rw [if_neg (by omega), if_pos c1]
    omega
  · rw [if_pos (by omega), if_neg c1]
    by_cases c2 : goaM M p = startM M o
    · rw [if_pos c2, if_pos c2]
      by_cases c3 : freM M p ≤ h
      · rw [if_pos c3]
        by_cases c4 : rstM M p ≤ h
        · rw [if_pos c4]
          omega
        · rw [if_neg c4]
          omega
      · rw [if_neg c3]
        omega
    · rw [if_neg c2, if_neg c2]
      by_cases c3 : freM M p ≤ h
      · rw [if_pos c3]
        omega
      · rw [if_neg c3]
        omega
theorem whyRun_one {M : MR} {b p : Nat} {s : Int} (hG : GD M) (hp : (p : Int) < M 18 1) (hb : (b : Int) < M 18 2) : whyRunM M b s (iShl 1 (p : Int)) = 0 ↔ M 18 0 ≤ s ∧ M 16 b ≤ s ∧ freM M p ≤ s ∧ goaM M p = M 15 b % 2 := by
  have h6 := hG.p6 hp
  have c1 := hG.2.1.2.1
  have hB := (hG.2.2.2.2.1 b hb).1
  have any1 : ∀ g : Nat → Bool, anyN (fun q => bitF (iShl 1 (p : Int)) q && g q) (M 18 1).toNat 0 = true ↔ g p = true := by
    intro g
    rw [anyN_iff]
    constructor
    · rintro ⟨q, h1, h2⟩
      rw [Bool.and_eq_true, one_bitF p h6 q (by omega)] at h2
      rw [of_decide_eq_true h2.1] at h2
      exact h2.2
    · intro h
      refine ⟨p, by omega, ?_⟩
      rw [Bool.and_eq_true, one_bitF p h6 p h6]
      exact ⟨decide_eq_true rfl, h⟩
  unfold whyRunM
  rw [(one_bits p h6).1]
  by_cases h1 : s < M 18 0
  · rw [if_pos h1]
    omega
  · rw [if_neg h1]
    by_cases h2 : s < M 16 b
    · rw [if_pos h2]
      omega
    · rw [if_neg h2, if_neg (by omega)]
      by_cases h3 : s < freM M p
      · rw [if_pos ((any1 (fun q => decide (s < freM M q))).mpr (decide_eq_true h3))]
        omega
      · rw [if_neg (fun z => h3 (of_decide_eq_true ((any1 (fun q => decide (s < freM M q))).mp z)))]
        by_cases h4 : goaM M p = M 15 b % 2
        · rw [if_neg (fun z => (of_decide_eq_true ((any1 (fun q => decide (goaM M q ≠ M 15 b % 2))).mp z)) h4)]
          exact ⟨fun _ => ⟨by omega, by omega, by omega, h4⟩, fun _ => rfl⟩
        · rw [if_pos ((any1 (fun q => decide (goaM M q ≠ M 15 b % 2))).mpr (decide_eq_true h4))]
          exact ⟨fun z => by omega, fun z => absurd z.2.2.2 h4⟩
theorem canR_iff {M : MR} {o p b : Nat} {h : Int} (hG : GD M) (hp : (p : Int) < M 18 1) (hb : (b : Int) < M 18 2) (h7 : M 7 o = 0) (h1 : M 18 0 ≤ h) (h2 : M 5 o ≤ h) (h3 : h ≤ M 6 o) (h9 : h ≤ 900) (hd : deepM M o h = true) : canR M o p b h = decide (wrM M o p b ≤ h) := by
  have c0 := hG.2.1.1
  unfold canR
  rw [← Bool.decide_and, ← Bool.decide_and]
  refine decide_eq_decide.mpr ?_
  rw [whyRun_one hG hp hb]
  unfold whyM wrM
  rw [if_pos h7, if_neg (by omega), if_pos hd, if_pos (Int.le_refl h)]
  by_cases c1 : M 11 p < M 2 o
  · rw [if_neg (by omega), if_pos c1]
    omega
  · rw [if_pos (by omega), if_neg c1]
    by_cases c2 : goaM M p = M 15 b % 2
    · rw [if_pos c2]
      by_cases c3 : 1 - M 15 b % 2 = startM M o
      · rw [if_pos c3, if_pos c3]
        by_cases c4 : rstM M p ≤ h
        · rw [if_pos c4]
          omega
        · rw [if_neg c4]
          omega
      · rw [if_neg c3, if_neg c3]
        omega
    · rw [if_neg c2]
      omega
theorem wayAt_fitW {M : MR} {o : Nat} {h : Int} (hG : GD M) (h7 : M 7 o = 0) (h1 : M 18 0 ≤ h) (h2 : M 5 o ≤ h) (h3 : h ≤ M 6 o) (h9 : h ≤ 900) (hd : deepM M o h = true) : wayAt M o h = fitW M o h :=
  chM_congr (fun _ _ => canT_iff h7 h1 h2 h3 h9 hd) (fun _ hp _ hb => canR_iff hG hp hb h7 h1 h2 h3 h9 hd)
/-- the way that the program takes -/
def wayW (M : MR) (o : Nat) (t : Int) : Option (Int × Nat × Int) := if t = -1 then none else (match fitW M o t with
  | some c => some (t, c)
  | none => none)
theorem srvN_wayW {M : MR} {o : Nat} {v : Int} (hG : GD M) (h7 : M 7 o = 0) (hA : ANY M o v) (h6 : M 6 o ≤ 900) : ∀ {k : Nat} {h : Int}, (h + k = M 6 o + 1 ∨ k = 0 ∧ M 6 o < h) → 0 ≤ h → M 18 0 ≤ h → M 5 o ≤ h → srvN M o k h = wayW M o (fstF (deepM M o) (M 6 o - max v h + 1).toNat (max v h))
  | 0, h, hk, h0, h1, h2 => by
    rw [show (M 6 o - max v h + 1).toNat = 0 by omega]
    rfl
  | k + 1, h, hk, h0, h1, h2 => by
    have ih := srvN_wayW hG h7 hA h6 (k := k) (h := h + 1) (by omega) (by omega) (by omega) (by omega)
    rw [srvN, ih]
    by_cases hv : v ≤ h
    · rw [show max v h = h by omega, show max v (h + 1) = h + 1 by omega, show (M 6 o - h + 1).toNat = k + 1 by omega, show (M 6 o - (h + 1) + 1).toNat = k by omega, fstF]
      by_cases hd : deepM M o h = true
      · rw [if_pos hd, if_pos hd, wayAt_fitW hG h7 h1 h2 (by omega) (by omega) hd]
        unfold wayW
        rw [if_neg (show ¬ h = -1 by omega)]
        cases hf : fitW M o h with
        | some c => rfl
        | none => exact absurd hv ((fitW_none hA (by omega)).mp hf)
      · rw [if_neg hd, if_neg hd]
    · rw [show max v h = v by omega, show max v (h + 1) = v by omega]
      by_cases hd : deepM M o h = true
      · rw [if_pos hd, wayAt_fitW hG h7 h1 h2 (by omega) (by omega) hd, (fitW_none hA (by omega)).mpr hv]
      · rw [if_neg hd]
theorem servM_wayW {M : MR} {o : Nat} {v : Int} (hG : GD M) (ho : (o : Int) < M 18 3) (h7 : M 7 o = 0) (hA : ANY M o v) : servM M o = wayW M o (firstW M o (max (max (M 18 0) v) (M 5 o))) := by
  have c0 := hG.2.1.1
  have h6 := (hG.2.2.1 o ho).2.2.2.1
  unfold servM firstW
  rw [srvN_wayW hG h7 hA (by omega) (by omega) (by omega) (by omega) (by omega), show max v (max (M 18 0) (M 5 o)) = max (max (M 18 0) v) (M 5 o) by omega]
/-! the program chooses a way -/
def SW (a _ : Nat) : Prop := a = 347
def WAY (B : AH) (h p b : Int) : Prop := gI B 347 0 = h ∧ gI B 347 1 = p ∧ gI B 347 2 = b
theorem X7_set {N : Nat} {A : AH} {h p b : Int} : ∃ B, fX7_set N A h p b = some B ∧ FQ SW A B ∧ WAY B h p b := by
  unfold fX7_set
  simp only [bnd_eq]
  refine ⟨_, rfl, (((FQ.rf A).set (by unfold SW; omega)).set (by unfold SW; omega)).set (by unfold SW; omega), ?_, ?_, ?_⟩ <;> simp [gI_sI]
theorem X5_choose59 {N : Nat} {A : AH} {r o p : Nat} {M : MR} {h : Int} {k47 : AH → Int → Option (Int × AH)} (hN : 5000 ≤ N) (hG : GD M) (hP : RP A r M) (ho : (o : Int) < M 18 3) (hp : (p : Int) < M 18 1) : ∀ {k n a : Nat}, (a : Int) + k = M 18 2 → k < n →
    (∃ b B, fstN (fun b => decide (wrM M o p b ≤ h)) k a = some b ∧ fX5_chooseWay_59 N k47 r (r + 6 + o) h p n A a = some (1, B) ∧ FQ SW A B ∧ WAY B h p b) ∨
    (fstN (fun b => decide (wrM M o p b ≤ h)) k a = none ∧ fX5_chooseWay_59 N k47 r (r + 6 + o) h p n A a = k47 A ((p + 1 : Nat) : Int))
  | 0, n, a, hk, hn => by
    have h6 := hG.p6 hp
    match n, hn with
    | n + 1, _ =>
      refine Or.inr ⟨rfl, ?_⟩
      rw [fX5_chooseWay_59, hP.2.1.2.2.2, if_pos (by omega), bnd_eq, wrap_eq (by omega) (by omega)]
      rfl
  | k + 1, n, a, hk, hn => by
    have h6 := hG.p6 hp
    have c2 := hG.2.1.2.2.1
    have ea : Unit → wrap ((a : Int) + 1) = ((a + 1 : Nat) : Int) := fun _ => wrap_eq (by omega) (by omega)
    match n, hn with
    | n + 1, hn =>
      rw [fX5_chooseWay_59, hP.2.1.2.2.2, if_neg (by omega), chk_pos _ (by omega), chk_pos _ (by omega), Int.toNat_natCast, Int.toNat_natCast, X5_fromWith hN hG hP ho hp (by omega), obind_some, fstN]
      by_cases hc : wrM M o p a ≤ h
      · obtain ⟨B, e, f, w⟩ := X7_set (N := N) (A := A) (h := h) (p := p) (b := a)
        rw [if_pos (decide_eq_true hc), if_neg (show ¬ h < wrM M o p a by omega), e, obind_some]
        exact Or.inl ⟨a, B, rfl, rfl, f, w⟩
      · rw [if_neg (fun z => hc (of_decide_eq_true z)), if_pos (show h < wrM M o p a by omega), bnd_eq, ea ()]
        exact X5_choose59 hN hG hP ho hp (by omega) (by omega)
theorem X5_choose47 {N : Nat} {A : AH} {r o : Nat} {M : MR} {h : Int} (hN : 5000 ≤ N) (hG : GD M) (hP : RP A r M) (ho : (o : Int) < M 18 3) : ∀ {k n a : Nat}, (a : Int) + k = M 18 1 → k < n →
    (∃ p b B, fst2 (fun p b => decide (wrM M o p b ≤ h)) (M 18 2).toNat k a = some (p, b) ∧ fX5_chooseWay_47 N r (r + 6 + o) h n A a = some (1, B) ∧ FQ SW A B ∧ WAY B h p b) ∨
    (fst2 (fun p b => decide (wrM M o p b ≤ h)) (M 18 2).toNat k a = none ∧ fX5_chooseWay_47 N r (r + 6 + o) h n A a = some (0, A))
  | 0, n, a, hk, hn => by
    match n, hn with
    | n + 1, _ =>
      refine Or.inr ⟨rfl, ?_⟩
      rw [fX5_chooseWay_47, hP.2.1.2.2.1, if_pos (by omega)]
  | k + 1, n, a, hk, hn => by
    have c2 := hG.2.1.2.2.1
    match n, hn with
    | n + 1, hn =>
      rw [fX5_chooseWay_47, hP.2.1.2.2.1, if_neg (by omega), fst2]
      rcases X5_choose59 (N := N) (A := A) (r := r) (o := o) (p := a) (M := M) (h := h) (k47 := fun A x4 => fX5_chooseWay_47 N r (r + 6 + o) h n A x4) hN hG hP ho (by omega) (k := (M 18 2).toNat) (n := N) (a := 0) (by omega) (by omega) with ⟨b, B, q1, q2, q3, q4⟩ | ⟨q1, q2⟩
      · rw [q1]
        exact Or.inl ⟨a, b, B, rfl, q2, q3, q4⟩
      · rw [show ((0 : Nat) : Int) = 0 from rfl] at q2
        rw [q1, q2]
        exact X5_choose47 hN hG hP ho (by omega) (by omega)
theorem X5_choose3 {N : Nat} {A : AH} {r o : Nat} {M : MR} {h : Int} (hN : 5000 ≤ N) (hG : GD M) (hP : RP A r M) (ho : (o : Int) < M 18 3) : ∀ {k n a : Nat}, (a : Int) + k = M 18 1 → k < n →
    (∃ p B, fstN (fun p => decide (woM M o p ≤ h)) k a = some p ∧ fX5_chooseWay_3 N r (r + 6 + o) h n A a = some (1, B) ∧ FQ SW A B ∧ WAY B h p (-1)) ∨
    (fstN (fun p => decide (woM M o p ≤ h)) k a = none ∧ fX5_chooseWay_3 N r (r + 6 + o) h n A a = fX5_chooseWay_47 N r (r + 6 + o) h N A 0)
  | 0, n, a, hk, hn => by
    match n, hn with
    | n + 1, _ =>
      refine Or.inr ⟨rfl, ?_⟩
      rw [fX5_chooseWay_3, hP.2.1.2.2.1, if_pos (by omega)]
  | k + 1, n, a, hk, hn => by
    have c1 := hG.2.1.2.1
    have ea : Unit → wrap ((a : Int) + 1) = ((a + 1 : Nat) : Int) := fun _ => wrap_eq (by omega) (by omega)
    match n, hn with
    | n + 1, hn =>
      rw [fX5_chooseWay_3, hP.2.1.2.2.1, if_neg (by omega), chk_pos _ (by omega), Int.toNat_natCast, X5_fromWithout hN hG hP ho (by omega), obind_some, fstN]
      by_cases hc : woM M o a ≤ h
      · obtain ⟨B, e, f, w⟩ := X7_set (N := N) (A := A) (h := h) (p := a) (b := -1)
        rw [if_pos (decide_eq_true hc), if_neg (show ¬ h < woM M o a by omega), e, obind_some]
        exact Or.inl ⟨a, B, rfl, rfl, f, w⟩
      · rw [if_neg (fun z => hc (of_decide_eq_true z)), if_pos (show h < woM M o a by omega), bnd_eq, ea ()]
        exact X5_choose3 hN hG hP ho (by omega) (by omega)
theorem X5_choose {N : Nat} {A : AH} {r o : Nat} {M : MR} {h : Int} (hN : 5000 ≤ N) (hG : GD M) (hP : RP A r M) (ho : (o : Int) < M 18 3) :
    (∃ p b B, fitW M o h = some (p, b) ∧ fX5_chooseWay N A r (r + 6 + o) h = some (1, B) ∧ FQ SW A B ∧ WAY B h p b) ∨ (fitW M o h = none ∧ fX5_chooseWay N A r (r + 6 + o) h = some (0, A)) := by
  have c1 := hG.2.1.2.1
  unfold fitW chM fX5_chooseWay
  rcases X5_choose3 (N := N) (A := A) (r := r) (o := o) (M := M) (h := h) hN hG hP ho (k := (M 18 1).toNat) (n := N) (a := 0) (by omega) (by omega) with ⟨p, B, q1, q2, q3, q4⟩ | ⟨q1, q2⟩
  · rw [q1]
    exact Or.inl ⟨p, -1, B, rfl, q2, q3, q4⟩
  · rw [q1]
    rcases X5_choose47 (N := N) (A := A) (r := r) (o := o) (M := M) (h := h) hN hG hP ho (k := (M 18 1).toNat) (n := N) (a := 0) (by omega) (by omega) with ⟨p, b, B, r1, r2, r3, r4⟩ | ⟨r1, r2⟩
    · rw [r1]
      exact Or.inl ⟨p, b, B, rfl, q2.trans r2, r3, r4⟩
    · rw [r1]
      exact Or.inr ⟨rfl, q2.trans r2⟩
theorem X5_has {N : Nat} {x y : Int} {α : Type} {a b : Option α} : (if x < 0 then a else if y ≤ x then a else b) = if 0 ≤ x ∧ x < y then b else a := by
  by_cases h1 : x < 0
  · rw [if_pos h1, if_neg (by omega)]
  · rw [if_neg h1]
    by_cases h2 : y ≤ x
    · rw [if_pos h2, if_neg (by omega)]
    · rw [if_neg h2, if_pos (by omega)]
theorem X5_hasOrder {N : Nat} {A : AH} {r : Nat} {M : MR} (hP : RP A r M) {x : Int} : fX5_hasOrder N A r x = some (b2i (decide (0 ≤ x ∧ x < M 18 3))) := by
  unfold fX5_hasOrder
  rw [X5_has (N := 0), hP.2.1.2.1]
  by_cases h : 0 ≤ x ∧ x < M 18 3
  · rw [if_pos h, decide_eq_true h]; rfl
  · rw [if_neg h, decide_eq_false h]; rfl
theorem X5_hasPilot {N : Nat} {A : AH} {r : Nat} {M : MR} (hP : RP A r M) {x : Int} : fX5_hasPilot N A r x = some (b2i (decide (0 ≤ x ∧ x < M 18 1))) := by
  unfold fX5_hasPilot
  rw [X5_has (N := 0), hP.2.1.2.2.1]
  by_cases h : 0 ≤ x ∧ x < M 18 1
  · rw [if_pos h, decide_eq_true h]; rfl
  · rw [if_neg h, decide_eq_false h]; rfl
theorem X5_hasBoat {N : Nat} {A : AH} {r : Nat} {M : MR} (hP : RP A r M) {x : Int} : fX5_hasBoat N A r x = some (b2i (decide (0 ≤ x ∧ x < M 18 2))) := by
  unfold fX5_hasBoat
  rw [X5_has (N := 0), hP.2.1.2.2.2]
  by_cases h : 0 ≤ x ∧ x < M 18 2
  · rw [if_pos h, decide_eq_true h]; rfl
  · rw [if_neg h, decide_eq_false h]; rfl
theorem X5_serving {N : Nat} {A : AH} {r o : Nat} {M : MR} (hN : 5000 ≤ N) (hG : GD M) (hP : RP A r M) (ho : (o : Int) < M 18 3) :
    (¬ M 7 o = 0 ∧ fX5_reasonAgainstServing N A r o = some (1, A)) ∨ (M 7 o = 0 ∧ servM M o = none ∧ fX5_reasonAgainstServing N A r o = some (12, A)) ∨
    (∃ t p b B, M 7 o = 0 ∧ servM M o = some (t, p, b) ∧ fX5_reasonAgainstServing N A r o = some (0, B) ∧ FQ SW A B ∧ WAY B t p b) := by
  have h16 := hG.o16 ho
  have c0 := hG.2.1.1
  have hO := hP.2.2.1 o ho
  have hM := hG.2.2.1 o ho
  unfold fX5_reasonAgainstServing
  rw [X5_hasOrder hP, obind_some, decide_eq_true (show 0 ≤ (o : Int) ∧ (o : Int) < M 18 3 by omega), if_neg (by decide), ck16 h16, Int.toNat_natCast, hO.2.2.2.2.2.1]
  by_cases h7 : M 7 o = 0
  · obtain ⟨v, e, hA⟩ := X5_fromAny (N := N) hN hG hP ho
    rw [if_pos h7, ck16 h16, e, obind_some, hP.2.1.1, X5_firstOfWindow (by omega) hP.1 hG.1 hO hM (by omega) (by have := hA.1; omega), obind_some]
    have es := servM_wayW hG ho h7 hA
    have hr : firstW M o (max (max (M 18 0) v) (M 5 o)) = -1 ∨ (v ≤ firstW M o (max (max (M 18 0) v) (M 5 o)) ∧ firstW M o (max (max (M 18 0) v) (M 5 o)) ≤ 900) := by
      have h6 := hM.2.2.2.1
      unfold firstW
      rcases fstF_range (f := deepM M o) (k := (M 6 o - max (max (M 18 0) v) (M 5 o) + 1).toNat) (x := max (max (M 18 0) v) (M 5 o)) with z | ⟨z1, z2, z3⟩
      · exact Or.inl z
      · exact Or.inr (by omega)
    generalize firstW M o (max (max (M 18 0) v) (M 5 o)) = t at es hr ⊢
    unfold wayW at es
    by_cases ht : t = -1
    · rw [if_pos ht] at es ⊢
      exact Or.inr (Or.inl ⟨h7, es, rfl⟩)
    · rw [if_neg ht] at es ⊢
      rcases X5_choose (N := N) (A := A) (r := r) (o := o) (M := M) (h := t) hN hG hP ho with ⟨p, b, B, q1, q2, q3, q4⟩ | ⟨q1, q2⟩
      · rw [q1] at es
        rw [q2, obind_some, if_neg (p1n0 B)]
        exact Or.inr (Or.inr ⟨t, p, b, B, h7, es, rfl, q3, q4⟩)
      · exact absurd (show v ≤ t by omega) ((fitW_none hA (by omega)).mp q1)
  · rw [if_neg h7]
    exact Or.inl ⟨h7, rfl⟩
