/-! calls: the plan's legs, the place again -/
def SF (L : List LG) (i : Nat) : LG := L.reverse.getD i (0, 0, 0, 0, 0)
theorem SF_get {L : List LG} {i : Nat} (h : i < L.length) : L.reverse[i]? = some (SF L i) := by
  unfold SF
  rw [List.getD_eq_getElem?_getD, List.getElem?_eq_getElem (by rw [List.length_reverse]; exact h)]
  rfl
theorem SF_of {L : List LG} {i : Nat} {x : LG} (h : L.reverse[i]? = some x) : SF L i = x := by
  unfold SF
  rw [List.getD_eq_getElem?_getD, h]
  rfl
theorem SF_old {L : List LG} {x : LG} {i : Nat} (h : i < L.length) : SF (x :: L) i = SF L i := by
  refine SF_of ?_
  rw [List.reverse_cons, List.getElem?_append_left (by rw [List.length_reverse]; exact h)]
  exact SF_get h
theorem SF_new {L : List LG} {x : LG} : SF (x :: L) L.length = x := by
  refine SF_of ?_
  rw [List.reverse_cons]
  simp
theorem SF_mem {L : List LG} {i : Nat} (h : i < L.length) : SF L i ∈ L := by
  have := List.mem_of_getElem? (SF_get h)
  exact List.mem_reverse.mp this
theorem mem_SF {L : List LG} {x : LG} (h : x ∈ L) : ∃ i, i < L.length ∧ SF L i = x := by
  obtain ⟨i, hi⟩ := List.getElem?_of_mem (List.mem_reverse.mpr h)
  refine ⟨i, ?_, SF_of hi⟩
  have := (List.getElem?_eq_some_iff.mp hi).1
  rw [List.length_reverse] at this
  exact this
theorem SF_lt {L : List LG} (h : L.Pairwise (fun x y => lgE y ≤ lgB x)) {i j : Nat} (hij : i < j) (hj : j < L.length) : lgE (SF L i) ≤ lgB (SF L j) := by
  have h2 : L.reverse.Pairwise (fun x y => lgE x ≤ lgB y) := List.pairwise_reverse.mpr h
  have hj2 : j < L.reverse.length := by rw [List.length_reverse]; exact hj
  have := List.pairwise_iff_getElem.mp h2 i j (by omega) hj2 hij
  have e1 : L.reverse[i]'(by omega) = SF L i := (SF_of (List.getElem?_eq_getElem (by omega))).symm
  have e2 : L.reverse[j]'hj2 = SF L j := (SF_of (List.getElem?_eq_getElem hj2)).symm
  rw [e1, e2] at this
  exact this
theorem X4_legAt {N : Nat} {A : AH} {y : Nat} {L : List LG} {i : Int} (hC : CH A (gP A y 2) L) (hL : L.length < N) : ∃ q', fX4_legAt N A y i = some q' ∧ ((0 ≤ i ∧ i < (L.length : Int)) ∧ LF A q' (SF L i.toNat) i.toNat ∨ ¬ (0 ≤ i ∧ i < (L.length : Int)) ∧ q' = 0) := by
  obtain ⟨q', e, h⟩ := X4_legAt5 (N := N) (i := i) hC hL
  refine ⟨q', e, ?_⟩
  rcases h with ⟨h1, x, h2, h3⟩ | h
  · exact Or.inl ⟨h1, by rw [SF_of h2]; exact h3⟩
  · exact Or.inr h
/-- the place at an hour, when j legs have ended -/
def plF (L : List LG) (h : Int) (j : Nat) : Int := if j < L.length ∧ lgB (SF L j) ≤ h then -1 else if j = 0 then 0 else lgG (SF L (j - 1))
theorem placeL_at {h : Int} : ∀ {L : List LG} {j : Nat}, L.Pairwise (fun x y => lgE y ≤ lgB x) → (∀ x ∈ L, lgB x < lgE x) → j ≤ L.length → (∀ i, i < L.length → (lgE (SF L i) ≤ h ↔ i < j)) → placeL h L = plF L h j
  | [], j, _, _, hj, _ => by
    have : j = 0 := by simp at hj; exact hj
    subst this
    rfl
  | x :: L, j, hs, hp, hj, hk => by
    have hs' := (List.pairwise_cons.mp hs).2
    have hx := (List.pairwise_cons.mp hs).1
    have kn := hk L.length (by simp)
    rw [SF_new] at kn
    have hp' : ∀ y ∈ L, lgB y < lgE y := fun y hy => hp y (List.mem_cons_of_mem x hy)
    have hk' : ∀ i, i < L.length → (lgE (SF L i) ≤ h ↔ i < j) := fun i hi => by
      have := hk i (by simp; omega)
      rw [SF_old hi] at this
      exact this
    show (if lgE x ≤ h then lgG x else if lgB x ≤ h then -1 else placeL h L) = plF (x :: L) h j
    have hln : (x :: L).length = L.length + 1 := rfl
    rw [hln] at hj
    by_cases h1 : lgE x ≤ h
    · have e : j = L.length + 1 := by have := kn.mp h1; omega
      subst e
      unfold plF
      rw [if_pos h1, hln, if_neg (fun z => absurd z.1 (Nat.lt_irrefl _)), if_neg (by omega), Nat.add_sub_cancel, SF_new]
    · have e1 : j ≤ L.length := Nat.le_of_not_lt (fun z => h1 (kn.mpr z))
      rw [if_neg h1]
      by_cases h2 : lgB x ≤ h
      · have e2 : j = L.length := by
          refine Nat.le_antisymm e1 ?_
          by_cases z : L.length = 0
          · omega
          · have m := SF_mem (L := L) (i := L.length - 1) (by omega)
            have := (hk' (L.length - 1) (by omega)).mp (by have := hx _ m; omega)
            omega
        subst e2
        unfold plF
        rw [if_pos h2, if_pos ⟨by rw [hln]; omega, by rw [SF_new]; exact h2⟩]
      · rw [if_neg h2, placeL_at hs' hp' e1 hk']
        unfold plF
        have eG : (if j = 0 then (0 : Int) else lgG (SF (x :: L) (j - 1))) = if j = 0 then 0 else lgG (SF L (j - 1)) := by
          by_cases z : j = 0
          · rw [if_pos z, if_pos z]
          · rw [if_neg z, if_neg z, SF_old (by omega)]
        rw [eG, hln]
        by_cases z : j < L.length
        · rw [SF_old z]
          by_cases z2 : lgB (SF L j) ≤ h
          · rw [if_pos ⟨z, z2⟩, if_pos ⟨by omega, z2⟩]
          · rw [if_neg (show ¬ (j < L.length ∧ lgB (SF L j) ≤ h) from fun w => z2 w.2), if_neg (show ¬ (j < L.length + 1 ∧ lgB (SF L j) ≤ h) from fun w => z2 w.2)]
        · have e3 : j = L.length := by omega
          rw [if_neg (show ¬ (j < L.length ∧ lgB (SF L j) ≤ h) from fun w => z w.1), if_neg (show ¬ (j < L.length + 1 ∧ lgB (SF (x :: L) j) ≤ h) from fun w => h2 (by have := w.2; rw [e3, SF_new] at this; exact this))]
def LQ (A : AH) (q : Nat) (L : List LG) (j : Nat) : Prop := (j < L.length ∧ LF A q (SF L j) j) ∨ (j = L.length ∧ q = 0)
theorem X4_legQ {N : Nat} {A : AH} {y : Nat} {L : List LG} {i : Nat} (hC : CH A (gP A y 2) L) (hL : L.length < N) (hi : i ≤ L.length) : ∃ q', fX4_legAt N A y i = some q' ∧ LQ A q' L i := by
  obtain ⟨q', e, h⟩ := X4_legAt (N := N) (i := i) hC hL
  refine ⟨q', e, ?_⟩
  rcases h with ⟨h1, h2⟩ | ⟨h1, h2⟩
  · exact Or.inl ⟨by omega, h2⟩
  · exact Or.inr ⟨by omega, h2⟩
theorem X4_hour46 {N : Nat} {A : AH} {y q j t : Nat} {L : List LG} {H v : Int} {k11 : Int → Nat → Int → Option Int} (ht : t ≤ 1000) (h : LQ A q L j) : fX4_placeHourByHour_46 N k11 A y H v q t = k11 (if j < L.length ∧ lgB (SF L j) = t then -1 else v) q ((t + 1 : Nat) : Int) := by
  have ea : Unit → wrap ((t : Int) + 1) = ((t + 1 : Nat) : Int) := fun _ => wrap_eq (by omega) (by omega)
  unfold fX4_placeHourByHour_46
  simp only [bnd_eq]
  rw [ea ()]
  rcases h with ⟨h1, h2⟩ | ⟨h1, h2⟩
  · rw [if_neg h2.ne, h2.2.2.2.2.1]
    by_cases e : lgB (SF L j) = t
    · rw [if_pos e, if_pos ⟨h1, e⟩]
    · rw [if_neg e, if_neg (fun z => e z.2)]
  · rw [if_pos h2, if_neg (fun z => absurd z.1 (by omega))]
theorem X4_hour11 {N : Nat} {A : AH} {y : Nat} {L : List LG} {H : Int} (hC : CH A (gP A y 2) L) (hL : L.length < N) (hl3 : L.length ≤ 3000) (hs : L.Pairwise (fun x y => lgE y ≤ lgB x)) (hp : ∀ x ∈ L, lgB x < lgE x) (hH : H ≤ 999) : ∀ {k n t j q : Nat}, (t : Int) + k = H + 1 → k < n → j ≤ L.length → (∀ i, i < L.length → (lgE (SF L i) ≤ (t : Int) - 1 ↔ i < j)) → LQ A q L j → fX4_placeHourByHour_11 N A y H n (plF L ((t : Int) - 1) j) q t = some (placeL H L)
  | 0, n, t, j, q, ht, hn, hj, hk, hq => by
    match n, hn with
    | n + 1, _ =>
      rw [fX4_placeHourByHour_11, if_pos (by omega), ← placeL_at hs hp hj hk, show (t : Int) - 1 = H by omega]
  | k + 1, n, t, j, q, ht, hn, hj, hk, hq => by
    match n, hn with
    | n + 1, hn =>
      have ih := fun j' q' => X4_hour11 (N := N) (A := A) (y := y) hC hL hl3 hs hp hH (k := k) (n := n) (t := t + 1) (j := j') (q := q') (by omega) (by omega)
      have et : ((t + 1 : Nat) : Int) - 1 = t := by omega
      rw [et] at ih
      have hpi : ∀ i, i < L.length → lgB (SF L i) < lgE (SF L i) := fun i hi => hp _ (SF_mem hi)
      rw [fX4_placeHourByHour_11, if_neg (by omega)]
      rcases hq with ⟨h1, h2⟩ | ⟨h1, h2⟩
      · rw [if_neg h2.ne, h2.2.2.2.2.2.1]
        by_cases e : lgE (SF L j) = t
        · obtain ⟨q2, f1, f2⟩ := X4_legQ (N := N) (i := j + 1) hC hL (by omega)
          have ej : Unit → wrap ((j : Int) + 1) = ((j + 1 : Nat) : Int) := fun _ => wrap_eq (by omega) (by omega)
          rw [if_pos e, bnd_eq, h2.2.2.2.2.2.2, h2.2.1, ej (), f1, obind_some, X4_hour46 (by omega) f2]
          have hk' : ∀ i, i < L.length → (lgE (SF L i) ≤ (t : Int) ↔ i < j + 1) := fun i hi => by
            have := hk i hi
            constructor
            · intro z
              by_cases w : j < i
              · have := SF_lt hs w hi
                have := hpi i hi
                omega
              · omega
            · intro z
              by_cases w : i = j
              · subst w; omega
              · have := this.mpr (by omega)
                omega
          have ev : (if j + 1 < L.length ∧ lgB (SF L (j + 1)) = (t : Int) then -1 else lgG (SF L j)) = plF L t (j + 1) := by
            unfold plF
            by_cases w : j + 1 < L.length
            · have := SF_lt hs (show j < j + 1 by omega) w
              by_cases w2 : lgB (SF L (j + 1)) = t
              · rw [if_pos ⟨w, w2⟩, if_pos ⟨w, by omega⟩]
              · rw [if_neg (fun z => w2 z.2), if_neg (fun z => absurd z.2 (by omega)), if_neg (by omega), Nat.add_sub_cancel]
            · rw [if_neg (fun z => w z.1), if_neg (fun z => w z.1), if_neg (by omega), Nat.add_sub_cancel]
          rw [ev]
          exact ih (j + 1) q2 (by omega) hk' f2
        · have hq : LQ A q L j := Or.inl ⟨h1, h2⟩
          rw [if_neg e, X4_hour46 (by omega) hq]
          have hk' : ∀ i, i < L.length → (lgE (SF L i) ≤ (t : Int) ↔ i < j) := fun i hi => by
            have := hk i hi
            constructor
            · intro z
              by_cases w : i = j
              · subst w
                exact this.mp (by omega)
              · by_cases w2 : j < i
                · have a1 := SF_lt hs w2 hi
                  have a2 := hpi i hi
                  have a3 := (hk j h1)
                  have a4 : ¬ lgE (SF L j) ≤ (t : Int) - 1 := fun z => absurd (a3.mp z) (Nat.lt_irrefl j)
                  omega
                · omega
            · intro z
              have := this.mpr z
              omega
          have ev : (if j < L.length ∧ lgB (SF L j) = (t : Int) then -1 else plF L ((t : Int) - 1) j) = plF L t j := by
            unfold plF
            by_cases w2 : lgB (SF L j) = t
            · rw [if_pos ⟨h1, w2⟩, if_pos ⟨h1, by omega⟩]
            · rw [if_neg (show ¬ (j < L.length ∧ lgB (SF L j) = (t : Int)) from fun z => w2 z.2)]
              by_cases w3 : lgB (SF L j) ≤ (t : Int) - 1
              · rw [if_pos (show j < L.length ∧ lgB (SF L j) ≤ (t : Int) - 1 from ⟨h1, w3⟩), if_pos (show j < L.length ∧ lgB (SF L j) ≤ (t : Int) from ⟨h1, by omega⟩)]
              · rw [if_neg (show ¬ (j < L.length ∧ lgB (SF L j) ≤ (t : Int) - 1) from fun z => w3 z.2), if_neg (show ¬ (j < L.length ∧ lgB (SF L j) ≤ (t : Int)) from fun z => absurd z.2 (by omega))]
          rw [ev]
          exact ih j q hj hk' hq
      · have hq : LQ A q L j := Or.inr ⟨h1, h2⟩
        rw [if_pos h2, X4_hour46 (by omega) hq, if_neg (fun z => absurd z.1 (by omega))]
        have hk' : ∀ i, i < L.length → (lgE (SF L i) ≤ (t : Int) ↔ i < j) := fun i hi => by
          have := (hk i hi).mpr (by omega)
          exact ⟨fun _ => by omega, fun _ => by omega⟩
        have ev : plF L ((t : Int) - 1) j = plF L t j := by
          unfold plF
          rw [if_neg (show ¬ (j < L.length ∧ lgB (SF L j) ≤ (t : Int) - 1) from fun z => absurd z.1 (by omega)), if_neg (show ¬ (j < L.length ∧ lgB (SF L j) ≤ (t : Int)) from fun z => absurd z.1 (by omega))]
        rw [ev]
        exact ih j q hj hk' hq
theorem X4_hour {N : Nat} {A : AH} {y : Nat} {M : MR} {p : Int} {L : List LG} {H : Int} (hN0 : 5000 ≤ N) (hC : CH A (gP A y 2) L) (hP : PL M p L) (hM : MC M) (hH : 0 ≤ H ∧ H ≤ 999) : fX4_placeHourByHour N A y H = some (placeL H L) := by
  have hl := hP.len hM
  obtain ⟨q, e1, e2⟩ := X4_legQ (N := N) (i := 0) hC (by omega) (Nat.zero_le _)
  have e1' : fX4_legAt N A y 0 = some q := e1
  have b0 : ∀ x ∈ L, 0 ≤ lgB x := fun x hx => (hP.2.2 x hx).2.1
  have bE : ∀ x ∈ L, lgB x < lgE x := fun x hx => (hP.2.2 x hx).1
  have r := X4_hour11 (N := N) (A := A) (y := y) (H := H) hC (by omega) (by omega) hP.2.1 bE hH.2 (k := (H + 1).toNat) (n := N) (t := 0) (j := 0) (q := q) (by omega) (by omega) (Nat.zero_le _) (fun i hi => by
    have m := SF_mem hi
    have := b0 _ m
    have := bE _ m
    exact ⟨fun z => by omega, fun z => by omega⟩) e2
  have ev : plF L (((0 : Nat) : Int) - 1) 0 = 0 := by
    unfold plF
    rw [if_neg (fun z => absurd z.2 (by have := b0 _ (SF_mem z.1); omega)), if_pos rfl]
  rw [ev] at r
  unfold fX4_placeHourByHour
  rw [e1', obind_some]
  exact r
/-! the reference: the next thing of a pilot -/
def isTh (M : MR) (p : Int) (t : Nat) : Prop := (t < 16 ∧ (t : Int) < M 18 3 ∧ tofM M t p = true) ∨ (16 ≤ t ∧ ((t - 16 : Nat) : Int) < M 18 4 ∧ hasR (M 17 (t - 16)) p = true)
def thM (M : MR) (t : Nat) : LG := if t < 16 then legT M t else legR M (t - 16)
def NX (M : MR) (p fr : Int) (c : Nat) (b h : Int) : Prop := (b = -1 ∧ ∀ t, t < c → isTh M p t → lgB (thM M t) < fr) ∨ ∃ q : Nat, b = q ∧ q < c ∧ isTh M p q ∧ fr ≤ lgB (thM M q) ∧ h = lgB (thM M q) ∧ ∀ t, t < c → isTh M p t → fr ≤ lgB (thM M t) → lgB (thM M q) ≤ lgB (thM M t)
theorem NX.skip {M : MR} {p fr b h : Int} {c : Nat} (hx : NX M p fr c b h) (hc : isTh M p c → lgB (thM M c) < fr ∨ (¬ b < 0 ∧ h ≤ lgB (thM M c))) : NX M p fr (c + 1) b h := by
  rcases hx with ⟨h1, h2⟩ | ⟨q, h1, h2, h3, h4, h5, h6⟩
  · refine Or.inl ⟨h1, fun t ht h7 => ?_⟩
    by_cases e : t = c
    · subst e
      rcases hc h7 with z | z
      · exact z
      · omega
    · exact h2 t (by omega) h7
  · refine Or.inr ⟨q, h1, by omega, h3, h4, h5, fun t ht h7 h8 => ?_⟩
    by_cases e : t = c
    · subst e
      rcases hc h7 with z | z
      · omega
      · omega
    · exact h6 t (by omega) h7 h8
theorem NX.take {M : MR} {p fr b h : Int} {c : Nat} (hx : NX M p fr c b h) (hc : isTh M p c) (hf : fr ≤ lgB (thM M c)) (hb : b < 0 ∨ lgB (thM M c) < h) : NX M p fr (c + 1) c (lgB (thM M c)) := by
  refine Or.inr ⟨c, rfl, by omega, hc, hf, rfl, fun t ht h7 h8 => ?_⟩
  by_cases e : t = c
  · subst e; exact Int.le_refl _
  · rcases hx with ⟨h1, h2⟩ | ⟨q, h1, h2, h3, h4, h5, h6⟩
    · have := h2 t (by omega) h7
      omega
    · have := h6 t (by omega) h7 h8
      omega
theorem X9_next78 {N : Nat} {A : AH} {p fr : Int} (hG : GD (mvA A)) : ∀ {k n a : Nat} {b h : Int}, (a : Int) + k = mvA A 18 4 → k < n → NX (mvA A) p fr (16 + a) b h → ∃ b' h', fX9_nextOf_78 N A p fr n b h a = some b' ∧ NX (mvA A) p fr (16 + a + k) b' h'
  | 0, n, a, b, h, hc, hn, hx => by
    match n, hn with
    | n + 1, _ =>
      refine ⟨b, h, ?_, hx⟩
      rw [fX9_nextOf_78, show gI A 349 23 = mvA A 18 4 from rfl, if_pos (ge_z hc)]
  | k + 1, n, a, b, h, hc, hn, hx => by
    have c5 := hG.2.1.2.2.2.2
    have ha := lt_sc hc
    have ea : Unit → wrap ((a : Int) + 1) = ((a + 1 : Nat) : Int) := fun _ => wrap_eq (by omega) (by omega)
    have e16 : Unit → wrap (16 + (a : Int)) = ((16 + a : Nat) : Int) := fun _ => by rw [wrap_eq (by omega) (by omega)]; omega
    have ek : 16 + a + (k + 1) = 16 + (a + 1) + k := by omega
    have cR : ∀ {β : Type} (K : Option β), chk (0 ≤ (a : Int) ∧ (a : Int) < 2703) K = K := fun K => chk_pos K ⟨by omega, by omega⟩
    have eth : thM (mvA A) (16 + a) = legR (mvA A) a := by
      unfold thM
      rw [if_neg (by omega), Nat.add_sub_cancel_left]
    have eis : isTh (mvA A) p (16 + a) ↔ hasR (mvA A 17 a) p = true := by
      unfold isTh
      rw [Nat.add_sub_cancel_left]
      constructor
      · rintro (⟨z, -⟩ | ⟨-, -, z⟩)
        · omega
        · exact z
      · intro z
        exact Or.inr ⟨by omega, ha, z⟩
    have e7 : gI A 367 (a : Int).toNat = mvA A 17 a := rfl
    have hB : ∀ K : Int → Option Int, obind (fX9_hourOf N A (gI A 367 (a : Int).toNat)) K = K (lgB (thM (mvA A) (16 + a))) := fun K => by
      unfold fX9_hourOf
      rw [obind_some, eth]
      rfl
    match n, hn with
    | n + 1, hn =>
      have ih := fun b' h' hb' => X9_next78 (N := N) (p := p) (fr := fr) hG (k := k) (n := n) (a := a + 1) (b := b') (h := h') (by rw [sc_cast]; exact hc) (Nat.lt_of_succ_lt_succ hn) hb'
      have t137 : isTh (mvA A) p (16 + a) → fr ≤ lgB (thM (mvA A) (16 + a)) → (b < 0 ∨ lgB (thM (mvA A) (16 + a)) < h) → ∃ b' h', fX9_nextOf_137 N (fun x3 x4 x5 => fX9_nextOf_78 N A p fr n x3 x4 x5) A p fr a = some b' ∧ NX (mvA A) p fr (16 + (a + 1) + k) b' h' := fun z1 z2 z3 => by
        unfold fX9_nextOf_137
        rw [bnd_eq, cR, hB, bnd_eq, ea (), e16 ()]
        exact ih _ _ (hx.take z1 z2 z3)
      rw [fX9_nextOf_78, show gI A 349 23 = mvA A 18 4 from rfl, if_neg (Int.not_le.mpr ha), cR, X9_has, obind_some, e7, ek]
      by_cases hh : hasR (mvA A 17 a) p = true
      · have hi := eis.mpr hh
        rw [hh, if_neg b2t', cR, ← e7, hB]
        by_cases h1 : lgB (thM (mvA A) (16 + a)) < fr
        · rw [if_pos h1, bnd_eq, ea ()]
          exact ih b h (hx.skip (fun _ => Or.inl h1))
        · rw [if_neg h1]
          by_cases h2 : b < 0
          · rw [if_pos h2]
            exact t137 hi (by omega) (Or.inl h2)
          · rw [if_neg h2, cR, hB]
            by_cases h3 : lgB (thM (mvA A) (16 + a)) < h
            · rw [if_pos h3]
              exact t137 hi (by omega) (Or.inr h3)
            · rw [if_neg h3, bnd_eq, ea ()]
              exact ih b h (hx.skip (fun _ => Or.inr ⟨h2, by omega⟩))
      · rw [Bool.not_eq_true _ |>.mp hh, if_pos b2f', bnd_eq, ea ()]
        exact ih b h (hx.skip (fun z => absurd (eis.mp z) hh))
theorem X9_next8 {N : Nat} {A : AH} {p fr : Int} (hN0 : 3000 ≤ N) (hG : GD (mvA A)) : ∀ {k n a : Nat} {b h : Int}, (a : Int) + k = mvA A 18 3 → k < n → NX (mvA A) p fr a b h → ∃ b' h', fX9_nextOf_8 N A p fr n b h a = some b' ∧ NX (mvA A) p fr (16 + (mvA A 18 4).toNat) b' h'
  | 0, n, a, b, h, hc, hn, hx => by
    have c4 := hG.2.1.2.2.2.1
    have c5 := hG.2.1.2.2.2.2
    match n, hn with
    | n + 1, _ =>
      have h16 : NX (mvA A) p fr (16 + 0) b h := by
        have no : ∀ t, a ≤ t → t < 16 + 0 → ¬ isTh (mvA A) p t := fun t h1 h2 z => by
          rcases z with ⟨z1, z2, -⟩ | ⟨z1, -⟩
          · omega
          · omega
        rcases hx with ⟨h1, h2⟩ | ⟨q, h1, h2, h3, h4, h5, h6⟩
        · refine Or.inl ⟨h1, fun t ht h7 => ?_⟩
          by_cases e : t < a
          · exact h2 t e h7
          · exact absurd h7 (no t (by omega) ht)
        · refine Or.inr ⟨q, h1, by omega, h3, h4, h5, fun t ht h7 h8 => ?_⟩
          by_cases e : t < a
          · exact h6 t e h7 h8
          · exact absurd h7 (no t (by omega) ht)
      obtain ⟨b', h', r1, r2⟩ := X9_next78 (N := N) hG (k := (mvA A 18 4).toNat) (n := N) (a := 0) (b := b) (h := h) (nat0 c5.1) (by omega) h16
      refine ⟨b', h', ?_, r2⟩
      rw [fX9_nextOf_8, show gI A 349 22 = mvA A 18 3 from rfl, if_pos (ge_z hc)]
      exact r1
  | k + 1, n, a, b, h, hc, hn, hx => by
    have ha := lt_sc hc
    have h16 := hG.o16 ha
    have ea : Unit → wrap ((a : Int) + 1) = ((a + 1 : Nat) : Int) := fun _ => wrap_eq (by omega) (by omega)
    have eth : thM (mvA A) a = legT (mvA A) a := by
      unfold thM
      rw [if_pos h16]
    have eis : isTh (mvA A) p a ↔ tofM (mvA A) a p = true := by
      unfold isTh
      constructor
      · rintro (⟨-, -, z⟩ | ⟨z, -⟩)
        · exact z
        · omega
      · intro z
        exact Or.inl ⟨h16, ha, z⟩
    have hB : gI A 359 (a : Int).toNat = lgB (thM (mvA A) a) := by
      rw [eth]
      rfl
    match n, hn with
    | n + 1, hn =>
      have ih := fun b' h' hb' => X9_next8 (N := N) (p := p) (fr := fr) hN0 hG (k := k) (n := n) (a := a + 1) (b := b') (h := h') (by rw [sc_cast]; exact hc) (Nat.lt_of_succ_lt_succ hn) hb'
      have t57 : isTh (mvA A) p a → fr ≤ lgB (thM (mvA A) a) → (b < 0 ∨ lgB (thM (mvA A) a) < h) → ∃ b' h', fX9_nextOf_57 N (fun x3 x4 x5 => fX9_nextOf_8 N A p fr n x3 x4 x5) A p fr a = some b' ∧ NX (mvA A) p fr (16 + (mvA A 18 4).toNat) b' h' := fun z1 z2 z3 => by
        unfold fX9_nextOf_57
        rw [ck16 h16, bnd_eq, bnd_eq, ea (), hB]
        exact ih _ _ (hx.take z1 z2 z3)
      rw [fX9_nextOf_8, show gI A 349 22 = mvA A 18 3 from rfl, if_neg (Int.not_le.mpr ha), X9_isTripOf h16, obind_some]
      by_cases hh : tofM (mvA A) a p = true
      · have hi := eis.mpr hh
        rw [hh, if_neg b2t', ck16 h16, hB]
        by_cases h1 : lgB (thM (mvA A) a) < fr
        · rw [if_pos h1, bnd_eq, ea ()]
          exact ih b h (hx.skip (fun _ => Or.inl h1))
        · rw [if_neg h1]
          by_cases h2 : b < 0
          · rw [if_pos h2]
            exact t57 hi (by omega) (Or.inl h2)
          · rw [if_neg h2, ck16 h16]
            by_cases h3 : lgB (thM (mvA A) a) < h
            · rw [if_pos h3]
              exact t57 hi (by omega) (Or.inr h3)
            · rw [if_neg h3, bnd_eq, ea ()]
              exact ih b h (hx.skip (fun _ => Or.inr ⟨h2, by omega⟩))
      · rw [Bool.not_eq_true _ |>.mp hh, if_pos b2f', bnd_eq, ea ()]
        exact ih b h (hx.skip (fun z => absurd (eis.mp z) hh))
theorem isTh_mem {M : MR} {p : Int} {L : List LG} (hP : PL M p L) {t : Nat} (h : isTh M p t) : thM M t ∈ L := by
  refine hP.1.mem_iff.mpr ?_
  unfold itemsL tripsL ridesL thM
  rcases h with ⟨h1, h2, h3⟩ | ⟨h1, h2, h3⟩
  · rw [if_pos h1]
    exact List.mem_append_left _ (List.mem_map.mpr ⟨t, mem_selF.mpr ⟨⟨Nat.zero_le _, by omega⟩, h3⟩, rfl⟩)
  · rw [if_neg (by omega)]
    exact List.mem_append_right _ (List.mem_map.mpr ⟨t - 16, mem_selF.mpr ⟨⟨Nat.zero_le _, by omega⟩, h3⟩, rfl⟩)
theorem mem_isTh {M : MR} {p : Int} {L : List LG} (hG : GD M) (hP : PL M p L) {x : LG} (h : x ∈ L) : ∃ t, isTh M p t ∧ thM M t = x ∧ t < 16 + (M 18 4).toNat := by
  have h2 := hP.1.mem_iff.mp h
  unfold itemsL tripsL ridesL at h2
  rcases List.mem_append.mp h2 with h3 | h3
  · obtain ⟨o, h4, h5⟩ := List.mem_map.mp h3
    have h6 := mem_selF.mp h4
    have ho : (o : Int) < M 18 3 := by omega
    have h16 := hG.o16 ho
    exact ⟨o, Or.inl ⟨h16, ho, h6.2⟩, by unfold thM; rw [if_pos h16]; exact h5, by omega⟩
  · obtain ⟨k, h4, h5⟩ := List.mem_map.mp h3
    have h6 := mem_selF.mp h4
    exact ⟨16 + k, Or.inr ⟨by omega, by rw [Nat.add_sub_cancel_left]; omega, by rw [Nat.add_sub_cancel_left]; exact h6.2⟩, by unfold thM; rw [if_neg (by omega), Nat.add_sub_cancel_left]; exact h5, by omega⟩
/-- the next thing is the plan's leg j, when just the legs from j on begin from there on -/
def TH (M : MR) (p : Int) (L : List LG) (j : Nat) (b : Int) : Prop := (j = L.length ∧ b = -1) ∨ (j < L.length ∧ ∃ t : Nat, b = t ∧ isTh M p t ∧ thM M t = SF L j)
theorem X9_nextOf {N : Nat} {A : AH} {p fr : Int} {L : List LG} {j : Nat} (hN0 : 3000 ≤ N) (hG : GD (mvA A)) (hP : PL (mvA A) p L) (hj : j ≤ L.length) (hk : ∀ i, i < L.length → (fr ≤ lgB (SF L i) ↔ j ≤ i)) : ∃ b, fX9_nextOf N A p fr = some b ∧ TH (mvA A) p L j b := by
  have c4 := hG.2.1.2.2.2.1
  obtain ⟨b, h, r1, r2⟩ := X9_next8 (N := N) (A := A) (p := p) (fr := fr) hN0 hG (k := (mvA A 18 3).toNat) (n := N) (a := 0) (b := -1) (h := 0) (nat0 c4.1) (by omega) (Or.inl ⟨rfl, fun t ht => by omega⟩)
  refine ⟨b, r1, ?_⟩
  rcases r2 with ⟨h1, h2⟩ | ⟨q, h1, h2, h3, h4, h5, h6⟩
  · by_cases e : j < L.length
    · obtain ⟨t, t1, t2, t3⟩ := mem_isTh hG hP (SF_mem e)
      have := h2 t t3 t1
      rw [t2] at this
      have := (hk j e).mpr (Nat.le_refl j)
      omega
    · exact Or.inl ⟨by omega, h1⟩
  · obtain ⟨i, i1, i2⟩ := mem_SF (isTh_mem hP h3)
    have hji : j ≤ i := (hk i i1).mp (by rw [i2]; exact h4)
    refine Or.inr ⟨by omega, q, h1, h3, ?_⟩
    by_cases e : j = i
    · rw [e, i2]
    · have a1 := SF_lt hP.2.1 (show j < i by omega) i1
      have m := SF_mem (L := L) (i := j) (by omega)
      have a2 := (hP.2.2 _ m).1
      obtain ⟨t, t1, t2, t3⟩ := mem_isTh hG hP m
      have a3 := h6 t t3 t1 (by rw [t2]; exact (hk j (by omega)).mpr (Nat.le_refl j))
      rw [t2, ← i2] at a3
      omega
