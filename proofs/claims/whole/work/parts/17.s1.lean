/-! layer 3: legs in a chain, and what the functions of a pilot tell of it -/
theorem bnd_eq {α β : Type} (x : α) (K : α → Option β) : bnd x K = K x := rfl
theorem wrap_0 : wrap 0 = 0 := by decide
abbrev LG : Type := Int × Int × Int × Int × Int
def lgK (x : LG) : Int := x.1
def lgS (x : LG) : Int := x.2.1
def lgB (x : LG) : Int := x.2.2.1
def lgE (x : LG) : Int := x.2.2.2.1
def lgG (x : LG) : Int := x.2.2.2.2
/-- the leg q is x and the n-th of its plan -/
def LF (A : AH) (q : Nat) (x : LG) (n : Nat) : Prop := isLeg A q ∧ gI A q 1 = (n : Int) ∧ gI A q 2 = lgK x ∧ gI A q 3 = lgS x ∧ gI A q 4 = lgB x ∧ gI A q 5 = lgE x ∧ gI A q 6 = lgG x
/-- from q on the legs of L, the newest first -/
def CH (A : AH) : Nat → List LG → Prop
  | q, [] => q = 0
  | q, x :: L => LF A q x L.length ∧ CH A (gP A q 0) L
theorem LF.ne {A : AH} {q n : Nat} {x : LG} (h : LF A q x n) : ¬ q = 0 := by have := h.1.1; omega
theorem CH.nz {A : AH} {q : Nat} {x : LG} {L : List LG} (h : CH A q (x :: L)) : ¬ q = 0 := h.1.ne
theorem CH.z {A : AH} {q : Nat} (h : CH A q []) : q = 0 := h
/-- a heap that keeps the legs keeps the chains -/
def KL (A B : AH) : Prop := hN A ≤ hN B ∧ ∀ a, 376 ≤ a → a < hN A → gK B a = gK A a ∧ (∀ k, gI B a k = gI A a k) ∧ ∀ k, gP B a k = gP A a k
theorem KL.rf (A : AH) : KL A A := ⟨Nat.le_refl _, fun _ _ _ => ⟨rfl, fun _ => rfl, fun _ => rfl⟩⟩
theorem KL.tr {A B C : AH} (h : KL A B) (h2 : KL B C) : KL A C := ⟨Nat.le_trans h.1 h2.1, fun a h3 h4 => by
  obtain ⟨a1, a2, a3⟩ := h.2 a h3 h4
  obtain ⟨b1, b2, b3⟩ := h2.2 a h3 (Nat.lt_of_lt_of_le h4 h.1)
  exact ⟨b1.trans a1, fun k => (b2 k).trans (a2 k), fun k => (b3 k).trans (a3 k)⟩⟩
theorem LF.kl {A B : AH} (k : KL A B) {q n : Nat} {x : LG} (h : LF A q x n) : LF B q x n := by
  obtain ⟨⟨h1, h2, h3⟩, h4⟩ := h
  obtain ⟨a1, a2, a3⟩ := k.2 q h1 h2
  refine ⟨⟨h1, Nat.lt_of_lt_of_le h2 k.1, by rw [a1]; exact h3⟩, ?_⟩
  simp only [a2]
  exact h4
theorem CH.kl {A B : AH} (k : KL A B) : ∀ {L : List LG} {q : Nat}, CH A q L → CH B q L
  | [], _, h => h
  | x :: L, q, h => ⟨h.1.kl k, by rw [(k.2 q h.1.1.1 h.1.1.2.1).2.2 0]; exact CH.kl k h.2⟩
def legs1 (L : List LG) : Int := (L.length : Int)
def frees (L : List LG) : Int := match L with
  | [] => 0
  | x :: _ => lgE x
def goals (L : List LG) : Int := match L with
  | [] => 0
  | x :: _ => lgG x
theorem X4_legs {N : Nat} {A : AH} {y : Nat} {L : List LG} (h : CH A (gP A y 2) L) : fX4_legs N A y = some (wrap (L.length : Int)) := by
  unfold fX4_legs
  cases L with
  | nil => rw [if_pos h.z]; rfl
  | cons x L =>
    rw [if_neg h.nz, h.1.2.1]
    rfl
theorem X4_freeFrom {N : Nat} {A : AH} {y : Nat} {L : List LG} (h : CH A (gP A y 2) L) : fX4_freeFrom N A y = some (frees L) := by
  unfold fX4_freeFrom
  cases L with
  | nil => rw [if_pos h.z]; rfl
  | cons x L => rw [if_neg h.nz, h.1.2.2.2.2.2.1]; rfl
theorem X4_lastGoal {N : Nat} {A : AH} {y : Nat} {L : List LG} (h : CH A (gP A y 2) L) : fX4_lastGoal N A y = some (goals L) := by
  unfold fX4_lastGoal
  cases L with
  | nil => rw [if_pos h.z]; rfl
  | cons x L => rw [if_neg h.nz, h.1.2.2.2.2.2.2]; rfl
theorem X4_lastTrip5 {N : Nat} {A : AH} : ∀ {L : List LG} {q n : Nat}, CH A q L → L.length < n → ∃ q', fX4_lastTrip_5 N A n q = some q' ∧ match L.find? (fun x => lgK x == 0) with
    | none => q' = 0
    | some x => ∃ m, LF A q' x m
  | [], q, n, h, hn => by
    match n, hn with
    | n + 1, _ =>
      refine ⟨0, ?_, rfl⟩
      rw [fX4_lastTrip_5, if_pos h.z]
  | x :: L, q, n, h, hn => by
    match n, hn with
    | n + 1, hn =>
      rw [fX4_lastTrip_5, if_neg h.nz, h.1.2.2.1]
      by_cases hk : lgK x = 0
      · rw [if_pos hk]
        refine ⟨q, rfl, ?_⟩
        rw [List.find?_cons_of_pos (by simp [hk])]
        exact ⟨_, h.1⟩
      · rw [if_neg hk, List.find?_cons_of_neg (by simp [hk])]
        exact X4_lastTrip5 h.2 (by simp at hn; omega)
def endsL (o : Int) (L : List LG) : Int := match L with
  | [] => 0
  | x :: _ => if lgK x = 0 ∧ lgS x = o then 1 else 0
theorem X4_endsWith {N : Nat} {A : AH} {y : Nat} {L : List LG} (h : CH A (gP A y 2) L) (o : Int) : fX4_endsWithTripFor N A y o = some (endsL o L) := by
  unfold fX4_endsWithTripFor
  cases L with
  | nil => rw [if_pos h.z]; rfl
  | cons x L =>
    rw [if_neg h.nz, h.1.2.2.1, h.1.2.2.2.1]
    show _ = some (if lgK x = 0 ∧ lgS x = o then 1 else 0)
    by_cases h1 : lgK x = 0 <;> by_cases h2 : lgS x = o <;> simp [h1, h2]
/-- the hours of a leg that are ahead of a bound and on a trip -/
def tripH (b : Int) (x : LG) : Int := if lgK x = 0 ∧ lgB x < b then min (lgE x) b - lgB x else 0
theorem X4_tripHours7 {N : Nat} {A : AH} {b : Int} : ∀ {L : List LG} {q n : Nat} {acc : Int}, CH A q L → L.length < n → inR acc → fX4_tripHours_7 N A b n acc q = some (wrap (acc + (L.map (tripH b)).sum))
  | [], q, n, acc, h, hn, hr => by
    match n, hn with
    | n + 1, _ =>
      rw [fX4_tripHours_7, if_pos h.z]
      simp [wrap_of hr]
  | x :: L, q, n, acc, h, hn, hr => by
    match n, hn with
    | n + 1, hn =>
      have hn' : L.length < n := by simp at hn; omega
      rw [fX4_tripHours_7, if_neg h.nz, h.1.2.2.1, h.1.2.2.2.2.1, h.1.2.2.2.2.2.1, List.map_cons, List.sum_cons]
      unfold tripH
      by_cases hk : lgK x = 0
      · rw [if_pos hk]
        by_cases hb : b ≤ lgB x
        · rw [if_pos hb, X4_tripHours7 h.2 hn' hr, if_neg (by omega)]
          simp
          rfl
        · rw [if_neg hb, bnd_eq, X4_tripHours7 h.2 hn' (wrap_inR _), if_pos ⟨hk, by omega⟩]
          congr 1
          unfold wrap
          show _ = (acc + (min (lgE x) b - lgB x + (List.map (tripH b) L).sum) + 2147483648) % 4294967296 - 2147483648
          omega
      · rw [if_neg hk, X4_tripHours7 h.2 hn' hr, if_neg (fun z => hk z.1)]
        simp
        rfl
/-- where a plan has the pilot at an hour -/
def placeL (h : Int) : List LG → Int
  | [] => 0
  | x :: L => if lgE x ≤ h then lgG x else if lgB x ≤ h then -1 else placeL h L
theorem X4_placeAt5 {N : Nat} {A : AH} {t : Int} : ∀ {L : List LG} {q n : Nat}, CH A q L → L.length < n → fX4_placeAt_5 N A t n q = some (placeL t L)
  | [], q, n, h, hn => by
    match n, hn with
    | n + 1, _ => rw [fX4_placeAt_5, if_pos h.z]; rfl
  | x :: L, q, n, h, hn => by
    match n, hn with
    | n + 1, hn =>
      rw [fX4_placeAt_5, if_neg h.nz, h.1.2.2.2.2.1, h.1.2.2.2.2.2.1, h.1.2.2.2.2.2.2, X4_placeAt5 h.2 (by simp at hn; omega)]
      show _ = some (if lgE x ≤ t then lgG x else if lgB x ≤ t then -1 else placeL t L)
      by_cases h1 : lgE x ≤ t
      · rw [if_neg (by omega), if_pos h1]
      · rw [if_pos (by omega), if_neg h1]
        by_cases h2 : lgB x ≤ t
        · rw [if_neg (by omega), if_pos h2]
        · rw [if_pos (by omega), if_neg h2]
/-- the leg with a given place in the plan -/
theorem X4_legAt5 {N : Nat} {A : AH} {i : Int} : ∀ {L : List LG} {q n : Nat}, CH A q L → L.length < n → ∃ q', fX4_legAt_5 N A i n q = some q' ∧
    ((0 ≤ i ∧ i < (L.length : Int)) ∧ (∃ x, L.reverse[i.toNat]? = some x ∧ LF A q' x i.toNat) ∨ ¬ (0 ≤ i ∧ i < (L.length : Int)) ∧ q' = 0)
  | [], q, n, h, hn => by
    match n, hn with
    | n + 1, _ => exact ⟨0, by rw [fX4_legAt_5, if_pos h.z], Or.inr ⟨by simp, rfl⟩⟩
  | x :: L, q, n, h, hn => by
    match n, hn with
    | n + 1, hn =>
      rw [fX4_legAt_5, if_neg h.nz, h.1.2.1]
      by_cases hi : (L.length : Int) = i
      · rw [if_pos hi]
        refine ⟨q, rfl, Or.inl ⟨⟨by omega, by simp; omega⟩, x, ?_, ?_⟩⟩
        · rw [← hi]; simp
        · rw [← hi]; exact h.1
      · rw [if_neg hi]
        obtain ⟨q', e, hh⟩ := X4_legAt5 (N := N) (i := i) h.2 (show L.length < n by simp at hn; omega)
        refine ⟨q', e, ?_⟩
        rcases hh with ⟨⟨h1, h2⟩, y, h3, h4⟩ | ⟨h1, h2⟩
        · refine Or.inl ⟨⟨h1, by simp; omega⟩, y, ?_, h4⟩
          rw [List.reverse_cons, List.getElem?_append_left (by simp; omega)]
          exact h3
        · refine Or.inr ⟨?_, h2⟩
          simp
          omega
