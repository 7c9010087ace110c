/-! plans: trips and rides of a pilot -/
def hourR (x : Int) : Int := iAnd x 1023
def endR (x : Int) : Int := wrap (iAnd x 1023 + iAnd (iShr x 10) 7)
def hasR (x : Int) (p : Int) : Bool := decide (iAnd (iShr x (wrap (13 + p))) 1 = 1)
def toR (x : Int) : Int := iAnd (iShr x 19) 1
def boatR (x : Int) : Int := iShr x 20
def legT (M : MR) (o : Nat) : LG := (0, (o : Int), M 9 o, endM M o, M 3 o)
def legR (M : MR) (k : Nat) : LG := (1, boatR (M 17 k), hourR (M 17 k), endR (M 17 k), toR (M 17 k))
/-- the places from a on, n of them, for which f holds -/
def selF (f : Nat → Bool) : Nat → Nat → List Nat
  | 0, _ => []
  | n + 1, a => if f a then a :: selF f n (a + 1) else selF f n (a + 1)
def tripsL (M : MR) (p : Int) : List LG := (selF (fun o => tofM M o p) (M 18 3).toNat 0).map (legT M)
def ridesL (M : MR) (p : Int) : List LG := (selF (fun k => hasR (M 17 k) p) (M 18 4).toNat 0).map (legR M)
def itemsL (M : MR) (p : Int) : List LG := tripsL M p ++ ridesL M p
/-- the last found so far -/
def setL (A : AH) (c : Int × Int) : AH := sI (sI A 349 24 c.1) 349 25 c.2
def look (c : Int × Int) (x : LG) : Int × Int := if c.1 < lgE x then (lgE x, lgG x) else c
theorem AH_ext {A B : AH} (h1 : A.1 = B.1) (h2 : ∀ a k, gI A a k = gI B a k) (h3 : ∀ a k, gP A a k = gP B a k) (h4 : A.2.2.2 = B.2.2.2) : A = B := by
  obtain ⟨a1, a2, a3, a4⟩ := A
  obtain ⟨b1, b2, b3, b4⟩ := B
  have e2 : a2 = b2 := funext fun a => funext fun k => h2 a k
  have e3 : a3 = b3 := funext fun a => funext fun k => h3 a k
  subst e2
  subst e3
  cases h1
  cases h4
  rfl
theorem setL_setL (A : AH) (c e : Int × Int) : setL (setL A c) e = setL A e := by
  refine AH_ext rfl (fun a k => ?_) (fun a k => rfl) rfl
  unfold setL
  simp only [gI_sI]
  by_cases h1 : a = 349 ∧ k = 25
  · simp [h1]
  · by_cases h2 : a = 349 ∧ k = 24 <;> simp [h1, h2]
theorem mvA_sI {A : AH} {a k : Nat} {v : Int} (h : a < 349 ∨ 367 < a ∨ a = 349 ∧ (k < 19 ∨ 23 < k)) : mvA (sI A a k v) = mvA A := by
  funext j i
  unfold mvA
  simp only [gI_sI]
  split
  · rw [if_neg (by omega)]
  · split
    · rw [if_neg (by omega)]
    · rfl
/-- rows that are equal where they are read -/
def MEq (M M' : MR) : Prop := ∀ j i, i < 5 ∨ j < 18 → M' j i = M j i
theorem look_end {c : Int × Int} {x : LG} : (look c x).1 = max c.1 (lgE x) := by
  unfold look
  split
  · show lgE x = _
    omega
  · omega
/-- the last one of a row of legs of which one ends behind all others -/
theorem look_fold {h : LG} : ∀ {I : List LG} {c : Int × Int}, (∀ y ∈ I, y = h ∨ lgE y < lgE h) → (h ∈ I ∧ c.1 < lgE h ∨ c = (lgE h, lgG h)) → I.foldl look c = (lgE h, lgG h)
  | [], c, _, hc => by
    rcases hc with ⟨h1, -⟩ | h1
    · cases h1
    · exact h1
  | x :: I, c, hI, hc => by
    have hx := hI x List.mem_cons_self
    have hI' : ∀ y ∈ I, y = h ∨ lgE y < lgE h := fun y hy => hI y (List.mem_cons_of_mem _ hy)
    rw [List.foldl_cons]
    refine look_fold hI' ?_
    rcases hc with ⟨h1, h2⟩ | h1
    · rcases hx with rfl | hx
      · right
        unfold look
        rw [if_pos h2]
      · left
        refine ⟨?_, by rw [look_end]; omega⟩
        rcases List.mem_cons.mp h1 with e | e
        · rw [e] at hx; omega
        · exact e
    · right
      unfold look
      rw [h1]
      show (if lgE h < lgE x then _ else _) = _
      rcases hx with rfl | hx <;> rw [if_neg (by omega)]
/-- what L is for pilot p of the model's row: newest first, one behind the other -/
def PL (M : MR) (p : Int) (L : List LG) : Prop := L.Perm (itemsL M p) ∧ L.Pairwise (fun x y => lgE y ≤ lgB x) ∧ ∀ x ∈ L, lgB x < lgE x ∧ 0 ≤ lgB x ∧ lgE x ≤ 2000
theorem PL.last {M : MR} {p : Int} {L : List LG} (h : PL M p L) : (itemsL M p).foldl look (0, 0) = (frees L, goals L) := by
  obtain ⟨h1, h2, h3⟩ := h
  cases L with
  | nil =>
    rw [List.nil_perm.mp h1]
    rfl
  | cons x L =>
    have hx := h3 x List.mem_cons_self
    refine look_fold (fun y hy => ?_) (Or.inl ⟨h1.mem_iff.mp List.mem_cons_self, by show (0 : Int) < lgE x; omega⟩)
    rcases List.mem_cons.mp (h1.mem_iff.mpr hy) with e | e
    · exact Or.inl e
    · have := (List.pairwise_cons.mp h2).1 y e
      exact Or.inr (by omega)
