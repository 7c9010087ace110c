theorem mem_selF {f : Nat → Bool} {x : Nat} : ∀ {n a : Nat}, x ∈ selF f n a ↔ (a ≤ x ∧ x < a + n) ∧ f x = true
  | 0, a => by simp [selF]; intro h1 h2; omega
  | n + 1, a => by
    rw [selF]
    by_cases h : f a = true
    · rw [if_pos h, List.mem_cons, mem_selF]
      constructor
      · rintro (e | ⟨e, h2⟩)
        · subst e
          exact ⟨by omega, h⟩
        · exact ⟨by omega, h2⟩
      · rintro ⟨e, h2⟩
        by_cases hx : x = a
        · exact Or.inl hx
        · exact Or.inr ⟨by omega, h2⟩
    · rw [if_neg h, mem_selF]
      constructor
      · rintro ⟨e, h2⟩
        exact ⟨by omega, h2⟩
      · rintro ⟨e, h2⟩
        by_cases hx : x = a
        · subst hx
          exact absurd h2 h
        · exact ⟨by omega, h2⟩
theorem lateT_fold {M : MR} {o : Nat} : ∀ {I : List Nat} {c : Int}, (∀ y ∈ I, y = o ∨ M 9 y < M 9 o) → (o ∈ I ∧ (c < 0 ∨ M 9 c.toNat < M 9 o) ∨ c = (o : Int)) → I.foldl (lateT M) c = (o : Int)
  | [], c, _, hc => by
    rcases hc with ⟨h1, -⟩ | h1
    · cases h1
    · exact h1
  | y :: I, c, hI, hc => by
    rw [List.foldl_cons]
    refine lateT_fold (fun z hz => hI z (List.mem_cons_of_mem _ hz)) ?_
    have hy := hI y List.mem_cons_self
    unfold lateT
    rcases hc with ⟨h1, h2⟩ | h1
    · rcases hy with rfl | hy
      · right
        split
        · rfl
        · rename_i h0
          rw [if_neg (by rcases h2 with h2 | h2 <;> omega)]
      · have h1' : o ∈ I := by
          rcases List.mem_cons.mp h1 with e | e
          · subst e; omega
          · exact e
        left
        refine ⟨h1', ?_⟩
        split
        · exact Or.inr (by rw [Int.toNat_natCast]; exact hy)
        · split
          · exact h2
          · exact Or.inr (by rw [Int.toNat_natCast]; exact hy)
    · right
      subst h1
      rw [if_neg (by omega), Int.toNat_natCast]
      rcases hy with rfl | hy
      · rw [if_pos (Int.le_refl _)]
      · rw [if_pos (by omega)]
theorem mem_tripsL {M : MR} {p : Int} {x : LG} : x ∈ tripsL M p ↔ ∃ o : Nat, o < (M 18 3).toNat ∧ tofM M o p = true ∧ legT M o = x := by
  unfold tripsL
  rw [List.mem_map]
  constructor
  · rintro ⟨o, h1, h2⟩
    have := mem_selF.mp h1
    exact ⟨o, by omega, this.2, h2⟩
  · rintro ⟨o, h1, h2, h3⟩
    exact ⟨o, mem_selF.mpr ⟨by omega, h2⟩, h3⟩
theorem mem_ridesL {M : MR} {p : Int} {x : LG} : x ∈ ridesL M p ↔ ∃ k : Nat, k < (M 18 4).toNat ∧ hasR (M 17 k) p = true ∧ legR M k = x := by
  unfold ridesL
  rw [List.mem_map]
  constructor
  · rintro ⟨o, h1, h2⟩
    have := mem_selF.mp h1
    exact ⟨o, by omega, this.2, h2⟩
  · rintro ⟨o, h1, h2, h3⟩
    exact ⟨o, mem_selF.mpr ⟨by omega, h2⟩, h3⟩
theorem restO_restL {M : MR} {p : Int} {L : List LG} (h : PL M p L) : restO M ((selF (fun o => tofM M o p) (M 18 3).toNat 0).foldl (lateT M) (-1)) = restL M L := by
  obtain ⟨h1, h2, h3⟩ := h
  have inL : ∀ o : Nat, o ∈ selF (fun o => tofM M o p) (M 18 3).toNat 0 → legT M o ∈ L := fun o ho => by
    have hm := mem_selF.mp ho
    exact h1.mem_iff.mpr (List.mem_append_left _ (mem_tripsL.mpr ⟨o, by omega, hm.2, rfl⟩))
  unfold restL
  cases hf : L.find? (fun x => lgK x == 0) with
  | none =>
    have hn := List.find?_eq_none.mp hf
    have e : selF (fun o => tofM M o p) (M 18 3).toNat 0 = [] := List.eq_nil_iff_forall_not_mem.mpr (fun o ho => hn _ (inL o ho) rfl)
    rw [e]
    rfl
  | some x =>
    obtain ⟨hk, as, bs, hL, has⟩ := List.find?_eq_some_iff_append.mp hf
    have hx : x ∈ L := List.mem_of_find?_eq_some hf
    have hk0 : lgK x = 0 := by simpa using hk
    rcases List.mem_append.mp (h1.mem_iff.mp hx) with hi | hi
    · obtain ⟨o, ho1, ho2, ho3⟩ := mem_tripsL.mp hi
      have hoS : o ∈ selF (fun o => tofM M o p) (M 18 3).toNat 0 := mem_selF.mpr ⟨by omega, ho2⟩
      have hfold := lateT_fold (M := M) (o := o) (I := selF (fun o => tofM M o p) (M 18 3).toNat 0) (c := -1) (fun y hy => by
        by_cases e : y = o
        · exact Or.inl e
        · right
          have hyL := inL y hy
          rw [hL] at hyL
          have hb : legT M y ∈ bs := by
            rcases List.mem_append.mp hyL with hh | hh
            · exact absurd (has _ hh) (by show ¬ ((!((0 : Int) == 0)) = true); decide)
            · rcases List.mem_cons.mp hh with hh | hh
              · rw [← ho3] at hh
                have := congrArg lgS hh
                have h4 : (y : Int) = (o : Int) := this
                omega
              · exact hh
          rw [hL] at h2
          have h5 := (List.pairwise_cons.mp (List.pairwise_append.mp h2).2.1).1 _ hb
          have h6 := (h3 _ (inL y hy)).1
          rw [← ho3] at h5
          have h7 : lgB (legT M o) = M 9 o := rfl
          have h8 : lgB (legT M y) = M 9 y := rfl
          omega) (Or.inl ⟨hoS, Or.inl (by decide)⟩)
      rw [hfold]
      unfold restO
      rw [if_pos (by omega), Int.toNat_natCast, ho3]
      show _ = lgE x + M 0 0 + _
      rw [← ho3]
      rfl
    · obtain ⟨k, -, -, h6⟩ := mem_ridesL.mp hi
      rw [← h6] at hk0
      exact absurd hk0 (by show ¬ ((1 : Int) = 0); decide)
theorem X9_restedFrom {N : Nat} {A : AH} {p : Int} {L : List LG} (hN : 20 ≤ N) (hR : MRu (mvA A)) (hC : MC (mvA A)) (hO : ∀ o : Nat, (o : Int) < mvA A 18 3 → MO (mvA A) o) (hL : PL (mvA A) p L) : fX9_restedFrom N A p = some (restL (mvA A) L) := by
  have c4 := hC.2.2.2.1
  unfold fX9_restedFrom
  have e := X9_rested4 (N := N) (A := A) (p := p) (k := (mvA A 18 3).toNat) (n := N) (a := 0) (c := -1) (by omega) hR hC hO (show ((0 : Nat) : Int) + ((mvA A 18 3).toNat : Int) = mvA A 18 3 by omega) (fun h => by omega) (by omega)
  rw [restO_restL hL] at e
  exact e
/-- where a pilot's last trip or ride ends, and when; from when on the pilot is rested: of the row alone -/
def lastM (M : MR) (p : Int) : Int × Int := (itemsL M p).foldl look (0, 0)
def freM (M : MR) (p : Int) : Int := (lastM M p).1
def goaM (M : MR) (p : Int) : Int := (lastM M p).2
def rstM (M : MR) (p : Int) : Int := restO M ((selF (fun o => tofM M o p) (M 18 3).toNat 0).foldl (lateT M) (-1))
theorem PL.fre {M : MR} {p : Int} {L : List LG} (h : PL M p L) : freM M p = frees L := by
  unfold freM lastM
  rw [h.last]
theorem PL.goa {M : MR} {p : Int} {L : List LG} (h : PL M p L) : goaM M p = goals L := by
  unfold goaM lastM
  rw [h.last]
theorem PL.rst {M : MR} {p : Int} {L : List LG} (h : PL M p L) : rstM M p = restL M L := restO_restL h
theorem X9_findLastM {N : Nat} {A : AH} {p : Int} (hN : 3000 ≤ N) (hC : MC (mvA A)) (hO : ∀ o : Nat, (o : Int) < mvA A 18 3 → MO (mvA A) o) : fX9_findLast N A p = some (setL A (lastM (mvA A) p)) := by
  obtain ⟨-, -, -, c4, c5⟩ := id hC
  unfold fX9_findLast
  simp only [bnd_eq]
  have e := X9_findLast12 (N := N) (A := A) (p := p) (k := (mvA A 18 3).toNat) (n := N) (a := 0) (c := (0, 0)) hN hC hO (show ((0 : Nat) : Int) + ((mvA A 18 3).toNat : Int) = mvA A 18 3 by omega) (by omega)
  rw [← List.foldl_append] at e
  exact e
theorem X9_restedM {N : Nat} {A : AH} {p : Int} (hN : 20 ≤ N) (hR : MRu (mvA A)) (hC : MC (mvA A)) (hO : ∀ o : Nat, (o : Int) < mvA A 18 3 → MO (mvA A) o) : fX9_restedFrom N A p = some (rstM (mvA A) p) := by
  have c4 := hC.2.2.2.1
  unfold fX9_restedFrom
  exact X9_rested4 (N := N) (A := A) (p := p) (k := (mvA A 18 3).toNat) (n := N) (a := 0) (c := -1) (by omega) hR hC hO (show ((0 : Nat) : Int) + ((mvA A 18 3).toNat : Int) = mvA A 18 3 by omega) (fun h => by omega) (by omega)
