/-! rest -/
def nightL (x : LG) : Bool := !allF (fun t => decide (6 ≤ t % 24)) (lgE x - lgB x).toNat (lgB x)
def restL (M : MR) (L : List LG) : Int := match L.find? (fun x => lgK x == 0) with
  | none => 0
  | some x => lgE x + M 0 0 + (if nightL x then M 0 4 else 0)
theorem X2_night5 {N : Nat} {A : AH} {q : Nat} {e : Int} (he : gI A q 5 = e) (h2 : e ≤ 2000) : ∀ {k n : Nat} {x : Int}, x + k = e → 0 ≤ x → k < n → fX2_touchesNight_5 N A q n x = some (b2i (!allF (fun t => decide (6 ≤ t % 24)) k x))
  | 0, n, x, h, h0, hn => by
    match n, hn with
    | n + 1, _ =>
      rw [fX2_touchesNight_5, he, if_pos (by omega)]
      rfl
  | k + 1, n, x, h, h0, hn => by
    match n, hn with
    | n + 1, hn =>
      rw [fX2_touchesNight_5, he, if_neg (by omega), Int.tmod_eq_emod_of_nonneg h0, allF]
      by_cases hd : 6 ≤ x % 24
      · rw [if_pos hd, bnd_eq, wrap_eq (by omega) (by omega), X2_night5 (k := k) he h2 (by omega) (by omega) (by omega)]
        simp [hd]
      · rw [if_neg hd]
        simp [hd, b2i]
theorem X5_restedFrom {N : Nat} {A : AH} {r y : Nat} {M : MR} {L : List LG} {p : Int} (hN : 5000 ≤ N) (hLN : L.length < N) (hT : PT A r M) (hM : MRu M) (hC : CH A (gP A y 2) L) (hL : PL M p L) : fX5_restedFrom N A r y = some (restL M L) := by
  obtain ⟨q, e, h⟩ := X4_lastTrip5 (N := N) hC hLN
  unfold fX5_restedFrom fX4_lastTrip
  rw [e, obind_some]
  unfold restL
  cases hf : L.find? (fun x => lgK x == 0) with
  | none =>
    rw [hf] at h
    rw [if_pos h]
  | some x =>
    rw [hf] at h
    obtain ⟨m, hx⟩ := h
    have hx2 := hL.2.2 x (List.mem_of_find?_eq_some hf)
    have h5 := hx.2.2.2.2.2.1
    obtain ⟨m0, -, -, -, m4, -⟩ := hM
    rw [if_neg hx.ne]
    unfold fX2_touchesNight
    rw [bnd_eq, X2_night5 (k := (lgE x - lgB x).toNat) h5 (by omega) (by rw [hx.2.2.2.2.1]; omega) (by rw [hx.2.2.2.2.1]; omega) (by omega), obind_some, hx.2.2.2.2.1, h5, hT.1 0 (by decide), hT.1 4 (by decide), wrap_eq (z := lgE x + M 0 0) (by omega) (by omega)]
    show _ = some (lgE x + M 0 0 + (if nightL x then M 0 4 else 0))
    unfold nightL
    by_cases hn : (!allF (fun t => decide (6 ≤ t % 24)) (lgE x - lgB x).toNat (lgB x)) = true
    · rw [hn, if_neg (by decide), if_pos rfl, wrap_eq (by omega) (by omega)]
    · rw [Bool.not_eq_true _ |>.mp hn, if_pos (by decide), if_neg (by decide), wrap_eq (by omega) (by omega)]
theorem X9_inNight7 {N : Nat} {A : AH} {o : Nat} (ho : o < 16) (hO : MO (mvA A) o) (ht : tripM (mvA A) o) : ∀ {k n : Nat} {x : Int}, x + k = endM (mvA A) o → 0 ≤ x → k < n → fX9_isInNight_7 N A o n x = some (b2i (!allF (fun t => decide (6 ≤ t % 24)) k x))
  | 0, n, x, h, h0, hn => by
    match n, hn with
    | n + 1, _ =>
      rw [fX9_isInNight_7, X9_end ho hO ht, obind_some, if_pos (by omega)]
      rfl
  | k + 1, n, x, h, h0, hn => by
    have o1 := hO.1
    have o7 := hO.2.2.2.2.2.2 ht
    have he : endM (mvA A) o ≤ 906 := by unfold endM; omega
    match n, hn with
    | n + 1, hn =>
      rw [fX9_isInNight_7, X9_end ho hO ht, obind_some, if_neg (by omega), allF]
      unfold fX9_isNight
      rw [Int.tmod_eq_emod_of_nonneg h0]
      by_cases hd : 6 ≤ x % 24
      · rw [if_pos hd, obind_some, if_pos rfl, bnd_eq, wrap_eq (by omega) (by omega), X9_inNight7 (k := k) ho hO ht (by omega) (by omega) (by omega)]
        simp [hd]
      · rw [if_neg hd, obind_some, if_neg (by decide)]
        simp [hd, b2i]
theorem X9_inNight {N : Nat} {A : AH} {o : Nat} (hN : 10 ≤ N) (ho : o < 16) (hO : MO (mvA A) o) (ht : tripM (mvA A) o) : fX9_isInNight N A o = some (b2i (nightL (legT (mvA A) o))) := by
  have o1 := hO.1
  have o7 := hO.2.2.2.2.2.2 ht
  unfold fX9_isInNight
  rw [ck16 ho, bnd_eq, show gI A 359 (o : Int).toNat = mvA A 9 o from rfl, X9_inNight7 (k := (endM (mvA A) o - mvA A 9 o).toNat) ho hO ht (by unfold endM; omega) (by omega) (by unfold endM; omega)]
  rfl
/-- the trip that begins last of a row of orders -/
def lateT (M : MR) (c : Int) (o : Nat) : Int := if c < 0 then o else if M 9 o ≤ M 9 c.toNat then c else o
def restO (M : MR) (c : Int) : Int := if 0 ≤ c then endM M c.toNat + M 0 0 + (if nightL (legT M c.toNat) then M 0 4 else 0) else 0
theorem X9_rested4 {N : Nat} {A : AH} {p : Int} (hN : 10 ≤ N) (hR : MRu (mvA A)) (hC : MC (mvA A)) (hO : ∀ o : Nat, (o : Int) < mvA A 18 3 → MO (mvA A) o) : ∀ {k n a : Nat} {c : Int}, (a : Int) + k = mvA A 18 3 → (0 ≤ c → c < 16 ∧ c < mvA A 18 3 ∧ tripM (mvA A) c.toNat) → k < n → fX9_restedFrom_4 N A p n c a = some (restO (mvA A) ((selF (fun o => tofM (mvA A) o p) k a).foldl (lateT (mvA A)) c))
  | 0, n, a, c, h, hc, hn => by
    match n, hn with
    | n + 1, _ =>
      rw [fX9_restedFrom_4, show gI A 349 22 = mvA A 18 3 from rfl, if_pos (by omega)]
      show _ = some (restO (mvA A) c)
      unfold restO
      by_cases h0 : 0 ≤ c
      · have hc := hc h0
        have e : c = (c.toNat : Int) := by omega
        have hMo := hO c.toNat (by omega)
        have o1 := hMo.1
        have o7 := hMo.2.2.2.2.2.2 hc.2.2
        obtain ⟨m0, -, -, -, m4, -⟩ := hR
        have he : endM (mvA A) c.toNat ≤ 906 := by unfold endM; omega
        have he0 : 0 ≤ endM (mvA A) c.toNat := by unfold endM; omega
        rw [if_pos h0, if_pos h0, e, X9_end (by omega) hMo hc.2.2, obind_some, X9_inNight hN (by omega) hMo hc.2.2, obind_some, Int.toNat_natCast, show gI A 350 0 = mvA A 0 0 from rfl, show gI A 350 4 = mvA A 0 4 from rfl, wrap_eq (z := endM (mvA A) c.toNat + mvA A 0 0) (by omega) (by omega)]
        by_cases hn : nightL (legT (mvA A) c.toNat) = true
        · rw [hn, if_neg (by decide), if_pos rfl, wrap_eq (by omega) (by omega)]
        · rw [Bool.not_eq_true _ |>.mp hn, if_pos (by decide), if_neg (by decide), wrap_eq (by omega) (by omega)]
      · rw [if_neg h0, if_neg h0]
  | k + 1, n, a, c, h, hc, hn => by
    have c4 := hC.2.2.2.1
    match n, hn with
    | n + 1, hn =>
      have ho : a < 16 := by omega
      have ea : wrap ((a : Int) + 1) = ((a + 1 : Nat) : Int) := wrap_eq (by omega) (by omega)
      rw [fX9_restedFrom_4, show gI A 349 22 = mvA A 18 3 from rfl, if_neg (by omega), X9_isTripOf ho, obind_some, selF]
      by_cases hh : tofM (mvA A) a p = true
      · have ht : tripM (mvA A) a := by
          unfold tofM at hh
          simp at hh
          exact hh.1
        rw [hh, if_neg (by decide), if_pos rfl, List.foldl_cons]
        have hca : 0 ≤ (a : Int) → (a : Int) < 16 ∧ (a : Int) < mvA A 18 3 ∧ tripM (mvA A) (a : Int).toNat := fun _ => ⟨by omega, by omega, ht⟩
        by_cases h0 : c < 0
        · rw [if_pos h0, bnd_eq, ea, X9_rested4 (k := k) hN hR hC hO (by omega) hca (by omega)]
          unfold lateT
          rw [if_pos h0]
        · have hc2 := hc (by omega)
          rw [if_neg h0, ck16 ho, chk_pos _ (by omega), show gI A 359 (a : Int).toNat = mvA A 9 a from rfl, show gI A 359 c.toNat = mvA A 9 c.toNat from rfl]
          have el : lateT (mvA A) c a = if mvA A 9 a ≤ mvA A 9 c.toNat then c else (a : Int) := by
            unfold lateT
            rw [if_neg h0]
          rw [el]
          by_cases hb : mvA A 9 a ≤ mvA A 9 c.toNat
          · rw [if_pos hb, if_pos hb, bnd_eq, ea, X9_rested4 (k := k) hN hR hC hO (by omega) hc (by omega)]
          · rw [if_neg hb, if_neg hb, bnd_eq, ea, X9_rested4 (k := k) hN hR hC hO (by omega) hca (by omega)]
      · rw [if_neg hh, Bool.not_eq_true _ |>.mp hh, if_pos (by decide), bnd_eq, ea, X9_rested4 (k := k) hN hR hC hO (by omega) hc (by omega)]
