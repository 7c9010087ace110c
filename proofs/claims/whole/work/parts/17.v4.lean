/-! quotients of ints are numbers -/
section FPS

theorem t64 : FP.Core.b64.tails = 4503599627370496 := by decide
theorem e64 : FP.Core.b64.exps = 2048 := by decide
theorem qm64 : FP.Core.b64.qmin = -1074 := by decide
theorem qM64 : FP.Core.b64.qmax = 971 := by decide
def GD64 (d : FP.Core.Datum) : Prop := (∃ s c q, d = .fin s c q ∧ c < 9007199254740992 ∧ -1074 ≤ q ∧ q ≤ 971) ∨ ∃ s, d = .inf s
theorem rr64 (s : Bool) (num den : Nat) (e : Int) : GD64 (FP.Core.roundRatio FP.Core.b64 s num den e) := by
  unfold FP.Core.roundRatio
  split
  · rw [qm64]
    exact Or.inl ⟨s, 0, -1074, rfl, by decide, by decide, by decide⟩
  · unfold FP.Core.roundAt FP.Core.settle FP.Core.bound
    have hq : -1074 ≤ FP.Core.quantum FP.Core.b64 num den e := by
      unfold FP.Core.quantum
      rw [qm64]
      exact Int.le_max_left _ _
    generalize FP.Core.quantum FP.Core.b64 num den e = q at hq ⊢
    generalize FP.Core.nearest _ _ = c
    rw [show (2 : Nat) ^ FP.Core.b64.p = 9007199254740992 by decide, qM64, t64]
    split
    · split
      · rename_i h1 h2
        exact Or.inl ⟨s, c, q, rfl, h1, hq, h2⟩
      · exact Or.inr ⟨s, rfl⟩
    · split
      · rename_i h1 h2
        exact Or.inl ⟨s, 4503599627370496, q + 1, rfl, by decide, by omega, h2⟩
      · exact Or.inr ⟨s, rfl⟩
theorem asm64 (s : Bool) {e t : Nat} (he : e ≤ 2047) (ht : t < 4503599627370496) : FP.Core.assemble FP.Core.b64 s e t < 18446744073709551616 ∧ FP.Core.assemble FP.Core.b64 s e t % 9223372036854775808 = e * 4503599627370496 + t ∧ FP.Core.fieldE FP.Core.b64 (FP.Core.assemble FP.Core.b64 s e t) = e ∧ FP.Core.fieldT FP.Core.b64 (FP.Core.assemble FP.Core.b64 s e t) = t := by
  unfold FP.Core.assemble FP.Core.fieldE FP.Core.fieldT
  rw [t64, e64]
  cases s
  · show (0 * 2048 + e) * 4503599627370496 + t < 18446744073709551616 ∧ ((0 * 2048 + e) * 4503599627370496 + t) % 9223372036854775808 = e * 4503599627370496 + t ∧ ((0 * 2048 + e) * 4503599627370496 + t) / 4503599627370496 % 2048 = e ∧ ((0 * 2048 + e) * 4503599627370496 + t) % 4503599627370496 = t
    omega
  · show (1 * 2048 + e) * 4503599627370496 + t < 18446744073709551616 ∧ ((1 * 2048 + e) * 4503599627370496 + t) % 9223372036854775808 = e * 4503599627370496 + t ∧ ((1 * 2048 + e) * 4503599627370496 + t) / 4503599627370496 % 2048 = e ∧ ((1 * 2048 + e) * 4503599627370496 + t) % 4503599627370496 = t
    omega
theorem enc64 {d : FP.Core.Datum} (h : GD64 d) : FP.Core.encode FP.Core.b64 d < 18446744073709551616 ∧ FP.Core.encode FP.Core.b64 d % 9223372036854775808 ≤ 9218868437227405312 ∧ FP.Core.decode FP.Core.b64 (FP.Core.encode FP.Core.b64 d) ≠ .nan := by
  have key : ∀ (s : Bool) (e t : Nat), e ≤ 2046 → t < 4503599627370496 → FP.Core.assemble FP.Core.b64 s e t < 18446744073709551616 ∧ FP.Core.assemble FP.Core.b64 s e t % 9223372036854775808 ≤ 9218868437227405312 ∧ FP.Core.decode FP.Core.b64 (FP.Core.assemble FP.Core.b64 s e t) ≠ .nan := fun s e t he ht => by
    obtain ⟨a1, a2, a3, a4⟩ := asm64 s (e := e) (t := t) (by omega) ht
    refine ⟨a1, by rw [a2]; omega, ?_⟩
    unfold FP.Core.decode
    rw [a3, a4, e64, if_neg (by omega)]
    split <;> exact fun z => by cases z
  rcases h with ⟨s, c, q, rfl, hc, h1, h2⟩ | ⟨s, rfl⟩
  · have ee : FP.Core.encode FP.Core.b64 (.fin s c q) = if c < FP.Core.b64.tails then FP.Core.assemble FP.Core.b64 s 0 c else FP.Core.assemble FP.Core.b64 s ((q - FP.Core.b64.qmin).toNat + 1) (c - FP.Core.b64.tails) := rfl
    rw [ee, t64, qm64]
    by_cases h3 : c < 4503599627370496
    · rw [if_pos h3]
      exact key s 0 c (by decide) h3
    · rw [if_neg h3]
      exact key s _ _ (by omega) (by omega)
  · have ee : FP.Core.encode FP.Core.b64 (.inf s) = FP.Core.assemble FP.Core.b64 s (FP.Core.b64.exps - 1) 0 := rfl
    rw [ee, e64]
    obtain ⟨a1, a2, a3, a4⟩ := asm64 s (e := 2047) (t := 0) (by decide) (by decide)
    refine ⟨a1, by rw [a2]; decide, ?_⟩
    unfold FP.Core.decode
    rw [e64]
    have a3' : FP.Core.fieldE FP.Core.b64 (FP.Core.assemble FP.Core.b64 s (2048 - 1) 0) = 2048 - 1 := a3
    have a4' : FP.Core.fieldT FP.Core.b64 (FP.Core.assemble FP.Core.b64 s (2048 - 1) 0) = 0 := a4
    rw [if_pos a3', if_pos a4']
    exact fun z => by cases z
theorem rnd64 {d : FP.Core.Datum} (h : d ≠ .nan) : GD64 (FP.Core.round FP.Core.b64 d) := by
  cases d with
  | nan => exact absurd rfl h
  | inf s => exact Or.inr ⟨s, rfl⟩
  | fin s c q => exact rr64 s c 1 q
theorem quo64 {a : FP.Core.Datum} (h : a ≠ .nan) {t : Bool} {d : Nat} {r : Int} (hd : d ≠ 0) : GD64 (FP.Core.quotient FP.Core.b64 a (.fin t d r)) := by
  cases a with
  | nan => exact absurd rfl h
  | inf s => exact Or.inr ⟨_, rfl⟩
  | fin s c q =>
    show GD64 (if d = 0 then _ else FP.Core.roundRatio FP.Core.b64 (s != t) c d (q - r))
    rw [if_neg hd]
    exact rr64 _ _ _ _
theorem nat64 {n : Nat} (h : n < 18446744073709551616) : (UInt64.ofNat n).toNat = n := by
  rw [UInt64.toNat_ofNat']
  exact Nat.mod_eq_of_lt h
theorem msk64 {n : Nat} (h : n < 18446744073709551616) (h2 : n % 9223372036854775808 ≤ 9218868437227405312) : UInt64.ofNat n &&& 0x7fffffffffffffff ≤ 0x7ff0000000000000 := by
  rw [UInt64.le_iff_toNat_le, UInt64.toNat_and, nat64 h, show (0x7fffffffffffffff : UInt64).toNat = 2 ^ 63 - 1 from rfl, Nat.and_two_pow_sub_one_eq_mod]
  exact h2
theorem ofI64 (i : Int) : FP.Core.decode FP.Core.b64 (FP.Core.fromInt FP.Core.b64 i) ≠ .nan := (enc64 (rnd64 (d := FP.Core.ofInt i) (fun z => by cases z))).2.2
theorem ofIl64 (i : Int) : FP.Core.fromInt FP.Core.b64 i < 18446744073709551616 := (enc64 (rnd64 (d := FP.Core.ofInt i) (fun z => by cases z))).1

theorem t32 : FP.Core.b32.tails = 8388608 := by decide
theorem e32 : FP.Core.b32.exps = 256 := by decide
theorem qm32 : FP.Core.b32.qmin = -149 := by decide
theorem qM32 : FP.Core.b32.qmax = 104 := by decide
def GD32 (d : FP.Core.Datum) : Prop := (∃ s c q, d = .fin s c q ∧ c < 16777216 ∧ -149 ≤ q ∧ q ≤ 104) ∨ ∃ s, d = .inf s
theorem rr32 (s : Bool) (num den : Nat) (e : Int) : GD32 (FP.Core.roundRatio FP.Core.b32 s num den e) := by
  unfold FP.Core.roundRatio
  split
  · rw [qm32]
    exact Or.inl ⟨s, 0, -149, rfl, by decide, by decide, by decide⟩
  · unfold FP.Core.roundAt FP.Core.settle FP.Core.bound
    have hq : -149 ≤ FP.Core.quantum FP.Core.b32 num den e := by
      unfold FP.Core.quantum
      rw [qm32]
      exact Int.le_max_left _ _
    generalize FP.Core.quantum FP.Core.b32 num den e = q at hq ⊢
    generalize FP.Core.nearest _ _ = c
    rw [show (2 : Nat) ^ FP.Core.b32.p = 16777216 by decide, qM32, t32]
    split
    · split
      · rename_i h1 h2
        exact Or.inl ⟨s, c, q, rfl, h1, hq, h2⟩
      · exact Or.inr ⟨s, rfl⟩
    · split
      · rename_i h1 h2
        exact Or.inl ⟨s, 8388608, q + 1, rfl, by decide, by omega, h2⟩
      · exact Or.inr ⟨s, rfl⟩
theorem asm32 (s : Bool) {e t : Nat} (he : e ≤ 255) (ht : t < 8388608) : FP.Core.assemble FP.Core.b32 s e t < 4294967296 ∧ FP.Core.assemble FP.Core.b32 s e t % 2147483648 = e * 8388608 + t ∧ FP.Core.fieldE FP.Core.b32 (FP.Core.assemble FP.Core.b32 s e t) = e ∧ FP.Core.fieldT FP.Core.b32 (FP.Core.assemble FP.Core.b32 s e t) = t := by
  unfold FP.Core.assemble FP.Core.fieldE FP.Core.fieldT
  rw [t32, e32]
  cases s
  · show (0 * 256 + e) * 8388608 + t < 4294967296 ∧ ((0 * 256 + e) * 8388608 + t) % 2147483648 = e * 8388608 + t ∧ ((0 * 256 + e) * 8388608 + t) / 8388608 % 256 = e ∧ ((0 * 256 + e) * 8388608 + t) % 8388608 = t
    omega
  · show (1 * 256 + e) * 8388608 + t < 4294967296 ∧ ((1 * 256 + e) * 8388608 + t) % 2147483648 = e * 8388608 + t ∧ ((1 * 256 + e) * 8388608 + t) / 8388608 % 256 = e ∧ ((1 * 256 + e) * 8388608 + t) % 8388608 = t
    omega
theorem enc32 {d : FP.Core.Datum} (h : GD32 d) : FP.Core.encode FP.Core.b32 d < 4294967296 ∧ FP.Core.encode FP.Core.b32 d % 2147483648 ≤ 2139095040 ∧ FP.Core.decode FP.Core.b32 (FP.Core.encode FP.Core.b32 d) ≠ .nan := by
  have key : ∀ (s : Bool) (e t : Nat), e ≤ 254 → t < 8388608 → FP.Core.assemble FP.Core.b32 s e t < 4294967296 ∧ FP.Core.assemble FP.Core.b32 s e t % 2147483648 ≤ 2139095040 ∧ FP.Core.decode FP.Core.b32 (FP.Core.assemble FP.Core.b32 s e t) ≠ .nan := fun s e t he ht => by
    obtain ⟨a1, a2, a3, a4⟩ := asm32 s (e := e) (t := t) (by omega) ht
    refine ⟨a1, by rw [a2]; omega, ?_⟩
    unfold FP.Core.decode
    rw [a3, a4, e32, if_neg (by omega)]
    split <;> exact fun z => by cases z
  rcases h with ⟨s, c, q, rfl, hc, h1, h2⟩ | ⟨s, rfl⟩
  · have ee : FP.Core.encode FP.Core.b32 (.fin s c q) = if c < FP.Core.b32.tails then FP.Core.assemble FP.Core.b32 s 0 c else FP.Core.assemble FP.Core.b32 s ((q - FP.Core.b32.qmin).toNat + 1) (c - FP.Core.b32.tails) := rfl
    rw [ee, t32, qm32]
    by_cases h3 : c < 8388608
    · rw [if_pos h3]
      exact key s 0 c (by decide) h3
    · rw [if_neg h3]
      exact key s _ _ (by omega) (by omega)
  · have ee : FP.Core.encode FP.Core.b32 (.inf s) = FP.Core.assemble FP.Core.b32 s (FP.Core.b32.exps - 1) 0 := rfl
    rw [ee, e32]
    obtain ⟨a1, a2, a3, a4⟩ := asm32 s (e := 255) (t := 0) (by decide) (by decide)
    refine ⟨a1, by rw [a2]; decide, ?_⟩
    unfold FP.Core.decode
    rw [e32]
    have a3' : FP.Core.fieldE FP.Core.b32 (FP.Core.assemble FP.Core.b32 s (256 - 1) 0) = 256 - 1 := a3
    have a4' : FP.Core.fieldT FP.Core.b32 (FP.Core.assemble FP.Core.b32 s (256 - 1) 0) = 0 := a4
    rw [if_pos a3', if_pos a4']
    exact fun z => by cases z
theorem rnd32 {d : FP.Core.Datum} (h : d ≠ .nan) : GD32 (FP.Core.round FP.Core.b32 d) := by
  cases d with
  | nan => exact absurd rfl h
  | inf s => exact Or.inr ⟨s, rfl⟩
  | fin s c q => exact rr32 s c 1 q
theorem quo32 {a : FP.Core.Datum} (h : a ≠ .nan) {t : Bool} {d : Nat} {r : Int} (hd : d ≠ 0) : GD32 (FP.Core.quotient FP.Core.b32 a (.fin t d r)) := by
  cases a with
  | nan => exact absurd rfl h
  | inf s => exact Or.inr ⟨_, rfl⟩
  | fin s c q =>
    show GD32 (if d = 0 then _ else FP.Core.roundRatio FP.Core.b32 (s != t) c d (q - r))
    rw [if_neg hd]
    exact rr32 _ _ _ _
theorem nat32 {n : Nat} (h : n < 4294967296) : (UInt32.ofNat n).toNat = n := by
  rw [UInt32.toNat_ofNat']
  exact Nat.mod_eq_of_lt h
theorem msk32 {n : Nat} (h : n < 4294967296) (h2 : n % 2147483648 ≤ 2139095040) : UInt32.ofNat n &&& 0x7fffffff ≤ 0x7f800000 := by
  rw [UInt32.le_iff_toNat_le, UInt32.toNat_and, nat32 h, show (0x7fffffff : UInt32).toNat = 2 ^ 31 - 1 from rfl, Nat.and_two_pow_sub_one_eq_mod]
  exact h2
theorem ofI32 (i : Int) : FP.Core.decode FP.Core.b32 (FP.Core.fromInt FP.Core.b32 i) ≠ .nan := (enc32 (rnd32 (d := FP.Core.ofInt i) (fun z => by cases z))).2.2
theorem ofIl32 (i : Int) : FP.Core.fromInt FP.Core.b32 i < 4294967296 := (enc32 (rnd32 (d := FP.Core.ofInt i) (fun z => by cases z))).1

def okY64 (n : Nat) : Bool := match FP.Core.decode FP.Core.b64 (FP.Core.fromInt FP.Core.b64 (n : Int)) with
  | .fin _ c _ => c != 0
  | _ => false
def okY32 (n : Nat) : Bool := match FP.Core.decode FP.Core.b32 (FP.Core.fromInt FP.Core.b32 (n : Int)) with
  | .fin _ c _ => c != 0
  | _ => false
theorem okY64_all : ∀ n, n < 20 → 1 ≤ n → okY64 n = true := by decide +kernel
theorem okY32_all : ∀ n, n < 1000 → 1 ≤ n → okY32 n = true := by decide +kernel
theorem ok64 {n : Nat} (h : okY64 n = true) : ∃ t d r, FP.Core.decode FP.Core.b64 (FP.Core.fromInt FP.Core.b64 (n : Int)) = .fin t d r ∧ d ≠ 0 := by
  unfold okY64 at h
  split at h
  · rename_i t d r e
    exact ⟨t, d, r, e, by simpa using h⟩
  · cases h
theorem ok32 {n : Nat} (h : okY32 n = true) : ∃ t d r, FP.Core.decode FP.Core.b32 (FP.Core.fromInt FP.Core.b32 (n : Int)) = .fin t d r ∧ d ≠ 0 := by
  unfold okY32 at h
  split at h
  · rename_i t d r e
    exact ⟨t, d, r, e, by simpa using h⟩
  · cases h
theorem ddiv_num {x : Int} {n : Nat} (hx : inR x) (h1 : 1 ≤ n) (h2 : n < 20) : FP.ddiv (FP.i2d (Int32.ofInt x)) (FP.i2d (Int32.ofInt (n : Int))) &&& 0x7fffffffffffffff ≤ 0x7ff0000000000000 := by
  obtain ⟨t, d, r, e, hd⟩ := ok64 (okY64_all n h2 h1)
  have hn : (Int32.ofInt (n : Int)).toInt = n := i32_toInt' ⟨by omega, by omega⟩
  have eq : FP.ddiv (FP.i2d (Int32.ofInt x)) (FP.i2d (Int32.ofInt (n : Int))) = UInt64.ofNat (FP.Core.encode FP.Core.b64 (FP.Core.quotient FP.Core.b64 (FP.Core.decode FP.Core.b64 (FP.Core.fromInt FP.Core.b64 x)) (.fin t d r))) := by
    show UInt64.ofNat (FP.Core.div FP.Core.b64 (UInt64.ofNat (FP.Core.fromInt FP.Core.b64 (Int32.ofInt x).toInt)).toNat (UInt64.ofNat (FP.Core.fromInt FP.Core.b64 (Int32.ofInt (n : Int)).toInt)).toNat) = _
    rw [hn, i32_toInt' hx, nat64 (ofIl64 _), nat64 (ofIl64 _)]
    unfold FP.Core.div
    rw [e]
  have hq := enc64 (quo64 (ofI64 x) (t := t) (r := r) hd)
  rw [eq]
  exact msk64 hq.1 hq.2.1
theorem fdiv_num {x : Int} {n : Nat} (hx : inR x) (h1 : 1 ≤ n) (h2 : n < 1000) : (FP.fdiv (FP.i2f (Int32.ofInt x)) (FP.i2f (Int32.ofInt (n : Int))) &&& 0x7fffffff ≤ 0x7f800000) ∧ FP.f2d (FP.fdiv (FP.i2f (Int32.ofInt x)) (FP.i2f (Int32.ofInt (n : Int)))) &&& 0x7fffffffffffffff ≤ 0x7ff0000000000000 := by
  obtain ⟨t, d, r, e, hd⟩ := ok32 (okY32_all n h2 h1)
  have hn : (Int32.ofInt (n : Int)).toInt = n := i32_toInt' ⟨by omega, by omega⟩
  have eq : FP.fdiv (FP.i2f (Int32.ofInt x)) (FP.i2f (Int32.ofInt (n : Int))) = UInt32.ofNat (FP.Core.encode FP.Core.b32 (FP.Core.quotient FP.Core.b32 (FP.Core.decode FP.Core.b32 (FP.Core.fromInt FP.Core.b32 x)) (.fin t d r))) := by
    show UInt32.ofNat (FP.Core.div FP.Core.b32 (UInt32.ofNat (FP.Core.fromInt FP.Core.b32 (Int32.ofInt x).toInt)).toNat (UInt32.ofNat (FP.Core.fromInt FP.Core.b32 (Int32.ofInt (n : Int)).toInt)).toNat) = _
    rw [hn, i32_toInt' hx, nat32 (ofIl32 _), nat32 (ofIl32 _)]
    unfold FP.Core.div
    rw [e]
  have hq := enc32 (quo32 (ofI32 x) (t := t) (r := r) hd)
  rw [eq]
  refine ⟨msk32 hq.1 hq.2.1, ?_⟩
  have hnn : FP.Core.decode FP.Core.b32 (UInt32.ofNat (FP.Core.encode FP.Core.b32 (FP.Core.quotient FP.Core.b32 (FP.Core.decode FP.Core.b32 (FP.Core.fromInt FP.Core.b32 x)) (.fin t d r)))).toNat ≠ .nan := by
    rw [nat32 hq.1]
    exact hq.2.2
  generalize UInt32.ofNat (FP.Core.encode FP.Core.b32 (FP.Core.quotient FP.Core.b32 (FP.Core.decode FP.Core.b32 (FP.Core.fromInt FP.Core.b32 x)) (.fin t d r))) = y at hnn ⊢
  have hf : FP.Core.fIsNaN y = false := decide_eq_false hnn
  have ef : FP.f2d y = UInt64.ofNat (FP.Core.encode FP.Core.b64 (FP.Core.round FP.Core.b64 (FP.Core.decode FP.Core.b32 y.toNat))) := by
    show (if FP.Core.fIsNaN y = true then FP.nanF2D y else FP.Core.f2d y) = _
    rw [hf, if_neg (by decide)]
    rfl
  have h6 := enc64 (rnd64 hnn)
  rw [ef]
  exact msk64 h6.1 h6.2.1
end FPS
