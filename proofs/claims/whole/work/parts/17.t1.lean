/-! bits of ints that are not negative; sums; runs packed -/
theorem i32_nI (n : Nat) : Int32.ofInt (n : Int) = nI n := Int32.ofInt_eq_ofNat
theorem s_l32 : ∀ n, n < 32 → ((nI n &&& 31).toBitVec.smod 32).toNat = n := by decide +kernel
theorem iShr_nat {n k : Nat} (h : n < 2147483648) (hk : k < 32) : iShr (n : Int) (k : Int) = ((n / 2 ^ k : Nat) : Int) := by
  unfold iShr
  rw [i32_nI, i32_nI, pk_shrN h _ k (s_l32 k hk), nI_toInt (Nat.lt_of_le_of_lt (Nat.div_le_self _ _) h)]
theorem iShl_nat {n k : Nat} (h : n * 2 ^ k < 2147483648) (hk : k < 32) : iShl (n : Int) (k : Int) = ((n * 2 ^ k : Nat) : Int) := by
  unfold iShl
  rw [i32_nI, i32_nI, pk_shlN _ k (s_l32 k hk) (Nat.lt_trans h (by decide)), nI_toInt h]
theorem iAnd_nat {n k : Nat} (h : n < 2147483648) (m : Nat) (hm : (nI m).toBitVec.toNat = 2 ^ k - 1) : iAnd (n : Int) (m : Int) = ((n % 2 ^ k : Nat) : Int) := by
  unfold iAnd
  rw [i32_nI, i32_nI, pk_andN (Nat.lt_trans h (by decide)) k hm, nI_toInt (Nat.lt_of_le_of_lt (Nat.mod_le _ _) h)]
theorem iAnd_1023 {n : Nat} (h : n < 2147483648) : iAnd (n : Int) 1023 = ((n % 1024 : Nat) : Int) := iAnd_nat (k := 10) h 1023 (by decide)
theorem iAnd_7 {n : Nat} (h : n < 2147483648) : iAnd (n : Int) 7 = ((n % 8 : Nat) : Int) := iAnd_nat (k := 3) h 7 (by decide)
theorem iAnd_1 {n : Nat} (h : n < 2147483648) : iAnd (n : Int) 1 = ((n % 2 : Nat) : Int) := iAnd_nat (k := 1) h 1 (by decide)
theorem iAnd_63 {n : Nat} (h : n < 2147483648) : iAnd (n : Int) 63 = ((n % 64 : Nat) : Int) := iAnd_nat (k := 6) h 63 (by decide)
theorem iOr_nat {a b k : Nat} (hb : b < 2 ^ k) (h : b + a * 2 ^ k < 2147483648) : iOr (b : Int) ((a * 2 ^ k : Nat) : Int) = ((b + a * 2 ^ k : Nat) : Int) := by
  unfold iOr
  have e : nI b ||| nI (a * 2 ^ k) = nI (b + a * 2 ^ k) := by
    apply Int32.toBitVec_inj.mp
    apply BitVec.eq_of_toNat_eq
    rw [Int32.toBitVec_or, BitVec.toNat_or, pk_tn (by omega), pk_tn (by omega), pk_tn (by omega), Nat.or_comm, Nat.mul_comm a, ← Nat.two_pow_add_eq_or_of_lt hb, Nat.add_comm]
  rw [i32_nI, i32_nI, e, nI_toInt h]
def pkN (h len set to b : Nat) : Nat := h + len * 1024 + set * 8192 + to * 524288 + b * 1048576
def pkM (h len set to b : Int) : Int := iOr (iOr (iOr (iOr h (iShl len 10)) (iShl set 13)) (iShl to 19)) (iShl b 20)
theorem pkM_nat {h len set to b : Nat} (h1 : h < 1024) (h2 : len < 8) (h3 : set < 64) (h4 : to < 2) (h5 : b < 3) : pkM h len set to b = (pkN h len set to b : Int) := by
  unfold pkM pkN
  have e1 : iShl (len : Int) 10 = ((len * 2 ^ 10 : Nat) : Int) := iShl_nat (k := 10) (by omega) (by decide)
  have e2 : iShl (set : Int) 13 = ((set * 2 ^ 13 : Nat) : Int) := iShl_nat (k := 13) (by omega) (by decide)
  have e3 : iShl (to : Int) 19 = ((to * 2 ^ 19 : Nat) : Int) := iShl_nat (k := 19) (by omega) (by decide)
  have e4 : iShl (b : Int) 20 = ((b * 2 ^ 20 : Nat) : Int) := iShl_nat (k := 20) (by omega) (by decide)
  rw [e1, e2, e3, e4, iOr_nat (by omega) (by omega), iOr_nat (by omega) (by omega), iOr_nat (by omega) (by omega), iOr_nat (by omega) (by omega)]
def bitF (set : Int) (p : Nat) : Bool := decide (iAnd (iShr set (p : Int)) 1 = 1)
theorem bit_nat {set p : Nat} (h : set < 2147483648) (hp : p < 32) : iAnd (iShr (set : Int) (p : Int)) 1 = ((set / 2 ^ p % 2 : Nat) : Int) := by
  rw [iShr_nat h hp, iAnd_1 (Nat.lt_of_le_of_lt (Nat.div_le_self _ _) h)]
theorem bitF_nat {set p : Nat} (h : set < 2147483648) (hp : p < 32) : bitF (set : Int) p = decide (set / 2 ^ p % 2 = 1) := by
  unfold bitF
  rw [bit_nat h hp]
  exact decide_eq_decide.mpr (by omega)
theorem pkN_lt {h len set to b : Nat} (h1 : h < 1024) (h2 : len < 8) (h3 : set < 64) (h4 : to < 2) (h5 : b < 3) : pkN h len set to b < 2147483648 := by
  unfold pkN
  omega
theorem hourR_pk {h len set to b : Nat} (h1 : h < 1024) (h2 : len < 8) (h3 : set < 64) (h4 : to < 2) (h5 : b < 3) : hourR (pkM h len set to b) = h := by
  unfold hourR
  rw [pkM_nat h1 h2 h3 h4 h5, iAnd_1023 (pkN_lt h1 h2 h3 h4 h5)]
  unfold pkN
  omega
theorem endR_pk {h len set to b : Nat} (h1 : h < 1024) (h2 : len < 8) (h3 : set < 64) (h4 : to < 2) (h5 : b < 3) : endR (pkM h len set to b) = h + len := by
  unfold endR
  have e : iShr (pkN h len set to b : Int) 10 = _ := iShr_nat (k := 10) (pkN_lt h1 h2 h3 h4 h5) (by decide)
  rw [pkM_nat h1 h2 h3 h4 h5, iAnd_1023 (pkN_lt h1 h2 h3 h4 h5), e, iAnd_7 (Nat.lt_of_le_of_lt (Nat.div_le_self _ _) (pkN_lt h1 h2 h3 h4 h5))]
  unfold pkN
  rw [wrap_eq (by omega) (by omega)]
  omega
theorem toR_pk {h len set to b : Nat} (h1 : h < 1024) (h2 : len < 8) (h3 : set < 64) (h4 : to < 2) (h5 : b < 3) : toR (pkM h len set to b) = to := by
  unfold toR
  have e : iShr (pkN h len set to b : Int) 19 = _ := iShr_nat (k := 19) (pkN_lt h1 h2 h3 h4 h5) (by decide)
  rw [pkM_nat h1 h2 h3 h4 h5, e, iAnd_1 (Nat.lt_of_le_of_lt (Nat.div_le_self _ _) (pkN_lt h1 h2 h3 h4 h5))]
  unfold pkN
  omega
theorem boatR_pk {h len set to b : Nat} (h1 : h < 1024) (h2 : len < 8) (h3 : set < 64) (h4 : to < 2) (h5 : b < 3) : boatR (pkM h len set to b) = b := by
  unfold boatR
  have e : iShr (pkN h len set to b : Int) 20 = _ := iShr_nat (k := 20) (pkN_lt h1 h2 h3 h4 h5) (by decide)
  rw [pkM_nat h1 h2 h3 h4 h5, e]
  unfold pkN
  omega
theorem setR_pk {h len set to b : Nat} (h1 : h < 1024) (h2 : len < 8) (h3 : set < 64) (h4 : to < 2) (h5 : b < 3) : iAnd (iShr (pkM h len set to b) 13) 63 = set := by
  have e : iShr (pkN h len set to b : Int) 13 = _ := iShr_nat (k := 13) (pkN_lt h1 h2 h3 h4 h5) (by decide)
  rw [pkM_nat h1 h2 h3 h4 h5, e, iAnd_63 (Nat.lt_of_le_of_lt (Nat.div_le_self _ _) (pkN_lt h1 h2 h3 h4 h5))]
  unfold pkN
  omega
theorem hasR_pk {h len set to b p : Nat} (h1 : h < 1024) (h2 : len < 8) (h3 : set < 64) (h4 : to < 2) (h5 : b < 3) (hp : p < 6) : hasR (pkM h len set to b) p = bitF set p := by
  unfold hasR
  have e : iShr (pkN h len set to b : Int) ((13 + p : Nat) : Int) = _ := iShr_nat (k := 13 + p) (pkN_lt h1 h2 h3 h4 h5) (by omega)
  have e0 : wrap (13 + (p : Int)) = ((13 + p : Nat) : Int) := wrap_eq (by omega) (by omega)
  rw [pkM_nat h1 h2 h3 h4 h5, e0, e, iAnd_1 (Nat.lt_of_le_of_lt (Nat.div_le_self _ _) (pkN_lt h1 h2 h3 h4 h5)), bitF_nat (by omega) (by omega)]
  refine decide_eq_decide.mpr ?_
  unfold pkN
  clear e e0
  obtain rfl | rfl | rfl | rfl | rfl | rfl : p = 0 ∨ p = 1 ∨ p = 2 ∨ p = 3 ∨ p = 4 ∨ p = 5 := by omega
  all_goals
    simp only [Nat.reduceAdd, Nat.reducePow]
    omega
/-- sums over k places from a on -/
def sumN (g : Nat → Int) : Nat → Nat → Int
  | 0, _ => 0
  | k + 1, a => g a + sumN g k (a + 1)
theorem sumN_congr {g f : Nat → Int} : ∀ {k a : Nat}, (∀ i, a ≤ i → i < a + k → g i = f i) → sumN g k a = sumN f k a
  | 0, a, _ => rfl
  | k + 1, a, h => by
    rw [sumN, sumN, h a (by omega) (by omega), sumN_congr (fun i h1 h2 => h i (by omega) (by omega))]
theorem sumN_succ (g : Nat → Int) : ∀ (k a : Nat), sumN g (k + 1) a = sumN g k a + g (a + k)
  | 0, a => by simp [sumN]
  | k + 1, a => by
    rw [sumN, sumN_succ g k (a + 1), sumN, show a + 1 + k = a + (k + 1) by omega]
    omega
theorem sumN_add (g f : Nat → Int) : ∀ (k a : Nat), sumN (fun i => g i + f i) k a = sumN g k a + sumN f k a
  | 0, a => rfl
  | k + 1, a => by
    rw [sumN, sumN, sumN, sumN_add g f k (a + 1)]
    omega
theorem sumN_zero : ∀ (k a : Nat), sumN (fun _ => 0) k a = 0
  | 0, a => rfl
  | k + 1, a => by rw [sumN, sumN_zero k (a + 1)]; rfl
theorem sumN_z {g : Nat → Int} {k a : Nat} (h : ∀ i, a ≤ i → i < a + k → g i = 0) : sumN g k a = 0 := by
  rw [sumN_congr h, sumN_zero]
theorem sumN_swap (g : Nat → Nat → Int) (m b : Nat) : ∀ (k a : Nat), sumN (fun i => sumN (fun j => g i j) m b) k a = sumN (fun j => sumN (fun i => g i j) k a) m b
  | 0, a => by simp only [sumN]; rw [sumN_zero]
  | k + 1, a => by
    simp only [sumN]
    rw [sumN_swap g m b k (a + 1), sumN_add]
theorem sumN_nn {g : Nat → Int} {c : Int} : ∀ {k a : Nat}, (∀ i, a ≤ i → i < a + k → 0 ≤ g i ∧ g i ≤ c) → 0 ≤ sumN g k a ∧ sumN g k a ≤ c * k
  | 0, a, _ => by simp [sumN]
  | k + 1, a, h => by
    have h1 := h a (by omega) (by omega)
    have h2 := sumN_nn (k := k) (a := a + 1) (fun i h3 h4 => h i (by omega) (by omega))
    rw [sumN, show ((k + 1 : Nat) : Int) = (k : Int) + 1 by omega, Int.mul_add]
    omega
/-- one place among others -/
theorem sumN_one {c : Int} {x : Nat} : ∀ {k a : Nat}, a ≤ x → x < a + k → sumN (fun i => if i = x then c else 0) k a = c
  | 0, a, h1, h2 => by omega
  | k + 1, a, h1, h2 => by
    rw [sumN]
    by_cases e : a = x
    · rw [if_pos e, sumN_z (fun i h3 h4 => if_neg (by omega))]
      omega
    · rw [if_neg e, sumN_one (k := k) (a := a + 1) (by omega) (by omega)]
      omega
theorem wrap_wadd (x y : Int) : wrap (wrap x + y) = wrap (x + y) := by unfold wrap; omega
theorem wrap_addw (x y : Int) : wrap (x + wrap y) = wrap (x + y) := by unfold wrap; omega
def anyN (f : Nat → Bool) : Nat → Nat → Bool
  | 0, _ => false
  | k + 1, a => f a || anyN f k (a + 1)
theorem anyN_iff {f : Nat → Bool} : ∀ {k a : Nat}, anyN f k a = true ↔ ∃ i, (a ≤ i ∧ i < a + k) ∧ f i = true
  | 0, a => by simp [anyN]; intro i h1 h2; omega
  | k + 1, a => by
    rw [anyN, Bool.or_eq_true, anyN_iff]
    constructor
    · rintro (h | ⟨i, h1, h2⟩)
      · exact ⟨a, by omega, h⟩
      · exact ⟨i, by omega, h2⟩
    · rintro ⟨i, h1, h2⟩
      by_cases e : i = a
      · exact Or.inl (e ▸ h2)
      · exact Or.inr ⟨i, by omega, h2⟩
/-! how many bits -/
def bitsM (x : Int) : Int := sumN (fun i => iAnd (iShr x (i : Int)) 1) 6 0
theorem iAnd1_01 (x : Int) : iAnd x 1 = 0 ∨ iAnd x 1 = 1 := by
  unfold iAnd
  obtain ⟨j, h1, h2⟩ := pk_andE (Int32.ofInt x) (m := Int32.ofInt 1) 1 (by decide)
  rw [h2, nI_toInt (by omega)]
  omega
theorem bitsM_rng (x : Int) : 0 ≤ bitsM x ∧ bitsM x ≤ 6 := by
  have h := sumN_nn (g := fun i => iAnd (iShr x (i : Int)) 1) (c := 1) (k := 6) (a := 0) (fun i _ _ => by
    rcases iAnd1_01 (iShr x (i : Int)) with h | h <;> simp only [h] <;> decide)
  unfold bitsM
  omega
theorem X9_bits4 {N : Nat} {A : AH} {x : Int} : ∀ {k n a : Nat} {acc : Int}, a + k = 6 → k < n → inR acc → fX9_bits_4 N A x n acc a = some (wrap (acc + sumN (fun i => iAnd (iShr x (i : Int)) 1) k a))
  | 0, n, a, acc, h, hn, hr => by
    match n, hn with
    | n + 1, _ =>
      rw [fX9_bits_4, if_pos (by omega), sumN, Int.add_zero, wrap_of hr]
  | k + 1, n, a, acc, h, hn, hr => by
    match n, hn with
    | n + 1, hn =>
      have ea : wrap ((a : Int) + 1) = ((a + 1 : Nat) : Int) := wrap_eq (by omega) (by omega)
      rw [fX9_bits_4, if_neg (by omega)]
      simp only [bnd_eq]
      rw [ea, X9_bits4 (k := k) (by omega) (by omega) (wrap_inR _), wrap_wadd, sumN, Int.add_assoc]
theorem X9_bits {N : Nat} {A : AH} {x : Int} (hN : 10 ≤ N) : fX9_bits N A x = some (bitsM x) := by
  have e := X9_bits4 (N := N) (A := A) (x := x) (k := 6) (n := N) (a := 0) (acc := 0) rfl (by omega) inR_0
  have h := bitsM_rng x
  unfold fX9_bits
  unfold bitsM at h ⊢
  refine e.trans ?_
  rw [Int.zero_add, wrap_eq (by omega) (by omega)]
def bitC (x : Int) : Option Int := fJ6_bitCount_0f7a4 0 ((0, 0), (fun _ _ => 0), (fun _ _ => 0), (fun _ => 0), 0) x
theorem bitC_all : ∀ x : Nat, x < 64 → bitC (x : Int) = some (bitsM (x : Int)) := by decide +kernel
theorem J6_bitCount {N : Nat} {A : AH} {x : Nat} (h : x < 64) : fJ6_bitCount_0f7a4 N A x = some (bitsM x) := bitC_all x h
theorem one_bits : ∀ p : Nat, p < 6 → bitsM (iShl 1 (p : Int)) = 1 ∧ iShl 1 (p : Int) = ((2 ^ p : Nat) : Int) := by decide +kernel
theorem one_bitF : ∀ p : Nat, p < 6 → ∀ q : Nat, q < 6 → bitF (iShl 1 (p : Int)) q = decide (q = p) := by decide +kernel
