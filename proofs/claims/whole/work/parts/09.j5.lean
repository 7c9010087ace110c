section JC0
variable {p : Program} {l : Launch} {e : Env} {R : Room} {s : State} {m : MethodId} {args : Array Value} {below : List Frame} {meth : Method} {c : Code} {H : Heap} {locs : List Loc} {cells slots : Nat} {Q : State → Prop}
variable {pc : Nat} {ls : Array Slot} {rest : List Value} {a : Nat}
/-- System.arraycopy of n ints from the front of an array (any cell whose ints are told) to the front of an array told by its row -/
theorem jx_take {cc : ByteArray} (hexec : p.tables.exec = Jvm.exec) (hb : c.code = cc) (hml : c.maxLocals = ls.size) {own : String} {idx : Nat} (hown : s.vm.findClass own = some m.cls)
    (hw : (Cond.methodLink own idx arraycopyName).before args s = true ∧ (Cond.native arraycopyName).before args s = true ∧ (Cond.static arraycopyName).before args s = true ∧ (Cond.initialized "java/lang/System").before args s = true)
    {b na : Nat} {cB : Cell} {cA : ClassId} {f g : Nat → Int32} {u v n : Int32} (hu : u = 0) (hv : v = 0) (hn : 0 ≤ n.toInt)
    (hcb : H[b]? = some cB) (tB : s.isArrayOf cB .int) (nB : cB.vm ≠ .unknown) (zB : n.toNatClampNeg ≤ cB.slots.size) (rB : ∀ j, j < n.toNatClampNeg → cB.slots[j]? = some (.int (f j)))
    (hca : H[a]? = some (vp_cell cA (na, .inl g))) (tA : ArrOfT s cA .int) (zA : n.toNatClampNeg ≤ na)
    (hR : 1 ≤ R.frames ∧ (rest.map fun v => v.category).sum + (nativeFrameWords "java/lang/System" "arraycopy" 5 + 11) ≤ R.locals) (hdg : decode cc pc = .ok (.invokestatic idx, 3))
    (kk : ∀ (H1 : Heap) (locs1 : List Loc), H1[a]? = some (vp_cell cA (na, .inl (fun j => if j < n.toNatClampNeg then f j else g j))) → H1.size = H.size → (∀ q, q ≠ a → H1[q]? = H[q]?) → (∀ q ∈ locs1, q ∈ locs ∨ q.base = a) →
      W p l e R s m args below meth c H1 locs1 cells slots Q (F0 m (pc + 3) ls rest)) :
    W p l e R s m args below meth c H locs cells slots Q (F0 m pc ls (.int n :: .int v :: .ref a :: .int u :: .ref b :: rest)) := by
  intro T hT X
  subst hT hu hv
  have hni : n.toInt = (n.toNatClampNeg : Int) := (Int.toNat_of_nonneg hn).symm
  have z0 : ¬ (0 : Int32) < 0 := by decide
  have zn : ¬ n < 0 := fun h => absurd (Int32.lt_iff_toInt_lt.mp h) (Int.not_lt.mpr hn)
  have k0 : Int32.toNatClampNeg 0 = 0 := rfl
  have i0 : Int32.toInt 0 = 0 := rfl
  obtain ⟨oB, KB, hKB, compB, kindB⟩ := tB
  obtain ⟨oA, KA, hKA, compA, kindA⟩ := tA na (fun j => .int (g j))
  have rd : ∀ i, i < n.toNatClampNeg → cB.slots.getD (0 + i) .null = .int (f i) := fun i hi => by
    rw [Nat.zero_add, Array.getD_eq_getD_getElem?, rB i hi, Option.getD_some]
  have hcpy : copied cB (vp_cell cA (na, .inl g)) 0 0 n = vp_cell cA (na, .inl (fun j => if j < n.toNatClampNeg then f j else g j)) := by
    have h9 := va_copiedX (fun z => Value.int z) cB cA (n1 := na) (sp := 0) (dp := 0) (n := n.toNatClampNeg) f g rB (Nat.le_of_eq (Nat.zero_add _))
    have h8 : va_cpy f g 0 0 n.toNatClampNeg = fun j => if j < n.toNatClampNeg then f j else g j := funext fun j => by simp [va_cpy]
    rw [h8] at h9
    exact h9
  obtain ⟨vm', X', step⟩ := X.arraycopy hexec hown hw.1 hw.2.1 hw.2.2.1 hw.2.2.2 hcb hca oB oA nB (fun q => nomatch q) hKB hKA kindB kindA rfl z0 z0 zn
    (by rw [i0, hni]; omega) (by rw [i0, hni, vp_cell_i, arrV_size]; omega) (fun _ _ i hi => by rw [k0, rd i hi]; exact ⟨rfl, trivial⟩)
    (g := F0 m pc ls (.int n :: .int 0 :: .ref a :: .int 0 :: .ref b :: rest)) rfl hml.symm rfl (by rw [hb]; exact hdg) hR.1 (by show 2 * 0 + _ + _ ≤ _; omega)
  rw [hcpy] at X' step
  obtain ⟨t, e1, e2⟩ := kk _ _ (State.heap_setCell_self (s := T.setVm vm') hca) Array.size_setIfInBounds (fun q hq => Array.getElem?_setIfInBounds_ne (Ne.symm hq))
    (fun q hq => (List.mem_append.mp hq).elim Or.inl fun h => Or.inr ((List.mem_map.mp h).elim fun z hz => hz.2 ▸ rfl)) _ rfl X'
  exact ⟨t, step t e1, e2⟩
end JC0
/-- n ints of the cell b go into the cell a -/
def cpI (A : AH) (b a n : Nat) : AH := (A.1, (fun q j => if q = a ∧ j < n then A.2.1 b j else A.2.1 q j), A.2.2)
theorem gI_cpI (A : AH) (b a n q j : Nat) : gI (cpI A b a n) q j = if q = a ∧ j < n then gI A b j else gI A q j := rfl
theorem gP_cpI (A : AH) (b a n q j : Nat) : gP (cpI A b a n) q j = gP A q j := rfl
theorem gK_cpI (A : AH) (b a n q : Nat) : gK (cpI A b a n) q = gK A q := rfl
theorem hN_cpI (A : AH) (b a n : Nat) : hN (cpI A b a n) = hN A := rfl
theorem hSl_cpI (A : AH) (b a n : Nat) : hSl (cpI A b a n) = hSl A := rfl
theorem hDb_cpI (A : AH) (b a n : Nat) : hDb (cpI A b a n) = hDb A := rfl
theorem WFA_cpI {A : AH} (w : WFA A) (b a n : Nat) : WFA (cpI A b a n) :=
  ⟨w.1, w.2.1, fun q j => by rw [gI_cpI]; split; exact w.2.2.1 b j; exact w.2.2.1 q j, w.2.2.2⟩
def iXor (x y : Int) : Int := (Int32.ofInt x ^^^ Int32.ofInt y).toInt
theorem iXor_inR (x y : Int) : inR (iXor x y) := i32_inR _
/-- the class that a final field's word names is the one that declares it -/
theorem jfin_own {s : State} {args : Array Value} {m : MethodId} {own C O nm ds : String} {cf : ClassId} {kf : Class} {fi : Nat} {fd : Field} (hlay : (Cond.laysFinal C O nm ds).before args s = true) (hi : s.fieldFound? O nm ds = some (cf, kf, fi, fd)) (hO : O = own) (hown : s.vm.findClass own = some m.cls) : m.cls = cf := by
  subst hO
  obtain ⟨_, _, c2, _, _, _, w⟩ := Cond.laysFinal_spec hlay
  exact (Option.some.inj (hown.symm.trans w.2.2.2.2.2.2.1)).trans (congrArg Prod.fst (Option.some.inj (w.2.2.1.symm.trans hi)))
section JG5
variable {g : JG} {l : Launch} {d : Nat} {own mn : String} {cc : ByteArray} {nL : Nat} {ret : Option FieldType} {n0 s0 : Nat} {o : JO} {Z : Prop} {pc : Nat} {lv : List (Nat × Value)} {st : List Value} {A : AH}
theorem j_copyi {idx a b K K0 : Nat} {n : Int} (L : MLK own idx arraycopyName) (hnat : Cond.native arraycopyName ∈ lw_gd) (hstat : Cond.static arraycopyName ∈ lw_gd) (hini : Cond.initialized "java/lang/System" ∈ lw_gd) (hd : decode cc pc = .ok (.invokestatic idx, 3)) (hn0 : 0 ≤ n) (hn : inR n) (hK : 10 ≤ K) (h9 : K ≠ 99) (hK0 : 10 ≤ K0) (h90 : K0 ≠ 99) (hj : jek K = 0) (hj0 : jek K0 = 0) (h1 : 1 ≤ a) (h2 : WFA A → a < hN A) (hka : kdA A a = K) (h10 : 1 ≤ b) (h20 : WFA A → b < hN A) (hkb : kdA A b = K0) (hl0 : n ≤ jal K0) (hl1 : n ≤ jal K) (hst : st = []) (hd1 : 2 ≤ d)
    (KK : J g l d own mn cc nL ret n0 s0 o Z (pc + 3) lv st (cpI A b a n.toNat)) : J g l d own mn cc nL ret n0 s0 o Z pc lv (vI n :: vI 0 :: .ref (gB g + a) :: vI 0 :: .ref (gB g + b) :: st) A := by
  subst hst
  intro w
  have b7 := WFA_cpI w b a n.toNat
  refine ⟨⟨(KK b7).1.1, (show XT A (cpI A b a n.toNat) from XT.rf A).tr (KK b7).1.2.1, (KK b7).1.2.2⟩, fun E H locs ls hl hr hn1 hs hq => ?_⟩
  have hk := (KK b7).2 E
  have hts := E.2.2.2.2.1
  have hG := E.2.2.2.2.2.1
  have hc0 := hr.ar h10 (h20 w) hkb hK0 h90
  have hc1 := hr.ar h1 (h2 w) hka hK h9
  rw [aA_i (by omega), hj0] at hc0
  rw [aA_i (by omega), hj] at hc1
  have hw : nativeFrameWords "java/lang/System" "arraycopy" 5 ≤ 60 := by decide +kernel
  have ht : ArrOfT _ (gC g 0) .int := (gkA hG (k := 0) (by decide)).1
  have hi := i32_idx hn hn0
  refine jx_take E.1 E.2.1 (E.2.2.1.trans hl.1.symm) E.2.2.2.1 ⟨hts _ L, hts _ hnat, hts _ hstat, hts _ hini⟩ i32_zero.symm i32_zero.symm (by rw [i32_toInt' hn]; exact hn0) hc0 (ht _ _) (fun q => nomatch q) (by rw [hi, vp_cell_i, arrV_size]; omega) (fun j hj => arrV_read _ _ (by rw [hi] at hj; omega)) hc1 ht (by rw [hi]; omega) ⟨show 1 ≤ d by omega, show 0 + _ ≤ 40 * d by omega⟩ hd fun H1 locs1 e1 e2 e3 e4 => ?_
  rw [hi] at e1
  refine hk H1 _ ls hl ?_ hn1 hs (fun q hm => ?_)
  · refine hr.upd rfl h1 e2 e3 (fun b => rfl) (fun q hb => ⟨fun K j => ?_, fun K _ => ?_⟩) ?_
    · unfold fv
      rw [gP_cpI, show gI (cpI A b a n.toNat) q j = gI A q j from (by rw [gI_cpI, if_neg (fun z => hb z.1)])]
    · have e5 : ∀ j, gI (cpI A b a n.toNat) q j = gI A q j := fun j => by rw [gI_cpI, if_neg (fun z => hb z.1)]
      unfold aA
      simp only [e5, gP_cpI, hDb_cpI]
      rfl
    · unfold jcell
      rw [show kdA (cpI A b a n.toNat) a = K from hka, if_neg (by omega), if_neg h9, aA_i (by omega), hj, e1]
      congr 3
      rw [Sum.inl.injEq]
      funext q
      rw [gI_cpI]
      by_cases hq : q < n.toNat
      · rw [if_pos hq, if_pos ⟨rfl, hq⟩]
      · rw [if_neg hq, if_neg (fun z => hq z.2)]
  · rcases e4 q hm with h | h
    · exact hq q h
    · rw [h]
      omega
theorem j_mmax {idx : Nat} {x y : Int} (hx : inR x) (hy : inR y) (L : MLK own idx Lib.Math.max.name) (hstat : Cond.static Lib.Math.max.name ∈ lw_gd) (hini : Cond.initialized "java/lang/Math" ∈ lw_gd) (hcode : Cond.code Lib.Math.max.name Lib.Math.max.code 2 (some .int) ∈ lw_gd) (hd : decode cc pc = .ok (.invokestatic idx, 3)) (hst : (st.map fun v => v.category).sum ≤ 8) (hd1 : 2 ≤ d)
    (KK : J g l d own mn cc nL ret n0 s0 o Z (pc + 3) lv (vI (max x y) :: st) A) : J g l d own mn cc nL ret n0 s0 o Z pc lv (vI y :: vI x :: st) A := by
  intro w
  refine ⟨(KK w).1, fun E H locs ls hl hr hn hs hq => ?_⟩
  have hk := (KK w).2 E H locs ls hl hr hn hs hq
  have hts := E.2.2.2.2.1
  have h3 := (KK w).1.2.1.1
  have h4 := (KK w).1.2.1.2.1
  refine va_mmax E.1 E.2.1 (E.2.2.1.trans hl.1.symm) E.2.2.2.1 (hts _ L) (hts _ hstat) (hts _ hini) (hts _ hcode) (by show 1 ≤ d; omega) (by show _ ≤ 40 * d; omega) (by show _ ≤ hN o.2.2 - n0; omega) (by show _ ≤ hSl o.2.2 - s0; omega) hd ?_
  have e : (if Int32.ofInt x < Int32.ofInt y then Int32.ofInt y else Int32.ofInt x) = Int32.ofInt (max x y) := by
    by_cases h : x < y
    · rw [if_pos ((i32_lt hx hy).mpr h)]
      congr 1
      omega
    · rw [if_neg (fun z => h ((i32_lt hx hy).mp z))]
      congr 1
      omega
  rw [e]
  exact hk
theorem j_mmin {idx : Nat} {x y : Int} (hx : inR x) (hy : inR y) (L : MLK own idx Lib.Math.min.name) (hstat : Cond.static Lib.Math.min.name ∈ lw_gd) (hini : Cond.initialized "java/lang/Math" ∈ lw_gd) (hcode : Cond.code Lib.Math.min.name Lib.Math.min.code 2 (some .int) ∈ lw_gd) (hd : decode cc pc = .ok (.invokestatic idx, 3)) (hst : (st.map fun v => v.category).sum ≤ 8) (hd1 : 2 ≤ d)
    (KK : J g l d own mn cc nL ret n0 s0 o Z (pc + 3) lv (vI (min x y) :: st) A) : J g l d own mn cc nL ret n0 s0 o Z pc lv (vI y :: vI x :: st) A := by
  intro w
  refine ⟨(KK w).1, fun E H locs ls hl hr hn hs hq => ?_⟩
  have hk := (KK w).2 E H locs ls hl hr hn hs hq
  have hts := E.2.2.2.2.1
  have h3 := (KK w).1.2.1.1
  have h4 := (KK w).1.2.1.2.1
  refine va_mmin E.1 E.2.1 (E.2.2.1.trans hl.1.symm) E.2.2.2.1 (hts _ L) (hts _ hstat) (hts _ hini) (hts _ hcode) (by show 1 ≤ d; omega) (by show _ ≤ 40 * d; omega) (by show _ ≤ hN o.2.2 - n0; omega) (by show _ ≤ hSl o.2.2 - s0; omega) hd ?_
  first
  | (have e : (if Int32.ofInt x < Int32.ofInt y then Int32.ofInt x else Int32.ofInt y) = Int32.ofInt (min x y) := by
      by_cases h : x < y
      · rw [if_pos ((i32_lt hx hy).mpr h)]
        congr 1
        omega
      · rw [if_neg (fun z => h ((i32_lt hx hy).mp z))]
        congr 1
        omega
     rw [e]
     exact hk)
  | (have e : (if Int32.ofInt y < Int32.ofInt x then Int32.ofInt y else Int32.ofInt x) = Int32.ofInt (min x y) := by
      by_cases h : y < x
      · rw [if_pos ((i32_lt hy hx).mpr h)]
        congr 1
        omega
      · rw [if_neg (fun z => h ((i32_lt hy hx).mp z))]
        congr 1
        omega
     rw [e]
     exact hk)
theorem j_ixor {x y : Int} (hd : decode cc pc = .ok (.ixor, 1)) (K : J g l d own mn cc nL ret n0 s0 o Z (pc + 1) lv (vI (iXor x y) :: st) A) : J g l d own mn cc nL ret n0 s0 o Z pc lv (vI y :: vI x :: st) A :=
  J.lift (fun E _ _ _ _ _ _ _ h k => lv_ixor E.1 E.2.1 hd (by have := k _ h; rw [vI, iXor, i32_of] at this; exact this)) K
/-! own static arrays: the k-th of jST -/
def SFL (own : String) (idx k : Nat) : Prop := k < 6 ∧ Cond.fieldLink own idx (jST k).1 (jST k).2.1 "[I" ∈ lw_gd
theorem j_gets {idx k : Nat} (F : SFL own idx k) (hd : decode cc pc = .ok (.getstatic idx, 3)) (KK : J g l d own mn cc nL ret n0 s0 o Z (pc + 3) lv (.ref (gS g k) :: st) A) : J g l d own mn cc nL ret n0 s0 o Z pc lv st A := by
  intro w
  refine ⟨(KK w).1, fun E H locs ls hl hr hn hs hq => ?_⟩
  have hk := (KK w).2 E H locs ls hl hr hn hs hq
  have hG := E.2.2.2.2.2.1
  exact va_gets E.1 E.2.1 ((hG.2.1 k F.1).1.kept E.low) (jwsE E hr hn hq) E.2.2.2.1 (E.2.2.2.2.1 _ F.2) (fun _ h => h) hd hk
theorem j_sald {k : Nat} {z : Int} (hk6 : k < 6) (hz : inR z) (hd : decode cc pc = .ok (.iaload, 1)) (hi : 0 ≤ z ∧ z < ((jST k).2.2.length : Int)) {v : Int} (hv : (jST k).2.2.getD z.toNat 0 = Int32.ofInt v) (KK : J g l d own mn cc nL ret n0 s0 o Z (pc + 1) lv (vI v :: st) A) : J g l d own mn cc nL ret n0 s0 o Z pc lv (vI z :: .ref (gS g k) :: st) A := by
  intro w
  refine ⟨(KK w).1, fun E H locs ls hl hr hn hs hq => ?_⟩
  have hk := (KK w).2 E H locs ls hl hr hn hs hq
  have hG := E.2.2.2.2.2.1
  exact va_ti E.1 E.2.1 ((hG.2.1 k hk6).2.kept E.low) (jwsE E hr hn hq) (i32_in hz hi.1 hi.2) (v := vI v) (by rw [i32_idx hz hi.1, hv]) hd hk
/-! a new leg, and its constructor's stores -/
theorem REL_nL {H H1 : Heap} (h : REL g A H) (hz : H1.size = H.size + 1) (ho : ∀ q, q < H.size → H1[q]? = H[q]?) (h376 : 376 ≤ hN A) (hc : t_OB H.size ((gD g).1 2) 7 ((gD g).2 2) H1 (fun k => defaultValue (tyX2 k))) : REL g (nC A 2 7) H1 := by
  have hs := h.1
  refine ⟨by rw [hz, hs, hN_nC]; omega, fun q hq => by rw [ho q (by omega)]; exact h.2.1 q hq, fun a h1 h2 => ?_⟩
  rw [hN_nC] at h2
  by_cases ha : a = hN A
  · have hk : kdA (nC A 2 7) a = 2 := by
      unfold kdA
      rw [if_neg (by omega), gK_nC, if_pos ha]
    unfold jcell
    rw [hk, if_pos (by decide), ha, ← hs]
    refine hc.to (fun k hk7 => ?_)
    have hk7 : k < 7 := hk7
    unfold fv
    rw [gP_nC, gI_nC, if_pos rfl, if_pos rfl]
    rcases (show k = 0 ∨ k = 1 ∨ k = 2 ∨ k = 3 ∨ k = 4 ∨ k = 5 ∨ k = 6 by omega) with rfl | rfl | rfl | rfl | rfl | rfl | rfl <;> rfl
  · have h3 := h.2.2 a h1 (by omega)
    have hk : kdA (nC A 2 7) a = kdA A a := by
      unfold kdA
      rw [gK_nC, if_neg ha]
    have hq : H1[gB g + a]? = H[gB g + a]? := ho _ (by omega)
    have hf : ∀ K k, fv g (nC A 2 7) a K k = fv g A a K k := fun K k => by
      unfold fv
      rw [gP_nC, gI_nC, if_neg ha, if_neg ha]
    have hA : ∀ K, aA g (nC A 2 7) a K = aA g A a K := fun K => by
      have e1 : ∀ j, gI (nC A 2 7) a j = gI A a j := fun j => by rw [gI_nC, if_neg ha]
      have e2 : ∀ j, gP (nC A 2 7) a j = gP A a j := fun j => by rw [gP_nC, if_neg ha]
      unfold aA
      simp only [e1, e2, hDb_nC]
      try rfl
    unfold jcell at h3 ⊢
    rw [hk]
    split
    · rename_i hlt
      rw [if_pos hlt] at h3
      exact (h3.kept hq).to (fun k _ => (hf _ k).symm)
    · rename_i hlt
      rw [if_neg hlt] at h3
      split
      · trivial
      · rename_i h9
        rw [if_neg h9] at h3
        rw [hq, hA]
        exact h3
theorem j_newLeg {idx : Nat} (hcl : Cond.classLink own idx RX2 ∈ lw_gd) (hins : Cond.instantiable RX2 7 ∈ lw_gd) (hini : Cond.initialized RX2 ∈ lw_gd) (hd : decode cc pc = .ok (.new idx, 3)) (KK : isLeg (nC A 2 7) (hN A) → J g l d own mn cc nL ret n0 s0 o Z (pc + 3) lv (.ref (gB g + hN A) :: st) (nC A 2 7)) : J g l d own mn cc nL ret n0 s0 o Z pc lv st A := by
  intro w
  have h376 := w.1
  have b7 := WFA_nC w 2 7
  have hleg : isLeg (nC A 2 7) (hN A) := ⟨w.1, Nat.lt_succ_self _, by rw [gK_nC, if_pos rfl]⟩
  have K2 := KK hleg
  refine ⟨⟨(K2 b7).1.1, (XT_nC A 2 7).tr (K2 b7).1.2.1, (K2 b7).1.2.2⟩, fun E H locs ls hl hr hn1 hs hq => ?_⟩
  have hk := (K2 b7).2 E
  have hts := E.2.2.2.2.1
  have hG := E.2.2.2.2.2.1
  have h3 := (K2 b7).1.2.1.1
  have h4 := (K2 b7).1.2.1.2.1
  rw [hN_nC] at h3
  rw [hSl_nC] at h4
  have hKn := hG.1.1 2 _ (jcl_at (K := 2) (by decide))
  refine W.newcK E.1 E.2.1 E.2.2.2.1 (hts _ hcl) (hts _ hins) (hts _ hini) rfl hd (by show _ ≤ hN o.2.2 - n0; omega) (by show _ ≤ hSl o.2.2 - s0; omega) hKn.2.1 rfl fun H1 kC hkC e1 z1 o1 => ?_
  have hh := hk H1 locs ls hl (REL_nL hr z1 o1 h376 (u_born tyX2 hts (jC_in (K := 2) (by decide)) hKn hkC e1 tyX2_ok)) (by rw [hN_nC]; omega) (by rw [hSl_nC]; omega) hq
  rw [hN_nC, hSl_nC, show hN A + 1 - n0 = hN A - n0 + 1 by omega, show hSl A + 7 - s0 = hSl A - s0 + 7 by omega, ← hr.1] at hh
  exact hh
theorem j_objInit {idx a : Nat} (L : Cond.methodLink own idx objectInit ∈ lw_gd) (hin : Cond.instanceMethod objectInit ∈ lw_gd) (hcode : Cond.code objectInit ⟨#[0xb1]⟩ 1 none ∈ lw_gd) (hd : decode cc pc = .ok (.invokespecial idx, 3)) (hst : (st.map fun v => v.category).sum ≤ 8) (hd1 : 2 ≤ d) (KK : J g l d own mn cc nL ret n0 s0 o Z (pc + 3) lv st A) : J g l d own mn cc nL ret n0 s0 o Z pc lv (.ref a :: st) A := by
  intro w
  refine ⟨(KK w).1, fun E H locs ls hl hr hn hs hq => ?_⟩
  have hk := (KK w).2 E H locs ls hl hr hn hs hq
  have hts := E.2.2.2.2.1
  exact W.objInit E.1 E.2.1 E.2.2.2.1 (hts _ L) (hts _ hin) (hts _ hcode) rfl (hl.1.trans E.2.2.1.symm) rfl hd (by show 1 ≤ d; omega) (by show 2 * 0 + _ + 12 ≤ 40 * d; omega) hk
/-- a final field of the class itself, in its constructor -/
theorem j_putF {idx K k a : Nat} {v : Value} {B : AH} (F1 : K < 10) (F2 : k < jfn K) (hown0 : own = jC K) (F3 : Cond.fieldLink own idx (jT K k).1 (jT K k).2.1 (jT K k).2.2.1 ∈ lw_gd) (hmn : mn = "<init>") (hdecl : (jT K k).1 = own) (hfin : (jT K k).2.2.2 = true) (hn : narrow (jY K k) v = v) (hfit : fits (jY K k) v = true) (hd : decode cc pc = .ok (.putfield idx, 3)) (h1 : 1 ≤ a) (h2 : a < hN A) (hka : kdA A a = K)
    (b1 : hN B = hN A) (b2 : hSl B = hSl A) (b3 : ∀ b, kdA B b = kdA A b) (b4 : ∀ b, b ≠ a → (∀ K k, fv g B b K k = fv g A b K k) ∧ (∀ K, kdA A b = K → aA g B b K = aA g A b K)) (b5 : ∀ j, j < jfn K → fv g B a K j = updV (fv g A a K) k v j) (b6 : XT A B) (b7 : WFA B) (KK : J g l d own mn cc nL ret n0 s0 o Z (pc + 3) lv st B) : J g l d own mn cc nL ret n0 s0 o Z pc lv (v :: .ref (gB g + a) :: st) A := by
  intro w
  refine ⟨⟨(KK b7).1.1, b6.tr (KK b7).1.2.1, (KK b7).1.2.2⟩, fun {p e s m args below meth c} E H locs ls hl hr hn0 hs hq => ?_⟩
  have hk := (KK b7).2 E
  rw [b1, b2] at hk
  have hx := E.1
  have hb := E.2.1
  have hown := E.2.2.2.1
  have hts := E.2.2.2.2.1
  have hG := E.2.2.2.2.2.1
  have hap := va_apart (own := own) hts (jC_in F1) (jY K) (jC_ty F1) (jC_nm F1) hG.1 (jcl_at F1)
  obtain ⟨cell, q1, q2, q3, q4⟩ := hr.ob h1 h2 hka F1
  obtain ⟨hS, hfc, kC, hkC, hkind⟩ := hG.1.1 K _ (jcl_at F1)
  obtain ⟨cf, kf, fi, f, hi, hsl⟩ := hS k F2
  have hlay := hts _ (jC_in F1 _ (u_in_lay F2))
  unfold u_lay at hlay
  rw [if_pos hfin] at hlay
  have hst := (u_facts hfc hkC (u_lays hts (jC_in F1) F2) hi).1
  have hcf : m.cls = cf := jfin_own hlay hi hdecl hown
  have h6 := u_fits hfc hkC hkind (Or.inr hlay) hi (jC_ty F1 k F2) hn hfit
  refine W.putFinK hx hb hown (hts _ F3) hi hst hcf (E.2.2.2.2.2.2.2.2.2.2.2.1.trans hmn) (by rw [q2]; exact h6) q1 q3 (by rw [hsl]; exact k2_hasslot (q4 k F2)) rfl rfl hd fun H1 e1 e2 e3 => hk H1 _ ls hl ?_ hn0 hs (locs_app h1 hq)
  refine hr.upd b1 h1 e2 e3 b3 b4 ?_
  unfold jcell
  rw [b3, hka, if_pos F1]
  rw [hsl] at e1
  exact t_OB.to (V := updV (fv g A a K) k v) ⟨_, e1, q2, q3, t_set q4 hap F2 v⟩ (fun j hj => (b5 j hj).symm)
/-- a leg's int -/
theorem j_putFI {idx k a : Nat} {x : Int} (hown0 : own = RX2) (F2 : k < 7) (hk0 : 0 < k) (F3 : Cond.fieldLink own idx (TX2 k).1 (TX2 k).2.1 (TX2 k).2.2.1 ∈ lw_gd) (hmn : mn = "<init>") (hx : inR x) (hd : decode cc pc = .ok (.putfield idx, 3)) (ha : isLeg A a) (KK : J g l d own mn cc nL ret n0 s0 o Z (pc + 3) lv st (sI A a k x)) : J g l d own mn cc nL ret n0 s0 o Z pc lv (vI x :: .ref (gB g + a) :: st) A := by
  intro w
  have hf : jfr 2 k = false := by
    rcases (show k = 1 ∨ k = 2 ∨ k = 3 ∨ k = 4 ∨ k = 5 ∨ k = 6 by omega) with rfl | rfl | rfl | rfl | rfl | rfl <;> rfl
  have hy : jY 2 k = .int := by
    rcases (show k = 1 ∨ k = 2 ∨ k = 3 ∨ k = 4 ∨ k = 5 ∨ k = 6 by omega) with rfl | rfl | rfl | rfl | rfl | rfl <;> rfl
  have hfi : (jT 2 k).1 = own ∧ (jT 2 k).2.2.2 = true := by
    rw [hown0]
    rcases (show k = 1 ∨ k = 2 ∨ k = 3 ∨ k = 4 ∨ k = 5 ∨ k = 6 by omega) with rfl | rfl | rfl | rfl | rfl | rfl <;> exact ⟨rfl, rfl⟩
  have h376 := ha.1
  refine j_putF (K := 2) (k := k) (by decide) F2 hown0 F3 hmn hfi.1 hfi.2 (by rw [hy]; rfl) (by rw [hy]; rfl) hd (by omega) ha.2.1 (by unfold kdA; rw [if_neg (by omega)]; exact ha.2.2) (hN_sI A a k x) (hSl_sI A a k x) (fun b => rfl) (fun b hb => ⟨fun K j => fv_sI hb, fun K _ => aA_sI hb⟩) (fun j hj => ?_) (XT_sI A a k x) (WFA_sI w a k hx) KK w
  unfold updV
  by_cases hj2 : j = k
  · rw [if_pos hj2, hj2, fv_i hf, gI_sI_self]
  · rw [if_neg hj2]
    unfold fv
    rw [gP_sI, gI_sI_ne (fun q => hj2 q.2)]
/-- a leg's earlier one -/
theorem j_putFQ {idx a q : Nat} (hown0 : own = RX2) (F3 : Cond.fieldLink own idx (TX2 0).1 (TX2 0).2.1 (TX2 0).2.2.1 ∈ lw_gd) (hmn : mn = "<init>") (hq : LV A q) (hd : decode cc pc = .ok (.putfield idx, 3)) (ha : isLeg A a) (KK : J g l d own mn cc nL ret n0 s0 o Z (pc + 3) lv st (sP A a 0 q)) : J g l d own mn cc nL ret n0 s0 o Z pc lv (rv g q :: .ref (gB g + a) :: st) A := by
  intro w
  have h376 := ha.1
  refine j_putF (K := 2) (k := 0) (by decide) (by decide) hown0 F3 hmn hown0.symm rfl (by unfold rv; split <;> rfl) (by unfold rv; split <;> rfl) hd (by omega) ha.2.1 (by unfold kdA; rw [if_neg (by omega)]; exact ha.2.2) (hN_sP A a 0 q) (hSl_sP A a 0 q) (fun b => rfl) (fun b hb => ⟨fun K j => fv_sP hb, fun K _ => aA_sP hb⟩) (fun j hj => ?_) (XT_sP A a 0 q) (WFA_sP w (Or.inr ⟨h376, rfl⟩) hq) KK w
  unfold updV
  by_cases hj2 : j = 0
  · rw [if_pos hj2, hj2, fv_r rfl, gP_sP_self]
  · rw [if_neg hj2]
    unfold fv
    rw [gI_sP, gP_sP_ne (fun q => hj2 q.2)]
end JG5
