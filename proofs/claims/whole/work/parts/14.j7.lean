/-! methods with a table of their own, and what the law alone does -/
def jwsW (y : MethodName) (cc : ByteArray) (nL : Nat) (ret : Option FieldType) (hh : List (Nat × Nat × Nat × Nat)) : List Cond := .codeWith y cc nL ret hh :: lw_gd
def CTW (g : JG) (l : Launch) (y : MethodName) (cc : ByteArray) (nL : Nat) (ret : Option FieldType) (d : Nat) (as : List Value) (A : AH) (o : JO) (Z : Prop) : Prop :=
  WFA A → (Z ∧ XT A o.2.2 ∧ WFA o.2.2) ∧ vx_Met l y (jwsW y cc nL ret (jtab y.cls y.name)) (jrm d (hN o.2.2 - hN A) (hSl o.2.2 - hSl A)) (va_Pc as (fun U => REL g A U.heap ∧ GK g U)) (jQ g o) (jX g o) (hN o.2.2 - hN A) (hSl o.2.2 - hSl A) (jF g)
def icmp (x y : Int) : Int := if x < y then -1 else if x = y then 0 else 1
theorem icmp_inR (x y : Int) : inR (icmp x y) := by unfold icmp; split; exact inR_lit _ rfl; split <;> exact inR_lit _ rfl
def gXi (g : JG) (j : Nat) : Int := (gX g j).toInt
theorem chr_mod (x : Int) : 0 ≤ x % 65536 ∧ x % 65536 < 65536 := by omega
theorem mod_inR (x : Int) : inR (x % 65536) := by unfold inR; omega
section JL
variable {g : JG} {l : Launch} {d : Nat} {own mn : String} {cc : ByteArray} {nL : Nat} {ret : Option FieldType} {n0 s0 : Nat} {o : JO} {Z : Prop} {pc : Nat} {lv : List (Nat × Value)} {st : List Value} {A : AH}
theorem CTW_of {y : MethodName} {as : List Value} (hy : plainName y.cls = true) (hl : l.stackTraces = false) (hlen : (lg_sl as).length ≤ nL) (hlv : lv_args 0 as = lv) (hb : J g l d y.cls y.name cc nL ret (hN A) (hSl A) o Z 0 lv [] A) : CTW g l y cc nL ret d as A o Z := by
  intro w
  refine ⟨(hb w).1, vx_ofWH (cc := cc) (maxL := nL) (ret := ret) hy rfl ?_⟩
  intro p e s m args below meth c s₁ B hml hv
  obtain ⟨rfl, hr, hG⟩ := hv
  have hE : JE g p l e s m as.toArray below meth c y.cls y.name cc nL ret (hN A) :=
    ⟨B.exec, B.bytes, hml, findClass_of_methodNamed B.named, fun w hw => atoms_spec (ws := jwsW y cc nL ret (jtab y.cls y.name)) B.pre w (List.mem_cons_of_mem _ hw), hG, B.returns, B.notSynchronized, hl, hr.1, hr.2.1, (name_of_methodNamed B.named B.method).1, vx_table (x := y) B (atoms_spec (ws := jwsW y cc nL ret (jtab y.cls y.name)) B.pre _ List.mem_cons_self)⟩
  have hlE := lv_entry as (n := nL) hlen
  rw [lg_entry_eq]
  rw [hlv] at hlE
  have h := (hb w).2 hE s.heap [] _ hlE hr (Nat.le_refl _) (Nat.le_refl _) (fun q hq => nomatch hq)
  rw [Nat.sub_self, Nat.sub_self] at h
  exact h

/-- behind a call that throws, caught by a row of this method's own table -/
theorem j_of_runC {A1 : AH} {k : Nat} {v : Option Value} {Z' : Prop} {st0 : List Value} {X : Array Value} (hk : k ≠ 0) (hC : WFA A → Z' ∧ XT A A1 ∧ WFA A1)
    (hrun : WFA A → ∀ {p : Program} {e : Env} {s : State} {m : MethodId} {args : Array Value} {below : List Frame} {meth : Method} {c : Code}, JE g p l e s m args below meth c own mn cc nL ret n0 → ∀ (R : Room) (H : Heap) (locs : List Loc) (ls : Array Slot) (k' n : Nat), lv_has ls nL lv → REL g A H → R.frames = d → R.locals = 40 * d → k' + (hN A1 - hN A) ≤ R.cells → n + (hSl A1 - hSl A) ≤ R.slots →
      vx_Run p l e R s m args below meth c H locs k' n (hN A1 - hN A) (hSl A1 - hSl A) (F0 m pc ls st0) st (jQ g (k, v, A1) X) (jX g (k, v, A1)) (jF g))
    (pre : List (Nat × Nat × Nat × Nat)) (x : Nat × Nat × Nat × Nat) (suf : List (Nat × Nat × Nat × Nat)) (htab : jtab own mn = pre ++ x :: suf) (hpass : ∀ z ∈ pre, z.2.2.2 ≠ 0 ∧ ∃ j, Cond.classLink own z.2.2.2 (xnm j) ∈ lw_gd ∧ 1 ≤ j ∧ j ≤ 6 ∧ k ≠ j) (hk1 : 1 ≤ k) (hk6 : k ≤ 6)
    (hcov : x.1 ≤ pc ∧ pc < x.2.1) (h0 : x.2.2.2 ≠ 0) (hlink : Cond.classLink own x.2.2.2 (xnm k) ∈ lw_gd) (hcast : Cond.castable (xnm k) (xnm k) ∈ lw_nw)
    (KK : Z' → ∀ q : Nat, J g l d own mn cc nL ret n0 s0 o Z x.2.2.1 lv [.ref q] A1) : J g l d own mn cc nL ret n0 s0 o Z pc lv st0 A := by
  intro w
  obtain ⟨z1, z2, z3⟩ := hC w
  have K2 := fun q => KK z1 q z3
  refine ⟨⟨(K2 0).1.1, z2.tr (K2 0).1.2.1, (K2 0).1.2.2⟩, fun E H locs ls hl hr hn hs hq => ?_⟩
  have hx1 := (K2 0).1.2.1.1
  have hx2 := (K2 0).1.2.1.2.1
  have hx3 := z2.1
  have hx4 := z2.2.1
  intro T hT X
  have hts := E.2.2.2.2.1
  have hG := E.2.2.2.2.2.1
  have e1 : hN A - n0 + (hN A1 - hN A) = hN A1 - n0 := by omega
  have e2 : hSl A - s0 + (hSl A1 - hSl A) = hSl A1 - s0 := by omega
  rcases hrun w E _ H locs ls _ _ hl hr rfl rfl (by show _ ≤ hN o.2.2 - n0; omega) (by show _ ≤ hSl o.2.2 - s0; omega) T hT X with ⟨v', st₀, t, T', L, h00, X', hL, q1, q2, ⟨hbad, -⟩, stp⟩ | ⟨q, st₀, t, T', L, Ee, ce, h00, X', hL, q1, q2, ⟨-, hE, hR⟩, hce, hcv, hcl, stp⟩
  · exact absurd hbad hk
  · rw [e1, e2] at X'
    subst hE
    have hsplit : tableOf (jtab own mn) = tableOf pre ++ (⟨x.1, x.2.1, x.2.2.1, x.2.2.2⟩ : ExceptionTableEntry) :: tableOf suf := by rw [htab]; simp [tableOf]
    obtain ⟨t2, a1, b1⟩ := vx_catch (H := T'.heap) (ls := ls) (rest := st) (pc := pc) (own := own) (name := xnm k) (E := xnm k) E.2.2.2.1 (tableOf pre) ⟨x.1, x.2.1, x.2.2.1, x.2.2.2⟩ (tableOf suf) (E.2.2.2.2.2.2.2.2.2.2.2.2.trans hsplit) (fun z hz => by
        obtain ⟨z0, hz0, rfl⟩ := List.mem_map.mp hz
        obtain ⟨g1, j, g2, g3, g4, g5⟩ := hpass z0 hz0
        exact Or.inr ⟨g1, xnm j, hts _ g2, hG.2.2.2.2.2.2.2.1 k j hk1 hk6 g3 g4 g5⟩) (by simp [covers, hcov.1, hcov.2]) h0 (hts _ hlink) (nw_use hcast (hG.2.2.2.2.2.1 _ hcast)) (by rw [q1]; exact hce) hcv hcl
      ((K2 q).2 E T'.heap (locs ++ L) ls hl (by rw [q1]; exact hR) (by omega) (by omega) (fun q hm => by
        rcases List.mem_append.mp hm with h | h
        · exact hq q h
        · exact hL q h)) T' rfl X'
    exact ⟨t2, stp.trans a1, b1⟩
theorem j_callVc {A1 : AH} {k : Nat} {v : Option Value} {Z' : Prop} {idx d' a K n : Nat} {y : MethodName} {cc' : ByteArray} {nL' : Nat} {ret' : Option FieldType} {As : List Value} (L : MLK own idx y) (M : MY y cc' nL' ret' n) (hI : Cond.instanceMethod y ∈ lw_gd) (hSel : Cond.selects y.cls y y ∈ lw_gd) (hK : K < 10) (hyC : y.cls = jC K) (hlo : nL' ≤ 20) (hd' : d' + 1 ≤ d) (hst : (st.map fun v => v.category).sum ≤ 8) (hn : As.length = n)
    (hC : CT g l y cc' nL' ret' d' (.ref (gB g + a) :: As) A (k, v, A1) Z') (hd : decode cc pc = .ok (.invokevirtual idx, 3)) (h1 : 1 ≤ a) (h2 : WFA A → a < hN A) (hka : kdA A a = K) {st0 : List Value} (hst0 : st0 = As.reverse ++ .ref (gB g + a) :: st)
    (hk : k ≠ 0) (pre : List (Nat × Nat × Nat × Nat)) (x : Nat × Nat × Nat × Nat) (suf : List (Nat × Nat × Nat × Nat)) (htab : jtab own mn = pre ++ x :: suf) (hpass : ∀ z ∈ pre, z.2.2.2 ≠ 0 ∧ ∃ j, Cond.classLink own z.2.2.2 (xnm j) ∈ lw_gd ∧ 1 ≤ j ∧ j ≤ 6 ∧ k ≠ j) (hk1 : 1 ≤ k) (hk6 : k ≤ 6)
    (hcov : x.1 ≤ pc ∧ pc < x.2.1) (h0 : x.2.2.2 ≠ 0) (hlink : Cond.classLink own x.2.2.2 (xnm k) ∈ lw_gd) (hcast : Cond.castable (xnm k) (xnm k) ∈ lw_nw)
    (KK : Z' → ∀ q : Nat, J g l d own mn cc nL ret n0 s0 o Z x.2.2.1 lv [.ref q] A1) : J g l d own mn cc nL ret n0 s0 o Z pc lv st0 A := by
  subst hst0
  exact j_of_runC hk (fun w => (hC w).1) (jrunV L M hI hSel hK hyC hlo hd' hst hn hC hd h1 h2 hka) pre x suf htab hpass hk1 hk6 hcov h0 hlink hcast KK
theorem j_callSW {A1 : AH} {v : Option Value} {Z' : Prop} {idx d' n : Nat} {y : MethodName} {cc' : ByteArray} {nL' : Nat} {ret' : Option FieldType} {As : List Value} (L : MLK own idx y) (hini : Cond.initialized y.cls ∈ lw_gd) (hcode : Cond.codeWith y cc' nL' ret' (jtab y.cls y.name) ∈ lw_gd) (hy : y.cls ≠ "java/lang/invoke/MethodHandle" ∧ y.cls ≠ "java/lang/invoke/VarHandle") (hlen : (parseMethodDescriptor y.desc).map (fun d => d.parameters.length) = some n) (hI : Cond.static y ∈ lw_gd) (hlo : nL' ≤ 20) (hd' : d' + 1 ≤ d) (hst : (st.map fun v => v.category).sum ≤ 8) (hn : As.length = n)
    (hC : CTW g l y cc' nL' ret' d' As A (0, v, A1) Z') (hd : decode cc pc = .ok (.invokestatic idx, 3)) {st0 : List Value} (hst0 : st0 = As.reverse ++ st)
    (KK : Z' → XT A A1 → J g l d own mn cc nL ret n0 s0 o Z (pc + 3) lv (v.toList ++ st) A1) : J g l d own mn cc nL ret n0 s0 o Z pc lv st0 A := by
  subst hst0
  refine j_of_run (X := As.toArray) (fun w => (hC w).1) ?_ KK
  intro w p e s m args below meth c E R H locs ls k n2 hl hr hRf hRl hk1 hk2
  have hts := E.2.2.2.2.1
  have hG := E.2.2.2.2.2.1
  have hgood : ∀ w ∈ jwsW y cc' nL' ret' (jtab y.cls y.name), w ∈ lw_gd := fun w hw => (List.mem_cons.mp hw).elim (fun e => by rw [e]; exact hcode) id
  exact vx_runSX (hh := jtab y.cls y.name) (As := As) (rest := st) ⟨E.1, E.2.1, E.2.2.1, E.2.2.2.1, hts⟩ (hC w).2
    ⟨⟨rfl, rfl, by show d' + 1 ≤ R.frames; omega, by show 8 + (nL' + 11) + 40 * d' ≤ R.locals; omega, fun w hw a' U hW => word_at hW (lw_gd_good _ (hgood w hw)) (hts _ (hgood w hw)), List.mem_cons_self⟩, hts _ hcode, hts _ hini, hy, fun sig h => by rw [h] at hlen; exact (Option.some.inj hlen).symm, hts _ L, hts _ hI⟩
    ⟨pcBlind, fun U hU hW => ⟨rfl, by rw [hU]; exact hr, hG.warm hW⟩⟩ rfl hn hl.1 rfl (lv_room hst) hd ⟨hk1, hk2⟩
/-! longs, doubles, floats -/
theorem i64_of {x : Int} (hx : inR x) : (Int32.ofInt x).toInt64 = Int64.ofInt x := by
  apply Int64.toInt_inj.mp
  rw [Int32.toInt_toInt64, i32_toInt' hx, Int64.toInt_ofInt]
  rw [Int.bmod_def]
  have e : ((2 ^ 64 : Nat) : Int) = 18446744073709551616 := by decide
  unfold inR at hx
  rw [e]
  split <;> omega
theorem i64_toInt {x : Int} (hx : inR x) : (Int64.ofInt x).toInt = x := by rw [← i64_of hx, Int32.toInt_toInt64, i32_toInt' hx]
theorem j_i2l {x : Int} (hx : inR x) (hd : decode cc pc = .ok (.i2l, 1)) (K : J g l d own mn cc nL ret n0 s0 o Z (pc + 1) lv (.long (Int64.ofInt x) :: st) A) : J g l d own mn cc nL ret n0 s0 o Z pc lv (vI x :: st) A :=
  J.lift (fun E _ _ _ _ _ _ _ h k => lv_i2l E.1 E.2.1 hd (i64_of hx) (k _ h)) K
theorem j_i2c {x : Int} (hx : inR x) (hd : decode cc pc = .ok (.i2c, 1)) (K : J g l d own mn cc nL ret n0 s0 o Z (pc + 1) lv (vI (x % 65536) :: st) A) : J g l d own mn cc nL ret n0 s0 o Z pc lv (vI x :: st) A := by
  refine J.lift (fun E _ _ _ _ _ _ _ h k => lv_i2c E.1 E.2.1 hd ?_ (k _ h)) K
  apply Int32.toInt_inj.mp
  rw [i32_toInt' (mod_inR x)]
  have e1 : ((Int32.ofInt x).toUInt32 % 65536).toNat = (Int32.ofInt x).toUInt32.toNat % 65536 := rfl
  have e2 : ((Int32.ofInt x).toUInt32.toNat : Int) = x % 4294967296 := by
    have h1 : (Int32.ofInt x).toUInt32.toNat = (Int32.ofInt x).toBitVec.toNat := rfl
    rw [h1]
    have h2 := i32_toInt' hx
    have h3 : (Int32.ofInt x).toInt = (Int32.ofInt x).toBitVec.toInt := rfl
    rw [h3, BitVec.toInt_eq_toNat_bmod, Int.bmod_def] at h2
    have e : ((2 ^ 32 : Nat) : Int) = 4294967296 := by decide
    rw [e] at h2
    have hlt := (Int32.ofInt x).toBitVec.isLt
    have hlt2 : (Int32.ofInt x).toBitVec.toNat < 4294967296 := hlt
    split at h2 <;> omega
  have e3 : (((Int32.ofInt x).toUInt32 % 65536).toInt32).toInt = (((Int32.ofInt x).toUInt32 % 65536).toNat : Int) := by
    have h3 : (((Int32.ofInt x).toUInt32 % 65536).toInt32).toInt = (((Int32.ofInt x).toUInt32 % 65536).toBitVec).toInt := rfl
    rw [h3, BitVec.toInt_eq_toNat_bmod, Int.bmod_def]
    have e : ((2 ^ 32 : Nat) : Int) = 4294967296 := by decide
    have h5 : ((Int32.ofInt x).toUInt32 % 65536).toBitVec.toNat = (Int32.ofInt x).toUInt32.toNat % 65536 := rfl
    have h6 : ((Int32.ofInt x).toUInt32 % 65536).toNat = (Int32.ofInt x).toUInt32.toNat % 65536 := rfl
    rw [e, h5, h6]
    split <;> omega
  rw [e3, e1]
  omega
theorem lgcmp_of {x y : Int} (hx : inR x) (hy : inR y) : lg_cmp (Int64.ofInt x) (Int64.ofInt y) = Int32.ofInt (icmp x y) := by
  unfold lg_cmp icmp
  have h1 : Int64.ofInt x < Int64.ofInt y ↔ x < y := by rw [Int64.lt_iff_toInt_lt, i64_toInt hx, i64_toInt hy]
  have h2 : Int64.ofInt x = Int64.ofInt y ↔ x = y := by rw [← Int64.toInt_inj, i64_toInt hx, i64_toInt hy]
  have h3 : Int64.ofInt y < Int64.ofInt x ↔ y < x := by rw [Int64.lt_iff_toInt_lt, i64_toInt hx, i64_toInt hy]
  by_cases c1 : x < y
  · have c3 : ¬ x = y := by omega
    have c4 : ¬ y < x := by omega
    simp [h1, h2, h3, c1, c3, c4, compare, compareOfLessAndEq] <;> rfl
  · by_cases c2 : x = y
    · subst c2
      simp [h1, h2, h3, c1, compare, compareOfLessAndEq] <;> rfl
    · have c4 : y < x := by omega
      simp [h1, h2, h3, c1, c2, c4, compare, compareOfLessAndEq] <;> rfl
theorem j_lcmp {x y : Int} (hx : inR x) (hy : inR y) (hd : decode cc pc = .ok (.lcmp, 1)) (K : J g l d own mn cc nL ret n0 s0 o Z (pc + 1) lv (vI (icmp x y) :: st) A) : J g l d own mn cc nL ret n0 s0 o Z pc lv (.long (Int64.ofInt y) :: .long (Int64.ofInt x) :: st) A :=
  J.lift (fun E _ _ _ _ _ _ _ h k => W.lcmp E.1 E.2.1 hd (by rw [lgcmp_of hx hy]; exact k _ h)) K
theorem j_f2d {x : UInt32} (hne : (FP.f2d x) &&& 0x7fffffffffffffff ≤ 0x7ff0000000000000) (hd : decode cc pc = .ok (.f2d, 1)) (K : J g l d own mn cc nL ret n0 s0 o Z (pc + 1) lv (.double (FP.f2d x) :: st) A) : J g l d own mn cc nL ret n0 s0 o Z pc lv (.float x :: st) A :=
  J.lift (fun E _ _ _ _ _ _ _ h k => lv_f2d E.1 E.2.1 hd hne (k _ h)) K
theorem j_dcmp {x y : UInt64} {op : CmpOp} (hd : decode cc pc = .ok (.dcmp op, 1)) (K : J g l d own mn cc nL ret n0 s0 o Z (pc + 1) lv (vI (Op.cmpValue (FP.dcmp x y) op).toInt :: st) A) : J g l d own mn cc nL ret n0 s0 o Z pc lv (.double y :: .double x :: st) A :=
  J.lift (fun E _ _ _ _ _ _ _ h k => lv_dcmp E.1 E.2.1 hd (by have := k _ h; rw [vI, i32_of] at this; exact this)) K
theorem j_fcmp {x y : UInt32} {op : CmpOp} (hd : decode cc pc = .ok (.fcmp op, 1)) (K : J g l d own mn cc nL ret n0 s0 o Z (pc + 1) lv (vI (Op.cmpValue (FP.fcmp x y) op).toInt :: st) A) : J g l d own mn cc nL ret n0 s0 o Z pc lv (.float y :: .float x :: st) A :=
  J.lift (fun E _ _ _ _ _ _ _ h k => lv_fcmp E.1 E.2.1 hd (by have := k _ h; rw [vI, i32_of] at this; exact this)) K
theorem j_dload {i j : Nat} {x : UInt64} (hd : decode cc pc = .ok (.dload i, 2)) (hl : lv[j]? = some (i, .double x)) (K : J g l d own mn cc nL ret n0 s0 o Z (pc + 2) lv (.double x :: st) A) : J g l d own mn cc nL ret n0 s0 o Z pc lv st A :=
  J.lift (fun E _ _ _ _ _ _ _ h k => lv_dload E.1 E.2.1 hd (lv_at h j hl) (k _ h)) K
theorem j_fload {i j : Nat} {x : UInt32} (hd : decode cc pc = .ok (.fload i, 2)) (hl : lv[j]? = some (i, .float x)) (K : J g l d own mn cc nL ret n0 s0 o Z (pc + 2) lv (.float x :: st) A) : J g l d own mn cc nL ret n0 s0 o Z pc lv st A :=
  J.lift (fun E _ _ _ _ _ _ _ h k => lv_fload E.1 E.2.1 hd (lv_at h j hl) (k _ h)) K
theorem j_dstore {i : Nat} {x : UInt64} {lv' : List (Nat × Value)} (hd : decode cc pc = .ok (.dstore i, 2)) (hn : i + 1 < nL) (hl : (i, Value.double x) :: lv.filter (fun q => !(q.1 == i) && (!(q.1 == i + 1) && !(q.1 + 1 == i && q.2.category == 2))) = lv') (K : J g l d own mn cc nL ret n0 s0 o Z (pc + 2) lv' st A) : J g l d own mn cc nL ret n0 s0 o Z pc lv (.double x :: st) A :=
  J.lift (fun E _ _ _ _ _ _ _ h k => lv_dstore E.1 E.2.1 hd h hn hl k) K
theorem j_fstore {i : Nat} {x : UInt32} {lv' : List (Nat × Value)} (hd : decode cc pc = .ok (.fstore i, 2)) (hn : i < nL) (hl : (i, Value.float x) :: lv.filter (fun q => !(q.1 == i) && !(q.1 + 1 == i && q.2.category == 2)) = lv') (K : J g l d own mn cc nL ret n0 s0 o Z (pc + 2) lv' st A) : J g l d own mn cc nL ret n0 s0 o Z pc lv (.float x :: st) A :=
  J.lift (fun E _ _ _ _ _ _ _ h k => lv_fstore E.1 E.2.1 hd h hn hl k) K
/-! the law's two cells and its script -/
theorem REL.arL {H : Heap} (h : REL g A H) (w : WFA A) : H[gB g + 374]? = some (arrV (gC g 2) 1 (fun j => .long (Int64.ofInt (gI A 374 j)))) := by
  have h3 := h.ar (a := 374) (K := 60) (by decide) (Nat.lt_of_lt_of_le (by decide) w.1) rfl (by decide) (by decide)
  exact h3
theorem REL.arD {H : Heap} (h : REL g A H) (w : WFA A) : H[gB g + 375]? = some (arrV (gC g 3) 1 (fun _ => .double (hDb A))) := by
  have h3 := h.ar (a := 375) (K := 61) (by decide) (Nat.lt_of_lt_of_le (by decide) w.1) rfl (by decide) (by decide)
  exact h3
theorem in01 : vp_in (Int32.ofInt 0) 1 := by unfold vp_in; decide
theorem j_last {x : Int} (hx : inR x) (hd : decode cc pc = .ok (.lastore, 1)) (KK : J g l d own mn cc nL ret n0 s0 o Z (pc + 1) lv st (sI A 374 0 x)) : J g l d own mn cc nL ret n0 s0 o Z pc lv (.long (Int64.ofInt x) :: vI 0 :: .ref (gB g + 374) :: st) A := by
  intro w
  have b7 := WFA_sI w 374 0 hx
  refine ⟨⟨(KK b7).1.1, (XT_sI A 374 0 x).tr (KK b7).1.2.1, (KK b7).1.2.2⟩, fun E H locs ls hl hr hn hs hq => ?_⟩
  have hk := (KK b7).2 E
  refine W.last E.1 E.2.1 (hr.arL w) ((gkA E.2.2.2.2.2.1 (k := 2) (by decide)).1 1 _) (fun q => by cases q) (by show ¬ (_ ∨ (arrV _ _ _).slots.size ≤ _); rw [arrV_size]; exact in01) rfl rfl hd fun H1 e1 e2 e3 => ?_
  refine hk H1 _ ls hl ?_ hn hs (locs_app (by decide) hq)
  refine hr.upd (hN_sI A 374 0 x) (by decide) e2 e3 (fun b => rfl) (fun b hb => ⟨fun K j => fv_sI hb, fun K _ => aA_sI hb⟩) ?_
  show jcell g (sI A 374 0 x) H1 374
  unfold jcell
  have hkd : kdA (sI A 374 0 x) 374 = 60 := rfl
  rw [hkd, if_neg (by decide), if_neg (by decide), e1, arrV_store]
  show some (arrV (gC g 2) 1 _) = some (arrV (gC g 2) 1 (fun j => .long (Int64.ofInt (gI (sI A 374 0 x) 374 j))))
  congr 2
  funext q
  unfold updV
  have z0 : (Int32.ofInt 0).toNatClampNeg = 0 := rfl
  rw [z0, gI_sI]
  by_cases h : q = 0
  · rw [if_pos h, if_pos ⟨rfl, h⟩]
  · rw [if_neg h, if_neg (fun z => h z.2)]
theorem j_lald (hd : decode cc pc = .ok (.laload, 1)) (KK : inR (gI A 374 0) → J g l d own mn cc nL ret n0 s0 o Z (pc + 1) lv (.long (Int64.ofInt (gI A 374 0)) :: st) A) : J g l d own mn cc nL ret n0 s0 o Z pc lv (vI 0 :: .ref (gB g + 374) :: st) A := by
  intro w
  have K2 := KK (w.2.2.1 374 0)
  refine ⟨(K2 w).1, fun E H locs ls hl hr hn hs hq => ?_⟩
  have hk := (K2 w).2 E H locs ls hl hr hn hs hq
  have hP : va_P (gD g) jcl [(gB g + 374, .inl (gC g 2, 1, .inr (.inl (fun j => Int64.ofInt (gI A 374 j)))))] H := fun k q h => by
    match k, h with
    | 0, h => cases h; exact hr.arL w
    | k + 1, h => simp at h
  exact va_lald (tys := jtys g) E.1 E.2.1 E.2.2.2.2.2.1.1 hP 0 2 rfl (jtys_at g (by decide)) in01 hd hk
theorem j_dald (hd : decode cc pc = .ok (.daload, 1)) (KK : J g l d own mn cc nL ret n0 s0 o Z (pc + 1) lv (.double (hDb A) :: st) A) : J g l d own mn cc nL ret n0 s0 o Z pc lv (vI 0 :: .ref (gB g + 375) :: st) A := by
  intro w
  refine ⟨(KK w).1, fun E H locs ls hl hr hn hs hq => ?_⟩
  have hk := (KK w).2 E H locs ls hl hr hn hs hq
  have hP : va_P (gD g) jcl [(gB g + 375, .inl (gC g 3, 1, .inr (.inr (.inr (.inl (fun _ => hDb A))))))] H := fun k q h => by
    match k, h with
    | 0, h => cases h; exact hr.arD w
    | k + 1, h => simp at h
  exact va_dald (tys := jtys g) E.1 E.2.1 E.2.2.2.2.2.1.1 hP 0 3 rfl (jtys_at g (by decide)) in01 hd hk
theorem j_dast {x : UInt64} (hd : decode cc pc = .ok (.dastore, 1)) (KK : J g l d own mn cc nL ret n0 s0 o Z (pc + 1) lv st (sD A x)) : J g l d own mn cc nL ret n0 s0 o Z pc lv (.double x :: vI 0 :: .ref (gB g + 375) :: st) A := by
  intro w
  have b7 := WFA_sD w x
  refine ⟨⟨(KK b7).1.1, (XT_sD A x).tr (KK b7).1.2.1, (KK b7).1.2.2⟩, fun E H locs ls hl hr hn hs hq => ?_⟩
  have hk := (KK b7).2 E
  refine W.dast E.1 E.2.1 (hr.arD w) ((gkA E.2.2.2.2.2.1 (k := 3) (by decide)).1 1 _) (fun q => by cases q) (by show ¬ (_ ∨ (arrV _ _ _).slots.size ≤ _); rw [arrV_size]; exact in01) rfl rfl hd fun H1 e1 e2 e3 => ?_
  refine hk H1 _ ls hl ?_ hn hs (locs_app (by decide) hq)
  refine hr.upd (hN_sD A x) (by decide) e2 e3 (fun b => rfl) (fun b hb => ⟨fun K j => rfl, fun K hK => ?_⟩) ?_
  · have hb : ¬ b = 375 := hb
    unfold aA
    rw [if_neg hb, if_neg hb]
    rfl
  · show jcell g (sD A x) H1 375
    unfold jcell
    have hkd : kdA (sD A x) 375 = 61 := rfl
    rw [hkd, if_neg (by decide), if_neg (by decide), e1]
    have z0 : (Int32.ofInt 0).toNatClampNeg = 0 := rfl
    rw [z0]
    show some ((arrV (gC g 3) 1 (fun _ => .double (hDb A))).setSlot 0 (.double x)) = some (arrV (gC g 3) 1 (fun _ => .double x))
    rw [arrV_store]
    congr 1
theorem jscS {p : Program} {e : Env} {s : State} {m : MethodId} {args : Array Value} {below : List Frame} {meth : Method} {c : Code} {H : Heap} {locs : List Loc} (E : JE g p l e s m args below meth c own mn cc nL ret n0) (hr : REL g A H) (w : WFA A) (hq : ∀ q ∈ locs, gB g < q.base) : va_S (jA g) (gH g) H locs := by
  have h1 := E.2.2.2.2.2.1.2.2.2.2.2.2.1
  have h2 := hr.1
  have h3 := w.1
  exact ⟨by rw [h1, h2]; omega, fun q _ h4 => hr.2.1 q (Nat.not_lt.mp h4), hq⟩
theorem j_sclen (hL : inR (gS g 7 : Int)) (hd : decode cc pc = .ok (.arraylength, 1)) (KK : J g l d own mn cc nL ret n0 s0 o Z (pc + 1) lv (vI (gS g 7 : Int) :: st) A) : J g l d own mn cc nL ret n0 s0 o Z pc lv (.ref (gS g 6) :: st) A := by
  intro w
  refine ⟨(KK w).1, fun E H locs ls hl hr hn hs hq => ?_⟩
  have hk := (KK w).2 E H locs ls hl hr hn hs hq
  have hG := E.2.2.2.2.2.1
  have hX := hG.2.2.2.2.2.2.2.2.1
  have hb := hG.2.2.2.2.2.2.2.2.2
  have hz := hG.2.2.2.2.2.2.1
  refine va_slen E.1 E.2.1 (va_X.moved (Vm.Alike.refl _) hX) (by omega) (by show ¬ gB g < _; omega) (jscS E hr w hq) hd ?_
  have e : Int32.ofNat (gS g 7) = Int32.ofInt (gS g 7) := (Int32.ofInt_eq_ofNat).symm
  rw [e]
  exact hk
theorem j_scld {z : Int} (hz : inR z) (hd : decode cc pc = .ok (.iaload, 1)) (hi : 0 ≤ z ∧ z < (gS g 7 : Int)) (KK : J g l d own mn cc nL ret n0 s0 o Z (pc + 1) lv (vI (gXi g z.toNat) :: st) A) : J g l d own mn cc nL ret n0 s0 o Z pc lv (vI z :: .ref (gS g 6) :: st) A := by
  intro w
  refine ⟨(KK w).1, fun E H locs ls hl hr hn hs hq => ?_⟩
  have hk := (KK w).2 E H locs ls hl hr hn hs hq
  have hG := E.2.2.2.2.2.1
  have hX := hG.2.2.2.2.2.2.2.2.1
  have hb := hG.2.2.2.2.2.2.2.2.2
  have hz2 := hG.2.2.2.2.2.2.1
  refine va_sld E.1 E.2.1 hX (by omega) (by show ¬ gB g < _; omega) (jscS E hr w hq) (i32_in hz hi.1 hi.2) hd ?_
  rw [i32_idx hz hi.1]
  rw [vI, gXi, i32_of] at hk
  exact hk
end JL
