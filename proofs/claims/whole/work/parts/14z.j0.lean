/-! bodies that build the heap -/
def WF0 (A : AH) : Prop := ∀ a k, inR (gI A a k)
theorem WF0_sI {A : AH} (w : WF0 A) (a k : Nat) {v : Int} (hv : inR v) : WF0 (sI A a k v) := fun b j => by rw [gI_sI]; split; exact hv; exact w b j
theorem WF0_sP {A : AH} (w : WF0 A) (a k q : Nat) : WF0 (sP A a k q) := w
theorem WF0_nC {A : AH} (w : WF0 A) (K n : Nat) : WF0 (nC A K n) := fun b j => by
  rw [gI_nC]
  split
  · exact inR_0
  · exact w b j
/-- arrays over our classes -/
def AO (U : State) : Prop := va_AO RX3 U ∧ va_AO RX4 U ∧ va_AO RX0 U ∧ va_AO RX5 U
theorem AO.warm {s U : State} (hW : s.WarmedH U.vm) (h : AO s) : AO U := ⟨va_AO.moved hW.alike h.1, va_AO.moved hW.alike h.2.1, va_AO.moved hW.alike h.2.2.1, va_AO.moved hW.alike h.2.2.2⟩
def GK0 (g : JG) (U : State) : Prop := GK g U ∧ AO U
theorem GK0.warm {g : JG} {s U : State} (hW : s.WarmedH U.vm) (h : GK0 g s) : GK0 g U := ⟨h.1.warm hW, h.2.warm hW⟩
theorem GK0.fr {g : JG} {U : State} {G : JFrame} {mk : MethodId} {a : Array Value} (h : GK0 g U) : GK0 g (U.calling G mk a) := GK0.warm (s := U) (State.WarmedH.refl U) h
def CT0 (g : JG) (l : Launch) (y : MethodName) (cc : ByteArray) (nL : Nat) (ret : Option FieldType) (d : Nat) (as : List Value) (A : AH) (o : JO) (Z : Prop) : Prop :=
  WF0 A → (Z ∧ XT A o.2.2 ∧ WF0 o.2.2) ∧ vx_Met l y (jws y cc nL ret) (jrm d (hN o.2.2 - hN A) (hSl o.2.2 - hSl A)) (va_Pc as (fun U => REL g A U.heap ∧ GK0 g U)) (jQ g o) (jX g o) (hN o.2.2 - hN A) (hSl o.2.2 - hSl A) (jF g)
def JE0 (g : JG) (p : Program) (l : Launch) (_ : Env) (s : State) (m : MethodId) (args : Array Value) (_ : List Frame) (meth : Method) (c : Code) (own mn : String) (cc : ByteArray) (nL : Nat) (ret : Option FieldType) (n0 : Nat) : Prop :=
  p.tables.exec = Jvm.exec ∧ c.code = cc ∧ c.maxLocals = nL ∧ s.vm.findClass own = some m.cls ∧ (∀ w ∈ lw_gd, w.before args s = true) ∧ GK g s ∧ meth.sig.returnType = ret ∧ meth.locks = false ∧ l.stackTraces = false ∧
  s.heap.size = gB g + n0 ∧ (∀ q, q ≤ gB g → s.heap[q]? = (gH g)[q]?) ∧ meth.name = mn ∧ c.exceptionTable.toList = tableOf (jtab own mn) ∧ AO s
theorem JE0.up {g : JG} {p : Program} {l : Launch} {e : Env} {s : State} {m : MethodId} {args : Array Value} {below : List Frame} {meth : Method} {c : Code} {own mn : String} {cc : ByteArray} {nL : Nat} {ret : Option FieldType} {n0 : Nat} (h : JE0 g p l e s m args below meth c own mn cc nL ret n0) : JE g p l e s m args below meth c own mn cc nL ret n0 := by
  obtain ⟨h1, h2, h3, h4, h5, h6, h7, h8, h9, h10, h11, h12, h13, -⟩ := h
  exact ⟨h1, h2, h3, h4, h5, h6, h7, h8, h9, h10, h11, h12, h13⟩
theorem JE0.ao {g : JG} {p : Program} {l : Launch} {e : Env} {s : State} {m : MethodId} {args : Array Value} {below : List Frame} {meth : Method} {c : Code} {own mn : String} {cc : ByteArray} {nL : Nat} {ret : Option FieldType} {n0 : Nat} (h : JE0 g p l e s m args below meth c own mn cc nL ret n0) : AO s := by
  obtain ⟨-, -, -, -, -, -, -, -, -, -, -, -, -, h⟩ := h
  exact h
theorem JE0.gk {g : JG} {p : Program} {l : Launch} {e : Env} {s : State} {m : MethodId} {args : Array Value} {below : List Frame} {meth : Method} {c : Code} {own mn : String} {cc : ByteArray} {nL : Nat} {ret : Option FieldType} {n0 : Nat} (h : JE0 g p l e s m args below meth c own mn cc nL ret n0) : GK0 g s := ⟨h.2.2.2.2.2.1, h.ao⟩
def J0 (g : JG) (l : Launch) (d : Nat) (own mn : String) (cc : ByteArray) (nL : Nat) (ret : Option FieldType) (n0 s0 : Nat) (o : JO) (Z : Prop) (pc : Nat) (lv : List (Nat × Value)) (st : List Value) (A : AH) : Prop :=
  WF0 A → (Z ∧ XT A o.2.2 ∧ WF0 o.2.2) ∧ ∀ {p : Program} {e : Env} {s : State} {m : MethodId} {args : Array Value} {below : List Frame} {meth : Method} {c : Code}, JE0 g p l e s m args below meth c own mn cc nL ret n0 →
    ∀ (H : Heap) (locs : List Loc) (ls : Array Slot), lv_has ls nL lv → REL g A H → n0 ≤ hN A → s0 ≤ hSl A → (∀ q ∈ locs, gB g < q.base) →
    W p l e (jrm d (hN o.2.2 - n0) (hSl o.2.2 - s0)) s m args below meth c H locs (hN A - n0) (hSl A - s0) (vx_MQ below (jQ g o) (jX g o) args s (hN o.2.2 - n0) (hSl o.2.2 - s0) (jF g)) (F0 m pc ls st)
/-- a heap with one cell more -/
theorem jpush (H : Heap) (x : Cell) : (H.push x).size = H.size + 1 ∧ (H.push x)[H.size]? = some x ∧ ∀ q : Nat, q < H.size → (H.push x)[q]? = H[q]? :=
  ⟨Array.size_push x, Array.getElem?_push_size, fun _ hq => (Array.getElem?_push).trans (if_neg (Nat.ne_of_lt hq))⟩
section JZ
variable {g : JG} {l : Launch} {d : Nat} {own mn : String} {cc : ByteArray} {nL : Nat} {ret : Option FieldType} {n0 s0 : Nat} {o : JO} {Z : Prop} {pc : Nat} {lv : List (Nat × Value)} {st : List Value} {A : AH}
/-- where the layout stands, the rows of J go on -/
theorem j0_of (w : WFA A) (h : J g l d own mn cc nL ret n0 s0 o Z pc lv st A) : J0 g l d own mn cc nL ret n0 s0 o Z pc lv st A := fun _ => by
  obtain ⟨h1, h2⟩ := h w
  exact ⟨⟨h1.1, h1.2.1, h1.2.2.2.2.1⟩, fun E => h2 E.up⟩
theorem JE0.low {p : Program} {e : Env} {s : State} {m : MethodId} {args : Array Value} {below : List Frame} {meth : Method} {c : Code} (E : JE0 g p l e s m args below meth c own mn cc nL ret n0) : ∀ a : Nat, a < (gH g).size → ¬ jA g a → s.heap[a]? = (gH g)[a]? := E.up.low
theorem jwsE0 {p : Program} {e : Env} {s : State} {m : MethodId} {args : Array Value} {below : List Frame} {meth : Method} {c : Code} {H : Heap} {locs : List Loc} (E : JE0 g p l e s m args below meth c own mn cc nL ret n0) (hr : REL g A H) (hn : n0 ≤ hN A) (hq : ∀ q ∈ locs, gB g < q.base) : va_S (jA g) s.heap H locs := jwsE E.up hr hn hq
theorem J0.lift {pc' : Nat} {lv' : List (Nat × Value)} {st' : List Value} (h : ∀ {p : Program} {e : Env} {s : State} {m : MethodId} {args : Array Value} {below : List Frame} {meth : Method} {c : Code}, JE0 g p l e s m args below meth c own mn cc nL ret n0 → ∀ (R : Room) (H : Heap) (locs : List Loc) (k n : Nat) (Q : State → Prop) (ls : Array Slot), lv_has ls nL lv → (∀ ls', lv_has ls' nL lv' → W p l e R s m args below meth c H locs k n Q (F0 m pc' ls' st')) → W p l e R s m args below meth c H locs k n Q (F0 m pc ls st))
    (K : J0 g l d own mn cc nL ret n0 s0 o Z pc' lv' st' A) : J0 g l d own mn cc nL ret n0 s0 o Z pc lv st A :=
  fun w => ⟨(K w).1, fun E H locs ls hl hr hn hs hq => h E _ H locs _ _ _ ls hl (fun ls' hl' => (K w).2 E H locs ls' hl' hr hn hs hq)⟩
theorem j0_sub (ks : List Nat) {lv' : List (Nat × Value)} (h : lv_pick lv ks = lv') (K : J0 g l d own mn cc nL ret n0 s0 o Z pc lv' st A) : J0 g l d own mn cc nL ret n0 s0 o Z pc lv st A :=
  fun w => ⟨(K w).1, fun E H locs ls hl => (K w).2 E H locs ls (lv_sub hl ks h)⟩
theorem j0_iconst {n : Int} (hd : decode cc pc = .ok (.iconst n, 1)) (K : J0 g l d own mn cc nL ret n0 s0 o Z (pc + 1) lv (vI n :: st) A) : J0 g l d own mn cc nL ret n0 s0 o Z pc lv st A :=
  J0.lift (fun E _ _ _ _ _ _ _ hl k => lv_iconst E.1 E.2.1 hd rfl (k _ hl)) K
theorem j0_bipush {n : Int} (hd : decode cc pc = .ok (.bipush n, 2)) (hv : (Int8.ofInt n).toInt32 = Int32.ofInt n) (K : J0 g l d own mn cc nL ret n0 s0 o Z (pc + 2) lv (vI n :: st) A) : J0 g l d own mn cc nL ret n0 s0 o Z pc lv st A :=
  J0.lift (fun E _ _ _ _ _ _ _ hl k => lv_bipush E.1 E.2.1 hd hv (k _ hl)) K
theorem j0_sipush {n : Int} (hd : decode cc pc = .ok (.sipush n, 3)) (hv : (Int16.ofInt n).toInt32 = Int32.ofInt n) (K : J0 g l d own mn cc nL ret n0 s0 o Z (pc + 3) lv (vI n :: st) A) : J0 g l d own mn cc nL ret n0 s0 o Z pc lv st A :=
  J0.lift (fun E _ _ _ _ _ _ _ hl k => lv_sipush E.1 E.2.1 hd hv (k _ hl)) K
theorem j0_iload_n {k : Fin 4} {i j : Nat} {x : Int} (hd : decode cc pc = .ok (.iload_n k, 1)) (hi : (k : Nat) = i) (hl : lv[j]? = some (i, vI x)) (K : J0 g l d own mn cc nL ret n0 s0 o Z (pc + 1) lv (vI x :: st) A) : J0 g l d own mn cc nL ret n0 s0 o Z pc lv st A :=
  J0.lift (fun E _ _ _ _ _ _ _ h k => lv_iload_n E.1 E.2.1 hd hi (lv_at h j hl) (k _ h)) K
theorem j0_aload_n {k : Fin 4} {i j : Nat} {x : Nat} (hd : decode cc pc = .ok (.aload_n k, 1)) (hi : (k : Nat) = i) (hl : lv[j]? = some (i, .ref x)) (K : J0 g l d own mn cc nL ret n0 s0 o Z (pc + 1) lv (.ref x :: st) A) : J0 g l d own mn cc nL ret n0 s0 o Z pc lv st A :=
  J0.lift (fun E _ _ _ _ _ _ _ h k => lv_aload_n E.1 E.2.1 hd hi (lv_at h j hl) (k _ h)) K
theorem j0_istore_n {k : Fin 4} {i : Nat} {x : Int} {lv' : List (Nat × Value)} (hd : decode cc pc = .ok (.istore_n k, 1)) (hi : (k : Nat) = i) (hn : i < nL) (hc : lv.all (fun q => q.2.category == 1) = true) (hl : (i, vI x) :: lv.filter (fun q => !(q.1 == i)) = lv')
    (K : J0 g l d own mn cc nL ret n0 s0 o Z (pc + 1) lv' st A) : J0 g l d own mn cc nL ret n0 s0 o Z pc lv (vI x :: st) A :=
  J0.lift (fun E _ _ _ _ _ _ _ h k => lv_istore_n E.1 E.2.1 hd hi h hn (by rw [jfil hc]; exact hl) k) K
theorem j0_istore {i : Nat} {x : Int} {lv' : List (Nat × Value)} (hd : decode cc pc = .ok (.istore i, 2)) (hn : i < nL) (hc : lv.all (fun q => q.2.category == 1) = true) (hl : (i, vI x) :: lv.filter (fun q => !(q.1 == i)) = lv')
    (K : J0 g l d own mn cc nL ret n0 s0 o Z (pc + 2) lv' st A) : J0 g l d own mn cc nL ret n0 s0 o Z pc lv (vI x :: st) A :=
  J0.lift (fun E _ _ _ _ _ _ _ h k => lv_istore E.1 E.2.1 hd h hn (by rw [jfil hc]; exact hl) k) K
theorem j0_astore_n {k : Fin 4} {i : Nat} {x : Nat} {lv' : List (Nat × Value)} (hd : decode cc pc = .ok (.astore_n k, 1)) (hi : (k : Nat) = i) (hn : i < nL) (hc : lv.all (fun q => q.2.category == 1) = true) (hl : (i, .ref x) :: lv.filter (fun q => !(q.1 == i)) = lv')
    (K : J0 g l d own mn cc nL ret n0 s0 o Z (pc + 1) lv' st A) : J0 g l d own mn cc nL ret n0 s0 o Z pc lv (.ref x :: st) A :=
  J0.lift (fun E _ _ _ _ _ _ _ h k => lv_astore_n E.1 E.2.1 hd hi h hn (by rw [jfil hc]; exact hl) k) K
theorem j0_astore {i : Nat} {x : Nat} {lv' : List (Nat × Value)} (hd : decode cc pc = .ok (.astore i, 2)) (hn : i < nL) (hc : lv.all (fun q => q.2.category == 1) = true) (hl : (i, .ref x) :: lv.filter (fun q => !(q.1 == i)) = lv')
    (K : J0 g l d own mn cc nL ret n0 s0 o Z (pc + 2) lv' st A) : J0 g l d own mn cc nL ret n0 s0 o Z pc lv (.ref x :: st) A :=
  J0.lift (fun E _ _ _ _ _ _ _ h k => lv_astore E.1 E.2.1 hd h hn (by rw [jfil hc]; exact hl) k) K
theorem j0_iinc {i k : Nat} {n x : Int} {lv' : List (Nat × Value)} (hd : decode cc pc = .ok (.iinc i n, 3)) (hk : lv[k]? = some (i, vI x)) (hn : i < nL) (hc : lv.all (fun q => q.2.category == 1) = true) (hl : (i, vI (wrap (x + n))) :: lv.filter (fun q => !(q.1 == i)) = lv')
    (K : J0 g l d own mn cc nL ret n0 s0 o Z (pc + 3) lv' st A) : J0 g l d own mn cc nL ret n0 s0 o Z pc lv st A :=
  J0.lift (fun E _ _ _ _ _ _ _ h kk => lv_iinc E.1 E.2.1 hd h hk (i32_add x n) hn (by rw [jfil hc]; exact hl) kk) K
theorem j0_dup {v : Value} (hd : decode cc pc = .ok (.dup, 1)) (hv : v.category = 1) (K : J0 g l d own mn cc nL ret n0 s0 o Z (pc + 1) lv (v :: v :: st) A) : J0 g l d own mn cc nL ret n0 s0 o Z pc lv (v :: st) A :=
  J0.lift (fun E _ _ _ _ _ _ _ h k => lv_dup E.1 E.2.1 hd hv (k _ h)) K
theorem j0_goto {off : Int} {tgt : Nat} (hd : decode cc pc = .ok (.goto off, 3)) (ht : (pc : Int) + off = (tgt : Int)) (K : J0 g l d own mn cc nL ret n0 s0 o Z tgt lv st A) : J0 g l d own mn cc nL ret n0 s0 o Z pc lv st A :=
  J0.lift (fun E _ _ _ _ _ _ _ h k => lv_goto E.1 E.2.1 hd ht (k _ h)) K
theorem j0_icmp_ge_t  {x y : Int} (hx : inR x) (hy : inR y) {off : Int} {tgt : Nat} (hd : decode cc pc = .ok (.if_icmp .ge off, 3)) (ht : (pc : Int) + off = (tgt : Int)) (h : y ≤ x) (K : J0 g l d own mn cc nL ret n0 s0 o Z tgt lv st A) : J0 g l d own mn cc nL ret n0 s0 o Z pc lv (vI y :: vI x :: st) A := by
  have e0 := i32_le hy hx
  refine J0.lift (fun E _ _ _ _ _ _ _ hl k => lv_icmp_ge E.1 E.2.1 hd ht (fun q => ?_) (fun q => ?_)) K
  · exact k _ hl
  · exact absurd (e0.mpr h) (by first | exact q | (intro q2; exact q q2) | exact (fun z => z q) | (rw [ge_iff_le] at q; exact q) | (rw [gt_iff_lt] at q; exact q))
theorem j0_icmp_ge_f  {x y : Int} (hx : inR x) (hy : inR y) {off : Int} {tgt : Nat} (hd : decode cc pc = .ok (.if_icmp .ge off, 3)) (ht : (pc : Int) + off = (tgt : Int)) (h : ¬ (y ≤ x)) (K : J0 g l d own mn cc nL ret n0 s0 o Z (pc + 3) lv st A) : J0 g l d own mn cc nL ret n0 s0 o Z pc lv (vI y :: vI x :: st) A := by
  have e0 := i32_le hy hx
  refine J0.lift (fun E _ _ _ _ _ _ _ hl k => lv_icmp_ge E.1 E.2.1 hd ht (fun q => ?_) (fun q => ?_)) K
  · exact absurd (e0.mp (by first | exact q | (rw [ge_iff_le] at q; exact q) | (rw [gt_iff_lt] at q; exact q))) h
  · exact k _ hl
theorem CT0_of {y : MethodName} {as : List Value} (hy : plainFor y = true) (hl : l.stackTraces = false) (hlen : (lg_sl as).length ≤ nL) (hlv : lv_args 0 as = lv) (hb : J0 g l d y.cls y.name cc nL ret (hN A) (hSl A) o Z 0 lv [] A) (hjt : jtab y.cls y.name = [] := by first | rfl | decide) : CT0 g l y cc nL ret d as A o Z := by
  intro w
  refine ⟨(hb w).1, jx_ofW (cc := cc) (maxL := nL) (ret := ret) hy rfl ?_⟩
  intro p e s m args below meth c s₁ B hml hex hv
  obtain ⟨rfl, hr, hG⟩ := hv
  have hE : JE0 g p l e s m as.toArray below meth c y.cls y.name cc nL ret (hN A) :=
    ⟨B.exec, B.bytes, hml, findClass_of_methodNamed B.named, fun w hw => atoms_spec (ws := jws y cc nL ret) B.pre w (List.mem_cons_of_mem _ hw), hG.1, B.returns, B.notSynchronized, hl, hr.1, hr.2.1, (name_of_methodNamed B.named B.method).1, (by rw [hjt]; exact List.eq_nil_iff_forall_not_mem.mpr (fun x hx => hex x hx)), hG.2⟩
  have hlE := lv_entry as (n := nL) hlen
  rw [lg_entry_eq]
  rw [hlv] at hlE
  have h := (hb w).2 hE s.heap [] _ hlE hr (Nat.le_refl _) (Nat.le_refl _) (fun q hq => nomatch hq)
  rw [Nat.sub_self, Nat.sub_self] at h
  exact h
theorem j0_vret (hd : decode cc pc = .ok (.return_, 1)) (hret : ret = none) (ho : o = (0, none, A)) (hZ : Z) : J0 g l d own mn cc nL ret n0 s0 o Z pc lv [] A := by
  subst ho
  exact fun w => ⟨⟨hZ, XT.rf A, w⟩, fun E H locs ls hl hr hn0 hs hq => vx_ret (W.vret E.1 E.2.1 (E.2.2.2.2.2.2.1.trans hret) (fun t ht _ => ⟨rfl, rfl, by rw [ht]; exact hr⟩) hq hd E.2.2.2.2.2.2.2.1)⟩
theorem pcBlind0 {as : List Value} {A : AH} : FrameBlind (va_Pc as (fun U => REL g A U.heap ∧ GK0 g U)) := fun a U G mk h => ⟨h.1, h.2.1, h.2.2.fr⟩
theorem j0_of_run {A1 : AH} {v : Option Value} {Z' : Prop} {st0 : List Value} {X : Array Value} (hC : WF0 A → Z' ∧ XT A A1 ∧ WF0 A1)
    (hrun : WF0 A → ∀ {p : Program} {e : Env} {s : State} {m : MethodId} {args : Array Value} {below : List Frame} {meth : Method} {c : Code}, JE0 g p l e s m args below meth c own mn cc nL ret n0 → ∀ (R : Room) (H : Heap) (locs : List Loc) (ls : Array Slot) (k n : Nat), lv_has ls nL lv → REL g A H → R.frames = d → R.locals = 40 * d → k + (hN A1 - hN A) ≤ R.cells → n + (hSl A1 - hSl A) ≤ R.slots →
      vx_Run p l e R s m args below meth c H locs k n (hN A1 - hN A) (hSl A1 - hSl A) (F0 m pc ls st0) st (jQ g (0, v, A1) X) (jX g (0, v, A1)) (jF g))
    (KK : Z' → XT A A1 → J0 g l d own mn cc nL ret n0 s0 o Z (pc + 3) lv (v.toList ++ st) A1) : J0 g l d own mn cc nL ret n0 s0 o Z pc lv st0 A := by
  intro w
  obtain ⟨z1, z2, z3⟩ := hC w
  have K2 := KK z1 z2 z3
  refine ⟨⟨K2.1.1, z2.tr K2.1.2.1, K2.1.2.2⟩, fun E H locs ls hl hr hn hs hq => ?_⟩
  have hx1 := K2.1.2.1.1
  have hx2 := K2.1.2.1.2.1
  have hx3 := z2.1
  have hx4 := z2.2.1
  intro T hT X
  have e1 : hN A - n0 + (hN A1 - hN A) = hN A1 - n0 := by omega
  have e2 : hSl A - s0 + (hSl A1 - hSl A) = hSl A1 - s0 := by omega
  rcases hrun w E _ H locs ls _ _ hl hr rfl rfl (by show _ ≤ hN o.2.2 - n0; omega) (by show _ ≤ hSl o.2.2 - s0; omega) T hT X with ⟨v', st₀, t, T', L, h0, X', hL, q1, q2, ⟨-, hv, hR⟩, stp⟩ | ⟨q, st₀, t, T', L, Ee, ce, h0, X', hL, q1, q2, ⟨hbad, -⟩, -⟩
  · cases hv
    rw [e1, e2] at X'
    obtain ⟨t2, a1, b1⟩ := K2.2 E T'.heap (locs ++ L) ls hl (by rw [q1]; exact hR) (by omega) (by omega) (fun q hm => by
      rcases List.mem_append.mp hm with h | h
      · exact hq q h
      · exact hL q h) T' rfl X'
    exact ⟨t2, stp t2 a1, b1⟩
  · exact absurd rfl hbad
theorem jrunI0 {o' : JO} {Z' : Prop} {idx d' a n : Nat} {y : MethodName} {cc' : ByteArray} {nL' : Nat} {As : List Value} (L : MLK own idx y) (M : MY y cc' nL' none n) (hI : Cond.instanceMethod y ∈ lw_gd) (hy1 : y.name = "<init>") (hlo : nL' ≤ 20) (hd' : d' + 1 ≤ d) (hst : (st.map fun v => v.category).sum ≤ 8) (hn : As.length = n)
    (hC : CT0 g l y cc' nL' none d' (.ref (gB g + a) :: As) A o' Z') (hd : decode cc pc = .ok (.invokespecial idx, 3)) : WF0 A → ∀ {p : Program} {e : Env} {s : State} {m : MethodId} {args : Array Value} {below : List Frame} {meth : Method} {c : Code}, JE0 g p l e s m args below meth c own mn cc nL ret n0 → ∀ (R : Room) (H : Heap) (locs : List Loc) (ls : Array Slot) (k n : Nat), lv_has ls nL lv → REL g A H → R.frames = d → R.locals = 40 * d → k + (hN o'.2.2 - hN A) ≤ R.cells → n + (hSl o'.2.2 - hSl A) ≤ R.slots →
      vx_Run p l e R s m args below meth c H locs k n (hN o'.2.2 - hN A) (hSl o'.2.2 - hSl A) (F0 m pc ls (As.reverse ++ .ref (gB g + a) :: st)) st (jQ g o' (Value.ref (gB g + a) :: As).toArray) (jX g o') (jF g) := by
  intro w p e s m args below meth c E R H locs ls k n2 hl hr hRf hRl hk1 hk2
  have hts := E.2.2.2.2.1
  have hG := E.gk
  exact vx_runI (b := gB g + a) (As := As) (rest := st) ⟨E.1, E.2.1, E.2.2.1, E.2.2.2.1, hts⟩ (hC w).2 ⟨jcallB hts L M (by omega) hlo (by omega), hy1, hts _ hI⟩ ⟨pcBlind0, fun U hU hW => ⟨rfl, by rw [hU]; exact hr, hG.warm hW⟩⟩ rfl hn hl.1 rfl (lv_room hst) hd ⟨hk1, hk2⟩
theorem j0_callI {A1 : AH} {v : Option Value} {Z' : Prop} {idx d' a n : Nat} {y : MethodName} {cc' : ByteArray} {nL' : Nat} {As : List Value} (L : MLK own idx y) (M : MY y cc' nL' none n) (hI : Cond.instanceMethod y ∈ lw_gd) (hy1 : y.name = "<init>") (hlo : nL' ≤ 20) (hd' : d' + 1 ≤ d) (hst : (st.map fun v => v.category).sum ≤ 8) (hn : As.length = n)
    (hC : CT0 g l y cc' nL' none d' (.ref (gB g + a) :: As) A (0, v, A1) Z') (hd : decode cc pc = .ok (.invokespecial idx, 3)) {st0 : List Value} (hst0 : st0 = As.reverse ++ .ref (gB g + a) :: st)
    (KK : Z' → XT A A1 → J0 g l d own mn cc nL ret n0 s0 o Z (pc + 3) lv (v.toList ++ st) A1) : J0 g l d own mn cc nL ret n0 s0 o Z pc lv st0 A := by
  subst hst0
  exact j0_of_run (fun w => (hC w).1) (jrunI0 L M hI hy1 hlo hd' hst hn hC hd) KK
theorem j0_put  {idx K k a : Nat} {v : Value} {B : AH} (F : FLD own idx K k) (hfin : (jT K k).2.2.2 = false) (hn : narrow (jY K k) v = v) (hfit : fits (jY K k) v = true) (hd : decode cc pc = .ok (.putfield idx, 3)) (h1 : 1 ≤ a) (h2 : a < hN A) (hka : kdA A a = K)
    (b1 : hN B = hN A) (b2 : hSl B = hSl A) (b3 : ∀ b, kdA B b = kdA A b) (b4 : ∀ b, b ≠ a → (∀ K k, fv g B b K k = fv g A b K k) ∧ (∀ K, kdA A b = K → aA g B b K = aA g A b K)) (b5 : ∀ j, j < jfn K → fv g B a K j = updV (fv g A a K) k v j) (b6 : XT A B) (b7 : WF0 B) (KK : J0 g l d own mn cc nL ret n0 s0 o Z (pc + 3) lv st B) : J0 g l d own mn cc nL ret n0 s0 o Z pc lv (v :: .ref (gB g + a) :: st) A := by
  intro w
  refine ⟨⟨(KK b7).1.1, b6.tr (KK b7).1.2.1, (KK b7).1.2.2⟩, fun E H locs ls hl hr hn0 hs hq => ?_⟩
  have hk := (KK b7).2 E
  rw [b1, b2] at hk
  obtain ⟨F1, F2, F3⟩ := F
  have hx := E.1
  have hb := E.2.1
  have hown := E.2.2.2.1
  have hts := E.2.2.2.2.1
  have hG := E.2.2.2.2.2.1
  have hap := va_apart (own := own) hts (jC_in F1) (jY K) (jC_ty F1) (jC_nm F1) hG.1 (jcl_at F1)
  obtain ⟨cell, q1, q2, q3, q4⟩ := hr.ob h1 h2 hka F1
  obtain ⟨hS, hfc, kC, hkC, hkind⟩ := hG.1.1 K _ (jcl_at F1)
  obtain ⟨cf, kf, fi, f, hi, hsl⟩ := hS k F2
  have hlay := hts _ (jC_in F1 _ (u_in_lay F2))
  unfold u_lay at hlay
  rw [if_neg (by rw [hfin]; decide)] at hlay
  have hst := (u_facts hfc hkC (u_lays hts (jC_in F1) F2) hi).1
  have h6 := u_store hfc hkC hkind hlay hi (jC_ty F1 k F2) hn hfit
  have fin : ∀ H1 : Heap, H1[gB g + a]? = some (cell.setSlot f.slot v) → H1.size = H.size → (∀ q, q ≠ gB g + a → H1[q]? = H[q]?) → REL g B H1 := fun H1 e1 e2 e3 => by
    refine hr.upd b1 h1 e2 e3 b3 b4 ?_
    unfold jcell
    rw [b3, hka, if_pos F1]
    rw [hsl] at e1
    exact t_OB.to (V := updV (fv g A a K) k v) ⟨_, e1, q2, q3, t_set q4 hap F2 v⟩ (fun j hj => (b5 j hj).symm)
  have hq1 : ∀ q ∈ locs ++ [⟨gB g + a, f.slot⟩], gB g < q.base := fun q hm => by
    rcases List.mem_append.mp hm with h | h
    · exact hq q h
    · rw [List.mem_singleton.mp h]
      show gB g < gB g + a
      omega
  rcases F3 with F3 | ⟨host, F3⟩
  · exact W.putK hx hb (f := f) ⟨hown, hts _ F3, ⟨_, _, _, hi⟩, hst⟩ (by rw [q2]; exact h6) q1 q3 (by rw [hsl]; exact k2_hasslot (q4 k F2)) rfl rfl hd fun H1 e1 e2 e3 => hk H1 _ ls hl (fin H1 e1 e2 e3) hn0 hs hq1
  · exact va_WputK hx hb (f := f) hown (va_Nw.use rfl (hG.2.2.2.2.2.1 _ F3)) hi hst (by rw [q2]; exact h6) q1 q3 (by rw [hsl]; exact k2_hasslot (q4 k F2)) rfl rfl hd fun H1 e1 e2 e3 => hk H1 _ ls hl (fin H1 e1 e2 e3) hn0 hs hq1
theorem j0_putV  {idx K k a : Nat} {x : Int} (F : FLD own idx K k) (hf : jfr K k = false) (hfin : (jT K k).2.2.2 = false) (hn : narrow (jY K k) (vI x) = vI x) (hfit : fits (jY K k) (vI x) = true) (hx : inR x) (hd : decode cc pc = .ok (.putfield idx, 3)) (h1 : 1 ≤ a) (h2 : WF0 A → a < hN A) (hka : kdA A a = K) (KK : J0 g l d own mn cc nL ret n0 s0 o Z (pc + 3) lv st (sI A a k x)) : J0 g l d own mn cc nL ret n0 s0 o Z pc lv (vI x :: .ref (gB g + a) :: st) A := by
  intro w
  refine j0_put F hfin hn hfit hd h1 (h2 w) hka (hN_sI A a k x) (hSl_sI A a k x) (fun b => rfl) (fun b hb => ⟨fun K j => fv_sI hb, fun K _ => aA_sI hb⟩) (fun j hj => ?_) (XT_sI A a k x) (WF0_sI w a k hx) KK w
  unfold updV
  by_cases hj2 : j = k
  · rw [if_pos hj2, hj2, fv_i hf, gI_sI_self]
  · rw [if_neg hj2]
    unfold fv
    rw [gP_sI, gI_sI_ne (fun q => hj2 q.2)]
theorem j0_putF {idx K k a : Nat} {v : Value} {B : AH} (F1 : K < 10) (F2 : k < jfn K) (hown0 : own = jC K) (F3 : Cond.fieldLink own idx (jT K k).1 (jT K k).2.1 (jT K k).2.2.1 ∈ lw_gd) (hmn : mn = "<init>") (hdecl : (jT K k).1 = own) (hfin : (jT K k).2.2.2 = true) (hn : narrow (jY K k) v = v) (hfit : fits (jY K k) v = true) (hd : decode cc pc = .ok (.putfield idx, 3)) (h1 : 1 ≤ a) (h2 : a < hN A) (hka : kdA A a = K)
    (b1 : hN B = hN A) (b2 : hSl B = hSl A) (b3 : ∀ b, kdA B b = kdA A b) (b4 : ∀ b, b ≠ a → (∀ K k, fv g B b K k = fv g A b K k) ∧ (∀ K, kdA A b = K → aA g B b K = aA g A b K)) (b5 : ∀ j, j < jfn K → fv g B a K j = updV (fv g A a K) k v j) (b6 : XT A B) (b7 : WF0 B) (KK : J0 g l d own mn cc nL ret n0 s0 o Z (pc + 3) lv st B) : J0 g l d own mn cc nL ret n0 s0 o Z pc lv (v :: .ref (gB g + a) :: st) A := by
  intro w
  refine ⟨⟨(KK b7).1.1, b6.tr (KK b7).1.2.1, (KK b7).1.2.2⟩, fun {p e s m args below meth c} E H locs ls hl hr hn0 hs hq => ?_⟩
  have hk := (KK b7).2 E
  rw [b1, b2] at hk
  have hx := E.1
  have hb := E.2.1
  have hown := E.2.2.2.1
  have hts := E.2.2.2.2.1
  have hG := E.2.2.2.2.2.1
  have hap := va_apart (own := own) hts (jC_in F1) (jY K) (jC_ty F1) (jC_nm F1) hG.1 (jcl_at F1)
  obtain ⟨cell, q1, q2, q3, q4⟩ := hr.ob h1 h2 hka F1
  obtain ⟨hS, hfc, kC, hkC, hkind⟩ := hG.1.1 K _ (jcl_at F1)
  obtain ⟨cf, kf, fi, f, hi, hsl⟩ := hS k F2
  have hlay := hts _ (jC_in F1 _ (u_in_lay F2))
  unfold u_lay at hlay
  rw [if_pos hfin] at hlay
  have hst := (u_facts hfc hkC (u_lays hts (jC_in F1) F2) hi).1
  have hcf : m.cls = cf := jfin_own hlay hi hdecl hown
  have h6 := u_fits hfc hkC hkind (Or.inr hlay) hi (jC_ty F1 k F2) hn hfit
  refine W.putFinK hx hb hown (hts _ F3) hi hst hcf (E.2.2.2.2.2.2.2.2.2.2.2.1.trans hmn) (by rw [q2]; exact h6) q1 q3 (by rw [hsl]; exact k2_hasslot (q4 k F2)) rfl rfl hd fun H1 e1 e2 e3 => hk H1 _ ls hl ?_ hn0 hs (locs_app h1 hq)
  refine hr.upd b1 h1 e2 e3 b3 b4 ?_
  unfold jcell
  rw [b3, hka, if_pos F1]
  rw [hsl] at e1
  exact t_OB.to (V := updV (fv g A a K) k v) ⟨_, e1, q2, q3, t_set q4 hap F2 v⟩ (fun j hj => (b5 j hj).symm)
theorem j0_getf  {idx K k a : Nat} (F : FLD own idx K k) (hd : decode cc pc = .ok (.getfield idx, 3)) (h1 : 1 ≤ a) (h2 : a < hN A) (hka : kdA A a = K) (KK : J0 g l d own mn cc nL ret n0 s0 o Z (pc + 3) lv (fv g A a K k :: st) A) : J0 g l d own mn cc nL ret n0 s0 o Z pc lv (.ref (gB g + a) :: st) A := by
  intro w
  refine ⟨(KK w).1, fun E H locs ls hl hr hn hs hq => ?_⟩
  have hk := (KK w).2 E H locs ls hl hr hn hs hq
  obtain ⟨F1, F2, F3⟩ := F
  have hx := E.1
  have hb := E.2.1
  have hown := E.2.2.2.1
  have hts := E.2.2.2.2.1
  have hG := E.2.2.2.2.2.1
  obtain ⟨cell, q1, q2, q3, q4⟩ := hr.ob h1 h2 hka F1
  obtain ⟨hS, hfc, kC, hkC, hkind⟩ := hG.1.1 K _ (jcl_at F1)
  obtain ⟨cf, kf, fi, f, hi, hsl⟩ := hS k F2
  have hst := (u_facts hfc hkC (u_lays hts (jC_in F1) F2) hi).1
  rcases F3 with F3 | ⟨host, F3⟩
  · exact W.getf hx hb hown (hts _ F3) hi hst q1 (by rw [q3]; exact fun h => by cases h) (by rw [hsl, q4 k F2]) rfl rfl hd hk
  · exact va_Wgetf hx hb hown (va_Nw.use rfl (hG.2.2.2.2.2.1 _ F3)) hi hst q1 (by rw [q3]; exact fun h => by cases h) (by rw [hsl, q4 k F2]) rfl rfl hd hk
theorem j0_objInit {idx a : Nat} (L : Cond.methodLink own idx objectInit ∈ lw_gd) (hin : Cond.instanceMethod objectInit ∈ lw_gd) (hcode : Cond.code objectInit ⟨#[0xb1]⟩ 1 none ∈ lw_gd) (hd : decode cc pc = .ok (.invokespecial idx, 3)) (hst : (st.map fun v => v.category).sum ≤ 8) (hd1 : 2 ≤ d) (KK : J0 g l d own mn cc nL ret n0 s0 o Z (pc + 3) lv st A) : J0 g l d own mn cc nL ret n0 s0 o Z pc lv (.ref a :: st) A := by
  intro w
  refine ⟨(KK w).1, fun E H locs ls hl hr hn hs hq => ?_⟩
  have hk := (KK w).2 E H locs ls hl hr hn hs hq
  have hts := E.2.2.2.2.1
  exact W.objInit E.1 E.2.1 E.2.2.2.1 (hts _ L) (hts _ hin) (hts _ hcode) rfl (hl.1.trans E.2.2.1.symm) rfl hd (by show 1 ≤ d; omega) (by show 2 * 0 + _ + 12 ≤ 40 * d; omega) hk
theorem j0_gets {idx k : Nat} (F : SFL own idx k) (hd : decode cc pc = .ok (.getstatic idx, 3)) (KK : J0 g l d own mn cc nL ret n0 s0 o Z (pc + 3) lv (.ref (gS g k) :: st) A) : J0 g l d own mn cc nL ret n0 s0 o Z pc lv st A := by
  intro w
  refine ⟨(KK w).1, fun E H locs ls hl hr hn hs hq => ?_⟩
  have hk := (KK w).2 E H locs ls hl hr hn hs hq
  have hG := E.2.2.2.2.2.1
  exact va_gets E.1 E.2.1 ((hG.2.1 k F.1).1.kept E.low) (jwsE0 E hr hn hq) E.2.2.2.1 (E.2.2.2.2.1 _ F.2) (fun _ h => h) hd hk
theorem j0_iast  {a K : Nat} {z x : Int} (hz : inR z) (hx : inR x) (hK : 10 ≤ K) (h9 : K ≠ 99) (hj : jek K = 0) (hd : decode cc pc = .ok (.iastore, 1)) (h1 : 1 ≤ a) (h2 : WF0 A → a < hN A) (hka : kdA A a = K) (hi : 0 ≤ z ∧ z < (jal K : Int)) (KK : J0 g l d own mn cc nL ret n0 s0 o Z (pc + 1) lv st (sI A a z.toNat x)) : J0 g l d own mn cc nL ret n0 s0 o Z pc lv (vI x :: vI z :: .ref (gB g + a) :: st) A := by
  intro w
  have b7 := WF0_sI w a z.toNat hx
  refine ⟨⟨(KK b7).1.1, (XT_sI A a z.toNat x).tr (KK b7).1.2.1, (KK b7).1.2.2⟩, fun E H locs ls hl hr hn hs hq => ?_⟩
  have hk := (KK b7).2 E
  have hP := hr.arI h1 (h2 w) hka hK h9 (by omega)
  refine W.iast E.1 E.2.1 (hP 0 _ rfl) (by have h5 := (gkA E.2.2.2.2.2.1 (k := 0) (by decide)).1 (jal K) (fun j => vI (gI A a j)); rw [hj]; exact h5) (fun q => by cases q) (by show ¬ (_ ∨ (arrV _ _ _).slots.size ≤ _); rw [arrV_size]; exact i32_in hz hi.1 hi.2) rfl rfl hd fun H1 e1 e2 e3 => ?_
  rw [i32_idx hz hi.1] at e1 ⊢
  exact hk H1 _ ls hl (hr.setI h1 (h2 w) hka hK h9 (by omega) e1 e2 e3) hn hs (locs_app h1 hq)
/-! new cells -/
theorem REL_new {H H1 : Heap} (h : REL g A H) (h0 : 1 ≤ hN A) {K n : Nat} (hz : H1.size = H.size + 1) (ho : ∀ q, q < H.size → H1[q]? = H[q]?) (hc : jcell g (nC A K n) H1 (hN A)) : REL g (nC A K n) H1 := by
  have hs := h.1
  refine ⟨by rw [hz, hs, hN_nC]; omega, fun q hq => by rw [ho q (by omega)]; exact h.2.1 q hq, fun a h1 h2 => ?_⟩
  rw [hN_nC] at h2
  by_cases ha : a = hN A
  · rw [ha]; exact hc
  · have h3 := h.2.2 a h1 (by omega)
    have hk : kdA (nC A K n) a = kdA A a := by
      unfold kdA
      rw [gK_nC, if_neg ha]
    have hq : H1[gB g + a]? = H[gB g + a]? := ho _ (by omega)
    have hf : ∀ J k, fv g (nC A K n) a J k = fv g A a J k := fun J k => by
      unfold fv
      rw [gP_nC, gI_nC, if_neg ha, if_neg ha]
    have hA : ∀ J, aA g (nC A K n) a J = aA g A a J := fun J => by
      have e1 : ∀ j, gI (nC A K n) a j = gI A a j := fun j => by rw [gI_nC, if_neg ha]
      have e2 : ∀ j, gP (nC A K n) a j = gP A a j := fun j => by rw [gP_nC, if_neg ha]
      unfold aA
      simp only [e1, e2, hDb_nC]
      try rfl
    unfold jcell at h3 ⊢
    rw [hk]
    split
    · rename_i hlt
      rw [if_pos hlt] at h3
      exact (h3.kept hq).to (fun k _ => (hf _ k).symm)
    · rename_i hlt
      rw [if_neg hlt] at h3
      split
      · trivial
      · rename_i h9
        rw [if_neg h9] at h3
        rw [hq, hA]
        exact h3
def dfB (v : Value) (r : Bool) : Bool := match v, r with
  | .null, true => true
  | .int x, false => x == 0
  | _, _ => false
theorem dfB_ok {v : Value} {r : Bool} (h : dfB v r = true) : v = if r = true then Value.null else vI 0 := by
  unfold dfB at h
  split at h
  · rfl
  · rename_i x
    have : x = 0 := by simpa using h
    rw [this]
    rfl
  · cases h
theorem dflt_ok {K : Nat} (hK : K < 10) : ∀ k, k < jfn K → dfB (defaultValue (jY K k)) (jfr K k) = true := by
  rcases lt10 hK with rfl | rfl | rfl | rfl | rfl | rfl | rfl | rfl | rfl | rfl <;> decide +kernel
theorem j0_new {qn : Nat} (hqn : hN A = qn) {idx K : Nat} (hK : K < 10) (hkd : kd qn = K) (h376 : qn < 376) (h1 : 1 ≤ qn) (hcl : Cond.classLink own idx (jC K) ∈ lw_gd) (hins : Cond.instantiable (jC K) (jfn K) ∈ lw_gd) (hini : Cond.initialized (jC K) ∈ lw_gd) (hd : decode cc pc = .ok (.new idx, 3)) (KK : J0 g l d own mn cc nL ret n0 s0 o Z (pc + 3) lv (.ref (gB g + qn) :: st) (nC A K (jfn K))) : J0 g l d own mn cc nL ret n0 s0 o Z pc lv st A := by
  subst hqn
  intro w
  have b7 := WF0_nC w K (jfn K)
  refine ⟨⟨(KK b7).1.1, (XT_nC A K (jfn K)).tr (KK b7).1.2.1, (KK b7).1.2.2⟩, fun E H locs ls hl hr hn1 hs hq => ?_⟩
  have hk := (KK b7).2 E
  have hts := E.2.2.2.2.1
  have hG := E.2.2.2.2.2.1
  have h3 := (KK b7).1.2.1.1
  have h4 := (KK b7).1.2.1.2.1
  rw [hN_nC] at h3
  rw [hSl_nC] at h4
  have hKn := hG.1.1 K _ (jcl_at hK)
  refine W.newcK E.1 E.2.1 E.2.2.2.1 (hts _ hcl) (hts _ hins) (hts _ hini) rfl hd (by show _ ≤ hN o.2.2 - n0; omega) (by show _ ≤ hSl o.2.2 - s0; omega) hKn.2.1 rfl fun H1 kC hkC e1 z1 o1 => ?_
  have hkA : kdA (nC A K (jfn K)) (hN A) = K := by unfold kdA; rw [if_pos h376]; exact hkd
  have hh := hk H1 locs ls hl (REL_new hr h1 z1 o1 (by
    unfold jcell
    rw [hkA, if_pos hK, ← hr.1]
    refine (u_born (jY K) hts (jC_in hK) hKn hkC e1 (jC_ty hK)).to (fun k hk => ?_)
    rw [dfB_ok (dflt_ok hK k hk)]
    unfold fv
    rw [gP_nC, gI_nC, if_pos rfl, if_pos rfl]
    rfl)) (by rw [hN_nC]; omega) (by rw [hSl_nC]; omega) hq
  rw [hN_nC, hSl_nC, show hN A + 1 - n0 = hN A - n0 + 1 by omega, show hSl A + jfn K - s0 = hSl A - s0 + jfn K by omega, ← hr.1] at hh
  exact hh
theorem jty_RA {U : State} {c0 : ClassId} {k : Nat} (h : va_RA U c0 (jty k)) : U.vm.findClass ("[" ++ (jty k).toString) = some c0 := by
  generalize jty k = t at h ⊢
  cases t <;> first | exact h | exact h.elim fun _ h => h.elim fun _ h => h.2.2.2
theorem j0_newarr {qn : Nat} (hqn : hN A = qn) {K : Nat} {ak : ArrayType} {N : Int} (hkd : kd qn = K) (h376 : qn < 376) (h1 : 1 ≤ qn) (hK : 10 ≤ K) (h9 : K ≠ 99) (hj : jek K < 4) (hty : newarray.typeOf ak = jty (jek K)) (harr : Cond.arrayClass (newarray.typeOf ak) ∈ lw_gd) (hNv : N = (jal K : Int)) (hNr : inR N) (hB : jal K * componentBytes (newarray.typeOf ak) ≤ 536870912) (hD : jek K = 3 → hDb A = 0) (hd : decode cc pc = .ok (.newarray ak, 2)) (KK : J0 g l d own mn cc nL ret n0 s0 o Z (pc + 2) lv (.ref (gB g + qn) :: st) (nC A K (jal K))) : J0 g l d own mn cc nL ret n0 s0 o Z pc lv (vI N :: st) A := by
  subst hqn
  intro w
  have b7 := WF0_nC w K (jal K)
  refine ⟨⟨(KK b7).1.1, (XT_nC A K (jal K)).tr (KK b7).1.2.1, (KK b7).1.2.2⟩, fun E H locs ls hl hr hn1 hs hq => ?_⟩
  have hk := (KK b7).2 E
  have hts := E.2.2.2.2.1
  have hG := E.2.2.2.2.2.1
  have h3 := (KK b7).1.2.1.1
  have h4 := (KK b7).1.2.1.2.1
  rw [hN_nC] at h3
  rw [hSl_nC] at h4
  refine va_newaK E.1 E.2.1 (hts _ harr) rfl hd rfl (N := jal K) (by rw [i32_zero, i32_lt hNr inR_0]; omega) (by rw [i32_idx hNr (by omega), hNv]; rfl) hB (by show _ ≤ hN o.2.2 - n0; omega) (by show _ ≤ hSl o.2.2 - s0; omega) hr.1 fun H1 cA e1 z1 o1 hAr hNm => ?_
  have hc : cA = gC g (jek K) := by
    have h5 := jty_RA (gkA hG (k := jek K) (by omega)).2
    rw [hty] at hNm
    exact Option.some.inj (hNm.symm.trans h5)
  have hkA : kdA (nC A K (jal K)) (hN A) = K := by unfold kdA; rw [if_pos h376]; exact hkd
  have hh := hk H1 locs ls hl (REL_new hr h1 (by rw [z1, hr.1]) (fun q hq => o1 q (by rw [← hr.1]; exact hq)) (by
    unfold jcell
    rw [hkA, if_neg (by omega), if_neg h9, e1, hc, hty]
    unfold aA
    rcases (show jek K = 0 ∨ jek K = 1 ∨ jek K = 2 ∨ jek K = 3 by omega) with hk0 | hk0 | hk0 | hk0
    · rw [hk0, if_pos (by decide), vp_cell_i]
      congr 2
      funext q
      rw [gI_nC, if_pos rfl]
      rfl
    · rw [hk0, if_pos (by decide), vp_cell_i]
      congr 2
      funext q
      rw [gI_nC, if_pos rfl]
      rfl
    · rw [hk0, if_neg (by decide), if_pos rfl]
      show some (arrV _ _ _) = some (arrV _ _ (fun j => .long (Int64.ofInt (gI (nC A K (jal K)) (hN A) j))))
      congr 2
      funext q
      rw [gI_nC, if_pos rfl]
      rfl
    · rw [hk0, if_neg (by decide), if_neg (by decide), if_pos rfl]
      show some (arrV _ _ _) = some (arrV _ _ (fun j => .double (if hN A = 375 then hDb A else 0)))
      rw [hD hk0]
      congr 2
      funext q
      split <;> rfl)) (by rw [hN_nC]; omega) (by rw [hSl_nC]; omega) hq
  rw [hN_nC, hSl_nC, show hN A + 1 - n0 = hN A - n0 + 1 by omega, show hSl A + jal K - s0 = hSl A - s0 + jal K by omega] at hh
  exact hh
theorem j0_newq {qn : Nat} (hqn : hN A = qn) {idx K : Nat} {C : String} {N : Int} (hkd : kd qn = K) (h376 : qn < 376) (h1 : 1 ≤ qn) (hK : 10 ≤ K) (h9 : K ≠ 99) (hj : 4 ≤ jek K) (hj8 : jek K < 8) (hty : jty (jek K) = .object C) (hcl : Cond.classLink own idx C ∈ lw_gd) (hao : ∀ U, AO U → va_AO C U) (hNv : N = (jal K : Int)) (hNr : inR N) (hB : jal K * 4 ≤ 536870912) (hd : decode cc pc = .ok (.anewarray idx, 3)) (KK : J0 g l d own mn cc nL ret n0 s0 o Z (pc + 3) lv (.ref (gB g + qn) :: st) (nC A K (jal K))) : J0 g l d own mn cc nL ret n0 s0 o Z pc lv (vI N :: st) A := by
  subst hqn
  intro w
  have b7 := WF0_nC w K (jal K)
  refine ⟨⟨(KK b7).1.1, (XT_nC A K (jal K)).tr (KK b7).1.2.1, (KK b7).1.2.2⟩, fun E H locs ls hl hr hn1 hs hq => ?_⟩
  have hk := (KK b7).2 E
  have hts := E.2.2.2.2.1
  have hG := E.2.2.2.2.2.1
  have h3 := (KK b7).1.2.1.1
  have h4 := (KK b7).1.2.1.2.1
  rw [hN_nC] at h3
  rw [hSl_nC] at h4
  have hn : (Int32.ofInt N).toNatClampNeg = jal K := by rw [i32_idx hNr (by omega), hNv]; rfl
  refine W.anew E.1 E.2.1 E.2.2.2.1 (hts _ hcl) (va_AO.use (hao _ E.ao)) rfl hd rfl (n := Int32.ofInt N) (by rw [i32_zero, i32_lt hNr inR_0]; omega) (by rw [hn]; exact hB) (by show _ ≤ hN o.2.2 - n0; omega) (by rw [hn]; show _ ≤ hSl o.2.2 - s0; omega) fun cA kA comp f1 f2 f3 f4 => ?_
  rw [hn]
  generalize hH1 : H.push ({ cls := cA, slots := Array.replicate (jal K) .null, vm := .none } : Cell) = H1
  obtain ⟨z1, e1, o1⟩ := jpush H ({ cls := cA, slots := Array.replicate (jal K) .null, vm := .none } : Cell)
  rw [hH1] at z1 e1 o1
  rw [arrV_new] at e1
  have hc : cA = gC g (jek K) := by
    have h5 := jty_RA (gkA hG (k := jek K) hj8).2
    rw [hty] at h5
    exact Option.some.inj (f1.symm.trans h5)
  have hkA : kdA (nC A K (jal K)) (hN A) = K := by unfold kdA; rw [if_pos h376]; exact hkd
  have hh := hk H1 locs ls hl (REL_new hr h1 z1 o1 (by
    unfold jcell
    rw [hkA, if_neg (by omega), if_neg h9, ← hr.1, e1, hc]
    unfold aA
    rw [if_neg (by omega), if_neg (by omega), if_neg (by omega), vp_cell_q]
    congr 2
    funext q
    have e9 : gP (nC A K (jal K)) (hN A) q = 0 := by rw [gP_nC, if_pos rfl]
    rw [e9]
    rfl)) (by rw [hN_nC]; omega) (by rw [hSl_nC]; omega) hq
  rw [hN_nC, hSl_nC, show hN A + 1 - n0 = hN A - n0 + 1 by omega, show hSl A + jal K - s0 = hSl A - s0 + jal K by omega, ← hr.1] at hh
  exact hh
/-- an object goes into an array of its class -/
theorem j0_aast {a q K J : Nat} {z : Int} (hz : inR z) (hK : 10 ≤ K) (h9 : K ≠ 99) (hj : 4 ≤ jek K) (hj8 : jek K < 8) (hJ : J < 10) (hty : jty (jek K) = .object (jC J)) (hd : decode cc pc = .ok (.aastore, 1)) (h1 : 1 ≤ a) (h2 : a < hN A) (hka : kdA A a = K) (hi : 0 ≤ z ∧ z < (jal K : Int)) (hq1 : 1 ≤ q) (hq2 : q < hN A) (hkq : kdA A q = J) (KK : J0 g l d own mn cc nL ret n0 s0 o Z (pc + 1) lv st (sP A a z.toNat q)) : J0 g l d own mn cc nL ret n0 s0 o Z pc lv (.ref (gB g + q) :: vI z :: .ref (gB g + a) :: st) A := by
  intro w
  have b7 := WF0_sP w a z.toNat q
  refine ⟨⟨(KK b7).1.1, (XT_sP A a z.toNat q).tr (KK b7).1.2.1, (KK b7).1.2.2⟩, fun E H locs ls hl hr hn1 hs hq => ?_⟩
  have hk := (KK b7).2 E
  have hG := E.2.2.2.2.2.1
  have hc1 := hr.ar h1 h2 hka hK h9
  have e0 : ∀ B : AH, aA g B a K = (jal K, .inr (.inr (.inr (.inr (fun j => if gP B a j = 0 then none else some (gB g + gP B a j)))))) := fun B => by
    unfold aA
    rw [if_neg (by omega), if_neg (by omega), if_neg (by omega)]
  rw [e0] at hc1
  obtain ⟨cellV, g1, g2, g3, -⟩ := hr.ob hq1 hq2 hkq hJ
  have hcls := (hG.1.1 J _ (jcl_at hJ)).2
  obtain ⟨hAr, hRA⟩ := gkA hG (k := jek K) hj8
  rw [hty] at hAr hRA
  obtain ⟨kA, comp, k1, k2, k3, -⟩ := hRA
  have hcomp : comp = (gD g).1 J := Option.some.inj (k3.symm.trans hcls.1)
  subst hcomp
  obtain ⟨kC, hkC, -⟩ := hcls.2
  have hin := i32_in hz hi.1 hi.2
  have hlt : (Int32.ofInt z).toNatClampNeg < jal K := Nat.not_le.mp fun q => hin (Or.inr q)
  refine W.aast E.1 E.2.1 hc1 (fun q h => by cases h) (fun h => by cases h) k1 k2 rfl hkC ⟨fun q => hin (Or.inl q), by show _ < (arrV _ _ _).slots.size; rw [arrV_size]; exact hlt⟩ g1 (fun q h => by rw [g3] at h; cases h) (by rw [g2]; exact hkC) (by rw [g2]; exact va_assign hcls) rfl rfl hd fun H1 e z1 oq => ?_
  rw [i32_idx hz hi.1] at e ⊢
  refine hk H1 _ ls hl ?_ hn1 hs (locs_app h1 hq)
  refine hr.upd (hN_sP A a z.toNat q) h1 z1 oq (fun b => rfl) (fun b hb => ⟨fun K j => fv_sP hb, fun K _ => aA_sP hb⟩) ?_
  unfold jcell
  rw [show kdA (sP A a z.toNat q) a = K from hka, if_neg (by omega), if_neg h9, e0, e, vp_cell_q, vp_cell_q, arrV_store]
  congr 2
  funext j
  show updV _ _ _ j = va_rf (if gP (sP A a z.toNat q) a j = 0 then none else some (gB g + gP (sP A a z.toNat q) a j))
  by_cases hj2 : j = z.toNat
  · have e2 : gP (sP A a z.toNat q) a j = q := by rw [gP_sP, if_pos ⟨rfl, hj2⟩]
    rw [e2, if_neg (show ¬ q = 0 by omega)]
    unfold updV
    rw [if_pos hj2]
    rfl
  · have e2 : gP (sP A a z.toNat q) a j = gP A a j := by rw [gP_sP, if_neg (fun x => hj2 x.2)]
    rw [e2]
    unfold updV
    rw [if_neg hj2]
/-! static arrays from another class of the nest; their ints copied -/
theorem j0_getsN {idx k : Nat} {host : String} (hk6 : k < 6) (F : Cond.fieldLinkNest own idx (jST k).1 (jST k).2.1 "[I" host ∈ lw_nw) (hd : decode cc pc = .ok (.getstatic idx, 3)) (KK : J0 g l d own mn cc nL ret n0 s0 o Z (pc + 3) lv (.ref (gS g k) :: st) A) : J0 g l d own mn cc nL ret n0 s0 o Z pc lv st A := by
  intro w
  refine ⟨(KK w).1, fun E H locs ls hl hr hn hs hq => ?_⟩
  have hk := (KK w).2 E H locs ls hl hr hn hs hq
  have hG := E.2.2.2.2.2.1
  exact va_getsN E.1 E.2.1 ((hG.2.1 k hk6).1.kept E.low) (jwsE0 E hr hn hq) E.2.2.2.1 (va_Nw.use rfl (hG.2.2.2.2.2.1 _ F)) (fun _ h => h) hd hk
/-- n ints of a given row go into the cell a -/
def cpS (A : AH) (F : Nat → Int) (a n : Nat) : AH := (A.1, (fun q j => if q = a ∧ j < n then F j else A.2.1 q j), A.2.2)
theorem gI_cpS (A : AH) (F : Nat → Int) (a n q j : Nat) : gI (cpS A F a n) q j = if q = a ∧ j < n then F j else gI A q j := rfl
theorem gP_cpS (A : AH) (F : Nat → Int) (a n q j : Nat) : gP (cpS A F a n) q j = gP A q j := rfl
theorem gK_cpS (A : AH) (F : Nat → Int) (a n q : Nat) : gK (cpS A F a n) q = gK A q := rfl
theorem hN_cpS (A : AH) (F : Nat → Int) (a n : Nat) : hN (cpS A F a n) = hN A := rfl
theorem hSl_cpS (A : AH) (F : Nat → Int) (a n : Nat) : hSl (cpS A F a n) = hSl A := rfl
theorem hDb_cpS (A : AH) (F : Nat → Int) (a n : Nat) : hDb (cpS A F a n) = hDb A := rfl
/-- the row of the static array k -/
def jSF (k j : Nat) : Int := ((jST k).2.2.getD j 0).toInt
theorem j0_copyS {idx a k K : Nat} {n : Int} (hk6 : k < 6) (L : MLK own idx arraycopyName) (hnat : Cond.native arraycopyName ∈ lw_gd) (hstat : Cond.static arraycopyName ∈ lw_gd) (hini : Cond.initialized "java/lang/System" ∈ lw_gd) (hd : decode cc pc = .ok (.invokestatic idx, 3)) (hn0 : 0 ≤ n) (hn : inR n) (hK : 10 ≤ K) (h9 : K ≠ 99) (hj : jek K = 0) (h1 : 1 ≤ a) (h2 : a < hN A) (hka : kdA A a = K) (hl0 : n ≤ (jST k).2.2.length) (hl1 : n ≤ jal K) (hd1 : 2 ≤ d)
    (KK : J0 g l d own mn cc nL ret n0 s0 o Z (pc + 3) lv [] (cpS A (jSF k) a n.toNat)) : J0 g l d own mn cc nL ret n0 s0 o Z pc lv [vI n, vI 0, .ref (gB g + a), vI 0, .ref (gS g k)] A := by
  intro w
  have b7 : WF0 (cpS A (jSF k) a n.toNat) := fun q j => by
    rw [gI_cpS]
    split
    · exact i32_inR _
    · exact w q j
  refine ⟨⟨(KK b7).1.1, (show XT A (cpS A (jSF k) a n.toNat) from XT.rf A).tr (KK b7).1.2.1, (KK b7).1.2.2⟩, fun E H locs ls hl hr hn1 hs hq => ?_⟩
  have hk := (KK b7).2 E
  have hts := E.2.2.2.2.1
  have hG := E.2.2.2.2.2.1
  have hc1 := hr.ar h1 h2 hka hK h9
  rw [aA_i (by omega), hj] at hc1
  have hw : nativeFrameWords "java/lang/System" "arraycopy" 5 ≤ 60 := by decide +kernel
  have ht : ArrOfT _ (gC g 0) .int := (gkA hG (k := 0) (by decide)).1
  have hS := jwsE0 E hr hn1 hq
  have hT0 := ((hG.2.1 k hk6).2.kept E.low).kept hS.2.1
  have hi := i32_idx hn hn0
  obtain ⟨cS, s1, s2, s3, s4, -, s5, -⟩ := hT0
  refine jx_take (rest := []) (f := fun j => (jST k).2.2.getD j 0) E.1 E.2.1 (E.2.2.1.trans hl.1.symm) E.2.2.2.1 ⟨hts _ L, hts _ hnat, hts _ hstat, hts _ hini⟩ i32_zero.symm i32_zero.symm (by rw [i32_toInt' hn]; exact hn0) s1 s2 s3 (by rw [hi]; omega) (fun j hj => s5 j (by rw [hi] at hj; omega)) hc1 ht (by rw [hi]; omega) ⟨show 1 ≤ d by omega, show 0 + _ ≤ 40 * d by omega⟩ hd fun H1 locs1 e1 e2 e3 e4 => ?_
  rw [hi] at e1
  refine hk H1 _ ls hl ?_ hn1 hs (fun q hm => ?_)
  · refine hr.upd rfl h1 e2 e3 (fun b => rfl) (fun q hb => ⟨fun K j => ?_, fun K _ => ?_⟩) ?_
    · unfold fv
      rw [gP_cpS, show gI (cpS A (jSF k) a n.toNat) q j = gI A q j from (by rw [gI_cpS, if_neg (fun z => hb z.1)])]
    · have e5 : ∀ j, gI (cpS A (jSF k) a n.toNat) q j = gI A q j := fun j => by rw [gI_cpS, if_neg (fun z => hb z.1)]
      unfold aA
      simp only [e5, gP_cpS, hDb_cpS]
      try rfl
    · unfold jcell
      rw [show kdA (cpS A (jSF k) a n.toNat) a = K from hka, if_neg (by omega), if_neg h9, aA_i (by omega), hj, e1]
      congr 3
      rw [Sum.inl.injEq]
      funext q
      rw [gI_cpS]
      by_cases hq : q < n.toNat
      · rw [if_pos hq, if_pos ⟨rfl, hq⟩]
        exact (i32_of _).symm
      · rw [if_neg hq, if_neg (fun z => hq z.2)]
  · rcases e4 q hm with h | h
    · exact hq q h
    · rw [h]
      show gB g < gB g + a
      omega
/-! a private constructor of a nest mate -/
theorem jrunIN0 {o' : JO} {Z' : Prop} {idx d' a n : Nat} {host : String} {y : MethodName} {cc' : ByteArray} {nL' : Nat} {As : List Value} (L : Cond.methodLinkNest own idx y host ∈ lw_nw) (M : MY y cc' nL' none n) (hI : Cond.instanceMethod y ∈ lw_gd) (hy1 : y.name = "<init>") (hlo : nL' ≤ 20) (hd' : d' + 1 ≤ d) (hst : (st.map fun v => v.category).sum ≤ 8) (hn : As.length = n)
    (hC : CT0 g l y cc' nL' none d' (.ref (gB g + a) :: As) A o' Z') (hd : decode cc pc = .ok (.invokespecial idx, 3)) : WF0 A → ∀ {p : Program} {e : Env} {s : State} {m : MethodId} {args : Array Value} {below : List Frame} {meth : Method} {c : Code}, JE0 g p l e s m args below meth c own mn cc nL ret n0 → ∀ (R : Room) (H : Heap) (locs : List Loc) (ls : Array Slot) (k n : Nat), lv_has ls nL lv → REL g A H → R.frames = d → R.locals = 40 * d → k + (hN o'.2.2 - hN A) ≤ R.cells → n + (hSl o'.2.2 - hSl A) ≤ R.slots →
      vx_Run p l e R s m args below meth c H locs k n (hN o'.2.2 - hN A) (hSl o'.2.2 - hSl A) (F0 m pc ls (As.reverse ++ .ref (gB g + a) :: st)) st (jQ g o' (Value.ref (gB g + a) :: As).toArray) (jX g o') (jF g) := by
  intro w p e s m args below meth c E R H locs ls k n2 hl hr hRf hRl hk1 hk2
  have hts := E.2.2.2.2.1
  have hG := E.gk
  have hgood := gd_GoodIn M.2.1
  exact vx_runIN (b := gB g + a) (As := As) (rest := st) ⟨E.1, E.2.1, E.2.2.1, E.2.2.2.1, hts⟩ (hC w).2 ⟨⟨⟨rfl, rfl, by show d' + 1 ≤ R.frames; omega, by show 8 + (nL' + 11) + 40 * d' ≤ R.locals; omega, fun w hw a' U hW => word_at hW (hgood w hw).2 (hts _ (hgood w hw).1), List.mem_cons_self⟩, hts _ M.2.1, hts _ M.1, ⟨M.2.2.1, M.2.2.2.1⟩, fun sig h => by have h9 := M.2.2.2.2; rw [h] at h9; exact (Option.some.inj h9).symm, va_Nw.use rfl (E.2.2.2.2.2.1.2.2.2.2.2.1 _ L)⟩, hy1, hts _ hI⟩ ⟨pcBlind0, fun U hU hW => ⟨rfl, by rw [hU]; exact hr, hG.warm hW⟩⟩ rfl hn hl.1 rfl (lv_room hst) hd ⟨hk1, hk2⟩
theorem j0_callIN {A1 : AH} {v : Option Value} {Z' : Prop} {idx d' a n : Nat} {host : String} {y : MethodName} {cc' : ByteArray} {nL' : Nat} {As : List Value} (L : Cond.methodLinkNest own idx y host ∈ lw_nw) (M : MY y cc' nL' none n) (hI : Cond.instanceMethod y ∈ lw_gd) (hy1 : y.name = "<init>") (hlo : nL' ≤ 20) (hd' : d' + 1 ≤ d) (hst : (st.map fun v => v.category).sum ≤ 8) (hn : As.length = n)
    (hC : CT0 g l y cc' nL' none d' (.ref (gB g + a) :: As) A (0, v, A1) Z') (hd : decode cc pc = .ok (.invokespecial idx, 3)) {st0 : List Value} (hst0 : st0 = As.reverse ++ .ref (gB g + a) :: st)
    (KK : Z' → XT A A1 → J0 g l d own mn cc nL ret n0 s0 o Z (pc + 3) lv (v.toList ++ st) A1) : J0 g l d own mn cc nL ret n0 s0 o Z pc lv st0 A := by
  subst hst0
  exact j0_of_run (fun w => (hC w).1) (jrunIN0 L M hI hy1 hlo hd' hst hn hC hd) KK
/-! fields of the object that a constructor builds -/
theorem j0_hB {B : AH} {pc' : Nat} {lv' : List (Nat × Value)} {st' : List Value} (e : B = A) (K : J0 g l d own mn cc nL ret n0 s0 o Z pc' lv' st' B) : J0 g l d own mn cc nL ret n0 s0 o Z pc' lv' st' A := by rw [← e]; exact K
theorem fv_ref {a K k q : Nat} (hf : jfr K k = true) (h : gP A a k = q) (hq : 1 ≤ q) : fv g A a K k = .ref (gB g + q) := by
  unfold fv
  rw [if_pos hf, h]
  exact rv_ne (by omega)
theorem j0_getR {idx K k a q : Nat} (F : FLD own idx K k) (hf : jfr K k = true) (hd : decode cc pc = .ok (.getfield idx, 3)) (h1 : 1 ≤ a) (h2 : a < hN A) (hka : kdA A a = K) (hP : gP A a k = q) (hq : 1 ≤ q) (KK : J0 g l d own mn cc nL ret n0 s0 o Z (pc + 3) lv (.ref (gB g + q) :: st) A) : J0 g l d own mn cc nL ret n0 s0 o Z pc lv (.ref (gB g + a) :: st) A :=
  j0_getf F hd h1 h2 hka (by rw [fv_ref hf hP hq]; exact KK)
theorem sP_up {K a k q : Nat} (hf : jfr K k = true) (hq : 1 ≤ q) : ∀ j, j < jfn K → fv g (sP A a k q) a K j = updV (fv g A a K) k (.ref (gB g + q)) j := fun j _ => by
  unfold updV
  by_cases hj2 : j = k
  · rw [if_pos hj2, hj2]
    exact fv_ref hf (gP_sP_self _ _ _ _) hq
  · rw [if_neg hj2]
    unfold fv
    rw [gI_sP, gP_sP_ne (fun q => hj2 q.2)]
theorem j0_putFR {idx K k a q : Nat} (F1 : K < 10) (F2 : k < jfn K) (hown0 : own = jC K) (F3 : Cond.fieldLink own idx (jT K k).1 (jT K k).2.1 (jT K k).2.2.1 ∈ lw_gd) (hmn : mn = "<init>") (hdecl : (jT K k).1 = own) (hfin : (jT K k).2.2.2 = true) (hf : jfr K k = true) (hn : ∀ x, narrow (jY K k) (.ref x) = .ref x) (hfit : ∀ x, fits (jY K k) (.ref x) = true) (hd : decode cc pc = .ok (.putfield idx, 3)) (h1 : 1 ≤ a) (h2 : a < hN A) (hka : kdA A a = K) (hq : 1 ≤ q) (KK : J0 g l d own mn cc nL ret n0 s0 o Z (pc + 3) lv st (sP A a k q)) : J0 g l d own mn cc nL ret n0 s0 o Z pc lv (.ref (gB g + q) :: .ref (gB g + a) :: st) A :=
  fun w => j0_putF F1 F2 hown0 F3 hmn hdecl hfin (hn _) (hfit _) hd h1 h2 hka (hN_sP A a k q) (hSl_sP A a k q) (fun _ => rfl) (fun b hb => ⟨fun K j => fv_sP hb, fun K _ => aA_sP hb⟩) (sP_up hf hq) (XT_sP A a k q) (WF0_sP w a k q) KK w
theorem j0_putR {idx K k a q : Nat} (F : FLD own idx K k) (hfin : (jT K k).2.2.2 = false) (hf : jfr K k = true) (hn : ∀ x, narrow (jY K k) (.ref x) = .ref x) (hfit : ∀ x, fits (jY K k) (.ref x) = true) (hd : decode cc pc = .ok (.putfield idx, 3)) (h1 : 1 ≤ a) (h2 : a < hN A) (hka : kdA A a = K) (hq : 1 ≤ q) (KK : J0 g l d own mn cc nL ret n0 s0 o Z (pc + 3) lv st (sP A a k q)) : J0 g l d own mn cc nL ret n0 s0 o Z pc lv (.ref (gB g + q) :: .ref (gB g + a) :: st) A :=
  fun w => j0_put F hfin (hn _) (hfit _) hd h1 h2 hka (hN_sP A a k q) (hSl_sP A a k q) (fun _ => rfl) (fun b hb => ⟨fun K j => fv_sP hb, fun K _ => aA_sP hb⟩) (sP_up hf hq) (XT_sP A a k q) (WF0_sP w a k q) KK w

end JZ
