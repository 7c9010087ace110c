/-! the throw of a new exception, its place in the heap told -/
section JX0
variable {p : Program} {l : Launch} {e : Env} {R : Room} {s : State} {m : MethodId} {args : Array Value} {below : List Frame} {meth : Method} {c : Code} {H : Heap} {locs : List Loc} {cells slots : Nat} {Q : State → Prop}
variable {mc ms : Nat} {free : Addr → Prop} {A0 A1 : Nat → Prop} {H0 : Heap} {a : Array Value} {ls : Array Slot} {st0 rest : List Value}
variable {Qc : Array Value → State → Outcome → State → Prop} {XC : String → State → State → Prop}
theorem jx_throwS {cc : ByteArray} {pc : Nat} (hexec : p.tables.exec = Jvm.exec) (hb : c.code = cc) (hl : l.stackTraces = false) {own cls text Y : String} {r : List String} {ik is ic mc ms sa ix : Nat} {rx : ByteArray} {A : Nat → Prop}
    (hrx : decode rx 0 = .ok (.aload_n 0, 1) ∧ decode rx 1 = .ok (.aload_n 1, 1) ∧ decode rx 2 = .ok (.invokespecial ix, 3) ∧ decode rx 5 = .ok (.return_, 1)) (hown : s.vm.findClass own = some m.cls) (hcls : Bundle.fit cls = true) (hfY : Bundle.fit Y = true) (hfr : ∀ n ∈ r, Bundle.fit n = true)
    (hk : (Cond.classLink own ik cls).before args s = true) (hini : (Cond.initialized cls).before args s = true) (hstr : vk_R own is text sa s) (hat : ∀ w ∈ jatS own ic cls ix rx Y r, w.before args s = true)
    (hgood : ∀ w ∈ Cond.classLink own ik cls :: Cond.initialized cls :: jatS own ic cls ix rx Y r, vx_ot w = true)
    (hU : vx_Zq Bundle.tN "UNASSIGNED_STACK" Bundle.steD A s s.heap) (hN : vx_Zq Bundle.tN "SUPPRESSED_SENTINEL" Bundle.listD A s s.heap) (hS : va_S A s.heap H locs) (hsize : ls.size = c.maxLocals)
    (d0 : decode cc pc = .ok (.new ik, 3)) (d3 : decode cc (pc + 3) = .ok (.dup, 1)) (d4 : decode cc (pc + 4) = .ok (.ldc is, 2)) (d6 : decode cc (pc + 6) = .ok (.invokespecial ic, 3)) (d9 : decode cc (pc + 9) = .ok (.athrow, 1))
    (hout : ∀ x ∈ c.exceptionTable.toList, covers x (pc + 9) = false)
    (hRframes : r.length + 4 < R.frames) (hRlocals : (rest.map fun v => v.category).sum + (13 * (r.length + 2) + 43) ≤ R.locals) (hRcells : cells + 1 ≤ R.cells) (hRslots : slots + 6 ≤ R.slots) (hlocks : meth.locks = false)
    (hx : ∀ t : State, s.vm.Alike t.vm → t.heap.size = H.size + 1 → (∀ q : Nat, q < H.size → t.heap[q]? = H[q]?) → XC cls s t)
    (hf : ∀ z ∈ locs, free z.base) (hc : cells + 1 ≤ mc) (hs : slots + 6 ≤ ms) :
    W p l e R s m args below meth c H locs cells slots (vx_MQ below Qc XC args s mc ms free) (F0 m pc ls rest) := by
  intro T hT X
  have htr : e.platform.stackTraces = false := (show e.platform.stackTraces = l.stackTraces by rw [X.admits.platform]).trans hl
  have Yb := vx_rebase X (R' := { frames := R.frames, locals := R.locals, cells := 1, slots := 6 }) (Nat.le_refl _) (Nat.le_refl _) hRcells hRslots
  obtain ⟨s', hA⟩ : ∃ z, z = (T.setVm s.vm).setFrames (.invoking m args :: below) := ⟨_, rfl⟩
  rw [← hA] at Yb
  have hvm : s'.vm = s.vm := by rw [hA]; rfl
  have hhp : s'.heap = H := by rw [hA]; exact hT
  have hW0 : s.WarmedH s'.vm := by rw [hvm]; exact State.WarmedH.refl s
  have hat' : ∀ w ∈ jatS own ic cls ix rx Y r, w.before args s' = true := fun w hw => vx_ot_at hW0 hvm.symm (hgood w (List.mem_cons_of_mem _ (List.mem_cons_of_mem _ hw))) (hat w hw)
  have hk' : (Cond.classLink own ik cls).before args s' = true := vx_ot_at hW0 hvm.symm (hgood _ List.mem_cons_self) hk
  have hini' : (Cond.initialized cls).before args s' = true := vx_ot_at hW0 hvm.symm (hgood _ (List.mem_cons_of_mem _ List.mem_cons_self)) hini
  have hU' : vx_Zq Bundle.tN "UNASSIGNED_STACK" Bundle.steD A s' s'.heap := by rw [hhp]; exact vx_Zq.moved hW0.alike (hU.kept hS.2.1)
  have hN' : vx_Zq Bundle.tN "SUPPRESSED_SENTINEL" Bundle.listD A s' s'.heap := by rw [hhp]; exact vx_Zq.moved hW0.alike (hN.kept hS.2.1)
  have h : ∀ w ∈ jownAt own ic cls ix rx Y r, w.before args s' = true := vx_own hat' (vx_isRefq hU'.1) (vx_isRefq hN'.1) hU'.2.word hN'.2.word
  have hown' : s'.vm.findClass own = some m.cls := by rw [hvm]; exact hown
  have hins : (Cond.instantiable cls 6).before args s' = true := ((jown_split h).2.2 : ∀ w ∈ jtail own ic cls (Y :: r), _) _ (by simp only [jtail, Bundle.ownAtoms, List.drop_left]; simp)
  obtain ⟨vm₁, cX, kX, hfX, hkX, -, -, X₁, st1⟩ := Yb.newCold hexec (own := own) (C := cls) (index := ik) (n := 6) hown' hk' hins hini'
    (g := F0 m pc ls rest) rfl (by rw [hb]; exact d0) (Nat.le_refl _) (Nat.le_refl _)
  generalize hT1 : (T.setVm vm₁).pushCell { cls := cX, slots := kX.instanceTypes.map defaultValue, vm := .none } = T1 at X₁ st1
  have hcat : (Value.ref T.heap.size).category = 1 := rfl
  have hcellA : T1.heap[T.heap.size]? = some (freshCell cX kX) := by rw [← hT1]; exact State.heap_pushCell_size _ _
  have d3' : decode c.code (pc + 3) = .ok (.dup, 1) := by rw [hb]; exact d3
  have d4' : decode c.code (pc + 4) = .ok (.ldc is, 2) := by rw [hb]; exact d4
  have hstr' : vk_R own is text sa s' := vk_R.warm hW0 hstr
  obtain ⟨U, hsteps, ⟨hrun, hend⟩, hW, hsame, ce, hce, hO⟩ := jctorThrow X₁ hexec htr hrx (own := own) (cls := cls) (ic := ic) hown' hcls hfY hfr h hfX hkX rfl hcellA (by rw [hhp, hT]; exact Nat.le_refl _) (msg := .ref sa) rfl
    (g := { method := m, pc := pc + 6, locals := ls, stack := .ref sa :: .ref T.heap.size :: .ref T.heap.size :: rest, locked := none }) rfl hsize ⟨rfl, rfl⟩ (rest := rest) rfl
    (by rw [hb]; exact d6) (by rw [hb]; exact d9) hout hRframes (by simp only [List.map_cons, List.sum_cons, hcat]; omega) hlocks
  obtain ⟨f1, f2⟩ := vx_frame hsame
  rw [hhp] at f1 f2
  have fz : U.heap.size = H.size + 1 := by
    have z1 : T.heap.size < U.heap.size := (Array.getElem?_eq_some_iff.mp hce).1
    have z2 : U.heap.size ≤ s'.heap.size + 1 := hsame.2.2.1
    rw [hhp] at z2
    rw [hT] at z1
    omega
  have hWs : s.WarmedH U.vm := State.WarmedH.trans hW0 hW
  have hcl : s.vm.findClass cls = some ce.cls := by
    rw [hvm] at hfX
    rw [hO.1]
    exact hfX
  have hall : s.sameButNew ({ U with vm := s.vm } : State) locs mc ms := by
    subst hA
    obtain ⟨e1, e2⟩ := hsame
    rw [State.setFrames_setFrames] at e1
    have h2 : (T.setVm s.vm).sameButNew ({ U with vm := s.vm } : State) [] (0 + 1) (0 + 6) := ⟨e1, e2⟩
    have h3 := X.same.trans h2
    rw [List.append_nil] at h3
    exact h3.mono hc hs
  refine ⟨U, ?_, .threw T.heap.size, hrun, hend, Or.inr ⟨T.heap.size, rfl, cls, ce, locs, hx U hWs.alike fz (fun q hq => f2 q hq (fun z hz => nomatch hz)), hce, hO.2, hcl, hWs, hall, hf⟩⟩
  refine st1 _ ?_
  show Steps p.tables e below (T1.setTop { method := m, pc := pc + 3, locals := ls, stack := .ref T.heap.size :: rest, locked := none }) _
  jvm_step X₁.here [X₁.here.top, hexec, d3', Value.category]
  exact X₁.ldcString hexec (own := own) (text := text) (index := is) (a := sa) hown' hstr'.1 hstr'.2
    (g := { method := m, pc := pc + 4, locals := ls, stack := .ref T.heap.size :: .ref T.heap.size :: rest, locked := none }) rfl d4' _ hsteps
theorem jx_throwSW {cc : ByteArray} {pc : Nat} (hexec : p.tables.exec = Jvm.exec) (hb : c.code = cc) (hl : l.stackTraces = false) {own cls text Y : String} {r : List String} {ik is ic mc ms sa ix : Nat} {rx : ByteArray} {A : Nat → Prop}
    (hrx : decode rx 0 = .ok (.aload_n 0, 1) ∧ decode rx 1 = .ok (.aload_n 1, 1) ∧ decode rx 2 = .ok (.invokespecial ix, 3) ∧ decode rx 5 = .ok (.return_, 1)) (hown : s.vm.findClass own = some m.cls) (hcls : Bundle.fit cls = true) (hfY : Bundle.fit Y = true) (hfr : ∀ n ∈ r, Bundle.fit n = true)
    (hk : (Cond.classLink own ik cls).before args s = true) (hini : (Cond.initialized cls).before args s = true) (hstr : vk_R own is text sa s) (hat : ∀ w ∈ jatS own ic cls ix rx Y r, w.before args s = true)
    (hgood : ∀ w ∈ Cond.classLink own ik cls :: Cond.initialized cls :: jatS own ic cls ix rx Y r, vx_ot w = true)
    (hU : vx_Zq Bundle.tN "UNASSIGNED_STACK" Bundle.steD A s s.heap) (hN : vx_Zq Bundle.tN "SUPPRESSED_SENTINEL" Bundle.listD A s s.heap) (hS : va_S A s.heap H locs) (hsize : ls.size = c.maxLocals)
    (d0 : decode cc pc = .ok (.new ik, 3)) (d3 : decode cc (pc + 3) = .ok (.dup, 1)) (d4 : decode cc (pc + 4) = .ok (.ldc_w is, 3)) (d7 : decode cc (pc + 7) = .ok (.invokespecial ic, 3)) (d10 : decode cc (pc + 10) = .ok (.athrow, 1))
    (hout : ∀ x ∈ c.exceptionTable.toList, covers x (pc + 10) = false)
    (hRframes : r.length + 4 < R.frames) (hRlocals : (rest.map fun v => v.category).sum + (13 * (r.length + 2) + 43) ≤ R.locals) (hRcells : cells + 1 ≤ R.cells) (hRslots : slots + 6 ≤ R.slots) (hlocks : meth.locks = false)
    (hx : ∀ t : State, s.vm.Alike t.vm → t.heap.size = H.size + 1 → (∀ q : Nat, q < H.size → t.heap[q]? = H[q]?) → XC cls s t)
    (hf : ∀ z ∈ locs, free z.base) (hc : cells + 1 ≤ mc) (hs : slots + 6 ≤ ms) :
    W p l e R s m args below meth c H locs cells slots (vx_MQ below Qc XC args s mc ms free) (F0 m pc ls rest) := by
  intro T hT X
  have htr : e.platform.stackTraces = false := (show e.platform.stackTraces = l.stackTraces by rw [X.admits.platform]).trans hl
  have Yb := vx_rebase X (R' := { frames := R.frames, locals := R.locals, cells := 1, slots := 6 }) (Nat.le_refl _) (Nat.le_refl _) hRcells hRslots
  obtain ⟨s', hA⟩ : ∃ z, z = (T.setVm s.vm).setFrames (.invoking m args :: below) := ⟨_, rfl⟩
  rw [← hA] at Yb
  have hvm : s'.vm = s.vm := by rw [hA]; rfl
  have hhp : s'.heap = H := by rw [hA]; exact hT
  have hW0 : s.WarmedH s'.vm := by rw [hvm]; exact State.WarmedH.refl s
  have hat' : ∀ w ∈ jatS own ic cls ix rx Y r, w.before args s' = true := fun w hw => vx_ot_at hW0 hvm.symm (hgood w (List.mem_cons_of_mem _ (List.mem_cons_of_mem _ hw))) (hat w hw)
  have hk' : (Cond.classLink own ik cls).before args s' = true := vx_ot_at hW0 hvm.symm (hgood _ List.mem_cons_self) hk
  have hini' : (Cond.initialized cls).before args s' = true := vx_ot_at hW0 hvm.symm (hgood _ (List.mem_cons_of_mem _ List.mem_cons_self)) hini
  have hU' : vx_Zq Bundle.tN "UNASSIGNED_STACK" Bundle.steD A s' s'.heap := by rw [hhp]; exact vx_Zq.moved hW0.alike (hU.kept hS.2.1)
  have hN' : vx_Zq Bundle.tN "SUPPRESSED_SENTINEL" Bundle.listD A s' s'.heap := by rw [hhp]; exact vx_Zq.moved hW0.alike (hN.kept hS.2.1)
  have h : ∀ w ∈ jownAt own ic cls ix rx Y r, w.before args s' = true := vx_own hat' (vx_isRefq hU'.1) (vx_isRefq hN'.1) hU'.2.word hN'.2.word
  have hown' : s'.vm.findClass own = some m.cls := by rw [hvm]; exact hown
  have hins : (Cond.instantiable cls 6).before args s' = true := ((jown_split h).2.2 : ∀ w ∈ jtail own ic cls (Y :: r), _) _ (by simp only [jtail, Bundle.ownAtoms, List.drop_left]; simp)
  obtain ⟨vm₁, cX, kX, hfX, hkX, -, -, X₁, st1⟩ := Yb.newCold hexec (own := own) (C := cls) (index := ik) (n := 6) hown' hk' hins hini'
    (g := F0 m pc ls rest) rfl (by rw [hb]; exact d0) (Nat.le_refl _) (Nat.le_refl _)
  generalize hT1 : (T.setVm vm₁).pushCell { cls := cX, slots := kX.instanceTypes.map defaultValue, vm := .none } = T1 at X₁ st1
  have hcat : (Value.ref T.heap.size).category = 1 := rfl
  have hcellA : T1.heap[T.heap.size]? = some (freshCell cX kX) := by rw [← hT1]; exact State.heap_pushCell_size _ _
  have d3' : decode c.code (pc + 3) = .ok (.dup, 1) := by rw [hb]; exact d3
  have d4' : decode c.code (pc + 4) = .ok (.ldc_w is, 3) := by rw [hb]; exact d4
  have hstr' : vk_R own is text sa s' := vk_R.warm hW0 hstr
  obtain ⟨U, hsteps, ⟨hrun, hend⟩, hW, hsame, ce, hce, hO⟩ := jctorThrow X₁ hexec htr hrx (own := own) (cls := cls) (ic := ic) hown' hcls hfY hfr h hfX hkX rfl hcellA (by rw [hhp, hT]; exact Nat.le_refl _) (msg := .ref sa) rfl
    (g := { method := m, pc := pc + 7, locals := ls, stack := .ref sa :: .ref T.heap.size :: .ref T.heap.size :: rest, locked := none }) rfl hsize ⟨rfl, rfl⟩ (rest := rest) rfl
    (by rw [hb]; exact d7) (by rw [hb]; exact d10) hout hRframes (by simp only [List.map_cons, List.sum_cons, hcat]; omega) hlocks
  obtain ⟨f1, f2⟩ := vx_frame hsame
  rw [hhp] at f1 f2
  have fz : U.heap.size = H.size + 1 := by
    have z1 : T.heap.size < U.heap.size := (Array.getElem?_eq_some_iff.mp hce).1
    have z2 : U.heap.size ≤ s'.heap.size + 1 := hsame.2.2.1
    rw [hhp] at z2
    rw [hT] at z1
    omega
  have hWs : s.WarmedH U.vm := State.WarmedH.trans hW0 hW
  have hcl : s.vm.findClass cls = some ce.cls := by
    rw [hvm] at hfX
    rw [hO.1]
    exact hfX
  have hall : s.sameButNew ({ U with vm := s.vm } : State) locs mc ms := by
    subst hA
    obtain ⟨e1, e2⟩ := hsame
    rw [State.setFrames_setFrames] at e1
    have h2 : (T.setVm s.vm).sameButNew ({ U with vm := s.vm } : State) [] (0 + 1) (0 + 6) := ⟨e1, e2⟩
    have h3 := X.same.trans h2
    rw [List.append_nil] at h3
    exact h3.mono hc hs
  refine ⟨U, ?_, .threw T.heap.size, hrun, hend, Or.inr ⟨T.heap.size, rfl, cls, ce, locs, hx U hWs.alike fz (fun q hq => f2 q hq (fun z hz => nomatch hz)), hce, hO.2, hcl, hWs, hall, hf⟩⟩
  refine st1 _ ?_
  show Steps p.tables e below (T1.setTop { method := m, pc := pc + 3, locals := ls, stack := .ref T.heap.size :: rest, locked := none }) _
  jvm_step X₁.here [X₁.here.top, hexec, d3', Value.category]
  exact X₁.ldcStringW hexec (own := own) (text := text) (index := is) (a := sa) hown' hstr'.1 hstr'.2
    (g := { method := m, pc := pc + 4, locals := ls, stack := .ref T.heap.size :: .ref T.heap.size :: rest, locked := none }) rfl d4' _ hsteps
end JX0
section JX1
variable {l : Launch}
theorem jx_ofW {y : MethodName} {ws ws' : List Cond} {rm : Room} {Pc : Array Value → State → Prop} {Qc : Array Value → State → Outcome → State → Prop} {XC : String → State → State → Prop} {mc ms : Nat} {free : Addr → Prop} {cc : ByteArray} {maxL : Nat} {ret : Option FieldType}
    (hy : plainFor y = true) (hw : ws = Cond.code y cc maxL ret :: ws')
    (body : ∀ p e s m args below meth c s₁, BodyLoose p l y (headSpec ws rm) cc maxL ret e s m args below meth c s₁ → c.maxLocals = maxL → (∀ x ∈ c.exceptionTable.toList, False) → Pc args s →
      W p l e (headSpec ws rm).room s m args below meth c s.heap [] 0 0 (vx_MQ below Qc XC args s mc ms free) (entryFrame m args maxL)) : vx_Met l y ws rm Pc Qc XC mc ms free := by
  refine MetFree.of_bodySF (code := cc) (maxLocals := maxL) (ret := ret) hy ?_ ?_
  · intro args s m h hn
    obtain ⟨meth, c, h1, h2, h3, h4, h5, h6, -, -⟩ := Cond.code_spec hn (atoms_spec (ws := ws) h _ (by rw [hw]; exact List.mem_cons_self))
    exact ⟨meth, c, h1, h2, h3, h4, h5, h6⟩
  · intro p e s m args below meth c s₁ B hml hP _
    have hh0 : s₁.heap = s.heap := by rw [B.state]; rfl
    have ht : ∀ x ∈ c.exceptionTable.toList, False := by
      obtain ⟨meth9, c9, h1, h2, -, -, -, -, h7, -⟩ := Cond.code_spec B.named (atoms_spec (ws := ws) B.pre _ (by rw [hw]; exact List.mem_cons_self))
      cases Option.some.inj (h1.symm.trans B.method)
      cases Option.some.inj (h2.symm.trans (Stand.of_body B).code)
      intro x hx
      rw [Array.isEmpty_iff.mp h7] at hx
      cases hx
    obtain ⟨t, a1, o, b1, b2, b3⟩ := body p e s m args below meth c s₁ B hml ht hP s₁ hh0 (Stand.of_body B)
    exact ⟨t, o, a1, b1, b2, b3⟩
end JX1
section JD
variable {g : JG} {l : Launch} {d : Nat} {own mn : String} {cc : ByteArray} {nL : Nat} {ret : Option FieldType} {n0 s0 : Nat} {o : JO} {Z : Prop} {pc : Nat} {lv : List (Nat × Value)} {st : List Value} {A : AH}
theorem jwsE {p : Program} {e : Env} {s : State} {m : MethodId} {args : Array Value} {below : List Frame} {meth : Method} {c : Code} {H : Heap} {locs : List Loc} (E : JE g p l e s m args below meth c own mn cc nL ret n0) (hr : REL g A H) (hn : n0 ≤ hN A) (hq : ∀ q ∈ locs, gB g < q.base) : va_S (jA g) s.heap H locs := by
  obtain ⟨-, -, -, -, -, -, -, -, -, h1, h2, -⟩ := E
  refine ⟨by rw [h1, hr.1]; omega, fun q _ h4 => ?_, hq⟩
  have h5 : q ≤ gB g := Nat.not_lt.mp h4
  rw [hr.2.1 q h5, h2 q h5]
theorem JE.low {p : Program} {e : Env} {s : State} {m : MethodId} {args : Array Value} {below : List Frame} {meth : Method} {c : Code} (E : JE g p l e s m args below meth c own mn cc nL ret n0) : ∀ a : Nat, a < (gH g).size → ¬ jA g a → s.heap[a]? = (gH g)[a]? :=
  fun a _ h => E.2.2.2.2.2.2.2.2.2.2.1 a (Nat.not_lt.mp h)
/-- a contract out of a body -/
theorem CT_of {y : MethodName} {as : List Value} (hy : plainFor y = true) (hl : l.stackTraces = false) (hlen : (lg_sl as).length ≤ nL) (hlv : lv_args 0 as = lv) (hb : J g l d y.cls y.name cc nL ret (hN A) (hSl A) o Z 0 lv [] A) (hjt : jtab y.cls y.name = [] := by first | rfl | decide) : CT g l y cc nL ret d as A o Z := by
  intro w
  refine ⟨(hb w).1, jx_ofW (cc := cc) (maxL := nL) (ret := ret) hy rfl ?_⟩
  intro p e s m args below meth c s₁ B hml hex hv
  obtain ⟨rfl, hr, hG⟩ := hv
  have hE : JE g p l e s m as.toArray below meth c y.cls y.name cc nL ret (hN A) :=
    ⟨B.exec, B.bytes, hml, findClass_of_methodNamed B.named, fun w hw => atoms_spec (ws := jws y cc nL ret) B.pre w (List.mem_cons_of_mem _ hw), hG, B.returns, B.notSynchronized, hl, hr.1, hr.2.1, (name_of_methodNamed B.named B.method).1, by rw [hjt]; exact List.eq_nil_iff_forall_not_mem.mpr (fun x hx => hex x hx)⟩
  have hlE := lv_entry as (n := nL) hlen
  rw [lg_entry_eq]
  rw [hlv] at hlE
  have h := (hb w).2 hE s.heap [] _ hlE hr (Nat.le_refl _) (Nat.le_refl _) (fun q hq => nomatch hq)
  rw [Nat.sub_self, Nat.sub_self] at h
  exact h
/-! ends -/
theorem j_iret {r : Int} {ty : FieldType} (hd : decode cc pc = .ok (.ireturn, 1)) (hret : ret = some ty) (hn : narrow ty (vI r) = vI r) (ho : o = (0, some (vI r), A)) (hZ : Z) : J g l d own mn cc nL ret n0 s0 o Z pc lv [vI r] A := by
  subst ho
  exact fun w => ⟨⟨hZ, XT.rf A, w⟩, fun E H locs ls hl hr hn0 hs hq => vx_ret (W.zret E.1 E.2.1 (E.2.2.2.2.2.2.1.trans hret) hn (fun t ht _ => ⟨rfl, rfl, by rw [ht]; exact hr⟩) hq hd E.2.2.2.2.2.2.2.1)⟩
theorem j_vret (hd : decode cc pc = .ok (.return_, 1)) (hret : ret = none) (ho : o = (0, none, A)) (hZ : Z) : J g l d own mn cc nL ret n0 s0 o Z pc lv [] A := by
  subst ho
  exact fun w => ⟨⟨hZ, XT.rf A, w⟩, fun E H locs ls hl hr hn0 hs hq => vx_ret (W.vret E.1 E.2.1 (E.2.2.2.2.2.2.1.trans hret) (fun t ht _ => ⟨rfl, rfl, by rw [ht]; exact hr⟩) hq hd E.2.2.2.2.2.2.2.1)⟩
theorem j_aret {q : Nat} {n : String} (hd : decode cc pc = .ok (.areturn, 1)) (hret : ret = some (.object n)) (ho : o = (0, some (rv g q), A)) (hZ : Z) : J g l d own mn cc nL ret n0 s0 o Z pc lv [rv g q] A := by
  subst ho
  exact fun w => ⟨⟨hZ, XT.rf A, w⟩, fun E H locs ls hl hr hn0 hs hq => vx_ret (W.aret E.1 E.2.1 (E.2.2.2.2.2.2.1.trans hret) (Or.inl ⟨n, rfl⟩) (by by_cases h : q = 0; exact Or.inl (by rw [h]; rfl); exact Or.inr ⟨_, rv_ne h⟩) (fun t ht _ => ⟨rfl, rfl, by rw [ht]; exact hr⟩) hq hd E.2.2.2.2.2.2.2.1)⟩
theorem j_dret {x : UInt64} (hd : decode cc pc = .ok (.dreturn, 1)) (hret : ret = some .double) (ho : o = (0, some (.double x), A)) (hZ : Z) : J g l d own mn cc nL ret n0 s0 o Z pc lv [.double x] A := by
  subst ho
  exact fun w => ⟨⟨hZ, XT.rf A, w⟩, fun E H locs ls hl hr hn0 hs hq => vx_ret (W.dret E.1 E.2.1 (E.2.2.2.2.2.2.1.trans hret) (fun t ht _ => ⟨rfl, rfl, by rw [ht]; exact hr⟩) hq hd E.2.2.2.2.2.2.2.1)⟩
theorem j_fret {x : UInt32} (hd : decode cc pc = .ok (.freturn, 1)) (hret : ret = some .float) (ho : o = (0, some (.float x), A)) (hZ : Z) : J g l d own mn cc nL ret n0 s0 o Z pc lv [.float x] A := by
  subst ho
  exact fun w => ⟨⟨hZ, XT.rf A, w⟩, fun E H locs ls hl hr hn0 hs hq => vx_ret (W.fret E.1 E.2.1 (E.2.2.2.2.2.2.1.trans hret) (fun t ht _ => ⟨rfl, rfl, by rw [ht]; exact hr⟩) hq hd E.2.2.2.2.2.2.2.1)⟩
/-! calls -/
/-- the entry idx of own's pool names this method -/
def MLK (own : String) (idx : Nat) (y : MethodName) : Prop := Cond.methodLink own idx y ∈ lw_gd
def MY (y : MethodName) (cc : ByteArray) (nL : Nat) (ret : Option FieldType) (n : Nat) : Prop :=
  Cond.initialized y.cls ∈ lw_gd ∧ Cond.code y cc nL ret ∈ lw_gd ∧ (y.cls ≠ "java/lang/invoke/MethodHandle" ∧ y.cls ≠ "java/lang/invoke/VarHandle" ∧ (parseMethodDescriptor y.desc).map (fun d => d.parameters.length) = some n)
theorem gd_GoodIn {y : MethodName} {cc : ByteArray} {nL : Nat} {ret : Option FieldType} (h : Cond.code y cc nL ret ∈ lw_gd) : GoodIn lw_gd (jws y cc nL ret) := fun w hw => by
  rcases List.mem_cons.mp hw with rfl | h2
  · exact ⟨h, lw_gd_good _ h⟩
  · exact ⟨h2, lw_gd_good _ h2⟩
theorem jcallB {R : Room} {s : State} {args : Array Value} {own' : String} {idx d' mc ms n : Nat} {y : MethodName} {cc' : ByteArray} {nL' : Nat} {ret' : Option FieldType} (hts : ∀ w ∈ lw_gd, w.before args s = true) (L : MLK own' idx y) (M : MY y cc' nL' ret' n) (hf : d' + 1 ≤ R.frames) (hlo : nL' ≤ 20) (hR : 40 * (d' + 1) ≤ R.locals) :
    CallB R s args own' idx y cc' nL' ret' (jws y cc' nL' ret') (jrm d' mc ms) mc ms n :=
  callB_of n hts (gd_GoodIn M.2.1) rfl rfl rfl (hts _ M.1) (hts _ L) M.2.2 ⟨hf, by show 8 + (nL' + 11) + 40 * d' ≤ R.locals; omega⟩
theorem pcBlind {as : List Value} {A : AH} : FrameBlind (va_Pc as (fun U => REL g A U.heap ∧ GK g U)) := fun a U G mk h => ⟨h.1, h.2.1, h.2.2.fr⟩
/-- behind a call that returns -/
theorem j_of_run {A1 : AH} {v : Option Value} {Z' : Prop} {st0 : List Value} {X : Array Value} (hC : WFA A → Z' ∧ XT A A1 ∧ WFA A1)
    (hrun : WFA A → ∀ {p : Program} {e : Env} {s : State} {m : MethodId} {args : Array Value} {below : List Frame} {meth : Method} {c : Code}, JE g p l e s m args below meth c own mn cc nL ret n0 → ∀ (R : Room) (H : Heap) (locs : List Loc) (ls : Array Slot) (k n : Nat), lv_has ls nL lv → REL g A H → R.frames = d → R.locals = 40 * d → k + (hN A1 - hN A) ≤ R.cells → n + (hSl A1 - hSl A) ≤ R.slots →
      vx_Run p l e R s m args below meth c H locs k n (hN A1 - hN A) (hSl A1 - hSl A) (F0 m pc ls st0) st (jQ g (0, v, A1) X) (jX g (0, v, A1)) (jF g))
    (KK : Z' → XT A A1 → J g l d own mn cc nL ret n0 s0 o Z (pc + 3) lv (v.toList ++ st) A1) : J g l d own mn cc nL ret n0 s0 o Z pc lv st0 A := by
  intro w
  obtain ⟨z1, z2, z3⟩ := hC w
  have K2 := KK z1 z2 z3
  refine ⟨⟨K2.1.1, z2.tr K2.1.2.1, K2.1.2.2⟩, fun E H locs ls hl hr hn hs hq => ?_⟩
  have hx1 := K2.1.2.1.1
  have hx2 := K2.1.2.1.2.1
  have hx3 := z2.1
  have hx4 := z2.2.1
  intro T hT X
  have e1 : hN A - n0 + (hN A1 - hN A) = hN A1 - n0 := by omega
  have e2 : hSl A - s0 + (hSl A1 - hSl A) = hSl A1 - s0 := by omega
  rcases hrun w E _ H locs ls _ _ hl hr rfl rfl (by show _ ≤ hN o.2.2 - n0; omega) (by show _ ≤ hSl o.2.2 - s0; omega) T hT X with ⟨v', st₀, t, T', L, h0, X', hL, q1, q2, ⟨-, hv, hR⟩, stp⟩ | ⟨q, st₀, t, T', L, Ee, ce, h0, X', hL, q1, q2, ⟨hbad, -⟩, -⟩
  · cases hv
    rw [e1, e2] at X'
    obtain ⟨t2, a1, b1⟩ := K2.2 E T'.heap (locs ++ L) ls hl (by rw [q1]; exact hR) (by omega) (by omega) (fun q hm => by
      rcases List.mem_append.mp hm with h | h
      · exact hq q h
      · exact hL q h) T' rfl X'
    exact ⟨t2, stp t2 a1, b1⟩
  · exact absurd rfl hbad
/-- behind a call that throws: it goes on to the caller -/
theorem j_of_runX {A1 : AH} {k : Nat} {v : Option Value} {Z' : Prop} {st0 : List Value} {X : Array Value} (hk : k ≠ 0) (hC : WFA A → Z' ∧ XT A A1 ∧ WFA A1)
    (hrun : WFA A → ∀ {p : Program} {e : Env} {s : State} {m : MethodId} {args : Array Value} {below : List Frame} {meth : Method} {c : Code}, JE g p l e s m args below meth c own mn cc nL ret n0 → ∀ (R : Room) (H : Heap) (locs : List Loc) (ls : Array Slot) (k' n : Nat), lv_has ls nL lv → REL g A H → R.frames = d → R.locals = 40 * d → k' + (hN A1 - hN A) ≤ R.cells → n + (hSl A1 - hSl A) ≤ R.slots →
      vx_Run p l e R s m args below meth c H locs k' n (hN A1 - hN A) (hSl A1 - hSl A) (F0 m pc ls st0) st (jQ g (k, v, A1) X) (jX g (k, v, A1)) (jF g))
    {v2 : Option Value} (ho : o = (k, v2, A1)) (hZ : Z) (hjt : jtab own mn = [] := by first | rfl | decide) : J g l d own mn cc nL ret n0 s0 o Z pc lv st0 A := by
  subst ho
  intro w
  obtain ⟨z1, z2, z3⟩ := hC w
  refine ⟨⟨hZ, z2, z3⟩, fun E H locs ls hl hr hn hs hq => ?_⟩
  have hx3 := z2.1
  have hx4 := z2.2.1
  intro T hT X
  have e1 : hN A - n0 + (hN A1 - hN A) = hN A1 - n0 := by omega
  have e2 : hSl A - s0 + (hSl A1 - hSl A) = hSl A1 - s0 := by omega
  rcases hrun w E _ H locs ls _ _ hl hr rfl rfl (by show _ ≤ hN A1 - n0; omega) (by show _ ≤ hSl A1 - s0; omega) T hT X with ⟨v', st₀, t, T', L, h0, X', hL, q1, q2, ⟨hbad, -⟩, stp⟩ | ⟨q, st₀, t, T', L, Ee, ce, h0, X', hL, q1, q2, ⟨-, hE, hR⟩, hce, hcv, hcl, stp⟩
  · exact absurd hbad hk
  · rw [e1, e2] at X'
    obtain ⟨t2, a1, b1⟩ := vx_out (H := T'.heap) (ls := ls) (rest := st) (pc := pc) (mc := hN A1 - n0) (ms := hSl A1 - s0) (Qc := jQ g (k, v2, A1)) (XC := jX g (k, v2, A1)) (free := jF g) (fun x hx => (E.tabE hjt x hx).elim) E.2.2.2.2.2.2.2.1 (by rw [q1]; exact hce) hcv hcl (fun t3 ht3 _ => ⟨hk, hE, by rw [ht3, q1]; exact hR⟩) (fun q hm => by
      rcases List.mem_append.mp hm with h | h
      · exact hq q h
      · exact hL q h) (Nat.le_refl _) (Nat.le_refl _) T' rfl X'
    exact ⟨t2, stp.trans a1, b1⟩
theorem jrunV {o' : JO} {Z' : Prop} {idx d' a K n : Nat} {y : MethodName} {cc' : ByteArray} {nL' : Nat} {ret' : Option FieldType} {As : List Value} (L : MLK own idx y) (M : MY y cc' nL' ret' n) (hI : Cond.instanceMethod y ∈ lw_gd) (hSel : Cond.selects y.cls y y ∈ lw_gd) (hK : K < 10) (hyC : y.cls = jC K) (hlo : nL' ≤ 20) (hd' : d' + 1 ≤ d) (hst : (st.map fun v => v.category).sum ≤ 8) (hn : As.length = n)
    (hC : CT g l y cc' nL' ret' d' (.ref (gB g + a) :: As) A o' Z') (hd : decode cc pc = .ok (.invokevirtual idx, 3)) (h1 : 1 ≤ a) (h2 : WFA A → a < hN A) (hka : kdA A a = K) : WFA A → ∀ {p : Program} {e : Env} {s : State} {m : MethodId} {args : Array Value} {below : List Frame} {meth : Method} {c : Code}, JE g p l e s m args below meth c own mn cc nL ret n0 → ∀ (R : Room) (H : Heap) (locs : List Loc) (ls : Array Slot) (k n : Nat), lv_has ls nL lv → REL g A H → R.frames = d → R.locals = 40 * d → k + (hN o'.2.2 - hN A) ≤ R.cells → n + (hSl o'.2.2 - hSl A) ≤ R.slots →
      vx_Run p l e R s m args below meth c H locs k n (hN o'.2.2 - hN A) (hSl o'.2.2 - hSl A) (F0 m pc ls (As.reverse ++ .ref (gB g + a) :: st)) st (jQ g o' (Value.ref (gB g + a) :: As).toArray) (jX g o') (jF g) := by
  intro w p e s m args below meth c E R H locs ls k n2 hl hr hRf hRl hk1 hk2
  have hts := E.2.2.2.2.1
  have hG := E.2.2.2.2.2.1
  have hob := hr.ob h1 (h2 w) hka hK
  refine vx_runV (C := y.cls) (As := As) (rest := st) ⟨E.1, E.2.1, E.2.2.1, E.2.2.2.1, hts⟩ (hC w).2 ⟨jcallB hts L M (by omega) hlo (by omega), hts _ hI, hts _ hSel⟩ ⟨pcBlind, ?_, fun U hU hW => ⟨rfl, by rw [hU]; exact hr, hG.warm hW⟩⟩ rfl hn hl.1 rfl (lv_room hst) hd ⟨hk1, hk2⟩
  obtain ⟨cell, q1, q2, q3, -⟩ := hob
  exact ⟨cell, q1, by rw [q3]; rfl, by rw [q2, hyC]; exact (hG.1.1 K _ (jcl_at hK)).2.1⟩
theorem j_callV {A1 : AH} {v : Option Value} {Z' : Prop} {idx d' a K n : Nat} {y : MethodName} {cc' : ByteArray} {nL' : Nat} {ret' : Option FieldType} {As : List Value} (L : MLK own idx y) (M : MY y cc' nL' ret' n) (hI : Cond.instanceMethod y ∈ lw_gd) (hSel : Cond.selects y.cls y y ∈ lw_gd) (hK : K < 10) (hyC : y.cls = jC K) (hlo : nL' ≤ 20) (hd' : d' + 1 ≤ d) (hst : (st.map fun v => v.category).sum ≤ 8) (hn : As.length = n)
    (hC : CT g l y cc' nL' ret' d' (.ref (gB g + a) :: As) A (0, v, A1) Z') (hd : decode cc pc = .ok (.invokevirtual idx, 3)) (h1 : 1 ≤ a) (h2 : WFA A → a < hN A) (hka : kdA A a = K) {st0 : List Value} (hst0 : st0 = As.reverse ++ .ref (gB g + a) :: st)
    (KK : Z' → XT A A1 → J g l d own mn cc nL ret n0 s0 o Z (pc + 3) lv (v.toList ++ st) A1) : J g l d own mn cc nL ret n0 s0 o Z pc lv st0 A := by
  subst hst0
  exact j_of_run (fun w => (hC w).1) (jrunV L M hI hSel hK hyC hlo hd' hst hn hC hd h1 h2 hka) KK
theorem j_callVx {A1 : AH} {k : Nat} {v v2 : Option Value} {Z' : Prop} {idx d' a K n : Nat} {y : MethodName} {cc' : ByteArray} {nL' : Nat} {ret' : Option FieldType} {As : List Value} (L : MLK own idx y) (M : MY y cc' nL' ret' n) (hI : Cond.instanceMethod y ∈ lw_gd) (hSel : Cond.selects y.cls y y ∈ lw_gd) (hK : K < 10) (hyC : y.cls = jC K) (hlo : nL' ≤ 20) (hd' : d' + 1 ≤ d) (hst : (st.map fun v => v.category).sum ≤ 8) (hn : As.length = n)
    (hC : CT g l y cc' nL' ret' d' (.ref (gB g + a) :: As) A (k, v, A1) Z') (hd : decode cc pc = .ok (.invokevirtual idx, 3)) (h1 : 1 ≤ a) (h2 : WFA A → a < hN A) (hka : kdA A a = K) {st0 : List Value} (hst0 : st0 = As.reverse ++ .ref (gB g + a) :: st)
    (hk : k ≠ 0) (ho : o = (k, v2, A1)) (hZ : Z) (hjt : jtab own mn = [] := by first | rfl | decide) : J g l d own mn cc nL ret n0 s0 o Z pc lv st0 A := by
  subst hst0
  exact j_of_runX hk (fun w => (hC w).1) (jrunV L M hI hSel hK hyC hlo hd' hst hn hC hd h1 h2 hka) ho hZ hjt
theorem jrunS {o' : JO} {Z' : Prop} {idx d' n : Nat} {y : MethodName} {cc' : ByteArray} {nL' : Nat} {ret' : Option FieldType} {As : List Value} (L : MLK own idx y) (M : MY y cc' nL' ret' n) (hI : Cond.static y ∈ lw_gd) (hlo : nL' ≤ 20) (hd' : d' + 1 ≤ d) (hst : (st.map fun v => v.category).sum ≤ 8) (hn : As.length = n)
    (hC : CT g l y cc' nL' ret' d' As A o' Z') (hd : decode cc pc = .ok (.invokestatic idx, 3)) : WFA A → ∀ {p : Program} {e : Env} {s : State} {m : MethodId} {args : Array Value} {below : List Frame} {meth : Method} {c : Code}, JE g p l e s m args below meth c own mn cc nL ret n0 → ∀ (R : Room) (H : Heap) (locs : List Loc) (ls : Array Slot) (k n : Nat), lv_has ls nL lv → REL g A H → R.frames = d → R.locals = 40 * d → k + (hN o'.2.2 - hN A) ≤ R.cells → n + (hSl o'.2.2 - hSl A) ≤ R.slots →
      vx_Run p l e R s m args below meth c H locs k n (hN o'.2.2 - hN A) (hSl o'.2.2 - hSl A) (F0 m pc ls (As.reverse ++ st)) st (jQ g o' As.toArray) (jX g o') (jF g) := by
  intro w p e s m args below meth c E R H locs ls k n2 hl hr hRf hRl hk1 hk2
  have hts := E.2.2.2.2.1
  have hG := E.2.2.2.2.2.1
  exact vx_runS (As := As) (rest := st) ⟨E.1, E.2.1, E.2.2.1, E.2.2.2.1, hts⟩ (hC w).2 ⟨jcallB hts L M (by omega) hlo (by omega), hts _ hI⟩ ⟨pcBlind, fun U hU hW => ⟨rfl, by rw [hU]; exact hr, hG.warm hW⟩⟩ rfl hn hl.1 rfl (lv_room hst) hd ⟨hk1, hk2⟩
theorem j_callS {A1 : AH} {v : Option Value} {Z' : Prop} {idx d' n : Nat} {y : MethodName} {cc' : ByteArray} {nL' : Nat} {ret' : Option FieldType} {As : List Value} (L : MLK own idx y) (M : MY y cc' nL' ret' n) (hI : Cond.static y ∈ lw_gd) (hlo : nL' ≤ 20) (hd' : d' + 1 ≤ d) (hst : (st.map fun v => v.category).sum ≤ 8) (hn : As.length = n)
    (hC : CT g l y cc' nL' ret' d' As A (0, v, A1) Z') (hd : decode cc pc = .ok (.invokestatic idx, 3)) {st0 : List Value} (hst0 : st0 = As.reverse ++ st)
    (KK : Z' → XT A A1 → J g l d own mn cc nL ret n0 s0 o Z (pc + 3) lv (v.toList ++ st) A1) : J g l d own mn cc nL ret n0 s0 o Z pc lv st0 A := by
  subst hst0
  exact j_of_run (fun w => (hC w).1) (jrunS L M hI hlo hd' hst hn hC hd) KK
theorem j_callSx {A1 : AH} {k : Nat} {v v2 : Option Value} {Z' : Prop} {idx d' n : Nat} {y : MethodName} {cc' : ByteArray} {nL' : Nat} {ret' : Option FieldType} {As : List Value} (L : MLK own idx y) (M : MY y cc' nL' ret' n) (hI : Cond.static y ∈ lw_gd) (hlo : nL' ≤ 20) (hd' : d' + 1 ≤ d) (hst : (st.map fun v => v.category).sum ≤ 8) (hn : As.length = n)
    (hC : CT g l y cc' nL' ret' d' As A (k, v, A1) Z') (hd : decode cc pc = .ok (.invokestatic idx, 3)) {st0 : List Value} (hst0 : st0 = As.reverse ++ st)
    (hk : k ≠ 0) (ho : o = (k, v2, A1)) (hZ : Z) (hjt : jtab own mn = [] := by first | rfl | decide) : J g l d own mn cc nL ret n0 s0 o Z pc lv st0 A := by
  subst hst0
  exact j_of_runX hk (fun w => (hC w).1) (jrunS L M hI hlo hd' hst hn hC hd) ho hZ hjt
theorem jrunI {o' : JO} {Z' : Prop} {idx d' a n : Nat} {y : MethodName} {cc' : ByteArray} {nL' : Nat} {As : List Value} (L : MLK own idx y) (M : MY y cc' nL' none n) (hI : Cond.instanceMethod y ∈ lw_gd) (hy1 : y.name = "<init>") (hlo : nL' ≤ 20) (hd' : d' + 1 ≤ d) (hst : (st.map fun v => v.category).sum ≤ 8) (hn : As.length = n)
    (hC : CT g l y cc' nL' none d' (.ref (gB g + a) :: As) A o' Z') (hd : decode cc pc = .ok (.invokespecial idx, 3)) : WFA A → ∀ {p : Program} {e : Env} {s : State} {m : MethodId} {args : Array Value} {below : List Frame} {meth : Method} {c : Code}, JE g p l e s m args below meth c own mn cc nL ret n0 → ∀ (R : Room) (H : Heap) (locs : List Loc) (ls : Array Slot) (k n : Nat), lv_has ls nL lv → REL g A H → R.frames = d → R.locals = 40 * d → k + (hN o'.2.2 - hN A) ≤ R.cells → n + (hSl o'.2.2 - hSl A) ≤ R.slots →
      vx_Run p l e R s m args below meth c H locs k n (hN o'.2.2 - hN A) (hSl o'.2.2 - hSl A) (F0 m pc ls (As.reverse ++ .ref (gB g + a) :: st)) st (jQ g o' (Value.ref (gB g + a) :: As).toArray) (jX g o') (jF g) := by
  intro w p e s m args below meth c E R H locs ls k n2 hl hr hRf hRl hk1 hk2
  have hts := E.2.2.2.2.1
  have hG := E.2.2.2.2.2.1
  exact vx_runI (b := gB g + a) (As := As) (rest := st) ⟨E.1, E.2.1, E.2.2.1, E.2.2.2.1, hts⟩ (hC w).2 ⟨jcallB hts L M (by omega) hlo (by omega), hy1, hts _ hI⟩ ⟨pcBlind, fun U hU hW => ⟨rfl, by rw [hU]; exact hr, hG.warm hW⟩⟩ rfl hn hl.1 rfl (lv_room hst) hd ⟨hk1, hk2⟩
theorem j_callI {A1 : AH} {v : Option Value} {Z' : Prop} {idx d' a n : Nat} {y : MethodName} {cc' : ByteArray} {nL' : Nat} {As : List Value} (L : MLK own idx y) (M : MY y cc' nL' none n) (hI : Cond.instanceMethod y ∈ lw_gd) (hy1 : y.name = "<init>") (hlo : nL' ≤ 20) (hd' : d' + 1 ≤ d) (hst : (st.map fun v => v.category).sum ≤ 8) (hn : As.length = n)
    (hC : CT g l y cc' nL' none d' (.ref (gB g + a) :: As) A (0, v, A1) Z') (hd : decode cc pc = .ok (.invokespecial idx, 3)) {st0 : List Value} (hst0 : st0 = As.reverse ++ .ref (gB g + a) :: st)
    (KK : Z' → XT A A1 → J g l d own mn cc nL ret n0 s0 o Z (pc + 3) lv (v.toList ++ st) A1) : J g l d own mn cc nL ret n0 s0 o Z pc lv st0 A := by
  subst hst0
  exact j_of_run (fun w => (hC w).1) (jrunI L M hI hy1 hlo hd' hst hn hC hd) KK
/-! throws -/
abbrev jsup : String := "java/lang/RuntimeException"
abbrev jsups : List String := ["java/lang/Exception"]
def jrx (ix : Nat) : ByteArray := ⟨#[0x2a, 0x2b, 0xb7, 0x00, ix.toUInt8, 0xb1]⟩
def jix (cls : String) : Nat := if cls = "java/util/NoSuchElementException" then 13 else 7
theorem jrx_ok (cls : String) : decode (jrx (jix cls)) 0 = .ok (.aload_n 0, 1) ∧ decode (jrx (jix cls)) 1 = .ok (.aload_n 1, 1) ∧ decode (jrx (jix cls)) 2 = .ok (.invokespecial (jix cls), 3) ∧ decode (jrx (jix cls)) 5 = .ok (.return_, 1) := by
  unfold jix
  split <;> exact ⟨by decide +kernel, by decide +kernel, by decide +kernel, by decide +kernel⟩
def THR (own cls text : String) (ik is ic : Nat) : Prop := Cond.classLink own ik cls ∈ lw_gd ∧ Cond.initialized cls ∈ lw_gd ∧ Cond.stringRef own is text ∈ lw_tbl ∧ (∀ w ∈ jatS own ic cls (jix cls) (jrx (jix cls)) jsup jsups, w ∈ lw_gd ∨ w ∈ lw_nw) ∧ (∀ w ∈ Cond.classLink own ik cls :: Cond.initialized cls :: jatS own ic cls (jix cls) (jrx (jix cls)) jsup jsups, vx_ot w = true) ∧ Bundle.fit cls = true
theorem nw_use {w : Cond} {args : Array Value} {s : State} (hm : w ∈ lw_nw) (h : va_Nw w s) : w.before args s = true := by
  have hn := (List.mem_filter.mp hm).2
  cases w <;> first | exact va_Nw.use rfl h | (simp [nestW] at hn)
theorem REL_nX {A : AH} {H H1 : Heap} (h : REL g A H) (hz : H1.size = H.size + 1) (ho : ∀ q, q < H.size → H1[q]? = H[q]?) (h376 : 376 ≤ hN A) : REL g (nX A) H1 := by
  have hs := h.1
  refine ⟨by rw [hz, hs, hN_nC]; omega, fun q hq => by rw [ho q (by omega)]; exact h.2.1 q hq, fun a h1 h2 => ?_⟩
  rw [hN_nC] at h2
  unfold jcell
  by_cases ha : a = hN A
  · have hk : kdA (nX A) a = 99 := by
      unfold kdA
      rw [if_neg (by omega), gK_nC, if_pos ha]
    rw [hk, if_neg (by decide), if_pos rfl]
    trivial
  · have h3 := h.2.2 a h1 (by omega)
    have hk : kdA (nX A) a = kdA A a := by
      unfold kdA
      rw [gK_nC, if_neg ha]
    have hq : H1[gB g + a]? = H[gB g + a]? := ho _ (by omega)
    have hf : ∀ K k, fv g (nX A) a K k = fv g A a K k := fun K k => by
      unfold fv
      rw [gP_nC, gI_nC, if_neg ha, if_neg ha]
    have hA : ∀ K, aA g (nX A) a K = aA g A a K := fun K => by
      have e1 : ∀ j, gI (nX A) a j = gI A a j := fun j => by rw [gI_nC, if_neg ha]
      have e2 : ∀ j, gP (nX A) a j = gP A a j := fun j => by rw [gP_nC, if_neg ha]
      unfold aA
      simp only [e1, e2, hDb_nC]
      try rfl
    unfold jcell at h3
    rw [hk]
    split
    · rename_i hlt
      rw [if_pos hlt] at h3
      exact (h3.kept hq).to (fun k _ => (hf _ k).symm)
    · rename_i hlt
      rw [if_neg hlt] at h3
      split
      · trivial
      · rename_i h9
        rw [if_neg h9] at h3
        rw [hq, hA]
        exact h3

theorem j_throw {cls text : String} {ik is ic k : Nat} {v2 : Option Value} (T0 : THR own cls text ik is ic) (hk : k ≠ 0) (hx : xnm k = cls) (hd6 : 6 ≤ d)
    (d0 : decode cc pc = .ok (.new ik, 3)) (d3 : decode cc (pc + 3) = .ok (.dup, 1)) (d4 : decode cc (pc + 4) = .ok (.ldc is, 2)) (d6 : decode cc (pc + 6) = .ok (.invokespecial ic, 3)) (d9 : decode cc (pc + 9) = .ok (.athrow, 1))
    (ho : o = (k, v2, nX A)) (hZ : Z) (hjt : jtab own mn = [] := by first | rfl | decide) : J g l d own mn cc nL ret n0 s0 o Z pc lv [] A := by
  subst ho
  intro w
  have h376 := w.1
  refine ⟨⟨hZ, XT_nC A 99 6, WFA_nC w 99 6⟩, fun E H locs ls hl hr hn hs hq => ?_⟩
  obtain ⟨t1, t2, t3, t4, t5, t6⟩ := T0
  have hts := E.2.2.2.2.1
  have hG := E.2.2.2.2.2.1
  obtain ⟨sa, hsa⟩ := hG.2.2.2.2.1 _ _ _ t3
  have e1 : hN (nX A) = hN A + 1 := rfl
  have e2 : hSl (nX A) = hSl A + 6 := rfl
  refine jx_throwS (own := own) (cls := cls) (text := text) (Y := jsup) (r := jsups) (ik := ik) (is := is) (ic := ic) (sa := sa) (A := jA g) (mc := hN (nX A) - n0) (ms := hSl (nX A) - s0) E.1 E.2.1 E.2.2.2.2.2.2.2.2.1 (jrx_ok cls) E.2.2.2.1 t6 (by decide) (by decide) (hts _ t1) (hts _ t2) hsa (fun w hw => (t4 w hw).elim (hts w) (fun h => nw_use h (hG.2.2.2.2.2.1 w h))) t5
    (hG.2.2.1.kept E.low) (hG.2.2.2.1.kept E.low) (jwsE E hr hn hq) (hl.1.trans E.2.2.1.symm) d0 d3 d4 d6 d9 (fun x hx => (E.tabE hjt x hx).elim) ?_ ?_ ?_ ?_ E.2.2.2.2.2.2.2.1 (fun t _ hz hsame => ⟨hk, hx.symm, REL_nX hr hz hsame h376⟩) hq (by show _ ≤ hN (nX A) - n0; omega) (by show _ ≤ hSl (nX A) - s0; omega)
  · show 1 + 4 < d
    omega
  · show 0 + (13 * (1 + 2) + 43) ≤ 40 * d
    omega
  · show _ ≤ hN (nX A) - n0
    omega
  · show _ ≤ hSl (nX A) - s0
    omega
theorem j_throwW {cls text : String} {ik is ic k : Nat} {v2 : Option Value} (T0 : THR own cls text ik is ic) (hk : k ≠ 0) (hx : xnm k = cls) (hd6 : 6 ≤ d)
    (d0 : decode cc pc = .ok (.new ik, 3)) (d3 : decode cc (pc + 3) = .ok (.dup, 1)) (d4 : decode cc (pc + 4) = .ok (.ldc_w is, 3)) (d6 : decode cc (pc + 7) = .ok (.invokespecial ic, 3)) (d9 : decode cc (pc + 10) = .ok (.athrow, 1))
    (ho : o = (k, v2, nX A)) (hZ : Z) (hjt : jtab own mn = [] := by first | rfl | decide) : J g l d own mn cc nL ret n0 s0 o Z pc lv [] A := by
  subst ho
  intro w
  have h376 := w.1
  refine ⟨⟨hZ, XT_nC A 99 6, WFA_nC w 99 6⟩, fun E H locs ls hl hr hn hs hq => ?_⟩
  obtain ⟨t1, t2, t3, t4, t5, t6⟩ := T0
  have hts := E.2.2.2.2.1
  have hG := E.2.2.2.2.2.1
  obtain ⟨sa, hsa⟩ := hG.2.2.2.2.1 _ _ _ t3
  have e1 : hN (nX A) = hN A + 1 := rfl
  have e2 : hSl (nX A) = hSl A + 6 := rfl
  refine jx_throwSW (own := own) (cls := cls) (text := text) (Y := jsup) (r := jsups) (ik := ik) (is := is) (ic := ic) (sa := sa) (A := jA g) (mc := hN (nX A) - n0) (ms := hSl (nX A) - s0) E.1 E.2.1 E.2.2.2.2.2.2.2.2.1 (jrx_ok cls) E.2.2.2.1 t6 (by decide) (by decide) (hts _ t1) (hts _ t2) hsa (fun w hw => (t4 w hw).elim (hts w) (fun h => nw_use h (hG.2.2.2.2.2.1 w h))) t5
    (hG.2.2.1.kept E.low) (hG.2.2.2.1.kept E.low) (jwsE E hr hn hq) (hl.1.trans E.2.2.1.symm) d0 d3 d4 d6 d9 (fun x hx => (E.tabE hjt x hx).elim) ?_ ?_ ?_ ?_ E.2.2.2.2.2.2.2.1 (fun t _ hz hsame => ⟨hk, hx.symm, REL_nX hr hz hsame h376⟩) hq (by show _ ≤ hN (nX A) - n0; omega) (by show _ ≤ hSl (nX A) - s0; omega)
  · show 1 + 4 < d
    omega
  · show 0 + (13 * (1 + 2) + 43) ≤ 40 * d
    omega
  · show _ ≤ hN (nX A) - n0
    omega
  · show _ ≤ hSl (nX A) - s0
    omega
end JD
