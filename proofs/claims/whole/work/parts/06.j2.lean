/-! the launch's words, the classes, where the abstract heap stands in the machine's -/
def nestW : Cond → Bool
  | .fieldLinkNest .. => true
  | .methodLinkNest .. => true
  | .castable .. => true
  | .declares .. => true
  | _ => false
def lw_gd : List Cond := lw_tbl.filter goodWord
def lw_nw : List Cond := lw_tbl.filter nestW
theorem lw_gd_good : ∀ w ∈ lw_gd, (w.onTables && w.keeps) = true ∨ ∃ ty, w = .arrayClass ty := fun _ h => good_of_word (List.mem_filter.mp h).2
theorem gdI {w : Cond} {i : Nat} (h : lw_tbl[i]? = some w) (g : goodWord w = true) : w ∈ lw_gd := List.mem_filter.mpr ⟨List.mem_of_getElem? h, g⟩
theorem nwI {w : Cond} {i : Nat} (h : lw_tbl[i]? = some w) (g : nestW w = true) : w ∈ lw_nw := List.mem_filter.mpr ⟨List.mem_of_getElem? h, g⟩
theorem tbI {w : Cond} {i : Nat} (h : lw_tbl[i]? = some w) : w ∈ lw_tbl := List.mem_of_getElem? h
theorem idxAll {L : List Cond} (ps : List Nat) (hp : L = ps.filterMap (fun i => lw_tbl[i]?)) (h : L.all (fun w => goodWord w || nestW w) = true) : ∀ w ∈ L, w ∈ lw_gd ∨ w ∈ lw_nw := fun w hw => by
  have h1 := List.all_eq_true.mp h w hw
  rw [hp] at hw
  obtain ⟨i, -, hi⟩ := List.mem_filterMap.mp hw
  have hm := List.mem_of_getElem? hi
  simp only [Bool.or_eq_true] at h1
  exact h1.imp (fun g => List.mem_filter.mpr ⟨hm, g⟩) (fun g => List.mem_filter.mpr ⟨hm, g⟩)
theorem gdM {w : Cond} (h : w ∈ lw_tbl) (g : goodWord w = true) : w ∈ lw_gd := List.mem_filter.mpr ⟨h, g⟩
theorem nwM {w : Cond} (h : w ∈ lw_tbl) (g : nestW w = true) : w ∈ lw_nw := List.mem_filter.mpr ⟨h, g⟩
abbrev jcl : List vw_C := [(RX0, TX0, 5), (RX1, TX1, 3), (RX2, TX2, 7), (RX3, TX3, 10), (RX4, TX4, 3), (RX5, TX5, 9), (RX6, TX6, 8), (RX7, TX7, 3), (RX8, TX8, 10), (RX9, TX9, 46)]
abbrev JG : Type := (Nat × Heap) × va_G × (Nat → ClassId) × (Nat → Nat) × (Nat → Int32)
def gB (g : JG) : Nat := g.1.1
def gH (g : JG) : Heap := g.1.2
def gD (g : JG) : va_G := g.2.1
def gC (g : JG) (k : Nat) : ClassId := g.2.2.1 k
def gS (g : JG) (k : Nat) : Nat := g.2.2.2.1 k
def gX (g : JG) (k : Nat) : Int32 := g.2.2.2.2 k
def jty (k : Nat) : FieldType := if k = 0 then .int else if k = 1 then .char else if k = 2 then .long else if k = 3 then .double else if k = 4 then .object RX3 else if k = 5 then .object RX4 else if k = 6 then .object RX0 else .object RX5
def jtys (g : JG) : List (ClassId × FieldType) := (List.range 8).map (fun k => (gC g k, jty k))
theorem jtys_at (g : JG) {k : Nat} (h : k < 8) : (jtys g)[k]? = some (gC g k, jty k) := by simp [jtys, h]
/-- a reference as the machine has it -/
def rv (g : JG) (q : Nat) : Value := if q = 0 then .null else .ref (gB g + q)
theorem rv_ne {g : JG} {q : Nat} (h : q ≠ 0) : rv g q = .ref (gB g + q) := if_neg h
theorem rv_0 (g : JG) : rv g 0 = .null := rfl
theorem rv_cat (g : JG) (q : Nat) : (rv g q).category = 1 := by unfold rv; split <;> rfl
def fv (g : JG) (A : AH) (a K k : Nat) : Value := if jfr K k = true then rv g (gP A a k) else vI (gI A a k)
def aA (g : JG) (A : AH) (a K : Nat) : vp_A :=
  (jal K, if jek K < 2 then .inl (fun j => Int32.ofInt (gI A a j)) else if jek K = 2 then .inr (.inl (fun j => Int64.ofInt (gI A a j))) else if jek K = 3 then .inr (.inr (.inr (.inl fun _ => if a = 375 then hDb A else 0)))
    else .inr (.inr (.inr (.inr (fun j => if gP A a j = 0 then none else some (gB g + gP A a j))))))
/-- the cell a of the abstract heap in the machine's -/
def jcell (g : JG) (A : AH) (H : Heap) (a : Nat) : Prop :=
  if kdA A a < 10 then t_OB (gB g + a) ((gD g).1 (kdA A a)) (jfn (kdA A a)) ((gD g).2 (kdA A a)) H (fv g A a (kdA A a))
  else if kdA A a = 99 then True else H[gB g + a]? = some (vp_cell (gC g (jek (kdA A a))) (aA g A a (kdA A a)))
def REL (g : JG) (A : AH) (H : Heap) : Prop := H.size = gB g + hN A ∧ (∀ q, q ≤ gB g → H[q]? = (gH g)[q]?) ∧ ∀ a, 1 ≤ a → a < hN A → jcell g A H a
theorem REL.ob {g : JG} {A : AH} {H : Heap} (h : REL g A H) {a K : Nat} (h1 : 1 ≤ a) (h2 : a < hN A) (hk : kdA A a = K) (hK : K < 10) : t_OB (gB g + a) ((gD g).1 K) (jfn K) ((gD g).2 K) H (fv g A a K) := by
  have h3 := h.2.2 a h1 h2
  unfold jcell at h3
  rw [hk, if_pos hK] at h3
  exact h3
theorem REL.ar {g : JG} {A : AH} {H : Heap} (h : REL g A H) {a K : Nat} (h1 : 1 ≤ a) (h2 : a < hN A) (hk : kdA A a = K) (hK : 10 ≤ K) (h9 : K ≠ 99) : H[gB g + a]? = some (vp_cell (gC g (jek K)) (aA g A a K)) := by
  have h3 := h.2.2 a h1 h2
  unfold jcell at h3
  rw [hk, if_neg (by omega), if_neg h9] at h3
  exact h3
/-- a store in one cell -/
theorem REL.upd {g : JG} {A B : AH} {H H1 : Heap} (h : REL g A H) (hn : hN B = hN A) {a : Nat} (h1 : 1 ≤ a) (hz : H1.size = H.size) (ho : ∀ q, q ≠ gB g + a → H1[q]? = H[q]?)
    (hkd : ∀ b, kdA B b = kdA A b) (hv : ∀ b, b ≠ a → (∀ K k, fv g B b K k = fv g A b K k) ∧ (∀ K, kdA A b = K → aA g B b K = aA g A b K)) (hc : jcell g B H1 a) : REL g B H1 := by
  refine ⟨by rw [hz, hn]; exact h.1, fun q hq => by rw [ho q (by omega)]; exact h.2.1 q hq, fun b hb1 hb2 => ?_⟩
  by_cases hb : b = a
  · rw [hb]; exact hc
  · have h3 := h.2.2 b hb1 (by rw [← hn]; exact hb2)
    have hq : H1[gB g + b]? = H[gB g + b]? := ho _ (by omega)
    unfold jcell at h3 ⊢
    rw [hkd b]
    obtain ⟨hv1, hv2⟩ := hv b hb
    split
    · rename_i hlt
      rw [if_pos hlt] at h3
      exact (h3.kept hq).to (fun k _ => (hv1 _ k).symm)
    · rename_i hlt
      rw [if_neg hlt] at h3
      split
      · trivial
      · rename_i h9
        rw [if_neg h9] at h3
        rw [hq, hv2 _ rfl]
        exact h3
/-- what the tables say, at any state of this launch -/
def jST (k : Nat) : String × String × List Int32 :=
  if k = 0 then ("PilotRoster", "LEAST_OF_RULE", [0, 1, 1, 1, 0]) else if k = 1 then ("PilotRoster", "MOST_OF_RULE", [24, 6, 9, 30, 12]) else if k = 2 then ("PilotRoster", "FIRST_RULES", [6, 2, 3, 10, 2])
  else if k = 3 then ("PilotRoster", "FIRST_HEIGHTS", [0, 1, 2, 3, 4, 5, 6, 5, 4, 3, 2, 1]) else if k = 4 then ("PilotRosterModel", "LEAST", [0, 1, 1, 1, 0]) else ("PilotRosterModel", "MOST", [24, 6, 9, 30, 12])
def jA (g : JG) : Nat → Prop := fun q => gB g < q
def xnm (k : Nat) : String := if k = 1 then "java/lang/IllegalArgumentException" else if k = 2 then "java/lang/IllegalStateException" else if k = 3 then "java/lang/IndexOutOfBoundsException" else if k = 4 then "java/lang/ArithmeticException"
  else if k = 5 then "java/lang/UnsupportedOperationException" else "java/util/NoSuchElementException"
def jtabL (mn : String) : List (Nat × Nat × Nat × Nat) :=
  if mn = "addBoat" then [(0, 9, 12, 13), (0, 9, 15, 27)]
  else if mn = "addPilot" then [(0, 9, 12, 13), (0, 9, 15, 27)]
  else if mn = "boat" then [(0, 10, 13, 22), (0, 10, 17, 13)]
  else if mn = "depth" then [(0, 9, 12, 22)]
  else if mn = "faultPosition" then [(0, 8, 11, 42)]
  else if mn = "feed" then [(0, 9, 12, 27)]
  else if mn = "hinders" then [(0, 12, 15, 22)]
  else if mn = "meanWait" then [(0, 7, 10, 96)]
  else if mn = "number" then [(0, 9, 12, 13)]
  else if mn = "order" then [(0, 16, 19, 13), (0, 16, 23, 27)]
  else if mn = "orderOf" then [(0, 10, 13, 22), (0, 10, 17, 13)]
  else if mn = "pass" then [(0, 9, 12, 13), (0, 9, 15, 27)]
  else if mn = "pilot" then [(0, 10, 13, 22), (0, 10, 17, 13)]
  else if mn = "place" then [(0, 10, 13, 22)]
  else if mn = "placeAgain" then [(0, 10, 13, 22)]
  else if mn = "plan" then [(0, 12, 15, 22), (0, 12, 19, 51)]
  else if mn = "planOf" then [(0, 12, 15, 22), (0, 12, 19, 42), (0, 12, 23, 13)]
  else if mn = "putOff" then [(0, 10, 13, 22), (0, 10, 17, 13), (0, 10, 21, 51)]
  else if mn = "read" then [(0, 8, 11, 13), (0, 8, 14, 51)]
  else if mn = "refusal" then [(0, 9, 12, 42)]
  else if mn = "release" then [(0, 9, 12, 22), (0, 9, 15, 51)]
  else if mn = "restoreSnapshot" then [(0, 8, 11, 27)]
  else if mn = "rule" then [(0, 10, 13, 13)]
  else if mn = "run" then [(0, 12, 15, 22), (0, 12, 19, 13), (0, 12, 23, 51)]
  else if mn = "serve" then [(0, 9, 12, 22), (0, 9, 15, 51)]
  else if mn = "serving" then [(0, 10, 13, 22), (0, 10, 17, 13), (0, 10, 21, 42)]
  else if mn = "share" then [(0, 9, 12, 22), (0, 9, 15, 96)]
  else if mn = "tide" then [(0, 10, 13, 13)]
  else if mn = "undo" then [(0, 8, 11, 27)]
  else if mn = "urgent" then [(0, 9, 12, 42)]
  else if mn = "window" then [(0, 10, 13, 22), (0, 10, 17, 42)]
  else []
/-- the exception table of a method -/
def jtab (own mn : String) : List (Nat × Nat × Nat × Nat) := if own = "PilotRosterLaw" then jtabL mn else []
def JST (g : JG) (U : State) : Prop :=
  (∀ k, k < 6 → va_Z (jST k).1 (jST k).2.1 "[I" (.ref (gS g k)) (jA g) U (gH g) ∧ va_T .int (gS g k) (jST k).2.2.length (fun j => .int ((jST k).2.2.getD j 0)) (jA g) U (gH g)) ∧
  vx_Zq Bundle.tN "UNASSIGNED_STACK" Bundle.steD (jA g) U (gH g) ∧ vx_Zq Bundle.tN "SUPPRESSED_SENTINEL" Bundle.listD (jA g) U (gH g) ∧
  (∀ own k tx, Cond.stringRef own k tx ∈ lw_tbl → ∃ a, vk_R own k tx a U) ∧ (∀ w ∈ lw_nw, va_Nw w U) ∧ (gH g).size = gB g + 1 ∧
  (∀ a b, 1 ≤ a → a ≤ 6 → 1 ≤ b → b ≤ 6 → a ≠ b → va_Nc (xnm a) (xnm b) U) ∧ va_X (gS g 6) (gS g 7) (gX g) U (gH g) ∧ gS g 6 ≤ gB g
def GK (g : JG) (U : State) : Prop := va_K (gD g) jcl (jtys g) U ∧ JST g U
theorem GK.warm {g : JG} {s U : State} (hW : s.WarmedH U.vm) (h : GK g s) : GK g U := by
  obtain ⟨hK, h1, h2, h3, h4, h5, h6, h7, h8, h9⟩ := h
  refine ⟨va_K.moved hW.alike hK, fun k hk => ⟨va_Z.moved hW.alike (h1 k hk).1, va_T.moved hW.alike (h1 k hk).2⟩, vx_Zq.moved hW.alike h2, vx_Zq.moved hW.alike h3, fun own k tx hm => ?_, fun w hw => ?_, h6, fun a b q1 q2 q3 q4 q5 => va_Nc.moved hW.alike (h7 a b q1 q2 q3 q4 q5), va_X.moved hW.alike h8, h9⟩
  · obtain ⟨a, ha⟩ := h4 own k tx hm
    exact ⟨a, vk_R.warm hW ha⟩
  · have hb := h5 w hw
    have hn := (List.mem_filter.mp hw).2
    cases w <;> first | exact va_Nw.warmF hW hb | exact va_Nw.warmM hW hb | exact va_Nw.warmC hW hb | exact va_Nw.warmD hW hb | (simp [nestW] at hn)
theorem GK.fr {g : JG} {U : State} {G : JFrame} {mk : MethodId} {a : Array Value} (h : GK g U) : GK g (U.calling G mk a) := GK.warm (s := U) (State.WarmedH.refl U) h
/-! outcomes: 0 and a value, or the number of an exception; the abstract heap then -/
abbrev JO : Type := Nat × Option Value × AH
def jQ (g : JG) (o : JO) : Array Value → State → Outcome → State → Prop := fun _ _ oc t => o.1 = 0 ∧ oc = .returned o.2.1 ∧ REL g o.2.2 t.heap
def jX (g : JG) (o : JO) : String → State → State → Prop := fun E _ t => o.1 ≠ 0 ∧ E = xnm o.1 ∧ REL g o.2.2 t.heap
def jF (g : JG) : Addr → Prop := fun q => gB g < q
def jrm (d mc ms : Nat) : Room := { frames := d, cells := mc, slots := ms, locals := 40 * d }
def jws (y : MethodName) (cc : ByteArray) (nL : Nat) (ret : Option FieldType) : List Cond := .code y cc nL ret :: lw_gd
/-- a method's contract at one start and one outcome -/
def CT (g : JG) (l : Launch) (y : MethodName) (cc : ByteArray) (nL : Nat) (ret : Option FieldType) (d : Nat) (as : List Value) (A : AH) (o : JO) (Z : Prop) : Prop :=
  WFA A → (Z ∧ XT A o.2.2 ∧ WFA o.2.2) ∧ vx_Met l y (jws y cc nL ret) (jrm d (hN o.2.2 - hN A) (hSl o.2.2 - hSl A)) (va_Pc as (fun U => REL g A U.heap ∧ GK g U)) (jQ g o) (jX g o) (hN o.2.2 - hN A) (hSl o.2.2 - hSl A) (jF g)
/-- what stands throughout a body -/
def JE (g : JG) (p : Program) (l : Launch) (_ : Env) (s : State) (m : MethodId) (args : Array Value) (_ : List Frame) (meth : Method) (c : Code) (own mn : String) (cc : ByteArray) (nL : Nat) (ret : Option FieldType) (n0 : Nat) : Prop :=
  p.tables.exec = Jvm.exec ∧ c.code = cc ∧ c.maxLocals = nL ∧ s.vm.findClass own = some m.cls ∧ (∀ w ∈ lw_gd, w.before args s = true) ∧ GK g s ∧ meth.sig.returnType = ret ∧ meth.locks = false ∧ l.stackTraces = false ∧
  s.heap.size = gB g + n0 ∧ (∀ q, q ≤ gB g → s.heap[q]? = (gH g)[q]?) ∧ meth.name = mn ∧ c.exceptionTable.toList = tableOf (jtab own mn)
/-- the body at a pc, its outcome known -/
def J (g : JG) (l : Launch) (d : Nat) (own mn : String) (cc : ByteArray) (nL : Nat) (ret : Option FieldType) (n0 s0 : Nat) (o : JO) (Z : Prop) (pc : Nat) (lv : List (Nat × Value)) (st : List Value) (A : AH) : Prop :=
  WFA A → (Z ∧ XT A o.2.2 ∧ WFA o.2.2) ∧ ∀ {p : Program} {e : Env} {s : State} {m : MethodId} {args : Array Value} {below : List Frame} {meth : Method} {c : Code}, JE g p l e s m args below meth c own mn cc nL ret n0 →
    ∀ (H : Heap) (locs : List Loc) (ls : Array Slot), lv_has ls nL lv → REL g A H → n0 ≤ hN A → s0 ≤ hSl A → (∀ q ∈ locs, gB g < q.base) →
    W p l e (jrm d (hN o.2.2 - n0) (hSl o.2.2 - s0)) s m args below meth c H locs (hN A - n0) (hSl A - s0) (vx_MQ below (jQ g o) (jX g o) args s (hN o.2.2 - n0) (hSl o.2.2 - s0) (jF g)) (F0 m pc ls st)
section JR
variable {g : JG} {l : Launch} {d : Nat} {own mn : String} {cc : ByteArray} {nL : Nat} {ret : Option FieldType} {n0 s0 : Nat} {o : JO} {Z : Prop} {pc : Nat} {lv : List (Nat × Value)} {st : List Value} {A : AH}
theorem JE.tabE {p : Program} {e : Env} {s : State} {m : MethodId} {args : Array Value} {below : List Frame} {meth : Method} {c : Code} (E : JE g p l e s m args below meth c own mn cc nL ret n0) (h : jtab own mn = []) : ∀ x ∈ c.exceptionTable.toList, False := fun x hx => by
  have h2 := E.2.2.2.2.2.2.2.2.2.2.2.2
  rw [h] at h2
  rw [h2] at hx
  exact nomatch hx
theorem J.lift {pc' : Nat} {lv' : List (Nat × Value)} {st' : List Value} (h : ∀ {p : Program} {e : Env} {s : State} {m : MethodId} {args : Array Value} {below : List Frame} {meth : Method} {c : Code}, JE g p l e s m args below meth c own mn cc nL ret n0 → ∀ (R : Room) (H : Heap) (locs : List Loc) (k n : Nat) (Q : State → Prop) (ls : Array Slot), lv_has ls nL lv → (∀ ls', lv_has ls' nL lv' → W p l e R s m args below meth c H locs k n Q (F0 m pc' ls' st')) → W p l e R s m args below meth c H locs k n Q (F0 m pc ls st))
    (K : J g l d own mn cc nL ret n0 s0 o Z pc' lv' st' A) : J g l d own mn cc nL ret n0 s0 o Z pc lv st A :=
  fun w => ⟨(K w).1, fun E H locs ls hl hr hn hs hq => h E _ H locs _ _ _ ls hl (fun ls' hl' => (K w).2 E H locs ls' hl' hr hn hs hq)⟩
theorem j_sub (ks : List Nat) {lv' : List (Nat × Value)} (h : lv_pick lv ks = lv') (K : J g l d own mn cc nL ret n0 s0 o Z pc lv' st A) : J g l d own mn cc nL ret n0 s0 o Z pc lv st A :=
  fun w => ⟨(K w).1, fun E H locs ls hl => (K w).2 E H locs ls (lv_sub hl ks h)⟩
theorem j_iconst {n : Int} (hd : decode cc pc = .ok (.iconst n, 1)) (K : J g l d own mn cc nL ret n0 s0 o Z (pc + 1) lv (vI n :: st) A) : J g l d own mn cc nL ret n0 s0 o Z pc lv st A :=
  J.lift (fun E _ _ _ _ _ _ _ hl k => lv_iconst E.1 E.2.1 hd rfl (k _ hl)) K
theorem j_bipush {n : Int} (hd : decode cc pc = .ok (.bipush n, 2)) (hv : (Int8.ofInt n).toInt32 = Int32.ofInt n) (K : J g l d own mn cc nL ret n0 s0 o Z (pc + 2) lv (vI n :: st) A) : J g l d own mn cc nL ret n0 s0 o Z pc lv st A :=
  J.lift (fun E _ _ _ _ _ _ _ hl k => lv_bipush E.1 E.2.1 hd hv (k _ hl)) K
theorem j_sipush {n : Int} (hd : decode cc pc = .ok (.sipush n, 3)) (hv : (Int16.ofInt n).toInt32 = Int32.ofInt n) (K : J g l d own mn cc nL ret n0 s0 o Z (pc + 3) lv (vI n :: st) A) : J g l d own mn cc nL ret n0 s0 o Z pc lv st A :=
  J.lift (fun E _ _ _ _ _ _ _ hl k => lv_sipush E.1 E.2.1 hd hv (k _ hl)) K
theorem j_iload_n {k : Fin 4} {i j : Nat} {x : Int} (hd : decode cc pc = .ok (.iload_n k, 1)) (hi : (k : Nat) = i) (hl : lv[j]? = some (i, vI x)) (K : J g l d own mn cc nL ret n0 s0 o Z (pc + 1) lv (vI x :: st) A) : J g l d own mn cc nL ret n0 s0 o Z pc lv st A :=
  J.lift (fun E _ _ _ _ _ _ _ h k => lv_iload_n E.1 E.2.1 hd hi (lv_at h j hl) (k _ h)) K
theorem j_iload {i j : Nat} {x : Int} (hd : decode cc pc = .ok (.iload i, 2)) (hl : lv[j]? = some (i, vI x)) (K : J g l d own mn cc nL ret n0 s0 o Z (pc + 2) lv (vI x :: st) A) : J g l d own mn cc nL ret n0 s0 o Z pc lv st A :=
  J.lift (fun E _ _ _ _ _ _ _ h k => lv_iload E.1 E.2.1 hd (lv_at h j hl) (k _ h)) K
theorem j_aload_n {k : Fin 4} {i j : Nat} {x : Nat} (hd : decode cc pc = .ok (.aload_n k, 1)) (hi : (k : Nat) = i) (hl : lv[j]? = some (i, .ref x)) (K : J g l d own mn cc nL ret n0 s0 o Z (pc + 1) lv (.ref x :: st) A) : J g l d own mn cc nL ret n0 s0 o Z pc lv st A :=
  J.lift (fun E _ _ _ _ _ _ _ h k => lv_aload_n E.1 E.2.1 hd hi (lv_at h j hl) (k _ h)) K
theorem j_aload {i j : Nat} {x : Nat} (hd : decode cc pc = .ok (.aload i, 2)) (hl : lv[j]? = some (i, .ref x)) (K : J g l d own mn cc nL ret n0 s0 o Z (pc + 2) lv (.ref x :: st) A) : J g l d own mn cc nL ret n0 s0 o Z pc lv st A :=
  J.lift (fun E _ _ _ _ _ _ _ h k => lv_aload E.1 E.2.1 hd (lv_at h j hl) (k _ h)) K
theorem j_aloadQ_n {k : Fin 4} {i j : Nat} {q : Nat} (hd : decode cc pc = .ok (.aload_n k, 1)) (hi : (k : Nat) = i) (hl : lv[j]? = some (i, rv g q)) (K : J g l d own mn cc nL ret n0 s0 o Z (pc + 1) lv (rv g q :: st) A) : J g l d own mn cc nL ret n0 s0 o Z pc lv st A := by
  refine J.lift (fun E _ _ _ _ _ _ ls h k => ?_) K
  have h1 := lv_at h j hl
  have h2 := k _ h
  by_cases hq : q = 0
  · rw [hq, rv_0] at h1 h2
    exact lv_aload_nN E.1 E.2.1 hd hi h1 h2
  · rw [rv_ne hq] at h1 h2
    exact lv_aload_n E.1 E.2.1 hd hi h1 h2
theorem j_aloadQ {i j : Nat} {q : Nat} (hd : decode cc pc = .ok (.aload i, 2)) (hl : lv[j]? = some (i, rv g q)) (K : J g l d own mn cc nL ret n0 s0 o Z (pc + 2) lv (rv g q :: st) A) : J g l d own mn cc nL ret n0 s0 o Z pc lv st A := by
  refine J.lift (fun E _ _ _ _ _ _ ls h k => ?_) K
  have h1 := lv_at h j hl
  have h2 := k _ h
  by_cases hq : q = 0
  · rw [hq, rv_0] at h1 h2
    exact lv_aloadN E.1 E.2.1 hd h1 h2
  · rw [rv_ne hq] at h1 h2
    exact lv_aload E.1 E.2.1 hd h1 h2
theorem jfil {i : Nat} (hc : lv.all (fun q => q.2.category == 1) = true) : lv.filter (fun q => !(q.1 == i) && !(q.1 + 1 == i && q.2.category == 2)) = lv.filter (fun q => !(q.1 == i)) := by
  apply List.filter_congr
  intro q hq
  have h := List.all_eq_true.mp hc q hq
  have h2 : q.2.category = 1 := by simpa using h
  simp [h2]
theorem j_istore_n {k : Fin 4} {i : Nat} {x : Int} {lv' : List (Nat × Value)} (hd : decode cc pc = .ok (.istore_n k, 1)) (hi : (k : Nat) = i) (hn : i < nL) (hc : lv.all (fun q => q.2.category == 1) = true) (hl : (i, vI x) :: lv.filter (fun q => !(q.1 == i)) = lv')
    (K : J g l d own mn cc nL ret n0 s0 o Z (pc + 1) lv' st A) : J g l d own mn cc nL ret n0 s0 o Z pc lv (vI x :: st) A :=
  J.lift (fun E _ _ _ _ _ _ _ h k => lv_istore_n E.1 E.2.1 hd hi h hn (by rw [jfil hc]; exact hl) k) K
theorem j_istore {i : Nat} {x : Int} {lv' : List (Nat × Value)} (hd : decode cc pc = .ok (.istore i, 2)) (hn : i < nL) (hc : lv.all (fun q => q.2.category == 1) = true) (hl : (i, vI x) :: lv.filter (fun q => !(q.1 == i)) = lv')
    (K : J g l d own mn cc nL ret n0 s0 o Z (pc + 2) lv' st A) : J g l d own mn cc nL ret n0 s0 o Z pc lv (vI x :: st) A :=
  J.lift (fun E _ _ _ _ _ _ _ h k => lv_istore E.1 E.2.1 hd h hn (by rw [jfil hc]; exact hl) k) K
theorem j_astoreQ_n {k : Fin 4} {i : Nat} {q : Nat} {lv' : List (Nat × Value)} (hd : decode cc pc = .ok (.astore_n k, 1)) (hi : (k : Nat) = i) (hn : i < nL) (hc : lv.all (fun q => q.2.category == 1) = true) (hl : (i, rv g q) :: lv.filter (fun q => !(q.1 == i)) = lv')
    (K : J g l d own mn cc nL ret n0 s0 o Z (pc + 1) lv' st A) : J g l d own mn cc nL ret n0 s0 o Z pc lv (rv g q :: st) A := by
  refine J.lift (fun E _ _ _ _ _ _ ls h k => ?_) K
  by_cases hq : q = 0
  · rw [hq, rv_0] at hl ⊢
    exact lv_astore_nN E.1 E.2.1 hd hi h hn (by rw [jfil hc]; exact hl) k
  · rw [rv_ne hq] at hl ⊢
    exact lv_astore_n E.1 E.2.1 hd hi h hn (by rw [jfil hc]; exact hl) k
theorem j_astoreQ {i : Nat} {q : Nat} {lv' : List (Nat × Value)} (hd : decode cc pc = .ok (.astore i, 2)) (hn : i < nL) (hc : lv.all (fun q => q.2.category == 1) = true) (hl : (i, rv g q) :: lv.filter (fun q => !(q.1 == i)) = lv')
    (K : J g l d own mn cc nL ret n0 s0 o Z (pc + 2) lv' st A) : J g l d own mn cc nL ret n0 s0 o Z pc lv (rv g q :: st) A := by
  refine J.lift (fun E _ _ _ _ _ _ ls h k => ?_) K
  by_cases hq : q = 0
  · rw [hq, rv_0] at hl ⊢
    exact lv_astoreN E.1 E.2.1 hd h hn (by rw [jfil hc]; exact hl) k
  · rw [rv_ne hq] at hl ⊢
    exact lv_astore E.1 E.2.1 hd h hn (by rw [jfil hc]; exact hl) k
theorem j_astore_n {k : Fin 4} {i : Nat} {x : Nat} {lv' : List (Nat × Value)} (hd : decode cc pc = .ok (.astore_n k, 1)) (hi : (k : Nat) = i) (hn : i < nL) (hc : lv.all (fun q => q.2.category == 1) = true) (hl : (i, .ref x) :: lv.filter (fun q => !(q.1 == i)) = lv')
    (K : J g l d own mn cc nL ret n0 s0 o Z (pc + 1) lv' st A) : J g l d own mn cc nL ret n0 s0 o Z pc lv (.ref x :: st) A :=
  J.lift (fun E _ _ _ _ _ _ _ h k => lv_astore_n E.1 E.2.1 hd hi h hn (by rw [jfil hc]; exact hl) k) K
theorem j_astore {i : Nat} {x : Nat} {lv' : List (Nat × Value)} (hd : decode cc pc = .ok (.astore i, 2)) (hn : i < nL) (hc : lv.all (fun q => q.2.category == 1) = true) (hl : (i, .ref x) :: lv.filter (fun q => !(q.1 == i)) = lv')
    (K : J g l d own mn cc nL ret n0 s0 o Z (pc + 2) lv' st A) : J g l d own mn cc nL ret n0 s0 o Z pc lv (.ref x :: st) A :=
  J.lift (fun E _ _ _ _ _ _ _ h k => lv_astore E.1 E.2.1 hd h hn (by rw [jfil hc]; exact hl) k) K
theorem j_iinc {i k : Nat} {n x : Int} {lv' : List (Nat × Value)} (hd : decode cc pc = .ok (.iinc i n, 3)) (hk : lv[k]? = some (i, vI x)) (hn : i < nL) (hc : lv.all (fun q => q.2.category == 1) = true) (hl : (i, vI (wrap (x + n))) :: lv.filter (fun q => !(q.1 == i)) = lv')
    (K : J g l d own mn cc nL ret n0 s0 o Z (pc + 3) lv' st A) : J g l d own mn cc nL ret n0 s0 o Z pc lv st A :=
  J.lift (fun E _ _ _ _ _ _ _ h kk => lv_iinc E.1 E.2.1 hd h hk (i32_add x n) hn (by rw [jfil hc]; exact hl) kk) K
theorem j_iadd {x y : Int} (hd : decode cc pc = .ok (.iadd, 1)) (K : J g l d own mn cc nL ret n0 s0 o Z (pc + 1) lv (vI (wrap (x + y)) :: st) A) : J g l d own mn cc nL ret n0 s0 o Z pc lv (vI y :: vI x :: st) A :=
  J.lift (fun E _ _ _ _ _ _ _ h k => lv_iadd E.1 E.2.1 hd (by rw [i32_add]; exact k _ h)) K
theorem j_isub {x y : Int} (hd : decode cc pc = .ok (.isub, 1)) (K : J g l d own mn cc nL ret n0 s0 o Z (pc + 1) lv (vI (wrap (x - y)) :: st) A) : J g l d own mn cc nL ret n0 s0 o Z pc lv (vI y :: vI x :: st) A :=
  J.lift (fun E _ _ _ _ _ _ _ h k => lv_isub E.1 E.2.1 hd (by rw [i32_sub]; exact k _ h)) K
theorem j_imul {x y : Int} (hd : decode cc pc = .ok (.imul, 1)) (K : J g l d own mn cc nL ret n0 s0 o Z (pc + 1) lv (vI (wrap (x * y)) :: st) A) : J g l d own mn cc nL ret n0 s0 o Z pc lv (vI y :: vI x :: st) A :=
  J.lift (fun E _ _ _ _ _ _ _ h k => lv_imul E.1 E.2.1 hd (by rw [i32_mul]; exact k _ h)) K
theorem j_irem {x y : Int} (hx : inR x) (hy : inR y) (h0 : 0 < y) (hd : decode cc pc = .ok (.irem, 1)) (K : J g l d own mn cc nL ret n0 s0 o Z (pc + 1) lv (vI (x.tmod y) :: st) A) : J g l d own mn cc nL ret n0 s0 o Z pc lv (vI y :: vI x :: st) A :=
  J.lift (fun E _ _ _ _ _ _ _ h k => lv_irem E.1 E.2.1 hd (by rw [i32_zero, i32_eq_iff hy inR_0]; omega) (by rw [i32_rem hx hy h0]; exact k _ h)) K
theorem j_iand {x y : Int} (hd : decode cc pc = .ok (.iand, 1)) (K : J g l d own mn cc nL ret n0 s0 o Z (pc + 1) lv (vI (iAnd x y) :: st) A) : J g l d own mn cc nL ret n0 s0 o Z pc lv (vI y :: vI x :: st) A :=
  J.lift (fun E _ _ _ _ _ _ _ h k => lv_iand E.1 E.2.1 hd (by have := k _ h; rw [vI, iAnd, i32_of] at this; exact this)) K
theorem j_ior {x y : Int} (hd : decode cc pc = .ok (.ior, 1)) (K : J g l d own mn cc nL ret n0 s0 o Z (pc + 1) lv (vI (iOr x y) :: st) A) : J g l d own mn cc nL ret n0 s0 o Z pc lv (vI y :: vI x :: st) A :=
  J.lift (fun E _ _ _ _ _ _ _ h k => lv_ior E.1 E.2.1 hd (by have := k _ h; rw [vI, iOr, i32_of] at this; exact this)) K
theorem j_ishl {x y : Int} (hd : decode cc pc = .ok (.ishl, 1)) (K : J g l d own mn cc nL ret n0 s0 o Z (pc + 1) lv (vI (iShl x y) :: st) A) : J g l d own mn cc nL ret n0 s0 o Z pc lv (vI y :: vI x :: st) A :=
  J.lift (fun E _ _ _ _ _ _ _ h k => lv_ishl E.1 E.2.1 hd (by have := k _ h; rw [vI, iShl, i32_of] at this; exact this)) K
theorem j_ishr {x y : Int} (hd : decode cc pc = .ok (.ishr, 1)) (K : J g l d own mn cc nL ret n0 s0 o Z (pc + 1) lv (vI (iShr x y) :: st) A) : J g l d own mn cc nL ret n0 s0 o Z pc lv (vI y :: vI x :: st) A :=
  J.lift (fun E _ _ _ _ _ _ _ h k => lv_ishr E.1 E.2.1 hd (by have := k _ h; rw [vI, iShr, i32_of] at this; exact this)) K
theorem j_dup {v : Value} (hd : decode cc pc = .ok (.dup, 1)) (hv : v.category = 1) (K : J g l d own mn cc nL ret n0 s0 o Z (pc + 1) lv (v :: v :: st) A) : J g l d own mn cc nL ret n0 s0 o Z pc lv (v :: st) A :=
  J.lift (fun E _ _ _ _ _ _ _ h k => lv_dup E.1 E.2.1 hd hv (k _ h)) K
theorem j_dup_x1 {v w : Value} (hd : decode cc pc = .ok (.dup_x1, 1)) (hv : v.category = 1) (hw : w.category = 1) (K : J g l d own mn cc nL ret n0 s0 o Z (pc + 1) lv (v :: w :: v :: st) A) : J g l d own mn cc nL ret n0 s0 o Z pc lv (v :: w :: st) A :=
  J.lift (fun E _ _ _ _ _ _ _ h k => lv_dup_x1 E.1 E.2.1 hd hv hw (k _ h)) K
theorem j_dup2 {v w : Value} (hd : decode cc pc = .ok (.dup2, 1)) (hv : v.category = 1) (hw : w.category = 1) (K : J g l d own mn cc nL ret n0 s0 o Z (pc + 1) lv (v :: w :: v :: w :: st) A) : J g l d own mn cc nL ret n0 s0 o Z pc lv (v :: w :: st) A :=
  J.lift (fun E _ _ _ _ _ _ _ h k => lv_dup2_11 E.1 E.2.1 hd hv hw (k _ h)) K
theorem j_pop {v : Value} (hd : decode cc pc = .ok (.pop, 1)) (hv : v.category = 1) (K : J g l d own mn cc nL ret n0 s0 o Z (pc + 1) lv st A) : J g l d own mn cc nL ret n0 s0 o Z pc lv (v :: st) A :=
  J.lift (fun E _ _ _ _ _ _ _ h k => lv_pop E.1 E.2.1 hd hv (k _ h)) K
theorem j_null (hd : decode cc pc = .ok (.aconst_null, 1)) (K : J g l d own mn cc nL ret n0 s0 o Z (pc + 1) lv (rv g 0 :: st) A) : J g l d own mn cc nL ret n0 s0 o Z pc lv st A :=
  J.lift (fun E _ _ _ _ _ _ _ h k => lv_null E.1 E.2.1 hd (k _ h)) K
theorem j_goto {off : Int} {tgt : Nat} (hd : decode cc pc = .ok (.goto off, 3)) (ht : (pc : Int) + off = (tgt : Int)) (K : J g l d own mn cc nL ret n0 s0 o Z tgt lv st A) : J g l d own mn cc nL ret n0 s0 o Z pc lv st A :=
  J.lift (fun E _ _ _ _ _ _ _ h k => lv_goto E.1 E.2.1 hd ht (k _ h)) K
end JR
