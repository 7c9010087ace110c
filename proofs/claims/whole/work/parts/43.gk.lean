/-! what the start gives -/
def zFL : List Cond := flatC (Jvm.Cond.and given_1 narrow_1)
theorem zfl {args : Array Value} {s : State} (h : (Jvm.Cond.and given_1 narrow_1).before args s = true) {w : Cond} {i : Nat} (hw : zFL[i]? = some w) : w.before args s = true := flat_of_before _ h w (List.mem_of_getElem? hw)
theorem ztb {args : Array Value} {s : State} (h : ∀ w ∈ lw_tbl, w.before args s = true) {w : Cond} {i : Nat} (hw : lw_tbl[i]? = some w) : w.before args s = true := h w (List.mem_of_getElem? hw)
theorem z_stat {args : Array Value} {s : State} {C n : String} {vs : List Int32} {A : Nat → Prop} (hN : vs.length < 2 ^ 31) (hl : (Cond.laysStatic C n "[I").before args s = true) (hini : (Cond.initialized C).before args s = true) (harr : (Cond.arrayOf (.static C n "[I") .int).before args s = true) (hlen : (Cond.eq (.length (.static C n "[I")) (.int (Int32.ofNat vs.length))).before args s = true)
    (hel : ∀ j : Nat, j < vs.length → (Cond.eq (.elem (.static C n "[I") (.int (Int32.ofNat j))) (.int (vs.getD j 0))).before args s = true) (hA : ∀ a : Nat, a < s.heap.size → ¬ A a) : ∃ t : Nat, va_Z C n "[I" (.ref t) A s s.heap ∧ va_T .int t vs.length (fun j => .int (vs.getD j 0)) A s s.heap := by
  obtain ⟨t, h1, h2⟩ := va_Tof (f := fun j => .int (vs.getD j 0)) hN harr (va_eqt hlen) (fun j hj => va_eqt (hel j hj)) hA
  exact ⟨t, va_Zof hl hini h1 hA, h2⟩
set_option maxRecDepth 100000 in
theorem zel_0 : ∀ j : Nat, j < 5 → zFL[32 + j]? = some (Cond.eq (.elem (.static "PilotRoster" "LEAST_OF_RULE" "[I") (.int (Int32.ofNat j))) (.int (([0, 1, 1, 1, 0] : List Int32).getD j 0))) := by decide +kernel
set_option maxRecDepth 100000 in
theorem zst_0 {args : Array Value} {s : State} {A : Nat → Prop} (hts : ∀ w ∈ lw_tbl, w.before args s = true) (hgv : (Jvm.Cond.and given_1 narrow_1).before args s = true) (hA : ∀ a : Nat, a < s.heap.size → ¬ A a) : ∃ t : Nat, va_Z (jST 0).1 (jST 0).2.1 "[I" (.ref t) A s s.heap ∧ va_T .int t (jST 0).2.2.length (fun j => .int ((jST 0).2.2.getD j 0)) A s s.heap :=
  z_stat (C := "PilotRoster") (n := "LEAST_OF_RULE") (vs := [0, 1, 1, 1, 0]) (by first | decide | exact Nat.le_of_ble_eq_true rfl) (ztb hts (i := 665) (by decide +kernel)) (ztb hts (i := 75) (by decide +kernel)) (zfl hgv (i := 30) (by decide +kernel)) (zfl hgv (i := 31) (by decide +kernel)) (fun j hj => zfl hgv (zel_0 j hj)) hA
set_option maxRecDepth 100000 in
theorem zel_1 : ∀ j : Nat, j < 5 → zFL[40 + j]? = some (Cond.eq (.elem (.static "PilotRoster" "MOST_OF_RULE" "[I") (.int (Int32.ofNat j))) (.int (([24, 6, 9, 30, 12] : List Int32).getD j 0))) := by decide +kernel
set_option maxRecDepth 100000 in
theorem zst_1 {args : Array Value} {s : State} {A : Nat → Prop} (hts : ∀ w ∈ lw_tbl, w.before args s = true) (hgv : (Jvm.Cond.and given_1 narrow_1).before args s = true) (hA : ∀ a : Nat, a < s.heap.size → ¬ A a) : ∃ t : Nat, va_Z (jST 1).1 (jST 1).2.1 "[I" (.ref t) A s s.heap ∧ va_T .int t (jST 1).2.2.length (fun j => .int ((jST 1).2.2.getD j 0)) A s s.heap :=
  z_stat (C := "PilotRoster") (n := "MOST_OF_RULE") (vs := [24, 6, 9, 30, 12]) (by first | decide | exact Nat.le_of_ble_eq_true rfl) (ztb hts (i := 667) (by decide +kernel)) (ztb hts (i := 75) (by decide +kernel)) (zfl hgv (i := 38) (by decide +kernel)) (zfl hgv (i := 39) (by decide +kernel)) (fun j hj => zfl hgv (zel_1 j hj)) hA
set_option maxRecDepth 100000 in
theorem zel_2 : ∀ j : Nat, j < 5 → zFL[7 + j]? = some (Cond.eq (.elem (.static "PilotRoster" "FIRST_RULES" "[I") (.int (Int32.ofNat j))) (.int (([6, 2, 3, 10, 2] : List Int32).getD j 0))) := by decide +kernel
set_option maxRecDepth 100000 in
theorem zst_2 {args : Array Value} {s : State} {A : Nat → Prop} (hts : ∀ w ∈ lw_tbl, w.before args s = true) (hgv : (Jvm.Cond.and given_1 narrow_1).before args s = true) (hA : ∀ a : Nat, a < s.heap.size → ¬ A a) : ∃ t : Nat, va_Z (jST 2).1 (jST 2).2.1 "[I" (.ref t) A s s.heap ∧ va_T .int t (jST 2).2.2.length (fun j => .int ((jST 2).2.2.getD j 0)) A s s.heap :=
  z_stat (C := "PilotRoster") (n := "FIRST_RULES") (vs := [6, 2, 3, 10, 2]) (by first | decide | exact Nat.le_of_ble_eq_true rfl) (ztb hts (i := 120) (by decide +kernel)) (ztb hts (i := 75) (by decide +kernel)) (zfl hgv (i := 5) (by decide +kernel)) (zfl hgv (i := 6) (by decide +kernel)) (fun j hj => zfl hgv (zel_2 j hj)) hA
set_option maxRecDepth 100000 in
theorem zel_3 : ∀ j : Nat, j < 12 → zFL[15 + j]? = some (Cond.eq (.elem (.static "PilotRoster" "FIRST_HEIGHTS" "[I") (.int (Int32.ofNat j))) (.int (([0, 1, 2, 3, 4, 5, 6, 5, 4, 3, 2, 1] : List Int32).getD j 0))) := by decide +kernel
set_option maxRecDepth 100000 in
theorem zst_3 {args : Array Value} {s : State} {A : Nat → Prop} (hts : ∀ w ∈ lw_tbl, w.before args s = true) (hgv : (Jvm.Cond.and given_1 narrow_1).before args s = true) (hA : ∀ a : Nat, a < s.heap.size → ¬ A a) : ∃ t : Nat, va_Z (jST 3).1 (jST 3).2.1 "[I" (.ref t) A s s.heap ∧ va_T .int t (jST 3).2.2.length (fun j => .int ((jST 3).2.2.getD j 0)) A s s.heap :=
  z_stat (C := "PilotRoster") (n := "FIRST_HEIGHTS") (vs := [0, 1, 2, 3, 4, 5, 6, 5, 4, 3, 2, 1]) (by first | decide | exact Nat.le_of_ble_eq_true rfl) (ztb hts (i := 125) (by decide +kernel)) (ztb hts (i := 75) (by decide +kernel)) (zfl hgv (i := 13) (by decide +kernel)) (zfl hgv (i := 14) (by decide +kernel)) (fun j hj => zfl hgv (zel_3 j hj)) hA
set_option maxRecDepth 100000 in
theorem zel_4 : ∀ j : Nat, j < 5 → zFL[48 + j]? = some (Cond.eq (.elem (.static "PilotRosterModel" "LEAST" "[I") (.int (Int32.ofNat j))) (.int (([0, 1, 1, 1, 0] : List Int32).getD j 0))) := by decide +kernel
set_option maxRecDepth 100000 in
theorem zst_4 {args : Array Value} {s : State} {A : Nat → Prop} (hts : ∀ w ∈ lw_tbl, w.before args s = true) (hgv : (Jvm.Cond.and given_1 narrow_1).before args s = true) (hA : ∀ a : Nat, a < s.heap.size → ¬ A a) : ∃ t : Nat, va_Z (jST 4).1 (jST 4).2.1 "[I" (.ref t) A s s.heap ∧ va_T .int t (jST 4).2.2.length (fun j => .int ((jST 4).2.2.getD j 0)) A s s.heap :=
  z_stat (C := "PilotRosterModel") (n := "LEAST") (vs := [0, 1, 1, 1, 0]) (by first | decide | exact Nat.le_of_ble_eq_true rfl) (ztb hts (i := 1429) (by decide +kernel)) (ztb hts (i := 84) (by decide +kernel)) (zfl hgv (i := 46) (by decide +kernel)) (zfl hgv (i := 47) (by decide +kernel)) (fun j hj => zfl hgv (zel_4 j hj)) hA
set_option maxRecDepth 100000 in
theorem zel_5 : ∀ j : Nat, j < 5 → zFL[56 + j]? = some (Cond.eq (.elem (.static "PilotRosterModel" "MOST" "[I") (.int (Int32.ofNat j))) (.int (([24, 6, 9, 30, 12] : List Int32).getD j 0))) := by decide +kernel
set_option maxRecDepth 100000 in
theorem zst_5 {args : Array Value} {s : State} {A : Nat → Prop} (hts : ∀ w ∈ lw_tbl, w.before args s = true) (hgv : (Jvm.Cond.and given_1 narrow_1).before args s = true) (hA : ∀ a : Nat, a < s.heap.size → ¬ A a) : ∃ t : Nat, va_Z (jST 5).1 (jST 5).2.1 "[I" (.ref t) A s s.heap ∧ va_T .int t (jST 5).2.2.length (fun j => .int ((jST 5).2.2.getD j 0)) A s s.heap :=
  z_stat (C := "PilotRosterModel") (n := "MOST") (vs := [24, 6, 9, 30, 12]) (by first | decide | exact Nat.le_of_ble_eq_true rfl) (ztb hts (i := 1431) (by decide +kernel)) (ztb hts (i := 84) (by decide +kernel)) (zfl hgv (i := 54) (by decide +kernel)) (zfl hgv (i := 55) (by decide +kernel)) (fun j hj => zfl hgv (zel_5 j hj)) hA
theorem z_stats {args : Array Value} {s : State} {A : Nat → Prop} (hts : ∀ w ∈ lw_tbl, w.before args s = true) (hgv : (Jvm.Cond.and given_1 narrow_1).before args s = true) (hA : ∀ a : Nat, a < s.heap.size → ¬ A a) : ∀ k, k < 6 → ∃ t : Nat, va_Z (jST k).1 (jST k).2.1 "[I" (.ref t) A s s.heap ∧ va_T .int t (jST k).2.2.length (fun j => .int ((jST k).2.2.getD j 0)) A s s.heap
  | 0, _ => zst_0 hts hgv hA
  | 1, _ => zst_1 hts hgv hA
  | 2, _ => zst_2 hts hgv hA
  | 3, _ => zst_3 hts hgv hA
  | 4, _ => zst_4 hts hgv hA
  | 5, _ => zst_5 hts hgv hA
  | k + 6, h => absurd h (by omega)
def zsq (own : String) (k : Nat) : Bool := zFL.any (fun c => decide (c = Cond.exactly (.string own k) "java/lang/String"))
def zstr (w : Cond) : Bool := match w with
  | .stringRef own k _ => zsq own k
  | _ => true
theorem zsq_of {own : String} {k : Nat} (h : zsq own k = true) : Cond.exactly (.string own k) "java/lang/String" ∈ zFL := by
  unfold zsq at h
  obtain ⟨c, hc, hd⟩ := List.any_eq_true.mp h
  have e := of_decide_eq_true hd
  rw [← e]
  exact hc
set_option maxRecDepth 100000 in
theorem zstr_all : lw_tbl.all zstr = true := by decide +kernel
theorem z_strs {args : Array Value} {s : State} (hts : ∀ w ∈ lw_tbl, w.before args s = true) (hgv : (Jvm.Cond.and given_1 narrow_1).before args s = true) : ∀ own k tx, Cond.stringRef own k tx ∈ lw_tbl → ∃ a, vk_R own k tx a s := by
  intro own k tx hm
  have h1 : zstr (Cond.stringRef own k tx) = true := List.all_eq_true.mp zstr_all _ hm
  have h2 : zsq own k = true := h1
  obtain ⟨a, c1, c2, c3, h4, h5⟩ := Cond.exactly_spec (flat_of_before _ hgv _ (zsq_of h2))
  exact ⟨a, vk_R.of (hts _ hm) h4⟩
set_option maxRecDepth 100000 in
theorem z_nca : ((List.range 6).all fun a => (List.range 6).all fun b => a == b || zFL.any (fun c => decide (c = Cond.not (.castable (xnm (a + 1)) (xnm (b + 1)))))) = true := by decide +kernel
theorem z_nc {args : Array Value} {s : State} (hgv : (Jvm.Cond.and given_1 narrow_1).before args s = true) : ∀ a b, 1 ≤ a → a ≤ 6 → 1 ≤ b → b ≤ 6 → a ≠ b → va_Nc (xnm a) (xnm b) s := by
  intro a b h1 h2 h3 h4 h5
  obtain ⟨a, rfl⟩ : ∃ m, a = m + 1 := ⟨a - 1, by omega⟩
  obtain ⟨b, rfl⟩ : ∃ m, b = m + 1 := ⟨b - 1, by omega⟩
  have q1 : ((List.range 6).all fun b => a == b || zFL.any (fun c => decide (c = Cond.not (.castable (xnm (a + 1)) (xnm (b + 1)))))) = true := List.all_eq_true.mp z_nca a (List.mem_range.mpr (by omega))
  have q2 : (a == b || zFL.any (fun c => decide (c = Cond.not (.castable (xnm (a + 1)) (xnm (b + 1)))))) = true := List.all_eq_true.mp q1 b (List.mem_range.mpr (by omega))
  have hn : (a == b) = false := beq_eq_false_iff_ne.mpr (by omega)
  rw [hn, Bool.false_or] at q2
  obtain ⟨c, hc, hd⟩ := List.any_eq_true.mp q2
  have e := of_decide_eq_true hd
  subst e
  exact va_Nc.of (flat_of_before _ hgv _ hc)
theorem z_nw {args : Array Value} {s : State} (hts : ∀ w ∈ lw_tbl, w.before args s = true) : ∀ w ∈ lw_nw, va_Nw w s := fun w hw => by
  have h := hts w (List.mem_filter.mp hw).1
  have hn := (List.mem_filter.mp hw).2
  cases w <;> first | exact va_Nw.of rfl h | (simp [nestW] at hn)
theorem z_gd {args : Array Value} {s : State} (hts : ∀ w ∈ lw_tbl, w.before args s = true) : ∀ w ∈ lw_gd, w.before args s = true := fun w hw => hts w (List.mem_filter.mp hw).1
set_option maxRecDepth 100000 in
theorem z_cls {args : Array Value} {s : State} (hts : ∀ w ∈ lw_tbl, w.before args s = true) : ∀ K, K < 10 → ∃ (cC : ClassId) (iS : Nat → Nat), u_Kn s (jC K) (jT K) (jfn K) cC iS
  | 0, h => u_known (ws := lw_gd) (n := 5) (z_gd hts) (jC_in h) (ztb hts (w := Cond.instantiable (jC 0) 5) (i := 200) (by decide +kernel))
  | 1, h => u_known (ws := lw_gd) (n := 3) (z_gd hts) (jC_in h) (ztb hts (w := Cond.instantiable (jC 1) 3) (i := 269) (by decide +kernel))
  | 2, h => u_known (ws := lw_gd) (n := 7) (z_gd hts) (jC_in h) (ztb hts (w := Cond.instantiable (jC 2) 7) (i := 522) (by decide +kernel))
  | 3, h => u_known (ws := lw_gd) (n := 10) (z_gd hts) (jC_in h) (ztb hts (w := Cond.instantiable (jC 3) 10) (i := 126) (by decide +kernel))
  | 4, h => u_known (ws := lw_gd) (n := 3) (z_gd hts) (jC_in h) (ztb hts (w := Cond.instantiable (jC 4) 3) (i := 182) (by decide +kernel))
  | 5, h => u_known (ws := lw_gd) (n := 9) (z_gd hts) (jC_in h) (ztb hts (w := Cond.instantiable (jC 5) 9) (i := 108) (by decide +kernel))
  | 6, h => u_known (ws := lw_gd) (n := 8) (z_gd hts) (jC_in h) (ztb hts (w := Cond.instantiable (jC 6) 8) (i := 289) (by decide +kernel))
  | 7, h => u_known (ws := lw_gd) (n := 3) (z_gd hts) (jC_in h) (ztb hts (w := Cond.instantiable (jC 7) 3) (i := 328) (by decide +kernel))
  | 8, h => u_known (ws := lw_gd) (n := 10) (z_gd hts) (jC_in h) (ztb hts (w := Cond.instantiable (jC 8) 10) (i := 100) (by decide +kernel))
  | 9, h => u_known (ws := lw_gd) (n := 46) (z_gd hts) (jC_in h) (ztb hts (w := Cond.instantiable (jC 9) 46) (i := 1273) (by decide +kernel))
  | k + 10, h => absurd h (by omega)
theorem z_ar1 {args : Array Value} {s : State} {ty : FieldType} (h : (Cond.arrayClass ty).before args s = true) (hr : ∀ U cA, va_RA U cA ty = (U.vm.findClass ("[" ++ ty.toString) = some cA)) : ∃ cA : ClassId, ArrOfT s cA ty ∧ va_RA s cA ty := by
  obtain ⟨c, k, comp, h1, h2, h3⟩ := Cond.arrayClass_spec h
  exact ⟨c, fun N z => ⟨(fun k h => by cases h), k, h2, comp, h3⟩, by rw [hr]; exact h1⟩
theorem z_ar2 {args : Array Value} {s : State} {C : String} (h : (Cond.arrayOver (.object C)).before args s = true) : ∃ cA : ClassId, ArrOfT s cA (.object C) ∧ va_RA s cA (.object C) := by
  obtain ⟨comp, c, k, h1, h2, h3, h4, h5⟩ := Cond.arrayOver_spec h
  exact ⟨c, fun N z => ⟨(fun k h => by cases h), k, h3, comp, h4⟩, k, comp, h3, h4, h1, h5⟩
set_option maxRecDepth 100000 in
theorem z_arr {args : Array Value} {s : State} (hts : ∀ w ∈ lw_tbl, w.before args s = true) : ∀ k, k < 8 → ∃ cA : ClassId, ArrOfT s cA (jty k) ∧ va_RA s cA (jty k)
  | 0, _ => z_ar1 (ty := .int) (ztb hts (i := 181) (by decide +kernel)) (fun _ _ => rfl)
  | 1, _ => z_ar1 (ty := .char) (ztb hts (i := 326) (by decide +kernel)) (fun _ _ => rfl)
  | 2, _ => z_ar1 (ty := .long) (ztb hts (i := 1831) (by decide +kernel)) (fun _ _ => rfl)
  | 3, _ => z_ar1 (ty := .double) (ztb hts (i := 1832) (by decide +kernel)) (fun _ _ => rfl)
  | 4, _ => z_ar2 (C := RX3) (ztb hts (i := 114) (by decide +kernel))
  | 5, _ => z_ar2 (C := RX4) (ztb hts (i := 116) (by decide +kernel))
  | 6, _ => z_ar2 (C := RX0) (ztb hts (i := 118) (by decide +kernel))
  | 7, _ => z_ar2 (C := RX5) (ztb hts (i := 275) (by decide +kernel))
  | k + 8, h => absurd h (by omega)
set_option maxRecDepth 100000 in
theorem z_ao {args : Array Value} {s : State} (hts : ∀ w ∈ lw_tbl, w.before args s = true) : AO s := ⟨va_AO.of (C := RX3) (ztb hts (i := 114) (by decide +kernel)), va_AO.of (C := RX4) (ztb hts (i := 116) (by decide +kernel)), va_AO.of (C := RX0) (ztb hts (i := 118) (by decide +kernel)), va_AO.of (C := RX5) (ztb hts (i := 275) (by decide +kernel))⟩
set_option maxRecDepth 100000 in
theorem z_zq {args : Array Value} {s : State} {A : Nat → Prop} (hts : ∀ w ∈ lw_tbl, w.before args s = true) (hgv : (Jvm.Cond.and given_1 narrow_1).before args s = true) (hA : ∀ a : Nat, a < s.heap.size → ¬ A a) : vx_Zq Bundle.tN "UNASSIGNED_STACK" Bundle.steD A s s.heap ∧ vx_Zq Bundle.tN "SUPPRESSED_SENTINEL" Bundle.listD A s s.heap := ⟨vx_Zqof (ztb hts (i := 619) (by decide +kernel)) (ztb hts (i := 85) (by decide +kernel)) (zfl hgv (i := 27) (by decide +kernel)) hA, vx_Zqof (ztb hts (i := 621) (by decide +kernel)) (ztb hts (i := 85) (by decide +kernel)) (zfl hgv (i := 28) (by decide +kernel)) hA⟩
theorem z_gk {args : Array Value} {s : State} {b L : Nat} {xs : Nat → Int32} (hts : ∀ w ∈ lw_tbl, w.before args s = true) (hgv : (Jvm.Cond.and given_1 narrow_1).before args s = true) (hX : va_X b L xs s s.heap) (hb : b < s.heap.size) : ∃ g : JG, gB g + 1 = s.heap.size ∧ gH g = s.heap ∧ gS g 6 = b ∧ gS g 7 = L ∧ GK0 g s := by
  have hA : ∀ a : Nat, a < s.heap.size → ¬ (s.heap.size - 1 < a) := fun a h => by omega
  obtain ⟨c0, -⟩ := z_cls hts 0 (by decide)
  have a1 : ∀ K : Nat, ∃ q : ClassId × (Nat → Nat), K < 10 → u_Kn s (jC K) (jT K) (jfn K) q.1 q.2 := fun K => by
    by_cases h : K < 10
    · obtain ⟨cC, iS, h2⟩ := z_cls hts K h
      exact ⟨(cC, iS), fun _ => h2⟩
    · exact ⟨(c0, fun _ => 0), fun h2 => absurd h2 h⟩
  have a2 : ∀ k : Nat, ∃ cA : ClassId, k < 8 → ArrOfT s cA (jty k) ∧ va_RA s cA (jty k) := fun k => by
    by_cases h : k < 8
    · obtain ⟨cA, h2⟩ := z_arr hts k h
      exact ⟨cA, fun _ => h2⟩
    · exact ⟨c0, fun h2 => absurd h2 h⟩
  have a3 : ∀ k : Nat, ∃ t : Nat, k < 6 → va_Z (jST k).1 (jST k).2.1 "[I" (.ref t) (fun q => s.heap.size - 1 < q) s s.heap ∧ va_T .int t (jST k).2.2.length (fun j => .int ((jST k).2.2.getD j 0)) (fun q => s.heap.size - 1 < q) s s.heap := fun k => by
    by_cases h : k < 6
    · obtain ⟨t, h2⟩ := z_stats (A := fun q => s.heap.size - 1 < q) hts hgv hA k h
      exact ⟨t, fun _ => h2⟩
    · exact ⟨0, fun h2 => absurd h2 h⟩
  obtain ⟨f1, p1⟩ := Classical.axiomOfChoice a1
  obtain ⟨f2, p2⟩ := Classical.axiomOfChoice a2
  obtain ⟨f3, p3⟩ := Classical.axiomOfChoice a3
  obtain ⟨zq1, zq2⟩ := z_zq (A := fun q => s.heap.size - 1 < q) hts hgv hA
  refine ⟨((s.heap.size - 1, s.heap), ((fun K => (f1 K).1), fun K => (f1 K).2), f2, (fun k => if k = 6 then b else if k = 7 then L else f3 k), xs), ?_, rfl, rfl, rfl, ⟨⟨⟨fun c q hq => ?_, fun k q hq => ?_⟩, fun k hk => ?_, zq1, zq2, z_strs hts hgv, z_nw hts, ?_, z_nc hgv, hX, ?_⟩, z_ao hts⟩⟩
  · show s.heap.size - 1 + 1 = s.heap.size
    omega
  · have hc : c < 10 := (List.getElem?_eq_some_iff.mp hq).1
    rw [jcl_at hc] at hq
    cases hq
    exact p1 c hc
  · have hk : k < 8 := by
      have h := (List.getElem?_eq_some_iff.mp hq).1
      simpa [jtys] using h
    rw [jtys_at _ hk] at hq
    cases hq
    exact p2 k hk
  · have h6 : ¬ k = 6 := by omega
    have h7 : ¬ k = 7 := by omega
    have e : (if k = 6 then b else if k = 7 then L else f3 k) = f3 k := by rw [if_neg h6, if_neg h7]
    show va_Z _ _ "[I" (.ref (if k = 6 then b else if k = 7 then L else f3 k)) _ s s.heap ∧ va_T .int (if k = 6 then b else if k = 7 then L else f3 k) _ _ _ s s.heap
    rw [e]
    exact p3 k hk
  · show s.heap.size = s.heap.size - 1 + 1
    omega
  · show b ≤ s.heap.size - 1
    omega
