section JB
variable {g : JG} {l : Launch} {d : Nat} {own mn : String} {cc : ByteArray} {nL : Nat} {ret : Option FieldType} {n0 s0 : Nat} {o : JO} {Z : Prop} {pc : Nat} {lv : List (Nat × Value)} {st : List Value} {A : AH}
theorem j_icmp_lt_t  {x y : Int} (hx : inR x) (hy : inR y) {off : Int} {tgt : Nat} (hd : decode cc pc = .ok (.if_icmp .lt off, 3)) (ht : (pc : Int) + off = (tgt : Int)) (h : x < y) (K : J g l d own mn cc nL ret n0 s0 o Z tgt lv st A) : J g l d own mn cc nL ret n0 s0 o Z pc lv (vI y :: vI x :: st) A := by
  have e0 := i32_lt hx hy
  refine J.lift (fun E _ _ _ _ _ _ _ hl k => lv_icmp_lt E.1 E.2.1 hd ht (fun q => ?_) (fun q => ?_)) K
  · exact k _ hl
  · exact absurd (e0.mpr h) (by first | exact q | (intro q2; exact q q2) | exact (fun z => z q) | (rw [ge_iff_le] at q; exact q) | (rw [gt_iff_lt] at q; exact q))
theorem j_icmp_lt_f  {x y : Int} (hx : inR x) (hy : inR y) {off : Int} {tgt : Nat} (hd : decode cc pc = .ok (.if_icmp .lt off, 3)) (ht : (pc : Int) + off = (tgt : Int)) (h : ¬ (x < y)) (K : J g l d own mn cc nL ret n0 s0 o Z (pc + 3) lv st A) : J g l d own mn cc nL ret n0 s0 o Z pc lv (vI y :: vI x :: st) A := by
  have e0 := i32_lt hx hy
  refine J.lift (fun E _ _ _ _ _ _ _ hl k => lv_icmp_lt E.1 E.2.1 hd ht (fun q => ?_) (fun q => ?_)) K
  · exact absurd (e0.mp (by first | exact q | (rw [ge_iff_le] at q; exact q) | (rw [gt_iff_lt] at q; exact q))) h
  · exact k _ hl
theorem j_icmp_ge_t  {x y : Int} (hx : inR x) (hy : inR y) {off : Int} {tgt : Nat} (hd : decode cc pc = .ok (.if_icmp .ge off, 3)) (ht : (pc : Int) + off = (tgt : Int)) (h : y ≤ x) (K : J g l d own mn cc nL ret n0 s0 o Z tgt lv st A) : J g l d own mn cc nL ret n0 s0 o Z pc lv (vI y :: vI x :: st) A := by
  have e0 := i32_le hy hx
  refine J.lift (fun E _ _ _ _ _ _ _ hl k => lv_icmp_ge E.1 E.2.1 hd ht (fun q => ?_) (fun q => ?_)) K
  · exact k _ hl
  · exact absurd (e0.mpr h) (by first | exact q | (intro q2; exact q q2) | exact (fun z => z q) | (rw [ge_iff_le] at q; exact q) | (rw [gt_iff_lt] at q; exact q))
theorem j_icmp_ge_f  {x y : Int} (hx : inR x) (hy : inR y) {off : Int} {tgt : Nat} (hd : decode cc pc = .ok (.if_icmp .ge off, 3)) (ht : (pc : Int) + off = (tgt : Int)) (h : ¬ (y ≤ x)) (K : J g l d own mn cc nL ret n0 s0 o Z (pc + 3) lv st A) : J g l d own mn cc nL ret n0 s0 o Z pc lv (vI y :: vI x :: st) A := by
  have e0 := i32_le hy hx
  refine J.lift (fun E _ _ _ _ _ _ _ hl k => lv_icmp_ge E.1 E.2.1 hd ht (fun q => ?_) (fun q => ?_)) K
  · exact absurd (e0.mp (by first | exact q | (rw [ge_iff_le] at q; exact q) | (rw [gt_iff_lt] at q; exact q))) h
  · exact k _ hl
theorem j_icmp_gt_t  {x y : Int} (hx : inR x) (hy : inR y) {off : Int} {tgt : Nat} (hd : decode cc pc = .ok (.if_icmp .gt off, 3)) (ht : (pc : Int) + off = (tgt : Int)) (h : y < x) (K : J g l d own mn cc nL ret n0 s0 o Z tgt lv st A) : J g l d own mn cc nL ret n0 s0 o Z pc lv (vI y :: vI x :: st) A := by
  have e0 := i32_lt hy hx
  refine J.lift (fun E _ _ _ _ _ _ _ hl k => lv_icmp_gt E.1 E.2.1 hd ht (fun q => ?_) (fun q => ?_)) K
  · exact k _ hl
  · exact absurd (e0.mpr h) (by first | exact q | (intro q2; exact q q2) | exact (fun z => z q) | (rw [ge_iff_le] at q; exact q) | (rw [gt_iff_lt] at q; exact q))
theorem j_icmp_gt_f  {x y : Int} (hx : inR x) (hy : inR y) {off : Int} {tgt : Nat} (hd : decode cc pc = .ok (.if_icmp .gt off, 3)) (ht : (pc : Int) + off = (tgt : Int)) (h : ¬ (y < x)) (K : J g l d own mn cc nL ret n0 s0 o Z (pc + 3) lv st A) : J g l d own mn cc nL ret n0 s0 o Z pc lv (vI y :: vI x :: st) A := by
  have e0 := i32_lt hy hx
  refine J.lift (fun E _ _ _ _ _ _ _ hl k => lv_icmp_gt E.1 E.2.1 hd ht (fun q => ?_) (fun q => ?_)) K
  · exact absurd (e0.mp (by first | exact q | (rw [ge_iff_le] at q; exact q) | (rw [gt_iff_lt] at q; exact q))) h
  · exact k _ hl
theorem j_icmp_le_t  {x y : Int} (hx : inR x) (hy : inR y) {off : Int} {tgt : Nat} (hd : decode cc pc = .ok (.if_icmp .le off, 3)) (ht : (pc : Int) + off = (tgt : Int)) (h : x ≤ y) (K : J g l d own mn cc nL ret n0 s0 o Z tgt lv st A) : J g l d own mn cc nL ret n0 s0 o Z pc lv (vI y :: vI x :: st) A := by
  have e0 := i32_le hx hy
  refine J.lift (fun E _ _ _ _ _ _ _ hl k => lv_icmp_le E.1 E.2.1 hd ht (fun q => ?_) (fun q => ?_)) K
  · exact k _ hl
  · exact absurd (e0.mpr h) (by first | exact q | (intro q2; exact q q2) | exact (fun z => z q) | (rw [ge_iff_le] at q; exact q) | (rw [gt_iff_lt] at q; exact q))
theorem j_icmp_le_f  {x y : Int} (hx : inR x) (hy : inR y) {off : Int} {tgt : Nat} (hd : decode cc pc = .ok (.if_icmp .le off, 3)) (ht : (pc : Int) + off = (tgt : Int)) (h : ¬ (x ≤ y)) (K : J g l d own mn cc nL ret n0 s0 o Z (pc + 3) lv st A) : J g l d own mn cc nL ret n0 s0 o Z pc lv (vI y :: vI x :: st) A := by
  have e0 := i32_le hx hy
  refine J.lift (fun E _ _ _ _ _ _ _ hl k => lv_icmp_le E.1 E.2.1 hd ht (fun q => ?_) (fun q => ?_)) K
  · exact absurd (e0.mp (by first | exact q | (rw [ge_iff_le] at q; exact q) | (rw [gt_iff_lt] at q; exact q))) h
  · exact k _ hl
theorem j_icmp_eq_t  {x y : Int} (hx : inR x) (hy : inR y) {off : Int} {tgt : Nat} (hd : decode cc pc = .ok (.if_icmp .eq off, 3)) (ht : (pc : Int) + off = (tgt : Int)) (h : x = y) (K : J g l d own mn cc nL ret n0 s0 o Z tgt lv st A) : J g l d own mn cc nL ret n0 s0 o Z pc lv (vI y :: vI x :: st) A := by
  have e0 := i32_eq_iff hx hy
  refine J.lift (fun E _ _ _ _ _ _ _ hl k => lv_icmp_eq E.1 E.2.1 hd ht (fun q => ?_) (fun q => ?_)) K
  · exact k _ hl
  · exact absurd (e0.mpr h) (by first | exact q | (intro q2; exact q q2) | exact (fun z => z q) | (rw [ge_iff_le] at q; exact q) | (rw [gt_iff_lt] at q; exact q))
theorem j_icmp_eq_f  {x y : Int} (hx : inR x) (hy : inR y) {off : Int} {tgt : Nat} (hd : decode cc pc = .ok (.if_icmp .eq off, 3)) (ht : (pc : Int) + off = (tgt : Int)) (h : ¬ (x = y)) (K : J g l d own mn cc nL ret n0 s0 o Z (pc + 3) lv st A) : J g l d own mn cc nL ret n0 s0 o Z pc lv (vI y :: vI x :: st) A := by
  have e0 := i32_eq_iff hx hy
  refine J.lift (fun E _ _ _ _ _ _ _ hl k => lv_icmp_eq E.1 E.2.1 hd ht (fun q => ?_) (fun q => ?_)) K
  · exact absurd (e0.mp (by first | exact q | (rw [ge_iff_le] at q; exact q) | (rw [gt_iff_lt] at q; exact q))) h
  · exact k _ hl
theorem j_icmp_ne_t  {x y : Int} (hx : inR x) (hy : inR y) {off : Int} {tgt : Nat} (hd : decode cc pc = .ok (.if_icmp .ne off, 3)) (ht : (pc : Int) + off = (tgt : Int)) (h : ¬ x = y) (K : J g l d own mn cc nL ret n0 s0 o Z tgt lv st A) : J g l d own mn cc nL ret n0 s0 o Z pc lv (vI y :: vI x :: st) A := by
  have e0 := not_congr (i32_eq_iff hx hy)
  refine J.lift (fun E _ _ _ _ _ _ _ hl k => lv_icmp_ne E.1 E.2.1 hd ht (fun q => ?_) (fun q => ?_)) K
  · exact k _ hl
  · exact absurd (e0.mpr h) (by first | exact q | (intro q2; exact q q2) | exact (fun z => z q) | (rw [ge_iff_le] at q; exact q) | (rw [gt_iff_lt] at q; exact q))
theorem j_icmp_ne_f  {x y : Int} (hx : inR x) (hy : inR y) {off : Int} {tgt : Nat} (hd : decode cc pc = .ok (.if_icmp .ne off, 3)) (ht : (pc : Int) + off = (tgt : Int)) (h : ¬ (¬ x = y)) (K : J g l d own mn cc nL ret n0 s0 o Z (pc + 3) lv st A) : J g l d own mn cc nL ret n0 s0 o Z pc lv (vI y :: vI x :: st) A := by
  have e0 := not_congr (i32_eq_iff hx hy)
  refine J.lift (fun E _ _ _ _ _ _ _ hl k => lv_icmp_ne E.1 E.2.1 hd ht (fun q => ?_) (fun q => ?_)) K
  · exact absurd (e0.mp (by first | exact q | (rw [ge_iff_le] at q; exact q) | (rw [gt_iff_lt] at q; exact q))) h
  · exact k _ hl
theorem j_if_lt_t  {x : Int} (hx : inR x) {off : Int} {tgt : Nat} (hd : decode cc pc = .ok (.ifCond .lt off, 3)) (ht : (pc : Int) + off = (tgt : Int)) (h : x < 0) (K : J g l d own mn cc nL ret n0 s0 o Z tgt lv st A) : J g l d own mn cc nL ret n0 s0 o Z pc lv (vI x :: st) A := by
  have e0 := i32_lt hx inR_0
  rw [← i32_zero] at e0
  refine J.lift (fun E _ _ _ _ _ _ _ hl k => lv_if_lt E.1 E.2.1 hd ht (fun q => ?_) (fun q => ?_)) K
  · exact k _ hl
  · exact absurd (e0.mpr h) (by first | exact q | (intro q2; exact q q2) | exact (fun z => z q) | (rw [ge_iff_le] at q; exact q) | (rw [gt_iff_lt] at q; exact q))
theorem j_if_lt_f  {x : Int} (hx : inR x) {off : Int} {tgt : Nat} (hd : decode cc pc = .ok (.ifCond .lt off, 3)) (ht : (pc : Int) + off = (tgt : Int)) (h : ¬ (x < 0)) (K : J g l d own mn cc nL ret n0 s0 o Z (pc + 3) lv st A) : J g l d own mn cc nL ret n0 s0 o Z pc lv (vI x :: st) A := by
  have e0 := i32_lt hx inR_0
  rw [← i32_zero] at e0
  refine J.lift (fun E _ _ _ _ _ _ _ hl k => lv_if_lt E.1 E.2.1 hd ht (fun q => ?_) (fun q => ?_)) K
  · exact absurd (e0.mp (by first | exact q | (rw [ge_iff_le] at q; exact q) | (rw [gt_iff_lt] at q; exact q))) h
  · exact k _ hl
theorem j_if_ge_t  {x : Int} (hx : inR x) {off : Int} {tgt : Nat} (hd : decode cc pc = .ok (.ifCond .ge off, 3)) (ht : (pc : Int) + off = (tgt : Int)) (h : 0 ≤ x) (K : J g l d own mn cc nL ret n0 s0 o Z tgt lv st A) : J g l d own mn cc nL ret n0 s0 o Z pc lv (vI x :: st) A := by
  have e0 := i32_le inR_0 hx
  rw [← i32_zero] at e0
  refine J.lift (fun E _ _ _ _ _ _ _ hl k => lv_if_ge E.1 E.2.1 hd ht (fun q => ?_) (fun q => ?_)) K
  · exact k _ hl
  · exact absurd (e0.mpr h) (by first | exact q | (intro q2; exact q q2) | exact (fun z => z q) | (rw [ge_iff_le] at q; exact q) | (rw [gt_iff_lt] at q; exact q))
theorem j_if_ge_f  {x : Int} (hx : inR x) {off : Int} {tgt : Nat} (hd : decode cc pc = .ok (.ifCond .ge off, 3)) (ht : (pc : Int) + off = (tgt : Int)) (h : ¬ (0 ≤ x)) (K : J g l d own mn cc nL ret n0 s0 o Z (pc + 3) lv st A) : J g l d own mn cc nL ret n0 s0 o Z pc lv (vI x :: st) A := by
  have e0 := i32_le inR_0 hx
  rw [← i32_zero] at e0
  refine J.lift (fun E _ _ _ _ _ _ _ hl k => lv_if_ge E.1 E.2.1 hd ht (fun q => ?_) (fun q => ?_)) K
  · exact absurd (e0.mp (by first | exact q | (rw [ge_iff_le] at q; exact q) | (rw [gt_iff_lt] at q; exact q))) h
  · exact k _ hl
theorem j_if_gt_t  {x : Int} (hx : inR x) {off : Int} {tgt : Nat} (hd : decode cc pc = .ok (.ifCond .gt off, 3)) (ht : (pc : Int) + off = (tgt : Int)) (h : 0 < x) (K : J g l d own mn cc nL ret n0 s0 o Z tgt lv st A) : J g l d own mn cc nL ret n0 s0 o Z pc lv (vI x :: st) A := by
  have e0 := i32_lt inR_0 hx
  rw [← i32_zero] at e0
  refine J.lift (fun E _ _ _ _ _ _ _ hl k => lv_if_gt E.1 E.2.1 hd ht (fun q => ?_) (fun q => ?_)) K
  · exact k _ hl
  · exact absurd (e0.mpr h) (by first | exact q | (intro q2; exact q q2) | exact (fun z => z q) | (rw [ge_iff_le] at q; exact q) | (rw [gt_iff_lt] at q; exact q))
theorem j_if_gt_f  {x : Int} (hx : inR x) {off : Int} {tgt : Nat} (hd : decode cc pc = .ok (.ifCond .gt off, 3)) (ht : (pc : Int) + off = (tgt : Int)) (h : ¬ (0 < x)) (K : J g l d own mn cc nL ret n0 s0 o Z (pc + 3) lv st A) : J g l d own mn cc nL ret n0 s0 o Z pc lv (vI x :: st) A := by
  have e0 := i32_lt inR_0 hx
  rw [← i32_zero] at e0
  refine J.lift (fun E _ _ _ _ _ _ _ hl k => lv_if_gt E.1 E.2.1 hd ht (fun q => ?_) (fun q => ?_)) K
  · exact absurd (e0.mp (by first | exact q | (rw [ge_iff_le] at q; exact q) | (rw [gt_iff_lt] at q; exact q))) h
  · exact k _ hl
theorem j_if_le_t  {x : Int} (hx : inR x) {off : Int} {tgt : Nat} (hd : decode cc pc = .ok (.ifCond .le off, 3)) (ht : (pc : Int) + off = (tgt : Int)) (h : x ≤ 0) (K : J g l d own mn cc nL ret n0 s0 o Z tgt lv st A) : J g l d own mn cc nL ret n0 s0 o Z pc lv (vI x :: st) A := by
  have e0 := i32_le hx inR_0
  rw [← i32_zero] at e0
  refine J.lift (fun E _ _ _ _ _ _ _ hl k => lv_if_le E.1 E.2.1 hd ht (fun q => ?_) (fun q => ?_)) K
  · exact k _ hl
  · exact absurd (e0.mpr h) (by first | exact q | (intro q2; exact q q2) | exact (fun z => z q) | (rw [ge_iff_le] at q; exact q) | (rw [gt_iff_lt] at q; exact q))
theorem j_if_le_f  {x : Int} (hx : inR x) {off : Int} {tgt : Nat} (hd : decode cc pc = .ok (.ifCond .le off, 3)) (ht : (pc : Int) + off = (tgt : Int)) (h : ¬ (x ≤ 0)) (K : J g l d own mn cc nL ret n0 s0 o Z (pc + 3) lv st A) : J g l d own mn cc nL ret n0 s0 o Z pc lv (vI x :: st) A := by
  have e0 := i32_le hx inR_0
  rw [← i32_zero] at e0
  refine J.lift (fun E _ _ _ _ _ _ _ hl k => lv_if_le E.1 E.2.1 hd ht (fun q => ?_) (fun q => ?_)) K
  · exact absurd (e0.mp (by first | exact q | (rw [ge_iff_le] at q; exact q) | (rw [gt_iff_lt] at q; exact q))) h
  · exact k _ hl
theorem j_if_eq_t  {x : Int} (hx : inR x) {off : Int} {tgt : Nat} (hd : decode cc pc = .ok (.ifCond .eq off, 3)) (ht : (pc : Int) + off = (tgt : Int)) (h : x = 0) (K : J g l d own mn cc nL ret n0 s0 o Z tgt lv st A) : J g l d own mn cc nL ret n0 s0 o Z pc lv (vI x :: st) A := by
  have e0 := i32_eq_iff hx inR_0
  rw [← i32_zero] at e0
  refine J.lift (fun E _ _ _ _ _ _ _ hl k => lv_if_eq E.1 E.2.1 hd ht (fun q => ?_) (fun q => ?_)) K
  · exact k _ hl
  · exact absurd (e0.mpr h) (by first | exact q | (intro q2; exact q q2) | exact (fun z => z q) | (rw [ge_iff_le] at q; exact q) | (rw [gt_iff_lt] at q; exact q))
theorem j_if_eq_f  {x : Int} (hx : inR x) {off : Int} {tgt : Nat} (hd : decode cc pc = .ok (.ifCond .eq off, 3)) (ht : (pc : Int) + off = (tgt : Int)) (h : ¬ (x = 0)) (K : J g l d own mn cc nL ret n0 s0 o Z (pc + 3) lv st A) : J g l d own mn cc nL ret n0 s0 o Z pc lv (vI x :: st) A := by
  have e0 := i32_eq_iff hx inR_0
  rw [← i32_zero] at e0
  refine J.lift (fun E _ _ _ _ _ _ _ hl k => lv_if_eq E.1 E.2.1 hd ht (fun q => ?_) (fun q => ?_)) K
  · exact absurd (e0.mp (by first | exact q | (rw [ge_iff_le] at q; exact q) | (rw [gt_iff_lt] at q; exact q))) h
  · exact k _ hl
theorem j_if_ne_t  {x : Int} (hx : inR x) {off : Int} {tgt : Nat} (hd : decode cc pc = .ok (.ifCond .ne off, 3)) (ht : (pc : Int) + off = (tgt : Int)) (h : ¬ x = 0) (K : J g l d own mn cc nL ret n0 s0 o Z tgt lv st A) : J g l d own mn cc nL ret n0 s0 o Z pc lv (vI x :: st) A := by
  have e0 := not_congr (i32_eq_iff hx inR_0)
  rw [← i32_zero] at e0
  refine J.lift (fun E _ _ _ _ _ _ _ hl k => lv_if_ne E.1 E.2.1 hd ht (fun q => ?_) (fun q => ?_)) K
  · exact k _ hl
  · exact absurd (e0.mpr h) (by first | exact q | (intro q2; exact q q2) | exact (fun z => z q) | (rw [ge_iff_le] at q; exact q) | (rw [gt_iff_lt] at q; exact q))
theorem j_if_ne_f  {x : Int} (hx : inR x) {off : Int} {tgt : Nat} (hd : decode cc pc = .ok (.ifCond .ne off, 3)) (ht : (pc : Int) + off = (tgt : Int)) (h : ¬ (¬ x = 0)) (K : J g l d own mn cc nL ret n0 s0 o Z (pc + 3) lv st A) : J g l d own mn cc nL ret n0 s0 o Z pc lv (vI x :: st) A := by
  have e0 := not_congr (i32_eq_iff hx inR_0)
  rw [← i32_zero] at e0
  refine J.lift (fun E _ _ _ _ _ _ _ hl k => lv_if_ne E.1 E.2.1 hd ht (fun q => ?_) (fun q => ?_)) K
  · exact absurd (e0.mp (by first | exact q | (rw [ge_iff_le] at q; exact q) | (rw [gt_iff_lt] at q; exact q))) h
  · exact k _ hl
theorem j_ifnull_t  {q : Nat} {off : Int} {tgt : Nat} (hd : decode cc pc = .ok (.ifnull off, 3)) (ht : (pc : Int) + off = (tgt : Int)) (h : q = 0) (K : J g l d own mn cc nL ret n0 s0 o Z tgt lv st A) : J g l d own mn cc nL ret n0 s0 o Z pc lv (rv g q :: st) A := by
  subst h
  exact J.lift (fun E _ _ _ _ _ _ _ hl k => lv_ifnullN E.1 E.2.1 hd ht (k _ hl)) K
theorem j_ifnull_f  {q : Nat} {off : Int} (hd : decode cc pc = .ok (.ifnull off, 3)) (h : ¬ q = 0) (K : J g l d own mn cc nL ret n0 s0 o Z (pc + 3) lv st A) : J g l d own mn cc nL ret n0 s0 o Z pc lv (rv g q :: st) A := by
  rw [rv_ne h]
  exact J.lift (fun E _ _ _ _ _ _ _ hl k => lv_ifnull E.1 E.2.1 hd (k _ hl)) K
theorem j_ifnonnull_t  {q : Nat} {off : Int} {tgt : Nat} (hd : decode cc pc = .ok (.ifnonnull off, 3)) (ht : (pc : Int) + off = (tgt : Int)) (h : ¬ q = 0) (K : J g l d own mn cc nL ret n0 s0 o Z tgt lv st A) : J g l d own mn cc nL ret n0 s0 o Z pc lv (rv g q :: st) A := by
  rw [rv_ne h]
  exact J.lift (fun E _ _ _ _ _ _ _ hl k => lv_ifnonnull E.1 E.2.1 hd ht (k _ hl)) K
theorem j_ifnonnull_f  {q : Nat} {off : Int} (hd : decode cc pc = .ok (.ifnonnull off, 3)) (h : q = 0) (K : J g l d own mn cc nL ret n0 s0 o Z (pc + 3) lv st A) : J g l d own mn cc nL ret n0 s0 o Z pc lv (rv g q :: st) A := by
  subst h
  exact J.lift (fun E _ _ _ _ _ _ _ hl k => lv_ifnonnullN E.1 E.2.1 hd (k _ hl)) K
theorem j_table_in  {x dflt lo hi : Int} {offs : Array Int} {len : Nat} {off : Int} {tgt : Nat} (hx : inR x) (hd : decode cc pc = .ok (.tableswitch dflt lo hi offs, len)) (h1 : lo ≤ x) (h2 : x ≤ hi) (ho : offs[(x - lo).toNat]? = some off) (ht : (pc : Int) + off = (tgt : Int)) (K : J g l d own mn cc nL ret n0 s0 o Z tgt lv st A) : J g l d own mn cc nL ret n0 s0 o Z pc lv (vI x :: st) A :=
  J.lift (fun E _ _ _ _ _ _ _ hl k => lv_tableIn E.1 E.2.1 hd (by rw [i32_toInt' hx]; omega) (by rw [i32_toInt' hx]; omega) (by rw [i32_toInt' hx]; exact ho) ht (k _ hl)) K
theorem j_table_out  {x dflt lo hi : Int} {offs : Array Int} {len : Nat} {tgt : Nat} (hx : inR x) (hd : decode cc pc = .ok (.tableswitch dflt lo hi offs, len)) (h : x < lo ∨ hi < x) (ht : (pc : Int) + dflt = (tgt : Int)) (K : J g l d own mn cc nL ret n0 s0 o Z tgt lv st A) : J g l d own mn cc nL ret n0 s0 o Z pc lv (vI x :: st) A :=
  J.lift (fun E _ _ _ _ _ _ _ hl k => lv_tableOut E.1 E.2.1 hd (by rw [i32_toInt' hx]; exact h) ht (k _ hl)) K
theorem j_lookup  {x dflt : Int} {ps : Array (Int × Int)} {len : Nat} {off : Int} {tgt : Nat} (hx : inR x) (hd : decode cc pc = .ok (.lookupswitch dflt ps, len)) (hp : (ps.toList.zip (ps.toList.drop 1)).all (fun (a, next) => a.1 < next.1) = true) (ho : Op.lookupswitch.offset ps.toList dflt x = off) (ht : (pc : Int) + off = (tgt : Int)) (K : J g l d own mn cc nL ret n0 s0 o Z tgt lv st A) : J g l d own mn cc nL ret n0 s0 o Z pc lv (vI x :: st) A :=
  J.lift (fun E _ _ _ _ _ _ _ hl k => lv_lookup E.1 E.2.1 hd hp (by rw [i32_toInt' hx]; exact ho) ht (k _ hl)) K
/-! fields -/
def jC (K : Nat) : String := if K = 0 then RX0 else if K = 1 then RX1 else if K = 2 then RX2 else if K = 3 then RX3 else if K = 4 then RX4 else if K = 5 then RX5 else if K = 6 then RX6 else if K = 7 then RX7 else if K = 8 then RX8 else RX9
def jT (K : Nat) : u_T := if K = 0 then TX0 else if K = 1 then TX1 else if K = 2 then TX2 else if K = 3 then TX3 else if K = 4 then TX4 else if K = 5 then TX5 else if K = 6 then TX6 else if K = 7 then TX7 else if K = 8 then TX8 else TX9
def jY (K : Nat) : Nat → FieldType := if K = 0 then tyX0 else if K = 1 then tyX1 else if K = 2 then tyX2 else if K = 3 then tyX3 else if K = 4 then tyX4 else if K = 5 then tyX5 else if K = 6 then tyX6 else if K = 7 then tyX7 else if K = 8 then tyX8 else tyX9
theorem lt10 {K : Nat} (h : K < 10) : K = 0 ∨ K = 1 ∨ K = 2 ∨ K = 3 ∨ K = 4 ∨ K = 5 ∨ K = 6 ∨ K = 7 ∨ K = 8 ∨ K = 9 := by omega
theorem jcl_at {K : Nat} (h : K < 10) : jcl[K]? = some (jC K, jT K, jfn K) := by
  rcases lt10 h with rfl | rfl | rfl | rfl | rfl | rfl | rfl | rfl | rfl | rfl <;> rfl
set_option maxRecDepth 20000 in
theorem jin_0 : ∀ w ∈ wsX00, w ∈ lw_gd := fun w h => gdM ((by decide +kernel : ∀ w ∈ wsX00, w ∈ lw_tbl) w h) ((by decide +kernel : ∀ w ∈ wsX00, goodWord w = true) w h)
set_option maxRecDepth 20000 in
theorem jin_1 : ∀ w ∈ wsX10, w ∈ lw_gd := fun w h => gdM ((by decide +kernel : ∀ w ∈ wsX10, w ∈ lw_tbl) w h) ((by decide +kernel : ∀ w ∈ wsX10, goodWord w = true) w h)
set_option maxRecDepth 20000 in
theorem jin_2 : ∀ w ∈ wsX20, w ∈ lw_gd := fun w h => gdM ((by decide +kernel : ∀ w ∈ wsX20, w ∈ lw_tbl) w h) ((by decide +kernel : ∀ w ∈ wsX20, goodWord w = true) w h)
set_option maxRecDepth 20000 in
theorem jin_3 : ∀ w ∈ wsX30, w ∈ lw_gd := fun w h => gdM ((by decide +kernel : ∀ w ∈ wsX30, w ∈ lw_tbl) w h) ((by decide +kernel : ∀ w ∈ wsX30, goodWord w = true) w h)
set_option maxRecDepth 20000 in
theorem jin_4 : ∀ w ∈ wsX40, w ∈ lw_gd := fun w h => gdM ((by decide +kernel : ∀ w ∈ wsX40, w ∈ lw_tbl) w h) ((by decide +kernel : ∀ w ∈ wsX40, goodWord w = true) w h)
set_option maxRecDepth 20000 in
theorem jin_5 : ∀ w ∈ wsX50, w ∈ lw_gd := fun w h => gdM ((by decide +kernel : ∀ w ∈ wsX50, w ∈ lw_tbl) w h) ((by decide +kernel : ∀ w ∈ wsX50, goodWord w = true) w h)
set_option maxRecDepth 20000 in
theorem jin_6 : ∀ w ∈ wsX60, w ∈ lw_gd := fun w h => gdM ((by decide +kernel : ∀ w ∈ wsX60, w ∈ lw_tbl) w h) ((by decide +kernel : ∀ w ∈ wsX60, goodWord w = true) w h)
set_option maxRecDepth 20000 in
theorem jin_7 : ∀ w ∈ wsX70, w ∈ lw_gd := fun w h => gdM ((by decide +kernel : ∀ w ∈ wsX70, w ∈ lw_tbl) w h) ((by decide +kernel : ∀ w ∈ wsX70, goodWord w = true) w h)
set_option maxRecDepth 20000 in
theorem jin_8 : ∀ w ∈ wsX80, w ∈ lw_gd := fun w h => gdM ((by decide +kernel : ∀ w ∈ wsX80, w ∈ lw_tbl) w h) ((by decide +kernel : ∀ w ∈ wsX80, goodWord w = true) w h)
set_option maxRecDepth 20000 in
theorem jin_9 : ∀ w ∈ wsX90, w ∈ lw_gd := fun w h => gdM ((by decide +kernel : ∀ w ∈ wsX90, w ∈ lw_tbl) w h) ((by decide +kernel : ∀ w ∈ wsX90, goodWord w = true) w h)
theorem jC_in {K : Nat} (h : K < 10) : ∀ w ∈ u_ws (jC K) (jT K) (jfn K), w ∈ lw_gd := by
  rcases lt10 h with rfl | rfl | rfl | rfl | rfl | rfl | rfl | rfl | rfl | rfl
  · exact jin_0
  · exact jin_1
  · exact jin_2
  · exact jin_3
  · exact jin_4
  · exact jin_5
  · exact jin_6
  · exact jin_7
  · exact jin_8
  · exact jin_9
theorem jC_ty {K : Nat} (h : K < 10) : ∀ k, k < jfn K → parseFieldDescriptor (jT K k).2.2.1 = some (jY K k) := by
  rcases lt10 h with rfl | rfl | rfl | rfl | rfl | rfl | rfl | rfl | rfl | rfl
  · exact tyX0_ok
  · exact tyX1_ok
  · exact tyX2_ok
  · exact tyX3_ok
  · exact tyX4_ok
  · exact tyX5_ok
  · exact tyX6_ok
  · exact tyX7_ok
  · exact tyX8_ok
  · exact tyX9_ok
theorem jC_nm {K : Nat} (h : K < 10) : ∀ a, a < jfn K → ∀ b, b < jfn K → a ≠ b → (jT K a).2.1 ≠ (jT K b).2.1 := by
  rcases lt10 h with rfl | rfl | rfl | rfl | rfl | rfl | rfl | rfl | rfl | rfl
  · exact nmX0
  · exact nmX1
  · exact nmX2
  · exact nmX3
  · exact nmX4
  · exact nmX5
  · exact nmX6
  · exact nmX7
  · exact nmX8
  · exact nmX9
/-- the entry idx of own's pool is the field k of the kind K -/
def FLD (own : String) (idx K k : Nat) : Prop := K < 10 ∧ k < jfn K ∧ (Cond.fieldLink own idx (jT K k).1 (jT K k).2.1 (jT K k).2.2.1 ∈ lw_gd ∨ ∃ host, Cond.fieldLinkNest own idx (jT K k).1 (jT K k).2.1 (jT K k).2.2.1 host ∈ lw_nw)
theorem j_getf  {idx K k a : Nat} (F : FLD own idx K k) (hd : decode cc pc = .ok (.getfield idx, 3)) (h1 : 1 ≤ a) (h2 : a < hN A) (hka : kdA A a = K) (KK : J g l d own mn cc nL ret n0 s0 o Z (pc + 3) lv (fv g A a K k :: st) A) : J g l d own mn cc nL ret n0 s0 o Z pc lv (.ref (gB g + a) :: st) A := by
  intro w
  refine ⟨(KK w).1, fun E H locs ls hl hr hn hs hq => ?_⟩
  have hk := (KK w).2 E H locs ls hl hr hn hs hq
  obtain ⟨F1, F2, F3⟩ := F
  have hx := E.1
  have hb := E.2.1
  have hown := E.2.2.2.1
  have hts := E.2.2.2.2.1
  have hG := E.2.2.2.2.2.1
  obtain ⟨cell, q1, q2, q3, q4⟩ := hr.ob h1 h2 hka F1
  obtain ⟨hS, hfc, kC, hkC, hkind⟩ := hG.1.1 K _ (jcl_at F1)
  obtain ⟨cf, kf, fi, f, hi, hsl⟩ := hS k F2
  have hst := (u_facts hfc hkC (u_lays hts (jC_in F1) F2) hi).1
  rcases F3 with F3 | ⟨host, F3⟩
  · exact W.getf hx hb hown (hts _ F3) hi hst q1 (by rw [q3]; exact fun h => by cases h) (by rw [hsl, q4 k F2]) rfl rfl hd hk
  · exact va_Wgetf hx hb hown (va_Nw.use rfl (hG.2.2.2.2.2.1 _ F3)) hi hst q1 (by rw [q3]; exact fun h => by cases h) (by rw [hsl, q4 k F2]) rfl rfl hd hk
theorem fv_i {g : JG} {A : AH} {a K k : Nat} (h : jfr K k = false) : fv g A a K k = vI (gI A a k) := by unfold fv; rw [h]; rfl
theorem fv_r {g : JG} {A : AH} {a K k : Nat} (h : jfr K k = true) : fv g A a K k = rv g (gP A a k) := by unfold fv; rw [h]; rfl
theorem j_getI  {idx K k a : Nat} (F : FLD own idx K k) (hf : jfr K k = false) (hd : decode cc pc = .ok (.getfield idx, 3)) (h1 : 1 ≤ a) (h2 : WFA A → a < hN A) (hka : kdA A a = K) (KK : inR (gI A a k) → J g l d own mn cc nL ret n0 s0 o Z (pc + 3) lv (vI (gI A a k) :: st) A) : J g l d own mn cc nL ret n0 s0 o Z pc lv (.ref (gB g + a) :: st) A :=
  fun w => j_getf F hd h1 (h2 w) hka (by rw [fv_i hf]; exact KK (w.2.2.1 a k)) w
/-- a reference that never changes -/
theorem j_getR  {idx K k a q : Nat} (F : FLD own idx K k) (hf : jfr K k = true) (hd : decode cc pc = .ok (.getfield idx, 3)) (h1 : 1 ≤ a) (h2 : a < 376) (hka : kd a = K) (hq : lay a k = q) (h0 : q ≠ 0) (KK : J g l d own mn cc nL ret n0 s0 o Z (pc + 3) lv (.ref (gB g + q) :: st) A) : J g l d own mn cc nL ret n0 s0 o Z pc lv (.ref (gB g + a) :: st) A := by
  intro w
  refine j_getf F hd h1 (Nat.lt_of_lt_of_le h2 w.1) (by unfold kdA; rw [if_pos h2]; exact hka) ?_ w
  rw [fv_r hf, w.2.1 a k h2 (by rw [hq]; exact h0), hq, rv_ne h0]
  exact KK
/-- a reference that may change -/
theorem j_getQ  {idx K k a : Nat} (F : FLD own idx K k) (hf : jfr K k = true) (hd : decode cc pc = .ok (.getfield idx, 3)) (h1 : 1 ≤ a) (h2 : WFA A → a < hN A) (hka : kdA A a = K) (hy : kd a = 4 ∧ k = 2 ∧ a < 376 ∨ 376 ≤ a ∧ k = 0) (KK : LV A (gP A a k) → J g l d own mn cc nL ret n0 s0 o Z (pc + 3) lv (rv g (gP A a k) :: st) A) : J g l d own mn cc nL ret n0 s0 o Z pc lv (.ref (gB g + a) :: st) A :=
  fun w => j_getf F hd h1 (h2 w) hka (by rw [fv_r hf]; exact KK (w.2.2.2 a k hy)) w
theorem j_put  {idx K k a : Nat} {v : Value} {B : AH} (F : FLD own idx K k) (hfin : (jT K k).2.2.2 = false) (hn : narrow (jY K k) v = v) (hfit : fits (jY K k) v = true) (hd : decode cc pc = .ok (.putfield idx, 3)) (h1 : 1 ≤ a) (h2 : a < hN A) (hka : kdA A a = K)
    (b1 : hN B = hN A) (b2 : hSl B = hSl A) (b3 : ∀ b, kdA B b = kdA A b) (b4 : ∀ b, b ≠ a → (∀ K k, fv g B b K k = fv g A b K k) ∧ (∀ K, kdA A b = K → aA g B b K = aA g A b K)) (b5 : ∀ j, j < jfn K → fv g B a K j = updV (fv g A a K) k v j) (b6 : XT A B) (b7 : WFA B) (KK : J g l d own mn cc nL ret n0 s0 o Z (pc + 3) lv st B) : J g l d own mn cc nL ret n0 s0 o Z pc lv (v :: .ref (gB g + a) :: st) A := by
  intro w
  refine ⟨⟨(KK b7).1.1, b6.tr (KK b7).1.2.1, (KK b7).1.2.2⟩, fun E H locs ls hl hr hn0 hs hq => ?_⟩
  have hk := (KK b7).2 E
  rw [b1, b2] at hk
  obtain ⟨F1, F2, F3⟩ := F
  have hx := E.1
  have hb := E.2.1
  have hown := E.2.2.2.1
  have hts := E.2.2.2.2.1
  have hG := E.2.2.2.2.2.1
  have hap := va_apart (own := own) hts (jC_in F1) (jY K) (jC_ty F1) (jC_nm F1) hG.1 (jcl_at F1)
  obtain ⟨cell, q1, q2, q3, q4⟩ := hr.ob h1 h2 hka F1
  obtain ⟨hS, hfc, kC, hkC, hkind⟩ := hG.1.1 K _ (jcl_at F1)
  obtain ⟨cf, kf, fi, f, hi, hsl⟩ := hS k F2
  have hlay := hts _ (jC_in F1 _ (u_in_lay F2))
  unfold u_lay at hlay
  rw [if_neg (by rw [hfin]; decide)] at hlay
  have hst := (u_facts hfc hkC (u_lays hts (jC_in F1) F2) hi).1
  have h6 := u_store hfc hkC hkind hlay hi (jC_ty F1 k F2) hn hfit
  have fin : ∀ H1 : Heap, H1[gB g + a]? = some (cell.setSlot f.slot v) → H1.size = H.size → (∀ q, q ≠ gB g + a → H1[q]? = H[q]?) → REL g B H1 := fun H1 e1 e2 e3 => by
    refine hr.upd b1 h1 e2 e3 b3 b4 ?_
    unfold jcell
    rw [b3, hka, if_pos F1]
    rw [hsl] at e1
    exact t_OB.to (V := updV (fv g A a K) k v) ⟨_, e1, q2, q3, t_set q4 hap F2 v⟩ (fun j hj => (b5 j hj).symm)
  have hq1 : ∀ q ∈ locs ++ [⟨gB g + a, f.slot⟩], gB g < q.base := fun q hm => by
    rcases List.mem_append.mp hm with h | h
    · exact hq q h
    · rw [List.mem_singleton.mp h]
      show gB g < gB g + a
      omega
  rcases F3 with F3 | ⟨host, F3⟩
  · exact W.putK hx hb (f := f) ⟨hown, hts _ F3, ⟨_, _, _, hi⟩, hst⟩ (by rw [q2]; exact h6) q1 q3 (by rw [hsl]; exact k2_hasslot (q4 k F2)) rfl rfl hd fun H1 e1 e2 e3 => hk H1 _ ls hl (fin H1 e1 e2 e3) hn0 hs hq1
  · exact va_WputK hx hb (f := f) hown (va_Nw.use rfl (hG.2.2.2.2.2.1 _ F3)) hi hst (by rw [q2]; exact h6) q1 q3 (by rw [hsl]; exact k2_hasslot (q4 k F2)) rfl rfl hd fun H1 e1 e2 e3 => hk H1 _ ls hl (fin H1 e1 e2 e3) hn0 hs hq1
theorem aA_sI {g : JG} {A : AH} {a k b K : Nat} {x : Int} (h : b ≠ a) : aA g (sI A a k x) b K = aA g A b K := by
  have e1 : ∀ j, gI (sI A a k x) b j = gI A b j := fun j => gI_sI_ne (fun q => h q.1)
  unfold aA
  simp only [e1, gP_sI, hDb_sI]
  rfl
theorem aA_sP {g : JG} {A : AH} {a k b K q : Nat} (h : b ≠ a) : aA g (sP A a k q) b K = aA g A b K := by
  have e1 : ∀ j, gP (sP A a k q) b j = gP A b j := fun j => gP_sP_ne (fun q => h q.1)
  unfold aA
  simp only [e1, gI_sP, hDb_sP]
theorem fv_sI {g : JG} {A : AH} {a k b K j : Nat} {x : Int} (h : b ≠ a) : fv g (sI A a k x) b K j = fv g A b K j := by
  unfold fv
  rw [gP_sI, gI_sI_ne (fun q => h q.1)]
theorem fv_sP {g : JG} {A : AH} {a k b K j q : Nat} (h : b ≠ a) : fv g (sP A a k q) b K j = fv g A b K j := by
  unfold fv
  rw [gI_sP, gP_sP_ne (fun q => h q.1)]
theorem j_putV  {idx K k a : Nat} {x : Int} (F : FLD own idx K k) (hf : jfr K k = false) (hfin : (jT K k).2.2.2 = false) (hn : narrow (jY K k) (vI x) = vI x) (hfit : fits (jY K k) (vI x) = true) (hx : inR x) (hd : decode cc pc = .ok (.putfield idx, 3)) (h1 : 1 ≤ a) (h2 : WFA A → a < hN A) (hka : kdA A a = K) (KK : J g l d own mn cc nL ret n0 s0 o Z (pc + 3) lv st (sI A a k x)) : J g l d own mn cc nL ret n0 s0 o Z pc lv (vI x :: .ref (gB g + a) :: st) A := by
  intro w
  refine j_put F hfin hn hfit hd h1 (h2 w) hka (hN_sI A a k x) (hSl_sI A a k x) (fun b => rfl) (fun b hb => ⟨fun K j => fv_sI hb, fun K _ => aA_sI hb⟩) (fun j hj => ?_) (XT_sI A a k x) (WFA_sI w a k hx) KK w
  unfold updV
  by_cases hj2 : j = k
  · rw [if_pos hj2, hj2, fv_i hf, gI_sI_self]
  · rw [if_neg hj2]
    unfold fv
    rw [gP_sI, gI_sI_ne (fun q => hj2 q.2)]
theorem j_putI  {idx K k a : Nat} {x : Int} (F : FLD own idx K k) (hf : jfr K k = false) (hfin : (jT K k).2.2.2 = false) (hy : jY K k = .int) (hx : inR x) (hd : decode cc pc = .ok (.putfield idx, 3)) (h1 : 1 ≤ a) (h2 : WFA A → a < hN A) (hka : kdA A a = K) (KK : J g l d own mn cc nL ret n0 s0 o Z (pc + 3) lv st (sI A a k x)) : J g l d own mn cc nL ret n0 s0 o Z pc lv (vI x :: .ref (gB g + a) :: st) A :=
  j_putV F hf hfin (by rw [hy]; rfl) (by rw [hy]; rfl) hx hd h1 h2 hka KK
theorem nar_bool {x : Int} (h : x = 0 ∨ x = 1) : narrow .boolean (vI x) = vI x ∧ fits .boolean (vI x) = true := by
  rcases h with rfl | rfl <;> exact ⟨rfl, rfl⟩
theorem nar_char {x : Int} (h0 : 0 ≤ x) (h1 : x < 65536) : narrow .char (vI x) = vI x ∧ fits .char (vI x) = true := by
  have hx : inR x := ⟨by omega, by omega⟩
  have f1 : fits .char (vI x) = true := by
    show (decide ((0 : Int32) ≤ Int32.ofInt x) && decide (Int32.ofInt x ≤ 65535)) = true
    have e1 : (0 : Int32) ≤ Int32.ofInt x := by rw [i32_zero, i32_le inR_0 hx]; exact h0
    have e2 : Int32.ofInt x ≤ 65535 := by
      rw [show (65535 : Int32) = Int32.ofInt 65535 from rfl, i32_le hx (inR_lit _ rfl)]
      omega
    simp [e1, e2]
  exact ⟨narrow_of_fits f1, f1⟩
theorem j_putB  {idx K k a : Nat} {x : Int} (F : FLD own idx K k) (hf : jfr K k = false) (hfin : (jT K k).2.2.2 = false) (hy : jY K k = .boolean) (hx : x = 0 ∨ x = 1) (hd : decode cc pc = .ok (.putfield idx, 3)) (h1 : 1 ≤ a) (h2 : WFA A → a < hN A) (hka : kdA A a = K) (KK : J g l d own mn cc nL ret n0 s0 o Z (pc + 3) lv st (sI A a k x)) : J g l d own mn cc nL ret n0 s0 o Z pc lv (vI x :: .ref (gB g + a) :: st) A :=
  j_putV F hf hfin (by rw [hy]; exact (nar_bool hx).1) (by rw [hy]; exact (nar_bool hx).2) (by rcases hx with rfl | rfl <;> exact inR_lit _ rfl) hd h1 h2 hka KK
theorem j_putC  {idx K k a : Nat} {x : Int} (F : FLD own idx K k) (hf : jfr K k = false) (hfin : (jT K k).2.2.2 = false) (hy : jY K k = .char) (h0 : 0 ≤ x ∧ x < 65536) (hd : decode cc pc = .ok (.putfield idx, 3)) (h1 : 1 ≤ a) (h2 : WFA A → a < hN A) (hka : kdA A a = K) (KK : J g l d own mn cc nL ret n0 s0 o Z (pc + 3) lv st (sI A a k x)) : J g l d own mn cc nL ret n0 s0 o Z pc lv (vI x :: .ref (gB g + a) :: st) A :=
  j_putV F hf hfin (by rw [hy]; exact (nar_char h0.1 h0.2).1) (by rw [hy]; exact (nar_char h0.1 h0.2).2) ⟨by omega, by omega⟩ hd h1 h2 hka KK
/-- a reference that may change: a pilot's last leg -/
theorem j_putQ  {idx a q : Nat} (F : FLD own idx 4 2) (hq : LV A q) (hd : decode cc pc = .ok (.putfield idx, 3)) (h1 : 1 ≤ a) (h2 : a < 376) (hka : kd a = 4) (KK : J g l d own mn cc nL ret n0 s0 o Z (pc + 3) lv st (sP A a 2 q)) : J g l d own mn cc nL ret n0 s0 o Z pc lv (rv g q :: .ref (gB g + a) :: st) A := by
  intro w
  refine j_put F rfl (by unfold rv; split <;> rfl) (by unfold rv; split <;> rfl) hd h1 (Nat.lt_of_lt_of_le h2 w.1) (by unfold kdA; rw [if_pos h2]; exact hka) (hN_sP A a 2 q) (hSl_sP A a 2 q) (fun b => rfl) (fun b hb => ⟨fun K j => fv_sP hb, fun K _ => aA_sP hb⟩) (fun j hj => ?_) (XT_sP A a 2 q) (WFA_sP w (Or.inl ⟨hka, rfl, h2⟩) hq) KK w
  unfold updV
  by_cases hj2 : j = 2
  · rw [if_pos hj2, hj2, fv_r rfl, gP_sP_self]
  · rw [if_neg hj2]
    unfold fv
    rw [gI_sP, gP_sP_ne (fun q => hj2 q.2)]
/-! arrays -/
theorem aA_i {g : JG} {A : AH} {a K : Nat} (h : jek K < 2) : aA g A a K = (jal K, .inl (fun j => Int32.ofInt (gI A a j))) := by unfold aA; rw [if_pos h]
theorem REL.arI {H : Heap} (h : REL g A H) {a K : Nat} (h1 : 1 ≤ a) (h2 : a < hN A) (hk : kdA A a = K) (hK : 10 ≤ K) (h9 : K ≠ 99) (hj : jek K < 2) : va_P (gD g) jcl [(gB g + a, .inl (gC g (jek K), (jal K, .inl (fun j => Int32.ofInt (gI A a j)))))] H := by
  intro k q hq
  have h3 := h.ar h1 h2 hk hK h9
  rw [aA_i hj] at h3
  match k, hq with
  | 0, hq => cases hq; exact h3
  | k + 1, hq => simp at hq
theorem gkA {U : State} (h : GK g U) {k : Nat} (hk : k < 8) : ArrOfT U (gC g k) (jty k) ∧ va_RA U (gC g k) (jty k) := h.1.2 k _ (jtys_at g hk)

theorem j_iald  {a K : Nat} {z : Int} (hz : inR z) (hK : 10 ≤ K) (h9 : K ≠ 99) (hj : jek K = 0) (hd : decode cc pc = .ok (.iaload, 1)) (h1 : 1 ≤ a) (h2 : WFA A → a < hN A) (hka : kdA A a = K) (hi : 0 ≤ z ∧ z < (jal K : Int)) (KK : inR (gI A a z.toNat) → J g l d own mn cc nL ret n0 s0 o Z (pc + 1) lv (vI (gI A a z.toNat) :: st) A) : J g l d own mn cc nL ret n0 s0 o Z pc lv (vI z :: .ref (gB g + a) :: st) A := by
  intro w
  have K2 := KK (w.2.2.1 a z.toNat)
  refine ⟨(K2 w).1, fun E H locs ls hl hr hn hs hq => ?_⟩
  have hk := (K2 w).2 E H locs ls hl hr hn hs hq
  have hP := hr.arI h1 (h2 w) hka hK h9 (by omega)
  refine va_iald (tys := jtys g) E.1 E.2.1 E.2.2.2.2.2.1.1 hP 0 0 rfl (by rw [hj]; exact jtys_at g (by decide)) (i32_in hz hi.1 hi.2) hd ?_
  rw [i32_idx hz hi.1]
  exact hk

theorem j_cald  {a K : Nat} {z : Int} (hz : inR z) (hK : 10 ≤ K) (h9 : K ≠ 99) (hj : jek K = 1) (hd : decode cc pc = .ok (.caload, 1)) (h1 : 1 ≤ a) (h2 : WFA A → a < hN A) (hka : kdA A a = K) (hi : 0 ≤ z ∧ z < (jal K : Int)) (KK : inR (gI A a z.toNat) → J g l d own mn cc nL ret n0 s0 o Z (pc + 1) lv (vI (gI A a z.toNat) :: st) A) : J g l d own mn cc nL ret n0 s0 o Z pc lv (vI z :: .ref (gB g + a) :: st) A := by
  intro w
  have K2 := KK (w.2.2.1 a z.toNat)
  refine ⟨(K2 w).1, fun E H locs ls hl hr hn hs hq => ?_⟩
  have hk := (K2 w).2 E H locs ls hl hr hn hs hq
  have hP := hr.arI h1 (h2 w) hka hK h9 (by omega)
  refine va_cald (tys := jtys g) E.1 E.2.1 E.2.2.2.2.2.1.1 hP 0 1 rfl (by rw [hj]; exact jtys_at g (by decide)) (i32_in hz hi.1 hi.2) hd ?_
  rw [i32_idx hz hi.1]
  exact hk

theorem REL.setI {H H1 : Heap} (h : REL g A H) {a K i : Nat} {x : Int} (h1 : 1 ≤ a) (h2 : a < hN A) (hk : kdA A a = K) (hK : 10 ≤ K) (h9 : K ≠ 99) (hj : jek K < 2)
    (e1 : H1[gB g + a]? = some ((vp_cell (gC g (jek K)) (jal K, .inl (fun j => Int32.ofInt (gI A a j)))).setSlot i (vI x))) (e2 : H1.size = H.size) (e3 : ∀ q, q ≠ gB g + a → H1[q]? = H[q]?) : REL g (sI A a i x) H1 := by
  refine h.upd (hN_sI A a i x) h1 e2 e3 (fun b => rfl) (fun b hb => ⟨fun K j => fv_sI hb, fun K _ => aA_sI hb⟩) ?_
  unfold jcell
  rw [show kdA (sI A a i x) a = K from hk, if_neg (by omega), if_neg h9, aA_i hj, e1]
  rw [vp_cell_i, vp_cell_i, arrV_store]
  congr 2
  funext q
  unfold updV
  by_cases hq : q = i
  · rw [if_pos hq, hq, gI_sI_self]
  · rw [if_neg hq, gI_sI_ne (fun z => hq z.2)]
theorem locs_app {locs : List Loc} {a : Nat} {i : Nat} (h1 : 1 ≤ a) (hq : ∀ q ∈ locs, gB g < q.base) : ∀ q ∈ locs ++ [⟨gB g + a, i⟩], gB g < q.base := fun q hm => by
  rcases List.mem_append.mp hm with h | h
  · exact hq q h
  · rw [List.mem_singleton.mp h]
    show gB g < gB g + a
    omega
theorem j_iast  {a K : Nat} {z x : Int} (hz : inR z) (hx : inR x) (hK : 10 ≤ K) (h9 : K ≠ 99) (hj : jek K = 0) (hd : decode cc pc = .ok (.iastore, 1)) (h1 : 1 ≤ a) (h2 : WFA A → a < hN A) (hka : kdA A a = K) (hi : 0 ≤ z ∧ z < (jal K : Int)) (KK : J g l d own mn cc nL ret n0 s0 o Z (pc + 1) lv st (sI A a z.toNat x)) : J g l d own mn cc nL ret n0 s0 o Z pc lv (vI x :: vI z :: .ref (gB g + a) :: st) A := by
  intro w
  have b7 := WFA_sI w a z.toNat hx
  refine ⟨⟨(KK b7).1.1, (XT_sI A a z.toNat x).tr (KK b7).1.2.1, (KK b7).1.2.2⟩, fun E H locs ls hl hr hn hs hq => ?_⟩
  have hk := (KK b7).2 E
  have hP := hr.arI h1 (h2 w) hka hK h9 (by omega)
  refine W.iast E.1 E.2.1 (hP 0 _ rfl) (by have h5 := (gkA E.2.2.2.2.2.1 (k := 0) (by decide)).1 (jal K) (fun j => vI (gI A a j)); rw [hj]; exact h5) (fun q => by cases q) (by show ¬ (_ ∨ (arrV _ _ _).slots.size ≤ _); rw [arrV_size]; exact i32_in hz hi.1 hi.2) rfl rfl hd fun H1 e1 e2 e3 => ?_
  rw [i32_idx hz hi.1] at e1 ⊢
  exact hk H1 _ ls hl (hr.setI h1 (h2 w) hka hK h9 (by omega) e1 e2 e3) hn hs (locs_app h1 hq)
theorem j_cast  {a K : Nat} {z x : Int} (hz : inR z) (hx : 0 ≤ x ∧ x < 65536) (hK : 10 ≤ K) (h9 : K ≠ 99) (hj : jek K = 1) (hd : decode cc pc = .ok (.castore, 1)) (h1 : 1 ≤ a) (h2 : WFA A → a < hN A) (hka : kdA A a = K) (hi : 0 ≤ z ∧ z < (jal K : Int)) (KK : J g l d own mn cc nL ret n0 s0 o Z (pc + 1) lv st (sI A a z.toNat x)) : J g l d own mn cc nL ret n0 s0 o Z pc lv (vI x :: vI z :: .ref (gB g + a) :: st) A := by
  intro w
  have b7 := WFA_sI w a z.toNat (v := x) ⟨by omega, by omega⟩
  refine ⟨⟨(KK b7).1.1, (XT_sI A a z.toNat x).tr (KK b7).1.2.1, (KK b7).1.2.2⟩, fun E H locs ls hl hr hn hs hq => ?_⟩
  have hk := (KK b7).2 E
  have hP := hr.arI h1 (h2 w) hka hK h9 (by omega)
  refine W.cast E.1 E.2.1 (hP 0 _ rfl) (by have h5 := (gkA E.2.2.2.2.2.1 (k := 1) (by decide)).1 (jal K) (fun j => vI (gI A a j)); rw [hj]; exact h5) (fun q => by cases q) (by show ¬ (_ ∨ (arrV _ _ _).slots.size ≤ _); rw [arrV_size]; exact i32_in hz hi.1 hi.2) rfl rfl hd fun H1 e1 e2 e3 => ?_
  rw [i32_idx hz hi.1] at e1 ⊢
  rw [(nar_char hx.1 hx.2).1] at e1
  exact hk H1 _ ls hl (hr.setI h1 (h2 w) hka hK h9 (by omega) e1 e2 e3) hn hs (locs_app h1 hq)
/-- an array of references that never change -/
theorem j_aald  {a K q : Nat} {z : Int} (hz : inR z) (hK : 10 ≤ K) (h9 : K ≠ 99) (hj : 4 ≤ jek K) (hj8 : jek K < 8) (hd : decode cc pc = .ok (.aaload, 1)) (h1 : 1 ≤ a) (h2 : a < 376) (hka : kd a = K) (hi : 0 ≤ z ∧ z < (jal K : Int)) (hq : lay a z.toNat = q) (h0 : q ≠ 0) (KK : J g l d own mn cc nL ret n0 s0 o Z (pc + 1) lv (.ref (gB g + q) :: st) A) : J g l d own mn cc nL ret n0 s0 o Z pc lv (vI z :: .ref (gB g + a) :: st) A := by
  intro w
  refine ⟨(KK w).1, fun E H locs ls hl hr hn hs hq2 => ?_⟩
  have hk := (KK w).2 E H locs ls hl hr hn hs hq2
  have h3 := hr.ar h1 (Nat.lt_of_lt_of_le h2 w.1) (by unfold kdA; rw [if_pos h2]; exact hka) hK h9
  have e0 : aA g A a K = (jal K, .inr (.inr (.inr (.inr (fun j => if gP A a j = 0 then none else some (gB g + gP A a j)))))) := by
    unfold aA
    rw [if_neg (by omega), if_neg (by omega), if_neg (by omega)]
  rw [e0] at h3
  have hP : va_P (gD g) jcl [(gB g + a, .inl (gC g (jek K), (jal K, .inr (.inr (.inr (.inr (fun j => if gP A a j = 0 then none else some (gB g + gP A a j))))))))] H := by
    intro k q hq
    match k, hq with
    | 0, hq => cases hq; exact h3
    | k + 1, hq => simp at hq
  obtain ⟨C, hC⟩ : ∃ C, jty (jek K) = .object C := by
    unfold jty
    rw [if_neg (by omega), if_neg (by omega), if_neg (by omega), if_neg (by omega)]
    split
    · exact ⟨_, rfl⟩
    · split
      · exact ⟨_, rfl⟩
      · split <;> exact ⟨_, rfl⟩
  refine va_aldq (C := C) (tys := jtys g) E.1 E.2.1 E.2.2.2.2.2.1.1 hP 0 (jek K) rfl (by rw [← hC]; exact jtys_at g hj8) (i32_in hz hi.1 hi.2) hd ?_
  rw [i32_idx hz hi.1, w.2.1 a z.toNat h2 (by rw [hq]; exact h0), hq, if_neg h0]
  exact hk
theorem j_alen  {a K : Nat} (hK : 10 ≤ K) (h9 : K ≠ 99) (hj : jek K < 2) (hd : decode cc pc = .ok (.arraylength, 1)) (h1 : 1 ≤ a) (h2 : WFA A → a < hN A) (hka : kdA A a = K) (KK : J g l d own mn cc nL ret n0 s0 o Z (pc + 1) lv (vI (jal K) :: st) A) : J g l d own mn cc nL ret n0 s0 o Z pc lv (.ref (gB g + a) :: st) A := by
  intro w
  refine ⟨(KK w).1, fun E H locs ls hl hr hn hs hq2 => ?_⟩
  have hk := (KK w).2 E H locs ls hl hr hn hs hq2
  exact va_alen (tys := jtys g) E.1 E.2.1 E.2.2.2.2.2.1.1 (hr.arI h1 (h2 w) hka hK h9 hj) 0 (jek K) rfl (jtys_at g (by omega)) (v := Int32.ofInt (jal K)) (Int32.ofInt_eq_ofNat).symm hd hk
end JB
