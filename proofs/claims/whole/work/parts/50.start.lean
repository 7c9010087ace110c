/-! the law's contract -/
set_option maxRecDepth 100000 in
theorem hSl_zL : hSl zL ≤ 100000 := by decide +kernel
theorem law_ct {g : JG} {l : Launch} (hl : l.stackTraces = false) (hL : gS g 7 ≤ 3072) : ∃ B : AH, BN 220160 zL B ∧ CT0 g l yL_law cL_law 9 (some .boolean) 12 [.ref (gS g 6)] zA ((0, some (vI 1), B) : JO) ((1 : Int) = 0 ∨ (1 : Int) = 1) := by
  obtain ⟨B, e, b⟩ := law_all (N := 30000) (L := (gS g 7 : Int)) (xs := gXi g) (by decide) (by omega) (by omega) (fun k => i32_inR _) 512 1000 0 zL (by decide) (by omega) (by decide) z_INV
  refine ⟨B, b, ?_⟩
  have hLR : inR (gS g 7 : Int) := ⟨by omega, by omega⟩
  refine CT0_of (lv := [(0, .ref (gS g 6))]) (by decide +kernel) hl (by exact Nat.le_of_ble_eq_true rfl) rfl ?_
  exact tL_law_0 hl (by decide) rfl rfl (j0_of WFA_zL (j_sub [5, 4, 3, 2, 1, 0] rfl (tL_law_28 hl (by decide) hLR 1000 zL 0 inR_0 e)))
theorem z_atoms {args : Array Value} {s : State} : ∀ {ws : List Cond}, (∀ c ∈ ws, c.before args s = true) → (allAtoms ws).before args s = true
  | [], _ => rfl
  | a :: l, h => by
    show (Jvm.Cond.and a (allAtoms l)).before args s = true
    rw [Cond.before_and, Bool.and_eq_true]
    exact ⟨h a List.mem_cons_self, z_atoms (fun c hc => h c (List.mem_cons_of_mem _ hc))⟩
/-- who has room for more has room for less -/
theorem z_room {s : State} {pl : Platform} {big small : Room} (hle : small.frames ≤ big.frames ∧ small.locals ≤ big.locals ∧ small.cells ≤ big.cells ∧ small.slots ≤ big.slots) (h : s.hasRoom pl big = true) : s.hasRoom pl small = true := by
  obtain ⟨k1, k2, k3, k4⟩ := hle
  unfold State.hasRoom at h ⊢
  rw [Bool.and_eq_true, Bool.and_eq_true, Bool.and_eq_true, Bool.and_eq_true, decide_eq_true_eq, decide_eq_true_eq, decide_eq_true_eq, decide_eq_true_eq] at h ⊢
  have hw := h.1.1.1.2
  refine ⟨⟨⟨⟨?_, ?_, ?_, ?_, ?_, hw.2.2.2.2⟩, ?_⟩, ?_⟩, h.2⟩ <;> omega
/-! the claim out of the law's contract -/
def lw_P (b : Addr) (xs : List Int32) (args : Array Value) (s : State) : Prop := args = #[.ref b] ∧ s.IntsAt b xs ∧ xs.length ≤ 3072 ∧ (Jvm.Cond.and given_1 narrow_1).before args s = true
/-- what a walk over the start with the record d0 says of its end, said of the start itself -/
theorem lw_closed {s t : State} {o : Outcome} {d0 : Drawn} {L : List Loc} {k n : Nat} (hd0 : s.drawn.sameBut d0 lw_cs) (hv : ∃ v, o = .returned v) (hW : (s.setDrawn d0).WarmedH t.vm) (hs : (s.setDrawn d0).sameButNew ({ t with vm := s.vm } : State) L k n) : State.butDraws s t lw_cs (fun t1 => Framed s o t1 L k n) := by
  have h2 : t.drawn = d0 := congrArg State.drawn hs.1
  refine ⟨⟨hv, hW, State.sameButNew.setDrawn hs s.drawn⟩, ?_, by decide⟩
  rw [h2]
  exact hd0
def lw_Q (_ : Array Value) (s : State) (o : Outcome) (t : State) : Prop := o = .returned (some (.int 1)) ∧ State.butDraws s t lw_cs (fun t1 => Framed s o t1 [] 603072 7211114)
theorem lw_walk (l : Launch) (hflags : l.flags = flags0) (b : Addr) (xs : List Int32) : MetFree l x (headSpec (Jvm.Cond.code x code maxLocals ret :: tables_1) room_1) (lw_P b xs) (fun _ _ _ _ _ => True) lw_Q := by
  intro p e ha hcs hk s m args below hfr happ hP hK
  obtain ⟨a1, a2, a3, a4, a5, a6, a7, a8⟩ := (Spec.appliesLoose_iff hfr).mp happ
  obtain ⟨rfl, hx, hbd, hgv⟩ := hP
  obtain ⟨scr, harrAt, hlist, hof, hsmall⟩ := hx
  obtain ⟨hcb, hkn, -, -⟩ := State.arrayAt?_spec harrAt
  have hts0 : ∀ c ∈ (Jvm.Cond.code x code maxLocals ret :: tables_1), c.before #[Value.ref b] s = true := atoms_spec (ws := Jvm.Cond.code x code maxLocals ret :: tables_1) a8
  have hts : ∀ w ∈ lw_tbl, w.before #[Value.ref b] s = true := k2_hts_sels lw_privs (fun w hw => hts0 w (List.mem_cons_of_mem _ hw)) lw_privs_ok
  have hsz : scr.slots.size = xs.length := by rw [← Array.length_toList, hlist, List.length_map]
  have hval : ∀ j : Nat, j < xs.length → scr.slots[j]? = some (.int (xs.getD j 0)) := fun j hj => by
    rw [← Array.getElem?_toList, hlist]
    simp [hj]
  have hbl : b < s.heap.size := (Array.getElem?_eq_some_iff.mp hcb).1
  have hX : va_X b xs.length (fun j => xs.getD j 0) s s.heap := ⟨scr, hcb, hof, hkn, hsz, hval⟩
  obtain ⟨g, g1, g2, g3, g4, hG⟩ := z_gk hts hgv hX hbl
  have hl : l.stackTraces = false := by
    unfold Launch.stackTraces
    rw [hflags]
    decide
  obtain ⟨B, hB, hC⟩ := law_ct (g := g) (l := l) hl (by rw [g4]; exact hbd)
  obtain ⟨q1, q2, q3, q4⟩ := hB
  rw [hN_zL] at q1 q2
  have hS0 := hSl_zL
  rw [g3] at hC
  have hmet := (hC WF0_zA).2
  have hREL : REL g zA s.heap := ⟨g1.symm, fun q _ => by rw [g2], fun a k1 k2 => absurd (show a < 1 from k2) (by omega)⟩
  have hcode : (Jvm.Cond.code yL_law cL_law 9 (some .boolean)).before #[Value.ref b] s = true := hts0 (Jvm.Cond.code x code maxLocals ret) List.mem_cons_self
  have hwords : ∀ c ∈ jws yL_law cL_law 9 (some .boolean), c.before #[Value.ref b] s = true := List.forall_mem_cons.mpr ⟨hcode, z_gd hts⟩
  have hroom : s.hasRoom e.platform (jrm 12 (hN B - hN zA) (hSl B - hSl zA)) = true :=
    z_room (big := room_1) ⟨show 12 ≤ 21 by decide, show 40 * 12 ≤ 10908 by decide, show hN B - hN zA ≤ 603072 by omega, show hSl B - hSl zA ≤ 7211114 by omega⟩ a7
  obtain ⟨n, oc, h1, h2, h3, hQ⟩ := hmet p e ha hcs hk s m #[Value.ref b] below hfr ((Spec.appliesLoose_iff hfr).mpr ⟨a1, a2, a3, a4, a5, a6, hroom, z_atoms hwords⟩) ⟨rfl, hREL, hG⟩ trivial
  rcases hQ with ⟨⟨-, hoc, -⟩, Lc, ⟨hv, hW, hs⟩, hf⟩ | ⟨q, hq, E, ce, Lc, ⟨hne, -⟩, -⟩
  · refine ⟨n, oc, h1, h2, h3, ?_, ?_⟩
    · exact hoc.trans (congrArg (fun z => Outcome.returned (some (Value.int z))) (show Int32.ofInt 1 = 1 by decide))
    · refine lw_closed (d0 := s.drawn) (fun c => ⟨Nat.le_refl _, fun _ => rfl⟩) hv hW (hs.weaken (fun y hy hlt => ?_) (show hN B - hN zA ≤ 603072 by omega) (show hSl B - hSl zA ≤ 7211114 by omega))
      have h9 : gB g < y.base := hf y hy
      have h7 : s.heap.size ≤ y.base := by omega
      exact absurd hlt (Nat.not_lt.mpr h7)
  · exact absurd rfl hne
theorem lw_pre_spec {args : Array Value} {s : State} (h : (Jvm.Cond.and given_1 narrow_1).before args s = true) (hr : rest_1_c.before args s = true) : ∃ (b : Addr) (xs : List Int32), lw_P b xs args s := by
  have hs := flat_of_before _ h
  have hq := flat_of_before _ hr
  have hc : (Cond.count 1).before args s = true := hs _ (by decide +kernel)
  have harr : (Cond.arrayOf (.arg 0) .int).before args s = true := hs _ (by decide +kernel)
  have hle : (Cond.le (.length (.arg 0)) (.int 3072)).before args s = true := hs _ (by decide +kernel)
  have hlen : (Cond.isInt (.length (.arg 0))).before args s = true := hq _ (by decide +kernel)
  have hall : (Cond.all (.arg 0) (.isInt (.elem (.arg 0) (.index 0)))).before args s = true := hq _ (by decide +kernel)
  obtain ⟨b, xs, hb, hx⟩ := State.ints_of_pre rfl harr hlen hall
  have hsm : xs.length < 2 ^ 31 := hx.choose_spec.2.2.2
  have hev : (Term.length (.arg 0)).eval args s none [] s = some (.int xs.length.toInt32) := hx.length_eval hb
  have hv := Cond.le_ints hev (show (Term.int 3072).eval args s none [] s = some (.int 3072) from rfl)
  have hd : xs.length.toInt32 ≤ 3072 := by
    simpa [Cond.before, Cond.holds, hv] using hle
  have hN : xs.length ≤ 3072 := (Int32.ofNat_le_ofNat hsm (by decide)).mp (show Int32.ofNat xs.length ≤ Int32.ofNat 3072 from hd)
  exact ⟨b, xs, Cond.one_arg hc (show args[0]? = some (.ref b) from hb), hx, hN, h⟩
theorem lw_comes (l : Launch) (hflags : l.flags = flags0) : Comes l x (Jvm.Cond.code x code maxLocals ret :: tables_1) room_1 (fun tb e args s => Calls_1 tb e args s ∧ rest_1 tb e args s ∧ Pre_1 tb e args s)
    (fun _ _ args s o t => lw_Q args s o t) := by
  intro p e ha hc hk s m args below hf hfit hheap happ hpre
  obtain ⟨b, xs, hP⟩ := lw_pre_spec hpre.2.2 hpre.2.1
  obtain ⟨k, o, h1, h2, h3, hQ⟩ := lw_walk l hflags b xs p e ha hc hk s m args below hf ((Spec.applies_iff_loose hf).mp happ).1 hP trivial
  exact ⟨k, o, h1, h2, h3, hQ⟩
theorem lw_frame {s t : State} {o : Outcome} {args : Array Value} (h : State.butDraws s t lw_cs (fun t1 => Framed s o t1 [] 603072 7211114)) :
    State.butDraws s t [Jvm.Choice.named "NaN.bits"] (fun t1 => Framed s o t1 (fieldLocs frame_1_writes args s ++ arrayLocs frame_1_arrays args s ++ staticLocs frame_1_statics s) 603072 7211114) := h
theorem lw_limb (L : Cond) (hL : ∀ (args : Array Value) (s t : State), L.after args s (.returned (some (.int 1))) t = true) :
    ArmFor flags0 classFile x code maxLocals ret World_1 tables_1 room_1 Calls_1 rest_1 Pre_1
      (fun tb e a s o t => postC L tb e a s o t ∧ State.butDraws s t [Jvm.Choice.named "NaN.bits"] (fun t1 => Framed s o t1 (fieldLocs frame_1_writes a s ++ arrayLocs frame_1_arrays a s ++ staticLocs frame_1_statics s) 603072 7211114)) := by
  intro l hflags _ _ p e ha hc hk s m args below hf hfit hheap happ hpre
  obtain ⟨k, o, h1, h2, h3, rfl, hF⟩ := lw_comes l hflags p e ha hc hk s m args below hf hfit hheap happ hpre
  exact ⟨k, _, h1, h2, h3, hL args s _, lw_frame hF⟩
theorem i_vc : Claimed_1_1 ∧ Claimed_1_2 := ⟨lw_limb limb_1_1 (fun args s t => by simp [limb_1_1, Cond.after, Cond.holds, Cond.value]), lw_limb limb_1_2 (fun args s t => Cond.after_iff.mpr (by
  first | (rw [show limb_1_2 = Cond.eq .result (.int 1) from rfl, Cond.eq_ints (x := 1) (y := 1) rfl rfl]; simp; done) | (simp [limb_1_2, Cond.value, Term.eval]; done)))⟩
