section
/-! the throw of a NoSuchElementException with a text: its own constructor calls its superclass's by place 13 of its pool (the kit's row of a throw asks for place 7). The walk follows the library's of such a throw, with that one link another. -/
abbrev xN : String := "java/util/NoSuchElementException"
def xTail : List Cond := (Bundle.ownAtoms RX11 227 xN ["java/lang/RuntimeException", "java/lang/Exception"]).filter (fun w => !decide (w ∈ Bundle.chainSAtoms xN ["java/lang/RuntimeException", "java/lang/Exception"]))
def xA : List Cond := ((((Bundle.throwableAtoms ++ Bundle.throwableSAtoms) ++ Bundle.passSAtoms xN "java/lang/RuntimeException" 13 prog_32_method_4_code) ++ Bundle.chainSAtoms "java/lang/RuntimeException" ["java/lang/Exception"]) ++ xTail)
theorem xfit : xN ≠ "java/lang/invoke/MethodHandle" ∧ xN ≠ "java/lang/invoke/VarHandle" := by decide +kernel
theorem x_tl {w : Cond} (i : Nat) (h : (Bundle.ownAtoms RX11 227 xN ["java/lang/RuntimeException", "java/lang/Exception"])[i]? = some w) (hn : decide (w ∈ Bundle.chainSAtoms xN ["java/lang/RuntimeException", "java/lang/Exception"]) = false) : w ∈ xA := by
  unfold xA
  refine List.mem_append_right _ ?_
  unfold xTail
  refine List.mem_filter.mpr ⟨List.mem_of_getElem? h, ?_⟩
  show (!decide (w ∈ Bundle.chainSAtoms xN ["java/lang/RuntimeException", "java/lang/Exception"])) = true
  rw [hn]
  rfl
section XC
variable {p : Program} {l : Launch} {e : Env} {R : Room} {s : State} {m₀ : MethodId} {args : Array Value} {below : List Frame} {meth : Method} {c : Code} {W : State} {locs : List Loc} {cells slots : Nat}
set_option maxHeartbeats 4000000 in
set_option maxRecDepth 100000 in
theorem x_ctor (X : Stand p l e R s m₀ args below meth c W locs cells slots) (hexec : p.tables.exec = Jvm.exec) (htr : e.platform.stackTraces = false)
    (hown : s.vm.findClass RX11 = some m₀.cls) (h : ∀ a ∈ xA, a.before args s = true)
    (hlocs : ∀ x ∈ locs, ∀ cell, s.heap[x.base]? = some cell → cell.vm.isStatics = false)
    {a : Addr} {cX : ClassId} {kX : Class} (hfoundX : s.vm.findClass xN = some cX) (hkX : s.vm.classes[cX]? = some kX) (hcell : W.heap[a]? = some (freshCell cX kX)) (hnew : s.heap.size ≤ a)
    {msg : Value} (hmsg : msg.isRef = true)
    {g : JFrame} (hg : g.method = m₀) (hsize : g.locals.size = c.maxLocals) (hlocked : g.locked = none) (hentered : g.entered = []) {rest : List Value} (hstack : g.stack = msg :: .ref a :: .ref a :: rest)
    (hd6 : decode c.code g.pc = .ok (.invokespecial 227, 3)) (hd9 : decode c.code (g.pc + 3) = .ok (.athrow, 1)) (hout : ∀ x ∈ c.exceptionTable.toList, covers x (g.pc + 3) = false)
    (hRframes : 2 + 3 < R.frames) (hRlocals : 2 * g.monitorRoom + ((Value.ref a :: rest).map fun v => v.category).sum + (13 * (2 + 1) + 42) ≤ R.locals) (hlocks : meth.locks = false) :
    ∃ U : State, Steps p.tables e below (W.setTop g) U ∧ U.status = .running ∧ Ended U below (.threw a) ∧ s.WarmedH U.vm ∧ s.sameButNew ({ U with vm := s.vm } : State) locs cells slots ∧
      ∃ ce : Cell, U.heap[a]? = some ce ∧ ce.vm = .none ∧ s.vm.findClass xN = some ce.cls := by
  have howns : e.platform.frameOwnsMonitors = true := by rw [X.admits.platform]
  have hfin : e.platform.finalization = false := by rw [X.admits.platform]
  have hpl : e.platform.magicAccessors = ({} : Platform).magicAccessors := by rw [X.admits.platform]
  have a' : ∀ x, x ∈ xA → x.holds args s none s [] = true := fun x hx => h x hx
  obtain ⟨T, Z0, L, -, Y⟩ := ThrowableC.of_atoms (args := args) howns hfin hpl (fun x hx => h x (List.mem_append_left _ (List.mem_append_left _ (List.mem_append_left _ (List.mem_append_left _ hx)))))
  obtain ⟨Z, M, LZ, LM, hnZ⟩ := Init0T.ofS_atoms (args := args) hpl L Y (fun x hx => h x (List.mem_append_left _ (List.mem_append_left _ (List.mem_append_left _ (List.mem_append_right _ hx)))))
  obtain ⟨P2, Ps2, hlen2, L2, hL2, hP2m, hlink2, hlinks2⟩ := Bundle.chainS (args := args) hpl hnZ ["java/lang/Exception"] "java/lang/RuntimeException" (by decide +kernel) (by decide +kernel) (fun x hx => h x (List.mem_append_left _ (List.mem_append_right _ hx)))
  obtain ⟨P1, L1, hP1m, hs1⟩ := PassC.ofS_atoms (args := args) (s := s) hpl (X := xN) (Y := "java/lang/RuntimeException") (index := 13) (bytes := prog_32_method_4_code) (by decide +kernel) (by decide +kernel) (by decide +kernel) (by decide +kernel) (by decide +kernel) (by decide +kernel) (fun x hx => h x (List.mem_append_left _ (List.mem_append_left _ (List.mem_append_right _ hx))))
  have hlink1 : P1.sup = firstOf (Z.m T.toThrowableT) ((P2 :: Ps2).map (·.toPassT)) := Option.some.inj (hs1.symm.trans hP2m)
  have hlink : PassesOn (Z.m T.toThrowableT) ((P2 :: Ps2).map (·.toPassT)) := ⟨hlink2, hlinks2⟩
  have hlen : (P2 :: Ps2).length = 2 := by simp [hlen2]
  have hL : ∀ P, P ∈ P2 :: Ps2 → P.LinksS e.platform s := fun P hP => by
    rcases List.mem_cons.mp hP with rfl | hP
    · exact L2
    · exact hL2 P hP
  have hfound : s.vm.findClass xN = some P1.m.cls := findClass_of_methodNamed hP1m
  cases Option.some.inj (hfoundX.symm.trans hfound)
  obtain ⟨c1, kX', hc1, hk, hord, -, -, hn6⟩ := Cond.instantiable_spec (a' (.instantiable xN 6) (x_tl 44 rfl (by decide +kernel)))
  cases Option.some.inj (hc1.symm.trans hfound)
  cases Option.some.inj (hkX.symm.trans hk)
  have hsel0 : selectMethod e.platform s.vm P1.m.cls T.fill0 = .method T.fill0 := by
    obtain ⟨c2, r2, m2, q1, q2, q3, q4, -⟩ := Cond.selects_spec (a' (.selects xN Bundle.tFill0 Bundle.tFill0) (x_tl 46 rfl (by decide +kernel)))
    cases Option.some.inj (q1.symm.trans hfound)
    cases Option.some.inj (q2.symm.trans (State.methodFound?_of_named Y.fill0 (by decide)))
    cases Option.some.inj (q3.symm.trans Y.fill0)
    rw [Launch.admits_selectMethod X.admits]; exact q4
  have hselF : selectMethod e.platform s.vm P1.m.cls T.fill = .method T.fill := by
    obtain ⟨c2, r2, m2, q1, q2, q3, q4, -⟩ := Cond.selects_spec (a' (.selects xN Bundle.tFill Bundle.tFill) (x_tl 47 rfl (by decide +kernel)))
    cases Option.some.inj (q1.symm.trans hfound)
    cases Option.some.inj (q2.symm.trans (State.methodFound?_of_named Y.fill (by decide)))
    cases Option.some.inj (q3.symm.trans Y.fill)
    rw [Launch.admits_selectMethod X.admits]; exact q4
  obtain ⟨cellS0, hcS0, hiss⟩ := Y.statics
  obtain ⟨u0, hu0⟩ := Cond.staticRefV Y.unassigned L.unassignedStatic L.statics hcS0 hiss (a' (.isRef (.static Bundle.tN "UNASSIGNED_STACK" Bundle.steD)) (x_tl 52 rfl (by decide +kernel)))
  obtain ⟨sen, hsen⟩ := Cond.staticRefV Y.sentinel L.sentinelStatic L.statics hcS0 hiss (a' (.isRef (.static Bundle.tN "SUPPRESSED_SENTINEL" Bundle.listD)) (x_tl 53 rfl (by decide +kernel)))
  obtain ⟨ci198, i198, fB, hk198, hg198, ha198, hsB, -, hnB, htB, hffB⟩ := Cond.ownField (t := .object "java/lang/Object") Y.found L.cls (by decide +kernel) (a' (.fieldLink Bundle.tN 198 Bundle.tN "backtrace" "Ljava/lang/Object;") (x_tl 54 rfl (by decide +kernel))) (a' (.lays Bundle.tN Bundle.tN "backtrace" "Ljava/lang/Object;") (x_tl 55 rfl (by decide +kernel))) e.platform hpl
  obtain ⟨cellS, hcS', heS, -, hkeep⟩ := X.same.2.2.2.2.2 T.aS cellS0 hcS0
  have hcellS : W.heap[T.aS]? = some cellS := hcS'
  have hout' : ∀ i, (⟨T.aS, i⟩ : Loc) ∉ locs := fun i hmem => by
    have := hlocs _ hmem cellS0 hcS0
    rw [hiss] at this; cases this
  have hknownS : cellS.vm ≠ .unknown := by
    rw [heS]; intro hu
    rw [show cellS0.vm = .unknown from hu] at hiss
    cases hiss
  have hneS : T.aS ≠ a := Nat.ne_of_lt (Nat.lt_of_lt_of_le (Array.getElem?_eq_some_iff.mp hcS0).1 hnew)
  obtain ⟨iM, hffM⟩ := Y.msg
  obtain ⟨tyC, dC, hdC, hdnC⟩ := Cond.laysAt hfound hk Y.cause (a' (.lays xN Bundle.tN "cause" "Ljava/lang/Throwable;") (x_tl 48 rfl (by decide +kernel)))
  obtain ⟨tyS, dS, hdS, hdnS⟩ := Cond.laysAt hfound hk Y.stack (a' (.lays xN Bundle.tN "stackTrace" Bundle.steD) (x_tl 49 rfl (by decide +kernel)))
  obtain ⟨tyP, dP, hdP, hdnP⟩ := Cond.laysAt hfound hk Y.supp (a' (.lays xN Bundle.tN "suppressedExceptions" Bundle.listD) (x_tl 50 rfl (by decide +kernel)))
  obtain ⟨tyM, dM, hdM, hdnM⟩ := Cond.laysAt hfound hk hffM (a' (.lays xN Bundle.tN "detailMessage" "Ljava/lang/String;") (x_tl 51 rfl (by decide +kernel)))
  obtain ⟨tyB, dB, hdB, hdnB⟩ := Cond.laysAt hfound hk hffB (a' (.lays xN Bundle.tN "backtrace" "Ljava/lang/Object;") (x_tl 56 rfl (by decide +kernel)))
  have bC := Cond.laysApart hdB hdC hdnB hdnC (by rw [hnB, Y.causeName]; decide)
  have bS := Cond.laysApart hdB hdS hdnB hdnS (by rw [hnB, Y.stackName]; decide)
  have bP := Cond.laysApart hdB hdP hdnB hdnP (by rw [hnB, Y.suppName]; decide)
  have hskip : SkipFacts T e.platform s (fun u => u) u0 ((preparedCellV T.toThrowableT (freshCell P1.m.cls kX) a u0 sen).withEntry W.cur) :=
    ⟨{ ci198 := ci198, i198 := i198, fBack := fB }, ⟨hk198, hg198, ha198, hsB⟩, by
      have := fresh_default (c := P1.m.cls) tyB
      rw [htB] at this
      simpa [preparedCellV, Cell.setSlot, Cell.withEntry, Array.getElem?_setIfInBounds, bC, bS, bP, bC.symm, bS.symm, bP.symm, defaultValue] using this, fun _ _ => rfl⟩
                                     
  obtain ⟨tm, methC, cdC, kC, vm₁, hnC, -, -, -, -, -, -, -, hW₁, st1⟩ := Steps.initColdS (tb := p.tables) (e := e) (below := below) (s := s) (U := W) X.here hexec X.warmed hpl hown (t := Bundle.initS xN) rfl rfl xfit
    (a' (.methodLink RX11 227 (Bundle.initS xN)) (x_tl 43 rfl (by decide +kernel))) (h (.instanceMethod (Bundle.initS xN)) (List.mem_append_left _ (List.mem_append_left _ (List.mem_append_right _ (List.mem_of_getElem? (i := 0) rfl))))) (bytes := prog_32_method_4_code) (maxL := 2) (h (.code (Bundle.initS xN) prog_32_method_4_code 2 none) (List.mem_append_left _ (List.mem_append_left _ (List.mem_append_right _ (List.mem_of_getElem? (i := 1) rfl)))))
    (f := g) hg (a := a) (msg := msg) (rest := .ref a :: rest) hstack hd6
  cases Option.some.inj (hnC.symm.trans hP1m)
  have X₁ := X.noted hW₁
                                 
  obtain ⟨vm₂, X₂, st2⟩ := X₁.ctorMessageOffV hexec (g := { g with stack := .ref a :: rest }) hg hsize T L Z LZ M LM (P1 :: P2 :: Ps2)
    (fun P hP => by rcases List.mem_cons.mp hP with rfl | hP; exact L1; exact hL P hP) ⟨hlink1, hlink⟩ (u0 := u0) (sen := sen) (self := a) hmsg (cell := freshCell P1.m.cls kX) (cellS := cellS)
    hcell (fun _ => by simp) (by simp) rfl rfl hsel0 hselF hcellS hneS hknownS (by rw [hkeep _ (hout' _)]; exact hu0) (by rw [hkeep _ (hout' _)]; exact hsen)
    (Takes.of_laid hk hord tyC (by rw [Y.causeType]; rfl)) (Takes.of_laid hk hord tyS (by rw [Y.stackType]; exact fits_refV_array _ u0)) (Takes.of_laid hk hord tyP (by rw [Y.suppType]; exact fits_refV_object _ sen))
    (Takes.of_laid hk hord tyM (by rw [Y.msgType]; exact fits_refV_object _ ⟨msg, hmsg⟩)) Y.objLocals hskip htr [] hd6
    (by simp only [List.length_cons, hlen2]; omega) (by simp only [List.length_cons, hlen2]; exact hRlocals)
                                    
  obtain ⟨hwalk, hrun, hended, hWU, hsame⟩ := X₂.athrowLeaves hexec (g := { g with stack := .ref a :: rest, pc := g.pc + 3 }) hg hlocked hentered hout (a := a) (rest := rest) rfl hd9
  obtain ⟨c3, c4, hc3, hc4, hasg⟩ := Cond.castable_spec (a' (.castable xN xN) (x_tl 45 rfl (by decide +kernel)))
  cases Option.some.inj (hc3.symm.trans hfound)
  cases Option.some.inj (hc4.symm.trans hfound)
  have hlt : a < ((W.setVm vm₁).setVm vm₂).heap.size := (Array.getElem?_eq_some_iff.mp hcell).1
  have hU := heapAt_setCell_self (s := (W.setVm vm₁).setVm vm₂) (plainBareV T.toThrowableT (freshCell P1.m.cls kX) a u0 sen msg) hlt
  have hnM : T.fMsg.name = "detailMessage" := (State.fieldFound?_type hffM (t := .object "java/lang/String") (by decide +kernel)).1
  have nCS := Cond.laysApart hdC hdS hdnC hdnS (by rw [Y.causeName, Y.stackName]; decide)
  have nCP := Cond.laysApart hdC hdP hdnC hdnP (by rw [Y.causeName, Y.suppName]; decide)
  have nCM := Cond.laysApart hdC hdM hdnC hdnM (by rw [Y.causeName, hnM]; decide)
  have nSP := Cond.laysApart hdS hdP hdnS hdnP (by rw [Y.stackName, Y.suppName]; decide)
  have nSM := Cond.laysApart hdS hdM hdnS hdnM (by rw [Y.stackName, hnM]; decide)
  have nPM := Cond.laysApart hdP hdM hdnP hdnM (by rw [Y.suppName, hnM]; decide)
  have lC : T.fCause.slot < kX.instanceTypes.size := (Array.getElem?_eq_some_iff.mp tyC).1
  have lS : T.fStack.slot < kX.instanceTypes.size := (Array.getElem?_eq_some_iff.mp tyS).1
  have lP : T.fSupp.slot < kX.instanceTypes.size := (Array.getElem?_eq_some_iff.mp tyP).1
  have lM : T.fMsg.slot < kX.instanceTypes.size := (Array.getElem?_eq_some_iff.mp tyM).1
  have evU : ∀ o, (Term.static Bundle.tN "UNASSIGNED_STACK" Bundle.steD).eval args s o [] s = some u0.v := by
    intro o
    simp [Term.eval, State.fieldNamed?, Y.unassigned, L.unassignedStatic, L.statics, hcS0, hiss, hu0]
  have evS : ∀ o, (Term.static Bundle.tN "SUPPRESSED_SENTINEL" Bundle.listD).eval args s o [] s = some sen.v := by
    intro o
    simp [Term.eval, State.fieldNamed?, Y.sentinel, L.sentinelStatic, L.statics, hcS0, hiss, hsen]
  refine ⟨_, st1 _ (fun acts => ?_), hrun, hended, hWU, hsame.weaken (fun y hy hlt' => ?_) (Nat.le_refl _) (Nat.le_refl _), _, hU, ?_⟩
  · rw [doInvoke_state]
    exact st2 _ hwalk
  · rcases List.mem_append.mp hy with h1 | h1
    · exact h1
    · exfalso
      have hb : y.base = a := by
        simp only [List.mem_cons, List.not_mem_nil, or_false] at h1
        rcases h1 with rfl | rfl | rfl | rfl | rfl <;> rfl
      rw [hb] at hlt'
      exact Nat.not_lt.mpr hnew hlt'
  · exact ⟨rfl, hfound⟩
end XC

/-! calls that throw, on a fresh object; the law's own methods that catch -/
def TX (A : Nat → Prop) (U : State) : Prop := vx_Zq Bundle.tN "UNASSIGNED_STACK" Bundle.steD A U U.heap ∧ vx_Zq Bundle.tN "SUPPRESSED_SENTINEL" Bundle.listD A U U.heap
def SX (k : Nat) (tx : String) (U : State) : Prop := ∃ sa : Nat, vk_R RX11 k tx sa U
def XX (A : Nat → Prop) (U : State) : Prop := TX A U ∧ SX 225 "no such hearse" U ∧ SX 253 "no such thing of a hearse" U ∧ SX 268 "no such mourner" U ∧ SX 276 "no such thing of a mourner" U ∧ SX 492 "no such number of the row" U
def xPre (D : va_G) (τ : Nat → ClassId) (sA sV : Nat → Nat) (wc : va_W) (sz : Nat) : State → Prop := fun U => kPre D τ sA sV wc sz U ∧ XX (va_A wc sz) U
abbrev xPc (D : va_G) (τ : Nat → ClassId) (sA sV : Nat → Nat) (wc : va_W) (sz : Nat) (As : List Value) : Array Value → State → Prop := va_Pc As (xPre D τ sA sV wc sz)
abbrev XCQ (D : va_G) (Wf : Mem → va_W) (Qx : Mem → Prop) (A : Nat → Prop) : String → State → State → Prop := vx_X (fun _ : Unit => True) (fun E _ t => E = "java/util/NoSuchElementException" ∧ gW D A (EQv Wf MR Qx) t) A
theorem SX.warm {k : Nat} {tx : String} {s U : State} (hW : s.WarmedH U.vm) (h : SX k tx s) : SX k tx U := by
  obtain ⟨sa, hsa⟩ := h
  exact ⟨sa, vk_R.warm hW hsa⟩
theorem SX.same {k : Nat} {tx : String} {u U : State} (hv : U.vm = u.vm) (h : SX k tx u) : SX k tx U := by
  obtain ⟨sa, hsa⟩ := h
  exact ⟨sa, vk_R.same hv hsa⟩
theorem xPc_blind {D : va_G} {τ : Nat → ClassId} {sA sV : Nat → Nat} {wc : va_W} {sz : Nat} {As : List Value} : FrameBlind (xPc D τ sA sV wc sz As) := fun a U g mk q => by
  obtain ⟨q0, q1, q2, q3⟩ := q
  exact ⟨q0, (kPc_blind (As := As) a U g mk ⟨q0, q1⟩).2, ⟨vx_Zq.moved (u := U) (U := U.calling g mk a) (Vm.Alike.refl U.vm) q2.1, vx_Zq.moved (u := U) (U := U.calling g mk a) (Vm.Alike.refl U.vm) q2.2⟩, q3.1.same rfl, q3.2.1.same rfl, q3.2.2.1.same rfl, q3.2.2.2.1.same rfl, q3.2.2.2.2.same rfl⟩
theorem NXw.use {args : Array Value} {s : State} (hN : NXw s) : ∀ w ∈ lw_nest, w.before args s = true := fun w hw => by
  have h1 := (List.mem_filter.mp hw).2
  have h2 := hN w hw
  revert h1 h2
  cases w <;> intro h1 h2 <;> first | exact absurd h1 Bool.false_ne_true | exact va_Nw.use rfl h2 | (simp [isNest] at h1)
def x_sl : List Cond := tables_1_5.drop 150 ++ tables_1_1.take 40
theorem x_sub : ∀ w ∈ x_sl, w ∈ lw_tbl := fun w hw => List.mem_append_right _ ((List.mem_append.mp hw).elim (fun h => List.mem_append_right _ (List.mem_append_right _ (List.mem_append_right _ (List.mem_append_right _ (List.mem_append_left _ (List.mem_of_mem_drop h)))))) (fun h => List.mem_append_left _ (List.mem_of_mem_take h)))
theorem x_at1a : ∀ w ∈ (xA.filter vx_no).filter goodWord, w ∈ x_sl := by decide +kernel
theorem x_at1 : ∀ w ∈ (xA.filter vx_no).filter goodWord, w ∈ lw_tbl := fun w hw => x_sub w (x_at1a w hw)
theorem x_at2a : ∀ w ∈ (xA.filter vx_no).filter (fun w => !goodWord w), w ∈ x_sl ∧ isNest w = true := by decide +kernel
theorem x_at2 : ∀ w ∈ (xA.filter vx_no).filter (fun w => !goodWord w), w ∈ lw_nest := fun w hw => List.mem_filter.mpr ⟨x_sub w (x_at2a w hw).1, (x_at2a w hw).2⟩
theorem x_at3 : ∀ w ∈ Cond.classLink RX11 223 xN :: Cond.initialized xN :: xA.filter vx_no, vx_ot w = true := by decide +kernel
set_option maxRecDepth 100000 in
theorem x_cast : Cond.castable "java/util/NoSuchElementException" "java/util/NoSuchElementException" ∈ lw_nest := List.mem_filter.mpr ⟨List.mem_append_right _ (lw_m5 169 rfl), by decide +kernel⟩
set_option maxRecDepth 100000 in
theorem x_cl : Cond.classLink RX11 223 "java/util/NoSuchElementException" ∈ lw_good := lw_h5 167 rfl rfl
set_option maxRecDepth 100000 in
theorem x_in : Cond.initialized "java/util/NoSuchElementException" ∈ lw_good := lw_h1 25 rfl rfl
set_option maxRecDepth 100000 in
theorem x_cl13 : Cond.classLink RL 13 "java/util/NoSuchElementException" ∈ lw_good := lw_h5 162 rfl rfl
theorem x_met {l : Launch} {y : MethodName} {b : ByteArray} {mL lev sz : Nat} {ret : Option FieldType} {D : va_G} {τ : Nat → ClassId} {sA sV : Nat → Nat} {wc : va_W} {As : List Value} {Qc : (Nat → Prop) → Array Value → State → Outcome → State → Prop} {XC : (Nat → Prop) → String → State → State → Prop} (hpl : plainName y.cls = true) (hn : (lg_sl As).length ≤ mL)
    (body : ∀ (p : Program) (e : Env) (s : State) (m : MethodId) (args : Array Value) (below : List Frame) (meth : Method) (c : Code) (A : Nat → Prop) (ls : Array Slot), p.tables.exec = Jvm.exec → c.code = b → c.maxLocals = mL → meth.sig.returnType = ret → meth.locks = false → cx D τ s m args y.cls → LK A s s.heap sA sV → XX A s → (∀ x ∈ c.exceptionTable.toList, False) → (∀ q : Nat, s.heap.size ≤ q → A q) → wS D A s.heap wc s.heap [] → lv_has ls mL (lv_args 0 As) →
      W p l e (rmk lev 1 6) s m args below meth c s.heap [] 0 0 (vx_MQ below (Qc A) (XC A) args s 1 6 A) (F0 m 0 ls [])) :
    vx_Met l y (lw_w y b mL ret) (rmk lev 1 6) (xPc D τ sA sV wc sz As) (Qc (va_A wc sz)) (XC (va_A wc sz)) 1 6 (va_A wc sz) := by
  refine vx_ofW (cc := b) (maxL := mL) (ret := ret) hpl rfl ?_
  intro p e s m args below meth c s₁ B hml htab hv
  obtain ⟨rfl, ⟨⟨hsz, hP, hK, hD0⟩, hLS⟩, hX⟩ := hv
  have hts := atoms_spec (ws := lw_w y b mL ret) B.pre
  have hown : s.vm.findClass y.cls = some m.cls := findClass_of_methodNamed B.named
  subst hsz
  have hl := lv_entry As (n := mL) hn
  rw [lg_entry_eq]
  exact body p e s m _ below meth c (va_A wc s.heap.size) _ B.exec B.bytes hml B.returns B.notSynchronized ⟨fun w hw => hts w (List.mem_cons_of_mem _ hw), hown, hK.1, hK.2⟩ hLS hX htab (fun q h => Or.inr h) ⟨hP, hD0.self, va_S.rf⟩ hl
section RX
variable {p : Program} {l : Launch} {e : Env} {s : State} {m : MethodId} {args : Array Value} {below : List Frame} {meth : Method} {c : Code} {H : Heap} {locs : List Loc}
variable {cc : ByteArray} {pc : Nat} {ls : Array Slot} {rest : List Value} {D : va_G} {A : Nat → Prop} {ws wc : va_W} {τ : Nat → ClassId} {mL lev k : Nat} {tx : String} {Qc : Array Value → State → Outcome → State → Prop} {Wf : Mem → va_W} {M0 : Mem} {Qx : Mem → Prop} {sA sV : Nat → Nat}
theorem x_hat (hC : cx D τ s m args RX11) : ∀ w ∈ xA.filter vx_no, w.before args s = true := vx_hat (fun w hw => hC.1 w (List.mem_filter.mpr ⟨x_at1 w hw, (List.mem_filter.mp hw).2⟩)) x_at2 (NXw.use hC.2.2.2.1)
theorem x_thrown {t : State} (hw : wS D A s.heap (Wf M0) H locs) (hM : MR M0) (hq : Qx M0) (h1 : H.size ≤ t.heap.size) (h2 : ∀ q : Nat, q < H.size → t.heap[q]? = H[q]?) : XCQ D Wf Qx A "java/util/NoSuchElementException" s t := ⟨(), trivial, ⟨rfl, Wf M0, ⟨M0, hM, hq, rfl⟩, hw.1.kept (fun k q hk => h2 q.1 (hw.1 k q hk).lt), hw.2.1⟩, Nat.le_trans hw.2.2.1 h1, fun q a b => (h2 q (Nat.lt_of_lt_of_le a hw.2.2.1)).trans (hw.2.2.2.1 q a b)⟩
set_option maxHeartbeats 4000000 in
set_option maxRecDepth 100000 in
theorem x_throwS (hx : p.tables.exec = Jvm.exec) (hb : c.code = cc) (hst : l.stackTraces = false) (hml : c.maxLocals = mL) (hlk : meth.locks = false) (hC : cx D τ s m args RX11) (hT : TX A s) (hSx : SX k tx s) (htab : ∀ x ∈ c.exceptionTable.toList, False) (hw : wS D A s.heap (Wf M0) H locs) (hM : MR M0) (hq : Qx M0) (hl : ls.size = mL) (hlev : 5 < lev) (hcat : (rest.map fun v => v.category).sum ≤ 8) (d0 : decode cc pc = .ok (.new 223, 3)) (d3 : decode cc (pc + 3) = .ok (.dup, 1)) (d4 : decode cc (pc + 4) = .ok (.ldc k, 2)) (d6 : decode cc (pc + 6) = .ok (.invokespecial 227, 3)) (d9 : decode cc (pc + 9) = .ok (.athrow, 1)) :
    W p l e (rmk lev 1 6) s m args below meth c H locs 0 0 (vx_MQ below Qc (XCQ D Wf Qx A) args s 1 6 A) (F0 m pc ls rest) := by
  obtain ⟨sa, hsa⟩ := hSx
  intro T hT9 X
  have htr : e.platform.stackTraces = false := (show e.platform.stackTraces = l.stackTraces by rw [X.admits.platform]).trans hst
  have Y := vx_rebase X (R' := rmk lev 1 6) (Nat.le_refl _) (Nat.le_refl _) (Nat.le_refl _) (Nat.le_refl _)
  obtain ⟨s', hA⟩ : ∃ z, z = (T.setVm s.vm).setFrames (.invoking m args :: below) := ⟨_, rfl⟩
  rw [← hA] at Y
  have hvm : s'.vm = s.vm := by rw [hA]; rfl
  have hhp : s'.heap = H := by rw [hA]; exact hT9
  have hW0 : s.WarmedH s'.vm := by rw [hvm]; exact State.WarmedH.refl s
  have hat' : ∀ w ∈ xA.filter vx_no, w.before args s' = true := fun w hw => vx_ot_at hW0 hvm.symm (x_at3 w (List.mem_cons_of_mem _ (List.mem_cons_of_mem _ hw))) (x_hat hC w hw)
  have hk' : (Cond.classLink RX11 223 xN).before args s' = true := vx_ot_at hW0 hvm.symm (x_at3 _ List.mem_cons_self) (hC.1 _ x_cl)
  have hini' : (Cond.initialized xN).before args s' = true := vx_ot_at hW0 hvm.symm (x_at3 _ (List.mem_cons_of_mem _ List.mem_cons_self)) (hC.1 _ x_in)
  have hU' : vx_Zq Bundle.tN "UNASSIGNED_STACK" Bundle.steD A s' s'.heap := by rw [hhp]; exact vx_Zq.moved hW0.alike (hT.1.kept hw.2.2.2.1)
  have hN' : vx_Zq Bundle.tN "SUPPRESSED_SENTINEL" Bundle.listD A s' s'.heap := by rw [hhp]; exact vx_Zq.moved hW0.alike (hT.2.kept hw.2.2.2.1)
  have h : ∀ w ∈ xA, w.before args s' = true := vx_own hat' (vx_isRefq hU'.1) (vx_isRefq hN'.1) hU'.2.word hN'.2.word
  have hown' : s'.vm.findClass RX11 = some m.cls := by rw [hvm]; exact hC.2.1
  have hins : (Cond.instantiable xN 6).before args s' = true := h _ (x_tl 44 rfl (by decide +kernel))
  obtain ⟨vm₁, cX, kX, hfX, hkX, -, -, X₁, st1⟩ := Y.newCold hx (own := RX11) (C := xN) (index := 223) (n := 6) hown' hk' hins hini'
    (g := F0 m pc ls rest) rfl (by rw [hb]; exact d0) (Nat.le_refl _) (Nat.le_refl _)
  generalize hT1 : (T.setVm vm₁).pushCell { cls := cX, slots := kX.instanceTypes.map defaultValue, vm := .none } = T1 at X₁ st1
  have hcat9 : (Value.ref T.heap.size).category = 1 := rfl
  have hcellA : T1.heap[T.heap.size]? = some (freshCell cX kX) := by rw [← hT1]; exact State.heap_pushCell_size _ _
  have d3' : decode c.code (pc + 3) = .ok (.dup, 1) := by rw [hb]; exact d3
  have d4' : decode c.code (pc + 4) = .ok (.ldc k, 2) := by rw [hb]; exact d4
  have hstr' : vk_R RX11 k tx sa s' := vk_R.warm hW0 hsa
  obtain ⟨U, hsteps, hrun, hend, hW, hsame, ce, hce, hOv, hOc⟩ := x_ctor X₁ hx htr hown' h (fun x hx => nomatch hx) hfX hkX hcellA (by rw [hhp, hT9]; exact Nat.le_refl _) (msg := .ref sa) rfl
    (g := { method := m, pc := pc + 6, locals := ls, stack := .ref sa :: .ref T.heap.size :: .ref T.heap.size :: rest, locked := none }) rfl (hl.trans hml.symm) rfl rfl (rest := rest) rfl
    (by rw [hb]; exact d6) (by rw [hb]; exact d9) (fun x h => (htab x h).elim) (by show 2 + 3 < lev; omega) (by simp only [List.map_cons, List.sum_cons, hcat9]; show _ ≤ 64 * lev; omega) hlk
  obtain ⟨f1, f2⟩ := vx_frame hsame
  rw [hhp] at f1 f2
  have hWs : s.WarmedH U.vm := State.WarmedH.trans hW0 hW
  have hcl : s.vm.findClass xN = some ce.cls := by
    have h9 := hOc
    rw [hvm] at h9
    exact h9
  have hall : s.sameButNew ({ U with vm := s.vm } : State) locs 1 6 := by
    subst hA
    obtain ⟨e1, e2⟩ := hsame
    rw [State.setFrames_setFrames] at e1
    have h2 : (T.setVm s.vm).sameButNew ({ U with vm := s.vm } : State) [] (0 + 1) (0 + 6) := ⟨e1, e2⟩
    have h3 := X.same.trans h2
    rw [List.append_nil] at h3
    exact h3.mono (Nat.le_refl _) (Nat.le_refl _)
  refine ⟨U, ?_, .threw T.heap.size, hrun, hend, Or.inr ⟨T.heap.size, rfl, xN, ce, locs, x_thrown hw hM hq f1 (fun q hq => f2 q hq (fun z hz => nomatch hz)), hce, hOv, hcl, hWs, hall, hw.2.2.2.2⟩⟩
  refine st1 _ ?_
  show Steps p.tables e below (T1.setTop { method := m, pc := pc + 3, locals := ls, stack := .ref T.heap.size :: rest, locked := none }) _
  jvm_step X₁.here [X₁.here.top, hx, d3', Value.category]
  exact X₁.ldcString hx (own := RX11) (text := tx) (index := k) (a := sa) hown' hstr'.1 hstr'.2
    (g := { method := m, pc := pc + 4, locals := ls, stack := .ref T.heap.size :: .ref T.heap.size :: rest, locked := none }) rfl d4' _ hsteps
set_option maxHeartbeats 4000000 in
set_option maxRecDepth 100000 in
theorem x_throwSW (hx : p.tables.exec = Jvm.exec) (hb : c.code = cc) (hst : l.stackTraces = false) (hml : c.maxLocals = mL) (hlk : meth.locks = false) (hC : cx D τ s m args RX11) (hT : TX A s) (hSx : SX k tx s) (htab : ∀ x ∈ c.exceptionTable.toList, False) (hw : wS D A s.heap (Wf M0) H locs) (hM : MR M0) (hq : Qx M0) (hl : ls.size = mL) (hlev : 5 < lev) (hcat : (rest.map fun v => v.category).sum ≤ 8) (d0 : decode cc pc = .ok (.new 223, 3)) (d3 : decode cc (pc + 3) = .ok (.dup, 1)) (d4 : decode cc (pc + 4) = .ok (.ldc_w k, 3)) (d7 : decode cc (pc + 7) = .ok (.invokespecial 227, 3)) (d10 : decode cc (pc + 10) = .ok (.athrow, 1)) :
    W p l e (rmk lev 1 6) s m args below meth c H locs 0 0 (vx_MQ below Qc (XCQ D Wf Qx A) args s 1 6 A) (F0 m pc ls rest) := by
  obtain ⟨sa, hsa⟩ := hSx
  intro T hT9 X
  have htr : e.platform.stackTraces = false := (show e.platform.stackTraces = l.stackTraces by rw [X.admits.platform]).trans hst
  have Y := vx_rebase X (R' := rmk lev 1 6) (Nat.le_refl _) (Nat.le_refl _) (Nat.le_refl _) (Nat.le_refl _)
  obtain ⟨s', hA⟩ : ∃ z, z = (T.setVm s.vm).setFrames (.invoking m args :: below) := ⟨_, rfl⟩
  rw [← hA] at Y
  have hvm : s'.vm = s.vm := by rw [hA]; rfl
  have hhp : s'.heap = H := by rw [hA]; exact hT9
  have hW0 : s.WarmedH s'.vm := by rw [hvm]; exact State.WarmedH.refl s
  have hat' : ∀ w ∈ xA.filter vx_no, w.before args s' = true := fun w hw => vx_ot_at hW0 hvm.symm (x_at3 w (List.mem_cons_of_mem _ (List.mem_cons_of_mem _ hw))) (x_hat hC w hw)
  have hk' : (Cond.classLink RX11 223 xN).before args s' = true := vx_ot_at hW0 hvm.symm (x_at3 _ List.mem_cons_self) (hC.1 _ x_cl)
  have hini' : (Cond.initialized xN).before args s' = true := vx_ot_at hW0 hvm.symm (x_at3 _ (List.mem_cons_of_mem _ List.mem_cons_self)) (hC.1 _ x_in)
  have hU' : vx_Zq Bundle.tN "UNASSIGNED_STACK" Bundle.steD A s' s'.heap := by rw [hhp]; exact vx_Zq.moved hW0.alike (hT.1.kept hw.2.2.2.1)
  have hN' : vx_Zq Bundle.tN "SUPPRESSED_SENTINEL" Bundle.listD A s' s'.heap := by rw [hhp]; exact vx_Zq.moved hW0.alike (hT.2.kept hw.2.2.2.1)
  have h : ∀ w ∈ xA, w.before args s' = true := vx_own hat' (vx_isRefq hU'.1) (vx_isRefq hN'.1) hU'.2.word hN'.2.word
  have hown' : s'.vm.findClass RX11 = some m.cls := by rw [hvm]; exact hC.2.1
  have hins : (Cond.instantiable xN 6).before args s' = true := h _ (x_tl 44 rfl (by decide +kernel))
  obtain ⟨vm₁, cX, kX, hfX, hkX, -, -, X₁, st1⟩ := Y.newCold hx (own := RX11) (C := xN) (index := 223) (n := 6) hown' hk' hins hini'
    (g := F0 m pc ls rest) rfl (by rw [hb]; exact d0) (Nat.le_refl _) (Nat.le_refl _)
  generalize hT1 : (T.setVm vm₁).pushCell { cls := cX, slots := kX.instanceTypes.map defaultValue, vm := .none } = T1 at X₁ st1
  have hcat9 : (Value.ref T.heap.size).category = 1 := rfl
  have hcellA : T1.heap[T.heap.size]? = some (freshCell cX kX) := by rw [← hT1]; exact State.heap_pushCell_size _ _
  have d3' : decode c.code (pc + 3) = .ok (.dup, 1) := by rw [hb]; exact d3
  have d4' : decode c.code (pc + 4) = .ok (.ldc_w k, 3) := by rw [hb]; exact d4
  have hstr' : vk_R RX11 k tx sa s' := vk_R.warm hW0 hsa
  obtain ⟨U, hsteps, hrun, hend, hW, hsame, ce, hce, hOv, hOc⟩ := x_ctor X₁ hx htr hown' h (fun x hx => nomatch hx) hfX hkX hcellA (by rw [hhp, hT9]; exact Nat.le_refl _) (msg := .ref sa) rfl
    (g := { method := m, pc := pc + 7, locals := ls, stack := .ref sa :: .ref T.heap.size :: .ref T.heap.size :: rest, locked := none }) rfl (hl.trans hml.symm) rfl rfl (rest := rest) rfl
    (by rw [hb]; exact d7) (by rw [hb]; exact d10) (fun x h => (htab x h).elim) (by show 2 + 3 < lev; omega) (by simp only [List.map_cons, List.sum_cons, hcat9]; show _ ≤ 64 * lev; omega) hlk
  obtain ⟨f1, f2⟩ := vx_frame hsame
  rw [hhp] at f1 f2
  have hWs : s.WarmedH U.vm := State.WarmedH.trans hW0 hW
  have hcl : s.vm.findClass xN = some ce.cls := by
    have h9 := hOc
    rw [hvm] at h9
    exact h9
  have hall : s.sameButNew ({ U with vm := s.vm } : State) locs 1 6 := by
    subst hA
    obtain ⟨e1, e2⟩ := hsame
    rw [State.setFrames_setFrames] at e1
    have h2 : (T.setVm s.vm).sameButNew ({ U with vm := s.vm } : State) [] (0 + 1) (0 + 6) := ⟨e1, e2⟩
    have h3 := X.same.trans h2
    rw [List.append_nil] at h3
    exact h3.mono (Nat.le_refl _) (Nat.le_refl _)
  refine ⟨U, ?_, .threw T.heap.size, hrun, hend, Or.inr ⟨T.heap.size, rfl, xN, ce, locs, x_thrown hw hM hq f1 (fun q hq => f2 q hq (fun z hz => nomatch hz)), hce, hOv, hcl, hWs, hall, hw.2.2.2.2⟩⟩
  refine st1 _ ?_
  show Steps p.tables e below (T1.setTop { method := m, pc := pc + 3, locals := ls, stack := .ref T.heap.size :: rest, locked := none }) _
  jvm_step X₁.here [X₁.here.top, hx, d3', Value.category]
  exact X₁.ldcStringW hx (own := RX11) (text := tx) (index := k) (a := sa) hown' hstr'.1 hstr'.2
    (g := { method := m, pc := pc + 4, locals := ls, stack := .ref T.heap.size :: .ref T.heap.size :: rest, locked := none }) rfl d4' _ hsteps
/-- the start of a call, with what a throw wants -/
theorem x_pre {own : String} {isC : List Nat} {H0 : Heap} (hH : H0 = s.heap) (hC' : cx D τ s m args own) (hA : ∀ q, H0.size ≤ q → A q) (hLS : LK A s s.heap sA sV) (hX : XX A s) (hw : wS D A H0 ws H locs) (hC : isC.map (fun i => ws[i]?) = wc.map some) (hn : va_nd isC = true) {Bs : List Value} : ∀ U : State, U.heap = H → s.WarmedH U.vm → xPc D τ sA sV wc H.size Bs Bs.toArray U := fun U hU hW => by
  subst hH
  have hF := va_free hw.2.1 hw.2.2 hA isC hC
  refine ⟨rfl, (k_pre rfl hC' hA hLS hw hC hn (Bs := Bs) U hU hW).2, ⟨?_, ?_⟩, hX.2.1.warm hW, hX.2.2.1.warm hW, hX.2.2.2.1.warm hW, hX.2.2.2.2.1.warm hW, hX.2.2.2.2.2.warm hW⟩
  · rw [hU]; exact ((hX.1.1.kept hw.2.2.2.1).moved hW.alike).narrow hF
  · rw [hU]; exact ((hX.1.2.kept hw.2.2.2.1).moved hW.alike).narrow hF
end RX
end
section
set_option maxHeartbeats 4000000 in
set_option maxRecDepth 100000 in
theorem mX11_hearse (l : Launch) (hst : l.stackTraces = false) (D : va_G) (τ : Nat → ClassId) (ad : Nat → Nat) (sA sV : Nat → Nat) (sz : Nat) (p1 : Int) (p2 : Int) (hp1 : iR p1) (hp2 : iR p2) (M : Mem) (hM : MR M) (Q : Int → Mem → Prop) (E : Mem → Prop) (hv : qX11_hearse p1 p2 M Q E) : vx_Met l yX11_hearse (lw_w yX11_hearse cX11_hearse 3 (some .int)) (rmk 8 1 6) (xPc D τ sA sV (WX τ ad M) sz [.ref (ad 155), .int (iI p1), .int (iI p2)]) (gQi D (EQi (WX τ ad) MR Q) (va_A (WX τ ad M) sz)) (XCQ D (WX τ ad) E (va_A (WX τ ad M) sz)) 1 6 (va_A (WX τ ad M) sz) := by
  refine x_met (ret := (some .int)) (Qc := gQi D (EQi (WX τ ad) MR Q)) (XC := XCQ D (WX τ ad) E) (by decide +kernel) (Nat.le_of_ble_eq_true rfl) ?_
  intro p e s m args below meth c A ls hx hb hml hr hlk hC hLS hX htab hA hw hl
  have hC : cx D τ s m args RX11 := hC
  have hl : lv_has ls 3 [(0, .ref (ad 155)), (1, .int (iI p1)), (2, .int (iI p2))] := hl
  unfold qX11_hearse at hv
  refine lv_aload_n hx hb dX11_hearse_0 rfl (lv_at hl 0 rfl) ?_
  refine gf_X11_26 hx hb hC hw 155 (gX_155 τ ad M) rfl dX11_hearse_1 ?_
  refine lv_iload_n hx hb dX11_hearse_4 rfl (lv_at hl 1 rfl) ?_
  refine k_cVz (wq_X τ ad) hx hb hml hC hLS hA hw hl.1 (mX6_isHearse l D τ ad sA sV _ 1 p1 (by decide) hp1 M hM _ hv) kX6_isHearse ml_X11_220 rfl (gS_X (by decide) τ ad M) rfl rfl (Nat.le_of_ble_eq_true rfl) (rm_ok (by decide) (by decide)) ⟨by show _ ≤ 1; omega, by show _ ≤ 6; omega⟩ dX11_hearse_5 (fun x1 M1 H locs g1 z1 hM hv hw => ?_)
  have hv := hv g1 z1
  refine r_if_ne (tgt := 21) hx hb dX11_hearse_8 (by decide) g1  (fun b2 => ?_) (fun b2 => ?_)
  · have hv := hv.1 b2
    refine lv_iload_n hx hb dX11_hearse_21 rfl (lv_at hl 2 rfl) ?_
    rcases (show p2 = 0 ∨ p2 = 1 ∨ p2 = 2 ∨ p2 = 3 ∨ p2 = 4 ∨ p2 = 5 ∨ (p2 < 0 ∨ 5 < p2) by omega) with b3 | b3 | b3 | b3 | b3 | b3 | b3
    · refine r_tblI (tgt := 60) hx hb dX11_hearse_22 hp2 (by omega) (by omega) (by rw [b3]; first | done | rfl) (by decide) ?_
      have hv := hv.1 b3
      refine lv_aload_n hx hb dX11_hearse_60 rfl (lv_at hl 0 rfl) ?_
      refine gf_X11_26 hx hb hC hw 155 (gX_155 τ ad M1) rfl dX11_hearse_61 ?_
      refine gf_X11_230 hx hb hC hw 1 (gS_X (by decide) τ ad M1) rfl dX11_hearse_64 ?_
      refine lv_iload_n hx hb dX11_hearse_67 rfl (lv_at hl 1 rfl) ?_
      obtain ⟨c4, hv⟩ := hv
      obtain ⟨c5, hv⟩ := hv
      refine r_iald hx hb hC hw 2 (gI_X (isS_f0 (by decide)) τ ad M1) c4 c5 (by decide) dX11_hearse_68 ?_
      refine r_top (fun x6 e6 => ?_)
      have g6 : iR x6 := by rw [e6]; exact hM.get (isS_f0 (by decide)).pos _
      have hv := hv x6 e6 g6
      refine vx_ret ?_
      refine W.widen (k := 1) (n := 6) (by omega) (by omega) ?_
      exact k_iret (wq_X τ ad) hx hb hr hlk hw hM g6 hv dX11_hearse_69
    · refine r_tblI (tgt := 70) hx hb dX11_hearse_22 hp2 (by omega) (by omega) (by rw [b3]; first | done | rfl) (by decide) ?_
      have hv := hv.2.1 b3
      refine lv_aload_n hx hb dX11_hearse_70 rfl (lv_at hl 0 rfl) ?_
      refine gf_X11_26 hx hb hC hw 155 (gX_155 τ ad M1) rfl dX11_hearse_71 ?_
      refine gf_X11_234 hx hb hC hw 1 (gS_X (by decide) τ ad M1) rfl dX11_hearse_74 ?_
      refine lv_iload_n hx hb dX11_hearse_77 rfl (lv_at hl 1 rfl) ?_
      obtain ⟨c7, hv⟩ := hv
      obtain ⟨c8, hv⟩ := hv
      refine r_iald hx hb hC hw 3 (gI_X (isS_f1 (by decide)) τ ad M1) c7 c8 (by decide) dX11_hearse_78 ?_
      refine r_top (fun x9 e9 => ?_)
      have g9 : iR x9 := by rw [e9]; exact hM.get (isS_f1 (by decide)).pos _
      have hv := hv x9 e9 g9
      refine vx_ret ?_
      refine W.widen (k := 1) (n := 6) (by omega) (by omega) ?_
      exact k_iret (wq_X τ ad) hx hb hr hlk hw hM g9 hv dX11_hearse_79
    · refine r_tblI (tgt := 80) hx hb dX11_hearse_22 hp2 (by omega) (by omega) (by rw [b3]; first | done | rfl) (by decide) ?_
      have hv := hv.2.2.1 b3
      refine lv_aload_n hx hb dX11_hearse_80 rfl (lv_at hl 0 rfl) ?_
      refine lv_iload_n hx hb dX11_hearse_81 rfl (lv_at hl 1 rfl) ?_
      refine k_cVi (wq_X τ ad) hx hb hml hC hLS hA hw hl.1 (mX11_paceNow l D τ ad sA sV _ p1 hp1 M1 hM _ hv) kX11_paceNow ml_X11_237 rfl (gX_155 τ ad M1) rfl rfl (Nat.le_of_ble_eq_true rfl) (rm_ok (by decide) (by decide)) ⟨by show _ ≤ 1; omega, by show _ ≤ 6; omega⟩ dX11_hearse_82 (fun x10 M10 H locs g10 hM hv hw => ?_)
      have hv := hv g10
      refine vx_ret ?_
      refine W.widen (k := 1) (n := 6) (by omega) (by omega) ?_
      exact k_iret (wq_X τ ad) hx hb hr hlk hw hM g10 hv dX11_hearse_85
    · refine r_tblI (tgt := 86) hx hb dX11_hearse_22 hp2 (by omega) (by omega) (by rw [b3]; first | done | rfl) (by decide) ?_
      have hv := hv.2.2.2.1 b3
      refine lv_aload_n hx hb dX11_hearse_86 rfl (lv_at hl 0 rfl) ?_
      refine gf_X11_26 hx hb hC hw 155 (gX_155 τ ad M1) rfl dX11_hearse_87 ?_
      refine lv_aload_n hx hb dX11_hearse_90 rfl (lv_at hl 0 rfl) ?_
      refine gf_X11_26 hx hb hC hw 155 (gX_155 τ ad M1) rfl dX11_hearse_91 ?_
      refine gf_X11_240 hx hb hC hw 1 (gS_X (by decide) τ ad M1) rfl dX11_hearse_94 ?_
      refine lv_iload_n hx hb dX11_hearse_97 rfl (lv_at hl 1 rfl) ?_
      refine k_cVi (wq_X τ ad) hx hb hml hC hLS hA hw hl.1 (mX6_bitsOf l D τ ad sA sV _ 1 6 p1 (by decide) (isS_f4 (by decide)) hp1 M1 hM _ hv) kX6_bitsOf ml_X11_243 rfl (gS_X (by decide) τ ad M1) rfl rfl (Nat.le_of_ble_eq_true rfl) (rm_ok (by decide) (by decide)) ⟨by show _ ≤ 1; omega, by show _ ≤ 6; omega⟩ dX11_hearse_98 (fun x11 M11 H locs g11 hM hv hw => ?_)
      have hv := hv g11
      refine vx_ret ?_
      refine W.widen (k := 1) (n := 6) (by omega) (by omega) ?_
      exact k_iret (wq_X τ ad) hx hb hr hlk hw hM g11 hv dX11_hearse_101
    · refine r_tblI (tgt := 102) hx hb dX11_hearse_22 hp2 (by omega) (by omega) (by rw [b3]; first | done | rfl) (by decide) ?_
      have hv := hv.2.2.2.2.1 b3
      refine lv_aload_n hx hb dX11_hearse_102 rfl (lv_at hl 0 rfl) ?_
      refine gf_X11_26 hx hb hC hw 155 (gX_155 τ ad M1) rfl dX11_hearse_103 ?_
      refine lv_aload_n hx hb dX11_hearse_106 rfl (lv_at hl 0 rfl) ?_
      refine gf_X11_26 hx hb hC hw 155 (gX_155 τ ad M1) rfl dX11_hearse_107 ?_
      refine gf_X11_247 hx hb hC hw 1 (gS_X (by decide) τ ad M1) rfl dX11_hearse_110 ?_
      refine lv_iload_n hx hb dX11_hearse_113 rfl (lv_at hl 1 rfl) ?_
      refine k_cVi (wq_X τ ad) hx hb hml hC hLS hA hw hl.1 (mX6_bitsOf l D τ ad sA sV _ 1 7 p1 (by decide) (isS_f5 (by decide)) hp1 M1 hM _ hv) kX6_bitsOf ml_X11_243 rfl (gS_X (by decide) τ ad M1) rfl rfl (Nat.le_of_ble_eq_true rfl) (rm_ok (by decide) (by decide)) ⟨by show _ ≤ 1; omega, by show _ ≤ 6; omega⟩ dX11_hearse_114 (fun x12 M12 H locs g12 hM hv hw => ?_)
      have hv := hv g12
      refine vx_ret ?_
      refine W.widen (k := 1) (n := 6) (by omega) (by omega) ?_
      exact k_iret (wq_X τ ad) hx hb hr hlk hw hM g12 hv dX11_hearse_117
    · refine r_tblI (tgt := 118) hx hb dX11_hearse_22 hp2 (by omega) (by omega) (by rw [b3]; first | done | rfl) (by decide) ?_
      have hv := hv.2.2.2.2.2.1 b3
      refine lv_aload_n hx hb dX11_hearse_118 rfl (lv_at hl 0 rfl) ?_
      refine gf_X11_26 hx hb hC hw 155 (gX_155 τ ad M1) rfl dX11_hearse_119 ?_
      refine lv_aload_n hx hb dX11_hearse_122 rfl (lv_at hl 0 rfl) ?_
      refine gf_X11_26 hx hb hC hw 155 (gX_155 τ ad M1) rfl dX11_hearse_123 ?_
      refine gf_X11_250 hx hb hC hw 1 (gS_X (by decide) τ ad M1) rfl dX11_hearse_126 ?_
      refine lv_iload_n hx hb dX11_hearse_129 rfl (lv_at hl 1 rfl) ?_
      refine k_cVi (wq_X τ ad) hx hb hml hC hLS hA hw hl.1 (mX6_bitsOf l D τ ad sA sV _ 1 5 p1 (by decide) (isS_f3 (by decide)) hp1 M1 hM _ hv) kX6_bitsOf ml_X11_243 rfl (gS_X (by decide) τ ad M1) rfl rfl (Nat.le_of_ble_eq_true rfl) (rm_ok (by decide) (by decide)) ⟨by show _ ≤ 1; omega, by show _ ≤ 6; omega⟩ dX11_hearse_130 (fun x13 M13 H locs g13 hM hv hw => ?_)
      have hv := hv g13
      refine vx_ret ?_
      refine W.widen (k := 1) (n := 6) (by omega) (by omega) ?_
      exact k_iret (wq_X τ ad) hx hb hr hlk hw hM g13 hv dX11_hearse_133
    · refine r_tblO (tgt := 134) hx hb dX11_hearse_22 hp2 b3 (by decide) ?_
      have hv := hv.2.2.2.2.2.2 b3
      exact x_throwS hx hb hst hml hlk hC hX.1 (hX.2.2.1) htab hw hM hv hl.1 (by decide) (Nat.le_of_ble_eq_true rfl) dX11_hearse_134 dX11_hearse_137 dX11_hearse_138 dX11_hearse_140 dX11_hearse_143
  · have hv := hv.2 b2
    exact x_throwS hx hb hst hml hlk hC hX.1 (hX.2.1) htab hw hM hv hl.1 (by decide) (Nat.le_of_ble_eq_true rfl) dX11_hearse_11 dX11_hearse_14 dX11_hearse_15 dX11_hearse_17 dX11_hearse_20
set_option maxHeartbeats 4000000 in
set_option maxRecDepth 100000 in
theorem mX11_mourner (l : Launch) (hst : l.stackTraces = false) (D : va_G) (τ : Nat → ClassId) (ad : Nat → Nat) (sA sV : Nat → Nat) (sz : Nat) (p1 : Int) (p2 : Int) (hp1 : iR p1) (hp2 : iR p2) (M : Mem) (hM : MR M) (Q : Int → Mem → Prop) (E : Mem → Prop) (hv : qX11_mourner p1 p2 M Q E) : vx_Met l yX11_mourner (lw_w yX11_mourner cX11_mourner 3 (some .int)) (rmk 8 1 6) (xPc D τ sA sV (WX τ ad M) sz [.ref (ad 155), .int (iI p1), .int (iI p2)]) (gQi D (EQi (WX τ ad) MR Q) (va_A (WX τ ad M) sz)) (XCQ D (WX τ ad) E (va_A (WX τ ad M) sz)) 1 6 (va_A (WX τ ad M) sz) := by
  refine x_met (ret := (some .int)) (Qc := gQi D (EQi (WX τ ad) MR Q)) (XC := XCQ D (WX τ ad) E) (by decide +kernel) (Nat.le_of_ble_eq_true rfl) ?_
  intro p e s m args below meth c A ls hx hb hml hr hlk hC hLS hX htab hA hw hl
  have hC : cx D τ s m args RX11 := hC
  have hl : lv_has ls 3 [(0, .ref (ad 155)), (1, .int (iI p1)), (2, .int (iI p2))] := hl
  unfold qX11_mourner at hv
  refine lv_aload_n hx hb dX11_mourner_0 rfl (lv_at hl 0 rfl) ?_
  refine gf_X11_26 hx hb hC hw 155 (gX_155 τ ad M) rfl dX11_mourner_1 ?_
  refine lv_iload_n hx hb dX11_mourner_4 rfl (lv_at hl 1 rfl) ?_
  refine k_cVz (wq_X τ ad) hx hb hml hC hLS hA hw hl.1 (mX6_isMourner l D τ ad sA sV _ 1 p1 (by decide) hp1 M hM _ hv) kX6_isMourner ml_X11_265 rfl (gS_X (by decide) τ ad M) rfl rfl (Nat.le_of_ble_eq_true rfl) (rm_ok (by decide) (by decide)) ⟨by show _ ≤ 1; omega, by show _ ≤ 6; omega⟩ dX11_mourner_5 (fun x1 M1 H locs g1 z1 hM hv hw => ?_)
  have hv := hv g1 z1
  refine r_if_ne (tgt := 22) hx hb dX11_mourner_8 (by decide) g1  (fun b2 => ?_) (fun b2 => ?_)
  · have hv := hv.1 b2
    refine lv_iload_n hx hb dX11_mourner_22 rfl (lv_at hl 2 rfl) ?_
    rcases (show p2 = 0 ∨ p2 = 1 ∨ p2 = 2 ∨ p2 = 3 ∨ p2 = 4 ∨ (p2 < 0 ∨ 4 < p2) by omega) with b3 | b3 | b3 | b3 | b3 | b3
    · refine r_tblI (tgt := 56) hx hb dX11_mourner_23 hp2 (by omega) (by omega) (by rw [b3]; first | done | rfl) (by decide) ?_
      have hv := hv.1 b3
      refine lv_aload_n hx hb dX11_mourner_56 rfl (lv_at hl 0 rfl) ?_
      refine gf_X11_26 hx hb hC hw 155 (gX_155 τ ad M1) rfl dX11_mourner_57 ?_
      refine gf_X11_270 hx hb hC hw 1 (gS_X (by decide) τ ad M1) rfl dX11_mourner_60 ?_
      refine lv_iload_n hx hb dX11_mourner_63 rfl (lv_at hl 1 rfl) ?_
      obtain ⟨c4, hv⟩ := hv
      obtain ⟨c5, hv⟩ := hv
      refine r_iald hx hb hC hw 4 (gI_X (isS_f2 (by decide)) τ ad M1) c4 c5 (by decide) dX11_mourner_64 ?_
      refine r_top (fun x6 e6 => ?_)
      have g6 : iR x6 := by rw [e6]; exact hM.get (isS_f2 (by decide)).pos _
      have hv := hv x6 e6 g6
      refine vx_ret ?_
      refine W.widen (k := 1) (n := 6) (by omega) (by omega) ?_
      exact k_iret (wq_X τ ad) hx hb hr hlk hw hM g6 hv dX11_mourner_65
    · refine r_tblI (tgt := 66) hx hb dX11_mourner_23 hp2 (by omega) (by omega) (by rw [b3]; first | done | rfl) (by decide) ?_
      have hv := hv.2.1 b3
      refine lv_aload_n hx hb dX11_mourner_66 rfl (lv_at hl 0 rfl) ?_
      refine gf_X11_26 hx hb hC hw 155 (gX_155 τ ad M1) rfl dX11_mourner_67 ?_
      refine gf_X11_250 hx hb hC hw 1 (gS_X (by decide) τ ad M1) rfl dX11_mourner_70 ?_
      refine lv_iload_n hx hb dX11_mourner_73 rfl (lv_at hl 1 rfl) ?_
      obtain ⟨c7, hv⟩ := hv
      obtain ⟨c8, hv⟩ := hv
      refine r_iald hx hb hC hw 5 (gI_X (isS_f3 (by decide)) τ ad M1) c7 c8 (by decide) dX11_mourner_74 ?_
      refine r_top (fun x9 e9 => ?_)
      have g9 : iR x9 := by rw [e9]; exact hM.get (isS_f3 (by decide)).pos _
      have hv := hv x9 e9 g9
      refine vx_ret ?_
      refine W.widen (k := 1) (n := 6) (by omega) (by omega) ?_
      exact k_iret (wq_X τ ad) hx hb hr hlk hw hM g9 hv dX11_mourner_75
    · refine r_tblI (tgt := 76) hx hb dX11_mourner_23 hp2 (by omega) (by omega) (by rw [b3]; first | done | rfl) (by decide) ?_
      have hv := hv.2.2.1 b3
      refine lv_aload_n hx hb dX11_mourner_76 rfl (lv_at hl 0 rfl) ?_
      refine gf_X11_26 hx hb hC hw 155 (gX_155 τ ad M1) rfl dX11_mourner_77 ?_
      refine gf_X11_240 hx hb hC hw 1 (gS_X (by decide) τ ad M1) rfl dX11_mourner_80 ?_
      refine lv_iload_n hx hb dX11_mourner_83 rfl (lv_at hl 1 rfl) ?_
      obtain ⟨c10, hv⟩ := hv
      obtain ⟨c11, hv⟩ := hv
      refine r_iald hx hb hC hw 6 (gI_X (isS_f4 (by decide)) τ ad M1) c10 c11 (by decide) dX11_mourner_84 ?_
      refine r_top (fun x12 e12 => ?_)
      have g12 : iR x12 := by rw [e12]; exact hM.get (isS_f4 (by decide)).pos _
      have hv := hv x12 e12 g12
      refine vx_ret ?_
      refine W.widen (k := 1) (n := 6) (by omega) (by omega) ?_
      exact k_iret (wq_X τ ad) hx hb hr hlk hw hM g12 hv dX11_mourner_85
    · refine r_tblI (tgt := 86) hx hb dX11_mourner_23 hp2 (by omega) (by omega) (by rw [b3]; first | done | rfl) (by decide) ?_
      have hv := hv.2.2.2.1 b3
      refine lv_aload_n hx hb dX11_mourner_86 rfl (lv_at hl 0 rfl) ?_
      refine gf_X11_26 hx hb hC hw 155 (gX_155 τ ad M1) rfl dX11_mourner_87 ?_
      refine gf_X11_247 hx hb hC hw 1 (gS_X (by decide) τ ad M1) rfl dX11_mourner_90 ?_
      refine lv_iload_n hx hb dX11_mourner_93 rfl (lv_at hl 1 rfl) ?_
      obtain ⟨c13, hv⟩ := hv
      obtain ⟨c14, hv⟩ := hv
      refine r_iald hx hb hC hw 7 (gI_X (isS_f5 (by decide)) τ ad M1) c13 c14 (by decide) dX11_mourner_94 ?_
      refine r_top (fun x15 e15 => ?_)
      have g15 : iR x15 := by rw [e15]; exact hM.get (isS_f5 (by decide)).pos _
      have hv := hv x15 e15 g15
      refine vx_ret ?_
      refine W.widen (k := 1) (n := 6) (by omega) (by omega) ?_
      exact k_iret (wq_X τ ad) hx hb hr hlk hw hM g15 hv dX11_mourner_95
    · refine r_tblI (tgt := 96) hx hb dX11_mourner_23 hp2 (by omega) (by omega) (by rw [b3]; first | done | rfl) (by decide) ?_
      have hv := hv.2.2.2.2.1 b3
      refine lv_aload_n hx hb dX11_mourner_96 rfl (lv_at hl 0 rfl) ?_
      refine gf_X11_26 hx hb hC hw 155 (gX_155 τ ad M1) rfl dX11_mourner_97 ?_
      refine lv_aload_n hx hb dX11_mourner_100 rfl (lv_at hl 0 rfl) ?_
      refine gf_X11_26 hx hb hC hw 155 (gX_155 τ ad M1) rfl dX11_mourner_101 ?_
      refine gf_X11_270 hx hb hC hw 1 (gS_X (by decide) τ ad M1) rfl dX11_mourner_104 ?_
      refine lv_iload_n hx hb dX11_mourner_107 rfl (lv_at hl 1 rfl) ?_
      obtain ⟨c16, hv⟩ := hv
      obtain ⟨c17, hv⟩ := hv
      refine r_iald hx hb hC hw 4 (gI_X (isS_f2 (by decide)) τ ad M1) c16 c17 (by decide) dX11_mourner_108 ?_
      refine r_top (fun x18 e18 => ?_)
      have g18 : iR x18 := by rw [e18]; exact hM.get (isS_f2 (by decide)).pos _
      have hv := hv x18 e18 g18
      refine k_cVi (wq_X τ ad) hx hb hml hC hLS hA hw hl.1 (mX6_nearestTo l D τ ad sA sV _ 1 x18 (by decide) g18 M1 hM _ hv) kX6_nearestTo ml_X11_273 rfl (gS_X (by decide) τ ad M1) rfl rfl (Nat.le_of_ble_eq_true rfl) (rm_ok (by decide) (by decide)) ⟨by show _ ≤ 1; omega, by show _ ≤ 6; omega⟩ dX11_mourner_109 (fun x19 M19 H locs g19 hM hv hw => ?_)
      have hv := hv g19
      refine vx_ret ?_
      refine W.widen (k := 1) (n := 6) (by omega) (by omega) ?_
      exact k_iret (wq_X τ ad) hx hb hr hlk hw hM g19 hv dX11_mourner_112
    · refine r_tblO (tgt := 113) hx hb dX11_mourner_23 hp2 b3 (by decide) ?_
      have hv := hv.2.2.2.2.2 b3
      exact x_throwSW hx hb hst hml hlk hC hX.1 (hX.2.2.2.2.1) htab hw hM hv hl.1 (by decide) (Nat.le_of_ble_eq_true rfl) dX11_mourner_113 dX11_mourner_116 dX11_mourner_117 dX11_mourner_120 dX11_mourner_123
  · have hv := hv.2 b2
    exact x_throwSW hx hb hst hml hlk hC hX.1 (hX.2.2.2.1) htab hw hM hv hl.1 (by decide) (Nat.le_of_ble_eq_true rfl) dX11_mourner_11 dX11_mourner_14 dX11_mourner_15 dX11_mourner_18 dX11_mourner_21
set_option maxHeartbeats 4000000 in
set_option maxRecDepth 100000 in
theorem mX11_row (l : Launch) (hst : l.stackTraces = false) (D : va_G) (τ : Nat → ClassId) (ad : Nat → Nat) (sA sV : Nat → Nat) (sz : Nat) (p1 : Int) (hp1 : iR p1) (M : Mem) (hM : MR M) (Q : Int → Mem → Prop) (E : Mem → Prop) (hv : qX11_row p1 M Q E) : vx_Met l yX11_row (lw_w yX11_row cX11_row 2 (some .long)) (rmk 8 1 6) (xPc D τ sA sV (WX τ ad M) sz [.ref (ad 155), .int (iI p1)]) (gQl D (EQi (WX τ ad) MR Q) (va_A (WX τ ad M) sz)) (XCQ D (WX τ ad) E (va_A (WX τ ad M) sz)) 1 6 (va_A (WX τ ad M) sz) := by
  refine x_met (ret := (some .long)) (Qc := gQl D (EQi (WX τ ad) MR Q)) (XC := XCQ D (WX τ ad) E) (by decide +kernel) (Nat.le_of_ble_eq_true rfl) ?_
  intro p e s m args below meth c A ls hx hb hml hr hlk hC hLS hX htab hA hw hl
  have hC : cx D τ s m args RX11 := hC
  have hl : lv_has ls 2 [(0, .ref (ad 155)), (1, .int (iI p1))] := hl
  unfold qX11_row at hv
  refine lv_iload_n hx hb dX11_row_0 rfl (lv_at hl 1 rfl) ?_
  refine r_if_lt (tgt := 15) hx hb dX11_row_1 (by decide) hp1  (fun b1 => ?_) (fun b1 => ?_)
  · have hv := hv.1 b1
    exact x_throwSW hx hb hst hml hlk hC hX.1 (hX.2.2.2.2.2) htab hw hM hv hl.1 (by decide) (Nat.le_of_ble_eq_true rfl) dX11_row_15 dX11_row_18 dX11_row_19 dX11_row_22 dX11_row_25
  · have hv := hv.2 b1
    refine lv_iload_n hx hb dX11_row_4 rfl (lv_at hl 1 rfl) ?_
    refine lv_aload_n hx hb dX11_row_5 rfl (lv_at hl 0 rfl) ?_
    refine gf_X11_66 hx hb hC hw 155 (gX_155 τ ad M) rfl dX11_row_6 ?_
    refine gf_X11_359 hx hb hC hw 167 (gX_167 τ ad M) rfl dX11_row_9 ?_
    refine r_top (fun x2 e2 => ?_)
    have g2 : iR x2 := by rw [e2]; exact hM.get (by decide) _
    have hv := hv x2 e2 g2
    refine r_icmp_lt (tgt := 26) hx hb dX11_row_12 (by decide) hp1 g2 (fun b3 => ?_) (fun b3 => ?_)
    · have hv := hv.1 b3
      refine lv_aload_n hx hb dX11_row_26 rfl (lv_at hl 0 rfl) ?_
      refine gf_X11_66 hx hb hC hw 155 (gX_155 τ ad M) rfl dX11_row_27 ?_
      refine gf_X11_494 hx hb hC hw 167 (gX_167 τ ad M) rfl dX11_row_30 ?_
      refine lv_iload_n hx hb dX11_row_33 rfl (lv_at hl 1 rfl) ?_
      obtain ⟨c4, hv⟩ := hv
      obtain ⟨c5, hv⟩ := hv
      refine r_lald hx hb hC hw 0 (gJ_X aX_0 τ ad M) c4 c5 (by decide) dX11_row_34 ?_
      refine r_topL (fun x6 e6 => ?_)
      have g6 : lR x6 := by rw [e6]; exact hM.getL _
      have hv := hv x6 e6 g6
      refine vx_ret ?_
      refine W.widen (k := 1) (n := 6) (by omega) (by omega) ?_
      exact k_lret (wq_X τ ad) hx hb hr hlk hw hM g6 hv dX11_row_35
    · have hv := hv.2 b3
      exact x_throwSW hx hb hst hml hlk hC hX.1 (hX.2.2.2.2.2) htab hw hM hv hl.1 (by decide) (Nat.le_of_ble_eq_true rfl) dX11_row_15 dX11_row_18 dX11_row_19 dX11_row_22 dX11_row_25
end
section
abbrev W_c_Text_init (τ : Nat → ClassId) (h0 : Nat) : va_W := [(h0, .inr (10, [.null, .int (iI 0), .int (iI 0), .int (iI 0)]))]
abbrev E_c_Text_init (τ : Nat → ClassId) (h0 : Nat) : va_W → Prop := fun w => ∃ (a0 : Nat), (True) ∧ w = [(h0, .inr (10, [.ref a0, .int (iI 0), .int (iI 0), .int (iI 0)])), (a0, .inl (τ 0, 80, .inl (ar (fun _ => 0))))]
set_option maxHeartbeats 4000000 in
set_option maxRecDepth 100000 in
theorem c_Text_init (l : Launch) (D : va_G) (τ : Nat → ClassId) (sz : Nat) (h0 : Nat)  : Met l yX9_init (lw_w yX9_init cX9_init 1 none) (rmk 1 1 80) (gPc D τ (W_c_Text_init τ h0) sz [.ref h0]) (gQv D (E_c_Text_init τ h0) (va_A (W_c_Text_init τ h0) sz)) 1 80 (va_A (W_c_Text_init τ h0) sz) := by
  refine g_met (ret := none) (Qc := gQv D (E_c_Text_init τ h0)) (by decide +kernel) (Nat.le_of_ble_eq_true rfl) ?_
  intro p e s m args below meth c A ls hx hb hml hr hlk hnm hC hA hw hl
  have hC : cx D τ s m args RX9 := hC
  have hl : lv_has ls 1 [(0, .ref h0)] := hl
  have hw : wS D A s.heap [(h0, .inr (10, [.null, .int (iI 0), .int (iI 0), .int (iI 0)]))] s.heap [] := hw
  refine lv_aload_n hx hb dX9_init_0 rfl (lv_at hl 0 rfl) ?_
  refine r_objInit hx hb hml hC hl.1 ml_X9_3 im_init cd_init (by decide) (Nat.le_of_ble_eq_true rfl) (by decide) dX9_init_1 ?_
  refine lv_aload_n hx hb dX9_init_4 rfl (lv_at hl 0 rfl) ?_
  refine r_bipush hx hb dX9_init_5 (by decide +kernel) ?_
  refine r_newi (N := 80) hx hb hC hA hw ac_int (by decide) (by decide) (by decide) (by decide) rfl rfl dX9_init_7 (fun a1 H hw => ?_)
  have hw : wS D A s.heap [(h0, .inr (10, [.null, .int (iI 0), .int (iI 0), .int (iI 0)])), (a1, .inl (τ 0, 80, .inl (ar (fun _ => 0))))] H _ := hw
  refine pf_X9_9 (ws' := [(h0, .inr (10, [.ref a1, .int (iI 0), .int (iI 0), .int (iI 0)])), (a1, .inl (τ 0, 80, .inl (ar (fun _ => 0))))]) hx hb hC hw hnm 0 rfl (Nat.le_of_ble_eq_true rfl) rfl dX9_init_9 (fun H locs hw => ?_)
  refine lv_aload_n hx hb dX9_init_12 rfl (lv_at hl 0 rfl) ?_
  refine r_iconst hx hb dX9_init_13 ?_
  refine pf_X9_15 (ws' := [(h0, .inr (10, [.ref a1, .int (iI 0), .int (iI 0), .int (iI 0)])), (a1, .inl (τ 0, 80, .inl (ar (fun _ => 0))))]) hx hb hC hw 0 rfl (Nat.le_of_ble_eq_true rfl) rfl dX9_init_14 (fun H locs hw => ?_)
  refine lv_aload_n hx hb dX9_init_17 rfl (lv_at hl 0 rfl) ?_
  refine r_iconst hx hb dX9_init_18 ?_
  refine pf_X9_19 (ws' := [(h0, .inr (10, [.ref a1, .int (iI 0), .int (iI 0), .int (iI 0)])), (a1, .inl (τ 0, 80, .inl (ar (fun _ => 0))))]) hx hb hC hw 0 rfl (Nat.le_of_ble_eq_true rfl) rfl dX9_init_19 (fun H locs hw => ?_)
  refine lv_aload_n hx hb dX9_init_22 rfl (lv_at hl 0 rfl) ?_
  refine r_iconst hx hb dX9_init_23 ?_
  refine pf_X9_22 (ws' := [(h0, .inr (10, [.ref a1, .int (iI 0), .int (iI 0), .int (iI 0)])), (a1, .inl (τ 0, 80, .inl (ar (fun _ => 0))))]) hx hb hC hw 0 rfl (Nat.le_of_ble_eq_true rfl) rfl dX9_init_24 (fun H locs hw => ?_)
  exact r_vret hx hb hr hlk hw [(h0, .inr (10, [.ref a1, .int (iI 0), .int (iI 0), .int (iI 0)])), (a1, .inl (τ 0, 80, .inl (ar (fun _ => 0))))] [0, 1] rfl (by decide) ⟨a1, trivial, rfl⟩ dX9_init_27
abbrev W_c_Row_init (τ : Nat → ClassId) (h0 : Nat) : va_W := [(h0, .inr (5, [.null, .int (iI 0)]))]
abbrev E_c_Row_init (τ : Nat → ClassId) (h0 : Nat) : va_W → Prop := fun w => ∃ (a0 : Nat), (True) ∧ w = [(h0, .inr (5, [.ref a0, .int (iI 0)])), (a0, .inl (τ 1, 8, .inr (.inl (arL (fun _ => 0)))))]
set_option maxHeartbeats 4000000 in
set_option maxRecDepth 100000 in
theorem c_Row_init (l : Launch) (D : va_G) (τ : Nat → ClassId) (sz : Nat) (h0 : Nat)  : Met l yX4_init (lw_w yX4_init cX4_init 1 none) (rmk 1 1 8) (gPc D τ (W_c_Row_init τ h0) sz [.ref h0]) (gQv D (E_c_Row_init τ h0) (va_A (W_c_Row_init τ h0) sz)) 1 8 (va_A (W_c_Row_init τ h0) sz) := by
  refine g_met (ret := none) (Qc := gQv D (E_c_Row_init τ h0)) (by decide +kernel) (Nat.le_of_ble_eq_true rfl) ?_
  intro p e s m args below meth c A ls hx hb hml hr hlk hnm hC hA hw hl
  have hC : cx D τ s m args RX4 := hC
  have hl : lv_has ls 1 [(0, .ref h0)] := hl
  have hw : wS D A s.heap [(h0, .inr (5, [.null, .int (iI 0)]))] s.heap [] := hw
  refine lv_aload_n hx hb dX4_init_0 rfl (lv_at hl 0 rfl) ?_
  refine r_objInit hx hb hml hC hl.1 ml_X4_3 im_init cd_init (by decide) (Nat.le_of_ble_eq_true rfl) (by decide) dX4_init_1 ?_
  refine lv_aload_n hx hb dX4_init_4 rfl (lv_at hl 0 rfl) ?_
  refine r_bipush hx hb dX4_init_5 (by decide +kernel) ?_
  refine r_newl (N := 8) hx hb hC hA hw ac_long (by decide) (by decide) (by decide) (by decide) rfl rfl dX4_init_7 (fun a1 H hw => ?_)
  have hw : wS D A s.heap [(h0, .inr (5, [.null, .int (iI 0)])), (a1, .inl (τ 1, 8, .inr (.inl (arL (fun _ => 0)))))] H _ := hw
  refine pf_X4_9 (ws' := [(h0, .inr (5, [.ref a1, .int (iI 0)])), (a1, .inl (τ 1, 8, .inr (.inl (arL (fun _ => 0)))))]) hx hb hC hw hnm 0 rfl (Nat.le_of_ble_eq_true rfl) rfl dX4_init_9 (fun H locs hw => ?_)
  refine lv_aload_n hx hb dX4_init_12 rfl (lv_at hl 0 rfl) ?_
  refine r_iconst hx hb dX4_init_13 ?_
  refine pf_X4_15 (ws' := [(h0, .inr (5, [.ref a1, .int (iI 0)])), (a1, .inl (τ 1, 8, .inr (.inl (arL (fun _ => 0)))))]) hx hb hC hw 0 rfl (Nat.le_of_ble_eq_true rfl) rfl dX4_init_14 (fun H locs hw => ?_)
  exact r_vret hx hb hr hlk hw [(h0, .inr (5, [.ref a1, .int (iI 0)])), (a1, .inl (τ 1, 8, .inr (.inl (arL (fun _ => 0)))))] [0, 1] rfl (by decide) ⟨a1, trivial, rfl⟩ dX4_init_17
abbrev W_c_Street_init (τ : Nat → ClassId) (h8 : Nat) : va_W := [(h8, .inr (9, [.null, .int (iI 0), .int (iI 0), .int (iI 0)]))]
abbrev E_c_Street_init (τ : Nat → ClassId) (h8 : Nat) : va_W → Prop := fun w => ∃ (d8 : Nat), (True) ∧ w = [(h8, .inr (9, [.ref d8, .int (iI 4), .int (iI 0), .int (iI 1)])), (d8, .inl (τ 0, 20, .inl (ar (fun _ => 0))))]
set_option maxHeartbeats 4000000 in
set_option maxRecDepth 100000 in
theorem c_Street_init (l : Launch) (D : va_G) (τ : Nat → ClassId) (sz : Nat) (h8 : Nat)  : Met l yX8_init (lw_w yX8_init cX8_init 1 none) (rmk 1 1 20) (gPc D τ (W_c_Street_init τ h8) sz [.ref h8]) (gQv D (E_c_Street_init τ h8) (va_A (W_c_Street_init τ h8) sz)) 1 20 (va_A (W_c_Street_init τ h8) sz) := by
  refine g_met (ret := none) (Qc := gQv D (E_c_Street_init τ h8)) (by decide +kernel) (Nat.le_of_ble_eq_true rfl) ?_
  intro p e s m args below meth c A ls hx hb hml hr hlk hnm hC hA hw hl
  have hC : cx D τ s m args RX8 := hC
  have hl : lv_has ls 1 [(0, .ref h8)] := hl
  have hw : wS D A s.heap [(h8, .inr (9, [.null, .int (iI 0), .int (iI 0), .int (iI 0)]))] s.heap [] := hw
  refine lv_aload_n hx hb dX8_init_0 rfl (lv_at hl 0 rfl) ?_
  refine r_objInit hx hb hml hC hl.1 ml_X8_3 im_init cd_init (by decide) (Nat.le_of_ble_eq_true rfl) (by decide) dX8_init_1 ?_
  refine lv_aload_n hx hb dX8_init_4 rfl (lv_at hl 0 rfl) ?_
  refine r_bipush hx hb dX8_init_5 (by decide +kernel) ?_
  refine r_newi (N := 20) hx hb hC hA hw ac_int (by decide) (by decide) (by decide) (by decide) rfl rfl dX8_init_7 (fun a1 H hw => ?_)
  have hw : wS D A s.heap [(h8, .inr (9, [.null, .int (iI 0), .int (iI 0), .int (iI 0)])), (a1, .inl (τ 0, 20, .inl (ar (fun _ => 0))))] H _ := hw
  refine pf_X8_9 (ws' := [(h8, .inr (9, [.ref a1, .int (iI 0), .int (iI 0), .int (iI 0)])), (a1, .inl (τ 0, 20, .inl (ar (fun _ => 0))))]) hx hb hC hw hnm 0 rfl (Nat.le_of_ble_eq_true rfl) rfl dX8_init_9 (fun H locs hw => ?_)
  refine lv_aload_n hx hb dX8_init_12 rfl (lv_at hl 0 rfl) ?_
  refine r_iconst hx hb dX8_init_13 ?_
  refine pf_X8_15 (ws' := [(h8, .inr (9, [.ref a1, .int (iI 4), .int (iI 0), .int (iI 0)])), (a1, .inl (τ 0, 20, .inl (ar (fun _ => 0))))]) hx hb hC hw 0 rfl (Nat.le_of_ble_eq_true rfl) rfl dX8_init_14 (fun H locs hw => ?_)
  refine lv_aload_n hx hb dX8_init_17 rfl (lv_at hl 0 rfl) ?_
  refine r_iconst hx hb dX8_init_18 ?_
  refine pf_X8_19 (ws' := [(h8, .inr (9, [.ref a1, .int (iI 4), .int (iI 0), .int (iI 0)])), (a1, .inl (τ 0, 20, .inl (ar (fun _ => 0))))]) hx hb hC hw 0 rfl (Nat.le_of_ble_eq_true rfl) rfl dX8_init_19 (fun H locs hw => ?_)
  refine lv_aload_n hx hb dX8_init_22 rfl (lv_at hl 0 rfl) ?_
  refine r_iconst hx hb dX8_init_23 ?_
  refine pf_X8_22 (ws' := [(h8, .inr (9, [.ref a1, .int (iI 4), .int (iI 0), .int (iI 1)])), (a1, .inl (τ 0, 20, .inl (ar (fun _ => 0))))]) hx hb hC hw 0 rfl (Nat.le_of_ble_eq_true rfl) rfl dX8_init_24 (fun H locs hw => ?_)
  exact r_vret hx hb hr hlk hw [(h8, .inr (9, [.ref a1, .int (iI 4), .int (iI 0), .int (iI 1)])), (a1, .inl (τ 0, 20, .inl (ar (fun _ => 0))))] [0, 1] rfl (by decide) ⟨a1, trivial, rfl⟩ dX8_init_27
abbrev W_c_Scene_init (τ : Nat → ClassId) (h0 : Nat) : va_W := [(h0, .inr (7, [.null, .null, .null, .null, .null, .null, .int (iI 0), .int (iI 0), .int (iI 0), .int (iI 0), .int (iI 0)]))]
abbrev E_c_Scene_init (τ : Nat → ClassId) (h0 : Nat) : va_W → Prop := fun w => ∃ (c0 : Nat), ∃ (k0 : Nat), ∃ (p0 : Nat), ∃ (o0 : Nat), ∃ (f0 : Nat), ∃ (g0 : Nat), (True) ∧ w = [(h0, .inr (7, [.ref c0, .ref k0, .ref p0, .ref o0, .ref f0, .ref g0, .int (iI 0), .int (iI 0), .int (iI 0), .int (iI 0), .int (iI 0)])), (c0, .inl (τ 0, 6, .inl (ar (fun _ => 0)))), (k0, .inl (τ 0, 6, .inl (ar (fun _ => 0)))), (p0, .inl (τ 0, 8, .inl (ar (fun _ => 0)))), (o0, .inl (τ 0, 8, .inl (ar (fun _ => 0)))), (f0, .inl (τ 0, 8, .inl (ar (fun _ => 0)))), (g0, .inl (τ 0, 8, .inl (ar (fun _ => 0))))]
set_option maxHeartbeats 4000000 in
set_option maxRecDepth 100000 in
theorem c_Scene_init (l : Launch) (D : va_G) (τ : Nat → ClassId) (sz : Nat) (h0 : Nat)  : Met l yX6_init (lw_w yX6_init cX6_init 1 none) (rmk 1 6 44) (gPc D τ (W_c_Scene_init τ h0) sz [.ref h0]) (gQv D (E_c_Scene_init τ h0) (va_A (W_c_Scene_init τ h0) sz)) 6 44 (va_A (W_c_Scene_init τ h0) sz) := by
  refine g_met (ret := none) (Qc := gQv D (E_c_Scene_init τ h0)) (by decide +kernel) (Nat.le_of_ble_eq_true rfl) ?_
  intro p e s m args below meth c A ls hx hb hml hr hlk hnm hC hA hw hl
  have hC : cx D τ s m args RX6 := hC
  have hl : lv_has ls 1 [(0, .ref h0)] := hl
  have hw : wS D A s.heap [(h0, .inr (7, [.null, .null, .null, .null, .null, .null, .int (iI 0), .int (iI 0), .int (iI 0), .int (iI 0), .int (iI 0)]))] s.heap [] := hw
  refine lv_aload_n hx hb dX6_init_0 rfl (lv_at hl 0 rfl) ?_
  refine r_objInit hx hb hml hC hl.1 ml_X6_3 im_init cd_init (by decide) (Nat.le_of_ble_eq_true rfl) (by decide) dX6_init_1 ?_
  refine lv_aload_n hx hb dX6_init_4 rfl (lv_at hl 0 rfl) ?_
  refine r_bipush hx hb dX6_init_5 (by decide +kernel) ?_
  refine r_newi (N := 6) hx hb hC hA hw ac_int (by decide) (by decide) (by decide) (by decide) rfl rfl dX6_init_7 (fun a1 H hw => ?_)
  have hw : wS D A s.heap [(h0, .inr (7, [.null, .null, .null, .null, .null, .null, .int (iI 0), .int (iI 0), .int (iI 0), .int (iI 0), .int (iI 0)])), (a1, .inl (τ 0, 6, .inl (ar (fun _ => 0))))] H _ := hw
  refine pf_X6_9 (ws' := [(h0, .inr (7, [.ref a1, .null, .null, .null, .null, .null, .int (iI 0), .int (iI 0), .int (iI 0), .int (iI 0), .int (iI 0)])), (a1, .inl (τ 0, 6, .inl (ar (fun _ => 0))))]) hx hb hC hw hnm 0 rfl (Nat.le_of_ble_eq_true rfl) rfl dX6_init_9 (fun H locs hw => ?_)
  refine lv_aload_n hx hb dX6_init_12 rfl (lv_at hl 0 rfl) ?_
  refine r_bipush hx hb dX6_init_13 (by decide +kernel) ?_
  refine r_newi (N := 6) hx hb hC hA hw ac_int (by decide) (by decide) (by decide) (by decide) rfl rfl dX6_init_15 (fun a2 H hw => ?_)
  have hw : wS D A s.heap [(h0, .inr (7, [.ref a1, .null, .null, .null, .null, .null, .int (iI 0), .int (iI 0), .int (iI 0), .int (iI 0), .int (iI 0)])), (a1, .inl (τ 0, 6, .inl (ar (fun _ => 0)))), (a2, .inl (τ 0, 6, .inl (ar (fun _ => 0))))] H _ := hw
  refine pf_X6_15 (ws' := [(h0, .inr (7, [.ref a1, .ref a2, .null, .null, .null, .null, .int (iI 0), .int (iI 0), .int (iI 0), .int (iI 0), .int (iI 0)])), (a1, .inl (τ 0, 6, .inl (ar (fun _ => 0)))), (a2, .inl (τ 0, 6, .inl (ar (fun _ => 0))))]) hx hb hC hw hnm 0 rfl (Nat.le_of_ble_eq_true rfl) rfl dX6_init_17 (fun H locs hw => ?_)
  refine lv_aload_n hx hb dX6_init_20 rfl (lv_at hl 0 rfl) ?_
  refine r_bipush hx hb dX6_init_21 (by decide +kernel) ?_
  refine r_newi (N := 8) hx hb hC hA hw ac_int (by decide) (by decide) (by decide) (by decide) rfl rfl dX6_init_23 (fun a3 H hw => ?_)
  have hw : wS D A s.heap [(h0, .inr (7, [.ref a1, .ref a2, .null, .null, .null, .null, .int (iI 0), .int (iI 0), .int (iI 0), .int (iI 0), .int (iI 0)])), (a1, .inl (τ 0, 6, .inl (ar (fun _ => 0)))), (a2, .inl (τ 0, 6, .inl (ar (fun _ => 0)))), (a3, .inl (τ 0, 8, .inl (ar (fun _ => 0))))] H _ := hw
  refine pf_X6_18 (ws' := [(h0, .inr (7, [.ref a1, .ref a2, .ref a3, .null, .null, .null, .int (iI 0), .int (iI 0), .int (iI 0), .int (iI 0), .int (iI 0)])), (a1, .inl (τ 0, 6, .inl (ar (fun _ => 0)))), (a2, .inl (τ 0, 6, .inl (ar (fun _ => 0)))), (a3, .inl (τ 0, 8, .inl (ar (fun _ => 0))))]) hx hb hC hw hnm 0 rfl (Nat.le_of_ble_eq_true rfl) rfl dX6_init_25 (fun H locs hw => ?_)
  refine lv_aload_n hx hb dX6_init_28 rfl (lv_at hl 0 rfl) ?_
  refine r_bipush hx hb dX6_init_29 (by decide +kernel) ?_
  refine r_newi (N := 8) hx hb hC hA hw ac_int (by decide) (by decide) (by decide) (by decide) rfl rfl dX6_init_31 (fun a4 H hw => ?_)
  have hw : wS D A s.heap [(h0, .inr (7, [.ref a1, .ref a2, .ref a3, .null, .null, .null, .int (iI 0), .int (iI 0), .int (iI 0), .int (iI 0), .int (iI 0)])), (a1, .inl (τ 0, 6, .inl (ar (fun _ => 0)))), (a2, .inl (τ 0, 6, .inl (ar (fun _ => 0)))), (a3, .inl (τ 0, 8, .inl (ar (fun _ => 0)))), (a4, .inl (τ 0, 8, .inl (ar (fun _ => 0))))] H _ := hw
  refine pf_X6_21 (ws' := [(h0, .inr (7, [.ref a1, .ref a2, .ref a3, .ref a4, .null, .null, .int (iI 0), .int (iI 0), .int (iI 0), .int (iI 0), .int (iI 0)])), (a1, .inl (τ 0, 6, .inl (ar (fun _ => 0)))), (a2, .inl (τ 0, 6, .inl (ar (fun _ => 0)))), (a3, .inl (τ 0, 8, .inl (ar (fun _ => 0)))), (a4, .inl (τ 0, 8, .inl (ar (fun _ => 0))))]) hx hb hC hw hnm 0 rfl (Nat.le_of_ble_eq_true rfl) rfl dX6_init_33 (fun H locs hw => ?_)
  refine lv_aload_n hx hb dX6_init_36 rfl (lv_at hl 0 rfl) ?_
  refine r_bipush hx hb dX6_init_37 (by decide +kernel) ?_
  refine r_newi (N := 8) hx hb hC hA hw ac_int (by decide) (by decide) (by decide) (by decide) rfl rfl dX6_init_39 (fun a5 H hw => ?_)
  have hw : wS D A s.heap [(h0, .inr (7, [.ref a1, .ref a2, .ref a3, .ref a4, .null, .null, .int (iI 0), .int (iI 0), .int (iI 0), .int (iI 0), .int (iI 0)])), (a1, .inl (τ 0, 6, .inl (ar (fun _ => 0)))), (a2, .inl (τ 0, 6, .inl (ar (fun _ => 0)))), (a3, .inl (τ 0, 8, .inl (ar (fun _ => 0)))), (a4, .inl (τ 0, 8, .inl (ar (fun _ => 0)))), (a5, .inl (τ 0, 8, .inl (ar (fun _ => 0))))] H _ := hw
  refine pf_X6_24 (ws' := [(h0, .inr (7, [.ref a1, .ref a2, .ref a3, .ref a4, .ref a5, .null, .int (iI 0), .int (iI 0), .int (iI 0), .int (iI 0), .int (iI 0)])), (a1, .inl (τ 0, 6, .inl (ar (fun _ => 0)))), (a2, .inl (τ 0, 6, .inl (ar (fun _ => 0)))), (a3, .inl (τ 0, 8, .inl (ar (fun _ => 0)))), (a4, .inl (τ 0, 8, .inl (ar (fun _ => 0)))), (a5, .inl (τ 0, 8, .inl (ar (fun _ => 0))))]) hx hb hC hw hnm 0 rfl (Nat.le_of_ble_eq_true rfl) rfl dX6_init_41 (fun H locs hw => ?_)
  refine lv_aload_n hx hb dX6_init_44 rfl (lv_at hl 0 rfl) ?_
  refine r_bipush hx hb dX6_init_45 (by decide +kernel) ?_
  refine r_newi (N := 8) hx hb hC hA hw ac_int (by decide) (by decide) (by decide) (by decide) rfl rfl dX6_init_47 (fun a6 H hw => ?_)
  have hw : wS D A s.heap [(h0, .inr (7, [.ref a1, .ref a2, .ref a3, .ref a4, .ref a5, .null, .int (iI 0), .int (iI 0), .int (iI 0), .int (iI 0), .int (iI 0)])), (a1, .inl (τ 0, 6, .inl (ar (fun _ => 0)))), (a2, .inl (τ 0, 6, .inl (ar (fun _ => 0)))), (a3, .inl (τ 0, 8, .inl (ar (fun _ => 0)))), (a4, .inl (τ 0, 8, .inl (ar (fun _ => 0)))), (a5, .inl (τ 0, 8, .inl (ar (fun _ => 0)))), (a6, .inl (τ 0, 8, .inl (ar (fun _ => 0))))] H _ := hw
  refine pf_X6_27 (ws' := [(h0, .inr (7, [.ref a1, .ref a2, .ref a3, .ref a4, .ref a5, .ref a6, .int (iI 0), .int (iI 0), .int (iI 0), .int (iI 0), .int (iI 0)])), (a1, .inl (τ 0, 6, .inl (ar (fun _ => 0)))), (a2, .inl (τ 0, 6, .inl (ar (fun _ => 0)))), (a3, .inl (τ 0, 8, .inl (ar (fun _ => 0)))), (a4, .inl (τ 0, 8, .inl (ar (fun _ => 0)))), (a5, .inl (τ 0, 8, .inl (ar (fun _ => 0)))), (a6, .inl (τ 0, 8, .inl (ar (fun _ => 0))))]) hx hb hC hw hnm 0 rfl (Nat.le_of_ble_eq_true rfl) rfl dX6_init_49 (fun H locs hw => ?_)
  refine lv_aload_n hx hb dX6_init_52 rfl (lv_at hl 0 rfl) ?_
  refine r_iconst hx hb dX6_init_53 ?_
  refine pf_X6_30 (ws' := [(h0, .inr (7, [.ref a1, .ref a2, .ref a3, .ref a4, .ref a5, .ref a6, .int (iI 0), .int (iI 0), .int (iI 0), .int (iI 0), .int (iI 0)])), (a1, .inl (τ 0, 6, .inl (ar (fun _ => 0)))), (a2, .inl (τ 0, 6, .inl (ar (fun _ => 0)))), (a3, .inl (τ 0, 8, .inl (ar (fun _ => 0)))), (a4, .inl (τ 0, 8, .inl (ar (fun _ => 0)))), (a5, .inl (τ 0, 8, .inl (ar (fun _ => 0)))), (a6, .inl (τ 0, 8, .inl (ar (fun _ => 0))))]) hx hb hC hw 0 rfl (Nat.le_of_ble_eq_true rfl) rfl dX6_init_54 (fun H locs hw => ?_)
  refine lv_aload_n hx hb dX6_init_57 rfl (lv_at hl 0 rfl) ?_
  refine r_iconst hx hb dX6_init_58 ?_
  refine pf_X6_34 (ws' := [(h0, .inr (7, [.ref a1, .ref a2, .ref a3, .ref a4, .ref a5, .ref a6, .int (iI 0), .int (iI 0), .int (iI 0), .int (iI 0), .int (iI 0)])), (a1, .inl (τ 0, 6, .inl (ar (fun _ => 0)))), (a2, .inl (τ 0, 6, .inl (ar (fun _ => 0)))), (a3, .inl (τ 0, 8, .inl (ar (fun _ => 0)))), (a4, .inl (τ 0, 8, .inl (ar (fun _ => 0)))), (a5, .inl (τ 0, 8, .inl (ar (fun _ => 0)))), (a6, .inl (τ 0, 8, .inl (ar (fun _ => 0))))]) hx hb hC hw 0 rfl (Nat.le_of_ble_eq_true rfl) rfl dX6_init_59 (fun H locs hw => ?_)
  refine lv_aload_n hx hb dX6_init_62 rfl (lv_at hl 0 rfl) ?_
  refine r_iconst hx hb dX6_init_63 ?_
  refine pf_X6_37 (ws' := [(h0, .inr (7, [.ref a1, .ref a2, .ref a3, .ref a4, .ref a5, .ref a6, .int (iI 0), .int (iI 0), .int (iI 0), .int (iI 0), .int (iI 0)])), (a1, .inl (τ 0, 6, .inl (ar (fun _ => 0)))), (a2, .inl (τ 0, 6, .inl (ar (fun _ => 0)))), (a3, .inl (τ 0, 8, .inl (ar (fun _ => 0)))), (a4, .inl (τ 0, 8, .inl (ar (fun _ => 0)))), (a5, .inl (τ 0, 8, .inl (ar (fun _ => 0)))), (a6, .inl (τ 0, 8, .inl (ar (fun _ => 0))))]) hx hb hC hw 0 rfl (Nat.le_of_ble_eq_true rfl) rfl dX6_init_64 (fun H locs hw => ?_)
  refine lv_aload_n hx hb dX6_init_67 rfl (lv_at hl 0 rfl) ?_
  refine r_iconst hx hb dX6_init_68 ?_
  refine pf_X6_40 (ws' := [(h0, .inr (7, [.ref a1, .ref a2, .ref a3, .ref a4, .ref a5, .ref a6, .int (iI 0), .int (iI 0), .int (iI 0), .int (iI 0), .int (iI 0)])), (a1, .inl (τ 0, 6, .inl (ar (fun _ => 0)))), (a2, .inl (τ 0, 6, .inl (ar (fun _ => 0)))), (a3, .inl (τ 0, 8, .inl (ar (fun _ => 0)))), (a4, .inl (τ 0, 8, .inl (ar (fun _ => 0)))), (a5, .inl (τ 0, 8, .inl (ar (fun _ => 0)))), (a6, .inl (τ 0, 8, .inl (ar (fun _ => 0))))]) hx hb hC hw 0 rfl (Nat.le_of_ble_eq_true rfl) rfl dX6_init_69 (fun H locs hw => ?_)
  refine lv_aload_n hx hb dX6_init_72 rfl (lv_at hl 0 rfl) ?_
  refine r_iconst hx hb dX6_init_73 ?_
  refine pf_X6_43 (ws' := [(h0, .inr (7, [.ref a1, .ref a2, .ref a3, .ref a4, .ref a5, .ref a6, .int (iI 0), .int (iI 0), .int (iI 0), .int (iI 0), .int (iI 0)])), (a1, .inl (τ 0, 6, .inl (ar (fun _ => 0)))), (a2, .inl (τ 0, 6, .inl (ar (fun _ => 0)))), (a3, .inl (τ 0, 8, .inl (ar (fun _ => 0)))), (a4, .inl (τ 0, 8, .inl (ar (fun _ => 0)))), (a5, .inl (τ 0, 8, .inl (ar (fun _ => 0)))), (a6, .inl (τ 0, 8, .inl (ar (fun _ => 0))))]) hx hb hC hw 0 rfl (Nat.le_of_ble_eq_true rfl) rfl dX6_init_74 (fun H locs hw => ?_)
  exact r_vret hx hb hr hlk hw [(h0, .inr (7, [.ref a1, .ref a2, .ref a3, .ref a4, .ref a5, .ref a6, .int (iI 0), .int (iI 0), .int (iI 0), .int (iI 0), .int (iI 0)])), (a1, .inl (τ 0, 6, .inl (ar (fun _ => 0)))), (a2, .inl (τ 0, 6, .inl (ar (fun _ => 0)))), (a3, .inl (τ 0, 8, .inl (ar (fun _ => 0)))), (a4, .inl (τ 0, 8, .inl (ar (fun _ => 0)))), (a5, .inl (τ 0, 8, .inl (ar (fun _ => 0)))), (a6, .inl (τ 0, 8, .inl (ar (fun _ => 0))))] [0, 1, 2, 3, 4, 5, 6] rfl (by decide) ⟨a1, a2, a3, a4, a5, a6, trivial, rfl⟩ dX6_init_77
abbrev W_c_Law_init (τ : Nat → ClassId) (h2 : Nat) : va_W := [(h2, .inr (3, [.null, .null, .null, .null, .int (iI 0), .int (iI 0)]))]
abbrev E_c_Law_init (τ : Nat → ClassId) (h2 : Nat) : va_W → Prop := fun w => ∃ (ka2 : Nat), ∃ (va2 : Nat), ∃ (sa2 : Nat), ∃ (ga2 : Nat), (True) ∧ w = [(h2, .inr (3, [.ref ka2, .ref va2, .ref sa2, .ref ga2, .int (iI 0), .int (iI 0)])), (ka2, .inl (τ 0, 40, .inl (ar (fun _ => 0)))), (va2, .inl (τ 0, 40, .inl (ar (fun _ => 0)))), (sa2, .inl (τ 0, 40, .inl (ar (fun _ => 0)))), (ga2, .inl (τ 0, 7, .inl (ar (fun _ => 0))))]
set_option maxHeartbeats 4000000 in
set_option maxRecDepth 100000 in
theorem c_Law_init (l : Launch) (D : va_G) (τ : Nat → ClassId) (sz : Nat) (h2 : Nat)  : Met l yX2_init (lw_w yX2_init cX2_init 1 none) (rmk 1 4 127) (gPc D τ (W_c_Law_init τ h2) sz [.ref h2]) (gQv D (E_c_Law_init τ h2) (va_A (W_c_Law_init τ h2) sz)) 4 127 (va_A (W_c_Law_init τ h2) sz) := by
  refine g_met (ret := none) (Qc := gQv D (E_c_Law_init τ h2)) (by decide +kernel) (Nat.le_of_ble_eq_true rfl) ?_
  intro p e s m args below meth c A ls hx hb hml hr hlk hnm hC hA hw hl
  have hC : cx D τ s m args RX2 := hC
  have hl : lv_has ls 1 [(0, .ref h2)] := hl
  have hw : wS D A s.heap [(h2, .inr (3, [.null, .null, .null, .null, .int (iI 0), .int (iI 0)]))] s.heap [] := hw
  refine lv_aload_n hx hb dX2_init_0 rfl (lv_at hl 0 rfl) ?_
  refine r_objInit hx hb hml hC hl.1 ml_X2_3 im_init cd_init (by decide) (Nat.le_of_ble_eq_true rfl) (by decide) dX2_init_1 ?_
  refine lv_aload_n hx hb dX2_init_4 rfl (lv_at hl 0 rfl) ?_
  refine r_bipush hx hb dX2_init_5 (by decide +kernel) ?_
  refine r_newi (N := 40) hx hb hC hA hw ac_int (by decide) (by decide) (by decide) (by decide) rfl rfl dX2_init_7 (fun a1 H hw => ?_)
  have hw : wS D A s.heap [(h2, .inr (3, [.null, .null, .null, .null, .int (iI 0), .int (iI 0)])), (a1, .inl (τ 0, 40, .inl (ar (fun _ => 0))))] H _ := hw
  refine pf_X2_9 (ws' := [(h2, .inr (3, [.ref a1, .null, .null, .null, .int (iI 0), .int (iI 0)])), (a1, .inl (τ 0, 40, .inl (ar (fun _ => 0))))]) hx hb hC hw hnm 0 rfl (Nat.le_of_ble_eq_true rfl) rfl dX2_init_9 (fun H locs hw => ?_)
  refine lv_aload_n hx hb dX2_init_12 rfl (lv_at hl 0 rfl) ?_
  refine r_bipush hx hb dX2_init_13 (by decide +kernel) ?_
  refine r_newi (N := 40) hx hb hC hA hw ac_int (by decide) (by decide) (by decide) (by decide) rfl rfl dX2_init_15 (fun a2 H hw => ?_)
  have hw : wS D A s.heap [(h2, .inr (3, [.ref a1, .null, .null, .null, .int (iI 0), .int (iI 0)])), (a1, .inl (τ 0, 40, .inl (ar (fun _ => 0)))), (a2, .inl (τ 0, 40, .inl (ar (fun _ => 0))))] H _ := hw
  refine pf_X2_15 (ws' := [(h2, .inr (3, [.ref a1, .ref a2, .null, .null, .int (iI 0), .int (iI 0)])), (a1, .inl (τ 0, 40, .inl (ar (fun _ => 0)))), (a2, .inl (τ 0, 40, .inl (ar (fun _ => 0))))]) hx hb hC hw hnm 0 rfl (Nat.le_of_ble_eq_true rfl) rfl dX2_init_17 (fun H locs hw => ?_)
  refine lv_aload_n hx hb dX2_init_20 rfl (lv_at hl 0 rfl) ?_
  refine r_bipush hx hb dX2_init_21 (by decide +kernel) ?_
  refine r_newi (N := 40) hx hb hC hA hw ac_int (by decide) (by decide) (by decide) (by decide) rfl rfl dX2_init_23 (fun a3 H hw => ?_)
  have hw : wS D A s.heap [(h2, .inr (3, [.ref a1, .ref a2, .null, .null, .int (iI 0), .int (iI 0)])), (a1, .inl (τ 0, 40, .inl (ar (fun _ => 0)))), (a2, .inl (τ 0, 40, .inl (ar (fun _ => 0)))), (a3, .inl (τ 0, 40, .inl (ar (fun _ => 0))))] H _ := hw
  refine pf_X2_18 (ws' := [(h2, .inr (3, [.ref a1, .ref a2, .ref a3, .null, .int (iI 0), .int (iI 0)])), (a1, .inl (τ 0, 40, .inl (ar (fun _ => 0)))), (a2, .inl (τ 0, 40, .inl (ar (fun _ => 0)))), (a3, .inl (τ 0, 40, .inl (ar (fun _ => 0))))]) hx hb hC hw hnm 0 rfl (Nat.le_of_ble_eq_true rfl) rfl dX2_init_25 (fun H locs hw => ?_)
  refine lv_aload_n hx hb dX2_init_28 rfl (lv_at hl 0 rfl) ?_
  refine r_bipush hx hb dX2_init_29 (by decide +kernel) ?_
  refine r_newi (N := 7) hx hb hC hA hw ac_int (by decide) (by decide) (by decide) (by decide) rfl rfl dX2_init_31 (fun a4 H hw => ?_)
  have hw : wS D A s.heap [(h2, .inr (3, [.ref a1, .ref a2, .ref a3, .null, .int (iI 0), .int (iI 0)])), (a1, .inl (τ 0, 40, .inl (ar (fun _ => 0)))), (a2, .inl (τ 0, 40, .inl (ar (fun _ => 0)))), (a3, .inl (τ 0, 40, .inl (ar (fun _ => 0)))), (a4, .inl (τ 0, 7, .inl (ar (fun _ => 0))))] H _ := hw
  refine pf_X2_21 (ws' := [(h2, .inr (3, [.ref a1, .ref a2, .ref a3, .ref a4, .int (iI 0), .int (iI 0)])), (a1, .inl (τ 0, 40, .inl (ar (fun _ => 0)))), (a2, .inl (τ 0, 40, .inl (ar (fun _ => 0)))), (a3, .inl (τ 0, 40, .inl (ar (fun _ => 0)))), (a4, .inl (τ 0, 7, .inl (ar (fun _ => 0))))]) hx hb hC hw hnm 0 rfl (Nat.le_of_ble_eq_true rfl) rfl dX2_init_33 (fun H locs hw => ?_)
  refine lv_aload_n hx hb dX2_init_36 rfl (lv_at hl 0 rfl) ?_
  refine r_iconst hx hb dX2_init_37 ?_
  refine pf_X2_24 (ws' := [(h2, .inr (3, [.ref a1, .ref a2, .ref a3, .ref a4, .int (iI 0), .int (iI 0)])), (a1, .inl (τ 0, 40, .inl (ar (fun _ => 0)))), (a2, .inl (τ 0, 40, .inl (ar (fun _ => 0)))), (a3, .inl (τ 0, 40, .inl (ar (fun _ => 0)))), (a4, .inl (τ 0, 7, .inl (ar (fun _ => 0))))]) hx hb hC hw 0 rfl (Nat.le_of_ble_eq_true rfl) rfl dX2_init_38 (fun H locs hw => ?_)
  refine lv_aload_n hx hb dX2_init_41 rfl (lv_at hl 0 rfl) ?_
  refine r_iconst hx hb dX2_init_42 ?_
  refine pf_X2_28 (ws' := [(h2, .inr (3, [.ref a1, .ref a2, .ref a3, .ref a4, .int (iI 0), .int (iI 0)])), (a1, .inl (τ 0, 40, .inl (ar (fun _ => 0)))), (a2, .inl (τ 0, 40, .inl (ar (fun _ => 0)))), (a3, .inl (τ 0, 40, .inl (ar (fun _ => 0)))), (a4, .inl (τ 0, 7, .inl (ar (fun _ => 0))))]) hx hb hC hw 0 rfl (Nat.le_of_ble_eq_true rfl) rfl dX2_init_43 (fun H locs hw => ?_)
  exact r_vret hx hb hr hlk hw [(h2, .inr (3, [.ref a1, .ref a2, .ref a3, .ref a4, .int (iI 0), .int (iI 0)])), (a1, .inl (τ 0, 40, .inl (ar (fun _ => 0)))), (a2, .inl (τ 0, 40, .inl (ar (fun _ => 0)))), (a3, .inl (τ 0, 40, .inl (ar (fun _ => 0)))), (a4, .inl (τ 0, 7, .inl (ar (fun _ => 0))))] [0, 1, 2, 3, 4] rfl (by decide) ⟨a1, a2, a3, a4, trivial, rfl⟩ dX2_init_46
abbrev W_c_Hear_init (τ : Nat → ClassId) (h3 : Nat) : va_W := [(h3, .inr (1, [.null, .null, .int (iI 0)]))]
abbrev E_c_Hear_init (τ : Nat → ClassId) (h3 : Nat) : va_W → Prop := fun w => ∃ (ha3 : Nat), ∃ (hb3 : Nat), (True) ∧ w = [(h3, .inr (1, [.ref ha3, .ref hb3, .int (iI 0)])), (ha3, .inl (τ 0, 8, .inl (ar (fun _ => 0)))), (hb3, .inl (τ 0, 8, .inl (ar (fun _ => 0))))]
set_option maxHeartbeats 4000000 in
set_option maxRecDepth 100000 in
theorem c_Hear_init (l : Launch) (D : va_G) (τ : Nat → ClassId) (sz : Nat) (h3 : Nat)  : Met l yX0_init (lw_w yX0_init cX0_init 1 none) (rmk 1 2 16) (gPc D τ (W_c_Hear_init τ h3) sz [.ref h3]) (gQv D (E_c_Hear_init τ h3) (va_A (W_c_Hear_init τ h3) sz)) 2 16 (va_A (W_c_Hear_init τ h3) sz) := by
  refine g_met (ret := none) (Qc := gQv D (E_c_Hear_init τ h3)) (by decide +kernel) (Nat.le_of_ble_eq_true rfl) ?_
  intro p e s m args below meth c A ls hx hb hml hr hlk hnm hC hA hw hl
  have hC : cx D τ s m args RX0 := hC
  have hl : lv_has ls 1 [(0, .ref h3)] := hl
  have hw : wS D A s.heap [(h3, .inr (1, [.null, .null, .int (iI 0)]))] s.heap [] := hw
  refine lv_aload_n hx hb dX0_init_0 rfl (lv_at hl 0 rfl) ?_
  refine r_objInit hx hb hml hC hl.1 ml_X0_3 im_init cd_init (by decide) (Nat.le_of_ble_eq_true rfl) (by decide) dX0_init_1 ?_
  refine lv_aload_n hx hb dX0_init_4 rfl (lv_at hl 0 rfl) ?_
  refine r_bipush hx hb dX0_init_5 (by decide +kernel) ?_
  refine r_newi (N := 8) hx hb hC hA hw ac_int (by decide) (by decide) (by decide) (by decide) rfl rfl dX0_init_7 (fun a1 H hw => ?_)
  have hw : wS D A s.heap [(h3, .inr (1, [.null, .null, .int (iI 0)])), (a1, .inl (τ 0, 8, .inl (ar (fun _ => 0))))] H _ := hw
  refine pf_X0_9 (ws' := [(h3, .inr (1, [.ref a1, .null, .int (iI 0)])), (a1, .inl (τ 0, 8, .inl (ar (fun _ => 0))))]) hx hb hC hw hnm 0 rfl (Nat.le_of_ble_eq_true rfl) rfl dX0_init_9 (fun H locs hw => ?_)
  refine lv_aload_n hx hb dX0_init_12 rfl (lv_at hl 0 rfl) ?_
  refine r_bipush hx hb dX0_init_13 (by decide +kernel) ?_
  refine r_newi (N := 8) hx hb hC hA hw ac_int (by decide) (by decide) (by decide) (by decide) rfl rfl dX0_init_15 (fun a2 H hw => ?_)
  have hw : wS D A s.heap [(h3, .inr (1, [.ref a1, .null, .int (iI 0)])), (a1, .inl (τ 0, 8, .inl (ar (fun _ => 0)))), (a2, .inl (τ 0, 8, .inl (ar (fun _ => 0))))] H _ := hw
  refine pf_X0_15 (ws' := [(h3, .inr (1, [.ref a1, .ref a2, .int (iI 0)])), (a1, .inl (τ 0, 8, .inl (ar (fun _ => 0)))), (a2, .inl (τ 0, 8, .inl (ar (fun _ => 0))))]) hx hb hC hw hnm 0 rfl (Nat.le_of_ble_eq_true rfl) rfl dX0_init_17 (fun H locs hw => ?_)
  refine lv_aload_n hx hb dX0_init_20 rfl (lv_at hl 0 rfl) ?_
  refine r_iconst hx hb dX0_init_21 ?_
  refine pf_X0_18 (ws' := [(h3, .inr (1, [.ref a1, .ref a2, .int (iI 0)])), (a1, .inl (τ 0, 8, .inl (ar (fun _ => 0)))), (a2, .inl (τ 0, 8, .inl (ar (fun _ => 0))))]) hx hb hC hw 0 rfl (Nat.le_of_ble_eq_true rfl) rfl dX0_init_22 (fun H locs hw => ?_)
  exact r_vret hx hb hr hlk hw [(h3, .inr (1, [.ref a1, .ref a2, .int (iI 0)])), (a1, .inl (τ 0, 8, .inl (ar (fun _ => 0)))), (a2, .inl (τ 0, 8, .inl (ar (fun _ => 0))))] [0, 1, 2] rfl (by decide) ⟨a1, a2, trivial, rfl⟩ dX0_init_25
abbrev W_c_Ord_init (τ : Nat → ClassId) (h4 : Nat) : va_W := [(h4, .inr (4, [.null, .null, .int (iI 0)]))]
abbrev E_c_Ord_init (τ : Nat → ClassId) (h4 : Nat) : va_W → Prop := fun w => ∃ (oc4 : Nat), ∃ (ob4 : Nat), (True) ∧ w = [(h4, .inr (4, [.ref oc4, .ref ob4, .int (iI 0)])), (oc4, .inl (τ 0, 6, .inl (ar (fun _ => 0)))), (ob4, .inl (τ 0, 6, .inl (ar (fun _ => 0))))]
set_option maxHeartbeats 4000000 in
set_option maxRecDepth 100000 in
theorem c_Ord_init (l : Launch) (D : va_G) (τ : Nat → ClassId) (sz : Nat) (h4 : Nat)  : Met l yX3_init (lw_w yX3_init cX3_init 1 none) (rmk 1 2 12) (gPc D τ (W_c_Ord_init τ h4) sz [.ref h4]) (gQv D (E_c_Ord_init τ h4) (va_A (W_c_Ord_init τ h4) sz)) 2 12 (va_A (W_c_Ord_init τ h4) sz) := by
  refine g_met (ret := none) (Qc := gQv D (E_c_Ord_init τ h4)) (by decide +kernel) (Nat.le_of_ble_eq_true rfl) ?_
  intro p e s m args below meth c A ls hx hb hml hr hlk hnm hC hA hw hl
  have hC : cx D τ s m args RX3 := hC
  have hl : lv_has ls 1 [(0, .ref h4)] := hl
  have hw : wS D A s.heap [(h4, .inr (4, [.null, .null, .int (iI 0)]))] s.heap [] := hw
  refine lv_aload_n hx hb dX3_init_0 rfl (lv_at hl 0 rfl) ?_
  refine r_objInit hx hb hml hC hl.1 ml_X3_3 im_init cd_init (by decide) (Nat.le_of_ble_eq_true rfl) (by decide) dX3_init_1 ?_
  refine lv_aload_n hx hb dX3_init_4 rfl (lv_at hl 0 rfl) ?_
  refine r_bipush hx hb dX3_init_5 (by decide +kernel) ?_
  refine r_newi (N := 6) hx hb hC hA hw ac_int (by decide) (by decide) (by decide) (by decide) rfl rfl dX3_init_7 (fun a1 H hw => ?_)
  have hw : wS D A s.heap [(h4, .inr (4, [.null, .null, .int (iI 0)])), (a1, .inl (τ 0, 6, .inl (ar (fun _ => 0))))] H _ := hw
  refine pf_X3_9 (ws' := [(h4, .inr (4, [.ref a1, .null, .int (iI 0)])), (a1, .inl (τ 0, 6, .inl (ar (fun _ => 0))))]) hx hb hC hw hnm 0 rfl (Nat.le_of_ble_eq_true rfl) rfl dX3_init_9 (fun H locs hw => ?_)
  refine lv_aload_n hx hb dX3_init_12 rfl (lv_at hl 0 rfl) ?_
  refine r_bipush hx hb dX3_init_13 (by decide +kernel) ?_
  refine r_newi (N := 6) hx hb hC hA hw ac_int (by decide) (by decide) (by decide) (by decide) rfl rfl dX3_init_15 (fun a2 H hw => ?_)
  have hw : wS D A s.heap [(h4, .inr (4, [.ref a1, .null, .int (iI 0)])), (a1, .inl (τ 0, 6, .inl (ar (fun _ => 0)))), (a2, .inl (τ 0, 6, .inl (ar (fun _ => 0))))] H _ := hw
  refine pf_X3_15 (ws' := [(h4, .inr (4, [.ref a1, .ref a2, .int (iI 0)])), (a1, .inl (τ 0, 6, .inl (ar (fun _ => 0)))), (a2, .inl (τ 0, 6, .inl (ar (fun _ => 0))))]) hx hb hC hw hnm 0 rfl (Nat.le_of_ble_eq_true rfl) rfl dX3_init_17 (fun H locs hw => ?_)
  refine lv_aload_n hx hb dX3_init_20 rfl (lv_at hl 0 rfl) ?_
  refine r_iconst hx hb dX3_init_21 ?_
  refine pf_X3_18 (ws' := [(h4, .inr (4, [.ref a1, .ref a2, .int (iI 0)])), (a1, .inl (τ 0, 6, .inl (ar (fun _ => 0)))), (a2, .inl (τ 0, 6, .inl (ar (fun _ => 0))))]) hx hb hC hw 0 rfl (Nat.le_of_ble_eq_true rfl) rfl dX3_init_22 (fun H locs hw => ?_)
  exact r_vret hx hb hr hlk hw [(h4, .inr (4, [.ref a1, .ref a2, .int (iI 0)])), (a1, .inl (τ 0, 6, .inl (ar (fun _ => 0)))), (a2, .inl (τ 0, 6, .inl (ar (fun _ => 0))))] [0, 1, 2] rfl (by decide) ⟨a1, a2, trivial, rfl⟩ dX3_init_25
abbrev W_c_Read_init (τ : Nat → ClassId) (h5 : Nat) : va_W := [(h5, .inr (6, [.null, .int (iI 0), .int (iI 0), .int (iI 0)]))]
abbrev E_c_Read_init (τ : Nat → ClassId) (h5 : Nat) : va_W → Prop := fun w => ∃ (rw5 : Nat), (True) ∧ w = [(h5, .inr (6, [.ref rw5, .int (iI 0), .int (iI 0), .int (iI 1)])), (rw5, .inl (τ 0, 40, .inl (ar (fun _ => 0))))]
set_option maxHeartbeats 4000000 in
set_option maxRecDepth 100000 in
theorem c_Read_init (l : Launch) (D : va_G) (τ : Nat → ClassId) (sz : Nat) (h5 : Nat)  : Met l yX5_init (lw_w yX5_init cX5_init 1 none) (rmk 1 1 40) (gPc D τ (W_c_Read_init τ h5) sz [.ref h5]) (gQv D (E_c_Read_init τ h5) (va_A (W_c_Read_init τ h5) sz)) 1 40 (va_A (W_c_Read_init τ h5) sz) := by
  refine g_met (ret := none) (Qc := gQv D (E_c_Read_init τ h5)) (by decide +kernel) (Nat.le_of_ble_eq_true rfl) ?_
  intro p e s m args below meth c A ls hx hb hml hr hlk hnm hC hA hw hl
  have hC : cx D τ s m args RX5 := hC
  have hl : lv_has ls 1 [(0, .ref h5)] := hl
  have hw : wS D A s.heap [(h5, .inr (6, [.null, .int (iI 0), .int (iI 0), .int (iI 0)]))] s.heap [] := hw
  refine lv_aload_n hx hb dX5_init_0 rfl (lv_at hl 0 rfl) ?_
  refine r_objInit hx hb hml hC hl.1 ml_X5_3 im_init cd_init (by decide) (Nat.le_of_ble_eq_true rfl) (by decide) dX5_init_1 ?_
  refine lv_aload_n hx hb dX5_init_4 rfl (lv_at hl 0 rfl) ?_
  refine r_bipush hx hb dX5_init_5 (by decide +kernel) ?_
  refine r_newi (N := 40) hx hb hC hA hw ac_int (by decide) (by decide) (by decide) (by decide) rfl rfl dX5_init_7 (fun a1 H hw => ?_)
  have hw : wS D A s.heap [(h5, .inr (6, [.null, .int (iI 0), .int (iI 0), .int (iI 0)])), (a1, .inl (τ 0, 40, .inl (ar (fun _ => 0))))] H _ := hw
  refine pf_X5_9 (ws' := [(h5, .inr (6, [.ref a1, .int (iI 0), .int (iI 0), .int (iI 0)])), (a1, .inl (τ 0, 40, .inl (ar (fun _ => 0))))]) hx hb hC hw hnm 0 rfl (Nat.le_of_ble_eq_true rfl) rfl dX5_init_9 (fun H locs hw => ?_)
  refine lv_aload_n hx hb dX5_init_12 rfl (lv_at hl 0 rfl) ?_
  refine r_iconst hx hb dX5_init_13 ?_
  refine pf_X5_15 (ws' := [(h5, .inr (6, [.ref a1, .int (iI 0), .int (iI 0), .int (iI 0)])), (a1, .inl (τ 0, 40, .inl (ar (fun _ => 0))))]) hx hb hC hw 0 rfl (Nat.le_of_ble_eq_true rfl) rfl dX5_init_14 (fun H locs hw => ?_)
  refine lv_aload_n hx hb dX5_init_17 rfl (lv_at hl 0 rfl) ?_
  refine r_iconst hx hb dX5_init_18 ?_
  refine pf_X5_19 (ws' := [(h5, .inr (6, [.ref a1, .int (iI 0), .int (iI 0), .int (iI 0)])), (a1, .inl (τ 0, 40, .inl (ar (fun _ => 0))))]) hx hb hC hw 0 rfl (Nat.le_of_ble_eq_true rfl) rfl dX5_init_19 (fun H locs hw => ?_)
  refine lv_aload_n hx hb dX5_init_22 rfl (lv_at hl 0 rfl) ?_
  refine r_iconst hx hb dX5_init_23 ?_
  refine pf_X5_22 (ws' := [(h5, .inr (6, [.ref a1, .int (iI 0), .int (iI 0), .int (iI 1)])), (a1, .inl (τ 0, 40, .inl (ar (fun _ => 0))))]) hx hb hC hw 0 (by decide) rfl (Nat.le_of_ble_eq_true rfl) rfl dX5_init_24 (fun H locs hw => ?_)
  exact r_vret hx hb hr hlk hw [(h5, .inr (6, [.ref a1, .int (iI 0), .int (iI 0), .int (iI 1)])), (a1, .inl (τ 0, 40, .inl (ar (fun _ => 0))))] [0, 1] rfl (by decide) ⟨a1, trivial, rfl⟩ dX5_init_27
abbrev W_c_Walk_init (τ : Nat → ClassId) (h6 : Nat) (h8 : Nat) : va_W := [(h6, .inr (11, [.null, .null, .null, .int (iI 0), .int (iI 0), .int (iI 0)]))]
abbrev E_c_Walk_init (τ : Nat → ClassId) (h6 : Nat) (h8 : Nat) : va_W → Prop := fun w => ∃ (ww6 : Nat), ∃ (wt6 : Nat), (True) ∧ w = [(h6, .inr (11, [.ref h8, .ref ww6, .ref wt6, .int (iI 0), .int (iI 0), .int (iI 0)])), (ww6, .inl (τ 0, 30, .inl (ar (fun _ => 0)))), (wt6, .inl (τ 0, 8, .inl (ar (fun _ => 0))))]
set_option maxHeartbeats 4000000 in
set_option maxRecDepth 100000 in
theorem c_Walk_init (l : Launch) (D : va_G) (τ : Nat → ClassId) (sz : Nat) (h6 : Nat) (h8 : Nat)  : Met l yX10_init (lw_w yX10_init cX10_init 2 none) (rmk 1 2 38) (gPc D τ (W_c_Walk_init τ h6 h8) sz [.ref h6, .ref h8]) (gQv D (E_c_Walk_init τ h6 h8) (va_A (W_c_Walk_init τ h6 h8) sz)) 2 38 (va_A (W_c_Walk_init τ h6 h8) sz) := by
  refine g_met (ret := none) (Qc := gQv D (E_c_Walk_init τ h6 h8)) (by decide +kernel) (Nat.le_of_ble_eq_true rfl) ?_
  intro p e s m args below meth c A ls hx hb hml hr hlk hnm hC hA hw hl
  have hC : cx D τ s m args RX10 := hC
  have hl : lv_has ls 2 [(0, .ref h6), (1, .ref h8)] := hl
  have hw : wS D A s.heap [(h6, .inr (11, [.null, .null, .null, .int (iI 0), .int (iI 0), .int (iI 0)]))] s.heap [] := hw
  refine lv_aload_n hx hb dX10_init_0 rfl (lv_at hl 0 rfl) ?_
  refine r_objInit hx hb hml hC hl.1 ml_X10_3 im_init cd_init (by decide) (Nat.le_of_ble_eq_true rfl) (by decide) dX10_init_1 ?_
  refine lv_aload_n hx hb dX10_init_4 rfl (lv_at hl 0 rfl) ?_
  refine r_bipush hx hb dX10_init_5 (by decide +kernel) ?_
  refine r_newi (N := 30) hx hb hC hA hw ac_int (by decide) (by decide) (by decide) (by decide) rfl rfl dX10_init_7 (fun a1 H hw => ?_)
  have hw : wS D A s.heap [(h6, .inr (11, [.null, .null, .null, .int (iI 0), .int (iI 0), .int (iI 0)])), (a1, .inl (τ 0, 30, .inl (ar (fun _ => 0))))] H _ := hw
  refine pf_X10_9 (ws' := [(h6, .inr (11, [.null, .ref a1, .null, .int (iI 0), .int (iI 0), .int (iI 0)])), (a1, .inl (τ 0, 30, .inl (ar (fun _ => 0))))]) hx hb hC hw hnm 0 rfl (Nat.le_of_ble_eq_true rfl) rfl dX10_init_9 (fun H locs hw => ?_)
  refine lv_aload_n hx hb dX10_init_12 rfl (lv_at hl 0 rfl) ?_
  refine r_bipush hx hb dX10_init_13 (by decide +kernel) ?_
  refine r_newi (N := 8) hx hb hC hA hw ac_int (by decide) (by decide) (by decide) (by decide) rfl rfl dX10_init_15 (fun a2 H hw => ?_)
  have hw : wS D A s.heap [(h6, .inr (11, [.null, .ref a1, .null, .int (iI 0), .int (iI 0), .int (iI 0)])), (a1, .inl (τ 0, 30, .inl (ar (fun _ => 0)))), (a2, .inl (τ 0, 8, .inl (ar (fun _ => 0))))] H _ := hw
  refine pf_X10_15 (ws' := [(h6, .inr (11, [.null, .ref a1, .ref a2, .int (iI 0), .int (iI 0), .int (iI 0)])), (a1, .inl (τ 0, 30, .inl (ar (fun _ => 0)))), (a2, .inl (τ 0, 8, .inl (ar (fun _ => 0))))]) hx hb hC hw hnm 0 rfl (Nat.le_of_ble_eq_true rfl) rfl dX10_init_17 (fun H locs hw => ?_)
  refine lv_aload_n hx hb dX10_init_20 rfl (lv_at hl 0 rfl) ?_
  refine r_iconst hx hb dX10_init_21 ?_
  refine pf_X10_18 (ws' := [(h6, .inr (11, [.null, .ref a1, .ref a2, .int (iI 0), .int (iI 0), .int (iI 0)])), (a1, .inl (τ 0, 30, .inl (ar (fun _ => 0)))), (a2, .inl (τ 0, 8, .inl (ar (fun _ => 0))))]) hx hb hC hw 0 rfl (Nat.le_of_ble_eq_true rfl) rfl dX10_init_22 (fun H locs hw => ?_)
  refine lv_aload_n hx hb dX10_init_25 rfl (lv_at hl 0 rfl) ?_
  refine r_iconst hx hb dX10_init_26 ?_
  refine pf_X10_22 (ws' := [(h6, .inr (11, [.null, .ref a1, .ref a2, .int (iI 0), .int (iI 0), .int (iI 0)])), (a1, .inl (τ 0, 30, .inl (ar (fun _ => 0)))), (a2, .inl (τ 0, 8, .inl (ar (fun _ => 0))))]) hx hb hC hw 0 rfl (Nat.le_of_ble_eq_true rfl) rfl dX10_init_27 (fun H locs hw => ?_)
  refine lv_aload_n hx hb dX10_init_30 rfl (lv_at hl 0 rfl) ?_
  refine r_iconst hx hb dX10_init_31 ?_
  refine pf_X10_25 (ws' := [(h6, .inr (11, [.null, .ref a1, .ref a2, .int (iI 0), .int (iI 0), .int (iI 0)])), (a1, .inl (τ 0, 30, .inl (ar (fun _ => 0)))), (a2, .inl (τ 0, 8, .inl (ar (fun _ => 0))))]) hx hb hC hw 0 (by decide) rfl (Nat.le_of_ble_eq_true rfl) rfl dX10_init_32 (fun H locs hw => ?_)
  refine lv_aload_n hx hb dX10_init_35 rfl (lv_at hl 0 rfl) ?_
  refine lv_aload_n hx hb dX10_init_36 rfl (lv_at hl 1 rfl) ?_
  refine pf_X10_29 (ws' := [(h6, .inr (11, [.ref h8, .ref a1, .ref a2, .int (iI 0), .int (iI 0), .int (iI 0)])), (a1, .inl (τ 0, 30, .inl (ar (fun _ => 0)))), (a2, .inl (τ 0, 8, .inl (ar (fun _ => 0))))]) hx hb hC hw hnm 0 rfl (Nat.le_of_ble_eq_true rfl) rfl dX10_init_37 (fun H locs hw => ?_)
  exact r_vret hx hb hr hlk hw [(h6, .inr (11, [.ref h8, .ref a1, .ref a2, .int (iI 0), .int (iI 0), .int (iI 0)])), (a1, .inl (τ 0, 30, .inl (ar (fun _ => 0)))), (a2, .inl (τ 0, 8, .inl (ar (fun _ => 0))))] [0, 1, 2] rfl (by decide) ⟨a1, a2, trivial, rfl⟩ dX10_init_40
end
