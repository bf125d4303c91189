/-! the throw of a NoSuchElementException with a text: its own constructor calls its superclass's by place 13 of its pool (the kit's row of a throw asks for place 7). The walk follows the library's of such a throw, with that one link another. -/
abbrev xN : String := "java/util/NoSuchElementException"
def xTail : List Cond := (Bundle.ownAtoms RX11 227 xN ["java/lang/RuntimeException", "java/lang/Exception"]).filter (fun w => !decide (w ∈ Bundle.chainSAtoms xN ["java/lang/RuntimeException", "java/lang/Exception"]))
def xA : List Cond := ((((Bundle.throwableAtoms ++ Bundle.throwableSAtoms) ++ Bundle.passSAtoms xN "java/lang/RuntimeException" 13 prog_32_method_4_code) ++ Bundle.chainSAtoms "java/lang/RuntimeException" ["java/lang/Exception"]) ++ xTail)
theorem xfit : xN ≠ "java/lang/invoke/MethodHandle" ∧ xN ≠ "java/lang/invoke/VarHandle" := by decide +kernel
theorem x_tl {w : Cond} (i : Nat) (h : (Bundle.ownAtoms RX11 227 xN ["java/lang/RuntimeException", "java/lang/Exception"])[i]? = some w) (hn : decide (w ∈ Bundle.chainSAtoms xN ["java/lang/RuntimeException", "java/lang/Exception"]) = false) : w ∈ xA := by
  unfold xA
  refine List.mem_append_right _ ?_
  unfold xTail
  refine List.mem_filter.mpr ⟨List.mem_of_getElem? h, ?_⟩
  show (!decide (w ∈ Bundle.chainSAtoms xN ["java/lang/RuntimeException", "java/lang/Exception"])) = true
  rw [hn]
  rfl
section XC
variable {p : Program} {l : Launch} {e : Env} {R : Room} {s : State} {m₀ : MethodId} {args : Array Value} {below : List Frame} {meth : Method} {c : Code} {W : State} {locs : List Loc} {cells slots : Nat}
set_option maxHeartbeats 4000000 in
set_option maxRecDepth 100000 in
theorem x_ctor (X : Stand p l e R s m₀ args below meth c W locs cells slots) (hexec : p.tables.exec = Jvm.exec) (htr : e.platform.stackTraces = false)
    (hown : s.vm.findClass RX11 = some m₀.cls) (h : ∀ a ∈ xA, a.before args s = true)
    (hlocs : ∀ x ∈ locs, ∀ cell, s.heap[x.base]? = some cell → cell.vm.isStatics = false)
    {a : Addr} {cX : ClassId} {kX : Class} (hfoundX : s.vm.findClass xN = some cX) (hkX : s.vm.classes[cX]? = some kX) (hcell : W.heap[a]? = some (freshCell cX kX)) (hnew : s.heap.size ≤ a)
    {msg : Value} (hmsg : msg.isRef = true)
    {g : JFrame} (hg : g.method = m₀) (hsize : g.locals.size = c.maxLocals) (hlocked : g.locked = none) (hentered : g.entered = []) {rest : List Value} (hstack : g.stack = msg :: .ref a :: .ref a :: rest)
    (hd6 : decode c.code g.pc = .ok (.invokespecial 227, 3)) (hd9 : decode c.code (g.pc + 3) = .ok (.athrow, 1)) (hout : ∀ x ∈ c.exceptionTable.toList, covers x (g.pc + 3) = false)
    (hRframes : 2 + 3 < R.frames) (hRlocals : 2 * g.monitorRoom + ((Value.ref a :: rest).map fun v => v.category).sum + (13 * (2 + 1) + 42) ≤ R.locals) (hlocks : meth.locks = false) :
    ∃ U : State, Steps p.tables e below (W.setTop g) U ∧ U.status = .running ∧ Ended U below (.threw a) ∧ s.WarmedH U.vm ∧ s.sameButNew ({ U with vm := s.vm } : State) locs cells slots ∧
      ∃ ce : Cell, U.heap[a]? = some ce ∧ ce.vm = .none ∧ s.vm.findClass xN = some ce.cls := by
  have howns : e.platform.frameOwnsMonitors = true := by rw [X.admits.platform]
  have hfin : e.platform.finalization = false := by rw [X.admits.platform]
  have hpl : e.platform.magicAccessors = ({} : Platform).magicAccessors := by rw [X.admits.platform]
  have a' : ∀ x, x ∈ xA → x.holds args s none s [] = true := fun x hx => h x hx
  obtain ⟨T, Z0, L, -, Y⟩ := ThrowableC.of_atoms (args := args) howns hfin hpl (fun x hx => h x (List.mem_append_left _ (List.mem_append_left _ (List.mem_append_left _ (List.mem_append_left _ hx)))))
  obtain ⟨Z, M, LZ, LM, hnZ⟩ := Init0T.ofS_atoms (args := args) hpl L Y (fun x hx => h x (List.mem_append_left _ (List.mem_append_left _ (List.mem_append_left _ (List.mem_append_right _ hx)))))
  obtain ⟨P2, Ps2, hlen2, L2, hL2, hP2m, hlink2, hlinks2⟩ := Bundle.chainS (args := args) hpl hnZ ["java/lang/Exception"] "java/lang/RuntimeException" (by decide +kernel) (by decide +kernel) (fun x hx => h x (List.mem_append_left _ (List.mem_append_right _ hx)))
  obtain ⟨P1, L1, hP1m, hs1⟩ := PassC.ofS_atoms (args := args) (s := s) hpl (X := xN) (Y := "java/lang/RuntimeException") (index := 13) (bytes := prog_32_method_4_code) (by decide +kernel) (by decide +kernel) (by decide +kernel) (by decide +kernel) (by decide +kernel) (by decide +kernel) (fun x hx => h x (List.mem_append_left _ (List.mem_append_left _ (List.mem_append_right _ hx))))
  have hlink1 : P1.sup = firstOf (Z.m T.toThrowableT) ((P2 :: Ps2).map (·.toPassT)) := Option.some.inj (hs1.symm.trans hP2m)
  have hlink : PassesOn (Z.m T.toThrowableT) ((P2 :: Ps2).map (·.toPassT)) := ⟨hlink2, hlinks2⟩
  have hlen : (P2 :: Ps2).length = 2 := by simp [hlen2]
  have hL : ∀ P, P ∈ P2 :: Ps2 → P.LinksS e.platform s := fun P hP => by
    rcases List.mem_cons.mp hP with rfl | hP
    · exact L2
    · exact hL2 P hP
  have hfound : s.vm.findClass xN = some P1.m.cls := findClass_of_methodNamed hP1m
  cases Option.some.inj (hfoundX.symm.trans hfound)
  obtain ⟨c1, kX', hc1, hk, hord, -, -, hn6⟩ := Cond.instantiable_spec (a' (.instantiable xN 6) (x_tl 44 rfl (by decide +kernel)))
  cases Option.some.inj (hc1.symm.trans hfound)
  cases Option.some.inj (hkX.symm.trans hk)
  have hsel0 : selectMethod e.platform s.vm P1.m.cls T.fill0 = .method T.fill0 := by
    obtain ⟨c2, r2, m2, q1, q2, q3, q4, -⟩ := Cond.selects_spec (a' (.selects xN Bundle.tFill0 Bundle.tFill0) (x_tl 46 rfl (by decide +kernel)))
    cases Option.some.inj (q1.symm.trans hfound)
    cases Option.some.inj (q2.symm.trans (State.methodFound?_of_named Y.fill0 (by decide)))
    cases Option.some.inj (q3.symm.trans Y.fill0)
    rw [Launch.admits_selectMethod X.admits]; exact q4
  have hselF : selectMethod e.platform s.vm P1.m.cls T.fill = .method T.fill := by
    obtain ⟨c2, r2, m2, q1, q2, q3, q4, -⟩ := Cond.selects_spec (a' (.selects xN Bundle.tFill Bundle.tFill) (x_tl 47 rfl (by decide +kernel)))
    cases Option.some.inj (q1.symm.trans hfound)
    cases Option.some.inj (q2.symm.trans (State.methodFound?_of_named Y.fill (by decide)))
    cases Option.some.inj (q3.symm.trans Y.fill)
    rw [Launch.admits_selectMethod X.admits]; exact q4
  obtain ⟨cellS0, hcS0, hiss⟩ := Y.statics
  obtain ⟨u0, hu0⟩ := Cond.staticRefV Y.unassigned L.unassignedStatic L.statics hcS0 hiss (a' (.isRef (.static Bundle.tN "UNASSIGNED_STACK" Bundle.steD)) (x_tl 52 rfl (by decide +kernel)))
  obtain ⟨sen, hsen⟩ := Cond.staticRefV Y.sentinel L.sentinelStatic L.statics hcS0 hiss (a' (.isRef (.static Bundle.tN "SUPPRESSED_SENTINEL" Bundle.listD)) (x_tl 53 rfl (by decide +kernel)))
  obtain ⟨ci198, i198, fB, hk198, hg198, ha198, hsB, -, hnB, htB, hffB⟩ := Cond.ownField (t := .object "java/lang/Object") Y.found L.cls (by decide +kernel) (a' (.fieldLink Bundle.tN 198 Bundle.tN "backtrace" "Ljava/lang/Object;") (x_tl 54 rfl (by decide +kernel))) (a' (.lays Bundle.tN Bundle.tN "backtrace" "Ljava/lang/Object;") (x_tl 55 rfl (by decide +kernel))) e.platform hpl
  obtain ⟨cellS, hcS', heS, -, hkeep⟩ := X.same.2.2.2.2.2 T.aS cellS0 hcS0
  have hcellS : W.heap[T.aS]? = some cellS := hcS'
  have hout' : ∀ i, (⟨T.aS, i⟩ : Loc) ∉ locs := fun i hmem => by
    have := hlocs _ hmem cellS0 hcS0
    rw [hiss] at this; cases this
  have hknownS : cellS.vm ≠ .unknown := by
    rw [heS]; intro hu
    rw [show cellS0.vm = .unknown from hu] at hiss
    cases hiss
  have hneS : T.aS ≠ a := Nat.ne_of_lt (Nat.lt_of_lt_of_le (Array.getElem?_eq_some_iff.mp hcS0).1 hnew)
  obtain ⟨iM, hffM⟩ := Y.msg
  obtain ⟨tyC, dC, hdC, hdnC⟩ := Cond.laysAt hfound hk Y.cause (a' (.lays xN Bundle.tN "cause" "Ljava/lang/Throwable;") (x_tl 48 rfl (by decide +kernel)))
  obtain ⟨tyS, dS, hdS, hdnS⟩ := Cond.laysAt hfound hk Y.stack (a' (.lays xN Bundle.tN "stackTrace" Bundle.steD) (x_tl 49 rfl (by decide +kernel)))
  obtain ⟨tyP, dP, hdP, hdnP⟩ := Cond.laysAt hfound hk Y.supp (a' (.lays xN Bundle.tN "suppressedExceptions" Bundle.listD) (x_tl 50 rfl (by decide +kernel)))
  obtain ⟨tyM, dM, hdM, hdnM⟩ := Cond.laysAt hfound hk hffM (a' (.lays xN Bundle.tN "detailMessage" "Ljava/lang/String;") (x_tl 51 rfl (by decide +kernel)))
  obtain ⟨tyB, dB, hdB, hdnB⟩ := Cond.laysAt hfound hk hffB (a' (.lays xN Bundle.tN "backtrace" "Ljava/lang/Object;") (x_tl 56 rfl (by decide +kernel)))
  have bC := Cond.laysApart hdB hdC hdnB hdnC (by rw [hnB, Y.causeName]; decide)
  have bS := Cond.laysApart hdB hdS hdnB hdnS (by rw [hnB, Y.stackName]; decide)
  have bP := Cond.laysApart hdB hdP hdnB hdnP (by rw [hnB, Y.suppName]; decide)
  have hskip : SkipFacts T e.platform s (fun u => u) u0 ((preparedCellV T.toThrowableT (freshCell P1.m.cls kX) a u0 sen).withEntry W.cur) :=
    ⟨{ ci198 := ci198, i198 := i198, fBack := fB }, ⟨hk198, hg198, ha198, hsB⟩, by
      have := fresh_default (c := P1.m.cls) tyB
      rw [htB] at this
      simpa [preparedCellV, Cell.setSlot, Cell.withEntry, Array.getElem?_setIfInBounds, bC, bS, bP, bC.symm, bS.symm, bP.symm, defaultValue] using this, fun _ _ => rfl⟩
                                     
  obtain ⟨tm, methC, cdC, kC, vm₁, hnC, -, -, -, -, -, -, -, hW₁, st1⟩ := Steps.initColdS (tb := p.tables) (e := e) (below := below) (s := s) (U := W) X.here hexec X.warmed hpl hown (t := Bundle.initS xN) rfl rfl xfit
    (a' (.methodLink RX11 227 (Bundle.initS xN)) (x_tl 43 rfl (by decide +kernel))) (h (.instanceMethod (Bundle.initS xN)) (List.mem_append_left _ (List.mem_append_left _ (List.mem_append_right _ (List.mem_of_getElem? (i := 0) rfl))))) (bytes := prog_32_method_4_code) (maxL := 2) (h (.code (Bundle.initS xN) prog_32_method_4_code 2 none) (List.mem_append_left _ (List.mem_append_left _ (List.mem_append_right _ (List.mem_of_getElem? (i := 1) rfl)))))
    (f := g) hg (a := a) (msg := msg) (rest := .ref a :: rest) hstack hd6
  cases Option.some.inj (hnC.symm.trans hP1m)
  have X₁ := X.noted hW₁
                                 
  obtain ⟨vm₂, X₂, st2⟩ := X₁.ctorMessageOffV hexec (g := { g with stack := .ref a :: rest }) hg hsize T L Z LZ M LM (P1 :: P2 :: Ps2)
    (fun P hP => by rcases List.mem_cons.mp hP with rfl | hP; exact L1; exact hL P hP) ⟨hlink1, hlink⟩ (u0 := u0) (sen := sen) (self := a) hmsg (cell := freshCell P1.m.cls kX) (cellS := cellS)
    hcell (fun _ => by simp) (by simp) rfl rfl hsel0 hselF hcellS hneS hknownS (by rw [hkeep _ (hout' _)]; exact hu0) (by rw [hkeep _ (hout' _)]; exact hsen)
    (Takes.of_laid hk hord tyC (by rw [Y.causeType]; rfl)) (Takes.of_laid hk hord tyS (by rw [Y.stackType]; exact fits_refV_array _ u0)) (Takes.of_laid hk hord tyP (by rw [Y.suppType]; exact fits_refV_object _ sen))
    (Takes.of_laid hk hord tyM (by rw [Y.msgType]; exact fits_refV_object _ ⟨msg, hmsg⟩)) Y.objLocals hskip htr [] hd6
    (by simp only [List.length_cons, hlen2]; omega) (by simp only [List.length_cons, hlen2]; exact hRlocals)
                                    
  obtain ⟨hwalk, hrun, hended, hWU, hsame⟩ := X₂.athrowLeaves hexec (g := { g with stack := .ref a :: rest, pc := g.pc + 3 }) hg hlocked hentered hout (a := a) (rest := rest) rfl hd9
  obtain ⟨c3, c4, hc3, hc4, hasg⟩ := Cond.castable_spec (a' (.castable xN xN) (x_tl 45 rfl (by decide +kernel)))
  cases Option.some.inj (hc3.symm.trans hfound)
  cases Option.some.inj (hc4.symm.trans hfound)
  have hlt : a < ((W.setVm vm₁).setVm vm₂).heap.size := (Array.getElem?_eq_some_iff.mp hcell).1
  have hU := heapAt_setCell_self (s := (W.setVm vm₁).setVm vm₂) (plainBareV T.toThrowableT (freshCell P1.m.cls kX) a u0 sen msg) hlt
  have hnM : T.fMsg.name = "detailMessage" := (State.fieldFound?_type hffM (t := .object "java/lang/String") (by decide +kernel)).1
  have nCS := Cond.laysApart hdC hdS hdnC hdnS (by rw [Y.causeName, Y.stackName]; decide)
  have nCP := Cond.laysApart hdC hdP hdnC hdnP (by rw [Y.causeName, Y.suppName]; decide)
  have nCM := Cond.laysApart hdC hdM hdnC hdnM (by rw [Y.causeName, hnM]; decide)
  have nSP := Cond.laysApart hdS hdP hdnS hdnP (by rw [Y.stackName, Y.suppName]; decide)
  have nSM := Cond.laysApart hdS hdM hdnS hdnM (by rw [Y.stackName, hnM]; decide)
  have nPM := Cond.laysApart hdP hdM hdnP hdnM (by rw [Y.suppName, hnM]; decide)
  have lC : T.fCause.slot < kX.instanceTypes.size := (Array.getElem?_eq_some_iff.mp tyC).1
  have lS : T.fStack.slot < kX.instanceTypes.size := (Array.getElem?_eq_some_iff.mp tyS).1
  have lP : T.fSupp.slot < kX.instanceTypes.size := (Array.getElem?_eq_some_iff.mp tyP).1
  have lM : T.fMsg.slot < kX.instanceTypes.size := (Array.getElem?_eq_some_iff.mp tyM).1
  have evU : ∀ o, (Term.static Bundle.tN "UNASSIGNED_STACK" Bundle.steD).eval args s o [] s = some u0.v := by
    intro o
    simp [Term.eval, State.fieldNamed?, Y.unassigned, L.unassignedStatic, L.statics, hcS0, hiss, hu0]
  have evS : ∀ o, (Term.static Bundle.tN "SUPPRESSED_SENTINEL" Bundle.listD).eval args s o [] s = some sen.v := by
    intro o
    simp [Term.eval, State.fieldNamed?, Y.sentinel, L.sentinelStatic, L.statics, hcS0, hiss, hsen]
  refine ⟨_, st1 _ (fun acts => ?_), hrun, hended, hWU, hsame.weaken (fun y hy hlt' => ?_) (Nat.le_refl _) (Nat.le_refl _), _, hU, ?_⟩
  · rw [doInvoke_state]
    exact st2 _ hwalk
  · rcases List.mem_append.mp hy with h1 | h1
    · exact h1
    · exfalso
      have hb : y.base = a := by
        simp only [List.mem_cons, List.not_mem_nil, or_false] at h1
        rcases h1 with rfl | rfl | rfl | rfl | rfl <;> rfl
      rw [hb] at hlt'
      exact Nat.not_lt.mpr hnew hlt'
  · exact ⟨rfl, hfound⟩
end XC

/-! calls that throw, on a fresh object; the law's own methods that catch -/
def TX (A : Nat → Prop) (U : State) : Prop := vx_Zq Bundle.tN "UNASSIGNED_STACK" Bundle.steD A U U.heap ∧ vx_Zq Bundle.tN "SUPPRESSED_SENTINEL" Bundle.listD A U U.heap
def SX (k : Nat) (tx : String) (U : State) : Prop := ∃ sa : Nat, vk_R RX11 k tx sa U
def XX (A : Nat → Prop) (U : State) : Prop := TX A U ∧ SX 225 "no such hearse" U ∧ SX 253 "no such thing of a hearse" U ∧ SX 268 "no such mourner" U ∧ SX 276 "no such thing of a mourner" U ∧ SX 492 "no such number of the row" U
def xPre (D : va_G) (τ : Nat → ClassId) (sA sV : Nat → Nat) (wc : va_W) (sz : Nat) : State → Prop := fun U => kPre D τ sA sV wc sz U ∧ XX (va_A wc sz) U
abbrev xPc (D : va_G) (τ : Nat → ClassId) (sA sV : Nat → Nat) (wc : va_W) (sz : Nat) (As : List Value) : Array Value → State → Prop := va_Pc As (xPre D τ sA sV wc sz)
abbrev XCQ (D : va_G) (Wf : Mem → va_W) (Qx : Mem → Prop) (A : Nat → Prop) : String → State → State → Prop := vx_X (fun _ : Unit => True) (fun E _ t => E = "java/util/NoSuchElementException" ∧ gW D A (EQv Wf MR Qx) t) A
theorem SX.warm {k : Nat} {tx : String} {s U : State} (hW : s.WarmedH U.vm) (h : SX k tx s) : SX k tx U := by
  obtain ⟨sa, hsa⟩ := h
  exact ⟨sa, vk_R.warm hW hsa⟩
theorem SX.same {k : Nat} {tx : String} {u U : State} (hv : U.vm = u.vm) (h : SX k tx u) : SX k tx U := by
  obtain ⟨sa, hsa⟩ := h
  exact ⟨sa, vk_R.same hv hsa⟩
theorem xPc_blind {D : va_G} {τ : Nat → ClassId} {sA sV : Nat → Nat} {wc : va_W} {sz : Nat} {As : List Value} : FrameBlind (xPc D τ sA sV wc sz As) := fun a U g mk q => by
  obtain ⟨q0, q1, q2, q3⟩ := q
  exact ⟨q0, (kPc_blind (As := As) a U g mk ⟨q0, q1⟩).2, ⟨vx_Zq.moved (u := U) (U := U.calling g mk a) (Vm.Alike.refl U.vm) q2.1, vx_Zq.moved (u := U) (U := U.calling g mk a) (Vm.Alike.refl U.vm) q2.2⟩, q3.1.same rfl, q3.2.1.same rfl, q3.2.2.1.same rfl, q3.2.2.2.1.same rfl, q3.2.2.2.2.same rfl⟩
theorem NXw.use {args : Array Value} {s : State} (hN : NXw s) : ∀ w ∈ lw_nest, w.before args s = true := fun w hw => by
  have h1 := (List.mem_filter.mp hw).2
  have h2 := hN w hw
  revert h1 h2
  cases w <;> intro h1 h2 <;> first | exact absurd h1 Bool.false_ne_true | exact va_Nw.use rfl h2 | (simp [isNest] at h1)
def x_sl : List Cond := tables_1_5.drop 150 ++ tables_1_1.take 40
theorem x_sub : ∀ w ∈ x_sl, w ∈ lw_tbl := fun w hw => List.mem_append_right _ ((List.mem_append.mp hw).elim (fun h => List.mem_append_right _ (List.mem_append_right _ (List.mem_append_right _ (List.mem_append_right _ (List.mem_append_left _ (List.mem_of_mem_drop h)))))) (fun h => List.mem_append_left _ (List.mem_of_mem_take h)))
theorem x_at1a : ∀ w ∈ (xA.filter vx_no).filter goodWord, w ∈ x_sl := by decide +kernel
theorem x_at1 : ∀ w ∈ (xA.filter vx_no).filter goodWord, w ∈ lw_tbl := fun w hw => x_sub w (x_at1a w hw)
theorem x_at2a : ∀ w ∈ (xA.filter vx_no).filter (fun w => !goodWord w), w ∈ x_sl ∧ isNest w = true := by decide +kernel
theorem x_at2 : ∀ w ∈ (xA.filter vx_no).filter (fun w => !goodWord w), w ∈ lw_nest := fun w hw => List.mem_filter.mpr ⟨x_sub w (x_at2a w hw).1, (x_at2a w hw).2⟩
theorem x_at3 : ∀ w ∈ Cond.classLink RX11 223 xN :: Cond.initialized xN :: xA.filter vx_no, vx_ot w = true := by decide +kernel
set_option maxRecDepth 100000 in
theorem x_cast : Cond.castable "java/util/NoSuchElementException" "java/util/NoSuchElementException" ∈ lw_nest := List.mem_filter.mpr ⟨List.mem_append_right _ (lw_m5 169 rfl), by decide +kernel⟩
set_option maxRecDepth 100000 in
theorem x_cl : Cond.classLink RX11 223 "java/util/NoSuchElementException" ∈ lw_good := lw_h5 167 rfl rfl
set_option maxRecDepth 100000 in
theorem x_in : Cond.initialized "java/util/NoSuchElementException" ∈ lw_good := lw_h1 25 rfl rfl
set_option maxRecDepth 100000 in
theorem x_cl13 : Cond.classLink RL 13 "java/util/NoSuchElementException" ∈ lw_good := lw_h5 162 rfl rfl
theorem x_met {l : Launch} {y : MethodName} {b : ByteArray} {mL lev sz : Nat} {ret : Option FieldType} {D : va_G} {τ : Nat → ClassId} {sA sV : Nat → Nat} {wc : va_W} {As : List Value} {Qc : (Nat → Prop) → Array Value → State → Outcome → State → Prop} {XC : (Nat → Prop) → String → State → State → Prop} (hpl : plainName y.cls = true) (hn : (lg_sl As).length ≤ mL)
    (body : ∀ (p : Program) (e : Env) (s : State) (m : MethodId) (args : Array Value) (below : List Frame) (meth : Method) (c : Code) (A : Nat → Prop) (ls : Array Slot), p.tables.exec = Jvm.exec → c.code = b → c.maxLocals = mL → meth.sig.returnType = ret → meth.locks = false → cx D τ s m args y.cls → LK A s s.heap sA sV → XX A s → (∀ x ∈ c.exceptionTable.toList, False) → (∀ q : Nat, s.heap.size ≤ q → A q) → wS D A s.heap wc s.heap [] → lv_has ls mL (lv_args 0 As) →
      W p l e (rmk lev 1 6) s m args below meth c s.heap [] 0 0 (vx_MQ below (Qc A) (XC A) args s 1 6 A) (F0 m 0 ls [])) :
    vx_Met l y (lw_w y b mL ret) (rmk lev 1 6) (xPc D τ sA sV wc sz As) (Qc (va_A wc sz)) (XC (va_A wc sz)) 1 6 (va_A wc sz) := by
  refine vx_ofW (cc := b) (maxL := mL) (ret := ret) hpl rfl ?_
  intro p e s m args below meth c s₁ B hml htab hv
  obtain ⟨rfl, ⟨⟨hsz, hP, hK, hD0⟩, hLS⟩, hX⟩ := hv
  have hts := atoms_spec (ws := lw_w y b mL ret) B.pre
  have hown : s.vm.findClass y.cls = some m.cls := findClass_of_methodNamed B.named
  subst hsz
  have hl := lv_entry As (n := mL) hn
  rw [lg_entry_eq]
  exact body p e s m _ below meth c (va_A wc s.heap.size) _ B.exec B.bytes hml B.returns B.notSynchronized ⟨fun w hw => hts w (List.mem_cons_of_mem _ hw), hown, hK.1, hK.2⟩ hLS hX htab (fun q h => Or.inr h) ⟨hP, hD0.self, va_S.rf⟩ hl
section RX
variable {p : Program} {l : Launch} {e : Env} {s : State} {m : MethodId} {args : Array Value} {below : List Frame} {meth : Method} {c : Code} {H : Heap} {locs : List Loc}
variable {cc : ByteArray} {pc : Nat} {ls : Array Slot} {rest : List Value} {D : va_G} {A : Nat → Prop} {ws wc : va_W} {τ : Nat → ClassId} {mL lev k : Nat} {tx : String} {Qc : Array Value → State → Outcome → State → Prop} {Wf : Mem → va_W} {M0 : Mem} {Qx : Mem → Prop} {sA sV : Nat → Nat}
theorem x_hat (hC : cx D τ s m args RX11) : ∀ w ∈ xA.filter vx_no, w.before args s = true := vx_hat (fun w hw => hC.1 w (List.mem_filter.mpr ⟨x_at1 w hw, (List.mem_filter.mp hw).2⟩)) x_at2 (NXw.use hC.2.2.2.1)
theorem x_thrown {t : State} (hw : wS D A s.heap (Wf M0) H locs) (hM : MR M0) (hq : Qx M0) (h1 : H.size ≤ t.heap.size) (h2 : ∀ q : Nat, q < H.size → t.heap[q]? = H[q]?) : XCQ D Wf Qx A "java/util/NoSuchElementException" s t := ⟨(), trivial, ⟨rfl, Wf M0, ⟨M0, hM, hq, rfl⟩, hw.1.kept (fun k q hk => h2 q.1 (hw.1 k q hk).lt), hw.2.1⟩, Nat.le_trans hw.2.2.1 h1, fun q a b => (h2 q (Nat.lt_of_lt_of_le a hw.2.2.1)).trans (hw.2.2.2.1 q a b)⟩
set_option maxHeartbeats 4000000 in
set_option maxRecDepth 100000 in
theorem x_throwS (hx : p.tables.exec = Jvm.exec) (hb : c.code = cc) (hst : l.stackTraces = false) (hml : c.maxLocals = mL) (hlk : meth.locks = false) (hC : cx D τ s m args RX11) (hT : TX A s) (hSx : SX k tx s) (htab : ∀ x ∈ c.exceptionTable.toList, False) (hw : wS D A s.heap (Wf M0) H locs) (hM : MR M0) (hq : Qx M0) (hl : ls.size = mL) (hlev : 5 < lev) (hcat : (rest.map fun v => v.category).sum ≤ 8) (d0 : decode cc pc = .ok (.new 223, 3)) (d3 : decode cc (pc + 3) = .ok (.dup, 1)) (d4 : decode cc (pc + 4) = .ok (.ldc k, 2)) (d6 : decode cc (pc + 6) = .ok (.invokespecial 227, 3)) (d9 : decode cc (pc + 9) = .ok (.athrow, 1)) :
    W p l e (rmk lev 1 6) s m args below meth c H locs 0 0 (vx_MQ below Qc (XCQ D Wf Qx A) args s 1 6 A) (F0 m pc ls rest) := by
  obtain ⟨sa, hsa⟩ := hSx
  intro T hT9 X
  have htr : e.platform.stackTraces = false := (show e.platform.stackTraces = l.stackTraces by rw [X.admits.platform]).trans hst
  have Y := vx_rebase X (R' := rmk lev 1 6) (Nat.le_refl _) (Nat.le_refl _) (Nat.le_refl _) (Nat.le_refl _)
  obtain ⟨s', hA⟩ : ∃ z, z = (T.setVm s.vm).setFrames (.invoking m args :: below) := ⟨_, rfl⟩
  rw [← hA] at Y
  have hvm : s'.vm = s.vm := by rw [hA]; rfl
  have hhp : s'.heap = H := by rw [hA]; exact hT9
  have hW0 : s.WarmedH s'.vm := by rw [hvm]; exact State.WarmedH.refl s
  have hat' : ∀ w ∈ xA.filter vx_no, w.before args s' = true := fun w hw => vx_ot_at hW0 hvm.symm (x_at3 w (List.mem_cons_of_mem _ (List.mem_cons_of_mem _ hw))) (x_hat hC w hw)
  have hk' : (Cond.classLink RX11 223 xN).before args s' = true := vx_ot_at hW0 hvm.symm (x_at3 _ List.mem_cons_self) (hC.1 _ x_cl)
  have hini' : (Cond.initialized xN).before args s' = true := vx_ot_at hW0 hvm.symm (x_at3 _ (List.mem_cons_of_mem _ List.mem_cons_self)) (hC.1 _ x_in)
  have hU' : vx_Zq Bundle.tN "UNASSIGNED_STACK" Bundle.steD A s' s'.heap := by rw [hhp]; exact vx_Zq.moved hW0.alike (hT.1.kept hw.2.2.2.1)
  have hN' : vx_Zq Bundle.tN "SUPPRESSED_SENTINEL" Bundle.listD A s' s'.heap := by rw [hhp]; exact vx_Zq.moved hW0.alike (hT.2.kept hw.2.2.2.1)
  have h : ∀ w ∈ xA, w.before args s' = true := vx_own hat' (vx_isRefq hU'.1) (vx_isRefq hN'.1) hU'.2.word hN'.2.word
  have hown' : s'.vm.findClass RX11 = some m.cls := by rw [hvm]; exact hC.2.1
  have hins : (Cond.instantiable xN 6).before args s' = true := h _ (x_tl 44 rfl (by decide +kernel))
  obtain ⟨vm₁, cX, kX, hfX, hkX, -, -, X₁, st1⟩ := Y.newCold hx (own := RX11) (C := xN) (index := 223) (n := 6) hown' hk' hins hini'
    (g := F0 m pc ls rest) rfl (by rw [hb]; exact d0) (Nat.le_refl _) (Nat.le_refl _)
  generalize hT1 : (T.setVm vm₁).pushCell { cls := cX, slots := kX.instanceTypes.map defaultValue, vm := .none } = T1 at X₁ st1
  have hcat9 : (Value.ref T.heap.size).category = 1 := rfl
  have hcellA : T1.heap[T.heap.size]? = some (freshCell cX kX) := by rw [← hT1]; exact State.heap_pushCell_size _ _
  have d3' : decode c.code (pc + 3) = .ok (.dup, 1) := by rw [hb]; exact d3
  have d4' : decode c.code (pc + 4) = .ok (.ldc k, 2) := by rw [hb]; exact d4
  have hstr' : vk_R RX11 k tx sa s' := vk_R.warm hW0 hsa
  obtain ⟨U, hsteps, hrun, hend, hW, hsame, ce, hce, hOv, hOc⟩ := x_ctor X₁ hx htr hown' h (fun x hx => nomatch hx) hfX hkX hcellA (by rw [hhp, hT9]; exact Nat.le_refl _) (msg := .ref sa) rfl
    (g := { method := m, pc := pc + 6, locals := ls, stack := .ref sa :: .ref T.heap.size :: .ref T.heap.size :: rest, locked := none }) rfl (hl.trans hml.symm) rfl rfl (rest := rest) rfl
    (by rw [hb]; exact d6) (by rw [hb]; exact d9) (fun x h => (htab x h).elim) (by show 2 + 3 < lev; omega) (by simp only [List.map_cons, List.sum_cons, hcat9]; show _ ≤ 64 * lev; omega) hlk
  obtain ⟨f1, f2⟩ := vx_frame hsame
  rw [hhp] at f1 f2
  have hWs : s.WarmedH U.vm := State.WarmedH.trans hW0 hW
  have hcl : s.vm.findClass xN = some ce.cls := by
    have h9 := hOc
    rw [hvm] at h9
    exact h9
  have hall : s.sameButNew ({ U with vm := s.vm } : State) locs 1 6 := by
    subst hA
    obtain ⟨e1, e2⟩ := hsame
    rw [State.setFrames_setFrames] at e1
    have h2 : (T.setVm s.vm).sameButNew ({ U with vm := s.vm } : State) [] (0 + 1) (0 + 6) := ⟨e1, e2⟩
    have h3 := X.same.trans h2
    rw [List.append_nil] at h3
    exact h3.mono (Nat.le_refl _) (Nat.le_refl _)
  refine ⟨U, ?_, .threw T.heap.size, hrun, hend, Or.inr ⟨T.heap.size, rfl, xN, ce, locs, x_thrown hw hM hq f1 (fun q hq => f2 q hq (fun z hz => nomatch hz)), hce, hOv, hcl, hWs, hall, hw.2.2.2.2⟩⟩
  refine st1 _ ?_
  show Steps p.tables e below (T1.setTop { method := m, pc := pc + 3, locals := ls, stack := .ref T.heap.size :: rest, locked := none }) _
  jvm_step X₁.here [X₁.here.top, hx, d3', Value.category]
  exact X₁.ldcString hx (own := RX11) (text := tx) (index := k) (a := sa) hown' hstr'.1 hstr'.2
    (g := { method := m, pc := pc + 4, locals := ls, stack := .ref T.heap.size :: .ref T.heap.size :: rest, locked := none }) rfl d4' _ hsteps
set_option maxHeartbeats 4000000 in
set_option maxRecDepth 100000 in
theorem x_throwSW (hx : p.tables.exec = Jvm.exec) (hb : c.code = cc) (hst : l.stackTraces = false) (hml : c.maxLocals = mL) (hlk : meth.locks = false) (hC : cx D τ s m args RX11) (hT : TX A s) (hSx : SX k tx s) (htab : ∀ x ∈ c.exceptionTable.toList, False) (hw : wS D A s.heap (Wf M0) H locs) (hM : MR M0) (hq : Qx M0) (hl : ls.size = mL) (hlev : 5 < lev) (hcat : (rest.map fun v => v.category).sum ≤ 8) (d0 : decode cc pc = .ok (.new 223, 3)) (d3 : decode cc (pc + 3) = .ok (.dup, 1)) (d4 : decode cc (pc + 4) = .ok (.ldc_w k, 3)) (d7 : decode cc (pc + 7) = .ok (.invokespecial 227, 3)) (d10 : decode cc (pc + 10) = .ok (.athrow, 1)) :
    W p l e (rmk lev 1 6) s m args below meth c H locs 0 0 (vx_MQ below Qc (XCQ D Wf Qx A) args s 1 6 A) (F0 m pc ls rest) := by
  obtain ⟨sa, hsa⟩ := hSx
  intro T hT9 X
  have htr : e.platform.stackTraces = false := (show e.platform.stackTraces = l.stackTraces by rw [X.admits.platform]).trans hst
  have Y := vx_rebase X (R' := rmk lev 1 6) (Nat.le_refl _) (Nat.le_refl _) (Nat.le_refl _) (Nat.le_refl _)
  obtain ⟨s', hA⟩ : ∃ z, z = (T.setVm s.vm).setFrames (.invoking m args :: below) := ⟨_, rfl⟩
  rw [← hA] at Y
  have hvm : s'.vm = s.vm := by rw [hA]; rfl
  have hhp : s'.heap = H := by rw [hA]; exact hT9
  have hW0 : s.WarmedH s'.vm := by rw [hvm]; exact State.WarmedH.refl s
  have hat' : ∀ w ∈ xA.filter vx_no, w.before args s' = true := fun w hw => vx_ot_at hW0 hvm.symm (x_at3 w (List.mem_cons_of_mem _ (List.mem_cons_of_mem _ hw))) (x_hat hC w hw)
  have hk' : (Cond.classLink RX11 223 xN).before args s' = true := vx_ot_at hW0 hvm.symm (x_at3 _ List.mem_cons_self) (hC.1 _ x_cl)
  have hini' : (Cond.initialized xN).before args s' = true := vx_ot_at hW0 hvm.symm (x_at3 _ (List.mem_cons_of_mem _ List.mem_cons_self)) (hC.1 _ x_in)
  have hU' : vx_Zq Bundle.tN "UNASSIGNED_STACK" Bundle.steD A s' s'.heap := by rw [hhp]; exact vx_Zq.moved hW0.alike (hT.1.kept hw.2.2.2.1)
  have hN' : vx_Zq Bundle.tN "SUPPRESSED_SENTINEL" Bundle.listD A s' s'.heap := by rw [hhp]; exact vx_Zq.moved hW0.alike (hT.2.kept hw.2.2.2.1)
  have h : ∀ w ∈ xA, w.before args s' = true := vx_own hat' (vx_isRefq hU'.1) (vx_isRefq hN'.1) hU'.2.word hN'.2.word
  have hown' : s'.vm.findClass RX11 = some m.cls := by rw [hvm]; exact hC.2.1
  have hins : (Cond.instantiable xN 6).before args s' = true := h _ (x_tl 44 rfl (by decide +kernel))
  obtain ⟨vm₁, cX, kX, hfX, hkX, -, -, X₁, st1⟩ := Y.newCold hx (own := RX11) (C := xN) (index := 223) (n := 6) hown' hk' hins hini'
    (g := F0 m pc ls rest) rfl (by rw [hb]; exact d0) (Nat.le_refl _) (Nat.le_refl _)
  generalize hT1 : (T.setVm vm₁).pushCell { cls := cX, slots := kX.instanceTypes.map defaultValue, vm := .none } = T1 at X₁ st1
  have hcat9 : (Value.ref T.heap.size).category = 1 := rfl
  have hcellA : T1.heap[T.heap.size]? = some (freshCell cX kX) := by rw [← hT1]; exact State.heap_pushCell_size _ _
  have d3' : decode c.code (pc + 3) = .ok (.dup, 1) := by rw [hb]; exact d3
  have d4' : decode c.code (pc + 4) = .ok (.ldc_w k, 3) := by rw [hb]; exact d4
  have hstr' : vk_R RX11 k tx sa s' := vk_R.warm hW0 hsa
  obtain ⟨U, hsteps, hrun, hend, hW, hsame, ce, hce, hOv, hOc⟩ := x_ctor X₁ hx htr hown' h (fun x hx => nomatch hx) hfX hkX hcellA (by rw [hhp, hT9]; exact Nat.le_refl _) (msg := .ref sa) rfl
    (g := { method := m, pc := pc + 7, locals := ls, stack := .ref sa :: .ref T.heap.size :: .ref T.heap.size :: rest, locked := none }) rfl (hl.trans hml.symm) rfl rfl (rest := rest) rfl
    (by rw [hb]; exact d7) (by rw [hb]; exact d10) (fun x h => (htab x h).elim) (by show 2 + 3 < lev; omega) (by simp only [List.map_cons, List.sum_cons, hcat9]; show _ ≤ 64 * lev; omega) hlk
  obtain ⟨f1, f2⟩ := vx_frame hsame
  rw [hhp] at f1 f2
  have hWs : s.WarmedH U.vm := State.WarmedH.trans hW0 hW
  have hcl : s.vm.findClass xN = some ce.cls := by
    have h9 := hOc
    rw [hvm] at h9
    exact h9
  have hall : s.sameButNew ({ U with vm := s.vm } : State) locs 1 6 := by
    subst hA
    obtain ⟨e1, e2⟩ := hsame
    rw [State.setFrames_setFrames] at e1
    have h2 : (T.setVm s.vm).sameButNew ({ U with vm := s.vm } : State) [] (0 + 1) (0 + 6) := ⟨e1, e2⟩
    have h3 := X.same.trans h2
    rw [List.append_nil] at h3
    exact h3.mono (Nat.le_refl _) (Nat.le_refl _)
  refine ⟨U, ?_, .threw T.heap.size, hrun, hend, Or.inr ⟨T.heap.size, rfl, xN, ce, locs, x_thrown hw hM hq f1 (fun q hq => f2 q hq (fun z hz => nomatch hz)), hce, hOv, hcl, hWs, hall, hw.2.2.2.2⟩⟩
  refine st1 _ ?_
  show Steps p.tables e below (T1.setTop { method := m, pc := pc + 3, locals := ls, stack := .ref T.heap.size :: rest, locked := none }) _
  jvm_step X₁.here [X₁.here.top, hx, d3', Value.category]
  exact X₁.ldcStringW hx (own := RX11) (text := tx) (index := k) (a := sa) hown' hstr'.1 hstr'.2
    (g := { method := m, pc := pc + 4, locals := ls, stack := .ref T.heap.size :: .ref T.heap.size :: rest, locked := none }) rfl d4' _ hsteps
/-- the start of a call, with what a throw wants -/
theorem x_pre {own : String} {isC : List Nat} {H0 : Heap} (hH : H0 = s.heap) (hC' : cx D τ s m args own) (hA : ∀ q, H0.size ≤ q → A q) (hLS : LK A s s.heap sA sV) (hX : XX A s) (hw : wS D A H0 ws H locs) (hC : isC.map (fun i => ws[i]?) = wc.map some) (hn : va_nd isC = true) {Bs : List Value} : ∀ U : State, U.heap = H → s.WarmedH U.vm → xPc D τ sA sV wc H.size Bs Bs.toArray U := fun U hU hW => by
  subst hH
  have hF := va_free hw.2.1 hw.2.2 hA isC hC
  refine ⟨rfl, (k_pre rfl hC' hA hLS hw hC hn (Bs := Bs) U hU hW).2, ⟨?_, ?_⟩, hX.2.1.warm hW, hX.2.2.1.warm hW, hX.2.2.2.1.warm hW, hX.2.2.2.2.1.warm hW, hX.2.2.2.2.2.warm hW⟩
  · rw [hU]; exact ((hX.1.1.kept hw.2.2.2.1).moved hW.alike).narrow hF
  · rw [hU]; exact ((hX.1.2.kept hw.2.2.2.1).moved hW.alike).narrow hF
end RX

