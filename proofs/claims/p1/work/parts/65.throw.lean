/-! calls that throw, on a fresh object; the law's own methods that catch -/
def TX (A : Nat → Prop) (U : State) : Prop := vx_Zq Bundle.tN "UNASSIGNED_STACK" Bundle.steD A U U.heap ∧ vx_Zq Bundle.tN "SUPPRESSED_SENTINEL" Bundle.listD A U U.heap
def SX (k : Nat) (tx : String) (U : State) : Prop := ∃ sa : Nat, vk_R RX11 k tx sa U
def xPre (D : va_G) (τ : Nat → ClassId) (wc : va_W) (sz k : Nat) (tx : String) : State → Prop := fun U => gPre D τ wc sz U ∧ TX (va_A wc sz) U ∧ SX k tx U
abbrev xPc (D : va_G) (τ : Nat → ClassId) (wc : va_W) (sz k : Nat) (tx : String) (As : List Value) : Array Value → State → Prop := va_Pc As (xPre D τ wc sz k tx)
abbrev XCA (A : Nat → Prop) : String → State → State → Prop := vx_X (fun _ : Unit => True) (fun E _ _ => E = "java/util/NoSuchElementException") A
abbrev xNames : List String := ["java/lang/RuntimeException", "java/lang/Exception"]
theorem xPc_blind {D : va_G} {τ : Nat → ClassId} {wc : va_W} {sz k : Nat} {tx : String} {As : List Value} : FrameBlind (xPc D τ wc sz k tx As) := fun a U g mk q => by
  obtain ⟨q0, q1, q2, sa, q3⟩ := q
  exact ⟨q0, (gPc_blind (As := As) a U g mk ⟨q0, q1⟩).2, ⟨vx_Zq.moved (u := U) (U := U.calling g mk a) (Vm.Alike.refl U.vm) q2.1, vx_Zq.moved (u := U) (U := U.calling g mk a) (Vm.Alike.refl U.vm) q2.2⟩, sa, vk_R.same (u := U) (U := U.calling g mk a) rfl q3⟩
theorem NXw.use {args : Array Value} {s : State} (hN : NXw s) : ∀ w ∈ lw_nest, w.before args s = true := fun w hw => by
  have h1 := (List.mem_filter.mp hw).2
  have h2 := hN w hw
  revert h1 h2
  cases w <;> intro h1 h2 <;> first | exact va_Nw.use rfl h2 | (simp [isNest] at h1)
theorem x_at1 : ∀ w ∈ (xA.filter vx_no).filter goodWord, w ∈ lw_tbl := by decide +kernel
theorem x_at2 : ∀ w ∈ (xA.filter vx_no).filter (fun w => !goodWord w), w ∈ lw_nest := by decide +kernel
theorem x_at3 : ∀ w ∈ Cond.classLink RX11 223 xN :: Cond.initialized xN :: xA.filter vx_no, vx_ot w = true := by decide +kernel
theorem x_cast : Cond.castable "java/util/NoSuchElementException" "java/util/NoSuchElementException" ∈ lw_nest := by decide +kernel
theorem x_cl : Cond.classLink RX11 223 "java/util/NoSuchElementException" ∈ lw_good := lw_gl (ws := [_]) (by decide +kernel) _ (List.mem_singleton.mpr rfl)
theorem x_in : Cond.initialized "java/util/NoSuchElementException" ∈ lw_good := lw_gl (ws := [_]) (by decide +kernel) _ (List.mem_singleton.mpr rfl)
theorem x_cl13 : Cond.classLink RL 13 "java/util/NoSuchElementException" ∈ lw_good := lw_gl (ws := [_]) (by decide +kernel) _ (List.mem_singleton.mpr rfl)
theorem x_met {l : Launch} {y : MethodName} {b : ByteArray} {mL lev sz k : Nat} {tx : String} {ret : Option FieldType} {D : va_G} {τ : Nat → ClassId} {wc : va_W} {As : List Value} {Qc : (Nat → Prop) → Array Value → State → Outcome → State → Prop} (hpl : plainName y.cls = true) (hn : (lg_sl As).length ≤ mL)
    (body : ∀ (p : Program) (e : Env) (s : State) (m : MethodId) (args : Array Value) (below : List Frame) (meth : Method) (c : Code) (A : Nat → Prop) (ls : Array Slot), p.tables.exec = Jvm.exec → c.code = b → c.maxLocals = mL → meth.locks = false → cx D τ s m args y.cls → TX A s → SX k tx s → (∀ x ∈ c.exceptionTable.toList, False) → (∀ q : Nat, s.heap.size ≤ q → A q) → wS D A s.heap wc s.heap [] → lv_has ls mL (lv_args 0 As) →
      W p l e (rmk lev 1 6) s m args below meth c s.heap [] 0 0 (vx_MQ below (Qc A) (XCA A) args s 1 6 A) (F0 m 0 ls [])) :
    vx_Met l y (lw_w y b mL ret) (rmk lev 1 6) (xPc D τ wc sz k tx As) (Qc (va_A wc sz)) (XCA (va_A wc sz)) 1 6 (va_A wc sz) := by
  refine vx_ofW (cc := b) (maxL := mL) (ret := ret) hpl rfl ?_
  intro p e s m args below meth c s₁ B hml htab hv
  obtain ⟨rfl, ⟨hsz, hP, hK, hD0⟩, hT, hSx⟩ := hv
  have hts := atoms_spec (ws := lw_w y b mL ret) B.pre
  have hown : s.vm.findClass y.cls = some m.cls := findClass_of_methodNamed B.named
  subst hsz
  have hl := lv_entry As (n := mL) hn
  rw [lg_entry_eq]
  exact body p e s m _ below meth c (va_A wc s.heap.size) _ B.exec B.bytes hml B.notSynchronized ⟨fun w hw => hts w (List.mem_cons_of_mem _ hw), hown, hK.1, hK.2⟩ hT hSx htab (fun q h => Or.inr h) ⟨hP, hD0.self, va_S.rf⟩ hl
section RX
variable {p : Program} {l : Launch} {e : Env} {s : State} {m : MethodId} {args : Array Value} {below : List Frame} {meth : Method} {c : Code} {H : Heap} {locs : List Loc}
variable {cc : ByteArray} {pc : Nat} {ls : Array Slot} {rest : List Value} {D : va_G} {A : Nat → Prop} {ws wc : va_W} {τ : Nat → ClassId} {mL lev k : Nat} {tx : String} {Qc : Array Value → State → Outcome → State → Prop}
theorem x_hat (hC : cx D τ s m args RX11) : ∀ w ∈ xA.filter vx_no, w.before args s = true := vx_hat (fun w hw => hC.1 w (List.mem_filter.mpr ⟨x_at1 w hw, (List.mem_filter.mp hw).2⟩)) x_at2 (NXw.use hC.2.2.2.1)
theorem x_thrown {t : State} (hw : wS D A s.heap ws H locs) (h1 : H.size ≤ t.heap.size) (h2 : ∀ q : Nat, q < H.size → t.heap[q]? = H[q]?) : XCA A "java/util/NoSuchElementException" s t := ⟨(), trivial, rfl, Nat.le_trans hw.2.2.1 h1, fun q a b => (h2 q (Nat.lt_of_lt_of_le a hw.2.2.1)).trans (hw.2.2.2.1 q a b)⟩
set_option maxHeartbeats 4000000 in
theorem x_throwS (hx : p.tables.exec = Jvm.exec) (hb : c.code = cc) (hst : l.stackTraces = false) (hml : c.maxLocals = mL) (hlk : meth.locks = false) (hC : cx D τ s m args RX11) (hT : TX A s) (hSx : SX k tx s) (htab : ∀ x ∈ c.exceptionTable.toList, False) (hw : wS D A s.heap ws H locs) (hl : ls.size = mL) (hlev : 5 < lev) (hcat : (rest.map fun v => v.category).sum ≤ 8) (d0 : decode cc pc = .ok (.new 223, 3)) (d3 : decode cc (pc + 3) = .ok (.dup, 1)) (d4 : decode cc (pc + 4) = .ok (.ldc k, 2)) (d6 : decode cc (pc + 6) = .ok (.invokespecial 227, 3)) (d9 : decode cc (pc + 9) = .ok (.athrow, 1)) :
    W p l e (rmk lev 1 6) s m args below meth c H locs 0 0 (vx_MQ below Qc (XCA A) args s 1 6 A) (F0 m pc ls rest) := by
  obtain ⟨sa, hsa⟩ := hSx
  intro T hT9 X
  have htr : e.platform.stackTraces = false := (show e.platform.stackTraces = l.stackTraces by rw [X.admits.platform]).trans hst
  have Y := vx_rebase X (R' := rmk lev 1 6) (Nat.le_refl _) (Nat.le_refl _) (Nat.le_refl _) (Nat.le_refl _)
  obtain ⟨s', hA⟩ : ∃ z, z = (T.setVm s.vm).setFrames (.invoking m args :: below) := ⟨_, rfl⟩
  rw [← hA] at Y
  have hvm : s'.vm = s.vm := by rw [hA]; rfl
  have hhp : s'.heap = H := by rw [hA]; exact hT9
  have hW0 : s.WarmedH s'.vm := by rw [hvm]; exact State.WarmedH.refl s
  have hat' : ∀ w ∈ xA.filter vx_no, w.before args s' = true := fun w hw => vx_ot_at hW0 hvm.symm (x_at3 w (List.mem_cons_of_mem _ (List.mem_cons_of_mem _ hw))) (x_hat hC w hw)
  have hk' : (Cond.classLink RX11 223 xN).before args s' = true := vx_ot_at hW0 hvm.symm (x_at3 _ List.mem_cons_self) (hC.1 _ x_cl)
  have hini' : (Cond.initialized xN).before args s' = true := vx_ot_at hW0 hvm.symm (x_at3 _ (List.mem_cons_of_mem _ List.mem_cons_self)) (hC.1 _ x_in)
  have hU' : vx_Zq Bundle.tN "UNASSIGNED_STACK" Bundle.steD A s' s'.heap := by rw [hhp]; exact vx_Zq.moved hW0.alike (hT.1.kept hw.2.2.2.1)
  have hN' : vx_Zq Bundle.tN "SUPPRESSED_SENTINEL" Bundle.listD A s' s'.heap := by rw [hhp]; exact vx_Zq.moved hW0.alike (hT.2.kept hw.2.2.2.1)
  have h : ∀ w ∈ xA, w.before args s' = true := vx_own hat' (vx_isRefq hU'.1) (vx_isRefq hN'.1) hU'.2.word hN'.2.word
  have hown' : s'.vm.findClass RX11 = some m.cls := by rw [hvm]; exact hC.2.1
  have hins : (Cond.instantiable xN 6).before args s' = true := h _ (by decide +kernel)
  obtain ⟨vm₁, cX, kX, hfX, hkX, -, -, X₁, st1⟩ := Y.newCold hx (own := RX11) (C := xN) (index := 223) (n := 6) hown' hk' hins hini'
    (g := F0 m pc ls rest) rfl (by rw [hb]; exact d0) (Nat.le_refl _) (Nat.le_refl _)
  generalize hT1 : (T.setVm vm₁).pushCell { cls := cX, slots := kX.instanceTypes.map defaultValue, vm := .none } = T1 at X₁ st1
  have hcat9 : (Value.ref T.heap.size).category = 1 := rfl
  have hcellA : T1.heap[T.heap.size]? = some (freshCell cX kX) := by rw [← hT1]; exact State.heap_pushCell_size _ _
  have d3' : decode c.code (pc + 3) = .ok (.dup, 1) := by rw [hb]; exact d3
  have d4' : decode c.code (pc + 4) = .ok (.ldc k, 2) := by rw [hb]; exact d4
  have hstr' : vk_R RX11 k tx sa s' := vk_R.warm hW0 hsa
  obtain ⟨U, hsteps, hrun, hend, hW, hsame, ce, hce, hOv, hOc⟩ := x_ctor X₁ hx htr hown' h (fun x hx => nomatch hx) hfX hkX hcellA (by rw [hhp, hT9]; exact Nat.le_refl _) (msg := .ref sa) rfl
    (g := { method := m, pc := pc + 6, locals := ls, stack := .ref sa :: .ref T.heap.size :: .ref T.heap.size :: rest, locked := none }) rfl (hl.trans hml.symm) rfl rfl (rest := rest) rfl
    (by rw [hb]; exact d6) (by rw [hb]; exact d9) (fun x h => (htab x h).elim) (by show 2 + 3 < lev; omega) (by simp only [List.map_cons, List.sum_cons, hcat9]; show _ ≤ 64 * lev; omega) hlk
  obtain ⟨f1, f2⟩ := vx_frame hsame
  rw [hhp] at f1 f2
  have hWs : s.WarmedH U.vm := State.WarmedH.trans hW0 hW
  have hcl : s.vm.findClass xN = some ce.cls := by
    have h9 := hOc
    rw [hvm] at h9
    exact h9
  have hall : s.sameButNew ({ U with vm := s.vm } : State) locs 1 6 := by
    subst hA
    obtain ⟨e1, e2⟩ := hsame
    rw [State.setFrames_setFrames] at e1
    have h2 : (T.setVm s.vm).sameButNew ({ U with vm := s.vm } : State) [] (0 + 1) (0 + 6) := ⟨e1, e2⟩
    have h3 := X.same.trans h2
    rw [List.append_nil] at h3
    exact h3.mono (Nat.le_refl _) (Nat.le_refl _)
  refine ⟨U, ?_, .threw T.heap.size, hrun, hend, Or.inr ⟨T.heap.size, rfl, xN, ce, locs, x_thrown hw f1 (fun q hq => f2 q hq (fun z hz => nomatch hz)), hce, hOv, hcl, hWs, hall, hw.2.2.2.2⟩⟩
  refine st1 _ ?_
  show Steps p.tables e below (T1.setTop { method := m, pc := pc + 3, locals := ls, stack := .ref T.heap.size :: rest, locked := none }) _
  jvm_step X₁.here [X₁.here.top, hx, d3', Value.category]
  exact X₁.ldcString hx (own := RX11) (text := tx) (index := k) (a := sa) hown' hstr'.1 hstr'.2
    (g := { method := m, pc := pc + 4, locals := ls, stack := .ref T.heap.size :: .ref T.heap.size :: rest, locked := none }) rfl d4' _ hsteps
set_option maxHeartbeats 4000000 in
theorem x_throwSW (hx : p.tables.exec = Jvm.exec) (hb : c.code = cc) (hst : l.stackTraces = false) (hml : c.maxLocals = mL) (hlk : meth.locks = false) (hC : cx D τ s m args RX11) (hT : TX A s) (hSx : SX k tx s) (htab : ∀ x ∈ c.exceptionTable.toList, False) (hw : wS D A s.heap ws H locs) (hl : ls.size = mL) (hlev : 5 < lev) (hcat : (rest.map fun v => v.category).sum ≤ 8) (d0 : decode cc pc = .ok (.new 223, 3)) (d3 : decode cc (pc + 3) = .ok (.dup, 1)) (d4 : decode cc (pc + 4) = .ok (.ldc_w k, 3)) (d7 : decode cc (pc + 7) = .ok (.invokespecial 227, 3)) (d10 : decode cc (pc + 10) = .ok (.athrow, 1)) :
    W p l e (rmk lev 1 6) s m args below meth c H locs 0 0 (vx_MQ below Qc (XCA A) args s 1 6 A) (F0 m pc ls rest) := by
  obtain ⟨sa, hsa⟩ := hSx
  intro T hT9 X
  have htr : e.platform.stackTraces = false := (show e.platform.stackTraces = l.stackTraces by rw [X.admits.platform]).trans hst
  have Y := vx_rebase X (R' := rmk lev 1 6) (Nat.le_refl _) (Nat.le_refl _) (Nat.le_refl _) (Nat.le_refl _)
  obtain ⟨s', hA⟩ : ∃ z, z = (T.setVm s.vm).setFrames (.invoking m args :: below) := ⟨_, rfl⟩
  rw [← hA] at Y
  have hvm : s'.vm = s.vm := by rw [hA]; rfl
  have hhp : s'.heap = H := by rw [hA]; exact hT9
  have hW0 : s.WarmedH s'.vm := by rw [hvm]; exact State.WarmedH.refl s
  have hat' : ∀ w ∈ xA.filter vx_no, w.before args s' = true := fun w hw => vx_ot_at hW0 hvm.symm (x_at3 w (List.mem_cons_of_mem _ (List.mem_cons_of_mem _ hw))) (x_hat hC w hw)
  have hk' : (Cond.classLink RX11 223 xN).before args s' = true := vx_ot_at hW0 hvm.symm (x_at3 _ List.mem_cons_self) (hC.1 _ x_cl)
  have hini' : (Cond.initialized xN).before args s' = true := vx_ot_at hW0 hvm.symm (x_at3 _ (List.mem_cons_of_mem _ List.mem_cons_self)) (hC.1 _ x_in)
  have hU' : vx_Zq Bundle.tN "UNASSIGNED_STACK" Bundle.steD A s' s'.heap := by rw [hhp]; exact vx_Zq.moved hW0.alike (hT.1.kept hw.2.2.2.1)
  have hN' : vx_Zq Bundle.tN "SUPPRESSED_SENTINEL" Bundle.listD A s' s'.heap := by rw [hhp]; exact vx_Zq.moved hW0.alike (hT.2.kept hw.2.2.2.1)
  have h : ∀ w ∈ xA, w.before args s' = true := vx_own hat' (vx_isRefq hU'.1) (vx_isRefq hN'.1) hU'.2.word hN'.2.word
  have hown' : s'.vm.findClass RX11 = some m.cls := by rw [hvm]; exact hC.2.1
  have hins : (Cond.instantiable xN 6).before args s' = true := h _ (by decide +kernel)
  obtain ⟨vm₁, cX, kX, hfX, hkX, -, -, X₁, st1⟩ := Y.newCold hx (own := RX11) (C := xN) (index := 223) (n := 6) hown' hk' hins hini'
    (g := F0 m pc ls rest) rfl (by rw [hb]; exact d0) (Nat.le_refl _) (Nat.le_refl _)
  generalize hT1 : (T.setVm vm₁).pushCell { cls := cX, slots := kX.instanceTypes.map defaultValue, vm := .none } = T1 at X₁ st1
  have hcat9 : (Value.ref T.heap.size).category = 1 := rfl
  have hcellA : T1.heap[T.heap.size]? = some (freshCell cX kX) := by rw [← hT1]; exact State.heap_pushCell_size _ _
  have d3' : decode c.code (pc + 3) = .ok (.dup, 1) := by rw [hb]; exact d3
  have d4' : decode c.code (pc + 4) = .ok (.ldc_w k, 3) := by rw [hb]; exact d4
  have hstr' : vk_R RX11 k tx sa s' := vk_R.warm hW0 hsa
  obtain ⟨U, hsteps, hrun, hend, hW, hsame, ce, hce, hOv, hOc⟩ := x_ctor X₁ hx htr hown' h (fun x hx => nomatch hx) hfX hkX hcellA (by rw [hhp, hT9]; exact Nat.le_refl _) (msg := .ref sa) rfl
    (g := { method := m, pc := pc + 7, locals := ls, stack := .ref sa :: .ref T.heap.size :: .ref T.heap.size :: rest, locked := none }) rfl (hl.trans hml.symm) rfl rfl (rest := rest) rfl
    (by rw [hb]; exact d7) (by rw [hb]; exact d10) (fun x h => (htab x h).elim) (by show 2 + 3 < lev; omega) (by simp only [List.map_cons, List.sum_cons, hcat9]; show _ ≤ 64 * lev; omega) hlk
  obtain ⟨f1, f2⟩ := vx_frame hsame
  rw [hhp] at f1 f2
  have hWs : s.WarmedH U.vm := State.WarmedH.trans hW0 hW
  have hcl : s.vm.findClass xN = some ce.cls := by
    have h9 := hOc
    rw [hvm] at h9
    exact h9
  have hall : s.sameButNew ({ U with vm := s.vm } : State) locs 1 6 := by
    subst hA
    obtain ⟨e1, e2⟩ := hsame
    rw [State.setFrames_setFrames] at e1
    have h2 : (T.setVm s.vm).sameButNew ({ U with vm := s.vm } : State) [] (0 + 1) (0 + 6) := ⟨e1, e2⟩
    have h3 := X.same.trans h2
    rw [List.append_nil] at h3
    exact h3.mono (Nat.le_refl _) (Nat.le_refl _)
  refine ⟨U, ?_, .threw T.heap.size, hrun, hend, Or.inr ⟨T.heap.size, rfl, xN, ce, locs, x_thrown hw f1 (fun q hq => f2 q hq (fun z hz => nomatch hz)), hce, hOv, hcl, hWs, hall, hw.2.2.2.2⟩⟩
  refine st1 _ ?_
  show Steps p.tables e below (T1.setTop { method := m, pc := pc + 3, locals := ls, stack := .ref T.heap.size :: rest, locked := none }) _
  jvm_step X₁.here [X₁.here.top, hx, d3', Value.category]
  exact X₁.ldcStringW hx (own := RX11) (text := tx) (index := k) (a := sa) hown' hstr'.1 hstr'.2
    (g := { method := m, pc := pc + 4, locals := ls, stack := .ref T.heap.size :: .ref T.heap.size :: rest, locked := none }) rfl d4' _ hsteps
/-- the start of a call, with what a throw wants -/
theorem x_pre {own : String} {isC : List Nat} {H0 : Heap} (hH : H0 = s.heap) (hC' : cx D τ s m args own) (hA : ∀ q, H0.size ≤ q → A q) (hT : TX A s) (hSx : SX k tx s) (hw : wS D A H0 ws H locs) (hC : isC.map (fun i => ws[i]?) = wc.map some) (hn : va_nd isC = true) {Bs : List Value} : ∀ U : State, U.heap = H → s.WarmedH U.vm → xPc D τ wc H.size k tx Bs Bs.toArray U := fun U hU hW => by
  subst hH
  obtain ⟨sa, hsa⟩ := hSx
  have hF := va_free hw.2.1 hw.2.2 hA isC hC
  refine ⟨rfl, (g_pre hC' hw hC hn (Bs := Bs) U hU hW).2, ⟨?_, ?_⟩, sa, vk_R.warm hW hsa⟩
  · rw [hU]; exact ((hT.1.kept hw.2.2.2.1).moved hW.alike).narrow hF
  · rw [hU]; exact ((hT.2.kept hw.2.2.2.1).moved hW.alike).narrow hF
end RX

set_option maxHeartbeats 4000000 in
set_option maxRecDepth 100000 in
theorem t_hearse (l : Launch) (hst : l.stackTraces = false) (D : va_G) (τ : Nat → ClassId) (sz : Nat) (h0 : Nat) (q : Nat → Nat) (iv : Nat → Int) (gv : Nat → Int → Int) (fv : Nat → Nat → Option Nat) (v v2 : Int) (hp0 : iR v) (hp1 : iR v2) : vx_Met l yX11_hearse (lw_w yX11_hearse cX11_hearse 3 (some .int)) (rmk 8 1 6) (xPc D τ (WF τ h0 q iv gv fv) sz 225 "no such hearse" [.ref h0, .int (iI v), .int (iI v2)]) (va_Qi (fun (_ : Int32) (_ : Unit) => False) (fun _ _ => True) (va_A (WF τ h0 q iv gv fv) sz)) (XCA (va_A (WF τ h0 q iv gv fv) sz)) 1 6 (va_A (WF τ h0 q iv gv fv) sz) := by
  refine x_met (ret := (some .int)) (Qc := fun A => va_Qi (fun (_ : Int32) (_ : Unit) => False) (fun _ _ => True) A) (by decide +kernel) (Nat.le_of_ble_eq_true rfl) ?_
  intro p e s m args below meth c A ls hx hb hml hlk hC hT hSx htab hA hw hl
  have hC : cx D τ s m args RX11 := hC
  replace hw : wS D A s.heap [(h0, .inr (12, [.ref (q 0), .ref (q 2), .ref (q 4), .ref (q 11), .ref (q 18), .ref (q 25), .ref (q 32), .ref (q 35), .ref (q 44), .ref (q 45), .ref (q 46), .ref (q 48), .ref (q 51), .ref (q 54), .ref (q 57), .int (iI 0), .ref (q 80), .ref (q 83)])), ((q 4), .inr (7, [.ref (q 5), .ref (q 6), .ref (q 7), .ref (q 8), .ref (q 9), .ref (q 10), .int (iI 0), .int (iI 0), .int (iI 0), .int (iI 0), .int (iI 0)]))] s.heap [] := hw.pick [0, 5] (by decide) rfl
  have hl : lv_has ls 3 [(0, .ref h0), (1, .int (iI v)), (2, .int (iI v2))] := hl
  refine lv_aload_n hx hb dX11_hearse_0 rfl (lv_at hl 0 rfl) ?_
  refine gf_X11_26 hx hb hC hw 0 rfl rfl dX11_hearse_1 ?_
  refine lv_iload_n hx hb dX11_hearse_4 rfl (lv_at hl 1 rfl) ?_
  refine g_cVi (wr := [(h0, .inr (12, [.ref (q 0), .ref (q 2), .ref (q 4), .ref (q 11), .ref (q 18), .ref (q 25), .ref (q 32), .ref (q 35), .ref (q 44), .ref (q 45), .ref (q 46), .ref (q 48), .ref (q 51), .ref (q 54), .ref (q 57), .int (iI 0), .ref (q 80), .ref (q 83)]))]) (q0 := 0) (ci := 7) hx hb hml hC hA hw hl.1 (c_Scene_isHearse l D τ _ (q 4) (q 5) (q 6) (q 7) (q 8) (q 9) (q 10) 0 0 0 0 0 v (by omega) (by omega)) kX6_isHearse ml_X11_220 [1] [0] rfl rfl (by decide) (by decide) (by decide) rfl rfl rfl rfl (Nat.le_of_ble_eq_true rfl) ⟨by decide, by decide⟩ ⟨by decide, by decide⟩ rfl rfl dX11_hearse_5 (fun z1 w1 H locs hz1 hE1 hw => ?_)
  obtain ⟨hq1, rfl⟩ := hE1
  have hw : wS D A s.heap [(h0, .inr (12, [.ref (q 0), .ref (q 2), .ref (q 4), .ref (q 11), .ref (q 18), .ref (q 25), .ref (q 32), .ref (q 35), .ref (q 44), .ref (q 45), .ref (q 46), .ref (q 48), .ref (q 51), .ref (q 54), .ref (q 57), .int (iI 0), .ref (q 80), .ref (q 83)])), ((q 4), .inr (7, [.ref (q 5), .ref (q 6), .ref (q 7), .ref (q 8), .ref (q 9), .ref (q 10), .int (iI 0), .int (iI 0), .int (iI 0), .int (iI 0), .int (iI 0)]))] H locs := hw
  refine r_if_ne (tgt := 21) hx hb dX11_hearse_8 (by decide) (by omega) (fun hbr2 => (by exfalso; omega)) (fun hbr2 => ?_)
  exact x_throwS hx hb hst hml hlk hC hT hSx htab hw hl.1 (by decide) (Nat.le_of_ble_eq_true rfl) dX11_hearse_11 dX11_hearse_14 dX11_hearse_15 dX11_hearse_17 dX11_hearse_20
set_option maxHeartbeats 4000000 in
set_option maxRecDepth 100000 in
theorem lw_hearse (l : Launch) (hst : l.stackTraces = false) (D : va_G) (τ : Nat → ClassId) (sz : Nat) (h0 : Nat) (q : Nat → Nat) (iv : Nat → Int) (gv : Nat → Int → Int) (fv : Nat → Nat → Option Nat) (v v2 : Int) (a3 : Nat) (hp0 : iR v) (hp1 : iR v2) : Met l yL_hearse (.codeWith yL_hearse cL_hearse 5 (some .int) [(0, 10, 13, 13)] :: lw_good) (rmk 9 1 6) (xPc D τ (WF τ h0 q iv gv fv) sz 225 "no such hearse" [.ref h0, .int (iI v), .int (iI v2), .ref a3]) (gQi D (fun z w => z = 1 ∧ w = []) (va_A (WF τ h0 q iv gv fv) sz)) 1 6 (va_A (WF τ h0 q iv gv fv) sz) := by
  refine va_MetW (cc := cL_hearse) (maxL := 5) (ret := some .int) (hh := [(0, 10, 13, 13)]) (by decide +kernel) rfl ?_
  intro p e s m args below meth c s₁ B hml hv
  obtain ⟨rfl, ⟨hsz, hP, hK, hD0⟩, hT, hSx⟩ := hv
  have hts := atoms_spec (ws := .codeWith yL_hearse cL_hearse 5 (some .int) [(0, 10, 13, 13)] :: lw_good) B.pre
  have hown : s.vm.findClass (yL_hearse).cls = some m.cls := findClass_of_methodNamed B.named
  obtain ⟨x9, htb, hcv9, hct9, hhp9⟩ : ∃ x9, c.exceptionTable.toList = [] ++ x9 :: [] ∧ covers x9 5 = true ∧ x9.catchType = 13 ∧ x9.handlerPc = 13 := ⟨_, vx_table (x := yL_hearse) B (hts _ List.mem_cons_self), rfl, rfl, rfl⟩
  have hx := B.exec
  have hb := B.bytes
  have hr := B.returns
  have hlk := B.notSynchronized
  have hC : cx D τ s m ([.ref h0, .int (iI v), .int (iI v2), .ref a3] : List Value).toArray RL := ⟨fun w hw => hts w (List.mem_cons_of_mem _ hw), hown, hK.1, hK.2⟩
  subst hsz
  have hD := hD0.self (sz := s.heap.size)
  generalize hAe : va_A (WF τ h0 q iv gv fv) s.heap.size = A at hD hT ⊢
  have hA : ∀ q : Nat, s.heap.size ≤ q → A q := fun q h => by rw [← hAe]; exact Or.inr h
  have hw : wS D A s.heap (WF τ h0 q iv gv fv) s.heap [] := ⟨hP, hD, va_S.rf⟩
  have hl := lv_entry [.ref h0, .int (iI v), .int (iI v2), .ref a3] (n := 5) (Nat.le_of_ble_eq_true rfl)
  rw [lg_entry_eq]
  generalize (lg_sl [.ref h0, .int (iI v), .int (iI v2), .ref a3] ++ List.replicate (5 - (lg_sl [.ref h0, .int (iI v), .int (iI v2), .ref a3]).length) Slot.unset).toArray = ls at hl ⊢
  have hl : lv_has ls 5 [(0, .ref h0), (1, .int (iI v)), (2, .int (iI v2)), (3, .ref a3)] := hl
  refine lv_aload_n hx hb dL_hearse_0 rfl (lv_at hl 3 rfl) ?_
  refine r_iconst hx hb dL_hearse_1 ?_
  refine lv_aload_n hx hb dL_hearse_2 rfl (lv_at hl 0 rfl) ?_
  refine lv_iload_n hx hb dL_hearse_3 rfl (lv_at hl 1 rfl) ?_
  refine lv_iload_n hx hb dL_hearse_4 rfl (lv_at hl 2 rfl) ?_
  have hCm : [0, 1, 2, 3, 4, 5, 6, 7, 8, 9, 10, 11, 12, 13, 14, 15, 16, 17, 18, 19, 20, 21, 22, 23, 24, 25, 26, 27, 28, 29, 30, 31, 32, 33, 34, 35, 36, 37, 38, 39, 40, 41, 42, 43, 44, 45, 46, 47, 48, 49, 50, 51, 52, 53, 54, 55, 56, 57, 58, 59, 60, 61, 62, 63, 64, 65, 66, 67, 68, 69, 70, 71, 72, 73, 74, 75, 76, 77, 78, 79, 80, 81, 82, 83, 84, 85, 86].map (fun i => (WF τ h0 q iv gv fv)[i]?) = (WF τ h0 q iv gv fv).map some := rfl
  have hF := va_free hw.2.1 hw.2.2 hA [0, 1, 2, 3, 4, 5, 6, 7, 8, 9, 10, 11, 12, 13, 14, 15, 16, 17, 18, 19, 20, 21, 22, 23, 24, 25, 26, 27, 28, 29, 30, 31, 32, 33, 34, 35, 36, 37, 38, 39, 40, 41, 42, 43, 44, 45, 46, 47, 48, 49, 50, 51, 52, 53, 54, 55, 56, 57, 58, 59, 60, 61, 62, 63, 64, 65, 66, 67, 68, 69, 70, 71, 72, 73, 74, 75, 76, 77, 78, 79, 80, 81, 82, 83, 84, 85, 86] hCm
  refine vx_calli (vx_runV (As := [.int (iI v), .int (iI v2)]) (rest := [.int (iI 0), .ref a3]) ⟨hx, hb, hml, hC.2.1, hC.1⟩ (t_hearse l hst D τ _ h0 q iv gv fv v v2 hp0 hp1) (cwV 2 hC.1 (g_wsV kX11_hearse ml_L_7) rfl rfl rfl ⟨rfl, kX11_hearse.2.2.2⟩ ⟨by decide, by decide⟩) ⟨xPc_blind, va_recv (ci := 12) (q0 := 0) hC.2.2.1 (P_pick hw.1 hCm) rfl rfl, x_pre rfl hC hA hT hSx hw hCm (by decide)⟩ rfl rfl hl.1 rfl (lv_room (Nat.le_of_ble_eq_true rfl)) dL_hearse_5 ⟨by decide, by decide⟩) hw.2.2 (fun q _ h => hF q h) hF (fun q _ h => hF q h) (fun E ce q9 u t H1 locs1 ht hvm hp hB hsz hk hS hce hcv hcl => ?_) (fun r u t H1 locs1 ht hvm hp hB hsz hk hS => hp.elim)
  obtain rfl : E = "java/util/NoSuchElementException" := hB
  have hw : wS D A s.heap [] H1 locs1 := ⟨fun k q h => by simp at h, ⟨fun i j p q h => by simp at h, fun k q h => by simp at h⟩, hS⟩
  refine vx_catch (name := "java/util/NoSuchElementException") hC.2.1 [] x9 [] htb (fun z h => nomatch h) hcv9 (by rw [hct9]; decide) (by rw [hct9]; exact hC.1 _ x_cl13) (NXw.use hC.2.2.2.1 _ x_cast) hce hcv hcl ?_
  rw [hhp9]
  refine lv_astore (lv' := [(4, .ref q9), (0, .ref h0), (1, .int (iI v)), (2, .int (iI v2)), (3, .ref a3)]) hx hb dL_hearse_13 hl (by decide) rfl (fun ls hl => ?_)
  refine r_iconst hx hb dL_hearse_15 ?_
  exact r_iret (z := 1) hx hb hr hlk hw [] [] rfl (by decide) (by decide) ⟨rfl, rfl⟩ dL_hearse_16
set_option maxHeartbeats 4000000 in
set_option maxRecDepth 100000 in
theorem t_mourner (l : Launch) (hst : l.stackTraces = false) (D : va_G) (τ : Nat → ClassId) (sz : Nat) (h0 : Nat) (q : Nat → Nat) (iv : Nat → Int) (gv : Nat → Int → Int) (fv : Nat → Nat → Option Nat) (v v2 : Int) (hp0 : iR v) (hp1 : iR v2) : vx_Met l yX11_mourner (lw_w yX11_mourner cX11_mourner 3 (some .int)) (rmk 8 1 6) (xPc D τ (WF τ h0 q iv gv fv) sz 268 "no such mourner" [.ref h0, .int (iI v), .int (iI v2)]) (va_Qi (fun (_ : Int32) (_ : Unit) => False) (fun _ _ => True) (va_A (WF τ h0 q iv gv fv) sz)) (XCA (va_A (WF τ h0 q iv gv fv) sz)) 1 6 (va_A (WF τ h0 q iv gv fv) sz) := by
  refine x_met (ret := (some .int)) (Qc := fun A => va_Qi (fun (_ : Int32) (_ : Unit) => False) (fun _ _ => True) A) (by decide +kernel) (Nat.le_of_ble_eq_true rfl) ?_
  intro p e s m args below meth c A ls hx hb hml hlk hC hT hSx htab hA hw hl
  have hC : cx D τ s m args RX11 := hC
  replace hw : wS D A s.heap [(h0, .inr (12, [.ref (q 0), .ref (q 2), .ref (q 4), .ref (q 11), .ref (q 18), .ref (q 25), .ref (q 32), .ref (q 35), .ref (q 44), .ref (q 45), .ref (q 46), .ref (q 48), .ref (q 51), .ref (q 54), .ref (q 57), .int (iI 0), .ref (q 80), .ref (q 83)])), ((q 4), .inr (7, [.ref (q 5), .ref (q 6), .ref (q 7), .ref (q 8), .ref (q 9), .ref (q 10), .int (iI 0), .int (iI 0), .int (iI 0), .int (iI 0), .int (iI 0)]))] s.heap [] := hw.pick [0, 5] (by decide) rfl
  have hl : lv_has ls 3 [(0, .ref h0), (1, .int (iI v)), (2, .int (iI v2))] := hl
  refine lv_aload_n hx hb dX11_mourner_0 rfl (lv_at hl 0 rfl) ?_
  refine gf_X11_26 hx hb hC hw 0 rfl rfl dX11_mourner_1 ?_
  refine lv_iload_n hx hb dX11_mourner_4 rfl (lv_at hl 1 rfl) ?_
  refine g_cVi (wr := [(h0, .inr (12, [.ref (q 0), .ref (q 2), .ref (q 4), .ref (q 11), .ref (q 18), .ref (q 25), .ref (q 32), .ref (q 35), .ref (q 44), .ref (q 45), .ref (q 46), .ref (q 48), .ref (q 51), .ref (q 54), .ref (q 57), .int (iI 0), .ref (q 80), .ref (q 83)]))]) (q0 := 0) (ci := 7) hx hb hml hC hA hw hl.1 (c_Scene_isMourner l D τ _ (q 4) (q 5) (q 6) (q 7) (q 8) (q 9) (q 10) 0 0 0 0 0 v (by omega) (by omega)) kX6_isMourner ml_X11_265 [1] [0] rfl rfl (by decide) (by decide) (by decide) rfl rfl rfl rfl (Nat.le_of_ble_eq_true rfl) ⟨by decide, by decide⟩ ⟨by decide, by decide⟩ rfl rfl dX11_mourner_5 (fun z1 w1 H locs hz1 hE1 hw => ?_)
  obtain ⟨hq1, rfl⟩ := hE1
  have hw : wS D A s.heap [(h0, .inr (12, [.ref (q 0), .ref (q 2), .ref (q 4), .ref (q 11), .ref (q 18), .ref (q 25), .ref (q 32), .ref (q 35), .ref (q 44), .ref (q 45), .ref (q 46), .ref (q 48), .ref (q 51), .ref (q 54), .ref (q 57), .int (iI 0), .ref (q 80), .ref (q 83)])), ((q 4), .inr (7, [.ref (q 5), .ref (q 6), .ref (q 7), .ref (q 8), .ref (q 9), .ref (q 10), .int (iI 0), .int (iI 0), .int (iI 0), .int (iI 0), .int (iI 0)]))] H locs := hw
  refine r_if_ne (tgt := 22) hx hb dX11_mourner_8 (by decide) (by omega) (fun hbr2 => (by exfalso; omega)) (fun hbr2 => ?_)
  exact x_throwSW hx hb hst hml hlk hC hT hSx htab hw hl.1 (by decide) (Nat.le_of_ble_eq_true rfl) dX11_mourner_11 dX11_mourner_14 dX11_mourner_15 dX11_mourner_18 dX11_mourner_21
set_option maxHeartbeats 4000000 in
set_option maxRecDepth 100000 in
theorem lw_mourner (l : Launch) (hst : l.stackTraces = false) (D : va_G) (τ : Nat → ClassId) (sz : Nat) (h0 : Nat) (q : Nat → Nat) (iv : Nat → Int) (gv : Nat → Int → Int) (fv : Nat → Nat → Option Nat) (v v2 : Int) (a3 : Nat) (hp0 : iR v) (hp1 : iR v2) : Met l yL_mourner (.codeWith yL_mourner cL_mourner 5 (some .int) [(0, 10, 13, 13)] :: lw_good) (rmk 9 1 6) (xPc D τ (WF τ h0 q iv gv fv) sz 268 "no such mourner" [.ref h0, .int (iI v), .int (iI v2), .ref a3]) (gQi D (fun z w => z = 1 ∧ w = []) (va_A (WF τ h0 q iv gv fv) sz)) 1 6 (va_A (WF τ h0 q iv gv fv) sz) := by
  refine va_MetW (cc := cL_mourner) (maxL := 5) (ret := some .int) (hh := [(0, 10, 13, 13)]) (by decide +kernel) rfl ?_
  intro p e s m args below meth c s₁ B hml hv
  obtain ⟨rfl, ⟨hsz, hP, hK, hD0⟩, hT, hSx⟩ := hv
  have hts := atoms_spec (ws := .codeWith yL_mourner cL_mourner 5 (some .int) [(0, 10, 13, 13)] :: lw_good) B.pre
  have hown : s.vm.findClass (yL_mourner).cls = some m.cls := findClass_of_methodNamed B.named
  obtain ⟨x9, htb, hcv9, hct9, hhp9⟩ : ∃ x9, c.exceptionTable.toList = [] ++ x9 :: [] ∧ covers x9 5 = true ∧ x9.catchType = 13 ∧ x9.handlerPc = 13 := ⟨_, vx_table (x := yL_mourner) B (hts _ List.mem_cons_self), rfl, rfl, rfl⟩
  have hx := B.exec
  have hb := B.bytes
  have hr := B.returns
  have hlk := B.notSynchronized
  have hC : cx D τ s m ([.ref h0, .int (iI v), .int (iI v2), .ref a3] : List Value).toArray RL := ⟨fun w hw => hts w (List.mem_cons_of_mem _ hw), hown, hK.1, hK.2⟩
  subst hsz
  have hD := hD0.self (sz := s.heap.size)
  generalize hAe : va_A (WF τ h0 q iv gv fv) s.heap.size = A at hD hT ⊢
  have hA : ∀ q : Nat, s.heap.size ≤ q → A q := fun q h => by rw [← hAe]; exact Or.inr h
  have hw : wS D A s.heap (WF τ h0 q iv gv fv) s.heap [] := ⟨hP, hD, va_S.rf⟩
  have hl := lv_entry [.ref h0, .int (iI v), .int (iI v2), .ref a3] (n := 5) (Nat.le_of_ble_eq_true rfl)
  rw [lg_entry_eq]
  generalize (lg_sl [.ref h0, .int (iI v), .int (iI v2), .ref a3] ++ List.replicate (5 - (lg_sl [.ref h0, .int (iI v), .int (iI v2), .ref a3]).length) Slot.unset).toArray = ls at hl ⊢
  have hl : lv_has ls 5 [(0, .ref h0), (1, .int (iI v)), (2, .int (iI v2)), (3, .ref a3)] := hl
  refine lv_aload_n hx hb dL_mourner_0 rfl (lv_at hl 3 rfl) ?_
  refine r_iconst hx hb dL_mourner_1 ?_
  refine lv_aload_n hx hb dL_mourner_2 rfl (lv_at hl 0 rfl) ?_
  refine lv_iload_n hx hb dL_mourner_3 rfl (lv_at hl 1 rfl) ?_
  refine lv_iload_n hx hb dL_mourner_4 rfl (lv_at hl 2 rfl) ?_
  have hCm : [0, 1, 2, 3, 4, 5, 6, 7, 8, 9, 10, 11, 12, 13, 14, 15, 16, 17, 18, 19, 20, 21, 22, 23, 24, 25, 26, 27, 28, 29, 30, 31, 32, 33, 34, 35, 36, 37, 38, 39, 40, 41, 42, 43, 44, 45, 46, 47, 48, 49, 50, 51, 52, 53, 54, 55, 56, 57, 58, 59, 60, 61, 62, 63, 64, 65, 66, 67, 68, 69, 70, 71, 72, 73, 74, 75, 76, 77, 78, 79, 80, 81, 82, 83, 84, 85, 86].map (fun i => (WF τ h0 q iv gv fv)[i]?) = (WF τ h0 q iv gv fv).map some := rfl
  have hF := va_free hw.2.1 hw.2.2 hA [0, 1, 2, 3, 4, 5, 6, 7, 8, 9, 10, 11, 12, 13, 14, 15, 16, 17, 18, 19, 20, 21, 22, 23, 24, 25, 26, 27, 28, 29, 30, 31, 32, 33, 34, 35, 36, 37, 38, 39, 40, 41, 42, 43, 44, 45, 46, 47, 48, 49, 50, 51, 52, 53, 54, 55, 56, 57, 58, 59, 60, 61, 62, 63, 64, 65, 66, 67, 68, 69, 70, 71, 72, 73, 74, 75, 76, 77, 78, 79, 80, 81, 82, 83, 84, 85, 86] hCm
  refine vx_calli (vx_runV (As := [.int (iI v), .int (iI v2)]) (rest := [.int (iI 0), .ref a3]) ⟨hx, hb, hml, hC.2.1, hC.1⟩ (t_mourner l hst D τ _ h0 q iv gv fv v v2 hp0 hp1) (cwV 2 hC.1 (g_wsV kX11_mourner ml_L_15) rfl rfl rfl ⟨rfl, kX11_mourner.2.2.2⟩ ⟨by decide, by decide⟩) ⟨xPc_blind, va_recv (ci := 12) (q0 := 0) hC.2.2.1 (P_pick hw.1 hCm) rfl rfl, x_pre rfl hC hA hT hSx hw hCm (by decide)⟩ rfl rfl hl.1 rfl (lv_room (Nat.le_of_ble_eq_true rfl)) dL_mourner_5 ⟨by decide, by decide⟩) hw.2.2 (fun q _ h => hF q h) hF (fun q _ h => hF q h) (fun E ce q9 u t H1 locs1 ht hvm hp hB hsz hk hS hce hcv hcl => ?_) (fun r u t H1 locs1 ht hvm hp hB hsz hk hS => hp.elim)
  obtain rfl : E = "java/util/NoSuchElementException" := hB
  have hw : wS D A s.heap [] H1 locs1 := ⟨fun k q h => by simp at h, ⟨fun i j p q h => by simp at h, fun k q h => by simp at h⟩, hS⟩
  refine vx_catch (name := "java/util/NoSuchElementException") hC.2.1 [] x9 [] htb (fun z h => nomatch h) hcv9 (by rw [hct9]; decide) (by rw [hct9]; exact hC.1 _ x_cl13) (NXw.use hC.2.2.2.1 _ x_cast) hce hcv hcl ?_
  rw [hhp9]
  refine lv_astore (lv' := [(4, .ref q9), (0, .ref h0), (1, .int (iI v)), (2, .int (iI v2)), (3, .ref a3)]) hx hb dL_mourner_13 hl (by decide) rfl (fun ls hl => ?_)
  refine r_iconst hx hb dL_mourner_15 ?_
  exact r_iret (z := 1) hx hb hr hlk hw [] [] rfl (by decide) (by decide) ⟨rfl, rfl⟩ dL_mourner_16
set_option maxHeartbeats 4000000 in
set_option maxRecDepth 100000 in
theorem t_row (l : Launch) (hst : l.stackTraces = false) (D : va_G) (τ : Nat → ClassId) (sz : Nat) (h0 : Nat) (q : Nat → Nat) (iv : Nat → Int) (gv : Nat → Int → Int) (fv : Nat → Nat → Option Nat) (i1 : Int) (hp0 : iR i1) : vx_Met l yX11_row (lw_w yX11_row cX11_row 2 (some .long)) (rmk 8 1 6) (xPc D τ (WF τ h0 q iv gv fv) sz 492 "no such number of the row" [.ref h0, .int (iI i1)]) (va_Ql (fun (_ : Int64) (_ : Unit) => False) (fun _ _ => True) (va_A (WF τ h0 q iv gv fv) sz)) (XCA (va_A (WF τ h0 q iv gv fv) sz)) 1 6 (va_A (WF τ h0 q iv gv fv) sz) := by
  refine x_met (ret := (some .long)) (Qc := fun A => va_Ql (fun (_ : Int64) (_ : Unit) => False) (fun _ _ => True) A) (by decide +kernel) (Nat.le_of_ble_eq_true rfl) ?_
  intro p e s m args below meth c A ls hx hb hml hlk hC hT hSx htab hA hw hl
  have hC : cx D τ s m args RX11 := hC
  replace hw : wS D A s.heap [(h0, .inr (12, [.ref (q 0), .ref (q 2), .ref (q 4), .ref (q 11), .ref (q 18), .ref (q 25), .ref (q 32), .ref (q 35), .ref (q 44), .ref (q 45), .ref (q 46), .ref (q 48), .ref (q 51), .ref (q 54), .ref (q 57), .int (iI 0), .ref (q 80), .ref (q 83)])), ((q 46), .inr (5, [.ref (q 47), .int (iI 0)]))] s.heap [] := hw.pick [0, 47] (by decide) rfl
  have hl : lv_has ls 2 [(0, .ref h0), (1, .int (iI i1))] := hl
  refine lv_iload_n hx hb dX11_row_0 rfl (lv_at hl 1 rfl) ?_
  refine r_if_lt (tgt := 15) hx hb dX11_row_1 (by decide) (by omega) (fun hbr1 => ?_) (fun hbr1 => ?_)
  · skip
    exact x_throwSW hx hb hst hml hlk hC hT hSx htab hw hl.1 (by decide) (Nat.le_of_ble_eq_true rfl) dX11_row_15 dX11_row_18 dX11_row_19 dX11_row_22 dX11_row_25
  · skip
    refine lv_iload_n hx hb dX11_row_4 rfl (lv_at hl 1 rfl) ?_
    refine lv_aload_n hx hb dX11_row_5 rfl (lv_at hl 0 rfl) ?_
    refine gf_X11_66 hx hb hC hw 0 rfl rfl dX11_row_6 ?_
    refine gf_X11_359 hx hb hC hw 1 rfl rfl dX11_row_9 ?_
    refine r_icmp_lt (tgt := 26) hx hb dX11_row_12 (by decide) (by omega) (by decide) (fun hbr2 => (by exfalso; omega)) (fun hbr2 => ?_)
    exact x_throwSW hx hb hst hml hlk hC hT hSx htab hw hl.1 (by decide) (Nat.le_of_ble_eq_true rfl) dX11_row_15 dX11_row_18 dX11_row_19 dX11_row_22 dX11_row_25
set_option maxHeartbeats 4000000 in
set_option maxRecDepth 100000 in
theorem lw_row (l : Launch) (hst : l.stackTraces = false) (D : va_G) (τ : Nat → ClassId) (sz : Nat) (h0 : Nat) (q : Nat → Nat) (iv : Nat → Int) (gv : Nat → Int → Int) (fv : Nat → Nat → Option Nat) (i1 : Int) (a3 : Nat) (hp0 : iR i1) : Met l yL_row (.codeWith yL_row cL_row 4 (some .int) [(0, 8, 11, 13)] :: lw_good) (rmk 9 1 6) (xPc D τ (WF τ h0 q iv gv fv) sz 492 "no such number of the row" [.ref h0, .int (iI i1), .ref a3]) (gQi D (fun z w => z = 1 ∧ w = []) (va_A (WF τ h0 q iv gv fv) sz)) 1 6 (va_A (WF τ h0 q iv gv fv) sz) := by
  refine va_MetW (cc := cL_row) (maxL := 4) (ret := some .int) (hh := [(0, 8, 11, 13)]) (by decide +kernel) rfl ?_
  intro p e s m args below meth c s₁ B hml hv
  obtain ⟨rfl, ⟨hsz, hP, hK, hD0⟩, hT, hSx⟩ := hv
  have hts := atoms_spec (ws := .codeWith yL_row cL_row 4 (some .int) [(0, 8, 11, 13)] :: lw_good) B.pre
  have hown : s.vm.findClass (yL_row).cls = some m.cls := findClass_of_methodNamed B.named
  obtain ⟨x9, htb, hcv9, hct9, hhp9⟩ : ∃ x9, c.exceptionTable.toList = [] ++ x9 :: [] ∧ covers x9 4 = true ∧ x9.catchType = 13 ∧ x9.handlerPc = 11 := ⟨_, vx_table (x := yL_row) B (hts _ List.mem_cons_self), rfl, rfl, rfl⟩
  have hx := B.exec
  have hb := B.bytes
  have hr := B.returns
  have hlk := B.notSynchronized
  have hC : cx D τ s m ([.ref h0, .int (iI i1), .ref a3] : List Value).toArray RL := ⟨fun w hw => hts w (List.mem_cons_of_mem _ hw), hown, hK.1, hK.2⟩
  subst hsz
  have hD := hD0.self (sz := s.heap.size)
  generalize hAe : va_A (WF τ h0 q iv gv fv) s.heap.size = A at hD hT ⊢
  have hA : ∀ q : Nat, s.heap.size ≤ q → A q := fun q h => by rw [← hAe]; exact Or.inr h
  have hw : wS D A s.heap (WF τ h0 q iv gv fv) s.heap [] := ⟨hP, hD, va_S.rf⟩
  have hl := lv_entry [.ref h0, .int (iI i1), .ref a3] (n := 4) (Nat.le_of_ble_eq_true rfl)
  rw [lg_entry_eq]
  generalize (lg_sl [.ref h0, .int (iI i1), .ref a3] ++ List.replicate (4 - (lg_sl [.ref h0, .int (iI i1), .ref a3]).length) Slot.unset).toArray = ls at hl ⊢
  have hl : lv_has ls 4 [(0, .ref h0), (1, .int (iI i1)), (2, .ref a3)] := hl
  refine lv_aload_n hx hb dL_row_0 rfl (lv_at hl 2 rfl) ?_
  refine r_iconst hx hb dL_row_1 ?_
  refine lv_aload_n hx hb dL_row_2 rfl (lv_at hl 0 rfl) ?_
  refine lv_iload_n hx hb dL_row_3 rfl (lv_at hl 1 rfl) ?_
  have hCm : [0, 1, 2, 3, 4, 5, 6, 7, 8, 9, 10, 11, 12, 13, 14, 15, 16, 17, 18, 19, 20, 21, 22, 23, 24, 25, 26, 27, 28, 29, 30, 31, 32, 33, 34, 35, 36, 37, 38, 39, 40, 41, 42, 43, 44, 45, 46, 47, 48, 49, 50, 51, 52, 53, 54, 55, 56, 57, 58, 59, 60, 61, 62, 63, 64, 65, 66, 67, 68, 69, 70, 71, 72, 73, 74, 75, 76, 77, 78, 79, 80, 81, 82, 83, 84, 85, 86].map (fun i => (WF τ h0 q iv gv fv)[i]?) = (WF τ h0 q iv gv fv).map some := rfl
  have hF := va_free hw.2.1 hw.2.2 hA [0, 1, 2, 3, 4, 5, 6, 7, 8, 9, 10, 11, 12, 13, 14, 15, 16, 17, 18, 19, 20, 21, 22, 23, 24, 25, 26, 27, 28, 29, 30, 31, 32, 33, 34, 35, 36, 37, 38, 39, 40, 41, 42, 43, 44, 45, 46, 47, 48, 49, 50, 51, 52, 53, 54, 55, 56, 57, 58, 59, 60, 61, 62, 63, 64, 65, 66, 67, 68, 69, 70, 71, 72, 73, 74, 75, 76, 77, 78, 79, 80, 81, 82, 83, 84, 85, 86] hCm
  refine vx_calll (vx_runV (As := [.int (iI i1)]) (rest := [.int (iI 0), .ref a3]) ⟨hx, hb, hml, hC.2.1, hC.1⟩ (t_row l hst D τ _ h0 q iv gv fv i1 hp0) (cwV 1 hC.1 (g_wsV kX11_row ml_L_18) rfl rfl rfl ⟨rfl, kX11_row.2.2.2⟩ ⟨by decide, by decide⟩) ⟨xPc_blind, va_recv (ci := 12) (q0 := 0) hC.2.2.1 (P_pick hw.1 hCm) rfl rfl, x_pre rfl hC hA hT hSx hw hCm (by decide)⟩ rfl rfl hl.1 rfl (lv_room (Nat.le_of_ble_eq_true rfl)) dL_row_4 ⟨by decide, by decide⟩) hw.2.2 (fun q _ h => hF q h) hF (fun q _ h => hF q h) (fun E ce q9 u t H1 locs1 ht hvm hp hB hsz hk hS hce hcv hcl => ?_) (fun r u t H1 locs1 ht hvm hp hB hsz hk hS => hp.elim)
  obtain rfl : E = "java/util/NoSuchElementException" := hB
  have hw : wS D A s.heap [] H1 locs1 := ⟨fun k q h => by simp at h, ⟨fun i j p q h => by simp at h, fun k q h => by simp at h⟩, hS⟩
  refine vx_catch (name := "java/util/NoSuchElementException") hC.2.1 [] x9 [] htb (fun z h => nomatch h) hcv9 (by rw [hct9]; decide) (by rw [hct9]; exact hC.1 _ x_cl13) (NXw.use hC.2.2.2.1 _ x_cast) hce hcv hcl ?_
  rw [hhp9]
  refine lv_astore_n (lv' := [(3, .ref q9), (0, .ref h0), (1, .int (iI i1)), (2, .ref a3)]) hx hb dL_row_11 rfl hl (by decide) rfl (fun ls hl => ?_)
  refine r_iconst hx hb dL_row_12 ?_
  exact r_iret (z := 1) hx hb hr hlk hw [] [] rfl (by decide) (by decide) ⟨rfl, rfl⟩ dL_row_13
