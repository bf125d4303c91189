/-! a static call of a method with a table of its own; what a throw wants, at the law's entry -/
section RCW
variable {p : Program} {l : Launch} {e : Env} {R : Room} {s : State} {m : MethodId} {args : Array Value} {below : List Frame} {meth : Method} {c : Code} {H : Heap} {locs : List Loc} {cells slots : Nat} {Q : State → Prop}
variable {cc : ByteArray} {pc : Nat} {ls : Array Slot} {rest st0 : List Value} {D : va_G} {A : Nat → Prop} {ws wc wr : va_W} {τ : Nat → ClassId} {own : String}
variable {y : MethodName} {b : ByteArray} {mL n lev index nL cells' slots' k : Nat} {tx : String} {As : List Value} {hh : List (Nat × Nat × Nat × Nat)}
theorem g_cW {E : Int → va_W → Prop} (hx : p.tables.exec = Jvm.exec) (hb : c.code = cc) (hml : c.maxLocals = nL) (hC : cx D τ s m args own) (hA : ∀ q, s.heap.size ≤ q → A q) (hT : TX A s) (hSx : SX k tx s) (hw : wS D A s.heap ws H locs) (hl : ls.size = nL) (M : Met l y (.codeWith y b mL (some .int) hh :: lw_good) (rmk lev 1 6) (xPc D τ wc H.size k tx As) (gQi D E (va_A wc H.size)) 1 6 (va_A wc H.size)) (hg : ∀ w ∈ va_wsS own index y (Cond.codeWith y b mL (some .int) hh :: lw_good), w ∈ lw_good) (hd2 : y.cls ≠ "java/lang/invoke/MethodHandle" ∧ y.cls ≠ "java/lang/invoke/VarHandle" ∧ (parseMethodDescriptor y.desc).map (fun d => d.parameters.length) = some n) (isC isR : List Nat) (hCm : isC.map (fun i => ws[i]?) = wc.map some) (hRm : isR.map (fun i => ws[i]?) = wr.map some) (hnC : va_nd isC = true) (hnR : va_nd isR = true) (hdis : ∀ i ∈ isR, i ∉ isC) (hst : st0 = As.reverse ++ rest) (hn : As.length = n) (hcat : (rest.map fun v => v.category).sum ≤ 8) (hroom : lev + 1 ≤ R.frames ∧ 8 + (mL + 11) + 64 * lev ≤ R.locals) (hcs : cells + 1 ≤ R.cells ∧ slots + 6 ≤ R.slots) (hc2 : cells + 1 = cells') (hs2 : slots + 6 = slots') (hd : decode cc pc = .ok (.invokestatic index, 3))
    (kk : ∀ (z : Int) (w1 : va_W) (H : Heap) (locs : List Loc), iR z → E z w1 → wS D A s.heap (wr ++ w1) H locs → W p l e R s m args below meth c H locs cells' slots' Q (F0 m (pc + 3) ls (.int (iI z) :: rest))) : W p l e R s m args below meth c H locs cells slots Q (F0 m pc ls st0) := by
  have hF := va_free hw.2.1 hw.2.2 hA isC hCm
  refine va_calli (vx_runSW ⟨hx, hb, hml, hC.2.1, hC.1⟩ M (vx_cwSW n hC.1 (g_good (fun _ h => h) hg) rfl rfl rfl hd2 hroom) ⟨xPc_blind, x_pre rfl hC hA hT hSx hw hCm hnC⟩ rfl hn hl hst (lv_room hcat) hd hcs) hw.2.2 (fun q _ h => hF q h) hF (fun r u t H1 locs1 ht hvm hp hB hsz hk1 hS => ?_)
  obtain ⟨z, hz, e1, hB⟩ := hB
  obtain ⟨w1, hE, h1⟩ := g_behind hw hA hCm hRm hnR hdis ht hk1 hS hB
  subst hc2
  subst hs2
  rw [hp, e1]
  exact kk z w1 H1 locs1 hz hE h1
end RCW
theorem g_law {idx mL : Nat} {y : MethodName} {b : ByteArray} {hh : List (Nat × Nat × Nat × Nat)} (h1 : Cond.methodLink RL idx y ∈ lw_good) (h2 : Cond.static y ∈ lw_good) (h3 : Cond.initialized y.cls ∈ lw_good) (h4 : Cond.codeWith y b mL (some .int) hh ∈ lw_good) : ∀ w ∈ va_wsS RL idx y (Cond.codeWith y b mL (some .int) hh :: lw_good), w ∈ lw_good := by
  unfold va_wsS
  exact mem1 h1 (mem1 h2 (mem1 h3 (mem1 h4 (fun _ h => h))))
theorem g_law_hearse : ∀ w ∈ va_wsS RL 57 yL_hearse (Cond.codeWith yL_hearse cL_hearse 5 (some .int) [(0, 10, 13, 13)] :: lw_good), w ∈ lw_good := g_law (lw_gl (ws := [_]) (by decide +kernel) _ (List.mem_singleton.mpr rfl)) (lw_gl (ws := [_]) (by decide +kernel) _ (List.mem_singleton.mpr rfl)) (lw_gl (ws := [_]) (by decide +kernel) _ (List.mem_singleton.mpr rfl)) (lw_gl (ws := [_]) (by decide +kernel) _ (List.mem_singleton.mpr rfl))
theorem g_law_mourner : ∀ w ∈ va_wsS RL 66 yL_mourner (Cond.codeWith yL_mourner cL_mourner 5 (some .int) [(0, 10, 13, 13)] :: lw_good), w ∈ lw_good := g_law (lw_gl (ws := [_]) (by decide +kernel) _ (List.mem_singleton.mpr rfl)) (lw_gl (ws := [_]) (by decide +kernel) _ (List.mem_singleton.mpr rfl)) (lw_gl (ws := [_]) (by decide +kernel) _ (List.mem_singleton.mpr rfl)) (lw_gl (ws := [_]) (by decide +kernel) _ (List.mem_singleton.mpr rfl))
theorem g_law_row : ∀ w ∈ va_wsS RL 203 yL_row (Cond.codeWith yL_row cL_row 4 (some .int) [(0, 8, 11, 13)] :: lw_good), w ∈ lw_good := g_law (lw_gl (ws := [_]) (by decide +kernel) _ (List.mem_singleton.mpr rfl)) (lw_gl (ws := [_]) (by decide +kernel) _ (List.mem_singleton.mpr rfl)) (lw_gl (ws := [_]) (by decide +kernel) _ (List.mem_singleton.mpr rfl)) (lw_gl (ws := [_]) (by decide +kernel) _ (List.mem_singleton.mpr rfl))
theorem SX_of {D : va_G} {τ : Nat → ClassId} {s : State} {b : Addr} {k : Nat} {tx : String} (hts : ∀ w ∈ lw_tbl, w.before #[Value.ref b] s = true) (hK : va_K D vwCl (ty5 τ) s) (h : Cond.stringRef RX11 k tx ∈ lw_tbl) : SX k tx s := by
  have hcur : s.vm.findClass RX11 = some (D.1 12) := (hK.1 12 (RX11, TX11, 18) rfl).2.1
  obtain ⟨_, _, _, a, -, -, -, -, -, ha⟩ := Cond.stringRef_spec hcur (hts _ h)
  exact ⟨a, vk_R.of (hts _ h) ha⟩
theorem TX_of {A : Nat → Prop} {s : State} {b : Addr} (hts : ∀ w ∈ lw_tbl, w.before #[Value.ref b] s = true) (hgv : (Jvm.Cond.and given_1 narrow_1).before #[Value.ref b] s = true) (hA : ∀ a : Nat, a < s.heap.size → ¬ A a) : TX A s := by
  have hs := flat_of_before _ hgv
  exact ⟨vx_Zqof (hts _ (by decide +kernel)) (hts (Cond.initialized Bundle.tN) (by decide +kernel)) (hs _ (by decide +kernel)) hA, vx_Zqof (hts _ (by decide +kernel)) (hts (Cond.initialized Bundle.tN) (by decide +kernel)) (hs _ (by decide +kernel)) hA⟩
