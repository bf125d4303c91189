/-! CALLS, returns, new objects and arrays, in the words of the base. -/
theorem P_pick {D : va_G} {cl : List vw_C} {ws wc : va_W} {H : Heap} {is : List Nat} (hP : va_P D cl ws H) (hC : is.map (fun i => ws[i]?) = wc.map some) : va_P D cl wc H := fun k q hq => by
  have h1 : (is.map (fun i => ws[i]?))[k]? = some (some q) := by rw [hC, List.getElem?_map, hq]; rfl
  rw [List.getElem?_map] at h1
  cases hi : is[k]? with
  | none => rw [hi] at h1; cases h1
  | some i => rw [hi] at h1; exact hP i q (Option.some.inj h1)
theorem wS.pick {D : va_G} {A : Nat → Prop} {H0 H : Heap} {ws wc : va_W} {locs : List Loc} (hw : wS D A H0 ws H locs) (is : List Nat) (hn : va_nd is = true) (hC : is.map (fun i => ws[i]?) = wc.map some) : wS D A H0 wc H locs := ⟨P_pick hw.1 hC, hw.2.1.sub is hn hC, hw.2.2⟩
def KB (y : MethodName) (b : ByteArray) (mL : Nat) (ret : Option FieldType) (n : Nat) : Prop := Cond.initialized y.cls ∈ lw_good ∧ Cond.code y b mL ret ∈ lw_good ∧ (y.cls ≠ "java/lang/invoke/MethodHandle" ∧ y.cls ≠ "java/lang/invoke/VarHandle" ∧ (parseMethodDescriptor y.desc).map (fun d => d.parameters.length) = some n)
def KV (y : MethodName) (b : ByteArray) (mL : Nat) (ret : Option FieldType) (n : Nat) : Prop := (Cond.instanceMethod y ∈ lw_good ∧ Cond.selects y.cls y y ∈ lw_good) ∧ KB y b mL ret n
def KS (y : MethodName) (b : ByteArray) (mL : Nat) (ret : Option FieldType) (n : Nat) : Prop := Cond.static y ∈ lw_good ∧ KB y b mL ret n
def KI (y : MethodName) (b : ByteArray) (mL : Nat) (ret : Option FieldType) (n : Nat) : Prop := (y.name = "<init>" ∧ Cond.instanceMethod y ∈ lw_good) ∧ KB y b mL ret n
theorem KB.ws {y : MethodName} {b : ByteArray} {mL : Nat} {ret : Option FieldType} {n : Nat} (K : KB y b mL ret n) : ∀ w ∈ lw_w y b mL ret, w ∈ lw_good := fun w h => by
  rcases List.mem_cons.mp h with h | h
  · rw [h]; exact K.2.1
  · exact h
theorem mem1 {P : Cond → Prop} {a : Cond} {l : List Cond} (h : P a) (hl : ∀ w ∈ l, P w) : ∀ w ∈ a :: l, P w := fun w hw => by
  rcases List.mem_cons.mp hw with h1 | h1
  · rw [h1]; exact h
  · exact hl w h1
theorem g_wsV {own : String} {idx : Nat} {y : MethodName} {b : ByteArray} {mL : Nat} {ret : Option FieldType} {n : Nat} (K : KV y b mL ret n) (h : Cond.methodLink own idx y ∈ lw_good) : GoodIn lw_good (wsV own idx y.cls y (lw_w y b mL ret)) :=
  g_good (fun _ h => h) (by unfold wsV; exact mem1 h (mem1 K.1.1 (mem1 K.1.2 (mem1 K.2.1 K.2.ws))))
theorem g_wsS {own : String} {idx : Nat} {y : MethodName} {b : ByteArray} {mL : Nat} {ret : Option FieldType} {n : Nat} (K : KS y b mL ret n) (h : Cond.methodLink own idx y ∈ lw_good) : GoodIn lw_good (va_wsS own idx y (lw_w y b mL ret)) :=
  g_good (fun _ h => h) (by unfold va_wsS; exact mem1 h (mem1 K.1 (mem1 K.2.1 K.2.ws)))
theorem K_same {D : va_G} {cl : List vw_C} {tys : List (ClassId × FieldType)} {cA cB : ClassId} {k : Nat} {ty : FieldType} {U : State} (hK : va_K D cl (tys ++ [(cA, ty)]) U) (h : tys[k]? = some (cB, ty)) : cA = cB := by
  have hl : k < tys.length := (List.getElem?_eq_some_iff.mp h).1
  have h1 := (hK.2 k (cB, ty) (by rw [List.getElem?_append_left hl]; exact h)).2
  have h2 := (hK.2 tys.length (cA, ty) (by rw [List.getElem?_append_right (Nat.le_refl _)]; simp)).2
  unfold va_RA at h1 h2
  cases ty with
  | object C =>
    obtain ⟨_, _, -, -, -, q1⟩ := h1
    obtain ⟨_, _, -, -, -, q2⟩ := h2
    exact Option.some.inj (q2.symm.trans q1)
  | _ => exact Option.some.inj (h2.symm.trans h1)
section RC
variable {p : Program} {l : Launch} {e : Env} {R : Room} {s : State} {m : MethodId} {args : Array Value} {below : List Frame} {meth : Method} {c : Code} {H : Heap} {locs : List Loc} {cells slots : Nat} {Q : State → Prop}
variable {cc : ByteArray} {pc : Nat} {ls : Array Slot} {rest st0 : List Value} {D : va_G} {A : Nat → Prop} {a : Nat} {ws wc wr : va_W} {H0 : Heap} {τ : Nat → ClassId} {own : String}
variable {y : MethodName} {b : ByteArray} {mL n lev mc ms index nL cells' slots' : Nat} {ret : Option FieldType} {As : List Value}
/-- behind a call: the rest of the world, and what came back -/
theorem g_behind {E : va_W → Prop} {t : State} {H1 : Heap} {locs1 : List Loc} {isC isR : List Nat} (hw : wS D A H0 ws H locs) (hA : ∀ q, H0.size ≤ q → A q) (hC : isC.map (fun i => ws[i]?) = wc.map some) (hR : isR.map (fun i => ws[i]?) = wr.map some) (hn : va_nd isR = true) (hdis : ∀ i ∈ isR, i ∉ isC) (ht : t.heap = H1) (hk : ∀ q : Nat, q < H.size → ¬ va_A wc H.size q → H1[q]? = H[q]?) (hS : va_S A H0 H1 locs1) (hB : gW D (va_A wc H.size) E t) : ∃ w1 : va_W, E w1 ∧ wS D A H0 (wr ++ w1) H1 locs1 := by
  obtain ⟨w1, hE, hP1, hD1⟩ := hB
  rw [ht] at hP1
  obtain ⟨h1, h2⟩ := va_join hw.1 hw.2.1 isC isR hC hR hn hdis hk (va_free hw.2.1 hw.2.2 hA isC hC) hP1 hD1
  exact ⟨w1, hE, h1, h2, hS⟩
theorem g_pre {isC : List Nat} (hC' : cx D τ s m args own) (hw : wS D A H0 ws H locs) (hC : isC.map (fun i => ws[i]?) = wc.map some) (hn : va_nd isC = true) {Bs : List Value} : ∀ U : State, U.heap = H → s.WarmedH U.vm → gPc D τ wc H.size Bs Bs.toArray U := fun U hU hW => ⟨rfl, by rw [hU], by rw [hU]; exact P_pick hw.1 hC, ⟨va_K.moved hW.alike hC'.2.2.1, NX.warm hW hC'.2.2.2⟩, (hw.2.1.sub isC hn hC).weaken (fun _ _ _ _ => trivial)⟩

theorem g_cIv (hx : p.tables.exec = Jvm.exec) (hb : c.code = cc) (hml : c.maxLocals = nL) (hC : cx D τ s m args own) (hA : ∀ q, H0.size ≤ q → A q) (hw : wS D A H0 ws H locs) (hl : ls.size = nL) {E : va_W → Prop} (M : Met l y (lw_w y b mL none) (rmk lev mc ms) (gPc D τ wc H.size (.ref a :: As)) (gQv D E (va_A wc H.size)) mc ms (va_A wc H.size)) (K : KI y b mL none n) (hlk : Cond.methodLink own index y ∈ lw_good) (isC isR : List Nat) (hCm : isC.map (fun i => ws[i]?) = wc.map some) (hRm : isR.map (fun i => ws[i]?) = wr.map some) (hnC : va_nd isC = true) (hnR : va_nd isR = true) (hdis : ∀ i ∈ isR, i ∉ isC) (hst : st0 = As.reverse ++ .ref a :: rest) (hn : As.length = n) (hcat : (rest.map fun v => v.category).sum ≤ 8) (hroom : lev + 1 ≤ R.frames ∧ 8 + (mL + 11) + 64 * lev ≤ R.locals) (hcs : cells + mc ≤ R.cells ∧ slots + ms ≤ R.slots) (hc2 : cells + mc = cells') (hs2 : slots + ms = slots') (hd : decode cc pc = .ok (.invokespecial index, 3))
    (kk : ∀ (w1 : va_W) (H : Heap) (locs : List Loc), E w1 → wS D A H0 (wr ++ w1) H locs → W p l e R s m args below meth c H locs cells' slots' Q (F0 m (pc + 3) ls rest)) : W p l e R s m args below meth c H locs cells slots Q (F0 m pc ls st0) := by
  have hF := va_free hw.2.1 hw.2.2 hA isC hCm
  refine va_callv (va_runI ⟨hx, hb, hml, hC.2.1, hC.1⟩ M (cwI n hC.1 (g_good (fun _ h => h) K.2.ws) rfl rfl rfl (hC.1 _ K.2.1) (hC.1 _ hlk) (hC.1 _ K.1.2) K.1.1 K.2.2.2 hroom) ⟨gPc_blind, g_pre hC hw hCm hnC⟩ rfl hn hl hst (lv_room hcat) hd hcs) hw.2.2 (fun q _ h => hF q h) hF (fun u t H1 locs1 ht hvm hp hB hsz hk1 hS => ?_)
  obtain ⟨w1, hE, h1⟩ := g_behind hw hA hCm hRm hnR hdis ht hk1 hS hB
  subst hc2
  subst hs2
  exact kk w1 H1 locs1 hE h1
theorem g_cINv (hx : p.tables.exec = Jvm.exec) (hb : c.code = cc) (hml : c.maxLocals = nL) (hC : cx D τ s m args own) (hA : ∀ q, H0.size ≤ q → A q) (hw : wS D A H0 ws H locs) (hl : ls.size = nL) {E : va_W → Prop} {host : String} (M : Met l y (lw_w y b mL none) (rmk lev mc ms) (gPc D τ wc H.size (.ref a :: As)) (gQv D E (va_A wc H.size)) mc ms (va_A wc H.size)) (K : KI y b mL none n) (hlk : Cond.methodLinkNest own index y host ∈ lw_nest) (isC isR : List Nat) (hCm : isC.map (fun i => ws[i]?) = wc.map some) (hRm : isR.map (fun i => ws[i]?) = wr.map some) (hnC : va_nd isC = true) (hnR : va_nd isR = true) (hdis : ∀ i ∈ isR, i ∉ isC) (hst : st0 = As.reverse ++ .ref a :: rest) (hn : As.length = n) (hcat : (rest.map fun v => v.category).sum ≤ 8) (hroom : lev + 1 ≤ R.frames ∧ 8 + (mL + 11) + 64 * lev ≤ R.locals) (hcs : cells + mc ≤ R.cells ∧ slots + ms ≤ R.slots) (hc2 : cells + mc = cells') (hs2 : slots + ms = slots') (hd : decode cc pc = .ok (.invokespecial index, 3))
    (kk : ∀ (w1 : va_W) (H : Heap) (locs : List Loc), E w1 → wS D A H0 (wr ++ w1) H locs → W p l e R s m args below meth c H locs cells' slots' Q (F0 m (pc + 3) ls rest)) : W p l e R s m args below meth c H locs cells slots Q (F0 m pc ls st0) := by
  have hF := va_free hw.2.1 hw.2.2 hA isC hCm
  refine va_callv (va_runIN ⟨hx, hb, hml, hC.2.1, hC.1⟩ M ⟨va_cnB n hC.1 (g_good (fun _ h => h) K.2.ws) rfl rfl rfl (hC.2.2.2.1 _ hlk) (hC.1 _ K.2.1) K.2.2.2 hroom, K.1.1, hC.1 _ K.1.2⟩ ⟨gPc_blind, g_pre hC hw hCm hnC⟩ rfl hn hl hst (lv_room hcat) hd hcs) hw.2.2 (fun q _ h => hF q h) hF (fun u t H1 locs1 ht hvm hp hB hsz hk1 hS => ?_)
  obtain ⟨w1, hE, h1⟩ := g_behind hw hA hCm hRm hnR hdis ht hk1 hS hB
  subst hc2
  subst hs2
  exact kk w1 H1 locs1 hE h1
theorem r_iret (hx : p.tables.exec = Jvm.exec) (hb : c.code = cc) (hr : meth.sig.returnType = some .int) (hlk : meth.locks = false) (hw : wS D A s.heap ws H locs) {E : Int → va_W → Prop} (w1 : va_W) (is : List Nat) (hpick : is.map (fun i => ws[i]?) = w1.map some) (hnd : va_nd is = true) {z : Int} (hz : iR z) (hE : E z w1) (hd : decode cc pc = .ok (.ireturn, 1)) : W p l e R s m args below meth c H locs cells slots (MQ below (gQi D E A) args s cells slots A) (F0 m pc ls [.int (iI z)]) :=
  W.iret hx hb hr (fun t ht hW => ⟨⟨iI z, iI z, rfl, rfl, z, hz, rfl, w1, hE, by rw [ht]; exact P_pick hw.1 hpick, hw.2.1.sub is hnd hpick⟩, hw.2.2.F ht⟩) hw.2.2.2.2 hd hlk
theorem r_zret (hx : p.tables.exec = Jvm.exec) (hb : c.code = cc) (hr : meth.sig.returnType = some .boolean) (hlk : meth.locks = false) (hw : wS D A s.heap ws H locs) {E : Int → va_W → Prop} (w1 : va_W) (is : List Nat) (hpick : is.map (fun i => ws[i]?) = w1.map some) (hnd : va_nd is = true) {z : Int} (hz : iR z) (h01 : z = 0 ∨ z = 1) (hE : E z w1) (hd : decode cc pc = .ok (.ireturn, 1)) : W p l e R s m args below meth c H locs cells slots (MQ below (gQi D E A) args s cells slots A) (F0 m pc ls [.int (iI z)]) :=
  W.zret hx hb hr (by rcases h01 with rfl | rfl <;> rfl) (fun t ht hW => ⟨⟨iI z, iI z, rfl, rfl, z, hz, rfl, w1, hE, by rw [ht]; exact P_pick hw.1 hpick, hw.2.1.sub is hnd hpick⟩, hw.2.2.F ht⟩) hw.2.2.2.2 hd hlk
theorem r_lret (hx : p.tables.exec = Jvm.exec) (hb : c.code = cc) (hr : meth.sig.returnType = some .long) (hlk : meth.locks = false) (hw : wS D A s.heap ws H locs) {E : Int → va_W → Prop} (w1 : va_W) (is : List Nat) (hpick : is.map (fun i => ws[i]?) = w1.map some) (hnd : va_nd is = true) {z : Int} (hz : lR z) (hE : E z w1) (hd : decode cc pc = .ok (.lreturn, 1)) : W p l e R s m args below meth c H locs cells slots (MQ below (gQl D E A) args s cells slots A) (F0 m pc ls [.long (lI z)]) :=
  W.lret hx hb hr (fun t ht hW => ⟨⟨lI z, lI z, rfl, rfl, z, hz, rfl, w1, hE, by rw [ht]; exact P_pick hw.1 hpick, hw.2.1.sub is hnd hpick⟩, hw.2.2.F ht⟩) hw.2.2.2.2 hd hlk
theorem r_vret (hx : p.tables.exec = Jvm.exec) (hb : c.code = cc) (hr : meth.sig.returnType = none) (hlk : meth.locks = false) (hw : wS D A s.heap ws H locs) {E : va_W → Prop} (w1 : va_W) (is : List Nat) (hpick : is.map (fun i => ws[i]?) = w1.map some) (hnd : va_nd is = true) (hE : E w1) (hd : decode cc pc = .ok (.return_, 1)) : W p l e R s m args below meth c H locs cells slots (MQ below (gQv D E A) args s cells slots A) (F0 m pc ls []) :=
  W.vret hx hb hr (fun t ht hW => ⟨⟨(), rfl, trivial, w1, hE, by rw [ht]; exact P_pick hw.1 hpick, hw.2.1.sub is hnd hpick⟩, hw.2.2.F ht⟩) hw.2.2.2.2 hd hlk
theorem r_objInit (hx : p.tables.exec = Jvm.exec) (hb : c.code = cc) (hml : c.maxLocals = nL) (hC : cx D τ s m args own) (hl : ls.size = nL) (h1 : Cond.methodLink own index objectInit ∈ lw_good) (h2 : Cond.instanceMethod objectInit ∈ lw_good) (h3 : Cond.code objectInit ⟨#[0xb1]⟩ 1 none ∈ lw_good) (hfr : 1 ≤ R.frames) (hcat : (rest.map fun v => v.category).sum ≤ 8) (hlo : 20 ≤ R.locals) (hd : decode cc pc = .ok (.invokespecial index, 3)) (kk : W p l e R s m args below meth c H locs cells slots Q (F0 m (pc + 3) ls rest)) : W p l e R s m args below meth c H locs cells slots Q (F0 m pc ls (.ref a :: rest)) :=
  W.objInit hx hb hC.2.1 (hC.1 _ h1) (hC.1 _ h2) (hC.1 _ h3) rfl (hl.trans hml.symm) rfl hd hfr (by have := lv_room (m := m) (pc := pc) (ls := ls) (rest := rest) hcat; simp only [F0] at this ⊢; omega) kk
theorem r_new (hx : p.tables.exec = Jvm.exec) (hb : c.code = cc) (hC : cx D τ s m args own) (hA : ∀ q, H0.size ≤ q → A q) (hw : wS D A H0 ws H locs) {C : String} {T : u_T} {N ci : Nat} (hin : ∀ w ∈ u_ws C T N, w ∈ lw_good) (ty0 : Nat → FieldType) (hty : ∀ k, k < N → parseFieldDescriptor (T k).2.2.1 = some (ty0 k)) (hc : vwCl[ci]? = some (C, T, N)) (h1 : Cond.classLink own index C ∈ lw_good) (h2 : Cond.instantiable C N ∈ lw_good) (h3 : Cond.initialized C ∈ lw_good) {fs : List Value} (hfs : ∀ j, j < N → defaultValue (ty0 j) = vp_V fs j) (hcells : cells + 1 ≤ R.cells) (hslots : slots + N ≤ R.slots) (hc2 : cells + 1 = cells') (hs2 : slots + N = slots') (hd : decode cc pc = .ok (.new index, 3))
    (kk : ∀ (q : Nat) (H : Heap), wS D A H0 (ws ++ [(q, .inr (ci, fs))]) H locs → W p l e R s m args below meth c H locs cells' slots' Q (F0 m (pc + 3) ls (.ref q :: rest))) : W p l e R s m args below meth c H locs cells slots Q (F0 m pc ls rest) := by
  subst hc2
  subst hs2
  exact va_new hx hb hC.1 hin ty0 hty hC.2.1 (hC.1 _ h1) (hC.1 _ h2) (hC.1 _ h3) hC.2.2.1 hw.1 hw.2.1 hw.2.2 hA hc hfs hcells hslots hd (fun q H1 g1 g2 g3 => kk q H1 ⟨g1, g2, g3⟩)
theorem r_newi (hx : p.tables.exec = Jvm.exec) (hb : c.code = cc) (hC : cx D τ s m args own) (hA : ∀ q, H0.size ≤ q → A q) (hw : wS D A H0 ws H locs) (hw1 : Cond.arrayClass .int ∈ lw_good) {z : Int} {N : Nat} (hz : z = (N : Int)) (hN : N ≤ 100000) (hcells : cells + 1 ≤ R.cells) (hslots : slots + N ≤ R.slots) (hc2 : cells + 1 = cells') (hs2 : slots + N = slots') (hd : decode cc pc = .ok (.newarray .int, 2))
    (kk : ∀ (q : Nat) (H : Heap), wS D A H0 (ws ++ [(q, .inl (τ 0, N, .inl (ar (fun _ => 0))))]) H locs → W p l e R s m args below meth c H locs cells' slots' Q (F0 m (pc + 2) ls (.ref q :: rest))) : W p l e R s m args below meth c H locs cells slots Q (F0 m pc ls (.int (iI z) :: rest)) := by
  subst hc2
  subst hs2
  subst hz
  refine va_newa (atype := .int) hx hb (hC.1 _ hw1) rfl hC.2.2.1 hw.1 hw.2.1 hw.2.2 hA (a0 := (N, .inl (ar (fun _ => 0)))) (fun cA => rfl) (iI_nn ⟨by omega, by omega⟩ (by omega)) (by rw [iI_clamp ⟨by omega, by omega⟩]; exact Int.toNat_natCast N) (by show N * 4 ≤ _; omega) hcells hslots hd (fun q cA H1 g0 g1 g2 g3 => ?_)
  have hA1 : cA = τ 0 := K_same g0 (k := 0) rfl
  subst hA1
  exact kk q H1 ⟨g1, g2, g3⟩
theorem r_newl (hx : p.tables.exec = Jvm.exec) (hb : c.code = cc) (hC : cx D τ s m args own) (hA : ∀ q, H0.size ≤ q → A q) (hw : wS D A H0 ws H locs) (hw1 : Cond.arrayClass .long ∈ lw_good) {z : Int} {N : Nat} (hz : z = (N : Int)) (hN : N ≤ 100000) (hcells : cells + 1 ≤ R.cells) (hslots : slots + N ≤ R.slots) (hc2 : cells + 1 = cells') (hs2 : slots + N = slots') (hd : decode cc pc = .ok (.newarray .long, 2))
    (kk : ∀ (q : Nat) (H : Heap), wS D A H0 (ws ++ [(q, .inl (τ 1, N, .inr (.inl (arL (fun _ => 0)))))]) H locs → W p l e R s m args below meth c H locs cells' slots' Q (F0 m (pc + 2) ls (.ref q :: rest))) : W p l e R s m args below meth c H locs cells slots Q (F0 m pc ls (.int (iI z) :: rest)) := by
  subst hc2
  subst hs2
  subst hz
  refine va_newa (atype := .long) hx hb (hC.1 _ hw1) rfl hC.2.2.1 hw.1 hw.2.1 hw.2.2 hA (a0 := (N, .inr (.inl (arL (fun _ => 0))))) (fun cA => rfl) (iI_nn ⟨by omega, by omega⟩ (by omega)) (by rw [iI_clamp ⟨by omega, by omega⟩]; exact Int.toNat_natCast N) (by show N * 8 ≤ _; omega) hcells hslots hd (fun q cA H1 g0 g1 g2 g3 => ?_)
  have hA1 : cA = τ 1 := K_same g0 (k := 1) rfl
  subst hA1
  exact kk q H1 ⟨g1, g2, g3⟩
theorem r_newz (hx : p.tables.exec = Jvm.exec) (hb : c.code = cc) (hC : cx D τ s m args own) (hA : ∀ q, H0.size ≤ q → A q) (hw : wS D A H0 ws H locs) (hw1 : Cond.arrayClass .boolean ∈ lw_good) {z : Int} {N : Nat} (hz : z = (N : Int)) (hN : N ≤ 100000) (hcells : cells + 1 ≤ R.cells) (hslots : slots + N ≤ R.slots) (hc2 : cells + 1 = cells') (hs2 : slots + N = slots') (hd : decode cc pc = .ok (.newarray .boolean, 2))
    (kk : ∀ (q : Nat) (H : Heap), wS D A H0 (ws ++ [(q, .inl (τ 2, N, .inl (ar (fun _ => 0))))]) H locs → W p l e R s m args below meth c H locs cells' slots' Q (F0 m (pc + 2) ls (.ref q :: rest))) : W p l e R s m args below meth c H locs cells slots Q (F0 m pc ls (.int (iI z) :: rest)) := by
  subst hc2
  subst hs2
  subst hz
  refine va_newa (atype := .boolean) hx hb (hC.1 _ hw1) rfl hC.2.2.1 hw.1 hw.2.1 hw.2.2 hA (a0 := (N, .inl (ar (fun _ => 0)))) (fun cA => rfl) (iI_nn ⟨by omega, by omega⟩ (by omega)) (by rw [iI_clamp ⟨by omega, by omega⟩]; exact Int.toNat_natCast N) (by show N * 1 ≤ _; omega) hcells hslots hd (fun q cA H1 g0 g1 g2 g3 => ?_)
  have hA1 : cA = τ 2 := K_same g0 (k := 2) rfl
  subst hA1
  exact kk q H1 ⟨g1, g2, g3⟩
theorem r_mmax (hx : p.tables.exec = Jvm.exec) (hb : c.code = cc) (hml : c.maxLocals = nL) (hC : cx D τ s m args own) (hl : ls.size = nL) (h1 : Cond.methodLink own index Lib.Math.max.name ∈ lw_good) (h2 : Cond.static Lib.Math.max.name ∈ lw_good) (h3 : Cond.initialized "java/lang/Math" ∈ lw_good) (h4 : Cond.code Lib.Math.max.name Lib.Math.max.code 2 (some .int) ∈ lw_good) (hfr : 1 ≤ R.frames) (hlo : (rest.map fun v => v.category).sum + 13 ≤ R.locals) (hcs : cells ≤ R.cells) (hss : slots ≤ R.slots) {x y : Int} (hrx : iR x) (hry : iR y) (hd : decode cc pc = .ok (.invokestatic index, 3)) (kk : ∀ z : Int, z = max x y → W p l e R s m args below meth c H locs cells slots Q (F0 m (pc + 3) ls (.int (iI z) :: rest))) : W p l e R s m args below meth c H locs cells slots Q (F0 m pc ls (.int (iI y) :: .int (iI x) :: rest)) := by
  refine va_mmax hx hb (hml.trans hl.symm) hC.2.1 (hC.1 _ h1) (hC.1 _ h2) (hC.1 _ h3) (hC.1 _ h4) hfr hlo hcs hss hd ?_
  have h9 := kk _ rfl
  by_cases q : x < y
  · rw [if_pos ((iI_lt hrx hry).mpr q)]
    rwa [show max x y = y by omega] at h9
  · rw [if_neg (fun g => q ((iI_lt hrx hry).mp g))]
    rwa [show max x y = x by omega] at h9
theorem r_mmin (hx : p.tables.exec = Jvm.exec) (hb : c.code = cc) (hml : c.maxLocals = nL) (hC : cx D τ s m args own) (hl : ls.size = nL) (h1 : Cond.methodLink own index Lib.Math.min.name ∈ lw_good) (h2 : Cond.static Lib.Math.min.name ∈ lw_good) (h3 : Cond.initialized "java/lang/Math" ∈ lw_good) (h4 : Cond.code Lib.Math.min.name Lib.Math.min.code 2 (some .int) ∈ lw_good) (hfr : 1 ≤ R.frames) (hlo : (rest.map fun v => v.category).sum + 13 ≤ R.locals) (hcs : cells ≤ R.cells) (hss : slots ≤ R.slots) {x y : Int} (hrx : iR x) (hry : iR y) (hd : decode cc pc = .ok (.invokestatic index, 3)) (kk : ∀ z : Int, z = min x y → W p l e R s m args below meth c H locs cells slots Q (F0 m (pc + 3) ls (.int (iI z) :: rest))) : W p l e R s m args below meth c H locs cells slots Q (F0 m pc ls (.int (iI y) :: .int (iI x) :: rest)) := by
  refine va_mmin hx hb (hml.trans hl.symm) hC.2.1 (hC.1 _ h1) (hC.1 _ h2) (hC.1 _ h3) (hC.1 _ h4) hfr hlo hcs hss hd ?_
  have h9 := kk _ rfl
  by_cases q : y < x
  · rw [if_pos ((iI_lt hry hrx).mpr q)]
    rwa [show min x y = y by omega] at h9
  · rw [if_neg (fun g => q ((iI_lt hry hrx).mp g))]
    rwa [show min x y = x by omega] at h9
end RC
