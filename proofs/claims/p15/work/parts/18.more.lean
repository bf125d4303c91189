/-! MORE: members of library classes, wide constants -/
/-- the same for a member of a class that has entries -/
theorem g_metF {l : Launch} {y : MethodName} {b : ByteArray} {mL k mc ms sz : Nat} {ret : Option FieldType} {D : va_G} {τ : Nat → ClassId} {wc : va_W} {As : List Value} {Qc : (Nat → Prop) → Array Value → State → Outcome → State → Prop} (hpl : plainFor y = true) (hn : (lg_sl As).length ≤ mL)
    (body : ∀ (p : Program) (e : Env) (s : State) (m : MethodId) (args : Array Value) (below : List Frame) (meth : Method) (c : Code) (A : Nat → Prop) (ls : Array Slot), p.tables.exec = Jvm.exec → c.code = b → c.maxLocals = mL → meth.sig.returnType = ret → meth.locks = false → meth.name = y.name → cx D τ s m args y.cls → (∀ q : Nat, s.heap.size ≤ q → A q) → wS D A s.heap wc s.heap [] → lv_has ls mL (lv_args 0 As) →
      W p l e (rmk k mc ms) s m args below meth c s.heap [] 0 0 (MQ below (Qc A) args s mc ms A) (F0 m 0 ls [])) :
    Met l y (lw_w y b mL ret) (rmk k mc ms) (gPc D τ wc sz As) (Qc (va_A wc sz)) mc ms (va_A wc sz) := by
  refine va_MetF (cc := b) (maxL := mL) (ret := ret) hpl rfl ?_
  intro p e s m args below meth c s₁ B hml hv
  obtain ⟨rfl, hsz, hP, hK, hD0⟩ := hv
  have hts := atoms_spec (ws := lw_w y b mL ret) B.pre
  have hown : s.vm.findClass y.cls = some m.cls := findClass_of_methodNamed B.named
  subst hsz
  have hl := lv_entry As (n := mL) hn
  rw [lg_entry_eq]
  exact body p e s m _ below meth c (va_A wc s.heap.size) _ B.exec B.bytes hml B.returns B.notSynchronized (name_of_methodNamed B.named B.method).1 ⟨fun w hw => hts w (List.mem_cons_of_mem _ hw), hown, hK.1, hK.2⟩ (fun q h => Or.inr h) ⟨hP, hD0.self, va_S.rf⟩ hl

section RM3
variable {p : Program} {l : Launch} {e : Env} {R : Room} {s : State} {m : MethodId} {args : Array Value} {below : List Frame} {meth : Method} {c : Code} {H : Heap} {locs : List Loc} {cells slots : Nat} {Q : State → Prop}
variable {cc : ByteArray} {pc : Nat} {ls : Array Slot} {rest st0 : List Value} {D : va_G} {A : Nat → Prop} {a : Nat} {ws wc wr : va_W} {H0 : Heap} {τ : Nat → ClassId} {own : String} {index : Nat}
theorem r_ldcw (hx : p.tables.exec = Jvm.exec) (hb : c.code = cc) (hC : cx D τ s m args own) {v : Int32} {z : Int} (h : Cond.constant own index v ∈ lw_good) (hv : v = iI z) (hd : decode cc pc = .ok (.ldc_w index, 3)) (k : W p l e R s m args below meth c H locs cells slots Q (F0 m (pc + 3) ls (.int (iI z) :: rest))) : W p l e R s m args below meth c H locs cells slots Q (F0 m pc ls rest) := lv_ldcw hx hb hC.2.1 (hC.1 _ h) hd (by rw [hv]; exact k)
theorem lI_nz {z : Int} (h : lR z) (h0 : ¬ z = 0) : ¬ lI z = 0 := by rw [show (0 : Int64) = lI 0 from rfl, lI_eq h (by decide)]; exact h0
theorem r_lmulX (hx : p.tables.exec = Jvm.exec) (hb : c.code = cc) {a b : Int} (hd : decode cc pc = .ok (.lmul, 1)) (k : ∀ z : Int, lR z → lI a * lI b = lI z → W p l e R s m args below meth c H locs cells slots Q (F0 m (pc + 1) ls (.long (lI z) :: rest))) : W p l e R s m args below meth c H locs cells slots Q (F0 m pc ls (.long (lI b) :: .long (lI a) :: rest)) := by
  obtain ⟨z, h1, h2⟩ := lI_of (lI a * lI b)
  exact lv_lmul hx hb hd (by rw [h2]; exact k z h1 h2)
theorem r_ldiv (hx : p.tables.exec = Jvm.exec) (hb : c.code = cc) {a b : Int} (hd : decode cc pc = .ok (.ldiv, 1)) (hn : lR b) (hz : ¬ b = 0) (k : ∀ z : Int, lR z → lI a / lI b = lI z → W p l e R s m args below meth c H locs cells slots Q (F0 m (pc + 1) ls (.long (lI z) :: rest))) : W p l e R s m args below meth c H locs cells slots Q (F0 m pc ls (.long (lI b) :: .long (lI a) :: rest)) := by
  obtain ⟨z, h1, h2⟩ := lI_of (lI a / lI b)
  exact lv_ldiv hx hb hd (lI_nz hn hz) (by rw [h2]; exact k z h1 h2)
theorem r_lrem (hx : p.tables.exec = Jvm.exec) (hb : c.code = cc) {a b : Int} (hd : decode cc pc = .ok (.lrem, 1)) (hn : lR b) (hz : ¬ b = 0) (k : ∀ z : Int, lR z → lI a - lI a / lI b * lI b = lI z → W p l e R s m args below meth c H locs cells slots Q (F0 m (pc + 1) ls (.long (lI z) :: rest))) : W p l e R s m args below meth c H locs cells slots Q (F0 m pc ls (.long (lI b) :: .long (lI a) :: rest)) := by
  obtain ⟨z, h1, h2⟩ := lI_of (lI a - lI a / lI b * lI b)
  exact lv_lrem hx hb hd (lI_nz hn hz) (by rw [h2]; exact k z h1 h2)
end RM3
