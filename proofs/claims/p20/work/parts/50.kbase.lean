section
/-! KBASE: rows in the words of the memory; strings that are there; contracts and calls. -/
section KB
variable {p : Program} {l : Launch} {e : Env} {R : Room} {s : State} {m : MethodId} {args : Array Value} {below : List Frame} {meth : Method} {c : Code} {H : Heap} {locs : List Loc} {cells slots : Nat} {Q : State → Prop}
variable {cc : ByteArray} {pc : Nat} {ls : Array Slot} {rest st0 : List Value} {D : va_G} {A : Nat → Prop} {a : Nat} {ws wc wr : va_W} {H0 : Heap} {τ : Nat → ClassId} {own : String} {sA sV : Nat → Nat}
variable {y : MethodName} {b : ByteArray} {mL n lev mc ms index nL cells' slots' : Nat} {ret : Option FieldType} {As : List Value} {Wf : Mem → va_W} {Rf : Mem → Prop} {M0 : Mem}
theorem r_iaddW (hx : p.tables.exec = Jvm.exec) (hb : c.code = cc) {a b : Int} (hd : decode cc pc = .ok (.iadd, 1)) (k : ∀ z : Int, z = w32 (a + b) → iR z → W p l e R s m args below meth c H locs cells slots Q (F0 m (pc + 1) ls (.int (iI z) :: rest))) : W p l e R s m args below meth c H locs cells slots Q (F0 m pc ls (.int (iI b) :: .int (iI a) :: rest)) := r_iadd hx hb hd rfl (by
  have h := k _ rfl (w32_R _)
  rw [show iI (w32 (a + b)) = iI (a + b) from iI_toI _] at h
  exact h)
theorem r_isubW (hx : p.tables.exec = Jvm.exec) (hb : c.code = cc) {a b : Int} (hd : decode cc pc = .ok (.isub, 1)) (k : ∀ z : Int, z = w32 (a - b) → iR z → W p l e R s m args below meth c H locs cells slots Q (F0 m (pc + 1) ls (.int (iI z) :: rest))) : W p l e R s m args below meth c H locs cells slots Q (F0 m pc ls (.int (iI b) :: .int (iI a) :: rest)) := r_isub hx hb hd rfl (by
  have h := k _ rfl (w32_R _)
  rw [show iI (w32 (a - b)) = iI (a - b) from iI_toI _] at h
  exact h)
theorem r_imulW (hx : p.tables.exec = Jvm.exec) (hb : c.code = cc) {a b : Int} (hd : decode cc pc = .ok (.imul, 1)) (k : ∀ z : Int, z = w32 (a * b) → iR z → W p l e R s m args below meth c H locs cells slots Q (F0 m (pc + 1) ls (.int (iI z) :: rest))) : W p l e R s m args below meth c H locs cells slots Q (F0 m pc ls (.int (iI b) :: .int (iI a) :: rest)) := r_imul hx hb hd rfl (by
  have h := k _ rfl (w32_R _)
  rw [show iI (w32 (a * b)) = iI (a * b) from iI_toI _] at h
  exact h)
theorem r_laddW (hx : p.tables.exec = Jvm.exec) (hb : c.code = cc) {a b : Int} (hd : decode cc pc = .ok (.ladd, 1)) (k : ∀ z : Int, z = w64 (a + b) → lR z → W p l e R s m args below meth c H locs cells slots Q (F0 m (pc + 1) ls (.long (lI z) :: rest))) : W p l e R s m args below meth c H locs cells slots Q (F0 m pc ls (.long (lI b) :: .long (lI a) :: rest)) := r_ladd hx hb hd rfl (by
  have h := k _ rfl (w64_R _)
  rw [show lI (w64 (a + b)) = lI (a + b) from lI_toI _] at h
  exact h)
theorem r_lmulW (hx : p.tables.exec = Jvm.exec) (hb : c.code = cc) {a b : Int} (hd : decode cc pc = .ok (.lmul, 1)) (k : ∀ z : Int, z = w64 (a * b) → lR z → W p l e R s m args below meth c H locs cells slots Q (F0 m (pc + 1) ls (.long (lI z) :: rest))) : W p l e R s m args below meth c H locs cells slots Q (F0 m pc ls (.long (lI b) :: .long (lI a) :: rest)) := r_lmul hx hb hd rfl (by
  have h := k _ rfl (w64_R _)
  rw [show lI (w64 (a * b)) = lI (a * b) from lI_toI _] at h
  exact h)
theorem r_inegW (hx : p.tables.exec = Jvm.exec) (hb : c.code = cc) {a : Int} (hd : decode cc pc = .ok (.ineg, 1)) (k : ∀ z : Int, z = w32 (-a) → iR z → W p l e R s m args below meth c H locs cells slots Q (F0 m (pc + 1) ls (.int (iI z) :: rest))) : W p l e R s m args below meth c H locs cells slots Q (F0 m pc ls (.int (iI a) :: rest)) := r_ineg hx hb hd rfl (by
  have h := k _ rfl (w32_R _)
  rw [show iI (w32 (-a)) = iI (-a) from iI_toI _] at h
  exact h)
theorem r_iandF (hx : p.tables.exec = Jvm.exec) (hb : c.code = cc) {a b : Int} (hd : decode cc pc = .ok (.iand, 1)) (k : ∀ z : Int, z = aI a b → iR z → W p l e R s m args below meth c H locs cells slots Q (F0 m (pc + 1) ls (.int (iI z) :: rest))) : W p l e R s m args below meth c H locs cells slots Q (F0 m pc ls (.int (iI b) :: .int (iI a) :: rest)) := r_iand hx hb hd (fun z h1 h2 => k z (by unfold aI; rw [h2, iI_toInt h1]) h1)
theorem r_iorF (hx : p.tables.exec = Jvm.exec) (hb : c.code = cc) {a b : Int} (hd : decode cc pc = .ok (.ior, 1)) (k : ∀ z : Int, z = oI a b → iR z → W p l e R s m args below meth c H locs cells slots Q (F0 m (pc + 1) ls (.int (iI z) :: rest))) : W p l e R s m args below meth c H locs cells slots Q (F0 m pc ls (.int (iI b) :: .int (iI a) :: rest)) := r_ior hx hb hd (fun z h1 h2 => k z (by unfold oI; rw [h2, iI_toInt h1]) h1)
theorem r_ixorF (hx : p.tables.exec = Jvm.exec) (hb : c.code = cc) {a b : Int} (hd : decode cc pc = .ok (.ixor, 1)) (k : ∀ z : Int, z = xI a b → iR z → W p l e R s m args below meth c H locs cells slots Q (F0 m (pc + 1) ls (.int (iI z) :: rest))) : W p l e R s m args below meth c H locs cells slots Q (F0 m pc ls (.int (iI b) :: .int (iI a) :: rest)) := r_ixor hx hb hd (fun z h1 h2 => k z (by unfold xI; rw [h2, iI_toInt h1]) h1)
theorem r_ishlF (hx : p.tables.exec = Jvm.exec) (hb : c.code = cc) {a b : Int} (hd : decode cc pc = .ok (.ishl, 1)) (k : ∀ z : Int, z = slI a b → iR z → W p l e R s m args below meth c H locs cells slots Q (F0 m (pc + 1) ls (.int (iI z) :: rest))) : W p l e R s m args below meth c H locs cells slots Q (F0 m pc ls (.int (iI b) :: .int (iI a) :: rest)) := r_ishl hx hb hd (fun z h1 h2 => k z (by unfold slI; rw [h2, iI_toInt h1]) h1)
theorem r_ishrF (hx : p.tables.exec = Jvm.exec) (hb : c.code = cc) {a b : Int} (hd : decode cc pc = .ok (.ishr, 1)) (k : ∀ z : Int, z = srI a b → iR z → W p l e R s m args below meth c H locs cells slots Q (F0 m (pc + 1) ls (.int (iI z) :: rest))) : W p l e R s m args below meth c H locs cells slots Q (F0 m pc ls (.int (iI b) :: .int (iI a) :: rest)) := r_ishr hx hb hd (fun z h1 h2 => k z (by unfold srI; rw [h2, iI_toInt h1]) h1)
theorem r_iushrF (hx : p.tables.exec = Jvm.exec) (hb : c.code = cc) {a b : Int} (hd : decode cc pc = .ok (.iushr, 1)) (k : ∀ z : Int, z = usI a b → iR z → W p l e R s m args below meth c H locs cells slots Q (F0 m (pc + 1) ls (.int (iI z) :: rest))) : W p l e R s m args below meth c H locs cells slots Q (F0 m pc ls (.int (iI b) :: .int (iI a) :: rest)) := r_iushr hx hb hd (fun z h1 h2 => k z (by unfold usI; rw [h2, iI_toInt h1]) h1)
theorem r_idivF (hx : p.tables.exec = Jvm.exec) (hb : c.code = cc) {a b : Int} (hd : decode cc pc = .ok (.idiv, 1)) (hn : iR b) (hz : ¬ b = 0) (k : ∀ z : Int, z = dvI a b → iR z → W p l e R s m args below meth c H locs cells slots Q (F0 m (pc + 1) ls (.int (iI z) :: rest))) : W p l e R s m args below meth c H locs cells slots Q (F0 m pc ls (.int (iI b) :: .int (iI a) :: rest)) := r_idiv hx hb hd hn hz (fun z h1 h2 => k z (by unfold dvI; rw [h2, iI_toInt h1]) h1)
theorem r_iremF (hx : p.tables.exec = Jvm.exec) (hb : c.code = cc) {a b : Int} (hd : decode cc pc = .ok (.irem, 1)) (hn : iR b) (hz : ¬ b = 0) (k : ∀ z : Int, z = rmI a b → iR z → W p l e R s m args below meth c H locs cells slots Q (F0 m (pc + 1) ls (.int (iI z) :: rest))) : W p l e R s m args below meth c H locs cells slots Q (F0 m pc ls (.int (iI b) :: .int (iI a) :: rest)) := r_irem hx hb hd hn hz (fun z h1 h2 => k z (by unfold rmI; rw [h2, iI_toInt h1]) h1)
theorem r_ldivF (hx : p.tables.exec = Jvm.exec) (hb : c.code = cc) {a b : Int} (hd : decode cc pc = .ok (.ldiv, 1)) (hn : lR b) (hz : ¬ b = 0) (k : ∀ z : Int, z = dvL a b → lR z → W p l e R s m args below meth c H locs cells slots Q (F0 m (pc + 1) ls (.long (lI z) :: rest))) : W p l e R s m args below meth c H locs cells slots Q (F0 m pc ls (.long (lI b) :: .long (lI a) :: rest)) := r_ldiv hx hb hd hn hz (fun z h1 h2 => k z (by unfold dvL; rw [h2, lI_toInt h1]) h1)
theorem r_lremF (hx : p.tables.exec = Jvm.exec) (hb : c.code = cc) {a b : Int} (hd : decode cc pc = .ok (.lrem, 1)) (hn : lR b) (hz : ¬ b = 0) (k : ∀ z : Int, z = rmL a b → lR z → W p l e R s m args below meth c H locs cells slots Q (F0 m (pc + 1) ls (.long (lI z) :: rest))) : W p l e R s m args below meth c H locs cells slots Q (F0 m pc ls (.long (lI b) :: .long (lI a) :: rest)) := r_lrem hx hb hd hn hz (fun z h1 h2 => k z (by unfold rmL; rw [h2, lI_toInt h1]) h1)
theorem r_i2bF (hx : p.tables.exec = Jvm.exec) (hb : c.code = cc) {a : Int} (hd : decode cc pc = .ok (.i2b, 1)) (k : ∀ z : Int, z = b8I a → iR z → W p l e R s m args below meth c H locs cells slots Q (F0 m (pc + 1) ls (.int (iI z) :: rest))) : W p l e R s m args below meth c H locs cells slots Q (F0 m pc ls (.int (iI a) :: rest)) := r_i2b hx hb hd (fun z h1 h2 => k z (by unfold b8I; rw [h2, iI_toInt h1]) h1)
theorem r_i2sF (hx : p.tables.exec = Jvm.exec) (hb : c.code = cc) {a : Int} (hd : decode cc pc = .ok (.i2s, 1)) (k : ∀ z : Int, z = s16I a → iR z → W p l e R s m args below meth c H locs cells slots Q (F0 m (pc + 1) ls (.int (iI z) :: rest))) : W p l e R s m args below meth c H locs cells slots Q (F0 m pc ls (.int (iI a) :: rest)) := r_i2s hx hb hd (fun z h1 h2 => k z (by unfold s16I; rw [h2, iI_toInt h1]) h1)
theorem c16_id {a : Int} (h0 : 0 ≤ a) (h1 : a < 65536) : ((iI a).toUInt32 % 65536).toInt32 = iI a := by
  obtain ⟨n, rfl⟩ := Int.eq_ofNat_of_zero_le h0
  have hn : n < 65536 := by omega
  apply Int32.toBitVec_inj.mp
  simp only [iI, UInt32.toBitVec_toInt32, UInt32.toBitVec_mod, Int32.toBitVec_toUInt32]
  apply BitVec.eq_of_toNat_eq
  simp [Int32.toBitVec_ofInt]
  omega
theorem r_i2c (hx : p.tables.exec = Jvm.exec) (hb : c.code = cc) {a : Int} (hd : decode cc pc = .ok (.i2c, 1)) (h0 : 0 ≤ a) (h1 : a < 65536) (k : W p l e R s m args below meth c H locs cells slots Q (F0 m (pc + 1) ls (.int (iI a) :: rest))) : W p l e R s m args below meth c H locs cells slots Q (F0 m pc ls (.int (iI a) :: rest)) := lv_i2c hx hb hd (c16_id h0 h1) k
theorem r_lkI (hx : p.tables.exec = Jvm.exec) (hb : c.code = cc) {dflt : Int} {ps : Array (Int × Int)} {len : Nat} {z off : Int} {tgt : Nat} (hd : decode cc pc = .ok (.lookupswitch dflt ps, len)) (hz : iR z) (hp : (ps.toList.zip (ps.toList.drop 1)).all (fun (a, next) => a.1 < next.1) = true) (ho : Op.lookupswitch.offset ps.toList dflt z = off) (ht : (pc : Int) + off = (tgt : Int)) (k : W p l e R s m args below meth c H locs cells slots Q (F0 m tgt ls rest)) : W p l e R s m args below meth c H locs cells slots Q (F0 m pc ls (.int (iI z) :: rest)) := lv_lookup hx hb hd hp (by rw [iI_toInt hz]; exact ho) ht k
theorem r_mmaxF (hx : p.tables.exec = Jvm.exec) (hb : c.code = cc) (hml : c.maxLocals = nL) (hC : cx D τ s m args own) (hl : ls.size = nL) (h1 : Cond.methodLink own index Lib.Math.max.name ∈ lw_good) (h2 : Cond.static Lib.Math.max.name ∈ lw_good) (h3 : Cond.initialized "java/lang/Math" ∈ lw_good) (h4 : Cond.code Lib.Math.max.name Lib.Math.max.code 2 (some .int) ∈ lw_good) (hfr : 1 ≤ R.frames) (hlo : (rest.map fun v => v.category).sum + 13 ≤ R.locals) (hcs : cells ≤ R.cells) (hss : slots ≤ R.slots) {x y : Int} (hrx : iR x) (hry : iR y) (hd : decode cc pc = .ok (.invokestatic index, 3)) (k : ∀ z : Int, z = max x y → iR z → W p l e R s m args below meth c H locs cells slots Q (F0 m (pc + 3) ls (.int (iI z) :: rest))) : W p l e R s m args below meth c H locs cells slots Q (F0 m pc ls (.int (iI y) :: .int (iI x) :: rest)) := r_mmax hx hb hml hC hl h1 h2 h3 h4 hfr hlo hcs hss hrx hry hd (fun z hz => k z (by omega) (by omega))
theorem r_mminF (hx : p.tables.exec = Jvm.exec) (hb : c.code = cc) (hml : c.maxLocals = nL) (hC : cx D τ s m args own) (hl : ls.size = nL) (h1 : Cond.methodLink own index Lib.Math.min.name ∈ lw_good) (h2 : Cond.static Lib.Math.min.name ∈ lw_good) (h3 : Cond.initialized "java/lang/Math" ∈ lw_good) (h4 : Cond.code Lib.Math.min.name Lib.Math.min.code 2 (some .int) ∈ lw_good) (hfr : 1 ≤ R.frames) (hlo : (rest.map fun v => v.category).sum + 13 ≤ R.locals) (hcs : cells ≤ R.cells) (hss : slots ≤ R.slots) {x y : Int} (hrx : iR x) (hry : iR y) (hd : decode cc pc = .ok (.invokestatic index, 3)) (k : ∀ z : Int, z = min x y → iR z → W p l e R s m args below meth c H locs cells slots Q (F0 m (pc + 3) ls (.int (iI z) :: rest))) : W p l e R s m args below meth c H locs cells slots Q (F0 m pc ls (.int (iI y) :: .int (iI x) :: rest)) := r_mmin hx hb hml hC hl h1 h2 h3 h4 hfr hlo hcs hss hrx hry hd (fun z hz => k z (by omega) (by omega))
end KB
/-! strings that are there, in no world -/
def soS (i : Nat) : String := ([RX5, RX12, RX12, RJ1, RX12, RX12, RX12, RX12, RX12] : List String).getD i ""
def siS (i : Nat) : Nat := ([79, 180, 205, 151, 241, 246, 248, 250, 377] : List Nat).getD i 0
def stS (i : Nat) : String := (["pgcwtim", ".c", "abcdef", "", "pgcwtim", "<>=", "+-", "*/", "ntpbx"] : List String).getD i ""
def ST (A : Nat → Prop) (U : State) (H : Heap) (sa sv : Nat) (bs : List Int) : Prop := va_O RJ0 sa A U H ∧ va_OF RJ0 "coder" "B" (.int 0) sa A U H ∧ va_OF RJ0 "value" "[B" (.ref sv) sa A U H ∧ va_T .byte sv bs.length (fun j => .int (iI (bs.getD j 0))) A U H ∧ (∀ b ∈ bs, 0 ≤ b ∧ b < 128) ∧ bs.length ≤ 100
theorem ST.moved {A : Nat → Prop} {u U : State} {H : Heap} {sa sv : Nat} {bs : List Int} (hvm : u.vm.Alike U.vm) (h : ST A u H sa sv bs) : ST A U H sa sv bs := ⟨h.1.moved hvm, h.2.1.moved hvm, h.2.2.1.moved hvm, h.2.2.2.1.moved hvm, h.2.2.2.2⟩
theorem ST.kept {A : Nat → Prop} {U : State} {H H1 : Heap} {sa sv : Nat} {bs : List Int} (h : ST A U H sa sv bs) (hq : ∀ a : Nat, a < H.size → ¬ A a → H1[a]? = H[a]?) : ST A U H1 sa sv bs := ⟨h.1.kept hq, h.2.1.kept hq, h.2.2.1.kept hq, h.2.2.2.1.kept hq, h.2.2.2.2⟩
theorem ST.narrow {A B : Nat → Prop} {U : State} {H : Heap} {sa sv : Nat} {bs : List Int} (h : ST A U H sa sv bs) (hAB : ∀ q, B q → A q) : ST B U H sa sv bs := ⟨h.1.narrow hAB, h.2.1.narrow hAB, h.2.2.1.narrow hAB, h.2.2.2.1.narrow hAB, h.2.2.2.2⟩
theorem ST.recv {A : Nat → Prop} {s : State} {H : Heap} {locs : List Loc} {sa sv : Nat} {bs : List Int} (h : ST A s s.heap sa sv bs) (hS : va_S A s.heap H locs) : ∃ cell : Cell, H[sa]? = some cell ∧ cell.vm.isStatics = false ∧ s.vm.findClass RJ0 = some cell.cls := by
  obtain ⟨cell, h1, h2, h3, -⟩ := h.1.kept hS.2.1
  exact ⟨cell, h1, h2, h3⟩
def LK (A : Nat → Prop) (U : State) (H : Heap) (sA sV : Nat → Nat) : Prop := (∀ i, i < 9 → vk_R (soS i) (siS i) (stS i) (sA i) U ∧ ST A U H (sA i) (sV i) (bS i)) ∧ va_Z RJ0 "COMPACT_STRINGS" "Z" (.int 1) A U H ∧ va_Zq RJ3 "SIOOBE_FORMATTER" "Ljava/util/function/BiFunction;" A U H
theorem LK.warm {A : Nat → Prop} {s U : State} {H : Heap} {sA sV : Nat → Nat} (hW : s.WarmedH U.vm) (h : LK A s H sA sV) : LK A U H sA sV := ⟨fun i hi => ⟨vk_R.warm hW (h.1 i hi).1, (h.1 i hi).2.moved hW.alike⟩, h.2.1.moved hW.alike, h.2.2.moved hW.alike⟩
theorem LK.same {A : Nat → Prop} {u U : State} {H : Heap} {sA sV : Nat → Nat} (hv : U.vm = u.vm) (h : LK A u H sA sV) : LK A U H sA sV :=
  have hq : u.vm.Alike U.vm := by rw [hv]; exact Vm.Alike.refl _
  ⟨fun i hi => ⟨vk_R.same hv (h.1 i hi).1, (h.1 i hi).2.moved hq⟩, h.2.1.moved hq, h.2.2.moved hq⟩
theorem LK.kept {A : Nat → Prop} {U : State} {H H1 : Heap} {sA sV : Nat → Nat} (h : LK A U H sA sV) (hq : ∀ a : Nat, a < H.size → ¬ A a → H1[a]? = H[a]?) : LK A U H1 sA sV := ⟨fun i hi => ⟨(h.1 i hi).1, (h.1 i hi).2.kept hq⟩, h.2.1.kept hq, h.2.2.kept hq⟩
theorem LK.narrow {A B : Nat → Prop} {U : State} {H : Heap} {sA sV : Nat → Nat} (h : LK A U H sA sV) (hAB : ∀ q, B q → A q) : LK B U H sA sV := ⟨fun i hi => ⟨(h.1 i hi).1, (h.1 i hi).2.narrow hAB⟩, h.2.1.narrow hAB, h.2.2.narrow hAB⟩
theorem LK.str_0 {A : Nat → Prop} {U : State} {H : Heap} {sA sV : Nat → Nat} (h : LK A U H sA sV) : vk_R RX5 79 "pgcwtim" (sA 0) U := (h.1 0 (by decide)).1
theorem LK.str_1 {A : Nat → Prop} {U : State} {H : Heap} {sA sV : Nat → Nat} (h : LK A U H sA sV) : vk_R RX12 180 ".c" (sA 1) U := (h.1 1 (by decide)).1
theorem LK.str_2 {A : Nat → Prop} {U : State} {H : Heap} {sA sV : Nat → Nat} (h : LK A U H sA sV) : vk_R RX12 205 "abcdef" (sA 2) U := (h.1 2 (by decide)).1
theorem LK.str_4 {A : Nat → Prop} {U : State} {H : Heap} {sA sV : Nat → Nat} (h : LK A U H sA sV) : vk_R RX12 241 "pgcwtim" (sA 4) U := (h.1 4 (by decide)).1
theorem LK.str_5 {A : Nat → Prop} {U : State} {H : Heap} {sA sV : Nat → Nat} (h : LK A U H sA sV) : vk_R RX12 246 "<>=" (sA 5) U := (h.1 5 (by decide)).1
theorem LK.str_6 {A : Nat → Prop} {U : State} {H : Heap} {sA sV : Nat → Nat} (h : LK A U H sA sV) : vk_R RX12 248 "+-" (sA 6) U := (h.1 6 (by decide)).1
theorem LK.str_7 {A : Nat → Prop} {U : State} {H : Heap} {sA sV : Nat → Nat} (h : LK A U H sA sV) : vk_R RX12 250 "*/" (sA 7) U := (h.1 7 (by decide)).1
theorem LK.str_8 {A : Nat → Prop} {U : State} {H : Heap} {sA sV : Nat → Nat} (h : LK A U H sA sV) : vk_R RX12 377 "ntpbx" (sA 8) U := (h.1 8 (by decide)).1
def kPre (D : va_G) (τ : Nat → ClassId) (sA sV : Nat → Nat) (wc : va_W) (sz : Nat) : State → Prop := fun U => gPre D τ wc sz U ∧ LK (va_A wc sz) U U.heap sA sV
abbrev kPc (D : va_G) (τ : Nat → ClassId) (sA sV : Nat → Nat) (wc : va_W) (sz : Nat) (As : List Value) : Array Value → State → Prop := va_Pc As (kPre D τ sA sV wc sz)
theorem kPc_blind {D : va_G} {τ : Nat → ClassId} {wc : va_W} {sz : Nat} {sA sV : Nat → Nat} {As : List Value} : FrameBlind (kPc D τ sA sV wc sz As) := fun a U g mk q => by
  obtain ⟨q0, q1, q2⟩ := q
  exact ⟨q0, (gPc_blind (As := As) a U g mk ⟨q0, q1⟩).2, LK.same (u := U) (U := U.calling g mk a) rfl q2⟩
def tPre (D : va_G) (τ : Nat → ClassId) (sA sV : Nat → Nat) (wc : va_W) (sz sa sv : Nat) (bs : List Int) : State → Prop := fun U => kPre D τ sA sV wc sz U ∧ ST (va_A wc sz) U U.heap sa sv bs
abbrev tPc (D : va_G) (τ : Nat → ClassId) (sA sV : Nat → Nat) (wc : va_W) (sz sa sv : Nat) (bs : List Int) (As : List Value) : Array Value → State → Prop := va_Pc As (tPre D τ sA sV wc sz sa sv bs)
theorem tPc_blind {D : va_G} {τ : Nat → ClassId} {wc : va_W} {sz sa sv : Nat} {bs : List Int} {sA sV : Nat → Nat} {As : List Value} : FrameBlind (tPc D τ sA sV wc sz sa sv bs As) := fun a U g mk q => by
  obtain ⟨q0, q1, q2⟩ := q
  exact ⟨q0, (kPc_blind (As := As) a U g mk ⟨q0, q1⟩).2, ST.moved (u := U) (U := U.calling g mk a) (Vm.Alike.refl U.vm) q2⟩
theorem k_met {l : Launch} {y : MethodName} {b : ByteArray} {mL k mc ms sz : Nat} {ret : Option FieldType} {D : va_G} {τ : Nat → ClassId} {sA sV : Nat → Nat} {wc : va_W} {As : List Value} {Qc : (Nat → Prop) → Array Value → State → Outcome → State → Prop} (hpl : plainName y.cls = true) (hn : (lg_sl As).length ≤ mL)
    (body : ∀ (p : Program) (e : Env) (s : State) (m : MethodId) (args : Array Value) (below : List Frame) (meth : Method) (c : Code) (A : Nat → Prop) (ls : Array Slot), p.tables.exec = Jvm.exec → c.code = b → c.maxLocals = mL → meth.sig.returnType = ret → meth.locks = false → meth.name = y.name → cx D τ s m args y.cls → LK A s s.heap sA sV → (∀ q : Nat, s.heap.size ≤ q → A q) → wS D A s.heap wc s.heap [] → lv_has ls mL (lv_args 0 As) →
      W p l e (rmk k mc ms) s m args below meth c s.heap [] 0 0 (MQ below (Qc A) args s mc ms A) (F0 m 0 ls [])) :
    Met l y (lw_w y b mL ret) (rmk k mc ms) (kPc D τ sA sV wc sz As) (Qc (va_A wc sz)) mc ms (va_A wc sz) := by
  refine Met.ofW (cc := b) (maxL := mL) (ret := ret) hpl rfl ?_
  intro p e s m args below meth c s₁ B hml hv
  obtain ⟨rfl, ⟨hsz, hP, hK, hD0⟩, hLS⟩ := hv
  have hts := atoms_spec (ws := lw_w y b mL ret) B.pre
  have hown : s.vm.findClass y.cls = some m.cls := findClass_of_methodNamed B.named
  subst hsz
  have hl := lv_entry As (n := mL) hn
  rw [lg_entry_eq]
  exact body p e s m _ below meth c (va_A wc s.heap.size) _ B.exec B.bytes hml B.returns B.notSynchronized (name_of_methodNamed B.named B.method).1 ⟨fun w hw => hts w (List.mem_cons_of_mem _ hw), hown, hK.1, hK.2⟩ hLS (fun q h => Or.inr h) ⟨hP, hD0.self, va_S.rf⟩ hl
theorem k_metF {l : Launch} {y : MethodName} {b : ByteArray} {mL k mc ms sz : Nat} {ret : Option FieldType} {D : va_G} {τ : Nat → ClassId} {sA sV : Nat → Nat} {wc : va_W} {As : List Value} {Qc : (Nat → Prop) → Array Value → State → Outcome → State → Prop} (hpl : plainFor y = true) (hn : (lg_sl As).length ≤ mL)
    (body : ∀ (p : Program) (e : Env) (s : State) (m : MethodId) (args : Array Value) (below : List Frame) (meth : Method) (c : Code) (A : Nat → Prop) (ls : Array Slot), p.tables.exec = Jvm.exec → c.code = b → c.maxLocals = mL → meth.sig.returnType = ret → meth.locks = false → meth.name = y.name → cx D τ s m args y.cls → LK A s s.heap sA sV → (∀ q : Nat, s.heap.size ≤ q → A q) → wS D A s.heap wc s.heap [] → lv_has ls mL (lv_args 0 As) →
      W p l e (rmk k mc ms) s m args below meth c s.heap [] 0 0 (MQ below (Qc A) args s mc ms A) (F0 m 0 ls [])) :
    Met l y (lw_w y b mL ret) (rmk k mc ms) (kPc D τ sA sV wc sz As) (Qc (va_A wc sz)) mc ms (va_A wc sz) := by
  refine va_MetF (cc := b) (maxL := mL) (ret := ret) hpl rfl ?_
  intro p e s m args below meth c s₁ B hml hv
  obtain ⟨rfl, ⟨hsz, hP, hK, hD0⟩, hLS⟩ := hv
  have hts := atoms_spec (ws := lw_w y b mL ret) B.pre
  have hown : s.vm.findClass y.cls = some m.cls := findClass_of_methodNamed B.named
  subst hsz
  have hl := lv_entry As (n := mL) hn
  rw [lg_entry_eq]
  exact body p e s m _ below meth c (va_A wc s.heap.size) _ B.exec B.bytes hml B.returns B.notSynchronized (name_of_methodNamed B.named B.method).1 ⟨fun w hw => hts w (List.mem_cons_of_mem _ hw), hown, hK.1, hK.2⟩ hLS (fun q h => Or.inr h) ⟨hP, hD0.self, va_S.rf⟩ hl
theorem t_met {l : Launch} {y : MethodName} {b : ByteArray} {mL k mc ms sz : Nat} {sa sv : Nat} {bs : List Int} {ret : Option FieldType} {D : va_G} {τ : Nat → ClassId} {sA sV : Nat → Nat} {wc : va_W} {As : List Value} {Qc : (Nat → Prop) → Array Value → State → Outcome → State → Prop} (hpl : plainName y.cls = true) (hn : (lg_sl As).length ≤ mL)
    (body : ∀ (p : Program) (e : Env) (s : State) (m : MethodId) (args : Array Value) (below : List Frame) (meth : Method) (c : Code) (A : Nat → Prop) (ls : Array Slot), p.tables.exec = Jvm.exec → c.code = b → c.maxLocals = mL → meth.sig.returnType = ret → meth.locks = false → meth.name = y.name → cx D τ s m args y.cls → LK A s s.heap sA sV → ST A s s.heap sa sv bs → (∀ q : Nat, s.heap.size ≤ q → A q) → wS D A s.heap wc s.heap [] → lv_has ls mL (lv_args 0 As) →
      W p l e (rmk k mc ms) s m args below meth c s.heap [] 0 0 (MQ below (Qc A) args s mc ms A) (F0 m 0 ls [])) :
    Met l y (lw_w y b mL ret) (rmk k mc ms) (tPc D τ sA sV wc sz sa sv bs As) (Qc (va_A wc sz)) mc ms (va_A wc sz) := by
  refine Met.ofW (cc := b) (maxL := mL) (ret := ret) hpl rfl ?_
  intro p e s m args below meth c s₁ B hml hv
  obtain ⟨rfl, ⟨⟨hsz, hP, hK, hD0⟩, hLS⟩, hST⟩ := hv
  have hts := atoms_spec (ws := lw_w y b mL ret) B.pre
  have hown : s.vm.findClass y.cls = some m.cls := findClass_of_methodNamed B.named
  subst hsz
  have hl := lv_entry As (n := mL) hn
  rw [lg_entry_eq]
  exact body p e s m _ below meth c (va_A wc s.heap.size) _ B.exec B.bytes hml B.returns B.notSynchronized (name_of_methodNamed B.named B.method).1 ⟨fun w hw => hts w (List.mem_cons_of_mem _ hw), hown, hK.1, hK.2⟩ hLS hST (fun q h => Or.inr h) ⟨hP, hD0.self, va_S.rf⟩ hl
def EQi (Wf : Mem → va_W) (Rf : Mem → Prop) (Q : Int → Mem → Prop) : Int → va_W → Prop := fun z w => ∃ M : Mem, Rf M ∧ Q z M ∧ w = Wf M
def EQz (Wf : Mem → va_W) (Rf : Mem → Prop) (Q : Int → Mem → Prop) : Int → va_W → Prop := fun z w => (z = 0 ∨ z = 1) ∧ ∃ M : Mem, Rf M ∧ Q z M ∧ w = Wf M
def EQv (Wf : Mem → va_W) (Rf : Mem → Prop) (Q : Mem → Prop) : va_W → Prop := fun w => ∃ M : Mem, Rf M ∧ Q M ∧ w = Wf M
theorem rm_ok {lev k mL mc ms : Nat} (h : lev + 1 ≤ k) (hm : mL ≤ 45) : lev + 1 ≤ (rmk k mc ms).frames ∧ 8 + (mL + 11) + 64 * lev ≤ (rmk k mc ms).locals := ⟨h, by show _ ≤ 64 * k; omega⟩
/-- a world that is handed over whole -/
def WQ (Wf : Mem → va_W) : Prop := ∃ N : Nat, (∀ M, (Wf M).length = N) ∧ va_nd (List.range N) = true
theorem pick_all (l : va_W) : (List.range l.length).map (fun i => l[i]?) = l.map some := by
  apply List.ext_getElem?
  intro i
  simp only [List.getElem?_map]
  by_cases h : i < l.length
  · simp [h]
  · simp [Nat.le_of_not_lt h]
section KC
variable {p : Program} {l : Launch} {e : Env} {R : Room} {s : State} {m : MethodId} {args : Array Value} {below : List Frame} {meth : Method} {c : Code} {H : Heap} {locs : List Loc} {cells slots : Nat} {Q : State → Prop}
variable {cc : ByteArray} {pc : Nat} {ls : Array Slot} {rest st0 : List Value} {D : va_G} {A : Nat → Prop} {a : Nat} {ws wc wr : va_W} {H0 : Heap} {τ : Nat → ClassId} {own : String} {sA sV : Nat → Nat}
variable {y : MethodName} {b : ByteArray} {mL n lev mc ms index nL cells' slots' : Nat} {ret : Option FieldType} {As : List Value} {Wf : Mem → va_W} {Rf : Mem → Prop} {M0 : Mem}
theorem k_pre {isC : List Nat} {H0 : Heap} (hH : H0 = s.heap) (hC' : cx D τ s m args own) (hA : ∀ q, H0.size ≤ q → A q) (hLS : LK A s s.heap sA sV) (hw : wS D A H0 ws H locs) (hC : isC.map (fun i => ws[i]?) = wc.map some) (hn : va_nd isC = true) {Bs : List Value} : ∀ U : State, U.heap = H → s.WarmedH U.vm → kPc D τ sA sV wc H.size Bs Bs.toArray U := fun U hU hW => by
  subst hH
  have hF := va_free hw.2.1 hw.2.2 hA isC hC
  exact ⟨rfl, (g_pre hC' hw hC hn (Bs := Bs) U hU hW).2, by rw [hU]; exact ((hLS.kept hw.2.2.2.1).warm hW).narrow hF⟩
theorem t_pre {isC : List Nat} {H0 : Heap} {sa sv : Nat} {bs : List Int} (hH : H0 = s.heap) (hC' : cx D τ s m args own) (hA : ∀ q, H0.size ≤ q → A q) (hLS : LK A s s.heap sA sV) (hw : wS D A H0 ws H locs) (hC : isC.map (fun i => ws[i]?) = wc.map some) (hn : va_nd isC = true) (hST : ST (va_A wc H.size) s H sa sv bs) {Bs : List Value} : ∀ U : State, U.heap = H → s.WarmedH U.vm → tPc D τ sA sV wc H.size sa sv bs Bs Bs.toArray U := fun U hU hW =>
  ⟨rfl, (k_pre hH hC' hA hLS hw hC hn (Bs := Bs) U hU hW).2, by rw [hU]; exact hST.moved hW.alike⟩
theorem j_cVi (hx : p.tables.exec = Jvm.exec) (hb : c.code = cc) (hml : c.maxLocals = nL) (hC : cx D τ s m args own) (hLS : LK A s s.heap sA sV) (hA : ∀ q, s.heap.size ≤ q → A q) (hw : wS D A s.heap ws H locs) (hl : ls.size = nL) {Q1 : Int → Mem → Prop} (M : Met l y (lw_w y b mL ret) (rmk lev mc ms) (kPc D τ sA sV (Wf M0) H.size (.ref a :: As)) (gQi D (EQi Wf Rf Q1) (va_A (Wf M0) H.size)) mc ms (va_A (Wf M0) H.size)) (K : KV y b mL ret n) (hlk : Cond.methodLink own index y ∈ lw_good) (isC isR : List Nat) (hCm : isC.map (fun i => ws[i]?) = (Wf M0).map some) (hRm : isR.map (fun i => ws[i]?) = wr.map some) (hnC : va_nd isC = true) (hnR : va_nd isR = true) (hdis : ∀ i ∈ isR, i ∉ isC) {q0 ci : Nat} {fs : List Value} {T : u_T} {N : Nat} (hci : vwCl[ci]? = some (y.cls, T, N)) (hq0 : (Wf M0)[q0]? = some (a, .inr (ci, fs))) (hst : st0 = As.reverse ++ .ref a :: rest) (hn : As.length = n) (hcat : (rest.map fun v => v.category).sum ≤ 8) (hroom : lev + 1 ≤ R.frames ∧ 8 + (mL + 11) + 64 * lev ≤ R.locals) (hcs : cells + mc ≤ R.cells ∧ slots + ms ≤ R.slots) (hc2 : cells + mc = cells') (hs2 : slots + ms = slots') (hd : decode cc pc = .ok (.invokevirtual index, 3))
    (kk : ∀ (z : Int) (M : Mem) (H : Heap) (locs : List Loc), iR z → Rf M → Q1 z M → wS D A s.heap (wr ++ Wf M) H locs → W p l e R s m args below meth c H locs cells' slots' Q (F0 m (pc + 3) ls (.int (iI z) :: rest))) : W p l e R s m args below meth c H locs cells slots Q (F0 m pc ls st0) := by
  have hF := va_free hw.2.1 hw.2.2 hA isC hCm
  refine va_calli (va_runV ⟨hx, hb, hml, hC.2.1, hC.1⟩ M (cwV n hC.1 (g_wsV K hlk) rfl rfl rfl ⟨rfl, K.2.2.2⟩ hroom) ⟨kPc_blind, va_recv hC.2.2.1 (P_pick hw.1 hCm) hci hq0, k_pre rfl hC hA hLS hw hCm hnC⟩ rfl hn hl hst (lv_room hcat) hd hcs) hw.2.2 (fun q _ h => hF q h) hF (fun r u t H1 locs1 ht hvm hp hB hsz hk1 hS => ?_)
  obtain ⟨z, hz, e1, hB⟩ := hB
  obtain ⟨w1, ⟨M1, hR1, hQ1, rfl⟩, h1⟩ := g_behind hw hA hCm hRm hnR hdis ht hk1 hS hB
  subst hc2
  subst hs2
  rw [hp, e1]
  exact kk z M1 H1 locs1 hz hR1 hQ1 h1
theorem k_cVi (hWQ : WQ Wf) (hx : p.tables.exec = Jvm.exec) (hb : c.code = cc) (hml : c.maxLocals = nL) (hC : cx D τ s m args own) (hLS : LK A s s.heap sA sV) (hA : ∀ q, s.heap.size ≤ q → A q) (hw : wS D A s.heap (Wf M0) H locs) (hl : ls.size = nL) {Q1 : Int → Mem → Prop} (M : Met l y (lw_w y b mL ret) (rmk lev 0 0) (kPc D τ sA sV (Wf M0) H.size (.ref a :: As)) (gQi D (EQi Wf Rf Q1) (va_A (Wf M0) H.size)) 0 0 (va_A (Wf M0) H.size)) (K : KV y b mL ret n) (hlk : Cond.methodLink own index y ∈ lw_good) {q0 ci : Nat} {fs : List Value} {T : u_T} {N : Nat} (hci : vwCl[ci]? = some (y.cls, T, N)) (hq0 : (Wf M0)[q0]? = some (a, .inr (ci, fs))) (hst : st0 = As.reverse ++ .ref a :: rest) (hn : As.length = n) (hcat : (rest.map fun v => v.category).sum ≤ 8) (hroom : lev + 1 ≤ R.frames ∧ 8 + (mL + 11) + 64 * lev ≤ R.locals) (hcs : cells ≤ R.cells ∧ slots ≤ R.slots) (hd : decode cc pc = .ok (.invokevirtual index, 3))
    (kk : ∀ (z : Int) (M : Mem) (H : Heap) (locs : List Loc), iR z → Rf M → Q1 z M → wS D A s.heap (Wf M) H locs → W p l e R s m args below meth c H locs cells slots Q (F0 m (pc + 3) ls (.int (iI z) :: rest))) : W p l e R s m args below meth c H locs cells slots Q (F0 m pc ls st0) := by
  obtain ⟨N, hN, hnd⟩ := hWQ
  have hp := pick_all (Wf M0)
  rw [hN] at hp
  exact j_cVi hx hb hml hC hLS hA hw hl (wr := []) M K hlk (List.range N) [] hp rfl hnd rfl (fun i h => absurd h List.not_mem_nil) hci hq0 hst hn hcat hroom hcs rfl rfl hd kk
theorem j_cVz (hx : p.tables.exec = Jvm.exec) (hb : c.code = cc) (hml : c.maxLocals = nL) (hC : cx D τ s m args own) (hLS : LK A s s.heap sA sV) (hA : ∀ q, s.heap.size ≤ q → A q) (hw : wS D A s.heap ws H locs) (hl : ls.size = nL) {Q1 : Int → Mem → Prop} (M : Met l y (lw_w y b mL ret) (rmk lev mc ms) (kPc D τ sA sV (Wf M0) H.size (.ref a :: As)) (gQi D (EQz Wf Rf Q1) (va_A (Wf M0) H.size)) mc ms (va_A (Wf M0) H.size)) (K : KV y b mL ret n) (hlk : Cond.methodLink own index y ∈ lw_good) (isC isR : List Nat) (hCm : isC.map (fun i => ws[i]?) = (Wf M0).map some) (hRm : isR.map (fun i => ws[i]?) = wr.map some) (hnC : va_nd isC = true) (hnR : va_nd isR = true) (hdis : ∀ i ∈ isR, i ∉ isC) {q0 ci : Nat} {fs : List Value} {T : u_T} {N : Nat} (hci : vwCl[ci]? = some (y.cls, T, N)) (hq0 : (Wf M0)[q0]? = some (a, .inr (ci, fs))) (hst : st0 = As.reverse ++ .ref a :: rest) (hn : As.length = n) (hcat : (rest.map fun v => v.category).sum ≤ 8) (hroom : lev + 1 ≤ R.frames ∧ 8 + (mL + 11) + 64 * lev ≤ R.locals) (hcs : cells + mc ≤ R.cells ∧ slots + ms ≤ R.slots) (hc2 : cells + mc = cells') (hs2 : slots + ms = slots') (hd : decode cc pc = .ok (.invokevirtual index, 3))
    (kk : ∀ (z : Int) (M : Mem) (H : Heap) (locs : List Loc), iR z → (z = 0 ∨ z = 1) → Rf M → Q1 z M → wS D A s.heap (wr ++ Wf M) H locs → W p l e R s m args below meth c H locs cells' slots' Q (F0 m (pc + 3) ls (.int (iI z) :: rest))) : W p l e R s m args below meth c H locs cells slots Q (F0 m pc ls st0) := by
  have hF := va_free hw.2.1 hw.2.2 hA isC hCm
  refine va_calli (va_runV ⟨hx, hb, hml, hC.2.1, hC.1⟩ M (cwV n hC.1 (g_wsV K hlk) rfl rfl rfl ⟨rfl, K.2.2.2⟩ hroom) ⟨kPc_blind, va_recv hC.2.2.1 (P_pick hw.1 hCm) hci hq0, k_pre rfl hC hA hLS hw hCm hnC⟩ rfl hn hl hst (lv_room hcat) hd hcs) hw.2.2 (fun q _ h => hF q h) hF (fun r u t H1 locs1 ht hvm hp hB hsz hk1 hS => ?_)
  obtain ⟨z, hz, e1, hB⟩ := hB
  obtain ⟨w1, ⟨h01, M1, hR1, hQ1, rfl⟩, h1⟩ := g_behind hw hA hCm hRm hnR hdis ht hk1 hS hB
  subst hc2
  subst hs2
  rw [hp, e1]
  exact kk z M1 H1 locs1 hz h01 hR1 hQ1 h1
theorem k_cVz (hWQ : WQ Wf) (hx : p.tables.exec = Jvm.exec) (hb : c.code = cc) (hml : c.maxLocals = nL) (hC : cx D τ s m args own) (hLS : LK A s s.heap sA sV) (hA : ∀ q, s.heap.size ≤ q → A q) (hw : wS D A s.heap (Wf M0) H locs) (hl : ls.size = nL) {Q1 : Int → Mem → Prop} (M : Met l y (lw_w y b mL ret) (rmk lev 0 0) (kPc D τ sA sV (Wf M0) H.size (.ref a :: As)) (gQi D (EQz Wf Rf Q1) (va_A (Wf M0) H.size)) 0 0 (va_A (Wf M0) H.size)) (K : KV y b mL ret n) (hlk : Cond.methodLink own index y ∈ lw_good) {q0 ci : Nat} {fs : List Value} {T : u_T} {N : Nat} (hci : vwCl[ci]? = some (y.cls, T, N)) (hq0 : (Wf M0)[q0]? = some (a, .inr (ci, fs))) (hst : st0 = As.reverse ++ .ref a :: rest) (hn : As.length = n) (hcat : (rest.map fun v => v.category).sum ≤ 8) (hroom : lev + 1 ≤ R.frames ∧ 8 + (mL + 11) + 64 * lev ≤ R.locals) (hcs : cells ≤ R.cells ∧ slots ≤ R.slots) (hd : decode cc pc = .ok (.invokevirtual index, 3))
    (kk : ∀ (z : Int) (M : Mem) (H : Heap) (locs : List Loc), iR z → (z = 0 ∨ z = 1) → Rf M → Q1 z M → wS D A s.heap (Wf M) H locs → W p l e R s m args below meth c H locs cells slots Q (F0 m (pc + 3) ls (.int (iI z) :: rest))) : W p l e R s m args below meth c H locs cells slots Q (F0 m pc ls st0) := by
  obtain ⟨N, hN, hnd⟩ := hWQ
  have hp := pick_all (Wf M0)
  rw [hN] at hp
  exact j_cVz hx hb hml hC hLS hA hw hl (wr := []) M K hlk (List.range N) [] hp rfl hnd rfl (fun i h => absurd h List.not_mem_nil) hci hq0 hst hn hcat hroom hcs rfl rfl hd kk
theorem j_cVl (hx : p.tables.exec = Jvm.exec) (hb : c.code = cc) (hml : c.maxLocals = nL) (hC : cx D τ s m args own) (hLS : LK A s s.heap sA sV) (hA : ∀ q, s.heap.size ≤ q → A q) (hw : wS D A s.heap ws H locs) (hl : ls.size = nL) {Q1 : Int → Mem → Prop} (M : Met l y (lw_w y b mL ret) (rmk lev mc ms) (kPc D τ sA sV (Wf M0) H.size (.ref a :: As)) (gQl D (EQi Wf Rf Q1) (va_A (Wf M0) H.size)) mc ms (va_A (Wf M0) H.size)) (K : KV y b mL ret n) (hlk : Cond.methodLink own index y ∈ lw_good) (isC isR : List Nat) (hCm : isC.map (fun i => ws[i]?) = (Wf M0).map some) (hRm : isR.map (fun i => ws[i]?) = wr.map some) (hnC : va_nd isC = true) (hnR : va_nd isR = true) (hdis : ∀ i ∈ isR, i ∉ isC) {q0 ci : Nat} {fs : List Value} {T : u_T} {N : Nat} (hci : vwCl[ci]? = some (y.cls, T, N)) (hq0 : (Wf M0)[q0]? = some (a, .inr (ci, fs))) (hst : st0 = As.reverse ++ .ref a :: rest) (hn : As.length = n) (hcat : (rest.map fun v => v.category).sum ≤ 8) (hroom : lev + 1 ≤ R.frames ∧ 8 + (mL + 11) + 64 * lev ≤ R.locals) (hcs : cells + mc ≤ R.cells ∧ slots + ms ≤ R.slots) (hc2 : cells + mc = cells') (hs2 : slots + ms = slots') (hd : decode cc pc = .ok (.invokevirtual index, 3))
    (kk : ∀ (z : Int) (M : Mem) (H : Heap) (locs : List Loc), lR z → Rf M → Q1 z M → wS D A s.heap (wr ++ Wf M) H locs → W p l e R s m args below meth c H locs cells' slots' Q (F0 m (pc + 3) ls (.long (lI z) :: rest))) : W p l e R s m args below meth c H locs cells slots Q (F0 m pc ls st0) := by
  have hF := va_free hw.2.1 hw.2.2 hA isC hCm
  refine va_calll (va_runV ⟨hx, hb, hml, hC.2.1, hC.1⟩ M (cwV n hC.1 (g_wsV K hlk) rfl rfl rfl ⟨rfl, K.2.2.2⟩ hroom) ⟨kPc_blind, va_recv hC.2.2.1 (P_pick hw.1 hCm) hci hq0, k_pre rfl hC hA hLS hw hCm hnC⟩ rfl hn hl hst (lv_room hcat) hd hcs) hw.2.2 (fun q _ h => hF q h) hF (fun r u t H1 locs1 ht hvm hp hB hsz hk1 hS => ?_)
  obtain ⟨z, hz, e1, hB⟩ := hB
  obtain ⟨w1, ⟨M1, hR1, hQ1, rfl⟩, h1⟩ := g_behind hw hA hCm hRm hnR hdis ht hk1 hS hB
  subst hc2
  subst hs2
  rw [hp, e1]
  exact kk z M1 H1 locs1 hz hR1 hQ1 h1
theorem j_cVv (hx : p.tables.exec = Jvm.exec) (hb : c.code = cc) (hml : c.maxLocals = nL) (hC : cx D τ s m args own) (hLS : LK A s s.heap sA sV) (hA : ∀ q, s.heap.size ≤ q → A q) (hw : wS D A s.heap ws H locs) (hl : ls.size = nL) {Q1 : Mem → Prop} (M : Met l y (lw_w y b mL ret) (rmk lev mc ms) (kPc D τ sA sV (Wf M0) H.size (.ref a :: As)) (gQv D (EQv Wf Rf Q1) (va_A (Wf M0) H.size)) mc ms (va_A (Wf M0) H.size)) (K : KV y b mL ret n) (hlk : Cond.methodLink own index y ∈ lw_good) (isC isR : List Nat) (hCm : isC.map (fun i => ws[i]?) = (Wf M0).map some) (hRm : isR.map (fun i => ws[i]?) = wr.map some) (hnC : va_nd isC = true) (hnR : va_nd isR = true) (hdis : ∀ i ∈ isR, i ∉ isC) {q0 ci : Nat} {fs : List Value} {T : u_T} {N : Nat} (hci : vwCl[ci]? = some (y.cls, T, N)) (hq0 : (Wf M0)[q0]? = some (a, .inr (ci, fs))) (hst : st0 = As.reverse ++ .ref a :: rest) (hn : As.length = n) (hcat : (rest.map fun v => v.category).sum ≤ 8) (hroom : lev + 1 ≤ R.frames ∧ 8 + (mL + 11) + 64 * lev ≤ R.locals) (hcs : cells + mc ≤ R.cells ∧ slots + ms ≤ R.slots) (hc2 : cells + mc = cells') (hs2 : slots + ms = slots') (hd : decode cc pc = .ok (.invokevirtual index, 3))
    (kk : ∀ (M : Mem) (H : Heap) (locs : List Loc), Rf M → Q1 M → wS D A s.heap (wr ++ Wf M) H locs → W p l e R s m args below meth c H locs cells' slots' Q (F0 m (pc + 3) ls rest)) : W p l e R s m args below meth c H locs cells slots Q (F0 m pc ls st0) := by
  have hF := va_free hw.2.1 hw.2.2 hA isC hCm
  refine va_callv (va_runV ⟨hx, hb, hml, hC.2.1, hC.1⟩ M (cwV n hC.1 (g_wsV K hlk) rfl rfl rfl ⟨rfl, K.2.2.2⟩ hroom) ⟨kPc_blind, va_recv hC.2.2.1 (P_pick hw.1 hCm) hci hq0, k_pre rfl hC hA hLS hw hCm hnC⟩ rfl hn hl hst (lv_room hcat) hd hcs) hw.2.2 (fun q _ h => hF q h) hF (fun u t H1 locs1 ht hvm hp hB hsz hk1 hS => ?_)
  obtain ⟨w1, ⟨M1, hR1, hQ1, rfl⟩, h1⟩ := g_behind hw hA hCm hRm hnR hdis ht hk1 hS hB
  subst hc2
  subst hs2
  exact kk M1 H1 locs1 hR1 hQ1 h1
theorem k_cVv (hWQ : WQ Wf) (hx : p.tables.exec = Jvm.exec) (hb : c.code = cc) (hml : c.maxLocals = nL) (hC : cx D τ s m args own) (hLS : LK A s s.heap sA sV) (hA : ∀ q, s.heap.size ≤ q → A q) (hw : wS D A s.heap (Wf M0) H locs) (hl : ls.size = nL) {Q1 : Mem → Prop} (M : Met l y (lw_w y b mL ret) (rmk lev 0 0) (kPc D τ sA sV (Wf M0) H.size (.ref a :: As)) (gQv D (EQv Wf Rf Q1) (va_A (Wf M0) H.size)) 0 0 (va_A (Wf M0) H.size)) (K : KV y b mL ret n) (hlk : Cond.methodLink own index y ∈ lw_good) {q0 ci : Nat} {fs : List Value} {T : u_T} {N : Nat} (hci : vwCl[ci]? = some (y.cls, T, N)) (hq0 : (Wf M0)[q0]? = some (a, .inr (ci, fs))) (hst : st0 = As.reverse ++ .ref a :: rest) (hn : As.length = n) (hcat : (rest.map fun v => v.category).sum ≤ 8) (hroom : lev + 1 ≤ R.frames ∧ 8 + (mL + 11) + 64 * lev ≤ R.locals) (hcs : cells ≤ R.cells ∧ slots ≤ R.slots) (hd : decode cc pc = .ok (.invokevirtual index, 3))
    (kk : ∀ (M : Mem) (H : Heap) (locs : List Loc), Rf M → Q1 M → wS D A s.heap (Wf M) H locs → W p l e R s m args below meth c H locs cells slots Q (F0 m (pc + 3) ls rest)) : W p l e R s m args below meth c H locs cells slots Q (F0 m pc ls st0) := by
  obtain ⟨N, hN, hnd⟩ := hWQ
  have hp := pick_all (Wf M0)
  rw [hN] at hp
  exact j_cVv hx hb hml hC hLS hA hw hl (wr := []) M K hlk (List.range N) [] hp rfl hnd rfl (fun i h => absurd h List.not_mem_nil) hci hq0 hst hn hcat hroom hcs rfl rfl hd kk
theorem j_cSi (hx : p.tables.exec = Jvm.exec) (hb : c.code = cc) (hml : c.maxLocals = nL) (hC : cx D τ s m args own) (hLS : LK A s s.heap sA sV) (hA : ∀ q, s.heap.size ≤ q → A q) (hw : wS D A s.heap ws H locs) (hl : ls.size = nL) {Q1 : Int → Mem → Prop} (M : Met l y (lw_w y b mL ret) (rmk lev mc ms) (kPc D τ sA sV (Wf M0) H.size As) (gQi D (EQi Wf Rf Q1) (va_A (Wf M0) H.size)) mc ms (va_A (Wf M0) H.size)) (K : KS y b mL ret n) (hlk : Cond.methodLink own index y ∈ lw_good) (isC isR : List Nat) (hCm : isC.map (fun i => ws[i]?) = (Wf M0).map some) (hRm : isR.map (fun i => ws[i]?) = wr.map some) (hnC : va_nd isC = true) (hnR : va_nd isR = true) (hdis : ∀ i ∈ isR, i ∉ isC) (hst : st0 = As.reverse ++ rest) (hn : As.length = n) (hcat : (rest.map fun v => v.category).sum ≤ 8) (hroom : lev + 1 ≤ R.frames ∧ 8 + (mL + 11) + 64 * lev ≤ R.locals) (hcs : cells + mc ≤ R.cells ∧ slots + ms ≤ R.slots) (hc2 : cells + mc = cells') (hs2 : slots + ms = slots') (hd : decode cc pc = .ok (.invokestatic index, 3))
    (kk : ∀ (z : Int) (M : Mem) (H : Heap) (locs : List Loc), iR z → Rf M → Q1 z M → wS D A s.heap (wr ++ Wf M) H locs → W p l e R s m args below meth c H locs cells' slots' Q (F0 m (pc + 3) ls (.int (iI z) :: rest))) : W p l e R s m args below meth c H locs cells slots Q (F0 m pc ls st0) := by
  have hF := va_free hw.2.1 hw.2.2 hA isC hCm
  refine va_calli (va_runS ⟨hx, hb, hml, hC.2.1, hC.1⟩ M (va_cwS n hC.1 (g_wsS K hlk) rfl rfl rfl K.2.2.2 hroom) ⟨kPc_blind, k_pre rfl hC hA hLS hw hCm hnC⟩ rfl hn hl hst (lv_room hcat) hd hcs) hw.2.2 (fun q _ h => hF q h) hF (fun r u t H1 locs1 ht hvm hp hB hsz hk1 hS => ?_)
  obtain ⟨z, hz, e1, hB⟩ := hB
  obtain ⟨w1, ⟨M1, hR1, hQ1, rfl⟩, h1⟩ := g_behind hw hA hCm hRm hnR hdis ht hk1 hS hB
  subst hc2
  subst hs2
  rw [hp, e1]
  exact kk z M1 H1 locs1 hz hR1 hQ1 h1
theorem k_cSi (hWQ : WQ Wf) (hx : p.tables.exec = Jvm.exec) (hb : c.code = cc) (hml : c.maxLocals = nL) (hC : cx D τ s m args own) (hLS : LK A s s.heap sA sV) (hA : ∀ q, s.heap.size ≤ q → A q) (hw : wS D A s.heap (Wf M0) H locs) (hl : ls.size = nL) {Q1 : Int → Mem → Prop} (M : Met l y (lw_w y b mL ret) (rmk lev 0 0) (kPc D τ sA sV (Wf M0) H.size As) (gQi D (EQi Wf Rf Q1) (va_A (Wf M0) H.size)) 0 0 (va_A (Wf M0) H.size)) (K : KS y b mL ret n) (hlk : Cond.methodLink own index y ∈ lw_good) (hst : st0 = As.reverse ++ rest) (hn : As.length = n) (hcat : (rest.map fun v => v.category).sum ≤ 8) (hroom : lev + 1 ≤ R.frames ∧ 8 + (mL + 11) + 64 * lev ≤ R.locals) (hcs : cells ≤ R.cells ∧ slots ≤ R.slots) (hd : decode cc pc = .ok (.invokestatic index, 3))
    (kk : ∀ (z : Int) (M : Mem) (H : Heap) (locs : List Loc), iR z → Rf M → Q1 z M → wS D A s.heap (Wf M) H locs → W p l e R s m args below meth c H locs cells slots Q (F0 m (pc + 3) ls (.int (iI z) :: rest))) : W p l e R s m args below meth c H locs cells slots Q (F0 m pc ls st0) := by
  obtain ⟨N, hN, hnd⟩ := hWQ
  have hp := pick_all (Wf M0)
  rw [hN] at hp
  exact j_cSi hx hb hml hC hLS hA hw hl (wr := []) M K hlk (List.range N) [] hp rfl hnd rfl (fun i h => absurd h List.not_mem_nil) hst hn hcat hroom hcs rfl rfl hd kk
theorem j_cSz (hx : p.tables.exec = Jvm.exec) (hb : c.code = cc) (hml : c.maxLocals = nL) (hC : cx D τ s m args own) (hLS : LK A s s.heap sA sV) (hA : ∀ q, s.heap.size ≤ q → A q) (hw : wS D A s.heap ws H locs) (hl : ls.size = nL) {Q1 : Int → Mem → Prop} (M : Met l y (lw_w y b mL ret) (rmk lev mc ms) (kPc D τ sA sV (Wf M0) H.size As) (gQi D (EQz Wf Rf Q1) (va_A (Wf M0) H.size)) mc ms (va_A (Wf M0) H.size)) (K : KS y b mL ret n) (hlk : Cond.methodLink own index y ∈ lw_good) (isC isR : List Nat) (hCm : isC.map (fun i => ws[i]?) = (Wf M0).map some) (hRm : isR.map (fun i => ws[i]?) = wr.map some) (hnC : va_nd isC = true) (hnR : va_nd isR = true) (hdis : ∀ i ∈ isR, i ∉ isC) (hst : st0 = As.reverse ++ rest) (hn : As.length = n) (hcat : (rest.map fun v => v.category).sum ≤ 8) (hroom : lev + 1 ≤ R.frames ∧ 8 + (mL + 11) + 64 * lev ≤ R.locals) (hcs : cells + mc ≤ R.cells ∧ slots + ms ≤ R.slots) (hc2 : cells + mc = cells') (hs2 : slots + ms = slots') (hd : decode cc pc = .ok (.invokestatic index, 3))
    (kk : ∀ (z : Int) (M : Mem) (H : Heap) (locs : List Loc), iR z → (z = 0 ∨ z = 1) → Rf M → Q1 z M → wS D A s.heap (wr ++ Wf M) H locs → W p l e R s m args below meth c H locs cells' slots' Q (F0 m (pc + 3) ls (.int (iI z) :: rest))) : W p l e R s m args below meth c H locs cells slots Q (F0 m pc ls st0) := by
  have hF := va_free hw.2.1 hw.2.2 hA isC hCm
  refine va_calli (va_runS ⟨hx, hb, hml, hC.2.1, hC.1⟩ M (va_cwS n hC.1 (g_wsS K hlk) rfl rfl rfl K.2.2.2 hroom) ⟨kPc_blind, k_pre rfl hC hA hLS hw hCm hnC⟩ rfl hn hl hst (lv_room hcat) hd hcs) hw.2.2 (fun q _ h => hF q h) hF (fun r u t H1 locs1 ht hvm hp hB hsz hk1 hS => ?_)
  obtain ⟨z, hz, e1, hB⟩ := hB
  obtain ⟨w1, ⟨h01, M1, hR1, hQ1, rfl⟩, h1⟩ := g_behind hw hA hCm hRm hnR hdis ht hk1 hS hB
  subst hc2
  subst hs2
  rw [hp, e1]
  exact kk z M1 H1 locs1 hz h01 hR1 hQ1 h1
theorem k_cSz (hWQ : WQ Wf) (hx : p.tables.exec = Jvm.exec) (hb : c.code = cc) (hml : c.maxLocals = nL) (hC : cx D τ s m args own) (hLS : LK A s s.heap sA sV) (hA : ∀ q, s.heap.size ≤ q → A q) (hw : wS D A s.heap (Wf M0) H locs) (hl : ls.size = nL) {Q1 : Int → Mem → Prop} (M : Met l y (lw_w y b mL ret) (rmk lev 0 0) (kPc D τ sA sV (Wf M0) H.size As) (gQi D (EQz Wf Rf Q1) (va_A (Wf M0) H.size)) 0 0 (va_A (Wf M0) H.size)) (K : KS y b mL ret n) (hlk : Cond.methodLink own index y ∈ lw_good) (hst : st0 = As.reverse ++ rest) (hn : As.length = n) (hcat : (rest.map fun v => v.category).sum ≤ 8) (hroom : lev + 1 ≤ R.frames ∧ 8 + (mL + 11) + 64 * lev ≤ R.locals) (hcs : cells ≤ R.cells ∧ slots ≤ R.slots) (hd : decode cc pc = .ok (.invokestatic index, 3))
    (kk : ∀ (z : Int) (M : Mem) (H : Heap) (locs : List Loc), iR z → (z = 0 ∨ z = 1) → Rf M → Q1 z M → wS D A s.heap (Wf M) H locs → W p l e R s m args below meth c H locs cells slots Q (F0 m (pc + 3) ls (.int (iI z) :: rest))) : W p l e R s m args below meth c H locs cells slots Q (F0 m pc ls st0) := by
  obtain ⟨N, hN, hnd⟩ := hWQ
  have hp := pick_all (Wf M0)
  rw [hN] at hp
  exact j_cSz hx hb hml hC hLS hA hw hl (wr := []) M K hlk (List.range N) [] hp rfl hnd rfl (fun i h => absurd h List.not_mem_nil) hst hn hcat hroom hcs rfl rfl hd kk
theorem j_cSl (hx : p.tables.exec = Jvm.exec) (hb : c.code = cc) (hml : c.maxLocals = nL) (hC : cx D τ s m args own) (hLS : LK A s s.heap sA sV) (hA : ∀ q, s.heap.size ≤ q → A q) (hw : wS D A s.heap ws H locs) (hl : ls.size = nL) {Q1 : Int → Mem → Prop} (M : Met l y (lw_w y b mL ret) (rmk lev mc ms) (kPc D τ sA sV (Wf M0) H.size As) (gQl D (EQi Wf Rf Q1) (va_A (Wf M0) H.size)) mc ms (va_A (Wf M0) H.size)) (K : KS y b mL ret n) (hlk : Cond.methodLink own index y ∈ lw_good) (isC isR : List Nat) (hCm : isC.map (fun i => ws[i]?) = (Wf M0).map some) (hRm : isR.map (fun i => ws[i]?) = wr.map some) (hnC : va_nd isC = true) (hnR : va_nd isR = true) (hdis : ∀ i ∈ isR, i ∉ isC) (hst : st0 = As.reverse ++ rest) (hn : As.length = n) (hcat : (rest.map fun v => v.category).sum ≤ 8) (hroom : lev + 1 ≤ R.frames ∧ 8 + (mL + 11) + 64 * lev ≤ R.locals) (hcs : cells + mc ≤ R.cells ∧ slots + ms ≤ R.slots) (hc2 : cells + mc = cells') (hs2 : slots + ms = slots') (hd : decode cc pc = .ok (.invokestatic index, 3))
    (kk : ∀ (z : Int) (M : Mem) (H : Heap) (locs : List Loc), lR z → Rf M → Q1 z M → wS D A s.heap (wr ++ Wf M) H locs → W p l e R s m args below meth c H locs cells' slots' Q (F0 m (pc + 3) ls (.long (lI z) :: rest))) : W p l e R s m args below meth c H locs cells slots Q (F0 m pc ls st0) := by
  have hF := va_free hw.2.1 hw.2.2 hA isC hCm
  refine va_calll (va_runS ⟨hx, hb, hml, hC.2.1, hC.1⟩ M (va_cwS n hC.1 (g_wsS K hlk) rfl rfl rfl K.2.2.2 hroom) ⟨kPc_blind, k_pre rfl hC hA hLS hw hCm hnC⟩ rfl hn hl hst (lv_room hcat) hd hcs) hw.2.2 (fun q _ h => hF q h) hF (fun r u t H1 locs1 ht hvm hp hB hsz hk1 hS => ?_)
  obtain ⟨z, hz, e1, hB⟩ := hB
  obtain ⟨w1, ⟨M1, hR1, hQ1, rfl⟩, h1⟩ := g_behind hw hA hCm hRm hnR hdis ht hk1 hS hB
  subst hc2
  subst hs2
  rw [hp, e1]
  exact kk z M1 H1 locs1 hz hR1 hQ1 h1
theorem k_cSl (hWQ : WQ Wf) (hx : p.tables.exec = Jvm.exec) (hb : c.code = cc) (hml : c.maxLocals = nL) (hC : cx D τ s m args own) (hLS : LK A s s.heap sA sV) (hA : ∀ q, s.heap.size ≤ q → A q) (hw : wS D A s.heap (Wf M0) H locs) (hl : ls.size = nL) {Q1 : Int → Mem → Prop} (M : Met l y (lw_w y b mL ret) (rmk lev 0 0) (kPc D τ sA sV (Wf M0) H.size As) (gQl D (EQi Wf Rf Q1) (va_A (Wf M0) H.size)) 0 0 (va_A (Wf M0) H.size)) (K : KS y b mL ret n) (hlk : Cond.methodLink own index y ∈ lw_good) (hst : st0 = As.reverse ++ rest) (hn : As.length = n) (hcat : (rest.map fun v => v.category).sum ≤ 8) (hroom : lev + 1 ≤ R.frames ∧ 8 + (mL + 11) + 64 * lev ≤ R.locals) (hcs : cells ≤ R.cells ∧ slots ≤ R.slots) (hd : decode cc pc = .ok (.invokestatic index, 3))
    (kk : ∀ (z : Int) (M : Mem) (H : Heap) (locs : List Loc), lR z → Rf M → Q1 z M → wS D A s.heap (Wf M) H locs → W p l e R s m args below meth c H locs cells slots Q (F0 m (pc + 3) ls (.long (lI z) :: rest))) : W p l e R s m args below meth c H locs cells slots Q (F0 m pc ls st0) := by
  obtain ⟨N, hN, hnd⟩ := hWQ
  have hp := pick_all (Wf M0)
  rw [hN] at hp
  exact j_cSl hx hb hml hC hLS hA hw hl (wr := []) M K hlk (List.range N) [] hp rfl hnd rfl (fun i h => absurd h List.not_mem_nil) hst hn hcat hroom hcs rfl rfl hd kk
theorem j_cSv (hx : p.tables.exec = Jvm.exec) (hb : c.code = cc) (hml : c.maxLocals = nL) (hC : cx D τ s m args own) (hLS : LK A s s.heap sA sV) (hA : ∀ q, s.heap.size ≤ q → A q) (hw : wS D A s.heap ws H locs) (hl : ls.size = nL) {Q1 : Mem → Prop} (M : Met l y (lw_w y b mL ret) (rmk lev mc ms) (kPc D τ sA sV (Wf M0) H.size As) (gQv D (EQv Wf Rf Q1) (va_A (Wf M0) H.size)) mc ms (va_A (Wf M0) H.size)) (K : KS y b mL ret n) (hlk : Cond.methodLink own index y ∈ lw_good) (isC isR : List Nat) (hCm : isC.map (fun i => ws[i]?) = (Wf M0).map some) (hRm : isR.map (fun i => ws[i]?) = wr.map some) (hnC : va_nd isC = true) (hnR : va_nd isR = true) (hdis : ∀ i ∈ isR, i ∉ isC) (hst : st0 = As.reverse ++ rest) (hn : As.length = n) (hcat : (rest.map fun v => v.category).sum ≤ 8) (hroom : lev + 1 ≤ R.frames ∧ 8 + (mL + 11) + 64 * lev ≤ R.locals) (hcs : cells + mc ≤ R.cells ∧ slots + ms ≤ R.slots) (hc2 : cells + mc = cells') (hs2 : slots + ms = slots') (hd : decode cc pc = .ok (.invokestatic index, 3))
    (kk : ∀ (M : Mem) (H : Heap) (locs : List Loc), Rf M → Q1 M → wS D A s.heap (wr ++ Wf M) H locs → W p l e R s m args below meth c H locs cells' slots' Q (F0 m (pc + 3) ls rest)) : W p l e R s m args below meth c H locs cells slots Q (F0 m pc ls st0) := by
  have hF := va_free hw.2.1 hw.2.2 hA isC hCm
  refine va_callv (va_runS ⟨hx, hb, hml, hC.2.1, hC.1⟩ M (va_cwS n hC.1 (g_wsS K hlk) rfl rfl rfl K.2.2.2 hroom) ⟨kPc_blind, k_pre rfl hC hA hLS hw hCm hnC⟩ rfl hn hl hst (lv_room hcat) hd hcs) hw.2.2 (fun q _ h => hF q h) hF (fun u t H1 locs1 ht hvm hp hB hsz hk1 hS => ?_)
  obtain ⟨w1, ⟨M1, hR1, hQ1, rfl⟩, h1⟩ := g_behind hw hA hCm hRm hnR hdis ht hk1 hS hB
  subst hc2
  subst hs2
  exact kk M1 H1 locs1 hR1 hQ1 h1
theorem t_cVi (hx : p.tables.exec = Jvm.exec) (hb : c.code = cc) (hml : c.maxLocals = nL) (hC : cx D τ s m args own) (hLS : LK A s s.heap sA sV) (hA : ∀ q, s.heap.size ≤ q → A q) (hw : wS D A s.heap ws H locs) (hl : ls.size = nL) {Q1 : Int → Mem → Prop} {sa sv : Nat} {bs : List Int} (hST : ST (va_A (Wf M0) H.size) s H sa sv bs) (M : Met l y (lw_w y b mL ret) (rmk lev mc ms) (tPc D τ sA sV (Wf M0) H.size sa sv bs (.ref a :: As)) (gQi D (EQi Wf Rf Q1) (va_A (Wf M0) H.size)) mc ms (va_A (Wf M0) H.size)) (K : KV y b mL ret n) (hlk : Cond.methodLink own index y ∈ lw_good) (isC isR : List Nat) (hCm : isC.map (fun i => ws[i]?) = (Wf M0).map some) (hRm : isR.map (fun i => ws[i]?) = wr.map some) (hnC : va_nd isC = true) (hnR : va_nd isR = true) (hdis : ∀ i ∈ isR, i ∉ isC) (hrv : ∃ cell : Cell, H[a]? = some cell ∧ cell.vm.isStatics = false ∧ s.vm.findClass y.cls = some cell.cls) (hst : st0 = As.reverse ++ .ref a :: rest) (hn : As.length = n) (hcat : (rest.map fun v => v.category).sum ≤ 8) (hroom : lev + 1 ≤ R.frames ∧ 8 + (mL + 11) + 64 * lev ≤ R.locals) (hcs : cells + mc ≤ R.cells ∧ slots + ms ≤ R.slots) (hc2 : cells + mc = cells') (hs2 : slots + ms = slots') (hd : decode cc pc = .ok (.invokevirtual index, 3))
    (kk : ∀ (z : Int) (M : Mem) (H : Heap) (locs : List Loc), iR z → Rf M → Q1 z M → wS D A s.heap (wr ++ Wf M) H locs → W p l e R s m args below meth c H locs cells' slots' Q (F0 m (pc + 3) ls (.int (iI z) :: rest))) : W p l e R s m args below meth c H locs cells slots Q (F0 m pc ls st0) := by
  have hF := va_free hw.2.1 hw.2.2 hA isC hCm
  refine va_calli (va_runV ⟨hx, hb, hml, hC.2.1, hC.1⟩ M (cwV n hC.1 (g_wsV K hlk) rfl rfl rfl ⟨rfl, K.2.2.2⟩ hroom) ⟨tPc_blind, hrv, t_pre rfl hC hA hLS hw hCm hnC hST⟩ rfl hn hl hst (lv_room hcat) hd hcs) hw.2.2 (fun q _ h => hF q h) hF (fun r u t H1 locs1 ht hvm hp hB hsz hk1 hS => ?_)
  obtain ⟨z, hz, e1, hB⟩ := hB
  obtain ⟨w1, ⟨M1, hR1, hQ1, rfl⟩, h1⟩ := g_behind hw hA hCm hRm hnR hdis ht hk1 hS hB
  subst hc2
  subst hs2
  rw [hp, e1]
  exact kk z M1 H1 locs1 hz hR1 hQ1 h1
theorem t_cSi (hx : p.tables.exec = Jvm.exec) (hb : c.code = cc) (hml : c.maxLocals = nL) (hC : cx D τ s m args own) (hLS : LK A s s.heap sA sV) (hA : ∀ q, s.heap.size ≤ q → A q) (hw : wS D A s.heap ws H locs) (hl : ls.size = nL) {Q1 : Int → Mem → Prop} {sa sv : Nat} {bs : List Int} (hST : ST (va_A (Wf M0) H.size) s H sa sv bs) (M : Met l y (lw_w y b mL ret) (rmk lev mc ms) (tPc D τ sA sV (Wf M0) H.size sa sv bs As) (gQi D (EQi Wf Rf Q1) (va_A (Wf M0) H.size)) mc ms (va_A (Wf M0) H.size)) (K : KS y b mL ret n) (hlk : Cond.methodLink own index y ∈ lw_good) (isC isR : List Nat) (hCm : isC.map (fun i => ws[i]?) = (Wf M0).map some) (hRm : isR.map (fun i => ws[i]?) = wr.map some) (hnC : va_nd isC = true) (hnR : va_nd isR = true) (hdis : ∀ i ∈ isR, i ∉ isC) (hst : st0 = As.reverse ++ rest) (hn : As.length = n) (hcat : (rest.map fun v => v.category).sum ≤ 8) (hroom : lev + 1 ≤ R.frames ∧ 8 + (mL + 11) + 64 * lev ≤ R.locals) (hcs : cells + mc ≤ R.cells ∧ slots + ms ≤ R.slots) (hc2 : cells + mc = cells') (hs2 : slots + ms = slots') (hd : decode cc pc = .ok (.invokestatic index, 3))
    (kk : ∀ (z : Int) (M : Mem) (H : Heap) (locs : List Loc), iR z → Rf M → Q1 z M → wS D A s.heap (wr ++ Wf M) H locs → W p l e R s m args below meth c H locs cells' slots' Q (F0 m (pc + 3) ls (.int (iI z) :: rest))) : W p l e R s m args below meth c H locs cells slots Q (F0 m pc ls st0) := by
  have hF := va_free hw.2.1 hw.2.2 hA isC hCm
  refine va_calli (va_runS ⟨hx, hb, hml, hC.2.1, hC.1⟩ M (va_cwS n hC.1 (g_wsS K hlk) rfl rfl rfl K.2.2.2 hroom) ⟨tPc_blind, t_pre rfl hC hA hLS hw hCm hnC hST⟩ rfl hn hl hst (lv_room hcat) hd hcs) hw.2.2 (fun q _ h => hF q h) hF (fun r u t H1 locs1 ht hvm hp hB hsz hk1 hS => ?_)
  obtain ⟨z, hz, e1, hB⟩ := hB
  obtain ⟨w1, ⟨M1, hR1, hQ1, rfl⟩, h1⟩ := g_behind hw hA hCm hRm hnR hdis ht hk1 hS hB
  subst hc2
  subst hs2
  rw [hp, e1]
  exact kk z M1 H1 locs1 hz hR1 hQ1 h1
theorem k_cVzA (hWQ : WQ Wf) (hx : p.tables.exec = Jvm.exec) (hb : c.code = cc) (hml : c.maxLocals = nL) (hC : cx D τ s m args own) (hLS : LK A s s.heap sA sV) (hA : ∀ q, s.heap.size ≤ q → A q) (hw : wS D A s.heap (Wf M0) H locs) (hl : ls.size = nL) {Q1 : Int → Mem → Prop} (M : Met l y (lw_w y b mL ret) (rmk lev mc ms) (kPc D τ sA sV (Wf M0) H.size (.ref a :: As)) (gQi D (EQz Wf Rf Q1) (va_A (Wf M0) H.size)) mc ms (va_A (Wf M0) H.size)) (K : KV y b mL ret n) (hlk : Cond.methodLink own index y ∈ lw_good) {q0 ci : Nat} {fs : List Value} {T : u_T} {N : Nat} (hci : vwCl[ci]? = some (y.cls, T, N)) (hq0 : (Wf M0)[q0]? = some (a, .inr (ci, fs))) (hst : st0 = As.reverse ++ .ref a :: rest) (hn : As.length = n) (hcat : (rest.map fun v => v.category).sum ≤ 8) (hroom : lev + 1 ≤ R.frames ∧ 8 + (mL + 11) + 64 * lev ≤ R.locals) (hcs : cells + mc ≤ R.cells ∧ slots + ms ≤ R.slots) (hc2 : cells + mc = cells') (hs2 : slots + ms = slots') (hd : decode cc pc = .ok (.invokevirtual index, 3))
    (kk : ∀ (z : Int) (M : Mem) (H : Heap) (locs : List Loc), iR z → (z = 0 ∨ z = 1) → Rf M → Q1 z M → wS D A s.heap (Wf M) H locs → W p l e R s m args below meth c H locs cells' slots' Q (F0 m (pc + 3) ls (.int (iI z) :: rest))) : W p l e R s m args below meth c H locs cells slots Q (F0 m pc ls st0) := by
  obtain ⟨N, hN, hnd⟩ := hWQ
  have hp := pick_all (Wf M0)
  rw [hN] at hp
  exact j_cVz hx hb hml hC hLS hA hw hl (wr := []) M K hlk (List.range N) [] hp rfl hnd rfl (fun i h => absurd h List.not_mem_nil) hci hq0 hst hn hcat hroom hcs hc2 hs2 hd kk
theorem k_iret (hWQ : WQ Wf) (hx : p.tables.exec = Jvm.exec) (hb : c.code = cc) (hr : meth.sig.returnType = some .int) (hlk : meth.locks = false) (hw : wS D A s.heap (Wf M0) H locs) {Q1 : Int → Mem → Prop} (hM : Rf M0) {z : Int} (hz : iR z) (hv : Q1 z M0) (hd : decode cc pc = .ok (.ireturn, 1)) : W p l e R s m args below meth c H locs cells slots (MQ below (gQi D (EQi Wf Rf Q1) A) args s cells slots A) (F0 m pc ls [.int (iI z)]) := by
  obtain ⟨N, hN, hnd⟩ := hWQ
  have hp := pick_all (Wf M0)
  rw [hN] at hp
  exact r_iret hx hb hr hlk hw (Wf M0) (List.range N) hp hnd hz ⟨M0, hM, hv, rfl⟩ hd
theorem k_zret (hWQ : WQ Wf) (hx : p.tables.exec = Jvm.exec) (hb : c.code = cc) (hr : meth.sig.returnType = some .boolean) (hlk : meth.locks = false) (hw : wS D A s.heap (Wf M0) H locs) {Q1 : Int → Mem → Prop} (hM : Rf M0) {z : Int} (hz : iR z) (h01 : z = 0 ∨ z = 1) (hv : Q1 z M0) (hd : decode cc pc = .ok (.ireturn, 1)) : W p l e R s m args below meth c H locs cells slots (MQ below (gQi D (EQz Wf Rf Q1) A) args s cells slots A) (F0 m pc ls [.int (iI z)]) := by
  obtain ⟨N, hN, hnd⟩ := hWQ
  have hp := pick_all (Wf M0)
  rw [hN] at hp
  exact r_zret hx hb hr hlk hw (Wf M0) (List.range N) hp hnd hz h01 ⟨h01, M0, hM, hv, rfl⟩ hd
theorem k_lret (hWQ : WQ Wf) (hx : p.tables.exec = Jvm.exec) (hb : c.code = cc) (hr : meth.sig.returnType = some .long) (hlk : meth.locks = false) (hw : wS D A s.heap (Wf M0) H locs) {Q1 : Int → Mem → Prop} (hM : Rf M0) {z : Int} (hz : lR z) (hv : Q1 z M0) (hd : decode cc pc = .ok (.lreturn, 1)) : W p l e R s m args below meth c H locs cells slots (MQ below (gQl D (EQi Wf Rf Q1) A) args s cells slots A) (F0 m pc ls [.long (lI z)]) := by
  obtain ⟨N, hN, hnd⟩ := hWQ
  have hp := pick_all (Wf M0)
  rw [hN] at hp
  exact r_lret hx hb hr hlk hw (Wf M0) (List.range N) hp hnd hz ⟨M0, hM, hv, rfl⟩ hd
theorem k_vret (hWQ : WQ Wf) (hx : p.tables.exec = Jvm.exec) (hb : c.code = cc) (hr : meth.sig.returnType = none) (hlk : meth.locks = false) (hw : wS D A s.heap (Wf M0) H locs) {Q1 : Mem → Prop} (hM : Rf M0) (hv : Q1 M0) (hd : decode cc pc = .ok (.return_, 1)) : W p l e R s m args below meth c H locs cells slots (MQ below (gQv D (EQv Wf Rf Q1) A) args s cells slots A) (F0 m pc ls []) := by
  obtain ⟨N, hN, hnd⟩ := hWQ
  have hp := pick_all (Wf M0)
  rw [hN] at hp
  exact r_vret hx hb hr hlk hw (Wf M0) (List.range N) hp hnd ⟨M0, hM, hv, rfl⟩ hd
end KC
end
section
/-! SHAPES: the two worlds -/
def wl (N : Nat) (ct : (Nat → Nat) → Nat → (Int → Int) → va_E) (ad : Nat → Nat) (M : Mem) : va_W := (List.range N).map (fun k => (ad k, ct ad k (M k)))
theorem wl_get {N : Nat} {ct : (Nat → Nat) → Nat → (Int → Int) → va_E} {ad : Nat → Nat} {M : Mem} {k : Nat} (h : k < N) {e : va_E} (he : ct ad k (M k) = e) : (wl N ct ad M)[k]? = some (ad k, e) := by
  subst he
  simp [wl, h]
theorem wl_set {N : Nat} {ct : (Nat → Nat) → Nat → (Int → Int) → va_E} {ad : Nat → Nat} {M : Mem} {k : Nat} {r : Int → Int} {e : va_E} (he : ct ad k r = e) : (wl N ct ad M).set k (ad k, e) = wl N ct ad (fun i => if i = k then r else M i) := by
  subst he
  apply List.ext_getElem?
  intro i
  unfold wl
  rw [List.getElem?_set]
  simp only [List.length_map, List.length_range, List.getElem?_map]
  by_cases hi : i < N
  · by_cases hk : k = i
    · subst hk
      simp [hi]
    · have hk2 : ¬ i = k := fun h => hk h.symm
      simp [hi, hk, hk2]
  · by_cases hk : k = i
    · subst hk
      simp [hi]
    · simp [hi, hk]
theorem wl_up {N : Nat} {ct : (Nat → Nat) → Nat → (Int → Int) → va_E} {ad : Nat → Nat} {M : Mem} {k : Nat} {j v : Int} {e : va_E} (he : ct ad k (up (M k) j v) = e) : (wl N ct ad M).set k (ad k, e) = wl N ct ad (up2 M k j v) := wl_set he
theorem wl_cp {N : Nat} {ct : (Nat → Nat) → Nat → (Int → Int) → va_E} {ad : Nat → Nat} {M : Mem} {a b : Nat} {n : Int} {e : va_E} (he : ct ad b (cpy (M a) (M b) n) = e) : (wl N ct ad M).set b (ad b, e) = wl N ct ad (cp2 M a b n) := wl_set he
theorem wl_len {N : Nat} {ct : (Nat → Nat) → Nat → (Int → Int) → va_E} {ad : Nat → Nat} {M : Mem} : (wl N ct ad M).length = N := by simp [wl]
abbrev FS (ad : Nat → Nat) (k : Nat) (r : Int → Int) : List Value := [.ref (ad (k + 1)), .ref (ad (k + 2)), .ref (ad (k + 3)), .ref (ad (k + 4)), .ref (ad (k + 5)), .ref (ad (k + 6)), .int (iI (r 6)), .int (iI (r 7)), .int (iI (r 8)), .int (iI (r 9)), .int (iI (r 10))]
abbrev FL (ad : Nat → Nat) (k : Nat) (r : Int → Int) : List Value := [.ref (ad (k + 1)), .ref (ad (k + 2)), .ref (ad (k + 3)), .ref (ad (k + 4)), .int (iI (r 4)), .int (iI (r 5))]
abbrev FX155 (ad : Nat → Nat) (r : Int → Int) : List Value := [.ref (ad 156), .ref (ad 158), .ref (ad 1), .ref (ad 8), .ref (ad 15), .ref (ad 22), .ref (ad 160), .ref (ad 163), .ref (ad 165), .ref (ad 166), .ref (ad 167), .ref (ad 168), .ref (ad 179), .ref (ad 182), .ref (ad 185), .int (iI (r 15)), .ref (ad (r 16).toNat), .ref (ad (r 17).toNat)]
abbrev FX156 (ad : Nat → Nat) (r : Int → Int) : List Value := [.ref (ad 157), .int (iI (r 1)), .int (iI (r 2)), .int (iI (r 3))]
abbrev FX158 (ad : Nat → Nat) (r : Int → Int) : List Value := [.ref (ad 159), .int (iI (r 1)), .int (iI (r 2)), .int (iI (r 3))]
abbrev FX160 (ad : Nat → Nat) (r : Int → Int) : List Value := [.ref (ad 158), .ref (ad 161), .ref (ad 162), .int (iI (r 3)), .int (iI (r 4)), .int (iI (r 5))]
abbrev FX163 (ad : Nat → Nat) (r : Int → Int) : List Value := [.ref (ad 164), .int (iI (r 1)), .int (iI (r 2))]
abbrev FX167 (ad : Nat → Nat) (r : Int → Int) : List Value := [.ref (ad 0), .int (iI (r 1))]
abbrev FX168 (ad : Nat → Nat) (r : Int → Int) : List Value := [.ref (ad 169), .int (iI (r 1))]
abbrev FX179 (ad : Nat → Nat) (r : Int → Int) : List Value := [.ref (ad 180), .ref (ad 181), .int (iI (r 2))]
abbrev FX182 (ad : Nat → Nat) (r : Int → Int) : List Value := [.ref (ad 183), .ref (ad 184), .int (iI (r 2))]
abbrev FX185 (ad : Nat → Nat) (r : Int → Int) : List Value := [.ref (ad 186), .int (iI (r 1)), .int (iI (r 2)), .int (iI (r 3))]
abbrev FM1 (ad : Nat → Nat) (r : Int → Int) : List Value := [.int (iI (r 0)), .int (iI (r 1)), .ref (ad 0), .int (iI (r 3)), .int (iI (r 4)), .int (iI (r 5)), .int (iI (r 6)), .int (iI (r 7)), .ref (ad 2), .ref (ad 3), .ref (ad 4), .ref (ad 5), .ref (ad 6), .ref (ad 7), .int (iI (r 14)), .int (iI (r 15)), .int (iI (r 16)), .int (iI (r 17)), .ref (ad 8), .ref (ad 9), .int (iI (r 20)), .ref (ad 10), .ref (ad 11), .ref (ad 12), .int (iI (r 24)), .int (iI (r 25)), .ref (ad 13), .ref (ad 14), .int (iI (r 28)), .ref (ad 15), .int (iI (r 30)), .int (iI (r 31)), .ref (ad 16), .ref (ad 17), .ref (ad 18), .int (iI (r 35)), .ref (ad 19), .ref (ad 20), .ref (ad 21), .int (iI (r 39)), .ref (ad 22), .ref (ad 23), .int (iI (r 42)), .ref (ad 24), .ref (ad 25), .int (iI (r 45)), .ref (ad 26), .ref (ad 27), .ref (ad 28), .int (iI (r 49)), .ref (ad 29), .ref (ad 30), .ref (ad 31)]
def scX (τ : Nat → ClassId) (ad : Nat → Nat) (k o : Nat) (r : Int → Int) : va_E := match o with
  | 0 => .inr (7, FS ad k r)
  | 1 => .inl (τ 0, 6, .inl (ar r))
  | 2 => .inl (τ 0, 6, .inl (ar r))
  | _ => .inl (τ 0, 8, .inl (ar r))
def tlX (τ : Nat → ClassId) (ad : Nat → Nat) (j : Nat) (r : Int → Int) : va_E := match j with
  | 0 => .inr (12, FX155 ad r)
  | 1 => .inr (10, FX156 ad r)
  | 2 => .inl (τ 0, 80, .inl (ar r))
  | 3 => .inr (9, FX158 ad r)
  | 4 => .inl (τ 0, 20, .inl (ar r))
  | 5 => .inr (11, FX160 ad r)
  | 6 => .inl (τ 0, 30, .inl (ar r))
  | 7 => .inl (τ 0, 8, .inl (ar r))
  | 8 => .inr (2, FX163 ad r)
  | 9 => .inl (τ 3, 15, rfs (fun i => some (ad (50 + 7 * i))))
  | 10 => .inl (τ 3, 3, rfs (fun i => some (ad (29 + 7 * i))))
  | 11 => .inl (τ 2, 3, .inl (ar r))
  | 12 => .inr (5, FX167 ad r)
  | 13 => .inr (8, FX168 ad r)
  | 14 => .inl (τ 4, 9, rfs (fun i => some (ad (170 + i))))
  | 15 => .inl (τ 0, 64, .inl (ar r))
  | 16 => .inl (τ 0, 64, .inl (ar r))
  | 17 => .inl (τ 0, 64, .inl (ar r))
  | 18 => .inl (τ 0, 64, .inl (ar r))
  | 19 => .inl (τ 0, 64, .inl (ar r))
  | 20 => .inl (τ 0, 64, .inl (ar r))
  | 21 => .inl (τ 0, 64, .inl (ar r))
  | 22 => .inl (τ 0, 64, .inl (ar r))
  | 23 => .inl (τ 0, 64, .inl (ar r))
  | 24 => .inr (4, FX179 ad r)
  | 25 => .inl (τ 0, 6, .inl (ar r))
  | 26 => .inl (τ 0, 6, .inl (ar r))
  | 27 => .inr (1, FX182 ad r)
  | 28 => .inl (τ 0, 8, .inl (ar r))
  | 29 => .inl (τ 0, 8, .inl (ar r))
  | 30 => .inr (6, FX185 ad r)
  | 31 => .inl (τ 0, 40, .inl (ar r))
  | 32 => .inr (3, FL ad 187 r)
  | 33 => .inl (τ 0, 40, .inl (ar r))
  | 34 => .inl (τ 0, 40, .inl (ar r))
  | 35 => .inl (τ 0, 40, .inl (ar r))
  | 36 => .inl (τ 0, 7, .inl (ar r))
  | 37 => .inr (3, FL ad 192 r)
  | 38 => .inl (τ 0, 40, .inl (ar r))
  | 39 => .inl (τ 0, 40, .inl (ar r))
  | 40 => .inl (τ 0, 40, .inl (ar r))
  | 41 => .inl (τ 0, 7, .inl (ar r))
  | _ => .inr (0, [])
def ctX (τ : Nat → ClassId) (ad : Nat → Nat) (k : Nat) (r : Int → Int) : va_E := if k = 0 then .inl (τ 1, 8, .inr (.inl (arL r))) else if k < 155 then scX τ ad k ((k - 1) % 7) r else tlX τ ad (k - 155) r
def WX (τ : Nat → ClassId) (ad : Nat → Nat) (M : Mem) : va_W := wl 197 (ctX τ) ad M
theorem wq_X (τ : Nat → ClassId) (ad : Nat → Nat) : WQ (WX τ ad) := ⟨197, fun _ => wl_len, by decide +kernel⟩
def ctM (τ : Nat → ClassId) (ad : Nat → Nat) (k : Nat) (r : Int → Int) : va_E := match k with
  | 0 => .inl (τ 1, 24, .inr (.inl (arL r)))
  | 1 => .inr (13, FM1 ad r)
  | 2 => .inl (τ 2, 30, .inl (ar r))
  | 3 => .inl (τ 0, 8, .inl (ar r))
  | 4 => .inl (τ 0, 20, .inl (ar r))
  | 5 => .inl (τ 0, 38, .inl (ar r))
  | 6 => .inl (τ 0, 38, .inl (ar r))
  | 7 => .inl (τ 0, 80, .inl (ar r))
  | 8 => .inl (τ 2, 30, .inl (ar r))
  | 9 => .inl (τ 0, 16, .inl (ar r))
  | 10 => .inl (τ 0, 20, .inl (ar r))
  | 11 => .inl (τ 0, 80, .inl (ar r))
  | 12 => .inl (τ 0, 80, .inl (ar r))
  | 13 => .inl (τ 0, 80, .inl (ar r))
  | 14 => .inl (τ 0, 7, .inl (ar r))
  | 15 => .inl (τ 0, 608, .inl (ar r))
  | 16 => .inl (τ 0, 30, .inl (ar r))
  | 17 => .inl (τ 0, 8, .inl (ar r))
  | 18 => .inl (τ 0, 6, .inl (ar r))
  | 19 => .inl (τ 0, 60, .inl (ar r))
  | 20 => .inl (τ 0, 60, .inl (ar r))
  | 21 => .inl (τ 0, 60, .inl (ar r))
  | 22 => .inl (τ 0, 6, .inl (ar r))
  | 23 => .inl (τ 0, 6, .inl (ar r))
  | 24 => .inl (τ 0, 8, .inl (ar r))
  | 25 => .inl (τ 0, 8, .inl (ar r))
  | 26 => .inl (τ 0, 8, .inl (ar r))
  | 27 => .inl (τ 0, 8, .inl (ar r))
  | 28 => .inl (τ 0, 80, .inl (ar r))
  | 29 => .inl (τ 2, 3, .inl (ar r))
  | 30 => .inl (τ 0, 3, .inl (ar r))
  | 31 => .inl (τ 0, 114, .inl (ar r))
  | _ => .inr (0, [])
def WM (τ : Nat → ClassId) (ad : Nat → Nat) (M : Mem) : va_W := wl 32 (ctM τ) ad M
theorem wq_M (τ : Nat → ClassId) (ad : Nat → Nat) : WQ (WM τ ad) := ⟨32, fun _ => wl_len, by decide +kernel⟩
def XI (n k : Nat) : Prop := (0 < k ∧ k < 197) ∧ ∀ (τ : Nat → ClassId) (ad : Nat → Nat) (r : Int → Int), ctX τ ad k r = .inl (τ 0, n, .inl (ar r))
theorem XI.pos {n k : Nat} (h : XI n k) : 0 < k := h.1.1
theorem gI_X {n k : Nat} (h : XI n k) (τ : Nat → ClassId) (ad : Nat → Nat) (M : Mem) : (WX τ ad M)[k]? = some (ad k, .inl (τ 0, n, .inl (ar (M k)))) := wl_get h.1.2 (h.2 τ ad _)
theorem sI_X {n k : Nat} (h : XI n k) (τ : Nat → ClassId) (ad : Nat → Nat) (M : Mem) (j v : Int) : (WX τ ad M).set k (ad k, .inl (τ 0, n, .inl (ar (up (M k) j v)))) = WX τ ad (up2 M k j v) := wl_up (h.2 τ ad _)
def XZ (n k : Nat) : Prop := (0 < k ∧ k < 197) ∧ ∀ (τ : Nat → ClassId) (ad : Nat → Nat) (r : Int → Int), ctX τ ad k r = .inl (τ 2, n, .inl (ar r))
theorem XZ.pos {n k : Nat} (h : XZ n k) : 0 < k := h.1.1
theorem gZ_X {n k : Nat} (h : XZ n k) (τ : Nat → ClassId) (ad : Nat → Nat) (M : Mem) : (WX τ ad M)[k]? = some (ad k, .inl (τ 2, n, .inl (ar (M k)))) := wl_get h.1.2 (h.2 τ ad _)
theorem sZ_X {n k : Nat} (h : XZ n k) (τ : Nat → ClassId) (ad : Nat → Nat) (M : Mem) (j v : Int) : (WX τ ad M).set k (ad k, .inl (τ 2, n, .inl (ar (up (M k) j v)))) = WX τ ad (up2 M k j v) := wl_up (h.2 τ ad _)
def XJ (n k : Nat) : Prop := (0 ≤ k ∧ k < 197) ∧ ∀ (τ : Nat → ClassId) (ad : Nat → Nat) (r : Int → Int), ctX τ ad k r = .inl (τ 1, n, .inr (.inl (arL r)))
theorem gJ_X {n k : Nat} (h : XJ n k) (τ : Nat → ClassId) (ad : Nat → Nat) (M : Mem) : (WX τ ad M)[k]? = some (ad k, .inl (τ 1, n, .inr (.inl (arL (M k))))) := wl_get h.1.2 (h.2 τ ad _)
theorem sJ_X {n k : Nat} (h : XJ n k) (τ : Nat → ClassId) (ad : Nat → Nat) (M : Mem) (j v : Int) : (WX τ ad M).set k (ad k, .inl (τ 1, n, .inr (.inl (arL (up (M k) j v))))) = WX τ ad (up2 M k j v) := wl_up (h.2 τ ad _)
theorem cI_X {n k : Nat} (h : XI n k) (τ : Nat → ClassId) (ad : Nat → Nat) (M : Mem) (a : Nat) (z : Int) : (WX τ ad M).set k (ad k, .inl (τ 0, n, .inl (ar (cpy (M a) (M k) z)))) = WX τ ad (cp2 M a k z) := wl_cp (h.2 τ ad _)
def MI (n k : Nat) : Prop := (0 < k ∧ k < 32) ∧ ∀ (τ : Nat → ClassId) (ad : Nat → Nat) (r : Int → Int), ctM τ ad k r = .inl (τ 0, n, .inl (ar r))
theorem MI.pos {n k : Nat} (h : MI n k) : 0 < k := h.1.1
theorem gI_M {n k : Nat} (h : MI n k) (τ : Nat → ClassId) (ad : Nat → Nat) (M : Mem) : (WM τ ad M)[k]? = some (ad k, .inl (τ 0, n, .inl (ar (M k)))) := wl_get h.1.2 (h.2 τ ad _)
theorem sI_M {n k : Nat} (h : MI n k) (τ : Nat → ClassId) (ad : Nat → Nat) (M : Mem) (j v : Int) : (WM τ ad M).set k (ad k, .inl (τ 0, n, .inl (ar (up (M k) j v)))) = WM τ ad (up2 M k j v) := wl_up (h.2 τ ad _)
def MZ (n k : Nat) : Prop := (0 < k ∧ k < 32) ∧ ∀ (τ : Nat → ClassId) (ad : Nat → Nat) (r : Int → Int), ctM τ ad k r = .inl (τ 2, n, .inl (ar r))
theorem MZ.pos {n k : Nat} (h : MZ n k) : 0 < k := h.1.1
theorem gZ_M {n k : Nat} (h : MZ n k) (τ : Nat → ClassId) (ad : Nat → Nat) (M : Mem) : (WM τ ad M)[k]? = some (ad k, .inl (τ 2, n, .inl (ar (M k)))) := wl_get h.1.2 (h.2 τ ad _)
theorem sZ_M {n k : Nat} (h : MZ n k) (τ : Nat → ClassId) (ad : Nat → Nat) (M : Mem) (j v : Int) : (WM τ ad M).set k (ad k, .inl (τ 2, n, .inl (ar (up (M k) j v)))) = WM τ ad (up2 M k j v) := wl_up (h.2 τ ad _)
def MJ (n k : Nat) : Prop := (0 ≤ k ∧ k < 32) ∧ ∀ (τ : Nat → ClassId) (ad : Nat → Nat) (r : Int → Int), ctM τ ad k r = .inl (τ 1, n, .inr (.inl (arL r)))
theorem gJ_M {n k : Nat} (h : MJ n k) (τ : Nat → ClassId) (ad : Nat → Nat) (M : Mem) : (WM τ ad M)[k]? = some (ad k, .inl (τ 1, n, .inr (.inl (arL (M k))))) := wl_get h.1.2 (h.2 τ ad _)
theorem sJ_M {n k : Nat} (h : MJ n k) (τ : Nat → ClassId) (ad : Nat → Nat) (M : Mem) (j v : Int) : (WM τ ad M).set k (ad k, .inl (τ 1, n, .inr (.inl (arL (up (M k) j v))))) = WM τ ad (up2 M k j v) := wl_up (h.2 τ ad _)
theorem aX_157 : XI 80 157 := ⟨⟨by decide, by decide⟩, fun _ _ _ => rfl⟩
theorem aX_159 : XI 20 159 := ⟨⟨by decide, by decide⟩, fun _ _ _ => rfl⟩
theorem aX_161 : XI 30 161 := ⟨⟨by decide, by decide⟩, fun _ _ _ => rfl⟩
theorem aX_162 : XI 8 162 := ⟨⟨by decide, by decide⟩, fun _ _ _ => rfl⟩
theorem aX_166 : XZ 3 166 := ⟨⟨by decide, by decide⟩, fun _ _ _ => rfl⟩
theorem aX_170 : XI 64 170 := ⟨⟨by decide, by decide⟩, fun _ _ _ => rfl⟩
theorem aX_180 : XI 6 180 := ⟨⟨by decide, by decide⟩, fun _ _ _ => rfl⟩
theorem aX_181 : XI 6 181 := ⟨⟨by decide, by decide⟩, fun _ _ _ => rfl⟩
theorem aX_183 : XI 8 183 := ⟨⟨by decide, by decide⟩, fun _ _ _ => rfl⟩
theorem aX_184 : XI 8 184 := ⟨⟨by decide, by decide⟩, fun _ _ _ => rfl⟩
theorem aX_186 : XI 40 186 := ⟨⟨by decide, by decide⟩, fun _ _ _ => rfl⟩
theorem aX_0 : XJ 8 0 := ⟨⟨by decide, by decide⟩, fun _ _ _ => rfl⟩
theorem aM_0 : MJ 24 0 := ⟨⟨by decide, by decide⟩, fun _ _ _ => rfl⟩
theorem aM_2 : MZ 30 2 := ⟨⟨by decide, by decide⟩, fun _ _ _ => rfl⟩
theorem aM_3 : MI 8 3 := ⟨⟨by decide, by decide⟩, fun _ _ _ => rfl⟩
theorem aM_4 : MI 20 4 := ⟨⟨by decide, by decide⟩, fun _ _ _ => rfl⟩
theorem aM_5 : MI 38 5 := ⟨⟨by decide, by decide⟩, fun _ _ _ => rfl⟩
theorem aM_6 : MI 38 6 := ⟨⟨by decide, by decide⟩, fun _ _ _ => rfl⟩
theorem aM_7 : MI 80 7 := ⟨⟨by decide, by decide⟩, fun _ _ _ => rfl⟩
theorem aM_8 : MZ 30 8 := ⟨⟨by decide, by decide⟩, fun _ _ _ => rfl⟩
theorem aM_9 : MI 16 9 := ⟨⟨by decide, by decide⟩, fun _ _ _ => rfl⟩
theorem aM_10 : MI 20 10 := ⟨⟨by decide, by decide⟩, fun _ _ _ => rfl⟩
theorem aM_11 : MI 80 11 := ⟨⟨by decide, by decide⟩, fun _ _ _ => rfl⟩
theorem aM_12 : MI 80 12 := ⟨⟨by decide, by decide⟩, fun _ _ _ => rfl⟩
theorem aM_13 : MI 80 13 := ⟨⟨by decide, by decide⟩, fun _ _ _ => rfl⟩
theorem aM_14 : MI 7 14 := ⟨⟨by decide, by decide⟩, fun _ _ _ => rfl⟩
theorem aM_15 : MI 608 15 := ⟨⟨by decide, by decide⟩, fun _ _ _ => rfl⟩
theorem aM_16 : MI 30 16 := ⟨⟨by decide, by decide⟩, fun _ _ _ => rfl⟩
theorem aM_17 : MI 8 17 := ⟨⟨by decide, by decide⟩, fun _ _ _ => rfl⟩
theorem aM_18 : MI 6 18 := ⟨⟨by decide, by decide⟩, fun _ _ _ => rfl⟩
theorem aM_19 : MI 60 19 := ⟨⟨by decide, by decide⟩, fun _ _ _ => rfl⟩
theorem aM_20 : MI 60 20 := ⟨⟨by decide, by decide⟩, fun _ _ _ => rfl⟩
theorem aM_21 : MI 60 21 := ⟨⟨by decide, by decide⟩, fun _ _ _ => rfl⟩
theorem aM_22 : MI 6 22 := ⟨⟨by decide, by decide⟩, fun _ _ _ => rfl⟩
theorem aM_23 : MI 6 23 := ⟨⟨by decide, by decide⟩, fun _ _ _ => rfl⟩
theorem aM_24 : MI 8 24 := ⟨⟨by decide, by decide⟩, fun _ _ _ => rfl⟩
theorem aM_25 : MI 8 25 := ⟨⟨by decide, by decide⟩, fun _ _ _ => rfl⟩
theorem aM_26 : MI 8 26 := ⟨⟨by decide, by decide⟩, fun _ _ _ => rfl⟩
theorem aM_27 : MI 8 27 := ⟨⟨by decide, by decide⟩, fun _ _ _ => rfl⟩
theorem aM_28 : MI 80 28 := ⟨⟨by decide, by decide⟩, fun _ _ _ => rfl⟩
theorem aM_29 : MZ 3 29 := ⟨⟨by decide, by decide⟩, fun _ _ _ => rfl⟩
theorem aM_30 : MI 3 30 := ⟨⟨by decide, by decide⟩, fun _ _ _ => rfl⟩
theorem aM_31 : MI 114 31 := ⟨⟨by decide, by decide⟩, fun _ _ _ => rfl⟩
theorem gR_164 (τ : Nat → ClassId) (ad : Nat → Nat) (M : Mem) : (WX τ ad M)[164]? = some (ad 164, .inl (τ 3, 15, rfs (fun i => some (ad (50 + 7 * i))))) := wl_get (by decide) rfl
theorem gR_165 (τ : Nat → ClassId) (ad : Nat → Nat) (M : Mem) : (WX τ ad M)[165]? = some (ad 165, .inl (τ 3, 3, rfs (fun i => some (ad (29 + 7 * i))))) := wl_get (by decide) rfl
theorem gR_169 (τ : Nat → ClassId) (ad : Nat → Nat) (M : Mem) : (WX τ ad M)[169]? = some (ad 169, .inl (τ 4, 9, rfs (fun i => some (ad (170 + i))))) := wl_get (by decide) rfl
theorem XI_most {e : Int} (h0 : 0 ≤ e) (h1 : e < 9) : XI 64 (170 + e.toNat) := by
  have h : e.toNat = 0 ∨ e.toNat = 1 ∨ e.toNat = 2 ∨ e.toNat = 3 ∨ e.toNat = 4 ∨ e.toNat = 5 ∨ e.toNat = 6 ∨ e.toNat = 7 ∨ e.toNat = 8 := by omega
  rcases h with h | h | h | h | h | h | h | h | h <;> rw [h] <;> exact ⟨⟨by decide, by decide⟩, fun _ _ _ => rfl⟩
theorem ct_S {k : Nat} (h : isS k) (τ : Nat → ClassId) (ad : Nat → Nat) (r : Int → Int) : ctX τ ad k r = .inr (7, FS ad k r) := by
  unfold ctX
  have h1 := h.1
  have h2 := h.2.1
  rw [if_neg (by omega), if_pos h2, h.2.2]
  rfl
theorem gS_X {k : Nat} (h : isS k) (τ : Nat → ClassId) (ad : Nat → Nat) (M : Mem) : (WX τ ad M)[k]? = some (ad k, .inr (7, FS ad k (M k))) := wl_get (by have := h.2.1; omega) (ct_S h τ ad _)
theorem isS_f0 {k : Nat} (h : isS k) : XI 6 (k + 1) := by
  refine ⟨⟨by omega, by have := h.2.1; have := h.2.2; omega⟩, fun τ ad r => ?_⟩
  unfold ctX
  have h2 := h.2.1
  have h3 := h.2.2
  rw [if_neg (by omega), if_pos (by omega), show (k + 1 - 1) % 7 = 1 by have := h.1; omega]
  rfl
theorem isS_f1 {k : Nat} (h : isS k) : XI 6 (k + 2) := by
  refine ⟨⟨by omega, by have := h.2.1; have := h.2.2; omega⟩, fun τ ad r => ?_⟩
  unfold ctX
  have h2 := h.2.1
  have h3 := h.2.2
  rw [if_neg (by omega), if_pos (by omega), show (k + 2 - 1) % 7 = 2 by have := h.1; omega]
  rfl
theorem isS_f2 {k : Nat} (h : isS k) : XI 8 (k + 3) := by
  refine ⟨⟨by omega, by have := h.2.1; have := h.2.2; omega⟩, fun τ ad r => ?_⟩
  unfold ctX
  have h2 := h.2.1
  have h3 := h.2.2
  rw [if_neg (by omega), if_pos (by omega), show (k + 3 - 1) % 7 = 3 by have := h.1; omega]
  rfl
theorem isS_f3 {k : Nat} (h : isS k) : XI 8 (k + 4) := by
  refine ⟨⟨by omega, by have := h.2.1; have := h.2.2; omega⟩, fun τ ad r => ?_⟩
  unfold ctX
  have h2 := h.2.1
  have h3 := h.2.2
  rw [if_neg (by omega), if_pos (by omega), show (k + 4 - 1) % 7 = 4 by have := h.1; omega]
  rfl
theorem isS_f4 {k : Nat} (h : isS k) : XI 8 (k + 5) := by
  refine ⟨⟨by omega, by have := h.2.1; have := h.2.2; omega⟩, fun τ ad r => ?_⟩
  unfold ctX
  have h2 := h.2.1
  have h3 := h.2.2
  rw [if_neg (by omega), if_pos (by omega), show (k + 5 - 1) % 7 = 5 by have := h.1; omega]
  rfl
theorem isS_f5 {k : Nat} (h : isS k) : XI 8 (k + 6) := by
  refine ⟨⟨by omega, by have := h.2.1; have := h.2.2; omega⟩, fun τ ad r => ?_⟩
  unfold ctX
  have h2 := h.2.1
  have h3 := h.2.2
  rw [if_neg (by omega), if_pos (by omega), show (k + 6 - 1) % 7 = 6 by have := h.1; omega]
  rfl
theorem sS_6 {k : Nat} (h : isS k) (τ : Nat → ClassId) (ad : Nat → Nat) (M : Mem) (v : Int) : (WX τ ad M).set k (ad k, .inr (7, (FS ad k (M k)).set 6 (.int (iI v)))) = WX τ ad (up2 M k 6 v) := wl_up (by rw [ct_S h]; rfl)
theorem sS_7 {k : Nat} (h : isS k) (τ : Nat → ClassId) (ad : Nat → Nat) (M : Mem) (v : Int) : (WX τ ad M).set k (ad k, .inr (7, (FS ad k (M k)).set 7 (.int (iI v)))) = WX τ ad (up2 M k 7 v) := wl_up (by rw [ct_S h]; rfl)
theorem sS_8 {k : Nat} (h : isS k) (τ : Nat → ClassId) (ad : Nat → Nat) (M : Mem) (v : Int) : (WX τ ad M).set k (ad k, .inr (7, (FS ad k (M k)).set 8 (.int (iI v)))) = WX τ ad (up2 M k 8 v) := wl_up (by rw [ct_S h]; rfl)
theorem sS_9 {k : Nat} (h : isS k) (τ : Nat → ClassId) (ad : Nat → Nat) (M : Mem) (v : Int) : (WX τ ad M).set k (ad k, .inr (7, (FS ad k (M k)).set 9 (.int (iI v)))) = WX τ ad (up2 M k 9 v) := wl_up (by rw [ct_S h]; rfl)
theorem sS_10 {k : Nat} (h : isS k) (τ : Nat → ClassId) (ad : Nat → Nat) (M : Mem) (v : Int) : (WX τ ad M).set k (ad k, .inr (7, (FS ad k (M k)).set 10 (.int (iI v)))) = WX τ ad (up2 M k 10 v) := wl_up (by rw [ct_S h]; rfl)
theorem ct_L {k : Nat} (h : isL k) (τ : Nat → ClassId) (ad : Nat → Nat) (r : Int → Int) : ctX τ ad k r = .inr (3, FL ad k r) := by
  rcases h with rfl | rfl <;> rfl
theorem gL_X {k : Nat} (h : isL k) (τ : Nat → ClassId) (ad : Nat → Nat) (M : Mem) : (WX τ ad M)[k]? = some (ad k, .inr (3, FL ad k (M k))) := wl_get (by rcases h with rfl | rfl <;> decide) (ct_L h τ ad _)
theorem isL_f0 {k : Nat} (h : isL k) : XI 40 (k + 1) := by
  rcases h with rfl | rfl <;> exact ⟨⟨by decide, by decide⟩, fun _ _ _ => rfl⟩
theorem isL_f1 {k : Nat} (h : isL k) : XI 40 (k + 2) := by
  rcases h with rfl | rfl <;> exact ⟨⟨by decide, by decide⟩, fun _ _ _ => rfl⟩
theorem isL_f2 {k : Nat} (h : isL k) : XI 40 (k + 3) := by
  rcases h with rfl | rfl <;> exact ⟨⟨by decide, by decide⟩, fun _ _ _ => rfl⟩
theorem isL_f3 {k : Nat} (h : isL k) : XI 7 (k + 4) := by
  rcases h with rfl | rfl <;> exact ⟨⟨by decide, by decide⟩, fun _ _ _ => rfl⟩
theorem sL_4 {k : Nat} (h : isL k) (τ : Nat → ClassId) (ad : Nat → Nat) (M : Mem) (v : Int) : (WX τ ad M).set k (ad k, .inr (3, (FL ad k (M k)).set 4 (.int (iI v)))) = WX τ ad (up2 M k 4 v) := wl_up (by rw [ct_L h]; rfl)
theorem sL_5 {k : Nat} (h : isL k) (τ : Nat → ClassId) (ad : Nat → Nat) (M : Mem) (v : Int) : (WX τ ad M).set k (ad k, .inr (3, (FL ad k (M k)).set 5 (.int (iI v)))) = WX τ ad (up2 M k 5 v) := wl_up (by rw [ct_L h]; rfl)
theorem gX_155 (τ : Nat → ClassId) (ad : Nat → Nat) (M : Mem) : (WX τ ad M)[155]? = some (ad 155, .inr (12, FX155 ad (M 155))) := wl_get (by decide) rfl
theorem sX_155_15 (τ : Nat → ClassId) (ad : Nat → Nat) (M : Mem) (v : Int) : (WX τ ad M).set 155 (ad 155, .inr (12, (FX155 ad (M 155)).set 15 (.int (iI v)))) = WX τ ad (up2 M 155 15 v) := wl_up rfl
theorem sX_155_16 (τ : Nat → ClassId) (ad : Nat → Nat) (M : Mem) (v : Nat) : (WX τ ad M).set 155 (ad 155, .inr (12, (FX155 ad (M 155)).set 16 (.ref (ad v)))) = WX τ ad (up2 M 155 16 (v : Int)) := wl_up rfl
theorem sX_155_17 (τ : Nat → ClassId) (ad : Nat → Nat) (M : Mem) (v : Nat) : (WX τ ad M).set 155 (ad 155, .inr (12, (FX155 ad (M 155)).set 17 (.ref (ad v)))) = WX τ ad (up2 M 155 17 (v : Int)) := wl_up rfl
theorem gX_156 (τ : Nat → ClassId) (ad : Nat → Nat) (M : Mem) : (WX τ ad M)[156]? = some (ad 156, .inr (10, FX156 ad (M 156))) := wl_get (by decide) rfl
theorem sX_156_1 (τ : Nat → ClassId) (ad : Nat → Nat) (M : Mem) (v : Int) : (WX τ ad M).set 156 (ad 156, .inr (10, (FX156 ad (M 156)).set 1 (.int (iI v)))) = WX τ ad (up2 M 156 1 v) := wl_up rfl
theorem sX_156_2 (τ : Nat → ClassId) (ad : Nat → Nat) (M : Mem) (v : Int) : (WX τ ad M).set 156 (ad 156, .inr (10, (FX156 ad (M 156)).set 2 (.int (iI v)))) = WX τ ad (up2 M 156 2 v) := wl_up rfl
theorem sX_156_3 (τ : Nat → ClassId) (ad : Nat → Nat) (M : Mem) (v : Int) : (WX τ ad M).set 156 (ad 156, .inr (10, (FX156 ad (M 156)).set 3 (.int (iI v)))) = WX τ ad (up2 M 156 3 v) := wl_up rfl
theorem gX_158 (τ : Nat → ClassId) (ad : Nat → Nat) (M : Mem) : (WX τ ad M)[158]? = some (ad 158, .inr (9, FX158 ad (M 158))) := wl_get (by decide) rfl
theorem sX_158_1 (τ : Nat → ClassId) (ad : Nat → Nat) (M : Mem) (v : Int) : (WX τ ad M).set 158 (ad 158, .inr (9, (FX158 ad (M 158)).set 1 (.int (iI v)))) = WX τ ad (up2 M 158 1 v) := wl_up rfl
theorem sX_158_2 (τ : Nat → ClassId) (ad : Nat → Nat) (M : Mem) (v : Int) : (WX τ ad M).set 158 (ad 158, .inr (9, (FX158 ad (M 158)).set 2 (.int (iI v)))) = WX τ ad (up2 M 158 2 v) := wl_up rfl
theorem sX_158_3 (τ : Nat → ClassId) (ad : Nat → Nat) (M : Mem) (v : Int) : (WX τ ad M).set 158 (ad 158, .inr (9, (FX158 ad (M 158)).set 3 (.int (iI v)))) = WX τ ad (up2 M 158 3 v) := wl_up rfl
theorem gX_160 (τ : Nat → ClassId) (ad : Nat → Nat) (M : Mem) : (WX τ ad M)[160]? = some (ad 160, .inr (11, FX160 ad (M 160))) := wl_get (by decide) rfl
theorem sX_160_3 (τ : Nat → ClassId) (ad : Nat → Nat) (M : Mem) (v : Int) : (WX τ ad M).set 160 (ad 160, .inr (11, (FX160 ad (M 160)).set 3 (.int (iI v)))) = WX τ ad (up2 M 160 3 v) := wl_up rfl
theorem sX_160_4 (τ : Nat → ClassId) (ad : Nat → Nat) (M : Mem) (v : Int) : (WX τ ad M).set 160 (ad 160, .inr (11, (FX160 ad (M 160)).set 4 (.int (iI v)))) = WX τ ad (up2 M 160 4 v) := wl_up rfl
theorem sX_160_5 (τ : Nat → ClassId) (ad : Nat → Nat) (M : Mem) (v : Int) : (WX τ ad M).set 160 (ad 160, .inr (11, (FX160 ad (M 160)).set 5 (.int (iI v)))) = WX τ ad (up2 M 160 5 v) := wl_up rfl
theorem gX_163 (τ : Nat → ClassId) (ad : Nat → Nat) (M : Mem) : (WX τ ad M)[163]? = some (ad 163, .inr (2, FX163 ad (M 163))) := wl_get (by decide) rfl
theorem sX_163_1 (τ : Nat → ClassId) (ad : Nat → Nat) (M : Mem) (v : Int) : (WX τ ad M).set 163 (ad 163, .inr (2, (FX163 ad (M 163)).set 1 (.int (iI v)))) = WX τ ad (up2 M 163 1 v) := wl_up rfl
theorem sX_163_2 (τ : Nat → ClassId) (ad : Nat → Nat) (M : Mem) (v : Int) : (WX τ ad M).set 163 (ad 163, .inr (2, (FX163 ad (M 163)).set 2 (.int (iI v)))) = WX τ ad (up2 M 163 2 v) := wl_up rfl
theorem gX_167 (τ : Nat → ClassId) (ad : Nat → Nat) (M : Mem) : (WX τ ad M)[167]? = some (ad 167, .inr (5, FX167 ad (M 167))) := wl_get (by decide) rfl
theorem sX_167_1 (τ : Nat → ClassId) (ad : Nat → Nat) (M : Mem) (v : Int) : (WX τ ad M).set 167 (ad 167, .inr (5, (FX167 ad (M 167)).set 1 (.int (iI v)))) = WX τ ad (up2 M 167 1 v) := wl_up rfl
theorem gX_168 (τ : Nat → ClassId) (ad : Nat → Nat) (M : Mem) : (WX τ ad M)[168]? = some (ad 168, .inr (8, FX168 ad (M 168))) := wl_get (by decide) rfl
theorem sX_168_1 (τ : Nat → ClassId) (ad : Nat → Nat) (M : Mem) (v : Int) : (WX τ ad M).set 168 (ad 168, .inr (8, (FX168 ad (M 168)).set 1 (.int (iI v)))) = WX τ ad (up2 M 168 1 v) := wl_up rfl
theorem gX_179 (τ : Nat → ClassId) (ad : Nat → Nat) (M : Mem) : (WX τ ad M)[179]? = some (ad 179, .inr (4, FX179 ad (M 179))) := wl_get (by decide) rfl
theorem sX_179_2 (τ : Nat → ClassId) (ad : Nat → Nat) (M : Mem) (v : Int) : (WX τ ad M).set 179 (ad 179, .inr (4, (FX179 ad (M 179)).set 2 (.int (iI v)))) = WX τ ad (up2 M 179 2 v) := wl_up rfl
theorem gX_182 (τ : Nat → ClassId) (ad : Nat → Nat) (M : Mem) : (WX τ ad M)[182]? = some (ad 182, .inr (1, FX182 ad (M 182))) := wl_get (by decide) rfl
theorem sX_182_2 (τ : Nat → ClassId) (ad : Nat → Nat) (M : Mem) (v : Int) : (WX τ ad M).set 182 (ad 182, .inr (1, (FX182 ad (M 182)).set 2 (.int (iI v)))) = WX τ ad (up2 M 182 2 v) := wl_up rfl
theorem gX_185 (τ : Nat → ClassId) (ad : Nat → Nat) (M : Mem) : (WX τ ad M)[185]? = some (ad 185, .inr (6, FX185 ad (M 185))) := wl_get (by decide) rfl
theorem sX_185_1 (τ : Nat → ClassId) (ad : Nat → Nat) (M : Mem) (v : Int) : (WX τ ad M).set 185 (ad 185, .inr (6, (FX185 ad (M 185)).set 1 (.int (iI v)))) = WX τ ad (up2 M 185 1 v) := wl_up rfl
theorem sX_185_2 (τ : Nat → ClassId) (ad : Nat → Nat) (M : Mem) (v : Int) : (WX τ ad M).set 185 (ad 185, .inr (6, (FX185 ad (M 185)).set 2 (.int (iI v)))) = WX τ ad (up2 M 185 2 v) := wl_up rfl
theorem sX_185_3 (τ : Nat → ClassId) (ad : Nat → Nat) (M : Mem) (v : Int) : (WX τ ad M).set 185 (ad 185, .inr (6, (FX185 ad (M 185)).set 3 (.int (iI v)))) = WX τ ad (up2 M 185 3 v) := wl_up rfl
theorem gM_1 (τ : Nat → ClassId) (ad : Nat → Nat) (M : Mem) : (WM τ ad M)[1]? = some (ad 1, .inr (13, FM1 ad (M 1))) := wl_get (by decide) rfl
theorem sM_1_0 (τ : Nat → ClassId) (ad : Nat → Nat) (M : Mem) (v : Int) : (WM τ ad M).set 1 (ad 1, .inr (13, (FM1 ad (M 1)).set 0 (.int (iI v)))) = WM τ ad (up2 M 1 0 v) := wl_up rfl
theorem sM_1_1 (τ : Nat → ClassId) (ad : Nat → Nat) (M : Mem) (v : Int) : (WM τ ad M).set 1 (ad 1, .inr (13, (FM1 ad (M 1)).set 1 (.int (iI v)))) = WM τ ad (up2 M 1 1 v) := wl_up rfl
theorem sM_1_3 (τ : Nat → ClassId) (ad : Nat → Nat) (M : Mem) (v : Int) : (WM τ ad M).set 1 (ad 1, .inr (13, (FM1 ad (M 1)).set 3 (.int (iI v)))) = WM τ ad (up2 M 1 3 v) := wl_up rfl
theorem sM_1_4 (τ : Nat → ClassId) (ad : Nat → Nat) (M : Mem) (v : Int) : (WM τ ad M).set 1 (ad 1, .inr (13, (FM1 ad (M 1)).set 4 (.int (iI v)))) = WM τ ad (up2 M 1 4 v) := wl_up rfl
theorem sM_1_5 (τ : Nat → ClassId) (ad : Nat → Nat) (M : Mem) (v : Int) : (WM τ ad M).set 1 (ad 1, .inr (13, (FM1 ad (M 1)).set 5 (.int (iI v)))) = WM τ ad (up2 M 1 5 v) := wl_up rfl
theorem sM_1_6 (τ : Nat → ClassId) (ad : Nat → Nat) (M : Mem) (v : Int) : (WM τ ad M).set 1 (ad 1, .inr (13, (FM1 ad (M 1)).set 6 (.int (iI v)))) = WM τ ad (up2 M 1 6 v) := wl_up rfl
theorem sM_1_7 (τ : Nat → ClassId) (ad : Nat → Nat) (M : Mem) (v : Int) : (WM τ ad M).set 1 (ad 1, .inr (13, (FM1 ad (M 1)).set 7 (.int (iI v)))) = WM τ ad (up2 M 1 7 v) := wl_up rfl
theorem sM_1_14 (τ : Nat → ClassId) (ad : Nat → Nat) (M : Mem) (v : Int) : (WM τ ad M).set 1 (ad 1, .inr (13, (FM1 ad (M 1)).set 14 (.int (iI v)))) = WM τ ad (up2 M 1 14 v) := wl_up rfl
theorem sM_1_15 (τ : Nat → ClassId) (ad : Nat → Nat) (M : Mem) (v : Int) : (WM τ ad M).set 1 (ad 1, .inr (13, (FM1 ad (M 1)).set 15 (.int (iI v)))) = WM τ ad (up2 M 1 15 v) := wl_up rfl
theorem sM_1_16 (τ : Nat → ClassId) (ad : Nat → Nat) (M : Mem) (v : Int) : (WM τ ad M).set 1 (ad 1, .inr (13, (FM1 ad (M 1)).set 16 (.int (iI v)))) = WM τ ad (up2 M 1 16 v) := wl_up rfl
theorem sM_1_17 (τ : Nat → ClassId) (ad : Nat → Nat) (M : Mem) (v : Int) : (WM τ ad M).set 1 (ad 1, .inr (13, (FM1 ad (M 1)).set 17 (.int (iI v)))) = WM τ ad (up2 M 1 17 v) := wl_up rfl
theorem sM_1_20 (τ : Nat → ClassId) (ad : Nat → Nat) (M : Mem) (v : Int) : (WM τ ad M).set 1 (ad 1, .inr (13, (FM1 ad (M 1)).set 20 (.int (iI v)))) = WM τ ad (up2 M 1 20 v) := wl_up rfl
theorem sM_1_24 (τ : Nat → ClassId) (ad : Nat → Nat) (M : Mem) (v : Int) : (WM τ ad M).set 1 (ad 1, .inr (13, (FM1 ad (M 1)).set 24 (.int (iI v)))) = WM τ ad (up2 M 1 24 v) := wl_up rfl
theorem sM_1_25 (τ : Nat → ClassId) (ad : Nat → Nat) (M : Mem) (v : Int) : (WM τ ad M).set 1 (ad 1, .inr (13, (FM1 ad (M 1)).set 25 (.int (iI v)))) = WM τ ad (up2 M 1 25 v) := wl_up rfl
theorem sM_1_28 (τ : Nat → ClassId) (ad : Nat → Nat) (M : Mem) (v : Int) : (WM τ ad M).set 1 (ad 1, .inr (13, (FM1 ad (M 1)).set 28 (.int (iI v)))) = WM τ ad (up2 M 1 28 v) := wl_up rfl
theorem sM_1_30 (τ : Nat → ClassId) (ad : Nat → Nat) (M : Mem) (v : Int) : (WM τ ad M).set 1 (ad 1, .inr (13, (FM1 ad (M 1)).set 30 (.int (iI v)))) = WM τ ad (up2 M 1 30 v) := wl_up rfl
theorem sM_1_31 (τ : Nat → ClassId) (ad : Nat → Nat) (M : Mem) (v : Int) : (WM τ ad M).set 1 (ad 1, .inr (13, (FM1 ad (M 1)).set 31 (.int (iI v)))) = WM τ ad (up2 M 1 31 v) := wl_up rfl
theorem sM_1_35 (τ : Nat → ClassId) (ad : Nat → Nat) (M : Mem) (v : Int) : (WM τ ad M).set 1 (ad 1, .inr (13, (FM1 ad (M 1)).set 35 (.int (iI v)))) = WM τ ad (up2 M 1 35 v) := wl_up rfl
theorem sM_1_39 (τ : Nat → ClassId) (ad : Nat → Nat) (M : Mem) (v : Int) : (WM τ ad M).set 1 (ad 1, .inr (13, (FM1 ad (M 1)).set 39 (.int (iI v)))) = WM τ ad (up2 M 1 39 v) := wl_up rfl
theorem sM_1_42 (τ : Nat → ClassId) (ad : Nat → Nat) (M : Mem) (v : Int) : (WM τ ad M).set 1 (ad 1, .inr (13, (FM1 ad (M 1)).set 42 (.int (iI v)))) = WM τ ad (up2 M 1 42 v) := wl_up rfl
theorem sM_1_45 (τ : Nat → ClassId) (ad : Nat → Nat) (M : Mem) (v : Int) : (WM τ ad M).set 1 (ad 1, .inr (13, (FM1 ad (M 1)).set 45 (.int (iI v)))) = WM τ ad (up2 M 1 45 v) := wl_up rfl
theorem sM_1_49 (τ : Nat → ClassId) (ad : Nat → Nat) (M : Mem) (v : Int) : (WM τ ad M).set 1 (ad 1, .inr (13, (FM1 ad (M 1)).set 49 (.int (iI v)))) = WM τ ad (up2 M 1 49 v) := wl_up rfl
end
section
/-! STR: the JDK's String, by contract, over strings that are there -/
def W0 : Mem → va_W := fun _ => []
def T0 : Mem → Prop := fun _ => True
def m0 : Mem := fun _ _ => 0
theorem wq_0 : WQ W0 := ⟨0, fun _ => rfl, rfl⟩
theorem ST.down {D : va_G} {A : Nat → Prop} {s : State} {H : Heap} {locs : List Loc} {ws wc : va_W} {sa sv : Nat} {bs : List Int} (hST : ST A s s.heap sa sv bs) (hA : ∀ q, s.heap.size ≤ q → A q) (hw : wS D A s.heap ws H locs) (isC : List Nat) (hCm : isC.map (fun i => ws[i]?) = wc.map some) : ST (va_A wc H.size) s H sa sv bs := (hST.kept hw.2.2.2.1).narrow (va_free hw.2.1 hw.2.2 hA isC hCm)
section RS
variable {p : Program} {l : Launch} {e : Env} {R : Room} {s : State} {m : MethodId} {args : Array Value} {below : List Frame} {meth : Method} {c : Code} {H : Heap} {locs : List Loc} {cells slots : Nat} {Q : State → Prop}
variable {cc : ByteArray} {pc : Nat} {ls : Array Slot} {rest st0 : List Value} {D : va_G} {A : Nat → Prop} {a : Nat} {ws wc wr : va_W} {H0 : Heap} {τ : Nat → ClassId} {own : String} {sA sV : Nat → Nat}
variable {y : MethodName} {b : ByteArray} {mL n lev mc ms index nL cells' slots' : Nat} {ret : Option FieldType} {As : List Value} {Wf : Mem → va_W} {Rf : Mem → Prop} {M0 : Mem}
theorem k_nret (hWQ : WQ Wf) (hx : p.tables.exec = Jvm.exec) (hb : c.code = cc) {ty : FieldType} (hr : meth.sig.returnType = some ty) {z : Int} (hnr : narrow ty (.int (iI z)) = .int (iI z)) (hlk : meth.locks = false) (hw : wS D A s.heap (Wf M0) H locs) {Q1 : Int → Mem → Prop} (hM : Rf M0) (hz : iR z) (hv : Q1 z M0) (hd : decode cc pc = .ok (.ireturn, 1)) : W p l e R s m args below meth c H locs cells slots (MQ below (gQi D (EQi Wf Rf Q1) A) args s cells slots A) (F0 m pc ls [.int (iI z)]) := by
  obtain ⟨N, hN, hnd⟩ := hWQ
  have hp := pick_all (Wf M0)
  rw [hN] at hp
  exact W.zret hx hb hr hnr (fun t ht hW => ⟨⟨iI z, iI z, rfl, rfl, z, hz, rfl, Wf M0, ⟨M0, hM, hv, rfl⟩, by rw [ht]; exact P_pick hw.1 hp, hw.2.1.sub (List.range N) hnd hp⟩, hw.2.2.F ht⟩) hw.2.2.2.2 hd hlk
/-- a call of a String's method, over a world that it doesn't touch -/
theorem t_cVi0 (hWQ : WQ Wf) (hx : p.tables.exec = Jvm.exec) (hb : c.code = cc) (hml : c.maxLocals = nL) (hC : cx D τ s m args own) (hLS : LK A s s.heap sA sV) (hA : ∀ q, s.heap.size ≤ q → A q) (hw : wS D A s.heap (Wf M0) H locs) (hl : ls.size = nL) {P : Int → Prop} {sa sv : Nat} {bs : List Int} (hST : ST A s s.heap sa sv bs) (hy : y.cls = RJ0) (M : Met l y (lw_w y b mL ret) (rmk lev 0 0) (tPc D τ sA sV (W0 m0) H.size sa sv bs (.ref sa :: As)) (gQi D (EQi W0 T0 (fun z _ => P z)) (va_A (W0 m0) H.size)) 0 0 (va_A (W0 m0) H.size)) (K : KV y b mL ret n) (hlk : Cond.methodLink own index y ∈ lw_good) (hst : st0 = As.reverse ++ .ref sa :: rest) (hn : As.length = n) (hcat : (rest.map fun v => v.category).sum ≤ 8) (hroom : lev + 1 ≤ R.frames ∧ 8 + (mL + 11) + 64 * lev ≤ R.locals) (hcs : cells ≤ R.cells ∧ slots ≤ R.slots) (hd : decode cc pc = .ok (.invokevirtual index, 3))
    (kk : ∀ (z : Int) (H : Heap) (locs : List Loc), iR z → P z → wS D A s.heap (Wf M0) H locs → W p l e R s m args below meth c H locs cells slots Q (F0 m (pc + 3) ls (.int (iI z) :: rest))) : W p l e R s m args below meth c H locs cells slots Q (F0 m pc ls st0) := by
  obtain ⟨N, hN, hnd⟩ := hWQ
  have hp := pick_all (Wf M0)
  rw [hN] at hp
  refine t_cVi (wr := Wf M0) hx hb hml hC hLS hA hw hl (hST.down hA hw [] rfl) M K hlk [] (List.range N) rfl hp rfl hnd (fun i _ h => absurd h List.not_mem_nil) (by rw [hy]; exact hST.recv hw.2.2) hst hn hcat hroom hcs rfl rfl hd (fun z M1 H1 locs1 hz _ hP h1 => kk z H1 locs1 hz hP ?_)
  have h2 : Wf M0 ++ W0 M1 = Wf M0 := List.append_nil _
  rw [h2] at h1
  exact h1
end RS
theorem fl_J0_38 : Cond.fieldLink RJ0 38 RJ0 "COMPACT_STRINGS" "Z" ∈ lw_good := lw_gl (ws := [_]) (by decide +kernel) _ (List.mem_singleton.mpr rfl)
theorem fl_J0_9 : Cond.fieldLink RJ0 9 RJ0 "value" "[B" ∈ lw_good := lw_gl (ws := [_]) (by decide +kernel) _ (List.mem_singleton.mpr rfl)
theorem fl_J0_15 : Cond.fieldLink RJ0 15 RJ0 "coder" "B" ∈ lw_good := lw_gl (ws := [_]) (by decide +kernel) _ (List.mem_singleton.mpr rfl)
theorem fl_J0_1053 : Cond.fieldLink RJ0 1053 RJ3 "SIOOBE_FORMATTER" "Ljava/util/function/BiFunction;" ∈ lw_good := lw_gl (ws := [_]) (by decide +kernel) _ (List.mem_singleton.mpr rfl)
theorem s_coder (l : Launch) (D : va_G) (τ : Nat → ClassId) (sA sV : Nat → Nat) (sz sa sv : Nat) (bs : List Int) : Met l yJ0_coder_7d493 (lw_w yJ0_coder_7d493 cJ0_coder_7d493 1 (some .byte)) (rmk 1 0 0) (tPc D τ sA sV (W0 m0) sz sa sv bs [.ref sa]) (gQi D (EQi W0 T0 (fun z _ => z = 0)) (va_A (W0 m0) sz)) 0 0 (va_A (W0 m0) sz) := by
  refine t_met (ret := some .byte) (Qc := gQi D (EQi W0 T0 (fun z _ => z = 0))) (by decide +kernel) (Nat.le_of_ble_eq_true rfl) ?_
  intro p e s m args below meth c A ls hx hb hml hr hlk hnm hC hLS hST hA hw hl
  have hC : cx D τ s m args RJ0 := hC
  have hl : lv_has ls 1 [(0, .ref sa)] := hl
  refine va_gets hx hb hLS.2.1 hw.2.2 hC.2.1 (hC.1 _ fl_J0_38) (fun _ h => h) dJ0_coder_7d493_0 ?_
  rw [show (Value.int 1) = .int (iI 1) from rfl]
  refine r_if_eq (tgt := 13) hx hb dJ0_coder_7d493_3 (by decide) (by decide) (fun h => absurd h (by decide)) (fun _ => ?_)
  refine lv_aload_n hx hb dJ0_coder_7d493_6 rfl (lv_at hl 0 rfl) ?_
  refine vk_getf hx hb hST.2.1 hw.2.2 hC.2.1 (hC.1 _ fl_J0_15) (fun _ h => h) dJ0_coder_7d493_7 ?_
  refine lv_goto (tgt := 14) hx hb dJ0_coder_7d493_10 (by decide) ?_
  exact k_nret wq_0 (Rf := T0) (z := 0) hx hb hr rfl hlk hw trivial (by decide) rfl dJ0_coder_7d493_14
theorem s_latin (l : Launch) (D : va_G) (τ : Nat → ClassId) (sA sV : Nat → Nat) (sz sa sv : Nat) (bs : List Int) : Met l yJ0_isLatin1_aae02 (lw_w yJ0_isLatin1_aae02 cJ0_isLatin1_aae02 1 (some .boolean)) (rmk 1 0 0) (tPc D τ sA sV (W0 m0) sz sa sv bs [.ref sa]) (gQi D (EQi W0 T0 (fun z _ => z = 1)) (va_A (W0 m0) sz)) 0 0 (va_A (W0 m0) sz) := by
  refine t_met (ret := some .boolean) (Qc := gQi D (EQi W0 T0 (fun z _ => z = 1))) (by decide +kernel) (Nat.le_of_ble_eq_true rfl) ?_
  intro p e s m args below meth c A ls hx hb hml hr hlk hnm hC hLS hST hA hw hl
  have hC : cx D τ s m args RJ0 := hC
  have hl : lv_has ls 1 [(0, .ref sa)] := hl
  refine va_gets hx hb hLS.2.1 hw.2.2 hC.2.1 (hC.1 _ fl_J0_38) (fun _ h => h) dJ0_isLatin1_aae02_0 ?_
  rw [show (Value.int 1) = .int (iI 1) from rfl]
  refine r_if_eq (tgt := 17) hx hb dJ0_isLatin1_aae02_3 (by decide) (by decide) (fun h => absurd h (by decide)) (fun _ => ?_)
  refine lv_aload_n hx hb dJ0_isLatin1_aae02_6 rfl (lv_at hl 0 rfl) ?_
  refine vk_getf hx hb hST.2.1 hw.2.2 hC.2.1 (hC.1 _ fl_J0_15) (fun _ h => h) dJ0_isLatin1_aae02_7 ?_
  rw [show (Value.int 0) = .int (iI 0) from rfl]
  refine r_if_ne (tgt := 17) hx hb dJ0_isLatin1_aae02_10 (by decide) (by decide) (fun h => absurd rfl h) (fun _ => ?_)
  refine r_iconst hx hb dJ0_isLatin1_aae02_13 ?_
  refine lv_goto (tgt := 18) hx hb dJ0_isLatin1_aae02_14 (by decide) ?_
  exact k_nret wq_0 (Rf := T0) (z := 1) hx hb hr rfl hlk hw trivial (by decide) rfl dJ0_isLatin1_aae02_18
theorem shr0 {n : Nat} : iI n >>> (iI 0 &&& 31) = iI n := by
  have h : iI 0 &&& 31 = (0 : Int32) := by decide
  rw [h]
  apply Int32.toBitVec_inj.mp
  simp
theorem s_length (l : Launch) (D : va_G) (τ : Nat → ClassId) (sA sV : Nat → Nat) (sz sa sv : Nat) (bs : List Int) : Met l yJ0_length_8abf5 (lw_w yJ0_length_8abf5 cJ0_length_8abf5 1 (some .int)) (rmk 2 0 0) (tPc D τ sA sV (W0 m0) sz sa sv bs [.ref sa]) (gQi D (EQi W0 T0 (fun z _ => z = bs.length)) (va_A (W0 m0) sz)) 0 0 (va_A (W0 m0) sz) := by
  refine t_met (ret := some .int) (Qc := gQi D (EQi W0 T0 (fun z _ => z = bs.length))) (by decide +kernel) (Nat.le_of_ble_eq_true rfl) ?_
  intro p e s m args below meth c A ls hx hb hml hr hlk hnm hC hLS hST hA hw hl
  have hC : cx D τ s m args RJ0 := hC
  have hl : lv_has ls 1 [(0, .ref sa)] := hl
  have hn := hST.2.2.2.2.2
  refine lv_aload_n hx hb dJ0_length_8abf5_0 rfl (lv_at hl 0 rfl) ?_
  refine vk_getf hx hb hST.2.2.1 hw.2.2 hC.2.1 (hC.1 _ fl_J0_9) (fun _ h => h) dJ0_length_8abf5_1 ?_
  refine va_tlen (v := iI bs.length) hx hb hST.2.2.2.1 hw.2.2 rfl dJ0_length_8abf5_4 ?_
  refine lv_aload_n hx hb dJ0_length_8abf5_5 rfl (lv_at hl 0 rfl) ?_
  refine t_cVi0 wq_0 (As := []) (rest := [.int (iI bs.length)]) hx hb hml hC hLS hA hw hl.1 hST rfl (s_coder l D τ sA sV _ sa sv bs) kJ0_coder_7d493 ml_J0_335 rfl rfl (Nat.le_of_ble_eq_true rfl) (rm_ok (by decide) (by decide)) ⟨by decide, by decide⟩ dJ0_length_8abf5_6 (fun z1 H locs hz1 hE1 hw => ?_)
  subst hE1
  refine lv_ishr hx hb dJ0_length_8abf5_9 ?_
  rw [shr0]
  exact k_nret wq_0 (Rf := T0) (z := bs.length) hx hb hr rfl hlk hw trivial (by omega) rfl dJ0_length_8abf5_10
end
section
theorem s_chk3N (l : Launch) (D : va_G) (τ : Nat → ClassId) (sA sV : Nat → Nat) (sz : Nat) (k n : Int) (h0 : 0 ≤ k) (h1 : k < n) (h2 : n ≤ 2147483647) : Met l yJ3_checkIndex_8e157 (lw_w yJ3_checkIndex_8e157 cJ3_checkIndex_8e157 3 (some .int)) (rmk 1 0 0) (kPc D τ sA sV (W0 m0) sz [.int (iI k), .int (iI n), .null]) (gQi D (EQi W0 T0 (fun z _ => z = k)) (va_A (W0 m0) sz)) 0 0 (va_A (W0 m0) sz) := by
  refine k_met (ret := some .int) (Qc := gQi D (EQi W0 T0 (fun z _ => z = k))) (by decide +kernel) (Nat.le_of_ble_eq_true rfl) ?_
  intro p e s m args below meth c A ls hx hb hml hr hlk hnm hC hLS hA hw hl
  have hC : cx D τ s m args RJ3 := hC
  have hl : lv_has ls 3 [(0, .int (iI k)), (1, .int (iI n)), (2, .null)] := hl
  refine lv_iload_n hx hb dJ3_checkIndex_8e157_0 rfl (lv_at hl 0 rfl) ?_
  refine r_if_lt (tgt := 9) hx hb dJ3_checkIndex_8e157_1 (by decide) (by omega) (fun h => absurd h (by omega)) (fun _ => ?_)
  refine lv_iload_n hx hb dJ3_checkIndex_8e157_4 rfl (lv_at hl 0 rfl) ?_
  refine lv_iload_n hx hb dJ3_checkIndex_8e157_5 rfl (lv_at hl 1 rfl) ?_
  refine r_icmp_lt (tgt := 16) hx hb dJ3_checkIndex_8e157_6 (by decide) (by omega) (by omega) (fun _ => ?_) (fun h => absurd h1 h)
  refine lv_iload_n hx hb dJ3_checkIndex_8e157_16 rfl (lv_at hl 0 rfl) ?_
  exact k_nret wq_0 (Rf := T0) (z := k) hx hb hr rfl hlk hw trivial (by omega) rfl dJ3_checkIndex_8e157_17
theorem s_chk3R (l : Launch) (D : va_G) (τ : Nat → ClassId) (sA sV : Nat → Nat) (sz : Nat) (k n : Int) (t : Nat) (h0 : 0 ≤ k) (h1 : k < n) (h2 : n ≤ 2147483647) : Met l yJ3_checkIndex_8e157 (lw_w yJ3_checkIndex_8e157 cJ3_checkIndex_8e157 3 (some .int)) (rmk 1 0 0) (kPc D τ sA sV (W0 m0) sz [.int (iI k), .int (iI n), (.ref t)]) (gQi D (EQi W0 T0 (fun z _ => z = k)) (va_A (W0 m0) sz)) 0 0 (va_A (W0 m0) sz) := by
  refine k_met (ret := some .int) (Qc := gQi D (EQi W0 T0 (fun z _ => z = k))) (by decide +kernel) (Nat.le_of_ble_eq_true rfl) ?_
  intro p e s m args below meth c A ls hx hb hml hr hlk hnm hC hLS hA hw hl
  have hC : cx D τ s m args RJ3 := hC
  have hl : lv_has ls 3 [(0, .int (iI k)), (1, .int (iI n)), (2, (.ref t))] := hl
  refine lv_iload_n hx hb dJ3_checkIndex_8e157_0 rfl (lv_at hl 0 rfl) ?_
  refine r_if_lt (tgt := 9) hx hb dJ3_checkIndex_8e157_1 (by decide) (by omega) (fun h => absurd h (by omega)) (fun _ => ?_)
  refine lv_iload_n hx hb dJ3_checkIndex_8e157_4 rfl (lv_at hl 0 rfl) ?_
  refine lv_iload_n hx hb dJ3_checkIndex_8e157_5 rfl (lv_at hl 1 rfl) ?_
  refine r_icmp_lt (tgt := 16) hx hb dJ3_checkIndex_8e157_6 (by decide) (by omega) (by omega) (fun _ => ?_) (fun h => absurd h1 h)
  refine lv_iload_n hx hb dJ3_checkIndex_8e157_16 rfl (lv_at hl 0 rfl) ?_
  exact k_nret wq_0 (Rf := T0) (z := k) hx hb hr rfl hlk hw trivial (by omega) rfl dJ3_checkIndex_8e157_17
theorem s_chk0 (l : Launch) (D : va_G) (τ : Nat → ClassId) (sA sV : Nat → Nat) (sz : Nat) (k n : Int) (h0 : 0 ≤ k) (h1 : k < n) (h2 : n ≤ 2147483647) : Met l yJ0_checkIndex_df160 (lw_w yJ0_checkIndex_df160 cJ0_checkIndex_df160 2 none) (rmk 2 0 0) (kPc D τ sA sV (W0 m0) sz [.int (iI k), .int (iI n)]) (gQv D (EQv W0 T0 (fun _ => True)) (va_A (W0 m0) sz)) 0 0 (va_A (W0 m0) sz) := by
  refine k_met (ret := none) (Qc := gQv D (EQv W0 T0 (fun _ => True))) (by decide +kernel) (Nat.le_of_ble_eq_true rfl) ?_
  intro p e s m args below meth c A ls hx hb hml hr hlk hnm hC hLS hA hw hl
  have hC : cx D τ s m args RJ0 := hC
  have hl : lv_has ls 2 [(0, .int (iI k)), (1, .int (iI n))] := hl
  refine lv_iload_n hx hb dJ0_checkIndex_df160_0 rfl (lv_at hl 0 rfl) ?_
  refine lv_iload_n hx hb dJ0_checkIndex_df160_1 rfl (lv_at hl 1 rfl) ?_
  rcases hLS.2.2 with hz | ⟨t, hz⟩
  · skip
    refine va_gets hx hb hz hw.2.2 hC.2.1 (hC.1 _ fl_J0_1053) (fun _ h => h) dJ0_checkIndex_df160_2 ?_
    refine j_cSi (Wf := W0) (Rf := T0) (M0 := m0) (As := [.int (iI k), .int (iI n), .null]) (rest := []) (wr := []) hx hb hml hC hLS hA hw hl.1 (s_chk3N l D τ sA sV _ k n h0 h1 h2) kJ3_checkIndex_8e157 ml_J0_1059 [] [] rfl rfl rfl rfl (fun i h => absurd h List.not_mem_nil) rfl rfl (Nat.le_of_ble_eq_true rfl) (rm_ok (by decide) (by decide)) ⟨by decide, by decide⟩ rfl rfl dJ0_checkIndex_df160_5 (fun z1 M1 H locs hz1 _ _ hw => ?_)
    refine lv_pop hx hb dJ0_checkIndex_df160_8 rfl ?_
    exact k_vret wq_0 (Rf := T0) (M0 := m0) (Q1 := fun _ => True) hx hb hr hlk hw trivial trivial dJ0_checkIndex_df160_9
  · skip
    refine va_gets hx hb hz hw.2.2 hC.2.1 (hC.1 _ fl_J0_1053) (fun _ h => h) dJ0_checkIndex_df160_2 ?_
    refine j_cSi (Wf := W0) (Rf := T0) (M0 := m0) (As := [.int (iI k), .int (iI n), .ref t]) (rest := []) (wr := []) hx hb hml hC hLS hA hw hl.1 (s_chk3R l D τ sA sV _ k n t h0 h1 h2) kJ3_checkIndex_8e157 ml_J0_1059 [] [] rfl rfl rfl rfl (fun i h => absurd h List.not_mem_nil) rfl rfl (Nat.le_of_ble_eq_true rfl) (rm_ok (by decide) (by decide)) ⟨by decide, by decide⟩ rfl rfl dJ0_checkIndex_df160_5 (fun z1 M1 H locs hz1 _ _ hw => ?_)
    refine lv_pop hx hb dJ0_checkIndex_df160_8 rfl ?_
    exact k_vret wq_0 (Rf := T0) (M0 := m0) (Q1 := fun _ => True) hx hb hr hlk hw trivial trivial dJ0_checkIndex_df160_9
theorem byte_and {b : Int} (h0 : 0 ≤ b) (h1 : b < 128) : aI b 255 = b := by
  obtain ⟨n, rfl⟩ := Int.eq_ofNat_of_zero_le h0
  have hn : n < 128 := by omega
  have h : ∀ k : Nat, k < 128 → aI k 255 = k := by decide +kernel
  exact h n hn
theorem ST.byt {A : Nat → Prop} {U : State} {H : Heap} {sa sv : Nat} {bs : List Int} (h : ST A U H sa sv bs) {k : Nat} (hk : k < bs.length) : 0 ≤ bs.getD k 0 ∧ bs.getD k 0 < 128 := by
  rw [List.getD_eq_getElem?_getD, List.getElem?_eq_getElem hk]
  exact h.2.2.2.2.1 _ (List.getElem_mem hk)
theorem s_char1 (l : Launch) (D : va_G) (τ : Nat → ClassId) (sA sV : Nat → Nat) (sz sa sv : Nat) (bs : List Int) (k : Int) (h0 : 0 ≤ k) (h1 : k < bs.length) : Met l yJ1_charAt_3b067 (lw_w yJ1_charAt_3b067 cJ1_charAt_3b067 2 (some .char)) (rmk 3 0 0) (tPc D τ sA sV (W0 m0) sz sa sv bs [.ref sv, .int (iI k)]) (gQi D (EQi W0 T0 (fun z _ => z = bs.getD k.toNat 0)) (va_A (W0 m0) sz)) 0 0 (va_A (W0 m0) sz) := by
  refine t_met (ret := some .char) (Qc := gQi D (EQi W0 T0 (fun z _ => z = bs.getD k.toNat 0))) (by decide +kernel) (Nat.le_of_ble_eq_true rfl) ?_
  intro p e s m args below meth c A ls hx hb hml hr hlk hnm hC hLS hST hA hw hl
  have hC : cx D τ s m args RJ1 := hC
  have hl : lv_has ls 2 [(0, .ref sv), (1, .int (iI k))] := hl
  have hn := hST.2.2.2.2.2
  have hby := hST.byt (k := k.toNat) (by omega)
  refine lv_iload_n hx hb dJ1_charAt_3b067_0 rfl (lv_at hl 1 rfl) ?_
  refine lv_aload_n hx hb dJ1_charAt_3b067_1 rfl (lv_at hl 0 rfl) ?_
  refine va_tlen (v := iI bs.length) hx hb hST.2.2.2.1 hw.2.2 rfl dJ1_charAt_3b067_2 ?_
  refine j_cSv (Wf := W0) (Rf := T0) (M0 := m0) (As := [.int (iI k), .int (iI bs.length)]) (rest := []) (wr := []) hx hb hml hC hLS hA hw hl.1 (s_chk0 l D τ sA sV _ k bs.length h0 h1 (by omega)) kJ0_checkIndex_df160 ml_J1_9 [] [] rfl rfl rfl rfl (fun i h => absurd h List.not_mem_nil) rfl rfl (Nat.le_of_ble_eq_true rfl) (rm_ok (by decide) (by decide)) ⟨by decide, by decide⟩ rfl rfl dJ1_charAt_3b067_3 (fun M1 H locs _ _ hw => ?_)
  refine lv_aload_n hx hb dJ1_charAt_3b067_6 rfl (lv_at hl 0 rfl) ?_
  refine lv_iload_n hx hb dJ1_charAt_3b067_7 rfl (lv_at hl 1 rfl) ?_
  refine va_tb (v := .int (iI (bs.getD k.toNat 0))) hx hb hST.2.2.2.1 hw.2.2 (iI_in h0 h1 (by omega)) (by rw [iI_clamp ⟨by omega, by omega⟩]) dJ1_charAt_3b067_8 ?_
  refine r_sipush hx hb dJ1_charAt_3b067_9 (by decide +kernel) ?_
  refine r_iandF hx hb dJ1_charAt_3b067_12 (fun x e1 g1 => ?_)
  rw [byte_and hby.1 hby.2] at e1
  refine r_i2c hx hb dJ1_charAt_3b067_13 (by omega) (by omega) ?_
  exact k_nret wq_0 (Rf := T0) (M0 := m0) (z := x) hx hb hr (by
    rw [e1]
    have h : ∀ q : Nat, q < 128 → narrow .char (.int (iI q)) = .int (iI q) := by decide +kernel
    obtain ⟨q, hq⟩ := Int.eq_ofNat_of_zero_le hby.1
    rw [hq]
    exact h q (by omega)) hlk hw trivial g1 e1 dJ1_charAt_3b067_14
theorem s_charAt (l : Launch) (D : va_G) (τ : Nat → ClassId) (sA sV : Nat → Nat) (sz sa sv : Nat) (bs : List Int) (k : Int) (h0 : 0 ≤ k) (h1 : k < bs.length) : Met l yJ0_charAt_5068e (lw_w yJ0_charAt_5068e cJ0_charAt_5068e 2 (some .char)) (rmk 4 0 0) (tPc D τ sA sV (W0 m0) sz sa sv bs [.ref sa, .int (iI k)]) (gQi D (EQi W0 T0 (fun z _ => z = bs.getD k.toNat 0)) (va_A (W0 m0) sz)) 0 0 (va_A (W0 m0) sz) := by
  refine t_met (ret := some .char) (Qc := gQi D (EQi W0 T0 (fun z _ => z = bs.getD k.toNat 0))) (by decide +kernel) (Nat.le_of_ble_eq_true rfl) ?_
  intro p e s m args below meth c A ls hx hb hml hr hlk hnm hC hLS hST hA hw hl
  have hC : cx D τ s m args RJ0 := hC
  have hl : lv_has ls 2 [(0, .ref sa), (1, .int (iI k))] := hl
  have hn := hST.2.2.2.2.2
  have hby := hST.byt (k := k.toNat) (by omega)
  refine lv_aload_n hx hb dJ0_charAt_5068e_0 rfl (lv_at hl 0 rfl) ?_
  refine t_cVi0 wq_0 (As := []) (rest := []) hx hb hml hC hLS hA hw hl.1 hST rfl (s_latin l D τ sA sV _ sa sv bs) kJ0_isLatin1_aae02 ml_J0_492 rfl rfl (Nat.le_of_ble_eq_true rfl) (rm_ok (by decide) (by decide)) ⟨by decide, by decide⟩ dJ0_charAt_5068e_1 (fun z1 H locs hz1 hE1 hw => ?_)
  subst hE1
  refine r_if_eq (tgt := 16) hx hb dJ0_charAt_5068e_4 (by decide) (by decide) (fun h => absurd h (by decide)) (fun _ => ?_)
  refine lv_aload_n hx hb dJ0_charAt_5068e_7 rfl (lv_at hl 0 rfl) ?_
  refine vk_getf hx hb hST.2.2.1 hw.2.2 hC.2.1 (hC.1 _ fl_J0_9) (fun _ h => h) dJ0_charAt_5068e_8 ?_
  refine lv_iload_n hx hb dJ0_charAt_5068e_11 rfl (lv_at hl 1 rfl) ?_
  refine t_cSi (Wf := W0) (Rf := T0) (M0 := m0) (As := [.ref sv, .int (iI k)]) (rest := []) (wr := []) hx hb hml hC hLS hA hw hl.1 (hST.down hA hw [] rfl) (s_char1 l D τ sA sV _ sa sv bs k h0 h1) kJ1_charAt_3b067 ml_J0_495 [] [] rfl rfl rfl rfl (fun i h => absurd h List.not_mem_nil) rfl rfl (Nat.le_of_ble_eq_true rfl) (rm_ok (by decide) (by decide)) ⟨by decide, by decide⟩ rfl rfl dJ0_charAt_5068e_12 (fun z1 M1 H locs g1 _ e1 hw => ?_)
  exact k_nret wq_0 (Rf := T0) (M0 := m0) (z := z1) hx hb hr (by
    rw [e1]
    have h : ∀ q : Nat, q < 128 → narrow .char (.int (iI q)) = .int (iI q) := by decide +kernel
    obtain ⟨q, hq⟩ := Int.eq_ofNat_of_zero_le hby.1
    rw [hq]
    exact h q (by omega)) hlk hw trivial g1 e1 dJ0_charAt_5068e_15
/-- indexOf -/
theorem s_canEnc (l : Launch) (D : va_G) (τ : Nat → ClassId) (sA sV : Nat → Nat) (sz : Nat) (c0 : Int) (h0 : 0 ≤ c0) (h1 : c0 < 65536) : Met l yJ1_canEncode_9a6ad (lw_w yJ1_canEncode_9a6ad cJ1_canEncode_9a6ad 1 (some .boolean)) (rmk 1 0 0) (kPc D τ sA sV (W0 m0) sz [.int (iI c0)]) (gQi D (EQi W0 T0 (fun z _ => (z = 0 ∧ 256 ≤ c0) ∨ (z = 1 ∧ c0 < 256))) (va_A (W0 m0) sz)) 0 0 (va_A (W0 m0) sz) := by
  refine k_met (ret := some .boolean) (Qc := gQi D (EQi W0 T0 (fun z _ => (z = 0 ∧ 256 ≤ c0) ∨ (z = 1 ∧ c0 < 256)))) (by decide +kernel) (Nat.le_of_ble_eq_true rfl) ?_
  intro p e s m args below meth c A ls hx hb hml hr hlk hnm hC hLS hA hw hl
  have hC : cx D τ s m args RJ1 := hC
  have hl : lv_has ls 1 [(0, .int (iI c0))] := hl
  refine lv_iload_n hx hb dJ1_canEncode_9a6ad_0 rfl (lv_at hl 0 rfl) ?_
  refine r_if_lt (tgt := 15) hx hb dJ1_canEncode_9a6ad_1 (by decide) (by omega) (fun h => absurd h (by omega)) (fun _ => ?_)
  refine lv_iload_n hx hb dJ1_canEncode_9a6ad_4 rfl (lv_at hl 0 rfl) ?_
  refine r_sipush hx hb dJ1_canEncode_9a6ad_5 (by decide +kernel) ?_
  refine r_icmp_gt (tgt := 15) hx hb dJ1_canEncode_9a6ad_8 (by decide) (by omega) (by decide) (fun h => ?_) (fun h => ?_)
  · refine r_iconst hx hb dJ1_canEncode_9a6ad_15 ?_
    exact k_nret wq_0 (Rf := T0) (M0 := m0) (z := 0) hx hb hr rfl hlk hw trivial (by decide) (Or.inl ⟨rfl, by omega⟩) dJ1_canEncode_9a6ad_16
  · refine r_iconst hx hb dJ1_canEncode_9a6ad_11 ?_
    refine lv_goto (tgt := 16) hx hb dJ1_canEncode_9a6ad_12 (by decide) ?_
    exact k_nret wq_0 (Rf := T0) (M0 := m0) (z := 1) hx hb hr rfl hlk hw trivial (by decide) (Or.inr ⟨rfl, by omega⟩) dJ1_canEncode_9a6ad_16
theorem ixF_R (c : Int) : ∀ (l : List Int) (k : Int), 0 ≤ k → l.length + k ≤ 100000 → -1 ≤ ixF c l k ∧ ixF c l k ≤ 100000 := by
  intro l
  induction l with
  | nil => intro k h0 h1; exact ⟨by simp [ixF], by simp [ixF]⟩
  | cons b l ih =>
    intro k h0 h1
    have h2 : (l.length : Int) + 1 + k ≤ 100000 := by simpa using h1
    unfold ixF
    by_cases hc : b = c
    · rw [if_pos hc]; omega
    · rw [if_neg hc]
      exact ih (k + 1) (by omega) (by omega)
theorem ixF_no {c : Int} : ∀ (l : List Int) (k : Int), (∀ b ∈ l, b ≠ c) → ixF c l k = -1 := by
  intro l
  induction l with
  | nil => intro k _; rfl
  | cons b l ih =>
    intro k h
    unfold ixF
    rw [if_neg (h b List.mem_cons_self)]
    exact ih (k + 1) (fun x hx => h x (List.mem_cons_of_mem _ hx))
theorem b8_id {c0 b : Int} (h0 : 0 ≤ c0) (h1 : c0 < 256) (g0 : 0 ≤ b) (g1 : b < 128) : b = b8I c0 ↔ b = c0 := by
  have h : ∀ q : Nat, q < 256 → (b8I q = if q < 128 then (q : Int) else (q : Int) - 256) := by decide +kernel
  obtain ⟨q, rfl⟩ := Int.eq_ofNat_of_zero_le h0
  rw [h q (by omega)]
  by_cases c : q < 128
  · rw [if_pos c]
  · rw [if_neg c]; omega
theorem s_ixChar (l : Launch) (D : va_G) (τ : Nat → ClassId) (sA sV : Nat → Nat) (sz sa sv : Nat) (bs : List Int) (c0 : Int) (h0 : 0 ≤ c0) (h1 : c0 < 256) : Met l yJ1_indexOfChar_4cfef (lw_w yJ1_indexOfChar_4cfef cJ1_indexOfChar_4cfef 6 (some .int)) (rmk 1 0 0) (tPc D τ sA sV (W0 m0) sz sa sv bs [.ref sv, .int (iI c0), .int (iI 0), .int (iI bs.length)]) (gQi D (EQi W0 T0 (fun z _ => z = ixS bs c0)) (va_A (W0 m0) sz)) 0 0 (va_A (W0 m0) sz) := by
  refine t_met (ret := some .int) (Qc := gQi D (EQi W0 T0 (fun z _ => z = ixS bs c0))) (by decide +kernel) (Nat.le_of_ble_eq_true rfl) ?_
  intro p e s m args below meth c A ls hx hb hml hr hlk hnm hC hLS hST hA hw hl
  have hC : cx D τ s m args RJ1 := hC
  have hl : lv_has ls 6 [(0, .ref sv), (1, .int (iI c0)), (2, .int (iI 0)), (3, .int (iI bs.length))] := hl
  have hn := hST.2.2.2.2.2
  refine lv_iload_n hx hb dJ1_indexOfChar_4cfef_0 rfl (lv_at hl 1 rfl) ?_
  refine r_i2bF hx hb dJ1_indexOfChar_4cfef_1 (fun x e1 g1 => ?_)
  refine lv_istore (lv' := [(4, .int (iI x)), (0, .ref sv), (1, .int (iI c0)), (2, .int (iI 0)), (3, .int (iI bs.length))]) hx hb dJ1_indexOfChar_4cfef_2 hl (by decide) rfl (fun ls hl => ?_)
  refine lv_iload_n hx hb dJ1_indexOfChar_4cfef_4 rfl (lv_at hl 3 rfl) ?_
  refine lv_istore (lv' := [(5, .int (iI 0)), (4, .int (iI x)), (0, .ref sv), (1, .int (iI c0)), (2, .int (iI 0)), (3, .int (iI bs.length))]) hx hb dJ1_indexOfChar_4cfef_5 hl (by decide) rfl (fun ls hl => ?_)
  have L : ∀ (q : List Int) (k : Int) (H : Heap) (locs : List Loc) (ls : Array Slot), 0 ≤ k → bs.drop k.toNat = q → q.length + k = bs.length → wS D A s.heap (W0 m0) H locs → lv_has ls 6 [(5, .int (iI k)), (4, .int (iI x)), (0, .ref sv), (1, .int (iI c0)), (2, .int (iI 0)), (3, .int (iI bs.length))] → iR (ixF c0 q k) → ixF c0 q k = ixS bs c0 → W p l e (rmk 1 0 0) s m args below meth c H locs 0 0 (MQ below (gQi D (EQi W0 T0 (fun z _ => z = ixS bs c0)) A) args s 0 0 A) (F0 m 7 ls []) := by
    intro q
    induction q with
    | nil =>
      intro k H locs ls hk hd hlen hw hl hR hix
      have hlen : k = bs.length := by simpa using hlen
      refine lv_iload hx hb dJ1_indexOfChar_4cfef_7 (lv_at hl 0 rfl) ?_
      refine lv_iload_n hx hb dJ1_indexOfChar_4cfef_9 rfl (lv_at hl 5 rfl) ?_
      refine r_icmp_ge (tgt := 31) hx hb dJ1_indexOfChar_4cfef_10 (by decide) (by omega) (by omega) (fun _ => ?_) (fun h => absurd (show (bs.length : Int) ≤ k by omega) h)
      refine r_iconst hx hb dJ1_indexOfChar_4cfef_31 ?_
      exact k_nret wq_0 (Rf := T0) (M0 := m0) (z := -1) hx hb hr rfl hlk hw trivial (by decide) hix dJ1_indexOfChar_4cfef_32
    | cons b q ih =>
      intro k H locs ls hk hd hlen hw hl hR hix
      have hlen : (q.length : Int) + 1 + k = bs.length := by simpa using hlen
      have hkl : k.toNat < bs.length := by omega
      have hd2 := List.drop_eq_getElem_cons hkl
      rw [hd] at hd2
      have hb0 : b = bs[k.toNat] := (List.cons.inj hd2).1
      have hq0 : bs.drop (k.toNat + 1) = q := (List.cons.inj hd2).2.symm
      have hgd : bs.getD k.toNat 0 = b := by rw [List.getD_eq_getElem?_getD, List.getElem?_eq_getElem hkl, hb0]; rfl
      have hby := hST.byt hkl
      rw [hgd] at hby
      refine lv_iload hx hb dJ1_indexOfChar_4cfef_7 (lv_at hl 0 rfl) ?_
      refine lv_iload_n hx hb dJ1_indexOfChar_4cfef_9 rfl (lv_at hl 5 rfl) ?_
      refine r_icmp_ge (tgt := 31) hx hb dJ1_indexOfChar_4cfef_10 (by decide) (by omega) (by omega) (fun h => absurd h (by omega)) (fun _ => ?_)
      refine lv_aload_n hx hb dJ1_indexOfChar_4cfef_13 rfl (lv_at hl 2 rfl) ?_
      refine lv_iload hx hb dJ1_indexOfChar_4cfef_14 (lv_at hl 0 rfl) ?_
      refine va_tb (v := .int (iI b)) hx hb hST.2.2.2.1 hw.2.2 (iI_in hk (by omega) (by omega)) (by rw [iI_clamp ⟨by omega, by omega⟩, hgd]) dJ1_indexOfChar_4cfef_16 ?_
      refine lv_iload hx hb dJ1_indexOfChar_4cfef_17 (lv_at hl 1 rfl) ?_
      unfold ixF at hR hix
      refine r_icmp_ne (tgt := 25) hx hb dJ1_indexOfChar_4cfef_19 (by decide) (by omega) g1 (fun h => ?_) (fun h => ?_)
      · rw [e1, b8_id h0 h1 hby.1 hby.2] at h
        rw [if_neg h] at hR hix
        refine r_iinc (v := (k + 1)) (lv' := [(5, .int (iI (k + 1))), (4, .int (iI x)), (0, .ref sv), (1, .int (iI c0)), (2, .int (iI 0)), (3, .int (iI bs.length))]) hx hb dJ1_indexOfChar_4cfef_25 hl (k := 0) rfl rfl (by decide) rfl (fun ls hl => ?_)
        refine lv_goto (tgt := 7) hx hb dJ1_indexOfChar_4cfef_28 (by decide) ?_
        exact ih (k + 1) H locs ls (by omega) (by rw [show (k + 1).toNat = k.toNat + 1 by omega]; exact hq0) (by omega) hw hl hR hix
      · rw [e1, b8_id h0 h1 hby.1 hby.2] at h
        rw [if_pos h] at hR hix
        refine lv_iload hx hb dJ1_indexOfChar_4cfef_22 (lv_at hl 0 rfl) ?_
        exact k_nret wq_0 (Rf := T0) (M0 := m0) (z := k) hx hb hr rfl hlk hw trivial hR hix dJ1_indexOfChar_4cfef_24
  have hR := ixF_R c0 bs 0 (by omega) (by omega)
  exact L bs 0 _ _ _ (by omega) rfl (by omega) hw hl ⟨by omega, by omega⟩ rfl
theorem s_ix1 (l : Launch) (D : va_G) (τ : Nat → ClassId) (sA sV : Nat → Nat) (sz sa sv : Nat) (bs : List Int) (c0 : Int) (h0 : 0 ≤ c0) (h1 : c0 < 65536) : Met l yJ1_indexOf_4cfef (lw_w yJ1_indexOf_4cfef cJ1_indexOf_4cfef 4 (some .int)) (rmk 2 0 0) (tPc D τ sA sV (W0 m0) sz sa sv bs [.ref sv, .int (iI c0), .int (iI 0), .int (iI bs.length)]) (gQi D (EQi W0 T0 (fun z _ => z = ixS bs c0)) (va_A (W0 m0) sz)) 0 0 (va_A (W0 m0) sz) := by
  refine t_met (ret := some .int) (Qc := gQi D (EQi W0 T0 (fun z _ => z = ixS bs c0))) (by decide +kernel) (Nat.le_of_ble_eq_true rfl) ?_
  intro p e s m args below meth c A ls hx hb hml hr hlk hnm hC hLS hST hA hw hl
  have hC : cx D τ s m args RJ1 := hC
  have hl : lv_has ls 4 [(0, .ref sv), (1, .int (iI c0)), (2, .int (iI 0)), (3, .int (iI bs.length))] := hl
  have hn := hST.2.2.2.2.2
  have hby := hST.2.2.2.2.1
  refine lv_iload_n hx hb dJ1_indexOf_4cfef_0 rfl (lv_at hl 1 rfl) ?_
  refine j_cSi (Wf := W0) (Rf := T0) (M0 := m0) (As := [.int (iI c0)]) (rest := []) (wr := []) hx hb hml hC hLS hA hw hl.1 (s_canEnc l D τ sA sV _ c0 h0 h1) kJ1_canEncode_9a6ad ml_J1_88 [] [] rfl rfl rfl rfl (fun i h => absurd h List.not_mem_nil) rfl rfl (Nat.le_of_ble_eq_true rfl) (rm_ok (by decide) (by decide)) ⟨by decide, by decide⟩ rfl rfl dJ1_indexOf_4cfef_1 (fun z1 M1 H locs g1 _ e1 hw => ?_)
  refine r_if_ne (tgt := 9) hx hb dJ1_indexOf_4cfef_4 (by decide) g1 (fun h => ?_) (fun h => ?_)
  · have hc : c0 < 256 := by omega
    refine lv_iload_n hx hb dJ1_indexOf_4cfef_9 rfl (lv_at hl 2 rfl) ?_
    refine r_iconst hx hb dJ1_indexOf_4cfef_10 ?_
    refine r_mmaxF hx hb hml hC hl.1 ml_J1_92 sm_max in_J9 cd_max (by decide) (Nat.le_of_ble_eq_true rfl) (by decide) (by decide) (by decide) (by decide) dJ1_indexOf_4cfef_11 (fun x3 e3 g3 => ?_)
    obtain rfl : x3 = 0 := by omega
    refine lv_istore_n (lv' := [(2, .int (iI 0)), (0, .ref sv), (1, .int (iI c0)), (3, .int (iI bs.length))]) hx hb dJ1_indexOf_4cfef_14 rfl hl (by decide) rfl (fun ls hl => ?_)
    refine lv_iload_n hx hb dJ1_indexOf_4cfef_15 rfl (lv_at hl 3 rfl) ?_
    refine lv_aload_n hx hb dJ1_indexOf_4cfef_16 rfl (lv_at hl 1 rfl) ?_
    refine va_tlen (v := iI bs.length) hx hb hST.2.2.2.1 hw.2.2 rfl dJ1_indexOf_4cfef_17 ?_
    refine r_mminF hx hb hml hC hl.1 ml_J1_38 sm_min in_J9 cd_min (by decide) (Nat.le_of_ble_eq_true rfl) (by decide) (by decide) (by omega) (by omega) dJ1_indexOf_4cfef_18 (fun x4 e4 g4 => ?_)
    obtain rfl : x4 = bs.length := by omega
    refine lv_istore_n (lv' := [(3, .int (iI bs.length)), (2, .int (iI 0)), (0, .ref sv), (1, .int (iI c0))]) hx hb dJ1_indexOf_4cfef_21 rfl hl (by decide) rfl (fun ls hl => ?_)
    refine lv_iload_n hx hb dJ1_indexOf_4cfef_22 rfl (lv_at hl 1 rfl) ?_
    refine lv_iload_n hx hb dJ1_indexOf_4cfef_23 rfl (lv_at hl 0 rfl) ?_
    refine r_icmp_lt (tgt := 29) hx hb dJ1_indexOf_4cfef_24 (by decide) (by decide) (by omega) (fun h => ?_) (fun h => ?_)
    · refine lv_aload_n hx hb dJ1_indexOf_4cfef_29 rfl (lv_at hl 2 rfl) ?_
      refine lv_iload_n hx hb dJ1_indexOf_4cfef_30 rfl (lv_at hl 3 rfl) ?_
      refine lv_iload_n hx hb dJ1_indexOf_4cfef_31 rfl (lv_at hl 1 rfl) ?_
      refine lv_iload_n hx hb dJ1_indexOf_4cfef_32 rfl (lv_at hl 0 rfl) ?_
      refine t_cSi (Wf := W0) (Rf := T0) (M0 := m0) (As := [.ref sv, .int (iI c0), .int (iI 0), .int (iI bs.length)]) (rest := []) (wr := []) hx hb hml hC hLS hA hw hl.1 (hST.down hA hw [] rfl) (s_ixChar l D τ sA sV _ sa sv bs c0 h0 hc) kJ1_indexOfChar_4cfef ml_J1_95 [] [] rfl rfl rfl rfl (fun i h => absurd h List.not_mem_nil) rfl rfl (Nat.le_of_ble_eq_true rfl) (rm_ok (by decide) (by decide)) ⟨by decide, by decide⟩ rfl rfl dJ1_indexOf_4cfef_33 (fun z5 M5 H locs g5 _ e5 hw => ?_)
      exact k_nret wq_0 (Rf := T0) (M0 := m0) (z := z5) hx hb hr rfl hlk hw trivial g5 e5 dJ1_indexOf_4cfef_36
    · refine r_iconst hx hb dJ1_indexOf_4cfef_27 ?_
      have hz : bs = [] := List.length_eq_zero_iff.mp (by omega)
      exact k_nret wq_0 (Rf := T0) (M0 := m0) (z := -1) hx hb hr rfl hlk hw trivial (by decide) (by rw [hz]; rfl) dJ1_indexOf_4cfef_28
  · refine r_iconst hx hb dJ1_indexOf_4cfef_7 ?_
    exact k_nret wq_0 (Rf := T0) (M0 := m0) (z := -1) hx hb hr rfl hlk hw trivial (by decide) (ixF_no bs 0 (fun b hb0 hq => by have := hby b hb0; omega)).symm dJ1_indexOf_4cfef_8
theorem s_ix2 (l : Launch) (D : va_G) (τ : Nat → ClassId) (sA sV : Nat → Nat) (sz sa sv : Nat) (bs : List Int) (c0 : Int) (h0 : 0 ≤ c0) (h1 : c0 < 65536) : Met l yJ0_indexOf_7cf53 (lw_w yJ0_indexOf_7cf53 cJ0_indexOf_7cf53 3 (some .int)) (rmk 3 0 0) (tPc D τ sA sV (W0 m0) sz sa sv bs [.ref sa, .int (iI c0), .int (iI 0)]) (gQi D (EQi W0 T0 (fun z _ => z = ixS bs c0)) (va_A (W0 m0) sz)) 0 0 (va_A (W0 m0) sz) := by
  refine t_met (ret := some .int) (Qc := gQi D (EQi W0 T0 (fun z _ => z = ixS bs c0))) (by decide +kernel) (Nat.le_of_ble_eq_true rfl) ?_
  intro p e s m args below meth c A ls hx hb hml hr hlk hnm hC hLS hST hA hw hl
  have hC : cx D τ s m args RJ0 := hC
  have hl : lv_has ls 3 [(0, .ref sa), (1, .int (iI c0)), (2, .int (iI 0))] := hl
  refine lv_aload_n hx hb dJ0_indexOf_7cf53_0 rfl (lv_at hl 0 rfl) ?_
  refine t_cVi0 wq_0 (As := []) (rest := []) hx hb hml hC hLS hA hw hl.1 hST rfl (s_latin l D τ sA sV _ sa sv bs) kJ0_isLatin1_aae02 ml_J0_492 rfl rfl (Nat.le_of_ble_eq_true rfl) (rm_ok (by decide) (by decide)) ⟨by decide, by decide⟩ dJ0_indexOf_7cf53_1 (fun z1 H locs hz1 hE1 hw => ?_)
  subst hE1
  refine r_if_eq (tgt := 23) hx hb dJ0_indexOf_7cf53_4 (by decide) (by decide) (fun h => absurd h (by decide)) (fun _ => ?_)
  refine lv_aload_n hx hb dJ0_indexOf_7cf53_7 rfl (lv_at hl 0 rfl) ?_
  refine vk_getf hx hb hST.2.2.1 hw.2.2 hC.2.1 (hC.1 _ fl_J0_9) (fun _ h => h) dJ0_indexOf_7cf53_8 ?_
  refine lv_iload_n hx hb dJ0_indexOf_7cf53_11 rfl (lv_at hl 1 rfl) ?_
  refine lv_iload_n hx hb dJ0_indexOf_7cf53_12 rfl (lv_at hl 2 rfl) ?_
  refine lv_aload_n hx hb dJ0_indexOf_7cf53_13 rfl (lv_at hl 0 rfl) ?_
  refine t_cVi0 wq_0 (As := []) (rest := [.int (iI 0), .int (iI c0), .ref sv]) hx hb hml hC hLS hA hw hl.1 hST rfl (s_length l D τ sA sV _ sa sv bs) kJ0_length_8abf5 ml_J0_505 rfl rfl (Nat.le_of_ble_eq_true rfl) (rm_ok (by decide) (by decide)) ⟨by decide, by decide⟩ dJ0_indexOf_7cf53_14 (fun z2 H locs hz2 hE2 hw => ?_)
  subst hE2
  refine t_cSi (Wf := W0) (Rf := T0) (M0 := m0) (As := [.ref sv, .int (iI c0), .int (iI 0), .int (iI bs.length)]) (rest := []) (wr := []) hx hb hml hC hLS hA hw hl.1 (hST.down hA hw [] rfl) (s_ix1 l D τ sA sV _ sa sv bs c0 h0 h1) kJ1_indexOf_4cfef ml_J0_637 [] [] rfl rfl rfl rfl (fun i h => absurd h List.not_mem_nil) rfl rfl (Nat.le_of_ble_eq_true rfl) (rm_ok (by decide) (by decide)) ⟨by decide, by decide⟩ rfl rfl dJ0_indexOf_7cf53_17 (fun z5 M5 H locs g5 _ e5 hw => ?_)
  refine lv_goto (tgt := 36) hx hb dJ0_indexOf_7cf53_20 (by decide) ?_
  exact k_nret wq_0 (Rf := T0) (M0 := m0) (z := z5) hx hb hr rfl hlk hw trivial g5 e5 dJ0_indexOf_7cf53_36
theorem s_indexOf (l : Launch) (D : va_G) (τ : Nat → ClassId) (sA sV : Nat → Nat) (sz sa sv : Nat) (bs : List Int) (c0 : Int) (h0 : 0 ≤ c0) (h1 : c0 < 65536) : Met l yJ0_indexOf_0f7a4 (lw_w yJ0_indexOf_0f7a4 cJ0_indexOf_0f7a4 2 (some .int)) (rmk 4 0 0) (tPc D τ sA sV (W0 m0) sz sa sv bs [.ref sa, .int (iI c0)]) (gQi D (EQi W0 T0 (fun z _ => z = ixS bs c0)) (va_A (W0 m0) sz)) 0 0 (va_A (W0 m0) sz) := by
  refine t_met (ret := some .int) (Qc := gQi D (EQi W0 T0 (fun z _ => z = ixS bs c0))) (by decide +kernel) (Nat.le_of_ble_eq_true rfl) ?_
  intro p e s m args below meth c A ls hx hb hml hr hlk hnm hC hLS hST hA hw hl
  have hC : cx D τ s m args RJ0 := hC
  have hl : lv_has ls 2 [(0, .ref sa), (1, .int (iI c0))] := hl
  refine lv_aload_n hx hb dJ0_indexOf_0f7a4_0 rfl (lv_at hl 0 rfl) ?_
  refine lv_iload_n hx hb dJ0_indexOf_0f7a4_1 rfl (lv_at hl 1 rfl) ?_
  refine r_iconst hx hb dJ0_indexOf_0f7a4_2 ?_
  refine t_cVi0 wq_0 (As := [.int (iI c0), .int (iI 0)]) (rest := []) hx hb hml hC hLS hA hw hl.1 hST rfl (s_ix2 l D τ sA sV _ sa sv bs c0 h0 h1) kJ0_indexOf_7cf53 ml_J0_633 rfl rfl (Nat.le_of_ble_eq_true rfl) (rm_ok (by decide) (by decide)) ⟨by decide, by decide⟩ dJ0_indexOf_0f7a4_3 (fun z1 H locs hz1 hE1 hw => ?_)
  exact k_nret wq_0 (Rf := T0) (M0 := m0) (z := z1) hx hb hr rfl hlk hw trivial hz1 hE1 dJ0_indexOf_0f7a4_6
section RT2
variable {p : Program} {l : Launch} {e : Env} {R : Room} {s : State} {m : MethodId} {args : Array Value} {below : List Frame} {meth : Method} {c : Code} {H : Heap} {locs : List Loc} {cells slots : Nat} {Q : State → Prop}
variable {cc : ByteArray} {pc : Nat} {ls : Array Slot} {rest st0 : List Value} {D : va_G} {A : Nat → Prop} {a : Nat} {τ : Nat → ClassId} {own : String} {sA sV : Nat → Nat} {index nL : Nat} {Wf : Mem → va_W} {M0 : Mem}
theorem k_indexOf (hWQ : WQ Wf) (hx : p.tables.exec = Jvm.exec) (hb : c.code = cc) (hml : c.maxLocals = nL) (hC : cx D τ s m args own) (hLS : LK A s s.heap sA sV) (hA : ∀ q, s.heap.size ≤ q → A q) (hw : wS D A s.heap (Wf M0) H locs) (hl : ls.size = nL) {sa sv : Nat} {bs : List Int} (hST : ST A s s.heap sa sv bs) {c0 : Int} (h0 : 0 ≤ c0) (h1 : c0 < 65536) (hlk : Cond.methodLink own index yJ0_indexOf_0f7a4 ∈ lw_good) (hcat : (rest.map fun v => v.category).sum ≤ 8) (hroom : 5 ≤ R.frames ∧ 8 + (2 + 11) + 64 * 4 ≤ R.locals) (hcs : cells ≤ R.cells ∧ slots ≤ R.slots) (hd : decode cc pc = .ok (.invokevirtual index, 3)) (kk : ∀ (z : Int) (H : Heap) (locs : List Loc), z = ixS bs c0 → iR z → wS D A s.heap (Wf M0) H locs → W p l e R s m args below meth c H locs cells slots Q (F0 m (pc + 3) ls (.int (iI z) :: rest))) : W p l e R s m args below meth c H locs cells slots Q (F0 m pc ls (.int (iI c0) :: .ref sa :: rest)) :=
  t_cVi0 hWQ (As := [.int (iI c0)]) hx hb hml hC hLS hA hw hl hST rfl (s_indexOf l D τ sA sV _ sa sv bs c0 h0 h1) kJ0_indexOf_0f7a4 hlk rfl rfl hcat hroom hcs hd (fun z H locs g e hw => kk z H locs e g hw)
theorem k_length (hWQ : WQ Wf) (hx : p.tables.exec = Jvm.exec) (hb : c.code = cc) (hml : c.maxLocals = nL) (hC : cx D τ s m args own) (hLS : LK A s s.heap sA sV) (hA : ∀ q, s.heap.size ≤ q → A q) (hw : wS D A s.heap (Wf M0) H locs) (hl : ls.size = nL) {sa sv : Nat} {bs : List Int} (hST : ST A s s.heap sa sv bs) (hlk : Cond.methodLink own index yJ0_length_8abf5 ∈ lw_good) (hcat : (rest.map fun v => v.category).sum ≤ 8) (hroom : 3 ≤ R.frames ∧ 8 + (1 + 11) + 64 * 2 ≤ R.locals) (hcs : cells ≤ R.cells ∧ slots ≤ R.slots) (hd : decode cc pc = .ok (.invokevirtual index, 3)) (kk : ∀ (z : Int) (H : Heap) (locs : List Loc), z = bs.length → iR z → wS D A s.heap (Wf M0) H locs → W p l e R s m args below meth c H locs cells slots Q (F0 m (pc + 3) ls (.int (iI z) :: rest))) : W p l e R s m args below meth c H locs cells slots Q (F0 m pc ls (.ref sa :: rest)) :=
  t_cVi0 hWQ (As := []) hx hb hml hC hLS hA hw hl hST rfl (s_length l D τ sA sV _ sa sv bs) kJ0_length_8abf5 hlk rfl rfl hcat hroom hcs hd (fun z H locs g e hw => kk z H locs e g hw)
theorem k_charAt (hWQ : WQ Wf) (hx : p.tables.exec = Jvm.exec) (hb : c.code = cc) (hml : c.maxLocals = nL) (hC : cx D τ s m args own) (hLS : LK A s s.heap sA sV) (hA : ∀ q, s.heap.size ≤ q → A q) (hw : wS D A s.heap (Wf M0) H locs) (hl : ls.size = nL) {sa sv : Nat} {bs : List Int} (hST : ST A s s.heap sa sv bs) {k : Int} (h0 : 0 ≤ k) (h1 : k < bs.length) (hlk : Cond.methodLink own index yJ0_charAt_5068e ∈ lw_good) (hcat : (rest.map fun v => v.category).sum ≤ 8) (hroom : 5 ≤ R.frames ∧ 8 + (2 + 11) + 64 * 4 ≤ R.locals) (hcs : cells ≤ R.cells ∧ slots ≤ R.slots) (hd : decode cc pc = .ok (.invokevirtual index, 3)) (kk : ∀ (z : Int) (H : Heap) (locs : List Loc), z = bs.getD k.toNat 0 → iR z → wS D A s.heap (Wf M0) H locs → W p l e R s m args below meth c H locs cells slots Q (F0 m (pc + 3) ls (.int (iI z) :: rest))) : W p l e R s m args below meth c H locs cells slots Q (F0 m pc ls (.int (iI k) :: .ref sa :: rest)) :=
  t_cVi0 hWQ (As := [.int (iI k)]) hx hb hml hC hLS hA hw hl hST rfl (s_charAt l D τ sA sV _ sa sv bs k h0 h1) kJ0_charAt_5068e hlk rfl rfl hcat hroom hcs hd (fun z H locs g e hw => kk z H locs e g hw)
theorem k_ldcwS (hx : p.tables.exec = Jvm.exec) (hb : c.code = cc) {tx : String} {q : Nat} (hown : s.vm.findClass own = some m.cls) (hZ : vk_R own index tx q s) (hdg : decode cc pc = .ok (.ldc_w index, 3)) (k : W p l e R s m args below meth c H locs cells slots Q (F0 m (pc + 3) ls (.ref q :: rest))) : W p l e R s m args below meth c H locs cells slots Q (F0 m pc ls rest) := by
  intro T hT X
  obtain ⟨t, a1, b1⟩ := k T hT X
  exact ⟨t, Stand.ldcStringW X hx hown (text := tx) (a := q) hZ.1 hZ.2 (g := F0 m pc ls rest) rfl (by rw [hb]; exact hdg) t a1, b1⟩
theorem k_tcViH (hWQ : WQ Wf) (hx : p.tables.exec = Jvm.exec) (hb : c.code = cc) (hml : c.maxLocals = nL) (hC : cx D τ s m args own) (hLS : LK A s s.heap sA sV) (hA : ∀ q, s.heap.size ≤ q → A q) (hw : wS D A s.heap (Wf M0) H locs) (hl : ls.size = nL) {Rf : Mem → Prop} {Q1 : Int → Mem → Prop} {sa sv : Nat} {bs : List Int} (hST : ST (va_A (Wf M0) H.size) s H sa sv bs) {y : MethodName} {b : ByteArray} {mL n lev : Nat} {ret : Option FieldType} {As : List Value} {st0 : List Value} (M : Met l y (lw_w y b mL ret) (rmk lev 0 0) (tPc D τ sA sV (Wf M0) H.size sa sv bs (.ref a :: As)) (gQi D (EQi Wf Rf Q1) (va_A (Wf M0) H.size)) 0 0 (va_A (Wf M0) H.size)) (K : KV y b mL ret n) (hlk : Cond.methodLink own index y ∈ lw_good) {q0 ci : Nat} {fs : List Value} {T : u_T} {N : Nat} (hci : vwCl[ci]? = some (y.cls, T, N)) (hq0 : (Wf M0)[q0]? = some (a, .inr (ci, fs))) (hst : st0 = As.reverse ++ .ref a :: rest) (hn : As.length = n) (hcat : (rest.map fun v => v.category).sum ≤ 8) (hroom : lev + 1 ≤ R.frames ∧ 8 + (mL + 11) + 64 * lev ≤ R.locals) (hcs : cells ≤ R.cells ∧ slots ≤ R.slots) (hd : decode cc pc = .ok (.invokevirtual index, 3)) (kk : ∀ (z : Int) (M : Mem) (H : Heap) (locs : List Loc), iR z → Rf M → Q1 z M → wS D A s.heap (Wf M) H locs → W p l e R s m args below meth c H locs cells slots Q (F0 m (pc + 3) ls (.int (iI z) :: rest))) : W p l e R s m args below meth c H locs cells slots Q (F0 m pc ls st0) := by
  obtain ⟨N, hN, hnd⟩ := hWQ
  have hp := pick_all (Wf M0)
  rw [hN] at hp
  exact t_cVi (wr := []) hx hb hml hC hLS hA hw hl hST M K hlk (List.range N) [] hp rfl hnd rfl (fun i h => absurd h List.not_mem_nil) (va_recv hC.2.2.1 hw.1 hci hq0) hst hn hcat hroom hcs rfl rfl hd kk
theorem k_tcVi (hWQ : WQ Wf) (hx : p.tables.exec = Jvm.exec) (hb : c.code = cc) (hml : c.maxLocals = nL) (hC : cx D τ s m args own) (hLS : LK A s s.heap sA sV) (hA : ∀ q, s.heap.size ≤ q → A q) (hw : wS D A s.heap (Wf M0) H locs) (hl : ls.size = nL) {sa sv : Nat} {bs : List Int} (hST : ST A s s.heap sa sv bs) {Rf : Mem → Prop} {Q1 : Int → Mem → Prop} {y : MethodName} {b : ByteArray} {mL n lev : Nat} {ret : Option FieldType} {As : List Value} {st0 : List Value} (M : Met l y (lw_w y b mL ret) (rmk lev 0 0) (tPc D τ sA sV (Wf M0) H.size sa sv bs (.ref a :: As)) (gQi D (EQi Wf Rf Q1) (va_A (Wf M0) H.size)) 0 0 (va_A (Wf M0) H.size)) (K : KV y b mL ret n) (hlk : Cond.methodLink own index y ∈ lw_good) {q0 ci : Nat} {fs : List Value} {T : u_T} {N : Nat} (hci : vwCl[ci]? = some (y.cls, T, N)) (hq0 : (Wf M0)[q0]? = some (a, .inr (ci, fs))) (hst : st0 = As.reverse ++ .ref a :: rest) (hn : As.length = n) (hcat : (rest.map fun v => v.category).sum ≤ 8) (hroom : lev + 1 ≤ R.frames ∧ 8 + (mL + 11) + 64 * lev ≤ R.locals) (hcs : cells ≤ R.cells ∧ slots ≤ R.slots) (hd : decode cc pc = .ok (.invokevirtual index, 3)) (kk : ∀ (z : Int) (M : Mem) (H : Heap) (locs : List Loc), iR z → Rf M → Q1 z M → wS D A s.heap (Wf M) H locs → W p l e R s m args below meth c H locs cells slots Q (F0 m (pc + 3) ls (.int (iI z) :: rest))) : W p l e R s m args below meth c H locs cells slots Q (F0 m pc ls st0) := by
  have hWQ' := hWQ
  obtain ⟨N', hN', hnd'⟩ := hWQ'
  have hp := pick_all (Wf M0)
  rw [hN'] at hp
  exact k_tcViH hWQ hx hb hml hC hLS hA hw hl (hST.down hA hw (List.range N') hp) M K hlk hci hq0 hst hn hcat hroom hcs hd kk
end RT2
end
